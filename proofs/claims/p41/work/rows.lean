section
-- ===== PART A: goes FIRST, ahead of the names: the tables' words, and 'selects' of the private methods out of them =====
/-- a private method of a class that the tables say can be made, by its rows of tables_1 -/
def lw_okq (q : MethodName × Nat) : Prop := (q.1.cls ≠ "java/lang/invoke/MethodHandle" ∧ q.1.cls ≠ "java/lang/invoke/VarHandle") ∧ Cond.instantiable q.1.cls q.2 ∈ tables_1 ∧ Cond.privateMethod q.1 ∈ tables_1 ∧ Cond.instanceMethod q.1 ∈ tables_1
theorem lw_p0 : lw_okq (⟨"HandsAlike", "canRead", "(II)Z"⟩, 20) := ⟨⟨by decide +kernel, by decide +kernel⟩, List.mem_of_getElem? (i := 20) (by decide +kernel), List.mem_of_getElem? (i := 362) (by decide +kernel), List.mem_of_getElem? (i := 363) (by decide +kernel)⟩
theorem lw_p1 : lw_okq (⟨"HandsAlike$Law", "readExpression", "(LHandsAlike$Reader;I)V"⟩, 9) := ⟨⟨by decide +kernel, by decide +kernel⟩, List.mem_of_getElem? (i := 197) (by decide +kernel), List.mem_of_getElem? (i := 472) (by decide +kernel), List.mem_of_getElem? (i := 473) (by decide +kernel)⟩
theorem lw_p2 : lw_okq (⟨"HandsAlike$Law", "readFactor", "(LHandsAlike$Reader;I)V"⟩, 9) := ⟨⟨by decide +kernel, by decide +kernel⟩, List.mem_of_getElem? (i := 197) (by decide +kernel), List.mem_of_getElem? (i := 476) (by decide +kernel), List.mem_of_getElem? (i := 477) (by decide +kernel)⟩
theorem lw_p3 : lw_okq (⟨"HandsAlike$Law", "addStep", "(II)I"⟩, 9) := ⟨⟨by decide +kernel, by decide +kernel⟩, List.mem_of_getElem? (i := 197) (by decide +kernel), List.mem_of_getElem? (i := 491) (by decide +kernel), List.mem_of_getElem? (i := 492) (by decide +kernel)⟩
theorem lw_p4 : lw_okq (⟨"HandsAlike$Law", "readCondition", "(LHandsAlike$Reader;I)V"⟩, 9) := ⟨⟨by decide +kernel, by decide +kernel⟩, List.mem_of_getElem? (i := 197) (by decide +kernel), List.mem_of_getElem? (i := 499) (by decide +kernel), List.mem_of_getElem? (i := 500) (by decide +kernel)⟩
theorem lw_p5 : lw_okq (⟨"HandsAlike$Law", "readTest", "(LHandsAlike$Reader;I)V"⟩, 9) := ⟨⟨by decide +kernel, by decide +kernel⟩, List.mem_of_getElem? (i := 197) (by decide +kernel), List.mem_of_getElem? (i := 503) (by decide +kernel), List.mem_of_getElem? (i := 504) (by decide +kernel)⟩
theorem lw_p6 : lw_okq (⟨"HandsAlike$Law", "land", "(I)V"⟩, 9) := ⟨⟨by decide +kernel, by decide +kernel⟩, List.mem_of_getElem? (i := 197) (by decide +kernel), List.mem_of_getElem? (i := 507) (by decide +kernel), List.mem_of_getElem? (i := 508) (by decide +kernel)⟩
theorem lw_p7 : lw_okq (⟨"HandsAlike$Clocks", "readLine", "(LHandsAlike$Reader;I)V"⟩, 7) := ⟨⟨by decide +kernel, by decide +kernel⟩, List.mem_of_getElem? (i := 151) (by decide +kernel), List.mem_of_getElem? (i := 539) (by decide +kernel), List.mem_of_getElem? (i := 540) (by decide +kernel)⟩
theorem lw_p8 : lw_okq (⟨"HandsAlike$Clocks", "copyClock", "(ILHandsAlike$Clocks;)V"⟩, 7) := ⟨⟨by decide +kernel, by decide +kernel⟩, List.mem_of_getElem? (i := 151) (by decide +kernel), List.mem_of_getElem? (i := 560) (by decide +kernel), List.mem_of_getElem? (i := 561) (by decide +kernel)⟩
theorem lw_p9 : lw_okq (⟨"HandsAlike$Book", "readRest", "(LHandsAlike$Reader;I)V"⟩, 6) := ⟨⟨by decide +kernel, by decide +kernel⟩, List.mem_of_getElem? (i := 232) (by decide +kernel), List.mem_of_getElem? (i := 576) (by decide +kernel), List.mem_of_getElem? (i := 577) (by decide +kernel)⟩
theorem lw_p10 : lw_okq (⟨"HandsAlike$Dial", "manyAt", "(II)I"⟩, 2) := ⟨⟨by decide +kernel, by decide +kernel⟩, List.mem_of_getElem? (i := 28) (by decide +kernel), List.mem_of_getElem? (i := 610) (by decide +kernel), List.mem_of_getElem? (i := 611) (by decide +kernel)⟩
theorem lw_p11 : lw_okq (⟨"HandsAlike$Looks", "listAlikes", "(I)I"⟩, 2) := ⟨⟨by decide +kernel, by decide +kernel⟩, List.mem_of_getElem? (i := 46) (by decide +kernel), List.mem_of_getElem? (i := 622) (by decide +kernel), List.mem_of_getElem? (i := 623) (by decide +kernel)⟩
theorem lw_p12 : lw_okq (⟨"HandsAlike$Dial", "listOrdered", "(II[II)I"⟩, 2) := ⟨⟨by decide +kernel, by decide +kernel⟩, List.mem_of_getElem? (i := 28) (by decide +kernel), List.mem_of_getElem? (i := 632) (by decide +kernel), List.mem_of_getElem? (i := 633) (by decide +kernel)⟩
theorem lw_p13 : lw_okq (⟨"HandsAlike$Looks", "isOwnMirror", "(I)Z"⟩, 2) := ⟨⟨by decide +kernel, by decide +kernel⟩, List.mem_of_getElem? (i := 46) (by decide +kernel), List.mem_of_getElem? (i := 679) (by decide +kernel), List.mem_of_getElem? (i := 680) (by decide +kernel)⟩
theorem lw_p14 : lw_okq (⟨"HandsAlike", "findBestTurns", "(I)I"⟩, 20) := ⟨⟨by decide +kernel, by decide +kernel⟩, List.mem_of_getElem? (i := 20) (by decide +kernel), List.mem_of_getElem? (i := 692) (by decide +kernel), List.mem_of_getElem? (i := 693) (by decide +kernel)⟩
theorem lw_p15 : lw_okq (⟨"HandsAlike$Looks", "tellsBehind", "(III)Z"⟩, 2) := ⟨⟨by decide +kernel, by decide +kernel⟩, List.mem_of_getElem? (i := 46) (by decide +kernel), List.mem_of_getElem? (i := 736) (by decide +kernel), List.mem_of_getElem? (i := 737) (by decide +kernel)⟩
def lw_privs_1 : List (MethodName × Nat) := [(⟨"HandsAlike", "canRead", "(II)Z"⟩, 20), (⟨"HandsAlike$Law", "readExpression", "(LHandsAlike$Reader;I)V"⟩, 9), (⟨"HandsAlike$Law", "readFactor", "(LHandsAlike$Reader;I)V"⟩, 9), (⟨"HandsAlike$Law", "addStep", "(II)I"⟩, 9), (⟨"HandsAlike$Law", "readCondition", "(LHandsAlike$Reader;I)V"⟩, 9), (⟨"HandsAlike$Law", "readTest", "(LHandsAlike$Reader;I)V"⟩, 9), (⟨"HandsAlike$Law", "land", "(I)V"⟩, 9), (⟨"HandsAlike$Clocks", "readLine", "(LHandsAlike$Reader;I)V"⟩, 7), (⟨"HandsAlike$Clocks", "copyClock", "(ILHandsAlike$Clocks;)V"⟩, 7), (⟨"HandsAlike$Book", "readRest", "(LHandsAlike$Reader;I)V"⟩, 6), (⟨"HandsAlike$Dial", "manyAt", "(II)I"⟩, 2), (⟨"HandsAlike$Looks", "listAlikes", "(I)I"⟩, 2), (⟨"HandsAlike$Dial", "listOrdered", "(II[II)I"⟩, 2), (⟨"HandsAlike$Looks", "isOwnMirror", "(I)Z"⟩, 2), (⟨"HandsAlike", "findBestTurns", "(I)I"⟩, 20), (⟨"HandsAlike$Looks", "tellsBehind", "(III)Z"⟩, 2)]
theorem lw_r1 : ∀ q ∈ lw_privs_1, lw_okq q := List.forall_mem_cons.mpr ⟨lw_p0, List.forall_mem_cons.mpr ⟨lw_p1, List.forall_mem_cons.mpr ⟨lw_p2, List.forall_mem_cons.mpr ⟨lw_p3, List.forall_mem_cons.mpr ⟨lw_p4, List.forall_mem_cons.mpr ⟨lw_p5, List.forall_mem_cons.mpr ⟨lw_p6, List.forall_mem_cons.mpr ⟨lw_p7, List.forall_mem_cons.mpr ⟨lw_p8, List.forall_mem_cons.mpr ⟨lw_p9, List.forall_mem_cons.mpr ⟨lw_p10, List.forall_mem_cons.mpr ⟨lw_p11, List.forall_mem_cons.mpr ⟨lw_p12, List.forall_mem_cons.mpr ⟨lw_p13, List.forall_mem_cons.mpr ⟨lw_p14, List.forall_mem_cons.mpr ⟨lw_p15, fun _ h => absurd h List.not_mem_nil⟩⟩⟩⟩⟩⟩⟩⟩⟩⟩⟩⟩⟩⟩⟩⟩
theorem lw_p16 : lw_okq (⟨"HandsAlike$Album", "countSince", "()V"⟩, 9) := ⟨⟨by decide +kernel, by decide +kernel⟩, List.mem_of_getElem? (i := 70) (by decide +kernel), List.mem_of_getElem? (i := 783) (by decide +kernel), List.mem_of_getElem? (i := 784) (by decide +kernel)⟩
theorem lw_p17 : lw_okq (⟨"HandsAlike$Album", "follows", "(II)Z"⟩, 9) := ⟨⟨by decide +kernel, by decide +kernel⟩, List.mem_of_getElem? (i := 70) (by decide +kernel), List.mem_of_getElem? (i := 787) (by decide +kernel), List.mem_of_getElem? (i := 788) (by decide +kernel)⟩
theorem lw_p18 : lw_okq (⟨"HandsAlike$Album", "countTill", "()V"⟩, 9) := ⟨⟨by decide +kernel, by decide +kernel⟩, List.mem_of_getElem? (i := 70) (by decide +kernel), List.mem_of_getElem? (i := 800) (by decide +kernel), List.mem_of_getElem? (i := 801) (by decide +kernel)⟩
theorem lw_p19 : lw_okq (⟨"HandsAlike$Album", "countOrdersFrom", "(II)V"⟩, 9) := ⟨⟨by decide +kernel, by decide +kernel⟩, List.mem_of_getElem? (i := 70) (by decide +kernel), List.mem_of_getElem? (i := 812) (by decide +kernel), List.mem_of_getElem? (i := 813) (by decide +kernel)⟩
theorem lw_p20 : lw_okq (⟨"HandsAlike$Album", "ordersBehind", "(III)J"⟩, 9) := ⟨⟨by decide +kernel, by decide +kernel⟩, List.mem_of_getElem? (i := 70) (by decide +kernel), List.mem_of_getElem? (i := 816) (by decide +kernel), List.mem_of_getElem? (i := 817) (by decide +kernel)⟩
theorem lw_p21 : lw_okq (⟨"HandsAlike$Album", "ordersFrom", "(I)J"⟩, 9) := ⟨⟨by decide +kernel, by decide +kernel⟩, List.mem_of_getElem? (i := 70) (by decide +kernel), List.mem_of_getElem? (i := 827) (by decide +kernel), List.mem_of_getElem? (i := 828) (by decide +kernel)⟩
theorem lw_p22 : lw_okq (⟨"HandsAlike$Bells", "strikesMany", "(Z)I"⟩, 1) := ⟨⟨by decide +kernel, by decide +kernel⟩, List.mem_of_getElem? (i := 60) (by decide +kernel), List.mem_of_getElem? (i := 843) (by decide +kernel), List.mem_of_getElem? (i := 844) (by decide +kernel)⟩
theorem lw_p23 : lw_okq (⟨"HandsAlike$Bells", "strokesOf", "(IZ)I"⟩, 1) := ⟨⟨by decide +kernel, by decide +kernel⟩, List.mem_of_getElem? (i := 60) (by decide +kernel), List.mem_of_getElem? (i := 890) (by decide +kernel), List.mem_of_getElem? (i := 891) (by decide +kernel)⟩
theorem lw_p24 : lw_okq (⟨"HandsAlike$Bells", "allUnlike", "(IZ)Z"⟩, 1) := ⟨⟨by decide +kernel, by decide +kernel⟩, List.mem_of_getElem? (i := 60) (by decide +kernel), List.mem_of_getElem? (i := 915) (by decide +kernel), List.mem_of_getElem? (i := 916) (by decide +kernel)⟩
theorem lw_p25 : lw_okq (⟨"HandsAlike$Bells", "soundSame", "(IIIZ)Z"⟩, 1) := ⟨⟨by decide +kernel, by decide +kernel⟩, List.mem_of_getElem? (i := 60) (by decide +kernel), List.mem_of_getElem? (i := 919) (by decide +kernel), List.mem_of_getElem? (i := 920) (by decide +kernel)⟩
theorem lw_p26 : lw_okq (⟨"HandsAlike", "countWheels", "(III)I"⟩, 20) := ⟨⟨by decide +kernel, by decide +kernel⟩, List.mem_of_getElem? (i := 20) (by decide +kernel), List.mem_of_getElem? (i := 939) (by decide +kernel), List.mem_of_getElem? (i := 940) (by decide +kernel)⟩
theorem lw_p27 : lw_okq (⟨"HandsAlike$Clocks", "showSame", "(IIZI)Z"⟩, 7) := ⟨⟨by decide +kernel, by decide +kernel⟩, List.mem_of_getElem? (i := 151) (by decide +kernel), List.mem_of_getElem? (i := 986) (by decide +kernel), List.mem_of_getElem? (i := 987) (by decide +kernel)⟩
theorem lw_p28 : lw_okq (⟨"HandsAlike$Clocks", "allSame", "(I)Z"⟩, 7) := ⟨⟨by decide +kernel, by decide +kernel⟩, List.mem_of_getElem? (i := 151) (by decide +kernel), List.mem_of_getElem? (i := 1008) (by decide +kernel), List.mem_of_getElem? (i := 1009) (by decide +kernel)⟩
theorem lw_p29 : lw_okq (⟨"HandsAlike$Clocks", "reach", "(II)I"⟩, 7) := ⟨⟨by decide +kernel, by decide +kernel⟩, List.mem_of_getElem? (i := 151) (by decide +kernel), List.mem_of_getElem? (i := 1058) (by decide +kernel), List.mem_of_getElem? (i := 1059) (by decide +kernel)⟩
theorem lw_p30 : lw_okq (⟨"HandsAlike", "passDays", "(LHandsAlike$Clocks;I)I"⟩, 20) := ⟨⟨by decide +kernel, by decide +kernel⟩, List.mem_of_getElem? (i := 20) (by decide +kernel), List.mem_of_getElem? (i := 1132) (by decide +kernel), List.mem_of_getElem? (i := 1133) (by decide +kernel)⟩
theorem lw_p31 : lw_okq (⟨"HandsAlike", "passDay", "(LHandsAlike$Clocks;)I"⟩, 20) := ⟨⟨by decide +kernel, by decide +kernel⟩, List.mem_of_getElem? (i := 20) (by decide +kernel), List.mem_of_getElem? (i := 1136) (by decide +kernel), List.mem_of_getElem? (i := 1137) (by decide +kernel)⟩
def lw_privs_2 : List (MethodName × Nat) := [(⟨"HandsAlike$Album", "countSince", "()V"⟩, 9), (⟨"HandsAlike$Album", "follows", "(II)Z"⟩, 9), (⟨"HandsAlike$Album", "countTill", "()V"⟩, 9), (⟨"HandsAlike$Album", "countOrdersFrom", "(II)V"⟩, 9), (⟨"HandsAlike$Album", "ordersBehind", "(III)J"⟩, 9), (⟨"HandsAlike$Album", "ordersFrom", "(I)J"⟩, 9), (⟨"HandsAlike$Bells", "strikesMany", "(Z)I"⟩, 1), (⟨"HandsAlike$Bells", "strokesOf", "(IZ)I"⟩, 1), (⟨"HandsAlike$Bells", "allUnlike", "(IZ)Z"⟩, 1), (⟨"HandsAlike$Bells", "soundSame", "(IIIZ)Z"⟩, 1), (⟨"HandsAlike", "countWheels", "(III)I"⟩, 20), (⟨"HandsAlike$Clocks", "showSame", "(IIZI)Z"⟩, 7), (⟨"HandsAlike$Clocks", "allSame", "(I)Z"⟩, 7), (⟨"HandsAlike$Clocks", "reach", "(II)I"⟩, 7), (⟨"HandsAlike", "passDays", "(LHandsAlike$Clocks;I)I"⟩, 20), (⟨"HandsAlike", "passDay", "(LHandsAlike$Clocks;)I"⟩, 20)]
theorem lw_r2 : ∀ q ∈ lw_privs_2, lw_okq q := List.forall_mem_cons.mpr ⟨lw_p16, List.forall_mem_cons.mpr ⟨lw_p17, List.forall_mem_cons.mpr ⟨lw_p18, List.forall_mem_cons.mpr ⟨lw_p19, List.forall_mem_cons.mpr ⟨lw_p20, List.forall_mem_cons.mpr ⟨lw_p21, List.forall_mem_cons.mpr ⟨lw_p22, List.forall_mem_cons.mpr ⟨lw_p23, List.forall_mem_cons.mpr ⟨lw_p24, List.forall_mem_cons.mpr ⟨lw_p25, List.forall_mem_cons.mpr ⟨lw_p26, List.forall_mem_cons.mpr ⟨lw_p27, List.forall_mem_cons.mpr ⟨lw_p28, List.forall_mem_cons.mpr ⟨lw_p29, List.forall_mem_cons.mpr ⟨lw_p30, List.forall_mem_cons.mpr ⟨lw_p31, fun _ h => absurd h List.not_mem_nil⟩⟩⟩⟩⟩⟩⟩⟩⟩⟩⟩⟩⟩⟩⟩⟩
theorem lw_p32 : lw_okq (⟨"HandsAlike", "passDayOf", "(ILHandsAlike$Clocks;)Z"⟩, 20) := ⟨⟨by decide +kernel, by decide +kernel⟩, List.mem_of_getElem? (i := 20) (by decide +kernel), List.mem_of_getElem? (i := 1140) (by decide +kernel), List.mem_of_getElem? (i := 1141) (by decide +kernel)⟩
theorem lw_p33 : lw_okq (⟨"HandsAlike$Clocks", "othersAsMuchAhead", "(I)I"⟩, 7) := ⟨⟨by decide +kernel, by decide +kernel⟩, List.mem_of_getElem? (i := 151) (by decide +kernel), List.mem_of_getElem? (i := 1153) (by decide +kernel), List.mem_of_getElem? (i := 1154) (by decide +kernel)⟩
theorem lw_p34 : lw_okq (⟨"HandsAlike$Law", "work", "(I[I)I"⟩, 9) := ⟨⟨by decide +kernel, by decide +kernel⟩, List.mem_of_getElem? (i := 197) (by decide +kernel), List.mem_of_getElem? (i := 1161) (by decide +kernel), List.mem_of_getElem? (i := 1162) (by decide +kernel)⟩
theorem lw_p35 : lw_okq (⟨"HandsAlike$Law", "reckon", "(III)I"⟩, 9) := ⟨⟨by decide +kernel, by decide +kernel⟩, List.mem_of_getElem? (i := 197) (by decide +kernel), List.mem_of_getElem? (i := 1169) (by decide +kernel), List.mem_of_getElem? (i := 1170) (by decide +kernel)⟩
theorem lw_p36 : lw_okq (⟨"HandsAlikeModel", "laysDial", "(II)V"⟩, 66) := ⟨⟨by decide +kernel, by decide +kernel⟩, List.mem_of_getElem? (i := 1239) (by decide +kernel), List.mem_of_getElem? (i := 1245) (by decide +kernel), List.mem_of_getElem? (i := 1246) (by decide +kernel)⟩
theorem lw_p37 : lw_okq (⟨"HandsAlikeModel", "longAt", "(I)I"⟩, 66) := ⟨⟨by decide +kernel, by decide +kernel⟩, List.mem_of_getElem? (i := 1239) (by decide +kernel), List.mem_of_getElem? (i := 1249) (by decide +kernel), List.mem_of_getElem? (i := 1250) (by decide +kernel)⟩
theorem lw_p38 : lw_okq (⟨"HandsAlikeModel", "shortAt", "(I)I"⟩, 66) := ⟨⟨by decide +kernel, by decide +kernel⟩, List.mem_of_getElem? (i := 1239) (by decide +kernel), List.mem_of_getElem? (i := 1253) (by decide +kernel), List.mem_of_getElem? (i := 1254) (by decide +kernel)⟩
theorem lw_p39 : lw_okq (⟨"HandsAlikeModel", "isTime", "(I)Z"⟩, 66) := ⟨⟨by decide +kernel, by decide +kernel⟩, List.mem_of_getElem? (i := 1239) (by decide +kernel), List.mem_of_getElem? (i := 1476) (by decide +kernel), List.mem_of_getElem? (i := 1477) (by decide +kernel)⟩
theorem lw_p40 : lw_okq (⟨"HandsAlikeModel", "nextAlike", "(I)I"⟩, 66) := ⟨⟨by decide +kernel, by decide +kernel⟩, List.mem_of_getElem? (i := 1239) (by decide +kernel), List.mem_of_getElem? (i := 1480) (by decide +kernel), List.mem_of_getElem? (i := 1481) (by decide +kernel)⟩
theorem lw_p41 : lw_okq (⟨"HandsAlikeModel", "inMirror", "(I)I"⟩, 66) := ⟨⟨by decide +kernel, by decide +kernel⟩, List.mem_of_getElem? (i := 1239) (by decide +kernel), List.mem_of_getElem? (i := 1484) (by decide +kernel), List.mem_of_getElem? (i := 1485) (by decide +kernel)⟩
theorem lw_p42 : lw_okq (⟨"HandsAlikeModel", "lowestOf", "(I)I"⟩, 66) := ⟨⟨by decide +kernel, by decide +kernel⟩, List.mem_of_getElem? (i := 1239) (by decide +kernel), List.mem_of_getElem? (i := 1488) (by decide +kernel), List.mem_of_getElem? (i := 1489) (by decide +kernel)⟩
theorem lw_p43 : lw_okq (⟨"HandsAlikeModel", "untoldBy", "(II)I"⟩, 66) := ⟨⟨by decide +kernel, by decide +kernel⟩, List.mem_of_getElem? (i := 1239) (by decide +kernel), List.mem_of_getElem? (i := 1513) (by decide +kernel), List.mem_of_getElem? (i := 1514) (by decide +kernel)⟩
theorem lw_p44 : lw_okq (⟨"HandsAlikeModel", "untoldMany", "()I"⟩, 66) := ⟨⟨by decide +kernel, by decide +kernel⟩, List.mem_of_getElem? (i := 1239) (by decide +kernel), List.mem_of_getElem? (i := 1521) (by decide +kernel), List.mem_of_getElem? (i := 1522) (by decide +kernel)⟩
theorem lw_p45 : lw_okq (⟨"HandsAlikeModel", "canBeTold", "(I)Z"⟩, 66) := ⟨⟨by decide +kernel, by decide +kernel⟩, List.mem_of_getElem? (i := 1239) (by decide +kernel), List.mem_of_getElem? (i := 1525) (by decide +kernel), List.mem_of_getElem? (i := 1526) (by decide +kernel)⟩
theorem lw_p46 : lw_okq (⟨"HandsAlikeModel", "firstUntold", "()I"⟩, 66) := ⟨⟨by decide +kernel, by decide +kernel⟩, List.mem_of_getElem? (i := 1239) (by decide +kernel), List.mem_of_getElem? (i := 1529) (by decide +kernel), List.mem_of_getElem? (i := 1530) (by decide +kernel)⟩
theorem lw_p47 : lw_okq (⟨"HandsAlikeModel", "longestRow", "(Z)I"⟩, 66) := ⟨⟨by decide +kernel, by decide +kernel⟩, List.mem_of_getElem? (i := 1239) (by decide +kernel), List.mem_of_getElem? (i := 1533) (by decide +kernel), List.mem_of_getElem? (i := 1534) (by decide +kernel)⟩
def lw_privs_3 : List (MethodName × Nat) := [(⟨"HandsAlike", "passDayOf", "(ILHandsAlike$Clocks;)Z"⟩, 20), (⟨"HandsAlike$Clocks", "othersAsMuchAhead", "(I)I"⟩, 7), (⟨"HandsAlike$Law", "work", "(I[I)I"⟩, 9), (⟨"HandsAlike$Law", "reckon", "(III)I"⟩, 9), (⟨"HandsAlikeModel", "laysDial", "(II)V"⟩, 66), (⟨"HandsAlikeModel", "longAt", "(I)I"⟩, 66), (⟨"HandsAlikeModel", "shortAt", "(I)I"⟩, 66), (⟨"HandsAlikeModel", "isTime", "(I)Z"⟩, 66), (⟨"HandsAlikeModel", "nextAlike", "(I)I"⟩, 66), (⟨"HandsAlikeModel", "inMirror", "(I)I"⟩, 66), (⟨"HandsAlikeModel", "lowestOf", "(I)I"⟩, 66), (⟨"HandsAlikeModel", "untoldBy", "(II)I"⟩, 66), (⟨"HandsAlikeModel", "untoldMany", "()I"⟩, 66), (⟨"HandsAlikeModel", "canBeTold", "(I)Z"⟩, 66), (⟨"HandsAlikeModel", "firstUntold", "()I"⟩, 66), (⟨"HandsAlikeModel", "longestRow", "(Z)I"⟩, 66)]
theorem lw_r3 : ∀ q ∈ lw_privs_3, lw_okq q := List.forall_mem_cons.mpr ⟨lw_p32, List.forall_mem_cons.mpr ⟨lw_p33, List.forall_mem_cons.mpr ⟨lw_p34, List.forall_mem_cons.mpr ⟨lw_p35, List.forall_mem_cons.mpr ⟨lw_p36, List.forall_mem_cons.mpr ⟨lw_p37, List.forall_mem_cons.mpr ⟨lw_p38, List.forall_mem_cons.mpr ⟨lw_p39, List.forall_mem_cons.mpr ⟨lw_p40, List.forall_mem_cons.mpr ⟨lw_p41, List.forall_mem_cons.mpr ⟨lw_p42, List.forall_mem_cons.mpr ⟨lw_p43, List.forall_mem_cons.mpr ⟨lw_p44, List.forall_mem_cons.mpr ⟨lw_p45, List.forall_mem_cons.mpr ⟨lw_p46, List.forall_mem_cons.mpr ⟨lw_p47, fun _ h => absurd h List.not_mem_nil⟩⟩⟩⟩⟩⟩⟩⟩⟩⟩⟩⟩⟩⟩⟩⟩
theorem lw_p48 : lw_okq (⟨"HandsAlikeModel", "tells", "(II)Z"⟩, 66) := ⟨⟨by decide +kernel, by decide +kernel⟩, List.mem_of_getElem? (i := 1239) (by decide +kernel), List.mem_of_getElem? (i := 1545) (by decide +kernel), List.mem_of_getElem? (i := 1546) (by decide +kernel)⟩
theorem lw_p49 : lw_okq (⟨"HandsAlikeModel", "types", "(I)V"⟩, 66) := ⟨⟨by decide +kernel, by decide +kernel⟩, List.mem_of_getElem? (i := 1239) (by decide +kernel), List.mem_of_getElem? (i := 1561) (by decide +kernel), List.mem_of_getElem? (i := 1562) (by decide +kernel)⟩
theorem lw_p50 : lw_okq (⟨"HandsAlikeModel", "beginsText", "(I)V"⟩, 66) := ⟨⟨by decide +kernel, by decide +kernel⟩, List.mem_of_getElem? (i := 1239) (by decide +kernel), List.mem_of_getElem? (i := 1569) (by decide +kernel), List.mem_of_getElem? (i := 1570) (by decide +kernel)⟩
theorem lw_p51 : lw_okq (⟨"HandsAlikeModel", "readsRule", "()Z"⟩, 66) := ⟨⟨by decide +kernel, by decide +kernel⟩, List.mem_of_getElem? (i := 1239) (by decide +kernel), List.mem_of_getElem? (i := 1573) (by decide +kernel), List.mem_of_getElem? (i := 1574) (by decide +kernel)⟩
theorem lw_p52 : lw_okq (⟨"HandsAlikeModel", "here", "()I"⟩, 66) := ⟨⟨by decide +kernel, by decide +kernel⟩, List.mem_of_getElem? (i := 1239) (by decide +kernel), List.mem_of_getElem? (i := 1577) (by decide +kernel), List.mem_of_getElem? (i := 1578) (by decide +kernel)⟩
theorem lw_p53 : lw_okq (⟨"HandsAlikeModel", "wrongAt", "(II)Z"⟩, 66) := ⟨⟨by decide +kernel, by decide +kernel⟩, List.mem_of_getElem? (i := 1239) (by decide +kernel), List.mem_of_getElem? (i := 1581) (by decide +kernel), List.mem_of_getElem? (i := 1582) (by decide +kernel)⟩
theorem lw_p54 : lw_okq (⟨"HandsAlikeModel", "readsSum", "()Z"⟩, 66) := ⟨⟨by decide +kernel, by decide +kernel⟩, List.mem_of_getElem? (i := 1239) (by decide +kernel), List.mem_of_getElem? (i := 1585) (by decide +kernel), List.mem_of_getElem? (i := 1586) (by decide +kernel)⟩
theorem lw_p55 : lw_okq (⟨"HandsAlikeModel", "readsFactor", "()Z"⟩, 66) := ⟨⟨by decide +kernel, by decide +kernel⟩, List.mem_of_getElem? (i := 1239) (by decide +kernel), List.mem_of_getElem? (i := 1589) (by decide +kernel), List.mem_of_getElem? (i := 1590) (by decide +kernel)⟩
theorem lw_p56 : lw_okq (⟨"HandsAlikeModel", "opens", "(I)Z"⟩, 66) := ⟨⟨by decide +kernel, by decide +kernel⟩, List.mem_of_getElem? (i := 1239) (by decide +kernel), List.mem_of_getElem? (i := 1593) (by decide +kernel), List.mem_of_getElem? (i := 1594) (by decide +kernel)⟩
theorem lw_p57 : lw_okq (⟨"HandsAlikeModel", "isDigit", "()Z"⟩, 66) := ⟨⟨by decide +kernel, by decide +kernel⟩, List.mem_of_getElem? (i := 1239) (by decide +kernel), List.mem_of_getElem? (i := 1598) (by decide +kernel), List.mem_of_getElem? (i := 1599) (by decide +kernel)⟩
theorem lw_p58 : lw_okq (⟨"HandsAlikeModel", "readsNumber", "()Z"⟩, 66) := ⟨⟨by decide +kernel, by decide +kernel⟩, List.mem_of_getElem? (i := 1239) (by decide +kernel), List.mem_of_getElem? (i := 1602) (by decide +kernel), List.mem_of_getElem? (i := 1603) (by decide +kernel)⟩
theorem lw_p59 : lw_okq (⟨"HandsAlikeModel", "notes", "(II)V"⟩, 66) := ⟨⟨by decide +kernel, by decide +kernel⟩, List.mem_of_getElem? (i := 1239) (by decide +kernel), List.mem_of_getElem? (i := 1606) (by decide +kernel), List.mem_of_getElem? (i := 1607) (by decide +kernel)⟩
theorem lw_p60 : lw_okq (⟨"HandsAlikeModel", "closesSums", "(Z)V"⟩, 66) := ⟨⟨by decide +kernel, by decide +kernel⟩, List.mem_of_getElem? (i := 1239) (by decide +kernel), List.mem_of_getElem? (i := 1616) (by decide +kernel), List.mem_of_getElem? (i := 1617) (by decide +kernel)⟩
theorem lw_p61 : lw_okq (⟨"HandsAlikeModel", "waitTop", "()I"⟩, 66) := ⟨⟨by decide +kernel, by decide +kernel⟩, List.mem_of_getElem? (i := 1239) (by decide +kernel), List.mem_of_getElem? (i := 1620) (by decide +kernel), List.mem_of_getElem? (i := 1621) (by decide +kernel)⟩
theorem lw_p62 : lw_okq (⟨"HandsAlikeModel", "hasOpenSum", "(I)Z"⟩, 66) := ⟨⟨by decide +kernel, by decide +kernel⟩, List.mem_of_getElem? (i := 1239) (by decide +kernel), List.mem_of_getElem? (i := 1624) (by decide +kernel), List.mem_of_getElem? (i := 1625) (by decide +kernel)⟩
theorem lw_p63 : lw_okq (⟨"HandsAlikeModel", "readsCondition", "()Z"⟩, 66) := ⟨⟨by decide +kernel, by decide +kernel⟩, List.mem_of_getElem? (i := 1239) (by decide +kernel), List.mem_of_getElem? (i := 1628) (by decide +kernel), List.mem_of_getElem? (i := 1629) (by decide +kernel)⟩
def lw_privs_4 : List (MethodName × Nat) := [(⟨"HandsAlikeModel", "tells", "(II)Z"⟩, 66), (⟨"HandsAlikeModel", "types", "(I)V"⟩, 66), (⟨"HandsAlikeModel", "beginsText", "(I)V"⟩, 66), (⟨"HandsAlikeModel", "readsRule", "()Z"⟩, 66), (⟨"HandsAlikeModel", "here", "()I"⟩, 66), (⟨"HandsAlikeModel", "wrongAt", "(II)Z"⟩, 66), (⟨"HandsAlikeModel", "readsSum", "()Z"⟩, 66), (⟨"HandsAlikeModel", "readsFactor", "()Z"⟩, 66), (⟨"HandsAlikeModel", "opens", "(I)Z"⟩, 66), (⟨"HandsAlikeModel", "isDigit", "()Z"⟩, 66), (⟨"HandsAlikeModel", "readsNumber", "()Z"⟩, 66), (⟨"HandsAlikeModel", "notes", "(II)V"⟩, 66), (⟨"HandsAlikeModel", "closesSums", "(Z)V"⟩, 66), (⟨"HandsAlikeModel", "waitTop", "()I"⟩, 66), (⟨"HandsAlikeModel", "hasOpenSum", "(I)Z"⟩, 66), (⟨"HandsAlikeModel", "readsCondition", "()Z"⟩, 66)]
theorem lw_r4 : ∀ q ∈ lw_privs_4, lw_okq q := List.forall_mem_cons.mpr ⟨lw_p48, List.forall_mem_cons.mpr ⟨lw_p49, List.forall_mem_cons.mpr ⟨lw_p50, List.forall_mem_cons.mpr ⟨lw_p51, List.forall_mem_cons.mpr ⟨lw_p52, List.forall_mem_cons.mpr ⟨lw_p53, List.forall_mem_cons.mpr ⟨lw_p54, List.forall_mem_cons.mpr ⟨lw_p55, List.forall_mem_cons.mpr ⟨lw_p56, List.forall_mem_cons.mpr ⟨lw_p57, List.forall_mem_cons.mpr ⟨lw_p58, List.forall_mem_cons.mpr ⟨lw_p59, List.forall_mem_cons.mpr ⟨lw_p60, List.forall_mem_cons.mpr ⟨lw_p61, List.forall_mem_cons.mpr ⟨lw_p62, List.forall_mem_cons.mpr ⟨lw_p63, fun _ h => absurd h List.not_mem_nil⟩⟩⟩⟩⟩⟩⟩⟩⟩⟩⟩⟩⟩⟩⟩⟩
theorem lw_p64 : lw_okq (⟨"HandsAlikeModel", "readsCompared", "()Z"⟩, 66) := ⟨⟨by decide +kernel, by decide +kernel⟩, List.mem_of_getElem? (i := 1239) (by decide +kernel), List.mem_of_getElem? (i := 1632) (by decide +kernel), List.mem_of_getElem? (i := 1633) (by decide +kernel)⟩
theorem lw_p65 : lw_okq (⟨"HandsAlikeModel", "endsPiece", "()V"⟩, 66) := ⟨⟨by decide +kernel, by decide +kernel⟩, List.mem_of_getElem? (i := 1239) (by decide +kernel), List.mem_of_getElem? (i := 1636) (by decide +kernel), List.mem_of_getElem? (i := 1637) (by decide +kernel)⟩
theorem lw_p66 : lw_okq (⟨"HandsAlikeModel", "lands", "(Z)V"⟩, 66) := ⟨⟨by decide +kernel, by decide +kernel⟩, List.mem_of_getElem? (i := 1239) (by decide +kernel), List.mem_of_getElem? (i := 1640) (by decide +kernel), List.mem_of_getElem? (i := 1641) (by decide +kernel)⟩
theorem lw_p67 : lw_okq (⟨"HandsAlikeModel", "jumps", "(I)V"⟩, 66) := ⟨⟨by decide +kernel, by decide +kernel⟩, List.mem_of_getElem? (i := 1239) (by decide +kernel), List.mem_of_getElem? (i := 1644) (by decide +kernel), List.mem_of_getElem? (i := 1645) (by decide +kernel)⟩
theorem lw_p68 : lw_okq (⟨"HandsAlikeModel", "takes", "(I)Z"⟩, 66) := ⟨⟨by decide +kernel, by decide +kernel⟩, List.mem_of_getElem? (i := 1239) (by decide +kernel), List.mem_of_getElem? (i := 1648) (by decide +kernel), List.mem_of_getElem? (i := 1649) (by decide +kernel)⟩
theorem lw_p69 : lw_okq (⟨"HandsAlikeModel", "readsClock", "()Z"⟩, 66) := ⟨⟨by decide +kernel, by decide +kernel⟩, List.mem_of_getElem? (i := 1239) (by decide +kernel), List.mem_of_getElem? (i := 1656) (by decide +kernel), List.mem_of_getElem? (i := 1657) (by decide +kernel)⟩
theorem lw_p70 : lw_okq (⟨"HandsAlikeModel", "readsTime", "()Z"⟩, 66) := ⟨⟨by decide +kernel, by decide +kernel⟩, List.mem_of_getElem? (i := 1239) (by decide +kernel), List.mem_of_getElem? (i := 1663) (by decide +kernel), List.mem_of_getElem? (i := 1664) (by decide +kernel)⟩
theorem lw_p71 : lw_okq (⟨"HandsAlikeModel", "readsAmount", "(I)Z"⟩, 66) := ⟨⟨by decide +kernel, by decide +kernel⟩, List.mem_of_getElem? (i := 1239) (by decide +kernel), List.mem_of_getElem? (i := 1667) (by decide +kernel), List.mem_of_getElem? (i := 1668) (by decide +kernel)⟩
theorem lw_p72 : lw_okq (⟨"HandsAlikeModel", "readsAppointment", "()Z"⟩, 66) := ⟨⟨by decide +kernel, by decide +kernel⟩, List.mem_of_getElem? (i := 1239) (by decide +kernel), List.mem_of_getElem? (i := 1675) (by decide +kernel), List.mem_of_getElem? (i := 1676) (by decide +kernel)⟩
theorem lw_p73 : lw_okq (⟨"HandsAlikeModel", "areMarks", "(I)Z"⟩, 66) := ⟨⟨by decide +kernel, by decide +kernel⟩, List.mem_of_getElem? (i := 1239) (by decide +kernel), List.mem_of_getElem? (i := 1683) (by decide +kernel), List.mem_of_getElem? (i := 1684) (by decide +kernel)⟩
theorem lw_p74 : lw_okq (⟨"HandsAlikeModel", "octet", "(I)I"⟩, 66) := ⟨⟨by decide +kernel, by decide +kernel⟩, List.mem_of_getElem? (i := 1239) (by decide +kernel), List.mem_of_getElem? (i := 1687) (by decide +kernel), List.mem_of_getElem? (i := 1688) (by decide +kernel)⟩
theorem lw_p75 : lw_okq (⟨"HandsAlikeModel", "laysSteps", "(II)V"⟩, 66) := ⟨⟨by decide +kernel, by decide +kernel⟩, List.mem_of_getElem? (i := 1239) (by decide +kernel), List.mem_of_getElem? (i := 1691) (by decide +kernel), List.mem_of_getElem? (i := 1692) (by decide +kernel)⟩
theorem lw_p76 : lw_okq (⟨"HandsAlikeModel", "laysCan", "(I)V"⟩, 66) := ⟨⟨by decide +kernel, by decide +kernel⟩, List.mem_of_getElem? (i := 1239) (by decide +kernel), List.mem_of_getElem? (i := 1695) (by decide +kernel), List.mem_of_getElem? (i := 1696) (by decide +kernel)⟩
theorem lw_p77 : lw_okq (⟨"HandsAlikeModel", "lookIn", "(I)I"⟩, 66) := ⟨⟨by decide +kernel, by decide +kernel⟩, List.mem_of_getElem? (i := 1239) (by decide +kernel), List.mem_of_getElem? (i := 1699) (by decide +kernel), List.mem_of_getElem? (i := 1700) (by decide +kernel)⟩
theorem lw_p78 : lw_okq (⟨"HandsAlikeModel", "comesBy", "(II)Z"⟩, 66) := ⟨⟨by decide +kernel, by decide +kernel⟩, List.mem_of_getElem? (i := 1239) (by decide +kernel), List.mem_of_getElem? (i := 1703) (by decide +kernel), List.mem_of_getElem? (i := 1704) (by decide +kernel)⟩
theorem lw_p79 : lw_okq (⟨"HandsAlikeModel", "goesBy", "(II)Z"⟩, 66) := ⟨⟨by decide +kernel, by decide +kernel⟩, List.mem_of_getElem? (i := 1239) (by decide +kernel), List.mem_of_getElem? (i := 1707) (by decide +kernel), List.mem_of_getElem? (i := 1708) (by decide +kernel)⟩
def lw_privs_5 : List (MethodName × Nat) := [(⟨"HandsAlikeModel", "readsCompared", "()Z"⟩, 66), (⟨"HandsAlikeModel", "endsPiece", "()V"⟩, 66), (⟨"HandsAlikeModel", "lands", "(Z)V"⟩, 66), (⟨"HandsAlikeModel", "jumps", "(I)V"⟩, 66), (⟨"HandsAlikeModel", "takes", "(I)Z"⟩, 66), (⟨"HandsAlikeModel", "readsClock", "()Z"⟩, 66), (⟨"HandsAlikeModel", "readsTime", "()Z"⟩, 66), (⟨"HandsAlikeModel", "readsAmount", "(I)Z"⟩, 66), (⟨"HandsAlikeModel", "readsAppointment", "()Z"⟩, 66), (⟨"HandsAlikeModel", "areMarks", "(I)Z"⟩, 66), (⟨"HandsAlikeModel", "octet", "(I)I"⟩, 66), (⟨"HandsAlikeModel", "laysSteps", "(II)V"⟩, 66), (⟨"HandsAlikeModel", "laysCan", "(I)V"⟩, 66), (⟨"HandsAlikeModel", "lookIn", "(I)I"⟩, 66), (⟨"HandsAlikeModel", "comesBy", "(II)Z"⟩, 66), (⟨"HandsAlikeModel", "goesBy", "(II)Z"⟩, 66)]
theorem lw_r5 : ∀ q ∈ lw_privs_5, lw_okq q := List.forall_mem_cons.mpr ⟨lw_p64, List.forall_mem_cons.mpr ⟨lw_p65, List.forall_mem_cons.mpr ⟨lw_p66, List.forall_mem_cons.mpr ⟨lw_p67, List.forall_mem_cons.mpr ⟨lw_p68, List.forall_mem_cons.mpr ⟨lw_p69, List.forall_mem_cons.mpr ⟨lw_p70, List.forall_mem_cons.mpr ⟨lw_p71, List.forall_mem_cons.mpr ⟨lw_p72, List.forall_mem_cons.mpr ⟨lw_p73, List.forall_mem_cons.mpr ⟨lw_p74, List.forall_mem_cons.mpr ⟨lw_p75, List.forall_mem_cons.mpr ⟨lw_p76, List.forall_mem_cons.mpr ⟨lw_p77, List.forall_mem_cons.mpr ⟨lw_p78, List.forall_mem_cons.mpr ⟨lw_p79, fun _ h => absurd h List.not_mem_nil⟩⟩⟩⟩⟩⟩⟩⟩⟩⟩⟩⟩⟩⟩⟩⟩
theorem lw_p80 : lw_okq (⟨"HandsAlikeModel", "sureOf", "(I)I"⟩, 66) := ⟨⟨by decide +kernel, by decide +kernel⟩, List.mem_of_getElem? (i := 1239) (by decide +kernel), List.mem_of_getElem? (i := 1711) (by decide +kernel), List.mem_of_getElem? (i := 1712) (by decide +kernel)⟩
theorem lw_p81 : lw_okq (⟨"HandsAlikeModel", "beginsWith", "(I)J"⟩, 66) := ⟨⟨by decide +kernel, by decide +kernel⟩, List.mem_of_getElem? (i := 1239) (by decide +kernel), List.mem_of_getElem? (i := 1715) (by decide +kernel), List.mem_of_getElem? (i := 1716) (by decide +kernel)⟩
theorem lw_p82 : lw_okq (⟨"HandsAlikeModel", "goesTo", "(I)J"⟩, 66) := ⟨⟨by decide +kernel, by decide +kernel⟩, List.mem_of_getElem? (i := 1239) (by decide +kernel), List.mem_of_getElem? (i := 1719) (by decide +kernel), List.mem_of_getElem? (i := 1720) (by decide +kernel)⟩
theorem lw_p83 : lw_okq (⟨"HandsAlikeModel", "laysTimes", "(I)V"⟩, 66) := ⟨⟨by decide +kernel, by decide +kernel⟩, List.mem_of_getElem? (i := 1239) (by decide +kernel), List.mem_of_getElem? (i := 1728) (by decide +kernel), List.mem_of_getElem? (i := 1729) (by decide +kernel)⟩
theorem lw_p84 : lw_okq (⟨"HandsAlikeModel", "rowsFrom", "(II)J"⟩, 66) := ⟨⟨by decide +kernel, by decide +kernel⟩, List.mem_of_getElem? (i := 1239) (by decide +kernel), List.mem_of_getElem? (i := 1732) (by decide +kernel), List.mem_of_getElem? (i := 1733) (by decide +kernel)⟩
theorem lw_p85 : lw_okq (⟨"HandsAlikeModel", "rowsInto", "(III)J"⟩, 66) := ⟨⟨by decide +kernel, by decide +kernel⟩, List.mem_of_getElem? (i := 1239) (by decide +kernel), List.mem_of_getElem? (i := 1736) (by decide +kernel), List.mem_of_getElem? (i := 1737) (by decide +kernel)⟩
theorem lw_p86 : lw_okq (⟨"HandsAlikeModel", "strokesAt", "(IZ)I"⟩, 66) := ⟨⟨by decide +kernel, by decide +kernel⟩, List.mem_of_getElem? (i := 1239) (by decide +kernel), List.mem_of_getElem? (i := 1747) (by decide +kernel), List.mem_of_getElem? (i := 1748) (by decide +kernel)⟩
theorem lw_p87 : lw_okq (⟨"HandsAlikeModel", "laysStrikes", "(Z)V"⟩, 66) := ⟨⟨by decide +kernel, by decide +kernel⟩, List.mem_of_getElem? (i := 1239) (by decide +kernel), List.mem_of_getElem? (i := 1755) (by decide +kernel), List.mem_of_getElem? (i := 1756) (by decide +kernel)⟩
theorem lw_p88 : lw_okq (⟨"HandsAlikeModel", "isHeardFrom", "(II)Z"⟩, 66) := ⟨⟨by decide +kernel, by decide +kernel⟩, List.mem_of_getElem? (i := 1239) (by decide +kernel), List.mem_of_getElem? (i := 1767) (by decide +kernel), List.mem_of_getElem? (i := 1768) (by decide +kernel)⟩
theorem lw_p89 : lw_okq (⟨"HandsAlikeModel", "soundAlike", "(III)Z"⟩, 66) := ⟨⟨by decide +kernel, by decide +kernel⟩, List.mem_of_getElem? (i := 1239) (by decide +kernel), List.mem_of_getElem? (i := 1775) (by decide +kernel), List.mem_of_getElem? (i := 1776) (by decide +kernel)⟩
theorem lw_p90 : lw_okq (⟨"HandsAlikeModel", "isClock", "(I)Z"⟩, 66) := ⟨⟨by decide +kernel, by decide +kernel⟩, List.mem_of_getElem? (i := 1239) (by decide +kernel), List.mem_of_getElem? (i := 1792) (by decide +kernel), List.mem_of_getElem? (i := 1793) (by decide +kernel)⟩
theorem lw_p91 : lw_okq (⟨"HandsAlikeModel", "showsAt", "(II)I"⟩, 66) := ⟨⟨by decide +kernel, by decide +kernel⟩, List.mem_of_getElem? (i := 1239) (by decide +kernel), List.mem_of_getElem? (i := 1796) (by decide +kernel), List.mem_of_getElem? (i := 1797) (by decide +kernel)⟩
theorem lw_p92 : lw_okq (⟨"HandsAlikeModel", "rightMany", "(I)I"⟩, 66) := ⟨⟨by decide +kernel, by decide +kernel⟩, List.mem_of_getElem? (i := 1239) (by decide +kernel), List.mem_of_getElem? (i := 1804) (by decide +kernel), List.mem_of_getElem? (i := 1805) (by decide +kernel)⟩
theorem lw_p93 : lw_okq (⟨"HandsAlikeModel", "firstRight", "(I)I"⟩, 66) := ⟨⟨by decide +kernel, by decide +kernel⟩, List.mem_of_getElem? (i := 1239) (by decide +kernel), List.mem_of_getElem? (i := 1808) (by decide +kernel), List.mem_of_getElem? (i := 1809) (by decide +kernel)⟩
theorem lw_p94 : lw_okq (⟨"HandsAlikeModel", "areTwo", "(II)Z"⟩, 66) := ⟨⟨by decide +kernel, by decide +kernel⟩, List.mem_of_getElem? (i := 1239) (by decide +kernel), List.mem_of_getElem? (i := 1816) (by decide +kernel), List.mem_of_getElem? (i := 1817) (by decide +kernel)⟩
theorem lw_p95 : lw_okq (⟨"HandsAlikeModel", "agreeAt", "(IIZI)Z"⟩, 66) := ⟨⟨by decide +kernel, by decide +kernel⟩, List.mem_of_getElem? (i := 1239) (by decide +kernel), List.mem_of_getElem? (i := 1820) (by decide +kernel), List.mem_of_getElem? (i := 1821) (by decide +kernel)⟩
def lw_privs_6 : List (MethodName × Nat) := [(⟨"HandsAlikeModel", "sureOf", "(I)I"⟩, 66), (⟨"HandsAlikeModel", "beginsWith", "(I)J"⟩, 66), (⟨"HandsAlikeModel", "goesTo", "(I)J"⟩, 66), (⟨"HandsAlikeModel", "laysTimes", "(I)V"⟩, 66), (⟨"HandsAlikeModel", "rowsFrom", "(II)J"⟩, 66), (⟨"HandsAlikeModel", "rowsInto", "(III)J"⟩, 66), (⟨"HandsAlikeModel", "strokesAt", "(IZ)I"⟩, 66), (⟨"HandsAlikeModel", "laysStrikes", "(Z)V"⟩, 66), (⟨"HandsAlikeModel", "isHeardFrom", "(II)Z"⟩, 66), (⟨"HandsAlikeModel", "soundAlike", "(III)Z"⟩, 66), (⟨"HandsAlikeModel", "isClock", "(I)Z"⟩, 66), (⟨"HandsAlikeModel", "showsAt", "(II)I"⟩, 66), (⟨"HandsAlikeModel", "rightMany", "(I)I"⟩, 66), (⟨"HandsAlikeModel", "firstRight", "(I)I"⟩, 66), (⟨"HandsAlikeModel", "areTwo", "(II)Z"⟩, 66), (⟨"HandsAlikeModel", "agreeAt", "(IIZI)Z"⟩, 66)]
theorem lw_r6 : ∀ q ∈ lw_privs_6, lw_okq q := List.forall_mem_cons.mpr ⟨lw_p80, List.forall_mem_cons.mpr ⟨lw_p81, List.forall_mem_cons.mpr ⟨lw_p82, List.forall_mem_cons.mpr ⟨lw_p83, List.forall_mem_cons.mpr ⟨lw_p84, List.forall_mem_cons.mpr ⟨lw_p85, List.forall_mem_cons.mpr ⟨lw_p86, List.forall_mem_cons.mpr ⟨lw_p87, List.forall_mem_cons.mpr ⟨lw_p88, List.forall_mem_cons.mpr ⟨lw_p89, List.forall_mem_cons.mpr ⟨lw_p90, List.forall_mem_cons.mpr ⟨lw_p91, List.forall_mem_cons.mpr ⟨lw_p92, List.forall_mem_cons.mpr ⟨lw_p93, List.forall_mem_cons.mpr ⟨lw_p94, List.forall_mem_cons.mpr ⟨lw_p95, fun _ h => absurd h List.not_mem_nil⟩⟩⟩⟩⟩⟩⟩⟩⟩⟩⟩⟩⟩⟩⟩⟩
theorem lw_p96 : lw_okq (⟨"HandsAlikeModel", "allAgreeAt", "(I)Z"⟩, 66) := ⟨⟨by decide +kernel, by decide +kernel⟩, List.mem_of_getElem? (i := 1239) (by decide +kernel), List.mem_of_getElem? (i := 1832) (by decide +kernel), List.mem_of_getElem? (i := 1833) (by decide +kernel)⟩
theorem lw_p97 : lw_okq (⟨"HandsAlikeModel", "offAt", "(II)I"⟩, 66) := ⟨⟨by decide +kernel, by decide +kernel⟩, List.mem_of_getElem? (i := 1239) (by decide +kernel), List.mem_of_getElem? (i := 1840) (by decide +kernel), List.mem_of_getElem? (i := 1841) (by decide +kernel)⟩
theorem lw_p98 : lw_okq (⟨"HandsAlikeModel", "howManyShow", "(II)I"⟩, 66) := ⟨⟨by decide +kernel, by decide +kernel⟩, List.mem_of_getElem? (i := 1239) (by decide +kernel), List.mem_of_getElem? (i := 1848) (by decide +kernel), List.mem_of_getElem? (i := 1849) (by decide +kernel)⟩
theorem lw_p99 : lw_okq (⟨"HandsAlikeModel", "reachFrom", "(II)I"⟩, 66) := ⟨⟨by decide +kernel, by decide +kernel⟩, List.mem_of_getElem? (i := 1239) (by decide +kernel), List.mem_of_getElem? (i := 1860) (by decide +kernel), List.mem_of_getElem? (i := 1861) (by decide +kernel)⟩
theorem lw_p100 : lw_okq (⟨"HandsAlikeModel", "thereAt", "(II)I"⟩, 66) := ⟨⟨by decide +kernel, by decide +kernel⟩, List.mem_of_getElem? (i := 1239) (by decide +kernel), List.mem_of_getElem? (i := 1868) (by decide +kernel), List.mem_of_getElem? (i := 1869) (by decide +kernel)⟩
theorem lw_p101 : lw_okq (⟨"HandsAlikeModel", "isMetAt", "(I)Z"⟩, 66) := ⟨⟨by decide +kernel, by decide +kernel⟩, List.mem_of_getElem? (i := 1239) (by decide +kernel), List.mem_of_getElem? (i := 1872) (by decide +kernel), List.mem_of_getElem? (i := 1873) (by decide +kernel)⟩
theorem lw_p102 : lw_okq (⟨"HandsAlikeModel", "waitedAt", "(I)I"⟩, 66) := ⟨⟨by decide +kernel, by decide +kernel⟩, List.mem_of_getElem? (i := 1239) (by decide +kernel), List.mem_of_getElem? (i := 1882) (by decide +kernel), List.mem_of_getElem? (i := 1883) (by decide +kernel)⟩
theorem lw_p103 : lw_okq (⟨"HandsAlikeModel", "metInAll", "()I"⟩, 66) := ⟨⟨by decide +kernel, by decide +kernel⟩, List.mem_of_getElem? (i := 1239) (by decide +kernel), List.mem_of_getElem? (i := 1890) (by decide +kernel), List.mem_of_getElem? (i := 1891) (by decide +kernel)⟩
theorem lw_p104 : lw_okq (⟨"HandsAlikeModel", "waitedInAll", "()I"⟩, 66) := ⟨⟨by decide +kernel, by decide +kernel⟩, List.mem_of_getElem? (i := 1239) (by decide +kernel), List.mem_of_getElem? (i := 1894) (by decide +kernel), List.mem_of_getElem? (i := 1895) (by decide +kernel)⟩
theorem lw_p105 : lw_okq (⟨"HandsAlikeModel", "laysThere", "(I[I)V"⟩, 66) := ⟨⟨by decide +kernel, by decide +kernel⟩, List.mem_of_getElem? (i := 1239) (by decide +kernel), List.mem_of_getElem? (i := 1902) (by decide +kernel), List.mem_of_getElem? (i := 1903) (by decide +kernel)⟩
theorem lw_p106 : lw_okq (⟨"HandsAlikeModel", "isSet", "(I)V"⟩, 66) := ⟨⟨by decide +kernel, by decide +kernel⟩, List.mem_of_getElem? (i := 1239) (by decide +kernel), List.mem_of_getElem? (i := 1910) (by decide +kernel), List.mem_of_getElem? (i := 1911) (by decide +kernel)⟩
theorem lw_p107 : lw_okq (⟨"HandsAlikeModel", "daysGo", "(I)V"⟩, 66) := ⟨⟨by decide +kernel, by decide +kernel⟩, List.mem_of_getElem? (i := 1239) (by decide +kernel), List.mem_of_getElem? (i := 1918) (by decide +kernel), List.mem_of_getElem? (i := 1919) (by decide +kernel)⟩
theorem lw_p108 : lw_okq (⟨"HandsAlikeModel", "dayGoes", "()V"⟩, 66) := ⟨⟨by decide +kernel, by decide +kernel⟩, List.mem_of_getElem? (i := 1239) (by decide +kernel), List.mem_of_getElem? (i := 1922) (by decide +kernel), List.mem_of_getElem? (i := 1923) (by decide +kernel)⟩
theorem lw_p109 : lw_okq (⟨"HandsAlikeModel", "goesOn", "(I)V"⟩, 66) := ⟨⟨by decide +kernel, by decide +kernel⟩, List.mem_of_getElem? (i := 1239) (by decide +kernel), List.mem_of_getElem? (i := 1926) (by decide +kernel), List.mem_of_getElem? (i := 1927) (by decide +kernel)⟩
theorem lw_p110 : lw_okq (⟨"HandsAlikeModel", "feels", "(I)V"⟩, 66) := ⟨⟨by decide +kernel, by decide +kernel⟩, List.mem_of_getElem? (i := 1239) (by decide +kernel), List.mem_of_getElem? (i := 1930) (by decide +kernel), List.mem_of_getElem? (i := 1931) (by decide +kernel)⟩
theorem lw_p111 : lw_okq (⟨"HandsAlikeModel", "likeAhead", "(I)I"⟩, 66) := ⟨⟨by decide +kernel, by decide +kernel⟩, List.mem_of_getElem? (i := 1239) (by decide +kernel), List.mem_of_getElem? (i := 1935) (by decide +kernel), List.mem_of_getElem? (i := 1936) (by decide +kernel)⟩
def lw_privs_7 : List (MethodName × Nat) := [(⟨"HandsAlikeModel", "allAgreeAt", "(I)Z"⟩, 66), (⟨"HandsAlikeModel", "offAt", "(II)I"⟩, 66), (⟨"HandsAlikeModel", "howManyShow", "(II)I"⟩, 66), (⟨"HandsAlikeModel", "reachFrom", "(II)I"⟩, 66), (⟨"HandsAlikeModel", "thereAt", "(II)I"⟩, 66), (⟨"HandsAlikeModel", "isMetAt", "(I)Z"⟩, 66), (⟨"HandsAlikeModel", "waitedAt", "(I)I"⟩, 66), (⟨"HandsAlikeModel", "metInAll", "()I"⟩, 66), (⟨"HandsAlikeModel", "waitedInAll", "()I"⟩, 66), (⟨"HandsAlikeModel", "laysThere", "(I[I)V"⟩, 66), (⟨"HandsAlikeModel", "isSet", "(I)V"⟩, 66), (⟨"HandsAlikeModel", "daysGo", "(I)V"⟩, 66), (⟨"HandsAlikeModel", "dayGoes", "()V"⟩, 66), (⟨"HandsAlikeModel", "goesOn", "(I)V"⟩, 66), (⟨"HandsAlikeModel", "feels", "(I)V"⟩, 66), (⟨"HandsAlikeModel", "likeAhead", "(I)I"⟩, 66)]
theorem lw_r7 : ∀ q ∈ lw_privs_7, lw_okq q := List.forall_mem_cons.mpr ⟨lw_p96, List.forall_mem_cons.mpr ⟨lw_p97, List.forall_mem_cons.mpr ⟨lw_p98, List.forall_mem_cons.mpr ⟨lw_p99, List.forall_mem_cons.mpr ⟨lw_p100, List.forall_mem_cons.mpr ⟨lw_p101, List.forall_mem_cons.mpr ⟨lw_p102, List.forall_mem_cons.mpr ⟨lw_p103, List.forall_mem_cons.mpr ⟨lw_p104, List.forall_mem_cons.mpr ⟨lw_p105, List.forall_mem_cons.mpr ⟨lw_p106, List.forall_mem_cons.mpr ⟨lw_p107, List.forall_mem_cons.mpr ⟨lw_p108, List.forall_mem_cons.mpr ⟨lw_p109, List.forall_mem_cons.mpr ⟨lw_p110, List.forall_mem_cons.mpr ⟨lw_p111, fun _ h => absurd h List.not_mem_nil⟩⟩⟩⟩⟩⟩⟩⟩⟩⟩⟩⟩⟩⟩⟩⟩
theorem lw_p112 : lw_okq (⟨"HandsAlikeModel", "byLaw", "(II)I"⟩, 66) := ⟨⟨by decide +kernel, by decide +kernel⟩, List.mem_of_getElem? (i := 1239) (by decide +kernel), List.mem_of_getElem? (i := 1939) (by decide +kernel), List.mem_of_getElem? (i := 1940) (by decide +kernel)⟩
theorem lw_p113 : lw_okq (⟨"HandsAlikeModel", "reckonsTo", "(II)I"⟩, 66) := ⟨⟨by decide +kernel, by decide +kernel⟩, List.mem_of_getElem? (i := 1239) (by decide +kernel), List.mem_of_getElem? (i := 1943) (by decide +kernel), List.mem_of_getElem? (i := 1944) (by decide +kernel)⟩
theorem lw_p114 : lw_okq (⟨"HandsAlikeModel", "holdsAny", "(I)Z"⟩, 66) := ⟨⟨by decide +kernel, by decide +kernel⟩, List.mem_of_getElem? (i := 1239) (by decide +kernel), List.mem_of_getElem? (i := 1950) (by decide +kernel), List.mem_of_getElem? (i := 1951) (by decide +kernel)⟩
theorem lw_p115 : lw_okq (⟨"HandsAlikeModel", "setOfAll", "()I"⟩, 66) := ⟨⟨by decide +kernel, by decide +kernel⟩, List.mem_of_getElem? (i := 1239) (by decide +kernel), List.mem_of_getElem? (i := 1986) (by decide +kernel), List.mem_of_getElem? (i := 1987) (by decide +kernel)⟩
def lw_privs_8 : List (MethodName × Nat) := [(⟨"HandsAlikeModel", "byLaw", "(II)I"⟩, 66), (⟨"HandsAlikeModel", "reckonsTo", "(II)I"⟩, 66), (⟨"HandsAlikeModel", "holdsAny", "(I)Z"⟩, 66), (⟨"HandsAlikeModel", "setOfAll", "()I"⟩, 66)]
theorem lw_r8 : ∀ q ∈ lw_privs_8, lw_okq q := List.forall_mem_cons.mpr ⟨lw_p112, List.forall_mem_cons.mpr ⟨lw_p113, List.forall_mem_cons.mpr ⟨lw_p114, List.forall_mem_cons.mpr ⟨lw_p115, fun _ h => absurd h List.not_mem_nil⟩⟩⟩⟩
def lw_privs : List (MethodName × Nat) := lw_privs_1 ++ (lw_privs_2 ++ (lw_privs_3 ++ (lw_privs_4 ++ (lw_privs_5 ++ (lw_privs_6 ++ (lw_privs_7 ++ (lw_privs_8)))))))
def lw_tbl : List Cond := k2_sels lw_privs ++ tables_1
theorem lw_privs_ok : ∀ q ∈ lw_privs, lw_okq q := by
  show ∀ q ∈ lw_privs_1 ++ (lw_privs_2 ++ (lw_privs_3 ++ (lw_privs_4 ++ (lw_privs_5 ++ (lw_privs_6 ++ (lw_privs_7 ++ (lw_privs_8))))))), lw_okq q
  exact List.forall_mem_append.mpr ⟨lw_r1, List.forall_mem_append.mpr ⟨lw_r2, List.forall_mem_append.mpr ⟨lw_r3, List.forall_mem_append.mpr ⟨lw_r4, List.forall_mem_append.mpr ⟨lw_r5, List.forall_mem_append.mpr ⟨lw_r6, List.forall_mem_append.mpr ⟨lw_r7, lw_r8⟩⟩⟩⟩⟩⟩⟩
end
section
/-! ===== BEGIN words of one list among another's, by their places ===== -/
theorem goodIn_r {big : List Cond} (ws : List Cond) (ps : List Nat) (hp : ws = ps.filterMap (fun i => big[i]?)) (h : ws.all goodWord = true) : GoodIn big ws := by
  intro w hw
  have h1 := List.all_eq_true.mp h w hw
  rw [hp] at hw
  obtain ⟨i, -, hi⟩ := List.mem_filterMap.mp hw
  have hm : w ∈ big := by first | exact List.mem_of_getElem? hi | exact List.getElem?_mem hi
  exact ⟨hm, good_of_word h1⟩
theorem goodIn_app {big a b : List Cond} (ha : GoodIn big a) (hb : GoodIn big b) : GoodIn big (a ++ b) := fun w h => (List.mem_append.mp h).elim (ha w) (hb w)
theorem goodIn_ca {big a b : List Cond} {c : Cond} (ha : GoodIn big (c :: a)) (hb : GoodIn big b) : GoodIn big (c :: (a ++ b)) := fun w h => (List.mem_cons.mp h).elim (fun e => ha w (List.mem_cons.mpr (Or.inl e))) (fun h => (List.mem_append.mp h).elim (fun h => ha w (List.mem_cons.mpr (Or.inr h))) (hb w))
theorem goodIn_sub {big ws : List Cond} (hm : ∀ w ∈ ws, w ∈ big) (h : ws.all goodWord = true) : GoodIn big ws := fun w hw => ⟨hm w hw, good_of_word (List.all_eq_true.mp h w hw)⟩
/-! ===== END ===== -/

/-! ===== BEGIN printed: names, fields, word lists, decode rows ===== -/
def RX0 : String := "HandsAlike$Album"
def TX0 : u_T := fun k => match k with
  | 0 => ("HandsAlike$Album", "dial", "LHandsAlike$Dial;", true)
  | 1 => ("HandsAlike$Album", "times", "[I", true)
  | 2 => ("HandsAlike$Album", "many", "[I", true)
  | 3 => ("HandsAlike$Album", "till", "[J", true)
  | 4 => ("HandsAlike$Album", "since", "[J", true)
  | 5 => ("HandsAlike$Album", "orders", "[J", true)
  | 6 => ("HandsAlike$Album", "size", "I", false)
  | 7 => ("HandsAlike$Album", "least", "I", false)
  | _ => ("HandsAlike$Album", "most", "I", false)
def tyX0 : Nat → FieldType := fun k => match k with
  | 0 => .object "HandsAlike$Dial"
  | 1 => .array .int
  | 2 => .array .int
  | 3 => .array .long
  | 4 => .array .long
  | 5 => .array .long
  | 6 => .int
  | 7 => .int
  | _ => .int
abbrev wsX00 : List Cond := u_ws RX0 TX0 9
theorem nmX0 : ∀ a, a < 9 → ∀ b, b < 9 → a ≠ b → (TX0 a).2.1 ≠ (TX0 b).2.1 := by decide +kernel
theorem tyX0_ok : ∀ k, k < 9 → parseFieldDescriptor (TX0 k).2.2.1 = some (tyX0 k) := by decide +kernel
abbrev cX0_init : ByteArray := prog_2_method_1_code
def yX0_init : MethodName := ⟨RX0, "<init>", "(LHandsAlike$Dial;)V"⟩
abbrev cX0_take : ByteArray := prog_2_method_2_code
def yX0_take : MethodName := ⟨RX0, "take", "(LHandsAlike$Tape;III)Z"⟩
abbrev cX0_follows : ByteArray := prog_2_method_3_code
def yX0_follows : MethodName := ⟨RX0, "follows", "(II)Z"⟩
abbrev cX0_countTill : ByteArray := prog_2_method_4_code
def yX0_countTill : MethodName := ⟨RX0, "countTill", "()V"⟩
abbrev cX0_countSince : ByteArray := prog_2_method_5_code
def yX0_countSince : MethodName := ⟨RX0, "countSince", "()V"⟩
abbrev cX0_rowsMany : ByteArray := prog_2_method_6_code
def yX0_rowsMany : MethodName := ⟨RX0, "rowsMany", "()I"⟩
abbrev cX0_sureTime : ByteArray := prog_2_method_7_code
def yX0_sureTime : MethodName := ⟨RX0, "sureTime", "(I)I"⟩
abbrev cX0_orderPlace : ByteArray := prog_2_method_8_code
def yX0_orderPlace : MethodName := ⟨RX0, "orderPlace", "(III)I"⟩
abbrev cX0_countOrders : ByteArray := prog_2_method_9_code
def yX0_countOrders : MethodName := ⟨RX0, "countOrders", "()V"⟩
abbrev cX0_countOrdersFrom : ByteArray := prog_2_method_10_code
def yX0_countOrdersFrom : MethodName := ⟨RX0, "countOrdersFrom", "(II)V"⟩
abbrev cX0_ordersBehind : ByteArray := prog_2_method_11_code
def yX0_ordersBehind : MethodName := ⟨RX0, "ordersBehind", "(III)J"⟩
abbrev cX0_ordersFrom : ByteArray := prog_2_method_12_code
def yX0_ordersFrom : MethodName := ⟨RX0, "ordersFrom", "(I)J"⟩
abbrev cX0_ordersMany : ByteArray := prog_2_method_13_code
def yX0_ordersMany : MethodName := ⟨RX0, "ordersMany", "()I"⟩
abbrev cX0_canBeFirst : ByteArray := prog_2_method_14_code
def yX0_canBeFirst : MethodName := ⟨RX0, "canBeFirst", "()I"⟩
def RX1 : String := "HandsAlike$Bells"
def TX1 : u_T := fun k => match k with
  | _ => ("HandsAlike$Bells", "dial", "LHandsAlike$Dial;", true)
def tyX1 : Nat → FieldType := fun k => match k with
  | _ => .object "HandsAlike$Dial"
abbrev wsX10 : List Cond := u_ws RX1 TX1 1
theorem nmX1 : ∀ a, a < 1 → ∀ b, b < 1 → a ≠ b → (TX1 a).2.1 ≠ (TX1 b).2.1 := by decide +kernel
theorem tyX1_ok : ∀ k, k < 1 → parseFieldDescriptor (TX1 k).2.2.1 = some (tyX1 k) := by decide +kernel
abbrev cX1_init : ByteArray := prog_3_method_1_code
def yX1_init : MethodName := ⟨RX1, "<init>", "(LHandsAlike$Dial;)V"⟩
abbrev cX1_strikesMany : ByteArray := prog_3_method_2_code
def yX1_strikesMany : MethodName := ⟨RX1, "strikesMany", "(Z)I"⟩
abbrev cX1_timeOf : ByteArray := prog_3_method_3_code
def yX1_timeOf : MethodName := ⟨RX1, "timeOf", "(IZ)I"⟩
abbrev cX1_strokesAt : ByteArray := prog_3_method_4_code
def yX1_strokesAt : MethodName := ⟨RX1, "strokesAt", "(IZ)I"⟩
abbrev cX1_strokesOf : ByteArray := prog_3_method_5_code
def yX1_strokesOf : MethodName := ⟨RX1, "strokesOf", "(IZ)I"⟩
abbrev cX1_strokesBetween : ByteArray := prog_3_method_6_code
def yX1_strokesBetween : MethodName := ⟨RX1, "strokesBetween", "(IIZ)I"⟩
abbrev cX1_longestQuiet : ByteArray := prog_3_method_7_code
def yX1_longestQuiet : MethodName := ⟨RX1, "longestQuiet", "(Z)I"⟩
abbrev cX1_ticksTillHeard : ByteArray := prog_3_method_8_code
def yX1_ticksTillHeard : MethodName := ⟨RX1, "ticksTillHeard", "(IIZ)I"⟩
abbrev cX1_match : ByteArray := prog_3_method_9_code
def yX1_match : MethodName := ⟨RX1, "match", "(LHandsAlike$Tape;IZLHandsAlike$Tally;)V"⟩
abbrev cX1_enoughStrikes : ByteArray := prog_3_method_10_code
def yX1_enoughStrikes : MethodName := ⟨RX1, "enoughStrikes", "(Z)I"⟩
abbrev cX1_allUnlike : ByteArray := prog_3_method_11_code
def yX1_allUnlike : MethodName := ⟨RX1, "allUnlike", "(IZ)Z"⟩
abbrev cX1_soundSame : ByteArray := prog_3_method_12_code
def yX1_soundSame : MethodName := ⟨RX1, "soundSame", "(IIIZ)Z"⟩
abbrev cX1_bothStrike : ByteArray := prog_3_method_13_code
def yX1_bothStrike : MethodName := ⟨RX1, "bothStrike", "(IZ)I"⟩
abbrev cX1_loudest : ByteArray := prog_3_method_14_code
def yX1_loudest : MethodName := ⟨RX1, "loudest", "(IZ)I"⟩
def RX2 : String := "HandsAlike$Book"
def TX2 : u_T := fun k => match k with
  | 0 => ("HandsAlike$Book", "dial", "LHandsAlike$Dial;", true)
  | 1 => ("HandsAlike$Book", "one", "[I", true)
  | 2 => ("HandsAlike$Book", "other", "[I", true)
  | 3 => ("HandsAlike$Book", "time", "[I", true)
  | 4 => ("HandsAlike$Book", "ticks", "[I", true)
  | _ => ("HandsAlike$Book", "size", "I", false)
def tyX2 : Nat → FieldType := fun k => match k with
  | 0 => .object "HandsAlike$Dial"
  | 1 => .array .int
  | 2 => .array .int
  | 3 => .array .int
  | 4 => .array .int
  | _ => .int
abbrev wsX20 : List Cond := u_ws RX2 TX2 6
theorem nmX2 : ∀ a, a < 6 → ∀ b, b < 6 → a ≠ b → (TX2 a).2.1 ≠ (TX2 b).2.1 := by decide +kernel
theorem tyX2_ok : ∀ k, k < 6 → parseFieldDescriptor (TX2 k).2.2.1 = some (tyX2 k) := by decide +kernel
abbrev cX2_init : ByteArray := prog_4_method_1_code
def yX2_init : MethodName := ⟨RX2, "<init>", "(LHandsAlike$Dial;)V"⟩
abbrev cX2_forget : ByteArray := prog_4_method_2_code
def yX2_forget : MethodName := ⟨RX2, "forget", "()V"⟩
abbrev cX2_has : ByteArray := prog_4_method_3_code
def yX2_has : MethodName := ⟨RX2, "has", "(I)Z"⟩
abbrev cX2_read : ByteArray := prog_4_method_4_code
def yX2_read : MethodName := ⟨RX2, "read", "(LHandsAlike$Reader;)I"⟩
abbrev cX2_readRest : ByteArray := prog_4_method_5_code
def yX2_readRest : MethodName := ⟨RX2, "readRest", "(LHandsAlike$Reader;I)V"⟩
abbrev cX2_doMeet : ByteArray := prog_4_method_6_code
def yX2_doMeet : MethodName := ⟨RX2, "doMeet", "(III)Z"⟩
abbrev cX2_meets : ByteArray := prog_4_method_7_code
def yX2_meets : MethodName := ⟨RX2, "meets", "(ILHandsAlike$Clocks;)Z"⟩
abbrev cX2_waited : ByteArray := prog_4_method_8_code
def yX2_waited : MethodName := ⟨RX2, "waited", "(ILHandsAlike$Clocks;)I"⟩
abbrev cX2_meetMany : ByteArray := prog_4_method_9_code
def yX2_meetMany : MethodName := ⟨RX2, "meetMany", "(LHandsAlike$Clocks;)I"⟩
abbrev cX2_waitedInAll : ByteArray := prog_4_method_10_code
def yX2_waitedInAll : MethodName := ⟨RX2, "waitedInAll", "(LHandsAlike$Clocks;)I"⟩
def RX3 : String := "HandsAlike$Clocks"
def TX3 : u_T := fun k => match k with
  | 0 => ("HandsAlike$Clocks", "dial", "LHandsAlike$Dial;", true)
  | 1 => ("HandsAlike$Clocks", "told", "[Z", true)
  | 2 => ("HandsAlike$Clocks", "ahead", "[I", true)
  | 3 => ("HandsAlike$Clocks", "gain", "[I", true)
  | 4 => ("HandsAlike$Clocks", "sets", "[I", true)
  | 5 => ("HandsAlike$Clocks", "day", "I", false)
  | _ => ("HandsAlike$Clocks", "drawn", "I", false)
def tyX3 : Nat → FieldType := fun k => match k with
  | 0 => .object "HandsAlike$Dial"
  | 1 => .array .boolean
  | 2 => .array .int
  | 3 => .array .int
  | 4 => .array .int
  | 5 => .int
  | _ => .int
abbrev wsX30 : List Cond := u_ws RX3 TX3 7
theorem nmX3 : ∀ a, a < 7 → ∀ b, b < 7 → a ≠ b → (TX3 a).2.1 ≠ (TX3 b).2.1 := by decide +kernel
theorem tyX3_ok : ∀ k, k < 7 → parseFieldDescriptor (TX3 k).2.2.1 = some (tyX3 k) := by decide +kernel
abbrev cX3_init : ByteArray := prog_5_method_1_code
def yX3_init : MethodName := ⟨RX3, "<init>", "(LHandsAlike$Dial;)V"⟩
abbrev cX3_forget : ByteArray := prog_5_method_2_code
def yX3_forget : MethodName := ⟨RX3, "forget", "()V"⟩
abbrev cX3_copyClock : ByteArray := prog_5_method_3_code
def yX3_copyClock : MethodName := ⟨RX3, "copyClock", "(ILHandsAlike$Clocks;)V"⟩
abbrev cX3_copyClocks : ByteArray := prog_5_method_4_code
def yX3_copyClocks : MethodName := ⟨RX3, "copyClocks", "(LHandsAlike$Clocks;)V"⟩
abbrev cX3_copyAll : ByteArray := prog_5_method_5_code
def yX3_copyAll : MethodName := ⟨RX3, "copyAll", "(LHandsAlike$Clocks;)V"⟩
abbrev cX3_restore : ByteArray := prog_5_method_6_code
def yX3_restore : MethodName := ⟨RX3, "restore", "(LHandsAlike$Clocks;)V"⟩
abbrev cX3_read : ByteArray := prog_5_method_7_code
def yX3_read : MethodName := ⟨RX3, "read", "(LHandsAlike$Reader;)I"⟩
abbrev cX3_readLine : ByteArray := prog_5_method_8_code
def yX3_readLine : MethodName := ⟨RX3, "readLine", "(LHandsAlike$Reader;I)V"⟩
abbrev cX3_isTold : ByteArray := prog_5_method_9_code
def yX3_isTold : MethodName := ⟨RX3, "isTold", "(I)Z"⟩
abbrev cX3_areTwo : ByteArray := prog_5_method_10_code
def yX3_areTwo : MethodName := ⟨RX3, "areTwo", "(II)Z"⟩
abbrev cX3_toldBits : ByteArray := prog_5_method_11_code
def yX3_toldBits : MethodName := ⟨RX3, "toldBits", "()I"⟩
abbrev cX3_setsOfAll : ByteArray := prog_5_method_12_code
def yX3_setsOfAll : MethodName := ⟨RX3, "setsOfAll", "()I"⟩
abbrev cX3_checkByte : ByteArray := prog_5_method_13_code
def yX3_checkByte : MethodName := ⟨RX3, "checkByte", "(I)I"⟩
abbrev cX3_setTo : ByteArray := prog_5_method_14_code
def yX3_setTo : MethodName := ⟨RX3, "setTo", "(II)V"⟩
abbrev cX3_draw : ByteArray := prog_5_method_15_code
def yX3_draw : MethodName := ⟨RX3, "draw", "()I"⟩
abbrev cX3_lookAt : ByteArray := prog_5_method_16_code
def yX3_lookAt : MethodName := ⟨RX3, "lookAt", "(II[I)V"⟩
abbrev cX3_othersAsMuchAhead : ByteArray := prog_5_method_17_code
def yX3_othersAsMuchAhead : MethodName := ⟨RX3, "othersAsMuchAhead", "(I)I"⟩
abbrev cX3_showsAt : ByteArray := prog_5_method_18_code
def yX3_showsAt : MethodName := ⟨RX3, "showsAt", "(II)I"⟩
abbrev cX3_offBy : ByteArray := prog_5_method_19_code
def yX3_offBy : MethodName := ⟨RX3, "offBy", "(II)I"⟩
abbrev cX3_showSame : ByteArray := prog_5_method_20_code
def yX3_showSame : MethodName := ⟨RX3, "showSame", "(IIZI)Z"⟩
abbrev cX3_tallyRight : ByteArray := prog_5_method_21_code
def yX3_tallyRight : MethodName := ⟨RX3, "tallyRight", "(ILHandsAlike$Tally;)V"⟩
abbrev cX3_tallyAgreed : ByteArray := prog_5_method_22_code
def yX3_tallyAgreed : MethodName := ⟨RX3, "tallyAgreed", "(IIZLHandsAlike$Tally;)V"⟩
abbrev cX3_longestAgreed : ByteArray := prog_5_method_23_code
def yX3_longestAgreed : MethodName := ⟨RX3, "longestAgreed", "(II)I"⟩
abbrev cX3_tallyAllSame : ByteArray := prog_5_method_24_code
def yX3_tallyAllSame : MethodName := ⟨RX3, "tallyAllSame", "(LHandsAlike$Tally;)V"⟩
abbrev cX3_allSame : ByteArray := prog_5_method_25_code
def yX3_allSame : MethodName := ⟨RX3, "allSame", "(I)Z"⟩
abbrev cX3_nearestTo : ByteArray := prog_5_method_26_code
def yX3_nearestTo : MethodName := ⟨RX3, "nearestTo", "(I)I"⟩
abbrev cX3_showingSame : ByteArray := prog_5_method_27_code
def yX3_showingSame : MethodName := ⟨RX3, "showingSame", "(II)I"⟩
abbrev cX3_oneOfMost : ByteArray := prog_5_method_28_code
def yX3_oneOfMost : MethodName := ⟨RX3, "oneOfMost", "(I)I"⟩
abbrev cX3_pairsMany : ByteArray := prog_5_method_29_code
def yX3_pairsMany : MethodName := ⟨RX3, "pairsMany", "(IZ)I"⟩
abbrev cX3_narrowest : ByteArray := prog_5_method_30_code
def yX3_narrowest : MethodName := ⟨RX3, "narrowest", "(I)I"⟩
abbrev cX3_reach : ByteArray := prog_5_method_31_code
def yX3_reach : MethodName := ⟨RX3, "reach", "(II)I"⟩
abbrev cX3_firstTick : ByteArray := prog_5_method_32_code
def yX3_firstTick : MethodName := ⟨RX3, "firstTick", "(II)I"⟩
abbrev cX3_firstTicks : ByteArray := prog_5_method_33_code
def yX3_firstTicks : MethodName := ⟨RX3, "firstTicks", "(I[I)V"⟩
def RX4 : String := "HandsAlike$Dial"
def TX4 : u_T := fun k => match k with
  | 0 => ("HandsAlike$Dial", "marks", "I", false)
  | _ => ("HandsAlike$Dial", "turns", "I", false)
def tyX4 : Nat → FieldType := fun k => match k with
  | 0 => .int
  | _ => .int
abbrev wsX40 : List Cond := u_ws RX4 TX4 2
theorem nmX4 : ∀ a, a < 2 → ∀ b, b < 2 → a ≠ b → (TX4 a).2.1 ≠ (TX4 b).2.1 := by decide +kernel
theorem tyX4_ok : ∀ k, k < 2 → parseFieldDescriptor (TX4 k).2.2.1 = some (tyX4 k) := by decide +kernel
abbrev cX4_init : ByteArray := prog_6_method_1_code
def yX4_init : MethodName := ⟨RX4, "<init>", "()V"⟩
abbrev cX4_make : ByteArray := prog_6_method_2_code
def yX4_make : MethodName := ⟨RX4, "make", "(II)V"⟩
abbrev cX4_round : ByteArray := prog_6_method_3_code
def yX4_round : MethodName := ⟨RX4, "round", "()I"⟩
abbrev cX4_isTime : ByteArray := prog_6_method_4_code
def yX4_isTime : MethodName := ⟨RX4, "isTime", "(I)Z"⟩
abbrev cX4_around : ByteArray := prog_6_method_5_code
def yX4_around : MethodName := ⟨RX4, "around", "(I)I"⟩
abbrev cX4_shortAt : ByteArray := prog_6_method_6_code
def yX4_shortAt : MethodName := ⟨RX4, "shortAt", "(I)I"⟩
abbrev cX4_longAt : ByteArray := prog_6_method_7_code
def yX4_longAt : MethodName := ⟨RX4, "longAt", "(I)I"⟩
abbrev cX4_mirrored : ByteArray := prog_6_method_8_code
def yX4_mirrored : MethodName := ⟨RX4, "mirrored", "(I)I"⟩
abbrev cX4_between : ByteArray := prog_6_method_9_code
def yX4_between : MethodName := ⟨RX4, "between", "(II)I"⟩
abbrev cX4_apartAt : ByteArray := prog_6_method_10_code
def yX4_apartAt : MethodName := ⟨RX4, "apartAt", "(I)I"⟩
abbrev cX4_areAlike : ByteArray := prog_6_method_11_code
def yX4_areAlike : MethodName := ⟨RX4, "areAlike", "(II)Z"⟩
abbrev cX4_isAt : ByteArray := prog_6_method_12_code
def yX4_isAt : MethodName := ⟨RX4, "isAt", "(III)Z"⟩
abbrev cX4_lowest : ByteArray := prog_6_method_13_code
def yX4_lowest : MethodName := ⟨RX4, "lowest", "(II)I"⟩
abbrev cX4_lowestAt : ByteArray := prog_6_method_14_code
def yX4_lowestAt : MethodName := ⟨RX4, "lowestAt", "(II)I"⟩
abbrev cX4_manyAt : ByteArray := prog_6_method_15_code
def yX4_manyAt : MethodName := ⟨RX4, "manyAt", "(II)I"⟩
abbrev cX4_alikeMany : ByteArray := prog_6_method_16_code
def yX4_alikeMany : MethodName := ⟨RX4, "alikeMany", "(I)I"⟩
abbrev cX4_canBeTold : ByteArray := prog_6_method_17_code
def yX4_canBeTold : MethodName := ⟨RX4, "canBeTold", "(I)Z"⟩
abbrev cX4_untoldMany : ByteArray := prog_6_method_18_code
def yX4_untoldMany : MethodName := ⟨RX4, "untoldMany", "()I"⟩
abbrev cX4_list : ByteArray := prog_6_method_19_code
def yX4_list : MethodName := ⟨RX4, "list", "(II[II)I"⟩
abbrev cX4_listOrdered : ByteArray := prog_6_method_20_code
def yX4_listOrdered : MethodName := ⟨RX4, "listOrdered", "(II[II)I"⟩
def RX5 : String := "HandsAlike$Law"
def TX5 : u_T := fun k => match k with
  | 0 => ("HandsAlike$Law", "signs", "[I", true)
  | 1 => ("HandsAlike$Law", "operands", "[I", true)
  | 2 => ("HandsAlike$Law", "kinds", "[I", true)
  | 3 => ("HandsAlike$Law", "valueFrom", "[I", true)
  | 4 => ("HandsAlike$Law", "conditionFrom", "[I", true)
  | 5 => ("HandsAlike$Law", "pile", "[I", true)
  | 6 => ("HandsAlike$Law", "steps", "I", false)
  | 7 => ("HandsAlike$Law", "size", "I", false)
  | _ => ("HandsAlike$Law", "refused", "Z", false)
def tyX5 : Nat → FieldType := fun k => match k with
  | 0 => .array .int
  | 1 => .array .int
  | 2 => .array .int
  | 3 => .array .int
  | 4 => .array .int
  | 5 => .array .int
  | 6 => .int
  | 7 => .int
  | _ => .boolean
abbrev wsX50 : List Cond := u_ws RX5 TX5 9
theorem nmX5 : ∀ a, a < 9 → ∀ b, b < 9 → a ≠ b → (TX5 a).2.1 ≠ (TX5 b).2.1 := by decide +kernel
theorem tyX5_ok : ∀ k, k < 9 → parseFieldDescriptor (TX5 k).2.2.1 = some (tyX5 k) := by decide +kernel
abbrev cX5_init : ByteArray := prog_7_method_1_code
def yX5_init : MethodName := ⟨RX5, "<init>", "()V"⟩
abbrev cX5_size : ByteArray := prog_7_method_2_code
def yX5_size : MethodName := ⟨RX5, "size", "()I"⟩
abbrev cX5_read : ByteArray := prog_7_method_3_code
def yX5_read : MethodName := ⟨RX5, "read", "(LHandsAlike$Reader;)I"⟩
abbrev cX5_addStep : ByteArray := prog_7_method_4_code
def yX5_addStep : MethodName := ⟨RX5, "addStep", "(II)I"⟩
abbrev cX5_land : ByteArray := prog_7_method_5_code
def yX5_land : MethodName := ⟨RX5, "land", "(I)V"⟩
abbrev cX5_readCondition : ByteArray := prog_7_method_6_code
def yX5_readCondition : MethodName := ⟨RX5, "readCondition", "(LHandsAlike$Reader;I)V"⟩
abbrev cX5_readTest : ByteArray := prog_7_method_7_code
def yX5_readTest : MethodName := ⟨RX5, "readTest", "(LHandsAlike$Reader;I)V"⟩
abbrev cX5_readExpression : ByteArray := prog_7_method_8_code
def yX5_readExpression : MethodName := ⟨RX5, "readExpression", "(LHandsAlike$Reader;I)V"⟩
abbrev cX5_readFactor : ByteArray := prog_7_method_9_code
def yX5_readFactor : MethodName := ⟨RX5, "readFactor", "(LHandsAlike$Reader;I)V"⟩
abbrev cX5_valueOf : ByteArray := prog_7_method_10_code
def yX5_valueOf : MethodName := ⟨RX5, "valueOf", "(II[I)I"⟩
abbrev cX5_anyHolds : ByteArray := prog_7_method_11_code
def yX5_anyHolds : MethodName := ⟨RX5, "anyHolds", "(I[I)Z"⟩
abbrev cX5_work : ByteArray := prog_7_method_12_code
def yX5_work : MethodName := ⟨RX5, "work", "(I[I)I"⟩
abbrev cX5_factAt : ByteArray := prog_7_method_13_code
def yX5_factAt : MethodName := ⟨RX5, "factAt", "([II)I"⟩
abbrev cX5_reckon : ByteArray := prog_7_method_14_code
def yX5_reckon : MethodName := ⟨RX5, "reckon", "(III)I"⟩
def RX6 : String := "HandsAlike$Looks"
def TX6 : u_T := fun k => match k with
  | 0 => ("HandsAlike$Looks", "dial", "LHandsAlike$Dial;", true)
  | _ => ("HandsAlike$Looks", "alikes", "[I", true)
def tyX6 : Nat → FieldType := fun k => match k with
  | 0 => .object "HandsAlike$Dial"
  | _ => .array .int
abbrev wsX60 : List Cond := u_ws RX6 TX6 2
theorem nmX6 : ∀ a, a < 2 → ∀ b, b < 2 → a ≠ b → (TX6 a).2.1 ≠ (TX6 b).2.1 := by decide +kernel
theorem tyX6_ok : ∀ k, k < 2 → parseFieldDescriptor (TX6 k).2.2.1 = some (tyX6 k) := by decide +kernel
abbrev cX6_init : ByteArray := prog_8_method_1_code
def yX6_init : MethodName := ⟨RX6, "<init>", "(LHandsAlike$Dial;)V"⟩
abbrev cX6_listAlikes : ByteArray := prog_8_method_2_code
def yX6_listAlikes : MethodName := ⟨RX6, "listAlikes", "(I)I"⟩
abbrev cX6_nextAlike : ByteArray := prog_8_method_3_code
def yX6_nextAlike : MethodName := ⟨RX6, "nextAlike", "(I)I"⟩
abbrev cX6_mirrorOf : ByteArray := prog_8_method_4_code
def yX6_mirrorOf : MethodName := ⟨RX6, "mirrorOf", "(I)I"⟩
abbrev cX6_mirroredMany : ByteArray := prog_8_method_5_code
def yX6_mirroredMany : MethodName := ⟨RX6, "mirroredMany", "(Z)I"⟩
abbrev cX6_isOwnMirror : ByteArray := prog_8_method_6_code
def yX6_isOwnMirror : MethodName := ⟨RX6, "isOwnMirror", "(I)Z"⟩
abbrev cX6_firstUntold : ByteArray := prog_8_method_7_code
def yX6_firstUntold : MethodName := ⟨RX6, "firstUntold", "()I"⟩
abbrev cX6_longestRow : ByteArray := prog_8_method_8_code
def yX6_longestRow : MethodName := ⟨RX6, "longestRow", "(Z)I"⟩
abbrev cX6_ticksTillTold : ByteArray := prog_8_method_9_code
def yX6_ticksTillTold : MethodName := ⟨RX6, "ticksTillTold", "(I)I"⟩
abbrev cX6_secondGlance : ByteArray := prog_8_method_10_code
def yX6_secondGlance : MethodName := ⟨RX6, "secondGlance", "(I)I"⟩
abbrev cX6_tellsBehind : ByteArray := prog_8_method_11_code
def yX6_tellsBehind : MethodName := ⟨RX6, "tellsBehind", "(III)Z"⟩
abbrev cX6_nextCovered : ByteArray := prog_8_method_12_code
def yX6_nextCovered : MethodName := ⟨RX6, "nextCovered", "(I)I"⟩
abbrev cX6_apartMany : ByteArray := prog_8_method_13_code
def yX6_apartMany : MethodName := ⟨RX6, "apartMany", "(I)I"⟩
def RX7 : String := "HandsAlike$Reader"
def TX7 : u_T := fun k => match k with
  | 0 => ("HandsAlike$Reader", "tape", "LHandsAlike$Tape;", true)
  | 1 => ("HandsAlike$Reader", "end", "I", false)
  | 2 => ("HandsAlike$Reader", "place", "I", false)
  | _ => ("HandsAlike$Reader", "fault", "I", false)
def tyX7 : Nat → FieldType := fun k => match k with
  | 0 => .object "HandsAlike$Tape"
  | 1 => .int
  | 2 => .int
  | _ => .int
abbrev wsX70 : List Cond := u_ws RX7 TX7 4
theorem nmX7 : ∀ a, a < 4 → ∀ b, b < 4 → a ≠ b → (TX7 a).2.1 ≠ (TX7 b).2.1 := by decide +kernel
theorem tyX7_ok : ∀ k, k < 4 → parseFieldDescriptor (TX7 k).2.2.1 = some (tyX7 k) := by decide +kernel
abbrev cX7_init : ByteArray := prog_9_method_1_code
def yX7_init : MethodName := ⟨RX7, "<init>", "(LHandsAlike$Tape;)V"⟩
abbrev cX7_begin : ByteArray := prog_9_method_2_code
def yX7_begin : MethodName := ⟨RX7, "begin", "(I)V"⟩
abbrev cX7_place : ByteArray := prog_9_method_3_code
def yX7_place : MethodName := ⟨RX7, "place", "()I"⟩
abbrev cX7_next : ByteArray := prog_9_method_4_code
def yX7_next : MethodName := ⟨RX7, "next", "()I"⟩
abbrev cX7_skip : ByteArray := prog_9_method_5_code
def yX7_skip : MethodName := ⟨RX7, "skip", "()V"⟩
abbrev cX7_take : ByteArray := prog_9_method_6_code
def yX7_take : MethodName := ⟨RX7, "take", "(I)Z"⟩
abbrev cX7_expect : ByteArray := prog_9_method_7_code
def yX7_expect : MethodName := ⟨RX7, "expect", "(I)V"⟩
abbrev cX7_fail : ByteArray := prog_9_method_8_code
def yX7_fail : MethodName := ⟨RX7, "fail", "(II)V"⟩
abbrev cX7_clockLetter : ByteArray := prog_9_method_9_code
def yX7_clockLetter : MethodName := ⟨RX7, "clockLetter", "()I"⟩
abbrev cX7_number : ByteArray := prog_9_method_10_code
def yX7_number : MethodName := ⟨RX7, "number", "(I)I"⟩
abbrev cX7_time : ByteArray := prog_9_method_11_code
def yX7_time : MethodName := ⟨RX7, "time", "(LHandsAlike$Dial;)I"⟩
abbrev cX7_answer : ByteArray := prog_9_method_12_code
def yX7_answer : MethodName := ⟨RX7, "answer", "(I)I"⟩
def RX8 : String := "HandsAlike$Tally"
def TX8 : u_T := fun k => match k with
  | 0 => ("HandsAlike$Tally", "many", "I", false)
  | _ => ("HandsAlike$Tally", "first", "I", false)
def tyX8 : Nat → FieldType := fun k => match k with
  | 0 => .int
  | _ => .int
abbrev wsX80 : List Cond := u_ws RX8 TX8 2
theorem nmX8 : ∀ a, a < 2 → ∀ b, b < 2 → a ≠ b → (TX8 a).2.1 ≠ (TX8 b).2.1 := by decide +kernel
theorem tyX8_ok : ∀ k, k < 2 → parseFieldDescriptor (TX8 k).2.2.1 = some (tyX8 k) := by decide +kernel
abbrev cX8_init : ByteArray := prog_10_method_1_code
def yX8_init : MethodName := ⟨RX8, "<init>", "()V"⟩
abbrev cX8_begin : ByteArray := prog_10_method_2_code
def yX8_begin : MethodName := ⟨RX8, "begin", "()V"⟩
abbrev cX8_add : ByteArray := prog_10_method_3_code
def yX8_add : MethodName := ⟨RX8, "add", "(I)V"⟩
abbrev cX8_many : ByteArray := prog_10_method_4_code
def yX8_many : MethodName := ⟨RX8, "many", "()I"⟩
abbrev cX8_first : ByteArray := prog_10_method_5_code
def yX8_first : MethodName := ⟨RX8, "first", "()I"⟩
abbrev cX8_answer : ByteArray := prog_10_method_6_code
def yX8_answer : MethodName := ⟨RX8, "answer", "(I)I"⟩
def RX9 : String := "HandsAlike$Tape"
def TX9 : u_T := fun k => match k with
  | 0 => ("HandsAlike$Tape", "bytes", "[I", true)
  | _ => ("HandsAlike$Tape", "length", "I", false)
def tyX9 : Nat → FieldType := fun k => match k with
  | 0 => .array .int
  | _ => .int
abbrev wsX90 : List Cond := u_ws RX9 TX9 2
theorem nmX9 : ∀ a, a < 2 → ∀ b, b < 2 → a ≠ b → (TX9 a).2.1 ≠ (TX9 b).2.1 := by decide +kernel
theorem tyX9_ok : ∀ k, k < 2 → parseFieldDescriptor (TX9 k).2.2.1 = some (tyX9 k) := by decide +kernel
abbrev cX9_init : ByteArray := prog_11_method_1_code
def yX9_init : MethodName := ⟨RX9, "<init>", "()V"⟩
abbrev cX9_size : ByteArray := prog_11_method_2_code
def yX9_size : MethodName := ⟨RX9, "size", "()I"⟩
abbrev cX9_has : ByteArray := prog_11_method_3_code
def yX9_has : MethodName := ⟨RX9, "has", "(I)Z"⟩
abbrev cX9_hasRoom : ByteArray := prog_11_method_4_code
def yX9_hasRoom : MethodName := ⟨RX9, "hasRoom", "(I)Z"⟩
abbrev cX9_add : ByteArray := prog_11_method_5_code
def yX9_add : MethodName := ⟨RX9, "add", "(I)V"⟩
abbrev cX9_at : ByteArray := prog_11_method_6_code
def yX9_at : MethodName := ⟨RX9, "at", "(I)I"⟩
abbrev cX9_empty : ByteArray := prog_11_method_7_code
def yX9_empty : MethodName := ⟨RX9, "empty", "()V"⟩
def RX10 : String := "HandsAlike"
def TX10 : u_T := fun k => match k with
  | 0 => ("HandsAlike", "face", "LHandsAlike$Dial;", true)
  | 1 => ("HandsAlike", "otherFace", "LHandsAlike$Dial;", true)
  | 2 => ("HandsAlike", "looks", "LHandsAlike$Looks;", true)
  | 3 => ("HandsAlike", "bells", "LHandsAlike$Bells;", true)
  | 4 => ("HandsAlike", "album", "LHandsAlike$Album;", true)
  | 5 => ("HandsAlike", "tape", "LHandsAlike$Tape;", true)
  | 6 => ("HandsAlike", "reader", "LHandsAlike$Reader;", true)
  | 7 => ("HandsAlike", "tally", "LHandsAlike$Tally;", true)
  | 8 => ("HandsAlike", "now", "LHandsAlike$Clocks;", true)
  | 9 => ("HandsAlike", "kept", "LHandsAlike$Clocks;", true)
  | 10 => ("HandsAlike", "trial", "LHandsAlike$Clocks;", true)
  | 11 => ("HandsAlike", "facts", "[I", true)
  | 12 => ("HandsAlike", "oneThere", "[I", true)
  | 13 => ("HandsAlike", "otherThere", "[I", true)
  | 14 => ("HandsAlike", "bestTurns", "[I", true)
  | 15 => ("HandsAlike", "rules", "LHandsAlike$Law;", false)
  | 16 => ("HandsAlike", "spareRules", "LHandsAlike$Law;", false)
  | 17 => ("HandsAlike", "diary", "LHandsAlike$Book;", false)
  | 18 => ("HandsAlike", "spareDiary", "LHandsAlike$Book;", false)
  | _ => ("HandsAlike", "keptFace", "[I", true)
def tyX10 : Nat → FieldType := fun k => match k with
  | 0 => .object "HandsAlike$Dial"
  | 1 => .object "HandsAlike$Dial"
  | 2 => .object "HandsAlike$Looks"
  | 3 => .object "HandsAlike$Bells"
  | 4 => .object "HandsAlike$Album"
  | 5 => .object "HandsAlike$Tape"
  | 6 => .object "HandsAlike$Reader"
  | 7 => .object "HandsAlike$Tally"
  | 8 => .object "HandsAlike$Clocks"
  | 9 => .object "HandsAlike$Clocks"
  | 10 => .object "HandsAlike$Clocks"
  | 11 => .array .int
  | 12 => .array .int
  | 13 => .array .int
  | 14 => .array .int
  | 15 => .object "HandsAlike$Law"
  | 16 => .object "HandsAlike$Law"
  | 17 => .object "HandsAlike$Book"
  | 18 => .object "HandsAlike$Book"
  | _ => .array .int
abbrev wsX100 : List Cond := u_ws RX10 TX10 20
theorem nmX10 : ∀ a, a < 20 → ∀ b, b < 20 → a ≠ b → (TX10 a).2.1 ≠ (TX10 b).2.1 := by decide +kernel
theorem tyX10_ok : ∀ k, k < 20 → parseFieldDescriptor (TX10 k).2.2.1 = some (tyX10 k) := by decide +kernel
abbrev cX10_init : ByteArray := prog_1_method_1_code
def yX10_init : MethodName := ⟨RX10, "<init>", "()V"⟩
abbrev cX10_dial : ByteArray := prog_1_method_2_code
def yX10_dial : MethodName := ⟨RX10, "dial", "(II)Z"⟩
abbrev cX10_feed : ByteArray := prog_1_method_3_code
def yX10_feed : MethodName := ⟨RX10, "feed", "(IIIII)I"⟩
abbrev cX10_law : ByteArray := prog_1_method_4_code
def yX10_law : MethodName := ⟨RX10, "law", "(I)I"⟩
abbrev cX10_clocks : ByteArray := prog_1_method_5_code
def yX10_clocks : MethodName := ⟨RX10, "clocks", "(I)I"⟩
abbrev cX10_book : ByteArray := prog_1_method_6_code
def yX10_book : MethodName := ⟨RX10, "book", "(I)I"⟩
abbrev cX10_reads : ByteArray := prog_1_method_7_code
def yX10_reads : MethodName := ⟨RX10, "reads", "(II)I"⟩
abbrev cX10_exchanged : ByteArray := prog_1_method_8_code
def yX10_exchanged : MethodName := ⟨RX10, "exchanged", "(I)I"⟩
abbrev cX10_mirrors : ByteArray := prog_1_method_9_code
def yX10_mirrors : MethodName := ⟨RX10, "mirrors", "(I)I"⟩
abbrev cX10_bestDial : ByteArray := prog_1_method_10_code
def yX10_bestDial : MethodName := ⟨RX10, "bestDial", "(II)I"⟩
abbrev cX10_untold : ByteArray := prog_1_method_11_code
def yX10_untold : MethodName := ⟨RX10, "untold", "(I)I"⟩
abbrev cX10_till : ByteArray := prog_1_method_12_code
def yX10_till : MethodName := ⟨RX10, "till", "(I)I"⟩
abbrev cX10_glance : ByteArray := prog_1_method_13_code
def yX10_glance : MethodName := ⟨RX10, "glance", "(I)I"⟩
abbrev cX10_covered : ByteArray := prog_1_method_14_code
def yX10_covered : MethodName := ⟨RX10, "covered", "(I)I"⟩
abbrev cX10_apart : ByteArray := prog_1_method_15_code
def yX10_apart : MethodName := ⟨RX10, "apart", "(I)I"⟩
abbrev cX10_photographs : ByteArray := prog_1_method_16_code
def yX10_photographs : MethodName := ⟨RX10, "photographs", "(IIII)I"⟩
abbrev cX10_anyOrder : ByteArray := prog_1_method_17_code
def yX10_anyOrder : MethodName := ⟨RX10, "anyOrder", "(IIII)I"⟩
abbrev cX10_quiet : ByteArray := prog_1_method_18_code
def yX10_quiet : MethodName := ⟨RX10, "quiet", "(Z)I"⟩
abbrev cX10_strokesTill : ByteArray := prog_1_method_19_code
def yX10_strokesTill : MethodName := ⟨RX10, "strokesTill", "(IIZ)I"⟩
abbrev cX10_strokes : ByteArray := prog_1_method_20_code
def yX10_strokes : MethodName := ⟨RX10, "strokes", "(IIZ)I"⟩
abbrev cX10_heard : ByteArray := prog_1_method_21_code
def yX10_heard : MethodName := ⟨RX10, "heard", "(IZI)I"⟩
abbrev cX10_listen : ByteArray := prog_1_method_22_code
def yX10_listen : MethodName := ⟨RX10, "listen", "(Z)I"⟩
abbrev cX10_towers : ByteArray := prog_1_method_23_code
def yX10_towers : MethodName := ⟨RX10, "towers", "(IZI)I"⟩
abbrev cX10_wheels : ByteArray := prog_1_method_24_code
def yX10_wheels : MethodName := ⟨RX10, "wheels", "(III)I"⟩
abbrev cX10_shows : ByteArray := prog_1_method_25_code
def yX10_shows : MethodName := ⟨RX10, "shows", "(II)I"⟩
abbrev cX10_clockIs : ByteArray := prog_1_method_26_code
def yX10_clockIs : MethodName := ⟨RX10, "clockIs", "(II)I"⟩
abbrev cX10_agree : ByteArray := prog_1_method_27_code
def yX10_agree : MethodName := ⟨RX10, "agree", "(IIZI)I"⟩
abbrev cX10_agreeing : ByteArray := prog_1_method_28_code
def yX10_agreeing : MethodName := ⟨RX10, "agreeing", "(II)I"⟩
abbrev cX10_all : ByteArray := prog_1_method_29_code
def yX10_all : MethodName := ⟨RX10, "all", "(I)I"⟩
abbrev cX10_nearest : ByteArray := prog_1_method_30_code
def yX10_nearest : MethodName := ⟨RX10, "nearest", "(II)I"⟩
abbrev cX10_most : ByteArray := prog_1_method_31_code
def yX10_most : MethodName := ⟨RX10, "most", "(II)I"⟩
abbrev cX10_pairs : ByteArray := prog_1_method_32_code
def yX10_pairs : MethodName := ⟨RX10, "pairs", "(II)I"⟩
abbrev cX10_spread : ByteArray := prog_1_method_33_code
def yX10_spread : MethodName := ⟨RX10, "spread", "(I)I"⟩
abbrev cX10_goodTimes : ByteArray := prog_1_method_34_code
def yX10_goodTimes : MethodName := ⟨RX10, "goodTimes", "(IIII)I"⟩
abbrev cX10_setBy : ByteArray := prog_1_method_35_code
def yX10_setBy : MethodName := ⟨RX10, "setBy", "(II)Z"⟩
abbrev cX10_appointment : ByteArray := prog_1_method_36_code
def yX10_appointment : MethodName := ⟨RX10, "appointment", "(II)I"⟩
abbrev cX10_meetings : ByteArray := prog_1_method_37_code
def yX10_meetings : MethodName := ⟨RX10, "meetings", "(I)I"⟩
abbrev cX10_days : ByteArray := prog_1_method_38_code
def yX10_days : MethodName := ⟨RX10, "days", "(I)I"⟩
abbrev cX10_tried : ByteArray := prog_1_method_39_code
def yX10_tried : MethodName := ⟨RX10, "tried", "(II)I"⟩
abbrev cX10_together : ByteArray := prog_1_method_40_code
def yX10_together : MethodName := ⟨RX10, "together", "(III)I"⟩
abbrev cX10_seed : ByteArray := prog_1_method_41_code
def yX10_seed : MethodName := ⟨RX10, "seed", "(I)Z"⟩
abbrev cX10_keep : ByteArray := prog_1_method_42_code
def yX10_keep : MethodName := ⟨RX10, "keep", "()I"⟩
abbrev cX10_undo : ByteArray := prog_1_method_43_code
def yX10_undo : MethodName := ⟨RX10, "undo", "()Z"⟩
abbrev cX10_check : ByteArray := prog_1_method_44_code
def yX10_check : MethodName := ⟨RX10, "check", "(I)I"⟩
abbrev cX10_count : ByteArray := prog_1_method_45_code
def yX10_count : MethodName := ⟨RX10, "count", "(I)I"⟩
abbrev cX10_isTwofold : ByteArray := prog_1_method_46_code
def yX10_isTwofold : MethodName := ⟨RX10, "isTwofold", "(I)Z"⟩
abbrev cX10_isMarks : ByteArray := prog_1_method_47_code
def yX10_isMarks : MethodName := ⟨RX10, "isMarks", "(I)Z"⟩
abbrev cX10_isDays : ByteArray := prog_1_method_48_code
def yX10_isDays : MethodName := ⟨RX10, "isDays", "(I)Z"⟩
abbrev cX10_isBetween : ByteArray := prog_1_method_49_code
def yX10_isBetween : MethodName := ⟨RX10, "isBetween", "(II)Z"⟩
abbrev cX10_canRead : ByteArray := prog_1_method_50_code
def yX10_canRead : MethodName := ⟨RX10, "canRead", "(II)Z"⟩
abbrev cX10_findBestTurns : ByteArray := prog_1_method_51_code
def yX10_findBestTurns : MethodName := ⟨RX10, "findBestTurns", "(I)I"⟩
abbrev cX10_countWheels : ByteArray := prog_1_method_52_code
def yX10_countWheels : MethodName := ⟨RX10, "countWheels", "(III)I"⟩
abbrev cX10_passDays : ByteArray := prog_1_method_53_code
def yX10_passDays : MethodName := ⟨RX10, "passDays", "(LHandsAlike$Clocks;I)I"⟩
abbrev cX10_passDay : ByteArray := prog_1_method_54_code
def yX10_passDay : MethodName := ⟨RX10, "passDay", "(LHandsAlike$Clocks;)I"⟩
abbrev cX10_passDayOf : ByteArray := prog_1_method_55_code
def yX10_passDayOf : MethodName := ⟨RX10, "passDayOf", "(ILHandsAlike$Clocks;)Z"⟩
abbrev cX10_within : ByteArray := prog_1_method_56_code
def yX10_within : MethodName := ⟨RX10, "within", "(III)I"⟩
abbrev cX10_through : ByteArray := prog_1_method_57_code
def yX10_through : MethodName := ⟨RX10, "through", "(II)I"⟩
abbrev cX10_modulo : ByteArray := prog_1_method_58_code
def yX10_modulo : MethodName := ⟨RX10, "modulo", "(II)I"⟩
def RX11 : String := "HandsAlikeModel"
def TX11 : u_T := fun k => match k with
  | 0 => ("HandsAlikeModel", "now", "[I", true)
  | 1 => ("HandsAlikeModel", "aside", "[I", true)
  | 2 => ("HandsAlikeModel", "kept", "[I", true)
  | 3 => ("HandsAlikeModel", "bookOne", "[I", true)
  | 4 => ("HandsAlikeModel", "bookOther", "[I", true)
  | 5 => ("HandsAlikeModel", "bookTime", "[I", true)
  | 6 => ("HandsAlikeModel", "bookTicks", "[I", true)
  | 7 => ("HandsAlikeModel", "marks", "I", false)
  | 8 => ("HandsAlikeModel", "rounds", "I", false)
  | 9 => ("HandsAlikeModel", "ticks", "I", false)
  | 10 => ("HandsAlikeModel", "clocksTold", "I", false)
  | 11 => ("HandsAlikeModel", "booked", "I", false)
  | 12 => ("HandsAlikeModel", "lookOf", "[I", true)
  | 13 => ("HandsAlikeModel", "manyOf", "[I", true)
  | 14 => ("HandsAlikeModel", "tryOf", "[I", true)
  | 15 => ("HandsAlikeModel", "tape", "[B", true)
  | 16 => ("HandsAlikeModel", "taped", "I", false)
  | 17 => ("HandsAlikeModel", "place0", "I", false)
  | 18 => ("HandsAlikeModel", "length0", "I", false)
  | 19 => ("HandsAlikeModel", "fault", "I", false)
  | 20 => ("HandsAlikeModel", "number0", "I", false)
  | 21 => ("HandsAlikeModel", "open", "I", false)
  | 22 => ("HandsAlikeModel", "codeMany", "I", false)
  | 23 => ("HandsAlikeModel", "waiting", "I", false)
  | 24 => ("HandsAlikeModel", "saidMany", "I", false)
  | 25 => ("HandsAlikeModel", "clauses", "I", false)
  | 26 => ("HandsAlikeModel", "said", "[I", true)
  | 27 => ("HandsAlikeModel", "waitsAt", "[I", true)
  | 28 => ("HandsAlikeModel", "saidLetter", "[I", true)
  | 29 => ("HandsAlikeModel", "saidFrom", "[I", true)
  | 30 => ("HandsAlikeModel", "saidHalf", "[I", true)
  | 31 => ("HandsAlikeModel", "saidTo", "[I", true)
  | 32 => ("HandsAlikeModel", "codes", "[I", true)
  | 33 => ("HandsAlikeModel", "clauseOf", "[I", true)
  | 34 => ("HandsAlikeModel", "codeFrom", "[I", true)
  | 35 => ("HandsAlikeModel", "codeHalf", "[I", true)
  | 36 => ("HandsAlikeModel", "codeTo", "[I", true)
  | 37 => ("HandsAlikeModel", "stack", "[I", true)
  | 38 => ("HandsAlikeModel", "facts", "[I", true)
  | 39 => ("HandsAlikeModel", "newAhead", "[I", true)
  | 40 => ("HandsAlikeModel", "newGain", "[I", true)
  | 41 => ("HandsAlikeModel", "newOne", "[I", true)
  | 42 => ("HandsAlikeModel", "newOther", "[I", true)
  | 43 => ("HandsAlikeModel", "newTime", "[I", true)
  | 44 => ("HandsAlikeModel", "newTicks", "[I", true)
  | 45 => ("HandsAlikeModel", "newClocks", "I", false)
  | 46 => ("HandsAlikeModel", "newBooked", "I", false)
  | 47 => ("HandsAlikeModel", "lines", "I", false)
  | 48 => ("HandsAlikeModel", "rowsTo", "[J", true)
  | 49 => ("HandsAlikeModel", "rowsThen", "[J", true)
  | 50 => ("HandsAlikeModel", "isStep", "[Z", true)
  | 51 => ("HandsAlikeModel", "canTo", "[Z", true)
  | 52 => ("HandsAlikeModel", "canFrom", "[Z", true)
  | 53 => ("HandsAlikeModel", "timesOf", "[I", true)
  | 54 => ("HandsAlikeModel", "timesMany", "[I", true)
  | 55 => ("HandsAlikeModel", "rowsBy", "[J", true)
  | 56 => ("HandsAlikeModel", "strikeTime", "[I", true)
  | 57 => ("HandsAlikeModel", "strikeMany", "[I", true)
  | 58 => ("HandsAlikeModel", "strikes", "I", false)
  | 59 => ("HandsAlikeModel", "oneThere", "[I", true)
  | 60 => ("HandsAlikeModel", "otherThere", "[I", true)
  | 61 => ("HandsAlikeModel", "setNow", "I", false)
  | 62 => ("HandsAlikeModel", "isKept", "Z", false)
  | 63 => ("HandsAlikeModel", "keptClocks", "I", false)
  | 64 => ("HandsAlikeModel", "keptMarks", "I", false)
  | _ => ("HandsAlikeModel", "keptRounds", "I", false)
def tyX11 : Nat → FieldType := fun k => match k with
  | 0 => .array .int
  | 1 => .array .int
  | 2 => .array .int
  | 3 => .array .int
  | 4 => .array .int
  | 5 => .array .int
  | 6 => .array .int
  | 7 => .int
  | 8 => .int
  | 9 => .int
  | 10 => .int
  | 11 => .int
  | 12 => .array .int
  | 13 => .array .int
  | 14 => .array .int
  | 15 => .array .byte
  | 16 => .int
  | 17 => .int
  | 18 => .int
  | 19 => .int
  | 20 => .int
  | 21 => .int
  | 22 => .int
  | 23 => .int
  | 24 => .int
  | 25 => .int
  | 26 => .array .int
  | 27 => .array .int
  | 28 => .array .int
  | 29 => .array .int
  | 30 => .array .int
  | 31 => .array .int
  | 32 => .array .int
  | 33 => .array .int
  | 34 => .array .int
  | 35 => .array .int
  | 36 => .array .int
  | 37 => .array .int
  | 38 => .array .int
  | 39 => .array .int
  | 40 => .array .int
  | 41 => .array .int
  | 42 => .array .int
  | 43 => .array .int
  | 44 => .array .int
  | 45 => .int
  | 46 => .int
  | 47 => .int
  | 48 => .array .long
  | 49 => .array .long
  | 50 => .array .boolean
  | 51 => .array .boolean
  | 52 => .array .boolean
  | 53 => .array .int
  | 54 => .array .int
  | 55 => .array .long
  | 56 => .array .int
  | 57 => .array .int
  | 58 => .int
  | 59 => .array .int
  | 60 => .array .int
  | 61 => .int
  | 62 => .boolean
  | 63 => .int
  | 64 => .int
  | _ => .int
abbrev wsX110 : List Cond := u_ws RX11 TX11 66
theorem nmX11 : ∀ a, a < 66 → ∀ b, b < 66 → a ≠ b → (TX11 a).2.1 ≠ (TX11 b).2.1 := by decide +kernel
theorem tyX11_ok : ∀ k, k < 66 → parseFieldDescriptor (TX11 k).2.2.1 = some (tyX11 k) := by decide +kernel
abbrev cX11_init : ByteArray := prog_13_method_1_code
def yX11_init : MethodName := ⟨RX11, "<init>", "()V"⟩
abbrev cX11_in : ByteArray := prog_13_method_2_code
def yX11_in : MethodName := ⟨RX11, "in", "(III)Z"⟩
abbrev cX11_min : ByteArray := prog_13_method_3_code
def yX11_min : MethodName := ⟨RX11, "min", "(II)I"⟩
abbrev cX11_max : ByteArray := prog_13_method_4_code
def yX11_max : MethodName := ⟨RX11, "max", "(II)I"⟩
abbrev cX11_size : ByteArray := prog_13_method_5_code
def yX11_size : MethodName := ⟨RX11, "size", "(I)I"⟩
abbrev cX11_has : ByteArray := prog_13_method_6_code
def yX11_has : MethodName := ⟨RX11, "has", "(II)Z"⟩
abbrev cX11_down : ByteArray := prog_13_method_8_code
def yX11_down : MethodName := ⟨RX11, "down", "(II)I"⟩
abbrev cX11_mod : ByteArray := prog_13_method_9_code
def yX11_mod : MethodName := ⟨RX11, "mod", "(II)I"⟩
abbrev cX11_shorter : ByteArray := prog_13_method_10_code
def yX11_shorter : MethodName := ⟨RX11, "shorter", "(III)I"⟩
abbrev cX11_copies : ByteArray := prog_13_method_11_code
def yX11_copies : MethodName := ⟨RX11, "copies", "([I[I)V"⟩
abbrev cX11_isTime : ByteArray := prog_13_method_12_code
def yX11_isTime : MethodName := ⟨RX11, "isTime", "(I)Z"⟩
abbrev cX11_isClock : ByteArray := prog_13_method_13_code
def yX11_isClock : MethodName := ⟨RX11, "isClock", "(I)Z"⟩
abbrev cX11_areTwo : ByteArray := prog_13_method_14_code
def yX11_areTwo : MethodName := ⟨RX11, "areTwo", "(II)Z"⟩
abbrev cX11_lookBy : ByteArray := prog_13_method_15_code
def yX11_lookBy : MethodName := ⟨RX11, "lookBy", "(II)I"⟩
abbrev cX11_longAt : ByteArray := prog_13_method_16_code
def yX11_longAt : MethodName := ⟨RX11, "longAt", "(I)I"⟩
abbrev cX11_shortAt : ByteArray := prog_13_method_17_code
def yX11_shortAt : MethodName := ⟨RX11, "shortAt", "(I)I"⟩
abbrev cX11_laysDial : ByteArray := prog_13_method_18_code
def yX11_laysDial : MethodName := ⟨RX11, "laysDial", "(II)V"⟩
abbrev cX11_dial : ByteArray := prog_13_method_19_code
def yX11_dial : MethodName := ⟨RX11, "dial", "(II)Z"⟩
abbrev cX11_nextAlike : ByteArray := prog_13_method_20_code
def yX11_nextAlike : MethodName := ⟨RX11, "nextAlike", "(I)I"⟩
abbrev cX11_inMirror : ByteArray := prog_13_method_21_code
def yX11_inMirror : MethodName := ⟨RX11, "inMirror", "(I)I"⟩
abbrev cX11_lowestOf : ByteArray := prog_13_method_22_code
def yX11_lowestOf : MethodName := ⟨RX11, "lowestOf", "(I)I"⟩
abbrev cX11_reads : ByteArray := prog_13_method_23_code
def yX11_reads : MethodName := ⟨RX11, "reads", "(II)I"⟩
abbrev cX11_exchanged : ByteArray := prog_13_method_24_code
def yX11_exchanged : MethodName := ⟨RX11, "exchanged", "(I)I"⟩
abbrev cX11_mirrors : ByteArray := prog_13_method_25_code
def yX11_mirrors : MethodName := ⟨RX11, "mirrors", "(I)I"⟩
abbrev cX11_canBeTold : ByteArray := prog_13_method_26_code
def yX11_canBeTold : MethodName := ⟨RX11, "canBeTold", "(I)Z"⟩
abbrev cX11_untoldMany : ByteArray := prog_13_method_27_code
def yX11_untoldMany : MethodName := ⟨RX11, "untoldMany", "()I"⟩
abbrev cX11_untoldBy : ByteArray := prog_13_method_28_code
def yX11_untoldBy : MethodName := ⟨RX11, "untoldBy", "(II)I"⟩
abbrev cX11_bestDial : ByteArray := prog_13_method_29_code
def yX11_bestDial : MethodName := ⟨RX11, "bestDial", "(II)I"⟩
abbrev cX11_longestRow : ByteArray := prog_13_method_30_code
def yX11_longestRow : MethodName := ⟨RX11, "longestRow", "(Z)I"⟩
abbrev cX11_firstUntold : ByteArray := prog_13_method_31_code
def yX11_firstUntold : MethodName := ⟨RX11, "firstUntold", "()I"⟩
abbrev cX11_untold : ByteArray := prog_13_method_32_code
def yX11_untold : MethodName := ⟨RX11, "untold", "(I)I"⟩
abbrev cX11_till : ByteArray := prog_13_method_33_code
def yX11_till : MethodName := ⟨RX11, "till", "(I)I"⟩
abbrev cX11_tells : ByteArray := prog_13_method_34_code
def yX11_tells : MethodName := ⟨RX11, "tells", "(II)Z"⟩
abbrev cX11_glance : ByteArray := prog_13_method_35_code
def yX11_glance : MethodName := ⟨RX11, "glance", "(I)I"⟩
abbrev cX11_covered : ByteArray := prog_13_method_36_code
def yX11_covered : MethodName := ⟨RX11, "covered", "(I)I"⟩
abbrev cX11_apart : ByteArray := prog_13_method_37_code
def yX11_apart : MethodName := ⟨RX11, "apart", "(I)I"⟩
abbrev cX11_types : ByteArray := prog_13_method_38_code
def yX11_types : MethodName := ⟨RX11, "types", "(I)V"⟩
abbrev cX11_feed : ByteArray := prog_13_method_39_code
def yX11_feed : MethodName := ⟨RX11, "feed", "(IIIII)I"⟩
abbrev cX11_octet : ByteArray := prog_13_method_40_code
def yX11_octet : MethodName := ⟨RX11, "octet", "(I)I"⟩
abbrev cX11_here : ByteArray := prog_13_method_41_code
def yX11_here : MethodName := ⟨RX11, "here", "()I"⟩
abbrev cX11_isDigit : ByteArray := prog_13_method_42_code
def yX11_isDigit : MethodName := ⟨RX11, "isDigit", "()Z"⟩
abbrev cX11_wrongAt : ByteArray := prog_13_method_43_code
def yX11_wrongAt : MethodName := ⟨RX11, "wrongAt", "(II)Z"⟩
abbrev cX11_takes : ByteArray := prog_13_method_44_code
def yX11_takes : MethodName := ⟨RX11, "takes", "(I)Z"⟩
abbrev cX11_readsNumber : ByteArray := prog_13_method_45_code
def yX11_readsNumber : MethodName := ⟨RX11, "readsNumber", "()Z"⟩
abbrev cX11_notes : ByteArray := prog_13_method_46_code
def yX11_notes : MethodName := ⟨RX11, "notes", "(II)V"⟩
abbrev cX11_opens : ByteArray := prog_13_method_47_code
def yX11_opens : MethodName := ⟨RX11, "opens", "(I)Z"⟩
abbrev cX11_waitTop : ByteArray := prog_13_method_48_code
def yX11_waitTop : MethodName := ⟨RX11, "waitTop", "()I"⟩
abbrev cX11_factOf : ByteArray := prog_13_method_49_code
def yX11_factOf : MethodName := ⟨RX11, "factOf", "(I)I"⟩
abbrev cX11_sumSign : ByteArray := prog_13_method_50_code
def yX11_sumSign : MethodName := ⟨RX11, "sumSign", "(I)I"⟩
abbrev cX11_closesSums : ByteArray := prog_13_method_51_code
def yX11_closesSums : MethodName := ⟨RX11, "closesSums", "(Z)V"⟩
abbrev cX11_readsFactor : ByteArray := prog_13_method_52_code
def yX11_readsFactor : MethodName := ⟨RX11, "readsFactor", "()Z"⟩
abbrev cX11_hasOpenSum : ByteArray := prog_13_method_53_code
def yX11_hasOpenSum : MethodName := ⟨RX11, "hasOpenSum", "(I)Z"⟩
abbrev cX11_readsSum : ByteArray := prog_13_method_54_code
def yX11_readsSum : MethodName := ⟨RX11, "readsSum", "()Z"⟩
abbrev cX11_endsPiece : ByteArray := prog_13_method_55_code
def yX11_endsPiece : MethodName := ⟨RX11, "endsPiece", "()V"⟩
abbrev cX11_lands : ByteArray := prog_13_method_56_code
def yX11_lands : MethodName := ⟨RX11, "lands", "(Z)V"⟩
abbrev cX11_jumps : ByteArray := prog_13_method_57_code
def yX11_jumps : MethodName := ⟨RX11, "jumps", "(I)V"⟩
abbrev cX11_readsCompared : ByteArray := prog_13_method_58_code
def yX11_readsCompared : MethodName := ⟨RX11, "readsCompared", "()Z"⟩
abbrev cX11_readsCondition : ByteArray := prog_13_method_59_code
def yX11_readsCondition : MethodName := ⟨RX11, "readsCondition", "()Z"⟩
abbrev cX11_readsRule : ByteArray := prog_13_method_60_code
def yX11_readsRule : MethodName := ⟨RX11, "readsRule", "()Z"⟩
abbrev cX11_beginsText : ByteArray := prog_13_method_61_code
def yX11_beginsText : MethodName := ⟨RX11, "beginsText", "(I)V"⟩
abbrev cX11_law : ByteArray := prog_13_method_62_code
def yX11_law : MethodName := ⟨RX11, "law", "(I)I"⟩
abbrev cX11_reckon : ByteArray := prog_13_method_63_code
def yX11_reckon : MethodName := ⟨RX11, "reckon", "(III)I"⟩
abbrev cX11_reckonsTo : ByteArray := prog_13_method_64_code
def yX11_reckonsTo : MethodName := ⟨RX11, "reckonsTo", "(II)I"⟩
abbrev cX11_byLaw : ByteArray := prog_13_method_65_code
def yX11_byLaw : MethodName := ⟨RX11, "byLaw", "(II)I"⟩
abbrev cX11_holdsAny : ByteArray := prog_13_method_66_code
def yX11_holdsAny : MethodName := ⟨RX11, "holdsAny", "(I)Z"⟩
abbrev cX11_readsAmount : ByteArray := prog_13_method_67_code
def yX11_readsAmount : MethodName := ⟨RX11, "readsAmount", "(I)Z"⟩
abbrev cX11_readsTime : ByteArray := prog_13_method_68_code
def yX11_readsTime : MethodName := ⟨RX11, "readsTime", "()Z"⟩
abbrev cX11_readsClock : ByteArray := prog_13_method_69_code
def yX11_readsClock : MethodName := ⟨RX11, "readsClock", "()Z"⟩
abbrev cX11_clocks : ByteArray := prog_13_method_70_code
def yX11_clocks : MethodName := ⟨RX11, "clocks", "(I)I"⟩
abbrev cX11_readsAppointment : ByteArray := prog_13_method_71_code
def yX11_readsAppointment : MethodName := ⟨RX11, "readsAppointment", "()Z"⟩
abbrev cX11_book : ByteArray := prog_13_method_72_code
def yX11_book : MethodName := ⟨RX11, "book", "(I)I"⟩
abbrev cX11_lookIn : ByteArray := prog_13_method_73_code
def yX11_lookIn : MethodName := ⟨RX11, "lookIn", "(I)I"⟩
abbrev cX11_laysSteps : ByteArray := prog_13_method_74_code
def yX11_laysSteps : MethodName := ⟨RX11, "laysSteps", "(II)V"⟩
abbrev cX11_areMarks : ByteArray := prog_13_method_75_code
def yX11_areMarks : MethodName := ⟨RX11, "areMarks", "(I)Z"⟩
abbrev cX11_goesTo : ByteArray := prog_13_method_76_code
def yX11_goesTo : MethodName := ⟨RX11, "goesTo", "(I)J"⟩
abbrev cX11_beginsWith : ByteArray := prog_13_method_77_code
def yX11_beginsWith : MethodName := ⟨RX11, "beginsWith", "(I)J"⟩
abbrev cX11_laysCan : ByteArray := prog_13_method_78_code
def yX11_laysCan : MethodName := ⟨RX11, "laysCan", "(I)V"⟩
abbrev cX11_comesBy : ByteArray := prog_13_method_79_code
def yX11_comesBy : MethodName := ⟨RX11, "comesBy", "(II)Z"⟩
abbrev cX11_goesBy : ByteArray := prog_13_method_80_code
def yX11_goesBy : MethodName := ⟨RX11, "goesBy", "(II)Z"⟩
abbrev cX11_sureOf : ByteArray := prog_13_method_81_code
def yX11_sureOf : MethodName := ⟨RX11, "sureOf", "(I)I"⟩
abbrev cX11_photographs : ByteArray := prog_13_method_82_code
def yX11_photographs : MethodName := ⟨RX11, "photographs", "(IIII)I"⟩
abbrev cX11_laysTimes : ByteArray := prog_13_method_83_code
def yX11_laysTimes : MethodName := ⟨RX11, "laysTimes", "(I)V"⟩
abbrev cX11_stateOf : ByteArray := prog_13_method_84_code
def yX11_stateOf : MethodName := ⟨RX11, "stateOf", "(III)I"⟩
abbrev cX11_rowsFrom : ByteArray := prog_13_method_85_code
def yX11_rowsFrom : MethodName := ⟨RX11, "rowsFrom", "(II)J"⟩
abbrev cX11_rowsInto : ByteArray := prog_13_method_86_code
def yX11_rowsInto : MethodName := ⟨RX11, "rowsInto", "(III)J"⟩
abbrev cX11_anyOrder : ByteArray := prog_13_method_87_code
def yX11_anyOrder : MethodName := ⟨RX11, "anyOrder", "(IIII)I"⟩
abbrev cX11_strokesAt : ByteArray := prog_13_method_88_code
def yX11_strokesAt : MethodName := ⟨RX11, "strokesAt", "(IZ)I"⟩
abbrev cX11_strokes : ByteArray := prog_13_method_89_code
def yX11_strokes : MethodName := ⟨RX11, "strokes", "(IIZ)I"⟩
abbrev cX11_laysStrikes : ByteArray := prog_13_method_90_code
def yX11_laysStrikes : MethodName := ⟨RX11, "laysStrikes", "(Z)V"⟩
abbrev cX11_quiet : ByteArray := prog_13_method_91_code
def yX11_quiet : MethodName := ⟨RX11, "quiet", "(Z)I"⟩
abbrev cX11_strokesTill : ByteArray := prog_13_method_92_code
def yX11_strokesTill : MethodName := ⟨RX11, "strokesTill", "(IIZ)I"⟩
abbrev cX11_isHeardFrom : ByteArray := prog_13_method_93_code
def yX11_isHeardFrom : MethodName := ⟨RX11, "isHeardFrom", "(II)Z"⟩
abbrev cX11_heard : ByteArray := prog_13_method_94_code
def yX11_heard : MethodName := ⟨RX11, "heard", "(IZI)I"⟩
abbrev cX11_soundAlike : ByteArray := prog_13_method_95_code
def yX11_soundAlike : MethodName := ⟨RX11, "soundAlike", "(III)Z"⟩
abbrev cX11_listen : ByteArray := prog_13_method_96_code
def yX11_listen : MethodName := ⟨RX11, "listen", "(Z)I"⟩
abbrev cX11_towers : ByteArray := prog_13_method_97_code
def yX11_towers : MethodName := ⟨RX11, "towers", "(IZI)I"⟩
abbrev cX11_wheels : ByteArray := prog_13_method_98_code
def yX11_wheels : MethodName := ⟨RX11, "wheels", "(III)I"⟩
abbrev cX11_showsAt : ByteArray := prog_13_method_99_code
def yX11_showsAt : MethodName := ⟨RX11, "showsAt", "(II)I"⟩
abbrev cX11_shows : ByteArray := prog_13_method_100_code
def yX11_shows : MethodName := ⟨RX11, "shows", "(II)I"⟩
abbrev cX11_rightMany : ByteArray := prog_13_method_101_code
def yX11_rightMany : MethodName := ⟨RX11, "rightMany", "(I)I"⟩
abbrev cX11_firstRight : ByteArray := prog_13_method_102_code
def yX11_firstRight : MethodName := ⟨RX11, "firstRight", "(I)I"⟩
abbrev cX11_clockIs : ByteArray := prog_13_method_103_code
def yX11_clockIs : MethodName := ⟨RX11, "clockIs", "(II)I"⟩
abbrev cX11_agreeAt : ByteArray := prog_13_method_104_code
def yX11_agreeAt : MethodName := ⟨RX11, "agreeAt", "(IIZI)Z"⟩
abbrev cX11_agree : ByteArray := prog_13_method_105_code
def yX11_agree : MethodName := ⟨RX11, "agree", "(IIZI)I"⟩
abbrev cX11_agreeing : ByteArray := prog_13_method_106_code
def yX11_agreeing : MethodName := ⟨RX11, "agreeing", "(II)I"⟩
abbrev cX11_allAgreeAt : ByteArray := prog_13_method_107_code
def yX11_allAgreeAt : MethodName := ⟨RX11, "allAgreeAt", "(I)Z"⟩
abbrev cX11_all : ByteArray := prog_13_method_108_code
def yX11_all : MethodName := ⟨RX11, "all", "(I)I"⟩
abbrev cX11_offAt : ByteArray := prog_13_method_109_code
def yX11_offAt : MethodName := ⟨RX11, "offAt", "(II)I"⟩
abbrev cX11_nearest : ByteArray := prog_13_method_110_code
def yX11_nearest : MethodName := ⟨RX11, "nearest", "(II)I"⟩
abbrev cX11_howManyShow : ByteArray := prog_13_method_111_code
def yX11_howManyShow : MethodName := ⟨RX11, "howManyShow", "(II)I"⟩
abbrev cX11_most : ByteArray := prog_13_method_112_code
def yX11_most : MethodName := ⟨RX11, "most", "(II)I"⟩
abbrev cX11_pairs : ByteArray := prog_13_method_113_code
def yX11_pairs : MethodName := ⟨RX11, "pairs", "(II)I"⟩
abbrev cX11_reachFrom : ByteArray := prog_13_method_114_code
def yX11_reachFrom : MethodName := ⟨RX11, "reachFrom", "(II)I"⟩
abbrev cX11_spread : ByteArray := prog_13_method_115_code
def yX11_spread : MethodName := ⟨RX11, "spread", "(I)I"⟩
abbrev cX11_thereAt : ByteArray := prog_13_method_116_code
def yX11_thereAt : MethodName := ⟨RX11, "thereAt", "(II)I"⟩
abbrev cX11_isMet : ByteArray := prog_13_method_117_code
def yX11_isMet : MethodName := ⟨RX11, "isMet", "(III)Z"⟩
abbrev cX11_isMetAt : ByteArray := prog_13_method_118_code
def yX11_isMetAt : MethodName := ⟨RX11, "isMetAt", "(I)Z"⟩
abbrev cX11_waitedAt : ByteArray := prog_13_method_119_code
def yX11_waitedAt : MethodName := ⟨RX11, "waitedAt", "(I)I"⟩
abbrev cX11_appointment : ByteArray := prog_13_method_120_code
def yX11_appointment : MethodName := ⟨RX11, "appointment", "(II)I"⟩
abbrev cX11_metInAll : ByteArray := prog_13_method_121_code
def yX11_metInAll : MethodName := ⟨RX11, "metInAll", "()I"⟩
abbrev cX11_waitedInAll : ByteArray := prog_13_method_122_code
def yX11_waitedInAll : MethodName := ⟨RX11, "waitedInAll", "()I"⟩
abbrev cX11_meetings : ByteArray := prog_13_method_123_code
def yX11_meetings : MethodName := ⟨RX11, "meetings", "(I)I"⟩
abbrev cX11_laysThere : ByteArray := prog_13_method_124_code
def yX11_laysThere : MethodName := ⟨RX11, "laysThere", "(I[I)V"⟩
abbrev cX11_goodTimes : ByteArray := prog_13_method_125_code
def yX11_goodTimes : MethodName := ⟨RX11, "goodTimes", "(IIII)I"⟩
abbrev cX11_setBy : ByteArray := prog_13_method_126_code
def yX11_setBy : MethodName := ⟨RX11, "setBy", "(II)Z"⟩
abbrev cX11_isSet : ByteArray := prog_13_method_127_code
def yX11_isSet : MethodName := ⟨RX11, "isSet", "(I)V"⟩
abbrev cX11_likeAhead : ByteArray := prog_13_method_128_code
def yX11_likeAhead : MethodName := ⟨RX11, "likeAhead", "(I)I"⟩
abbrev cX11_feels : ByteArray := prog_13_method_129_code
def yX11_feels : MethodName := ⟨RX11, "feels", "(I)V"⟩
abbrev cX11_goesOn : ByteArray := prog_13_method_130_code
def yX11_goesOn : MethodName := ⟨RX11, "goesOn", "(I)V"⟩
abbrev cX11_dayGoes : ByteArray := prog_13_method_131_code
def yX11_dayGoes : MethodName := ⟨RX11, "dayGoes", "()V"⟩
abbrev cX11_daysGo : ByteArray := prog_13_method_132_code
def yX11_daysGo : MethodName := ⟨RX11, "daysGo", "(I)V"⟩
abbrev cX11_days : ByteArray := prog_13_method_133_code
def yX11_days : MethodName := ⟨RX11, "days", "(I)I"⟩
abbrev cX11_tried : ByteArray := prog_13_method_134_code
def yX11_tried : MethodName := ⟨RX11, "tried", "(II)I"⟩
abbrev cX11_together : ByteArray := prog_13_method_135_code
def yX11_together : MethodName := ⟨RX11, "together", "(III)I"⟩
abbrev cX11_seed : ByteArray := prog_13_method_136_code
def yX11_seed : MethodName := ⟨RX11, "seed", "(I)Z"⟩
abbrev cX11_keep : ByteArray := prog_13_method_137_code
def yX11_keep : MethodName := ⟨RX11, "keep", "()I"⟩
abbrev cX11_undo : ByteArray := prog_13_method_138_code
def yX11_undo : MethodName := ⟨RX11, "undo", "()Z"⟩
abbrev cX11_check : ByteArray := prog_13_method_139_code
def yX11_check : MethodName := ⟨RX11, "check", "(I)I"⟩
abbrev cX11_setOfAll : ByteArray := prog_13_method_140_code
def yX11_setOfAll : MethodName := ⟨RX11, "setOfAll", "()I"⟩
abbrev cX11_count : ByteArray := prog_13_method_141_code
def yX11_count : MethodName := ⟨RX11, "count", "(I)I"⟩
def RJ11 : String := "java/lang/Character"
def TJ11 : u_T := fun k => match k with
  | _ => ("", "", "", false)
def tyJ11 : Nat → FieldType := fun k => match k with
  | _ => .int
abbrev wsJ110 : List Cond := u_ws RJ11 TJ11 0
theorem nmJ11 : ∀ a, a < 0 → ∀ b, b < 0 → a ≠ b → (TJ11 a).2.1 ≠ (TJ11 b).2.1 := by decide +kernel
theorem tyJ11_ok : ∀ k, k < 0 → parseFieldDescriptor (TJ11 k).2.2.1 = some (tyJ11 k) := by decide +kernel
abbrev cJ11_isValidCodePoint_9a6ad : ByteArray := prog_14_method_11_code
def yJ11_isValidCodePoint_9a6ad : MethodName := ⟨RJ11, "isValidCodePoint", "(I)Z"⟩
abbrev cJ11_highSurrogate_5068e : ByteArray := prog_14_method_28_code
def yJ11_highSurrogate_5068e : MethodName := ⟨RJ11, "highSurrogate", "(I)C"⟩
abbrev cJ11_lowSurrogate_5068e : ByteArray := prog_14_method_29_code
def yJ11_lowSurrogate_5068e : MethodName := ⟨RJ11, "lowSurrogate", "(I)C"⟩
def RJ9 : String := "java/lang/Math"
def TJ9 : u_T := fun k => match k with
  | _ => ("", "", "", false)
def tyJ9 : Nat → FieldType := fun k => match k with
  | _ => .int
abbrev wsJ90 : List Cond := u_ws RJ9 TJ9 0
theorem nmJ9 : ∀ a, a < 0 → ∀ b, b < 0 → a ≠ b → (TJ9 a).2.1 ≠ (TJ9 b).2.1 := by decide +kernel
theorem tyJ9_ok : ∀ k, k < 0 → parseFieldDescriptor (TJ9 k).2.2.1 = some (tyJ9 k) := by decide +kernel
abbrev cJ9_floorDiv_7cf53 : ByteArray := prog_15_method_47_code
def yJ9_floorDiv_7cf53 : MethodName := ⟨RJ9, "floorDiv", "(II)I"⟩
abbrev cJ9_abs_0f7a4 : ByteArray := prog_15_method_59_code
def yJ9_abs_0f7a4 : MethodName := ⟨RJ9, "abs", "(I)I"⟩
abbrev cJ9_max_7cf53 : ByteArray := prog_15_method_65_code
def yJ9_max_7cf53 : MethodName := ⟨RJ9, "max", "(II)I"⟩
abbrev cJ9_min_7cf53 : ByteArray := prog_15_method_69_code
def yJ9_min_7cf53 : MethodName := ⟨RJ9, "min", "(II)I"⟩
abbrev cJ9_min_f86c9 : ByteArray := prog_15_method_70_code
def yJ9_min_f86c9 : MethodName := ⟨RJ9, "min", "(JJ)J"⟩
def RJ0 : String := "java/lang/String"
def TJ0 : u_T := fun k => match k with
  | _ => ("", "", "", false)
def tyJ0 : Nat → FieldType := fun k => match k with
  | _ => .int
abbrev wsJ00 : List Cond := u_ws RJ0 TJ0 0
theorem nmJ0 : ∀ a, a < 0 → ∀ b, b < 0 → a ≠ b → (TJ0 a).2.1 ≠ (TJ0 b).2.1 := by decide +kernel
theorem tyJ0_ok : ∀ k, k < 0 → parseFieldDescriptor (TJ0 k).2.2.1 = some (tyJ0 k) := by decide +kernel
abbrev cJ0_length_8abf5 : ByteArray := prog_16_method_54_code
def yJ0_length_8abf5 : MethodName := ⟨RJ0, "length", "()I"⟩
abbrev cJ0_indexOf_0f7a4 : ByteArray := prog_16_method_79_code
def yJ0_indexOf_0f7a4 : MethodName := ⟨RJ0, "indexOf", "(I)I"⟩
abbrev cJ0_indexOf_7cf53 : ByteArray := prog_16_method_80_code
def yJ0_indexOf_7cf53 : MethodName := ⟨RJ0, "indexOf", "(II)I"⟩
abbrev cJ0_coder_7d493 : ByteArray := prog_16_method_152_code
def yJ0_coder_7d493 : MethodName := ⟨RJ0, "coder", "()B"⟩
abbrev cJ0_isLatin1_aae02 : ByteArray := prog_16_method_154_code
def yJ0_isLatin1_aae02 : MethodName := ⟨RJ0, "isLatin1", "()Z"⟩
abbrev cJ0_checkBoundsBeginEnd_23922 : ByteArray := prog_16_method_158_code
def yJ0_checkBoundsBeginEnd_23922 : MethodName := ⟨RJ0, "checkBoundsBeginEnd", "(III)V"⟩
def RJ1 : String := "java/lang/StringLatin1"
def TJ1 : u_T := fun k => match k with
  | _ => ("", "", "", false)
def tyJ1 : Nat → FieldType := fun k => match k with
  | _ => .int
abbrev wsJ10 : List Cond := u_ws RJ1 TJ1 0
theorem nmJ1 : ∀ a, a < 0 → ∀ b, b < 0 → a ≠ b → (TJ1 a).2.1 ≠ (TJ1 b).2.1 := by decide +kernel
theorem tyJ1_ok : ∀ k, k < 0 → parseFieldDescriptor (TJ1 k).2.2.1 = some (tyJ1 k) := by decide +kernel
abbrev cJ1_canEncode_9a6ad : ByteArray := prog_17_method_4_code
def yJ1_canEncode_9a6ad : MethodName := ⟨RJ1, "canEncode", "(I)Z"⟩
abbrev cJ1_indexOf_4cfef : ByteArray := prog_17_method_22_code
def yJ1_indexOf_4cfef : MethodName := ⟨RJ1, "indexOf", "([BIII)I"⟩
abbrev cJ1_indexOfChar_4cfef : ByteArray := prog_17_method_23_code
def yJ1_indexOfChar_4cfef : MethodName := ⟨RJ1, "indexOfChar", "([BIII)I"⟩
def RJ2 : String := "java/lang/StringUTF16"
def TJ2 : u_T := fun k => match k with
  | _ => ("", "", "", false)
def tyJ2 : Nat → FieldType := fun k => match k with
  | _ => .int
abbrev wsJ20 : List Cond := u_ws RJ2 TJ2 0
theorem nmJ2 : ∀ a, a < 0 → ∀ b, b < 0 → a ≠ b → (TJ2 a).2.1 ≠ (TJ2 b).2.1 := by decide +kernel
theorem tyJ2_ok : ∀ k, k < 0 → parseFieldDescriptor (TJ2 k).2.2.1 = some (tyJ2 k) := by decide +kernel
abbrev cJ2_getChar_3b067 : ByteArray := prog_18_method_5_code
def yJ2_getChar_3b067 : MethodName := ⟨RJ2, "getChar", "([BI)C"⟩
abbrev cJ2_length_9d52b : ByteArray := prog_18_method_6_code
def yJ2_length_9d52b : MethodName := ⟨RJ2, "length", "([B)I"⟩
abbrev cJ2_indexOf_4cfef : ByteArray := prog_18_method_40_code
def yJ2_indexOf_4cfef : MethodName := ⟨RJ2, "indexOf", "([BIII)I"⟩
abbrev cJ2_indexOfChar_4cfef : ByteArray := prog_18_method_47_code
def yJ2_indexOfChar_4cfef : MethodName := ⟨RJ2, "indexOfChar", "([BIII)I"⟩
abbrev cJ2_indexOfCharUnsafe_4cfef : ByteArray := prog_18_method_48_code
def yJ2_indexOfCharUnsafe_4cfef : MethodName := ⟨RJ2, "indexOfCharUnsafe", "([BIII)I"⟩
abbrev cJ2_indexOfSupplementary_4cfef : ByteArray := prog_18_method_49_code
def yJ2_indexOfSupplementary_4cfef : MethodName := ⟨RJ2, "indexOfSupplementary", "([BIII)I"⟩
abbrev cJ2_checkBoundsBeginEnd_d044e : ByteArray := prog_18_method_93_code
def yJ2_checkBoundsBeginEnd_d044e : MethodName := ⟨RJ2, "checkBoundsBeginEnd", "(II[B)V"⟩
def RJ3 : String := "jdk/internal/util/Preconditions"
def TJ3 : u_T := fun k => match k with
  | _ => ("", "", "", false)
def tyJ3 : Nat → FieldType := fun k => match k with
  | _ => .int
abbrev wsJ30 : List Cond := u_ws RJ3 TJ3 0
theorem nmJ3 : ∀ a, a < 0 → ∀ b, b < 0 → a ≠ b → (TJ3 a).2.1 ≠ (TJ3 b).2.1 := by decide +kernel
theorem tyJ3_ok : ∀ k, k < 0 → parseFieldDescriptor (TJ3 k).2.2.1 = some (tyJ3 k) := by decide +kernel
abbrev cJ3_checkFromToIndex_8c36e : ByteArray := prog_19_method_12_code
def yJ3_checkFromToIndex_8c36e : MethodName := ⟨RJ3, "checkFromToIndex", "(IIILjava/util/function/BiFunction;)I"⟩
def RL : String := "HandsAlikeLaw"
abbrev cL_law : ByteArray := code
def yL_law : MethodName := ⟨RL, "law", "([I)Z"⟩
end
section
abbrev si_E : Type := Instr × Nat × Nat × Nat × Nat
abbrev si_M : Type := Nat × MethodName × ByteArray × Nat × Option FieldType × Nat × Nat × List Nat
def si_own : List String := [RX0, RX1, RX2, RX3, RX4, RX5, RX6, RX7, RX8, RX9, RX10, RX11, RL, RJ9]
abbrev si_cl : List vw_C := [(RX0, TX0, 9), (RX1, TX1, 1), (RX2, TX2, 6), (RX3, TX3, 7), (RX4, TX4, 2), (RX5, TX5, 9), (RX6, TX6, 2), (RX7, TX7, 4), (RX8, TX8, 2), (RX9, TX9, 2), (RX10, TX10, 20), (RX11, TX11, 66)]
def cd_0 : List (List (Option si_E)) := [[some (.aload_n 0, 1, 0, 0, 0), some (.invokespecial 5, 3, 0, 9, 190), none, none, some (.aload_n 0, 1, 0, 0, 0), some (.bipush 96, 2, 0, 0, 0), none, some (.newarray .int, 2, 0, 0, 174), none, some (.putfield 13, 3, 0, 1, 192), none, none, some (.aload_n 0, 1, 0, 0, 0), some (.bipush 8, 2, 0, 0, 0), none, some (.newarray .int, 2, 0, 0, 174), none, some (.putfield 17, 3, 0, 2, 193), none, none, some (.aload_n 0, 1, 0, 0, 0), some (.bipush 96, 2, 0, 0, 0), none, some (.newarray .long, 2, 0, 0, 219), none, some (.putfield 20, 3, 0, 3, 194), none, none, some (.aload_n 0, 1, 0, 0, 0), some (.bipush 96, 2, 0, 0, 0), none, some (.newarray .long, 2, 0, 0, 219)], [none, some (.putfield 24, 3, 0, 4, 195), none, none, some (.aload_n 0, 1, 0, 0, 0), some (.sipush 4608, 3, 0, 0, 0), none, none, some (.newarray .long, 2, 0, 0, 219), none, some (.putfield 27, 3, 0, 5, 196), none, none, some (.aload_n 0, 1, 0, 0, 0), some (.aload_n 1, 1, 0, 0, 0), some (.putfield 30, 3, 0, 0, 191), none, none, some (.return_, 1, 0, 0, 0)]]
def cd_1 : List (List (Option si_E)) := [[some (.aload_n 0, 1, 0, 0, 0), some (.iload_n 2, 1, 0, 0, 0), some (.bipush 8, 2, 0, 0, 0), none, some (.invokestatic 34, 3, 344, 0, 888), none, none, some (.putfield 40, 3, 0, 6, 197), none, none, some (.aload_n 0, 1, 0, 0, 0), some (.iload_n 3, 1, 0, 0, 0), some (.putfield 44, 3, 0, 7, 198), none, none, some (.aload_n 0, 1, 0, 0, 0), some (.iload 4, 2, 0, 0, 0), none, some (.putfield 47, 3, 0, 8, 199), none, none, some (.iconst 0, 1, 0, 0, 0), some (.istore 5, 2, 0, 0, 0), none, some (.iload 5, 2, 0, 0, 0), none, some (.iconst 2, 1, 0, 0, 0), some (.aload_n 0, 1, 0, 0, 0), some (.getfield 40, 3, 0, 6, 197), none, none, some (.imul, 1, 0, 0, 0)], [some (.if_icmp .ge 36, 3, 0, 0, 0), none, none, some (.aload_n 1, 1, 0, 0, 0), some (.iload 5, 2, 0, 0, 0), none, some (.invokevirtual 50, 3, 141, 0, 889), none, none, some (.ifCond .lt 19, 3, 0, 0, 0), none, none, some (.aload_n 1, 1, 0, 0, 0), some (.iload 5, 2, 0, 0, 0), none, some (.invokevirtual 50, 3, 141, 0, 889), none, none, some (.aload_n 0, 1, 0, 0, 0), some (.getfield 30, 3, 0, 0, 191), none, none, some (.getfield 56, 3, 4, 0, 150), none, none, some (.if_icmp .lt 5, 3, 0, 0, 0), none, none, some (.iconst 0, 1, 0, 0, 0), some (.ireturn, 1, 0, 0, 0), some (.iinc 5 1, 3, 0, 0, 0), none], [none, some (.goto (-41), 3, 0, 0, 0), none, none, some (.iconst 0, 1, 0, 0, 0), some (.istore 5, 2, 0, 0, 0), none, some (.iload 5, 2, 0, 0, 0), none, some (.aload_n 0, 1, 0, 0, 0), some (.getfield 40, 3, 0, 6, 197), none, none, some (.if_icmp .ge 59, 3, 0, 0, 0), none, none, some (.aload_n 0, 1, 0, 0, 0), some (.getfield 30, 3, 0, 0, 191), none, none, some (.aload_n 1, 1, 0, 0, 0), some (.iconst 2, 1, 0, 0, 0), some (.iload 5, 2, 0, 0, 0), none, some (.imul, 1, 0, 0, 0), some (.invokevirtual 50, 3, 141, 0, 889), none, none, some (.aload_n 1, 1, 0, 0, 0), some (.iconst 2, 1, 0, 0, 0), some (.iload 5, 2, 0, 0, 0), none], [some (.imul, 1, 0, 0, 0), some (.iconst 1, 1, 0, 0, 0), some (.iadd, 1, 0, 0, 0), some (.invokevirtual 50, 3, 141, 0, 889), none, none, some (.aload_n 0, 1, 0, 0, 0), some (.getfield 13, 3, 0, 1, 192), none, none, some (.iload 5, 2, 0, 0, 0), none, some (.bipush 12, 2, 0, 0, 0), none, some (.imul, 1, 0, 0, 0), some (.invokevirtual 59, 3, 89, 0, 893), none, none, some (.istore 6, 2, 0, 0, 0), none, some (.aload_n 0, 1, 0, 0, 0), some (.getfield 17, 3, 0, 2, 193), none, none, some (.iload 5, 2, 0, 0, 0), none, some (.iload 6, 2, 0, 0, 0), none, some (.bipush 12, 2, 0, 0, 0), none, some (.invokestatic 34, 3, 344, 0, 888), none], [none, some (.iastore, 1, 0, 0, 0), some (.iinc 5 1, 3, 0, 0, 0), none, none, some (.goto (-62), 3, 0, 0, 0), none, none, some (.iconst 1, 1, 0, 0, 0), some (.ireturn, 1, 0, 0, 0)]]
def cd_2 : List (List (Option si_E)) := [[some (.aload_n 0, 1, 0, 0, 0), some (.getfield 44, 3, 0, 7, 198), none, none, some (.aload_n 0, 1, 0, 0, 0), some (.getfield 30, 3, 0, 0, 191), none, none, some (.iload_n 2, 1, 0, 0, 0), some (.iload_n 1, 1, 0, 0, 0), some (.isub, 1, 0, 0, 0), some (.aload_n 0, 1, 0, 0, 0), some (.getfield 44, 3, 0, 7, 198), none, none, some (.isub, 1, 0, 0, 0), some (.invokevirtual 63, 3, 75, 0, 906), none, none, some (.iadd, 1, 0, 0, 0), some (.aload_n 0, 1, 0, 0, 0), some (.getfield 47, 3, 0, 8, 199), none, none, some (.if_icmp .gt 7, 3, 0, 0, 0), none, none, some (.iconst 1, 1, 0, 0, 0), some (.goto 4, 3, 0, 0, 0), none, none, some (.iconst 0, 1, 0, 0, 0)], [some (.ireturn, 1, 0, 0, 0)]]
def cd_3 : List (List (Option si_E)) := [[some (.iconst 0, 1, 0, 0, 0), some (.istore_n 1, 1, 0, 0, 0), some (.iload_n 1, 1, 0, 0, 0), some (.aload_n 0, 1, 0, 0, 0), some (.getfield 40, 3, 0, 6, 197), none, none, some (.if_icmp .ge 124, 3, 0, 0, 0), none, none, some (.iconst 0, 1, 0, 0, 0), some (.istore_n 2, 1, 0, 0, 0), some (.iload_n 2, 1, 0, 0, 0), some (.aload_n 0, 1, 0, 0, 0), some (.getfield 17, 3, 0, 2, 193), none, none, some (.iload_n 1, 1, 0, 0, 0), some (.iaload, 1, 0, 0, 0), some (.if_icmp .ge 106, 3, 0, 0, 0), none, none, some (.iload_n 1, 1, 0, 0, 0), some (.ifCond .ne 7, 3, 0, 0, 0), none, none, some (.lconst 1, 1, 0, 0, 0), some (.goto 4, 3, 0, 0, 0), none, none, some (.lconst 0, 1, 0, 0, 0), some (.lstore_n 3, 1, 0, 0, 0)], [some (.iconst 0, 1, 0, 0, 0), some (.istore 5, 2, 0, 0, 0), none, some (.iload_n 1, 1, 0, 0, 0), some (.ifCond .le 71, 3, 0, 0, 0), none, none, some (.iload 5, 2, 0, 0, 0), none, some (.aload_n 0, 1, 0, 0, 0), some (.getfield 17, 3, 0, 2, 193), none, none, some (.iload_n 1, 1, 0, 0, 0), some (.iconst 1, 1, 0, 0, 0), some (.isub, 1, 0, 0, 0), some (.iaload, 1, 0, 0, 0), some (.if_icmp .ge 58, 3, 0, 0, 0), none, none, some (.aload_n 0, 1, 0, 0, 0), some (.aload_n 0, 1, 0, 0, 0), some (.getfield 13, 3, 0, 1, 192), none, none, some (.iload_n 1, 1, 0, 0, 0), some (.iconst 1, 1, 0, 0, 0), some (.isub, 1, 0, 0, 0), some (.bipush 12, 2, 0, 0, 0), none, some (.imul, 1, 0, 0, 0), some (.iload 5, 2, 0, 0, 0)], [none, some (.iadd, 1, 0, 0, 0), some (.iaload, 1, 0, 0, 0), some (.aload_n 0, 1, 0, 0, 0), some (.getfield 13, 3, 0, 1, 192), none, none, some (.iload_n 1, 1, 0, 0, 0), some (.bipush 12, 2, 0, 0, 0), none, some (.imul, 1, 0, 0, 0), some (.iload_n 2, 1, 0, 0, 0), some (.iadd, 1, 0, 0, 0), some (.iaload, 1, 0, 0, 0), some (.invokevirtual 66, 3, 2, 0, 902), none, none, some (.ifCond .eq 20, 3, 0, 0, 0), none, none, some (.lload_n 3, 1, 0, 0, 0), some (.aload_n 0, 1, 0, 0, 0), some (.getfield 20, 3, 0, 3, 194), none, none, some (.iload_n 1, 1, 0, 0, 0), some (.iconst 1, 1, 0, 0, 0), some (.isub, 1, 0, 0, 0), some (.bipush 12, 2, 0, 0, 0), none, some (.imul, 1, 0, 0, 0), some (.iload 5, 2, 0, 0, 0)], [none, some (.iadd, 1, 0, 0, 0), some (.laload, 1, 0, 0, 0), some (.ladd, 1, 0, 0, 0), some (.lstore_n 3, 1, 0, 0, 0), some (.iinc 5 1, 3, 0, 0, 0), none, none, some (.goto (-69), 3, 0, 0, 0), none, none, some (.aload_n 0, 1, 0, 0, 0), some (.getfield 20, 3, 0, 3, 194), none, none, some (.iload_n 1, 1, 0, 0, 0), some (.bipush 12, 2, 0, 0, 0), none, some (.imul, 1, 0, 0, 0), some (.iload_n 2, 1, 0, 0, 0), some (.iadd, 1, 0, 0, 0), some (.lload_n 3, 1, 0, 0, 0), some (.lastore, 1, 0, 0, 0), some (.iinc 2 1, 3, 0, 0, 0), none, none, some (.goto (-110), 3, 0, 0, 0), none, none, some (.iinc 1 1, 3, 0, 0, 0), none, none], [some (.goto (-126), 3, 0, 0, 0), none, none, some (.return_, 1, 0, 0, 0)]]
def cd_4 : List (List (Option si_E)) := [[some (.aload_n 0, 1, 0, 0, 0), some (.getfield 40, 3, 0, 6, 197), none, none, some (.iconst 1, 1, 0, 0, 0), some (.isub, 1, 0, 0, 0), some (.istore_n 1, 1, 0, 0, 0), some (.iload_n 1, 1, 0, 0, 0), some (.ifCond .lt 136, 3, 0, 0, 0), none, none, some (.iconst 0, 1, 0, 0, 0), some (.istore_n 2, 1, 0, 0, 0), some (.iload_n 2, 1, 0, 0, 0), some (.aload_n 0, 1, 0, 0, 0), some (.getfield 17, 3, 0, 2, 193), none, none, some (.iload_n 1, 1, 0, 0, 0), some (.iaload, 1, 0, 0, 0), some (.if_icmp .ge 118, 3, 0, 0, 0), none, none, some (.iload_n 1, 1, 0, 0, 0), some (.aload_n 0, 1, 0, 0, 0), some (.getfield 40, 3, 0, 6, 197), none, none, some (.iconst 1, 1, 0, 0, 0), some (.isub, 1, 0, 0, 0), some (.if_icmp .ne 7, 3, 0, 0, 0), none], [none, some (.lconst 1, 1, 0, 0, 0), some (.goto 4, 3, 0, 0, 0), none, none, some (.lconst 0, 1, 0, 0, 0), some (.lstore_n 3, 1, 0, 0, 0), some (.iconst 0, 1, 0, 0, 0), some (.istore 5, 2, 0, 0, 0), none, some (.iload_n 1, 1, 0, 0, 0), some (.aload_n 0, 1, 0, 0, 0), some (.getfield 40, 3, 0, 6, 197), none, none, some (.iconst 1, 1, 0, 0, 0), some (.isub, 1, 0, 0, 0), some (.if_icmp .ge 71, 3, 0, 0, 0), none, none, some (.iload 5, 2, 0, 0, 0), none, some (.aload_n 0, 1, 0, 0, 0), some (.getfield 17, 3, 0, 2, 193), none, none, some (.iload_n 1, 1, 0, 0, 0), some (.iconst 1, 1, 0, 0, 0), some (.iadd, 1, 0, 0, 0), some (.iaload, 1, 0, 0, 0), some (.if_icmp .ge 58, 3, 0, 0, 0), none], [none, some (.aload_n 0, 1, 0, 0, 0), some (.aload_n 0, 1, 0, 0, 0), some (.getfield 13, 3, 0, 1, 192), none, none, some (.iload_n 1, 1, 0, 0, 0), some (.bipush 12, 2, 0, 0, 0), none, some (.imul, 1, 0, 0, 0), some (.iload_n 2, 1, 0, 0, 0), some (.iadd, 1, 0, 0, 0), some (.iaload, 1, 0, 0, 0), some (.aload_n 0, 1, 0, 0, 0), some (.getfield 13, 3, 0, 1, 192), none, none, some (.iload_n 1, 1, 0, 0, 0), some (.iconst 1, 1, 0, 0, 0), some (.iadd, 1, 0, 0, 0), some (.bipush 12, 2, 0, 0, 0), none, some (.imul, 1, 0, 0, 0), some (.iload 5, 2, 0, 0, 0), none, some (.iadd, 1, 0, 0, 0), some (.iaload, 1, 0, 0, 0), some (.invokevirtual 66, 3, 2, 0, 902), none, none, some (.ifCond .eq 20, 3, 0, 0, 0), none], [none, some (.lload_n 3, 1, 0, 0, 0), some (.aload_n 0, 1, 0, 0, 0), some (.getfield 24, 3, 0, 4, 195), none, none, some (.iload_n 1, 1, 0, 0, 0), some (.iconst 1, 1, 0, 0, 0), some (.iadd, 1, 0, 0, 0), some (.bipush 12, 2, 0, 0, 0), none, some (.imul, 1, 0, 0, 0), some (.iload 5, 2, 0, 0, 0), none, some (.iadd, 1, 0, 0, 0), some (.laload, 1, 0, 0, 0), some (.ladd, 1, 0, 0, 0), some (.lstore_n 3, 1, 0, 0, 0), some (.iinc 5 1, 3, 0, 0, 0), none, none, some (.goto (-75), 3, 0, 0, 0), none, none, some (.aload_n 0, 1, 0, 0, 0), some (.getfield 24, 3, 0, 4, 195), none, none, some (.iload_n 1, 1, 0, 0, 0), some (.bipush 12, 2, 0, 0, 0), none, some (.imul, 1, 0, 0, 0)], [some (.iload_n 2, 1, 0, 0, 0), some (.iadd, 1, 0, 0, 0), some (.lload_n 3, 1, 0, 0, 0), some (.lastore, 1, 0, 0, 0), some (.iinc 2 1, 3, 0, 0, 0), none, none, some (.goto (-122), 3, 0, 0, 0), none, none, some (.iinc 1 (-1), 3, 0, 0, 0), none, none, some (.goto (-134), 3, 0, 0, 0), none, none, some (.return_, 1, 0, 0, 0)]]
def cd_5 : List (List (Option si_E)) := [[some (.aload_n 0, 1, 0, 0, 0), some (.invokevirtual 70, 3, 4, 0, 898), none, none, some (.lconst 0, 1, 0, 0, 0), some (.lstore_n 1, 1, 0, 0, 0), some (.iconst 0, 1, 0, 0, 0), some (.istore_n 3, 1, 0, 0, 0), some (.aload_n 0, 1, 0, 0, 0), some (.getfield 40, 3, 0, 6, 197), none, none, some (.ifCond .le 28, 3, 0, 0, 0), none, none, some (.iload_n 3, 1, 0, 0, 0), some (.aload_n 0, 1, 0, 0, 0), some (.getfield 17, 3, 0, 2, 193), none, none, some (.iconst 0, 1, 0, 0, 0), some (.iaload, 1, 0, 0, 0), some (.if_icmp .ge 18, 3, 0, 0, 0), none, none, some (.lload_n 1, 1, 0, 0, 0), some (.aload_n 0, 1, 0, 0, 0), some (.getfield 24, 3, 0, 4, 195), none, none, some (.iload_n 3, 1, 0, 0, 0), some (.laload, 1, 0, 0, 0)], [some (.ladd, 1, 0, 0, 0), some (.lstore_n 1, 1, 0, 0, 0), some (.iinc 3 1, 3, 0, 0, 0), none, none, some (.goto (-29), 3, 0, 0, 0), none, none, some (.lload_n 1, 1, 0, 0, 0), some (.ldc2_w 73, 3, 1000000000, 0, 907), none, none, some (.invokestatic 75, 3, 345, 0, 908), none, none, some (.l2i, 1, 0, 0, 0), some (.ireturn, 1, 0, 0, 0)]]
def cd_6 : List (List (Option si_E)) := [[some (.aload_n 0, 1, 0, 0, 0), some (.invokevirtual 78, 3, 3, 0, 915), none, none, some (.aload_n 0, 1, 0, 0, 0), some (.invokevirtual 70, 3, 4, 0, 898), none, none, some (.bipush (-4), 2, 0, 0, 0), none, some (.istore_n 2, 1, 0, 0, 0), some (.iconst 0, 1, 0, 0, 0), some (.istore_n 3, 1, 0, 0, 0), some (.iload_n 1, 1, 0, 0, 0), some (.ifCond .lt 78, 3, 0, 0, 0), none, none, some (.iload_n 1, 1, 0, 0, 0), some (.aload_n 0, 1, 0, 0, 0), some (.getfield 40, 3, 0, 6, 197), none, none, some (.if_icmp .ge 70, 3, 0, 0, 0), none, none, some (.iload_n 3, 1, 0, 0, 0), some (.aload_n 0, 1, 0, 0, 0), some (.getfield 17, 3, 0, 2, 193), none, none, some (.iload_n 1, 1, 0, 0, 0), some (.iaload, 1, 0, 0, 0)], [some (.if_icmp .ge 60, 3, 0, 0, 0), none, none, some (.iload_n 1, 1, 0, 0, 0), some (.bipush 12, 2, 0, 0, 0), none, some (.imul, 1, 0, 0, 0), some (.iload_n 3, 1, 0, 0, 0), some (.iadd, 1, 0, 0, 0), some (.istore 4, 2, 0, 0, 0), none, some (.aload_n 0, 1, 0, 0, 0), some (.getfield 20, 3, 0, 3, 194), none, none, some (.iload 4, 2, 0, 0, 0), none, some (.laload, 1, 0, 0, 0), some (.lconst 0, 1, 0, 0, 0), some (.lcmp, 1, 0, 0, 0), some (.ifCond .le 34, 3, 0, 0, 0), none, none, some (.aload_n 0, 1, 0, 0, 0), some (.getfield 24, 3, 0, 4, 195), none, none, some (.iload 4, 2, 0, 0, 0), none, some (.laload, 1, 0, 0, 0), some (.lconst 0, 1, 0, 0, 0), some (.lcmp, 1, 0, 0, 0)], [some (.ifCond .le 22, 3, 0, 0, 0), none, none, some (.iload_n 2, 1, 0, 0, 0), some (.bipush (-4), 2, 0, 0, 0), none, some (.if_icmp .ne 13, 3, 0, 0, 0), none, none, some (.aload_n 0, 1, 0, 0, 0), some (.getfield 13, 3, 0, 1, 192), none, none, some (.iload 4, 2, 0, 0, 0), none, some (.iaload, 1, 0, 0, 0), some (.goto 5, 3, 0, 0, 0), none, none, some (.bipush (-2), 2, 0, 0, 0), none, some (.istore_n 2, 1, 0, 0, 0), some (.iinc 3 1, 3, 0, 0, 0), none, none, some (.goto (-76), 3, 0, 0, 0), none, none, some (.iload_n 2, 1, 0, 0, 0), some (.ireturn, 1, 0, 0, 0)]]
def cd_7 : List (List (Option si_E)) := [[some (.iload_n 0, 1, 0, 0, 0), some (.bipush 6, 2, 0, 0, 0), none, some (.imul, 1, 0, 0, 0), some (.iload_n 1, 1, 0, 0, 0), some (.iadd, 1, 0, 0, 0), some (.bipush 12, 2, 0, 0, 0), none, some (.imul, 1, 0, 0, 0), some (.iload_n 2, 1, 0, 0, 0), some (.iadd, 1, 0, 0, 0), some (.ireturn, 1, 0, 0, 0)]]
def cd_8 : List (List (Option si_E)) := [[some (.aload_n 0, 1, 0, 0, 0), some (.aload_n 0, 1, 0, 0, 0), some (.getfield 40, 3, 0, 6, 197), none, none, some (.bipush 6, 2, 0, 0, 0), none, some (.invokestatic 34, 3, 344, 0, 888), none, none, some (.putfield 40, 3, 0, 6, 197), none, none, some (.iconst 1, 1, 0, 0, 0), some (.istore_n 1, 1, 0, 0, 0), some (.iload_n 1, 1, 0, 0, 0), some (.iconst 1, 1, 0, 0, 0), some (.aload_n 0, 1, 0, 0, 0), some (.getfield 40, 3, 0, 6, 197), none, none, some (.ishl, 1, 0, 0, 0), some (.if_icmp .ge 40, 3, 0, 0, 0), none, none, some (.iconst 0, 1, 0, 0, 0), some (.istore_n 2, 1, 0, 0, 0), some (.iload_n 2, 1, 0, 0, 0), some (.aload_n 0, 1, 0, 0, 0), some (.getfield 40, 3, 0, 6, 197), none, none], [some (.if_icmp .ge 24, 3, 0, 0, 0), none, none, some (.iload_n 1, 1, 0, 0, 0), some (.iload_n 2, 1, 0, 0, 0), some (.ishr, 1, 0, 0, 0), some (.iconst 1, 1, 0, 0, 0), some (.iand, 1, 0, 0, 0), some (.iconst 1, 1, 0, 0, 0), some (.if_icmp .ne 9, 3, 0, 0, 0), none, none, some (.aload_n 0, 1, 0, 0, 0), some (.iload_n 1, 1, 0, 0, 0), some (.iload_n 2, 1, 0, 0, 0), some (.invokevirtual 81, 3, 9, 0, 927), none, none, some (.iinc 2 1, 3, 0, 0, 0), none, none, some (.goto (-26), 3, 0, 0, 0), none, none, some (.iinc 1 1, 3, 0, 0, 0), none, none, some (.goto (-44), 3, 0, 0, 0), none, none, some (.return_, 1, 0, 0, 0)]]
def cd_9 : List (List (Option si_E)) := [[some (.iload_n 1, 1, 0, 0, 0), some (.iconst 1, 1, 0, 0, 0), some (.iload_n 2, 1, 0, 0, 0), some (.ishl, 1, 0, 0, 0), some (.ixor, 1, 0, 0, 0), some (.istore_n 3, 1, 0, 0, 0), some (.iconst 0, 1, 0, 0, 0), some (.istore 4, 2, 0, 0, 0), none, some (.iload 4, 2, 0, 0, 0), none, some (.aload_n 0, 1, 0, 0, 0), some (.getfield 17, 3, 0, 2, 193), none, none, some (.iload_n 2, 1, 0, 0, 0), some (.iaload, 1, 0, 0, 0), some (.if_icmp .ge 90, 3, 0, 0, 0), none, none, some (.aload_n 0, 1, 0, 0, 0), some (.getfield 13, 3, 0, 1, 192), none, none, some (.iload_n 2, 1, 0, 0, 0), some (.bipush 12, 2, 0, 0, 0), none, some (.imul, 1, 0, 0, 0), some (.iload 4, 2, 0, 0, 0), none, some (.iadd, 1, 0, 0, 0), some (.iaload, 1, 0, 0, 0)], [some (.istore 5, 2, 0, 0, 0), none, some (.iload_n 3, 1, 0, 0, 0), some (.ifCond .ne 7, 3, 0, 0, 0), none, none, some (.lconst 1, 1, 0, 0, 0), some (.goto 4, 3, 0, 0, 0), none, none, some (.lconst 0, 1, 0, 0, 0), some (.lstore 6, 2, 0, 0, 0), none, some (.iconst 0, 1, 0, 0, 0), some (.istore 8, 2, 0, 0, 0), none, some (.iload 8, 2, 0, 0, 0), none, some (.aload_n 0, 1, 0, 0, 0), some (.getfield 40, 3, 0, 6, 197), none, none, some (.if_icmp .ge 33, 3, 0, 0, 0), none, none, some (.iload_n 3, 1, 0, 0, 0), some (.iload 8, 2, 0, 0, 0), none, some (.ishr, 1, 0, 0, 0), some (.iconst 1, 1, 0, 0, 0), some (.iand, 1, 0, 0, 0), some (.iconst 1, 1, 0, 0, 0)], [some (.if_icmp .ne 17, 3, 0, 0, 0), none, none, some (.lload 6, 2, 0, 0, 0), none, some (.aload_n 0, 1, 0, 0, 0), some (.iload 5, 2, 0, 0, 0), none, some (.iload_n 3, 1, 0, 0, 0), some (.iload 8, 2, 0, 0, 0), none, some (.invokevirtual 85, 3, 10, 0, 931), none, none, some (.ladd, 1, 0, 0, 0), some (.lstore 6, 2, 0, 0, 0), none, some (.iinc 8 1, 3, 0, 0, 0), none, none, some (.goto (-36), 3, 0, 0, 0), none, none, some (.aload_n 0, 1, 0, 0, 0), some (.getfield 27, 3, 0, 5, 196), none, none, some (.iload_n 1, 1, 0, 0, 0), some (.iload_n 2, 1, 0, 0, 0), some (.iload 4, 2, 0, 0, 0), none, some (.invokestatic 89, 3, 7, 0, 935)], [none, none, some (.lload 6, 2, 0, 0, 0), none, some (.lastore, 1, 0, 0, 0), some (.iinc 4 1, 3, 0, 0, 0), none, none, some (.goto (-95), 3, 0, 0, 0), none, none, some (.return_, 1, 0, 0, 0)]]
def cd_10 : List (List (Option si_E)) := [[some (.lconst 0, 1, 0, 0, 0), some (.lstore 4, 2, 0, 0, 0), none, some (.iconst 0, 1, 0, 0, 0), some (.istore 6, 2, 0, 0, 0), none, some (.iload 6, 2, 0, 0, 0), none, some (.aload_n 0, 1, 0, 0, 0), some (.getfield 17, 3, 0, 2, 193), none, none, some (.iload_n 3, 1, 0, 0, 0), some (.iaload, 1, 0, 0, 0), some (.if_icmp .ge 46, 3, 0, 0, 0), none, none, some (.aload_n 0, 1, 0, 0, 0), some (.iload_n 1, 1, 0, 0, 0), some (.aload_n 0, 1, 0, 0, 0), some (.getfield 13, 3, 0, 1, 192), none, none, some (.iload_n 3, 1, 0, 0, 0), some (.bipush 12, 2, 0, 0, 0), none, some (.imul, 1, 0, 0, 0), some (.iload 6, 2, 0, 0, 0), none, some (.iadd, 1, 0, 0, 0), some (.iaload, 1, 0, 0, 0), some (.invokevirtual 66, 3, 2, 0, 902)], [none, none, some (.ifCond .eq 20, 3, 0, 0, 0), none, none, some (.lload 4, 2, 0, 0, 0), none, some (.aload_n 0, 1, 0, 0, 0), some (.getfield 27, 3, 0, 5, 196), none, none, some (.iload_n 2, 1, 0, 0, 0), some (.iload_n 3, 1, 0, 0, 0), some (.iload 6, 2, 0, 0, 0), none, some (.invokestatic 89, 3, 7, 0, 935), none, none, some (.laload, 1, 0, 0, 0), some (.ladd, 1, 0, 0, 0), some (.lstore 4, 2, 0, 0, 0), none, some (.iinc 6 1, 3, 0, 0, 0), none, none, some (.goto (-51), 3, 0, 0, 0), none, none, some (.lload 4, 2, 0, 0, 0), none, some (.lreturn, 1, 0, 0, 0)]]
def cd_11 : List (List (Option si_E)) := [[some (.lconst 0, 1, 0, 0, 0), some (.lstore_n 2, 1, 0, 0, 0), some (.iconst 0, 1, 0, 0, 0), some (.istore 4, 2, 0, 0, 0), none, some (.iload 4, 2, 0, 0, 0), none, some (.aload_n 0, 1, 0, 0, 0), some (.getfield 17, 3, 0, 2, 193), none, none, some (.iload_n 1, 1, 0, 0, 0), some (.iaload, 1, 0, 0, 0), some (.if_icmp .ge 31, 3, 0, 0, 0), none, none, some (.lload_n 2, 1, 0, 0, 0), some (.aload_n 0, 1, 0, 0, 0), some (.getfield 27, 3, 0, 5, 196), none, none, some (.iconst 1, 1, 0, 0, 0), some (.aload_n 0, 1, 0, 0, 0), some (.getfield 40, 3, 0, 6, 197), none, none, some (.ishl, 1, 0, 0, 0), some (.iconst 1, 1, 0, 0, 0), some (.isub, 1, 0, 0, 0), some (.iload_n 1, 1, 0, 0, 0), some (.iload 4, 2, 0, 0, 0), none], [some (.invokestatic 89, 3, 7, 0, 935), none, none, some (.laload, 1, 0, 0, 0), some (.ladd, 1, 0, 0, 0), some (.lstore_n 2, 1, 0, 0, 0), some (.iinc 4 1, 3, 0, 0, 0), none, none, some (.goto (-36), 3, 0, 0, 0), none, none, some (.lload_n 2, 1, 0, 0, 0), some (.lreturn, 1, 0, 0, 0)]]
def cd_12 : List (List (Option si_E)) := [[some (.lconst 0, 1, 0, 0, 0), some (.lstore_n 1, 1, 0, 0, 0), some (.iconst 0, 1, 0, 0, 0), some (.istore_n 3, 1, 0, 0, 0), some (.iload_n 3, 1, 0, 0, 0), some (.aload_n 0, 1, 0, 0, 0), some (.getfield 40, 3, 0, 6, 197), none, none, some (.if_icmp .ge 17, 3, 0, 0, 0), none, none, some (.lload_n 1, 1, 0, 0, 0), some (.aload_n 0, 1, 0, 0, 0), some (.iload_n 3, 1, 0, 0, 0), some (.invokevirtual 93, 3, 11, 0, 942), none, none, some (.ladd, 1, 0, 0, 0), some (.lstore_n 1, 1, 0, 0, 0), some (.iinc 3 1, 3, 0, 0, 0), none, none, some (.goto (-19), 3, 0, 0, 0), none, none, some (.lload_n 1, 1, 0, 0, 0), some (.ldc2_w 73, 3, 1000000000, 0, 907), none, none, some (.invokestatic 75, 3, 345, 0, 908), none], [none, some (.l2i, 1, 0, 0, 0), some (.ireturn, 1, 0, 0, 0)]]
def cd_13 : List (List (Option si_E)) := [[some (.iconst 0, 1, 0, 0, 0), some (.istore_n 1, 1, 0, 0, 0), some (.iconst 0, 1, 0, 0, 0), some (.istore_n 2, 1, 0, 0, 0), some (.iload_n 2, 1, 0, 0, 0), some (.aload_n 0, 1, 0, 0, 0), some (.getfield 40, 3, 0, 6, 197), none, none, some (.if_icmp .ge 25, 3, 0, 0, 0), none, none, some (.aload_n 0, 1, 0, 0, 0), some (.iload_n 2, 1, 0, 0, 0), some (.invokevirtual 93, 3, 11, 0, 942), none, none, some (.lconst 0, 1, 0, 0, 0), some (.lcmp, 1, 0, 0, 0), some (.ifCond .le 9, 3, 0, 0, 0), none, none, some (.iload_n 1, 1, 0, 0, 0), some (.iconst 1, 1, 0, 0, 0), some (.iload_n 2, 1, 0, 0, 0), some (.ishl, 1, 0, 0, 0), some (.ior, 1, 0, 0, 0), some (.istore_n 1, 1, 0, 0, 0), some (.iinc 2 1, 3, 0, 0, 0), none, none, some (.goto (-27), 3, 0, 0, 0)], [none, none, some (.iload_n 1, 1, 0, 0, 0), some (.ireturn, 1, 0, 0, 0)]]
def cd_14 : List (List (Option si_E)) := [[some (.aload_n 0, 1, 0, 0, 0), some (.invokespecial 3, 3, 0, 9, 180), none, none, some (.aload_n 0, 1, 0, 0, 0), some (.aload_n 1, 1, 0, 0, 0), some (.putfield 9, 3, 1, 0, 181), none, none, some (.return_, 1, 0, 0, 0)]]
def cd_15 : List (List (Option si_E)) := [[some (.iload_n 1, 1, 0, 0, 0), some (.ifCond .eq 15, 3, 0, 0, 0), none, none, some (.iconst 2, 1, 0, 0, 0), some (.aload_n 0, 1, 0, 0, 0), some (.getfield 9, 3, 1, 0, 181), none, none, some (.getfield 15, 3, 4, 1, 154), none, none, some (.imul, 1, 0, 0, 0), some (.goto 10, 3, 0, 0, 0), none, none, some (.aload_n 0, 1, 0, 0, 0), some (.getfield 9, 3, 1, 0, 181), none, none, some (.getfield 15, 3, 4, 1, 154), none, none, some (.ireturn, 1, 0, 0, 0)]]
def cd_16 : List (List (Option si_E)) := [[some (.iload_n 1, 1, 0, 0, 0), some (.aload_n 0, 1, 0, 0, 0), some (.iload_n 2, 1, 0, 0, 0), some (.invokevirtual 21, 3, 15, 0, 958), none, none, some (.invokestatic 25, 3, 200, 1, 966), none, none, some (.istore_n 3, 1, 0, 0, 0), some (.iload_n 2, 1, 0, 0, 0), some (.ifCond .ne 13, 3, 0, 0, 0), none, none, some (.iload_n 3, 1, 0, 0, 0), some (.aload_n 0, 1, 0, 0, 0), some (.getfield 9, 3, 1, 0, 181), none, none, some (.getfield 29, 3, 4, 0, 151), none, none, some (.imul, 1, 0, 0, 0), some (.ireturn, 1, 0, 0, 0), some (.iload_n 3, 1, 0, 0, 0), some (.iconst 2, 1, 0, 0, 0), some (.idiv, 1, 0, 0, 0), some (.aload_n 0, 1, 0, 0, 0), some (.getfield 9, 3, 1, 0, 181), none, none, some (.getfield 29, 3, 4, 0, 151)], [none, none, some (.imul, 1, 0, 0, 0), some (.iload_n 3, 1, 0, 0, 0), some (.iconst 2, 1, 0, 0, 0), some (.irem, 1, 0, 0, 0), some (.aload_n 0, 1, 0, 0, 0), some (.getfield 9, 3, 1, 0, 181), none, none, some (.getfield 29, 3, 4, 0, 151), none, none, some (.iconst 2, 1, 0, 0, 0), some (.idiv, 1, 0, 0, 0), some (.imul, 1, 0, 0, 0), some (.iadd, 1, 0, 0, 0), some (.ireturn, 1, 0, 0, 0)]]
def cd_17 : List (List (Option si_E)) := [[some (.iload_n 1, 1, 0, 0, 0), some (.aload_n 0, 1, 0, 0, 0), some (.getfield 9, 3, 1, 0, 181), none, none, some (.getfield 29, 3, 4, 0, 151), none, none, some (.invokestatic 32, 3, 199, 1, 986), none, none, some (.istore_n 3, 1, 0, 0, 0), some (.iload_n 1, 1, 0, 0, 0), some (.iload_n 3, 1, 0, 0, 0), some (.aload_n 0, 1, 0, 0, 0), some (.getfield 9, 3, 1, 0, 181), none, none, some (.getfield 29, 3, 4, 0, 151), none, none, some (.imul, 1, 0, 0, 0), some (.isub, 1, 0, 0, 0), some (.istore 4, 2, 0, 0, 0), none, some (.iload 4, 2, 0, 0, 0), none, some (.ifCond .ne 19, 3, 0, 0, 0), none, none, some (.iload_n 3, 1, 0, 0, 0), some (.ifCond .ne 13, 3, 0, 0, 0)], [none, none, some (.aload_n 0, 1, 0, 0, 0), some (.getfield 9, 3, 1, 0, 181), none, none, some (.getfield 15, 3, 4, 1, 154), none, none, some (.goto 4, 3, 0, 0, 0), none, none, some (.iload_n 3, 1, 0, 0, 0), some (.ireturn, 1, 0, 0, 0), some (.iload_n 2, 1, 0, 0, 0), some (.ifCond .eq 21, 3, 0, 0, 0), none, none, some (.iload 4, 2, 0, 0, 0), none, some (.aload_n 0, 1, 0, 0, 0), some (.getfield 9, 3, 1, 0, 181), none, none, some (.getfield 29, 3, 4, 0, 151), none, none, some (.iconst 2, 1, 0, 0, 0), some (.idiv, 1, 0, 0, 0), some (.if_icmp .ne 7, 3, 0, 0, 0), none, none], [some (.iconst 1, 1, 0, 0, 0), some (.goto 4, 3, 0, 0, 0), none, none, some (.iconst 0, 1, 0, 0, 0), some (.ireturn, 1, 0, 0, 0)]]
def cd_18 : List (List (Option si_E)) := [[some (.aload_n 0, 1, 0, 0, 0), some (.aload_n 0, 1, 0, 0, 0), some (.iload_n 1, 1, 0, 0, 0), some (.iload_n 2, 1, 0, 0, 0), some (.invokevirtual 35, 3, 16, 0, 962), none, none, some (.iload_n 2, 1, 0, 0, 0), some (.invokevirtual 39, 3, 17, 0, 982), none, none, some (.ireturn, 1, 0, 0, 0)]]
def cd_19 : List (List (Option si_E)) := [[some (.iconst 0, 1, 0, 0, 0), some (.istore 4, 2, 0, 0, 0), none, some (.iload_n 1, 1, 0, 0, 0), some (.istore 5, 2, 0, 0, 0), none, some (.iload 5, 2, 0, 0, 0), none, some (.iload_n 2, 1, 0, 0, 0), some (.if_icmp .gt 21, 3, 0, 0, 0), none, none, some (.iload 4, 2, 0, 0, 0), none, some (.aload_n 0, 1, 0, 0, 0), some (.iload 5, 2, 0, 0, 0), none, some (.iload_n 3, 1, 0, 0, 0), some (.invokevirtual 39, 3, 17, 0, 982), none, none, some (.iadd, 1, 0, 0, 0), some (.istore 4, 2, 0, 0, 0), none, some (.iinc 5 1, 3, 0, 0, 0), none, none, some (.goto (-21), 3, 0, 0, 0), none, none, some (.iload 4, 2, 0, 0, 0), none], [some (.ireturn, 1, 0, 0, 0)]]
def cd_20 : List (List (Option si_E)) := [[some (.iconst 0, 1, 0, 0, 0), some (.istore_n 2, 1, 0, 0, 0), some (.aload_n 0, 1, 0, 0, 0), some (.iload_n 1, 1, 0, 0, 0), some (.invokevirtual 21, 3, 15, 0, 958), none, none, some (.istore_n 3, 1, 0, 0, 0), some (.iconst 0, 1, 0, 0, 0), some (.istore 4, 2, 0, 0, 0), none, some (.iload 4, 2, 0, 0, 0), none, some (.iload_n 3, 1, 0, 0, 0), some (.if_icmp .ge 42, 3, 0, 0, 0), none, none, some (.aload_n 0, 1, 0, 0, 0), some (.iload 4, 2, 0, 0, 0), none, some (.iconst 1, 1, 0, 0, 0), some (.iadd, 1, 0, 0, 0), some (.iload_n 1, 1, 0, 0, 0), some (.invokevirtual 35, 3, 16, 0, 962), none, none, some (.aload_n 0, 1, 0, 0, 0), some (.iload 4, 2, 0, 0, 0), none, some (.iload_n 1, 1, 0, 0, 0), some (.invokevirtual 35, 3, 16, 0, 962), none], [none, some (.isub, 1, 0, 0, 0), some (.istore 5, 2, 0, 0, 0), none, some (.iload_n 2, 1, 0, 0, 0), some (.aload_n 0, 1, 0, 0, 0), some (.getfield 9, 3, 1, 0, 181), none, none, some (.iload 5, 2, 0, 0, 0), none, some (.invokevirtual 42, 3, 75, 0, 967), none, none, some (.invokestatic 46, 3, 343, 0, 968), none, none, some (.istore_n 2, 1, 0, 0, 0), some (.iinc 4 1, 3, 0, 0, 0), none, none, some (.goto (-42), 3, 0, 0, 0), none, none, some (.iload_n 2, 1, 0, 0, 0), some (.ireturn, 1, 0, 0, 0)]]
def cd_21 : List (List (Option si_E)) := [[some (.aload_n 0, 1, 0, 0, 0), some (.getfield 9, 3, 1, 0, 181), none, none, some (.invokevirtual 51, 3, 73, 0, 977), none, none, some (.istore 4, 2, 0, 0, 0), none, some (.aload_n 0, 1, 0, 0, 0), some (.iconst 0, 1, 0, 0, 0), some (.iload 4, 2, 0, 0, 0), none, some (.iconst 1, 1, 0, 0, 0), some (.isub, 1, 0, 0, 0), some (.iload_n 3, 1, 0, 0, 0), some (.invokevirtual 55, 3, 19, 0, 978), none, none, some (.istore 5, 2, 0, 0, 0), none, some (.iload_n 2, 1, 0, 0, 0), some (.iconst 1, 1, 0, 0, 0), some (.isub, 1, 0, 0, 0), some (.iload 5, 2, 0, 0, 0), none, some (.invokestatic 32, 3, 199, 1, 986), none, none, some (.istore 6, 2, 0, 0, 0), none, some (.iload_n 2, 1, 0, 0, 0)], [some (.iload 6, 2, 0, 0, 0), none, some (.iload 5, 2, 0, 0, 0), none, some (.imul, 1, 0, 0, 0), some (.isub, 1, 0, 0, 0), some (.istore 7, 2, 0, 0, 0), none, some (.iconst 0, 1, 0, 0, 0), some (.istore 8, 2, 0, 0, 0), none, some (.iconst 0, 1, 0, 0, 0), some (.istore 9, 2, 0, 0, 0), none, some (.iload 9, 2, 0, 0, 0), none, some (.iload 4, 2, 0, 0, 0), none, some (.if_icmp .ge 46, 3, 0, 0, 0), none, none, some (.iload 8, 2, 0, 0, 0), none, some (.aload_n 0, 1, 0, 0, 0), some (.aload_n 0, 1, 0, 0, 0), some (.getfield 9, 3, 1, 0, 181), none, none, some (.iload_n 1, 1, 0, 0, 0), some (.iload 9, 2, 0, 0, 0), none, some (.iadd, 1, 0, 0, 0)], [some (.invokevirtual 42, 3, 75, 0, 967), none, none, some (.iload_n 3, 1, 0, 0, 0), some (.invokevirtual 39, 3, 17, 0, 982), none, none, some (.iadd, 1, 0, 0, 0), some (.istore 8, 2, 0, 0, 0), none, some (.iload 8, 2, 0, 0, 0), none, some (.iload 7, 2, 0, 0, 0), none, some (.if_icmp .lt 12, 3, 0, 0, 0), none, none, some (.iload 6, 2, 0, 0, 0), none, some (.iload 4, 2, 0, 0, 0), none, some (.imul, 1, 0, 0, 0), some (.iload 9, 2, 0, 0, 0), none, some (.iadd, 1, 0, 0, 0), some (.ireturn, 1, 0, 0, 0), some (.iinc 9 1, 3, 0, 0, 0), none, none, some (.goto (-47), 3, 0, 0, 0), none, none], [some (.bipush (-2), 2, 0, 0, 0), none, some (.ireturn, 1, 0, 0, 0)]]
def cd_22 : List (List (Option si_E)) := [[some (.aload 4, 2, 0, 0, 0), none, some (.invokevirtual 59, 3, 131, 0, 1000), none, none, some (.aload_n 0, 1, 0, 0, 0), some (.iload_n 3, 1, 0, 0, 0), some (.invokevirtual 21, 3, 15, 0, 958), none, none, some (.istore 5, 2, 0, 0, 0), none, some (.iconst 0, 1, 0, 0, 0), some (.istore 6, 2, 0, 0, 0), none, some (.iload 6, 2, 0, 0, 0), none, some (.iload 5, 2, 0, 0, 0), none, some (.if_icmp .ge 70, 3, 0, 0, 0), none, none, some (.iconst 1, 1, 0, 0, 0), some (.istore 7, 2, 0, 0, 0), none, some (.iconst 0, 1, 0, 0, 0), some (.istore 8, 2, 0, 0, 0), none, some (.iload 8, 2, 0, 0, 0), none, some (.iload_n 2, 1, 0, 0, 0), some (.if_icmp .ge 40, 3, 0, 0, 0)], [none, none, some (.iload 7, 2, 0, 0, 0), none, some (.ifCond .eq 35, 3, 0, 0, 0), none, none, some (.aload_n 1, 1, 0, 0, 0), some (.iload 8, 2, 0, 0, 0), none, some (.invokevirtual 64, 3, 141, 0, 1004), none, none, some (.aload_n 0, 1, 0, 0, 0), some (.iload 6, 2, 0, 0, 0), none, some (.iload 8, 2, 0, 0, 0), none, some (.iadd, 1, 0, 0, 0), some (.iload_n 3, 1, 0, 0, 0), some (.invokevirtual 69, 3, 18, 0, 1005), none, none, some (.if_icmp .ne 7, 3, 0, 0, 0), none, none, some (.iconst 1, 1, 0, 0, 0), some (.goto 4, 3, 0, 0, 0), none, none, some (.iconst 0, 1, 0, 0, 0), some (.istore 7, 2, 0, 0, 0)], [none, some (.iinc 8 1, 3, 0, 0, 0), none, none, some (.goto (-40), 3, 0, 0, 0), none, none, some (.iload 7, 2, 0, 0, 0), none, some (.ifCond .eq 10, 3, 0, 0, 0), none, none, some (.aload 4, 2, 0, 0, 0), none, some (.iload 6, 2, 0, 0, 0), none, some (.invokevirtual 72, 3, 132, 0, 1009), none, none, some (.iinc 6 1, 3, 0, 0, 0), none, none, some (.goto (-71), 3, 0, 0, 0), none, none, some (.return_, 1, 0, 0, 0)]]
def cd_23 : List (List (Option si_E)) := [[some (.aload_n 0, 1, 0, 0, 0), some (.iload_n 1, 1, 0, 0, 0), some (.invokevirtual 21, 3, 15, 0, 958), none, none, some (.istore_n 2, 1, 0, 0, 0), some (.iconst 1, 1, 0, 0, 0), some (.istore_n 3, 1, 0, 0, 0), some (.iload_n 3, 1, 0, 0, 0), some (.iload_n 2, 1, 0, 0, 0), some (.if_icmp .ge 20, 3, 0, 0, 0), none, none, some (.aload_n 0, 1, 0, 0, 0), some (.iload_n 3, 1, 0, 0, 0), some (.iload_n 1, 1, 0, 0, 0), some (.invokevirtual 76, 3, 24, 0, 1030), none, none, some (.ifCond .eq 5, 3, 0, 0, 0), none, none, some (.iload_n 3, 1, 0, 0, 0), some (.ireturn, 1, 0, 0, 0), some (.iinc 3 1, 3, 0, 0, 0), none, none, some (.goto (-19), 3, 0, 0, 0), none, none, some (.iload_n 2, 1, 0, 0, 0), some (.ireturn, 1, 0, 0, 0)]]
def cd_24 : List (List (Option si_E)) := [[some (.aload_n 0, 1, 0, 0, 0), some (.iload_n 2, 1, 0, 0, 0), some (.invokevirtual 21, 3, 15, 0, 958), none, none, some (.istore_n 3, 1, 0, 0, 0), some (.iconst 0, 1, 0, 0, 0), some (.istore 4, 2, 0, 0, 0), none, some (.iload 4, 2, 0, 0, 0), none, some (.iload_n 3, 1, 0, 0, 0), some (.if_icmp .ge 42, 3, 0, 0, 0), none, none, some (.iload 4, 2, 0, 0, 0), none, some (.iconst 1, 1, 0, 0, 0), some (.iadd, 1, 0, 0, 0), some (.istore 5, 2, 0, 0, 0), none, some (.iload 5, 2, 0, 0, 0), none, some (.iload_n 3, 1, 0, 0, 0), some (.if_icmp .ge 24, 3, 0, 0, 0), none, none, some (.aload_n 0, 1, 0, 0, 0), some (.iload 4, 2, 0, 0, 0), none, some (.iload 5, 2, 0, 0, 0), none], [some (.iload_n 1, 1, 0, 0, 0), some (.iload_n 2, 1, 0, 0, 0), some (.invokevirtual 80, 3, 25, 0, 1034), none, none, some (.ifCond .eq 5, 3, 0, 0, 0), none, none, some (.iconst 0, 1, 0, 0, 0), some (.ireturn, 1, 0, 0, 0), some (.iinc 5 1, 3, 0, 0, 0), none, none, some (.goto (-24), 3, 0, 0, 0), none, none, some (.iinc 4 1, 3, 0, 0, 0), none, none, some (.goto (-42), 3, 0, 0, 0), none, none, some (.iconst 1, 1, 0, 0, 0), some (.ireturn, 1, 0, 0, 0)]]
def cd_25 : List (List (Option si_E)) := [[some (.iconst 0, 1, 0, 0, 0), some (.istore 5, 2, 0, 0, 0), none, some (.iload 5, 2, 0, 0, 0), none, some (.iload_n 3, 1, 0, 0, 0), some (.if_icmp .ge 34, 3, 0, 0, 0), none, none, some (.aload_n 0, 1, 0, 0, 0), some (.iload_n 1, 1, 0, 0, 0), some (.iload 5, 2, 0, 0, 0), none, some (.iadd, 1, 0, 0, 0), some (.iload 4, 2, 0, 0, 0), none, some (.invokevirtual 69, 3, 18, 0, 1005), none, none, some (.aload_n 0, 1, 0, 0, 0), some (.iload_n 2, 1, 0, 0, 0), some (.iload 5, 2, 0, 0, 0), none, some (.iadd, 1, 0, 0, 0), some (.iload 4, 2, 0, 0, 0), none, some (.invokevirtual 69, 3, 18, 0, 1005), none, none, some (.if_icmp .eq 5, 3, 0, 0, 0), none, none], [some (.iconst 0, 1, 0, 0, 0), some (.ireturn, 1, 0, 0, 0), some (.iinc 5 1, 3, 0, 0, 0), none, none, some (.goto (-34), 3, 0, 0, 0), none, none, some (.iconst 1, 1, 0, 0, 0), some (.ireturn, 1, 0, 0, 0)]]
def cd_26 : List (List (Option si_E)) := [[some (.aload_n 0, 1, 0, 0, 0), some (.iload_n 2, 1, 0, 0, 0), some (.invokevirtual 21, 3, 15, 0, 958), none, none, some (.istore_n 3, 1, 0, 0, 0), some (.iconst 0, 1, 0, 0, 0), some (.istore 4, 2, 0, 0, 0), none, some (.iconst 0, 1, 0, 0, 0), some (.istore 5, 2, 0, 0, 0), none, some (.iload 5, 2, 0, 0, 0), none, some (.iload_n 3, 1, 0, 0, 0), some (.if_icmp .ge 36, 3, 0, 0, 0), none, none, some (.aload_n 0, 1, 0, 0, 0), some (.aload_n 0, 1, 0, 0, 0), some (.getfield 9, 3, 1, 0, 181), none, none, some (.aload_n 0, 1, 0, 0, 0), some (.iload 5, 2, 0, 0, 0), none, some (.iload_n 2, 1, 0, 0, 0), some (.invokevirtual 35, 3, 16, 0, 962), none, none, some (.iload_n 1, 1, 0, 0, 0), some (.isub, 1, 0, 0, 0)], [some (.invokevirtual 42, 3, 75, 0, 967), none, none, some (.iload_n 2, 1, 0, 0, 0), some (.invokevirtual 39, 3, 17, 0, 982), none, none, some (.ifCond .le 6, 3, 0, 0, 0), none, none, some (.iinc 4 1, 3, 0, 0, 0), none, none, some (.iinc 5 1, 3, 0, 0, 0), none, none, some (.goto (-36), 3, 0, 0, 0), none, none, some (.iload 4, 2, 0, 0, 0), none, some (.ireturn, 1, 0, 0, 0)]]
def cd_27 : List (List (Option si_E)) := [[some (.aload_n 0, 1, 0, 0, 0), some (.getfield 9, 3, 1, 0, 181), none, none, some (.invokevirtual 51, 3, 73, 0, 977), none, none, some (.istore_n 3, 1, 0, 0, 0), some (.iconst 0, 1, 0, 0, 0), some (.istore 4, 2, 0, 0, 0), none, some (.iconst 0, 1, 0, 0, 0), some (.istore 5, 2, 0, 0, 0), none, some (.iload 5, 2, 0, 0, 0), none, some (.iload_n 3, 1, 0, 0, 0), some (.if_icmp .ge 44, 3, 0, 0, 0), none, none, some (.aload_n 0, 1, 0, 0, 0), some (.iload 5, 2, 0, 0, 0), none, some (.iload_n 2, 1, 0, 0, 0), some (.invokevirtual 39, 3, 17, 0, 982), none, none, some (.aload_n 0, 1, 0, 0, 0), some (.aload_n 0, 1, 0, 0, 0), some (.getfield 9, 3, 1, 0, 181), none, none], [some (.iload 5, 2, 0, 0, 0), none, some (.iload_n 1, 1, 0, 0, 0), some (.isub, 1, 0, 0, 0), some (.invokevirtual 42, 3, 75, 0, 967), none, none, some (.iload_n 2, 1, 0, 0, 0), some (.invokevirtual 39, 3, 17, 0, 982), none, none, some (.iadd, 1, 0, 0, 0), some (.istore 6, 2, 0, 0, 0), none, some (.iload 4, 2, 0, 0, 0), none, some (.iload 6, 2, 0, 0, 0), none, some (.invokestatic 46, 3, 343, 0, 968), none, none, some (.istore 4, 2, 0, 0, 0), none, some (.iinc 5 1, 3, 0, 0, 0), none, none, some (.goto (-44), 3, 0, 0, 0), none, none, some (.iload 4, 2, 0, 0, 0), none, some (.ireturn, 1, 0, 0, 0)]]
def cd_28 : List (List (Option si_E)) := [[some (.aload_n 0, 1, 0, 0, 0), some (.invokespecial 1, 3, 0, 9, 352), none, none, some (.aload_n 0, 1, 0, 0, 0), some (.bipush 16, 2, 0, 0, 0), none, some (.newarray .int, 2, 0, 0, 174), none, some (.putfield 9, 3, 2, 1, 354), none, none, some (.aload_n 0, 1, 0, 0, 0), some (.bipush 16, 2, 0, 0, 0), none, some (.newarray .int, 2, 0, 0, 174), none, some (.putfield 13, 3, 2, 2, 356), none, none, some (.aload_n 0, 1, 0, 0, 0), some (.bipush 16, 2, 0, 0, 0), none, some (.newarray .int, 2, 0, 0, 174), none, some (.putfield 16, 3, 2, 3, 358), none, none, some (.aload_n 0, 1, 0, 0, 0), some (.bipush 16, 2, 0, 0, 0), none, some (.newarray .int, 2, 0, 0, 174)], [none, some (.putfield 19, 3, 2, 4, 360), none, none, some (.aload_n 0, 1, 0, 0, 0), some (.aload_n 1, 1, 0, 0, 0), some (.putfield 22, 3, 2, 0, 353), none, none, some (.return_, 1, 0, 0, 0)]]
def cd_29 : List (List (Option si_E)) := [[some (.aload_n 0, 1, 0, 0, 0), some (.iconst 0, 1, 0, 0, 0), some (.putfield 26, 3, 2, 5, 362), none, none, some (.return_, 1, 0, 0, 0)]]
def cd_30 : List (List (Option si_E)) := [[some (.iload_n 1, 1, 0, 0, 0), some (.ifCond .lt 15, 3, 0, 0, 0), none, none, some (.iload_n 1, 1, 0, 0, 0), some (.aload_n 0, 1, 0, 0, 0), some (.getfield 26, 3, 2, 5, 362), none, none, some (.if_icmp .ge 7, 3, 0, 0, 0), none, none, some (.iconst 1, 1, 0, 0, 0), some (.goto 4, 3, 0, 0, 0), none, none, some (.iconst 0, 1, 0, 0, 0), some (.ireturn, 1, 0, 0, 0)]]
def cd_31 : List (List (Option si_E)) := [[some (.aload_n 0, 1, 0, 0, 0), some (.iconst 0, 1, 0, 0, 0), some (.putfield 26, 3, 2, 5, 362), none, none, some (.iconst 1, 1, 0, 0, 0), some (.istore_n 2, 1, 0, 0, 0), some (.iconst 0, 1, 0, 0, 0), some (.istore_n 3, 1, 0, 0, 0), some (.iload_n 3, 1, 0, 0, 0), some (.bipush 16, 2, 0, 0, 0), none, some (.if_icmp .gt 82, 3, 0, 0, 0), none, none, some (.iload_n 2, 1, 0, 0, 0), some (.ifCond .eq 78, 3, 0, 0, 0), none, none, some (.aload_n 1, 1, 0, 0, 0), some (.invokevirtual 30, 3, 126, 0, 687), none, none, some (.istore 4, 2, 0, 0, 0), none, some (.iload 4, 2, 0, 0, 0), none, some (.ifCond .lt 21, 3, 0, 0, 0), none, none, some (.iload_n 3, 1, 0, 0, 0), some (.bipush 16, 2, 0, 0, 0)], [none, some (.if_icmp .ne 15, 3, 0, 0, 0), none, none, some (.aload_n 1, 1, 0, 0, 0), some (.iconst 4, 1, 0, 0, 0), some (.aload_n 1, 1, 0, 0, 0), some (.invokevirtual 36, 3, 120, 0, 688), none, none, some (.invokevirtual 39, 3, 125, 0, 689), none, none, some (.goto 36, 3, 0, 0, 0), none, none, some (.iload 4, 2, 0, 0, 0), none, some (.ifCond .lt 31, 3, 0, 0, 0), none, none, some (.aload_n 1, 1, 0, 0, 0), some (.invokevirtual 43, 3, 122, 0, 690), none, none, some (.aload_n 0, 1, 0, 0, 0), some (.getfield 9, 3, 2, 1, 354), none, none, some (.iload_n 3, 1, 0, 0, 0), some (.iload 4, 2, 0, 0, 0), none], [some (.iastore, 1, 0, 0, 0), some (.aload_n 0, 1, 0, 0, 0), some (.aload_n 1, 1, 0, 0, 0), some (.iload_n 3, 1, 0, 0, 0), some (.invokevirtual 46, 3, 32, 0, 691), none, none, some (.aload_n 0, 1, 0, 0, 0), some (.dup, 1, 0, 0, 0), some (.getfield 26, 3, 2, 5, 362), none, none, some (.iconst 1, 1, 0, 0, 0), some (.iadd, 1, 0, 0, 0), some (.putfield 26, 3, 2, 5, 362), none, none, some (.aload_n 1, 1, 0, 0, 0), some (.bipush 59, 2, 0, 0, 0), none, some (.invokevirtual 50, 3, 123, 0, 698), none, none, some (.istore_n 2, 1, 0, 0, 0), some (.iinc 3 1, 3, 0, 0, 0), none, none, some (.goto (-82), 3, 0, 0, 0), none, none, some (.aload_n 1, 1, 0, 0, 0), some (.aload_n 0, 1, 0, 0, 0)], [some (.getfield 26, 3, 2, 5, 362), none, none, some (.invokevirtual 54, 3, 129, 0, 699), none, none, some (.ireturn, 1, 0, 0, 0)]]
def cd_32 : List (List (Option si_E)) := [[some (.aload_n 0, 1, 0, 0, 0), some (.getfield 13, 3, 2, 2, 356), none, none, some (.iload_n 2, 1, 0, 0, 0), some (.aload_n 1, 1, 0, 0, 0), some (.invokevirtual 30, 3, 126, 0, 687), none, none, some (.iastore, 1, 0, 0, 0), some (.aload_n 0, 1, 0, 0, 0), some (.getfield 13, 3, 2, 2, 356), none, none, some (.iload_n 2, 1, 0, 0, 0), some (.iaload, 1, 0, 0, 0), some (.aload_n 0, 1, 0, 0, 0), some (.getfield 9, 3, 2, 1, 354), none, none, some (.iload_n 2, 1, 0, 0, 0), some (.iaload, 1, 0, 0, 0), some (.if_icmp .ne 13, 3, 0, 0, 0), none, none, some (.aload_n 1, 1, 0, 0, 0), some (.bipush 6, 2, 0, 0, 0), none, some (.aload_n 1, 1, 0, 0, 0), some (.invokevirtual 36, 3, 120, 0, 688), none, none], [some (.invokevirtual 39, 3, 125, 0, 689), none, none, some (.aload_n 1, 1, 0, 0, 0), some (.invokevirtual 43, 3, 122, 0, 690), none, none, some (.aload_n 1, 1, 0, 0, 0), some (.bipush 64, 2, 0, 0, 0), none, some (.invokevirtual 58, 3, 124, 0, 695), none, none, some (.aload_n 0, 1, 0, 0, 0), some (.getfield 16, 3, 2, 3, 358), none, none, some (.iload_n 2, 1, 0, 0, 0), some (.aload_n 1, 1, 0, 0, 0), some (.aload_n 0, 1, 0, 0, 0), some (.getfield 22, 3, 2, 0, 353), none, none, some (.invokevirtual 62, 3, 128, 0, 696), none, none, some (.iastore, 1, 0, 0, 0), some (.aload_n 1, 1, 0, 0, 0), some (.bipush 58, 2, 0, 0, 0), none, some (.invokevirtual 58, 3, 124, 0, 695), none], [none, some (.aload_n 0, 1, 0, 0, 0), some (.getfield 19, 3, 2, 4, 360), none, none, some (.iload_n 2, 1, 0, 0, 0), some (.aload_n 1, 1, 0, 0, 0), some (.iconst 2, 1, 0, 0, 0), some (.invokevirtual 65, 3, 127, 0, 697), none, none, some (.iastore, 1, 0, 0, 0), some (.return_, 1, 0, 0, 0)]]
def cd_33 : List (List (Option si_E)) := [[some (.iload_n 0, 1, 0, 0, 0), some (.ifCond .lt 21, 3, 0, 0, 0), none, none, some (.iload_n 1, 1, 0, 0, 0), some (.ifCond .lt 17, 3, 0, 0, 0), none, none, some (.iload_n 0, 1, 0, 0, 0), some (.iload_n 1, 1, 0, 0, 0), some (.isub, 1, 0, 0, 0), some (.invokestatic 68, 3, 342, 0, 1191), none, none, some (.iload_n 2, 1, 0, 0, 0), some (.if_icmp .gt 7, 3, 0, 0, 0), none, none, some (.iconst 1, 1, 0, 0, 0), some (.goto 4, 3, 0, 0, 0), none, none, some (.iconst 0, 1, 0, 0, 0), some (.ireturn, 1, 0, 0, 0)]]
def cd_34 : List (List (Option si_E)) := [[some (.aload_n 2, 1, 0, 0, 0), some (.aload_n 0, 1, 0, 0, 0), some (.getfield 9, 3, 2, 1, 354), none, none, some (.iload_n 1, 1, 0, 0, 0), some (.iaload, 1, 0, 0, 0), some (.aload_n 0, 1, 0, 0, 0), some (.getfield 16, 3, 2, 3, 358), none, none, some (.iload_n 1, 1, 0, 0, 0), some (.iaload, 1, 0, 0, 0), some (.invokevirtual 73, 3, 69, 0, 1219), none, none, some (.istore_n 3, 1, 0, 0, 0), some (.iload_n 3, 1, 0, 0, 0), some (.aload_n 2, 1, 0, 0, 0), some (.aload_n 0, 1, 0, 0, 0), some (.getfield 13, 3, 2, 2, 356), none, none, some (.iload_n 1, 1, 0, 0, 0), some (.iaload, 1, 0, 0, 0), some (.aload_n 0, 1, 0, 0, 0), some (.getfield 16, 3, 2, 3, 358), none, none, some (.iload_n 1, 1, 0, 0, 0), some (.iaload, 1, 0, 0, 0), some (.invokevirtual 73, 3, 69, 0, 1219)], [none, none, some (.aload_n 0, 1, 0, 0, 0), some (.getfield 19, 3, 2, 4, 360), none, none, some (.iload_n 1, 1, 0, 0, 0), some (.iaload, 1, 0, 0, 0), some (.invokestatic 79, 3, 33, 0, 1220), none, none, some (.ireturn, 1, 0, 0, 0)]]
def cd_35 : List (List (Option si_E)) := [[some (.aload_n 2, 1, 0, 0, 0), some (.aload_n 0, 1, 0, 0, 0), some (.getfield 9, 3, 2, 1, 354), none, none, some (.iload_n 1, 1, 0, 0, 0), some (.iaload, 1, 0, 0, 0), some (.aload_n 0, 1, 0, 0, 0), some (.getfield 16, 3, 2, 3, 358), none, none, some (.iload_n 1, 1, 0, 0, 0), some (.iaload, 1, 0, 0, 0), some (.invokevirtual 73, 3, 69, 0, 1219), none, none, some (.istore_n 3, 1, 0, 0, 0), some (.aload_n 2, 1, 0, 0, 0), some (.aload_n 0, 1, 0, 0, 0), some (.getfield 13, 3, 2, 2, 356), none, none, some (.iload_n 1, 1, 0, 0, 0), some (.iaload, 1, 0, 0, 0), some (.aload_n 0, 1, 0, 0, 0), some (.getfield 16, 3, 2, 3, 358), none, none, some (.iload_n 1, 1, 0, 0, 0), some (.iaload, 1, 0, 0, 0), some (.invokevirtual 73, 3, 69, 0, 1219), none], [none, some (.istore 4, 2, 0, 0, 0), none, some (.iload_n 3, 1, 0, 0, 0), some (.ifCond .ge 10, 3, 0, 0, 0), none, none, some (.iload 4, 2, 0, 0, 0), none, some (.ifCond .ge 5, 3, 0, 0, 0), none, none, some (.iconst 0, 1, 0, 0, 0), some (.ireturn, 1, 0, 0, 0), some (.iload_n 3, 1, 0, 0, 0), some (.ifCond .lt 8, 3, 0, 0, 0), none, none, some (.iload 4, 2, 0, 0, 0), none, some (.ifCond .ge 10, 3, 0, 0, 0), none, none, some (.aload_n 0, 1, 0, 0, 0), some (.getfield 19, 3, 2, 4, 360), none, none, some (.iload_n 1, 1, 0, 0, 0), some (.iaload, 1, 0, 0, 0), some (.ireturn, 1, 0, 0, 0), some (.iload_n 3, 1, 0, 0, 0), some (.iload 4, 2, 0, 0, 0)], [none, some (.isub, 1, 0, 0, 0), some (.invokestatic 68, 3, 342, 0, 1191), none, none, some (.aload_n 0, 1, 0, 0, 0), some (.getfield 19, 3, 2, 4, 360), none, none, some (.iload_n 1, 1, 0, 0, 0), some (.iaload, 1, 0, 0, 0), some (.invokestatic 83, 3, 344, 0, 1225), none, none, some (.ireturn, 1, 0, 0, 0)]]
def cd_36 : List (List (Option si_E)) := [[some (.iconst 0, 1, 0, 0, 0), some (.istore_n 2, 1, 0, 0, 0), some (.iconst 0, 1, 0, 0, 0), some (.istore_n 3, 1, 0, 0, 0), some (.iload_n 3, 1, 0, 0, 0), some (.aload_n 0, 1, 0, 0, 0), some (.getfield 26, 3, 2, 5, 362), none, none, some (.if_icmp .ge 21, 3, 0, 0, 0), none, none, some (.aload_n 0, 1, 0, 0, 0), some (.iload_n 3, 1, 0, 0, 0), some (.aload_n 1, 1, 0, 0, 0), some (.invokevirtual 86, 3, 34, 0, 1234), none, none, some (.ifCond .eq 6, 3, 0, 0, 0), none, none, some (.iinc 2 1, 3, 0, 0, 0), none, none, some (.iinc 3 1, 3, 0, 0, 0), none, none, some (.goto (-23), 3, 0, 0, 0), none, none, some (.iload_n 2, 1, 0, 0, 0), some (.ireturn, 1, 0, 0, 0)]]
def cd_37 : List (List (Option si_E)) := [[some (.iconst 0, 1, 0, 0, 0), some (.istore_n 2, 1, 0, 0, 0), some (.iconst 0, 1, 0, 0, 0), some (.istore_n 3, 1, 0, 0, 0), some (.iload_n 3, 1, 0, 0, 0), some (.aload_n 0, 1, 0, 0, 0), some (.getfield 26, 3, 2, 5, 362), none, none, some (.if_icmp .ge 18, 3, 0, 0, 0), none, none, some (.iload_n 2, 1, 0, 0, 0), some (.aload_n 0, 1, 0, 0, 0), some (.iload_n 3, 1, 0, 0, 0), some (.aload_n 1, 1, 0, 0, 0), some (.invokevirtual 90, 3, 35, 0, 1239), none, none, some (.iadd, 1, 0, 0, 0), some (.istore_n 2, 1, 0, 0, 0), some (.iinc 3 1, 3, 0, 0, 0), none, none, some (.goto (-20), 3, 0, 0, 0), none, none, some (.iload_n 2, 1, 0, 0, 0), some (.ireturn, 1, 0, 0, 0)]]
def cd_38 : List (List (Option si_E)) := [[some (.aload_n 0, 1, 0, 0, 0), some (.invokespecial 3, 3, 0, 9, 271), none, none, some (.aload_n 0, 1, 0, 0, 0), some (.bipush 8, 2, 0, 0, 0), none, some (.newarray .boolean, 2, 0, 0, 300), none, some (.putfield 9, 3, 3, 1, 273), none, none, some (.aload_n 0, 1, 0, 0, 0), some (.bipush 8, 2, 0, 0, 0), none, some (.newarray .int, 2, 0, 0, 174), none, some (.putfield 15, 3, 3, 2, 275), none, none, some (.aload_n 0, 1, 0, 0, 0), some (.bipush 8, 2, 0, 0, 0), none, some (.newarray .int, 2, 0, 0, 174), none, some (.putfield 19, 3, 3, 3, 277), none, none, some (.aload_n 0, 1, 0, 0, 0), some (.bipush 8, 2, 0, 0, 0), none, some (.newarray .int, 2, 0, 0, 174)], [none, some (.putfield 22, 3, 3, 4, 279), none, none, some (.aload_n 0, 1, 0, 0, 0), some (.iconst 1, 1, 0, 0, 0), some (.putfield 25, 3, 3, 6, 283), none, none, some (.aload_n 0, 1, 0, 0, 0), some (.aload_n 1, 1, 0, 0, 0), some (.putfield 29, 3, 3, 0, 272), none, none, some (.return_, 1, 0, 0, 0)]]
def cd_39 : List (List (Option si_E)) := [[some (.iconst 0, 1, 0, 0, 0), some (.istore_n 1, 1, 0, 0, 0), some (.iload_n 1, 1, 0, 0, 0), some (.bipush 8, 2, 0, 0, 0), none, some (.if_icmp .ge 16, 3, 0, 0, 0), none, none, some (.aload_n 0, 1, 0, 0, 0), some (.getfield 9, 3, 3, 1, 273), none, none, some (.iload_n 1, 1, 0, 0, 0), some (.iconst 0, 1, 0, 0, 0), some (.bastore, 1, 0, 0, 0), some (.iinc 1 1, 3, 0, 0, 0), none, none, some (.goto (-16), 3, 0, 0, 0), none, none, some (.return_, 1, 0, 0, 0)]]
def cd_40 : List (List (Option si_E)) := [[some (.aload_n 0, 1, 0, 0, 0), some (.getfield 9, 3, 3, 1, 273), none, none, some (.iload_n 1, 1, 0, 0, 0), some (.aload_n 2, 1, 0, 0, 0), some (.getfield 9, 3, 3, 1, 273), none, none, some (.iload_n 1, 1, 0, 0, 0), some (.baload, 1, 0, 0, 0), some (.bastore, 1, 0, 0, 0), some (.aload_n 0, 1, 0, 0, 0), some (.getfield 15, 3, 3, 2, 275), none, none, some (.iload_n 1, 1, 0, 0, 0), some (.aload_n 2, 1, 0, 0, 0), some (.getfield 15, 3, 3, 2, 275), none, none, some (.iload_n 1, 1, 0, 0, 0), some (.iaload, 1, 0, 0, 0), some (.iastore, 1, 0, 0, 0), some (.aload_n 0, 1, 0, 0, 0), some (.getfield 19, 3, 3, 3, 277), none, none, some (.iload_n 1, 1, 0, 0, 0), some (.aload_n 2, 1, 0, 0, 0), some (.getfield 19, 3, 3, 3, 277), none], [none, some (.iload_n 1, 1, 0, 0, 0), some (.iaload, 1, 0, 0, 0), some (.iastore, 1, 0, 0, 0), some (.aload_n 0, 1, 0, 0, 0), some (.getfield 22, 3, 3, 4, 279), none, none, some (.iload_n 1, 1, 0, 0, 0), some (.aload_n 2, 1, 0, 0, 0), some (.getfield 22, 3, 3, 4, 279), none, none, some (.iload_n 1, 1, 0, 0, 0), some (.iaload, 1, 0, 0, 0), some (.iastore, 1, 0, 0, 0), some (.return_, 1, 0, 0, 0)]]
def cd_41 : List (List (Option si_E)) := [[some (.iconst 0, 1, 0, 0, 0), some (.istore_n 2, 1, 0, 0, 0), some (.iload_n 2, 1, 0, 0, 0), some (.bipush 8, 2, 0, 0, 0), none, some (.if_icmp .ge 15, 3, 0, 0, 0), none, none, some (.aload_n 0, 1, 0, 0, 0), some (.iload_n 2, 1, 0, 0, 0), some (.aload_n 1, 1, 0, 0, 0), some (.invokevirtual 33, 3, 40, 0, 675), none, none, some (.iinc 2 1, 3, 0, 0, 0), none, none, some (.goto (-15), 3, 0, 0, 0), none, none, some (.return_, 1, 0, 0, 0)]]
def cd_42 : List (List (Option si_E)) := [[some (.aload_n 0, 1, 0, 0, 0), some (.aload_n 1, 1, 0, 0, 0), some (.invokevirtual 37, 3, 41, 0, 1307), none, none, some (.aload_n 0, 1, 0, 0, 0), some (.aload_n 1, 1, 0, 0, 0), some (.getfield 41, 3, 3, 5, 281), none, none, some (.putfield 41, 3, 3, 5, 281), none, none, some (.aload_n 0, 1, 0, 0, 0), some (.aload_n 1, 1, 0, 0, 0), some (.getfield 25, 3, 3, 6, 283), none, none, some (.putfield 25, 3, 3, 6, 283), none, none, some (.return_, 1, 0, 0, 0)]]
def cd_43 : List (List (Option si_E)) := [[some (.iconst 0, 1, 0, 0, 0), some (.istore_n 2, 1, 0, 0, 0), some (.iload_n 2, 1, 0, 0, 0), some (.bipush 8, 2, 0, 0, 0), none, some (.if_icmp .ge 24, 3, 0, 0, 0), none, none, some (.aload_n 1, 1, 0, 0, 0), some (.getfield 9, 3, 3, 1, 273), none, none, some (.iload_n 2, 1, 0, 0, 0), some (.baload, 1, 0, 0, 0), some (.ifCond .eq 9, 3, 0, 0, 0), none, none, some (.aload_n 0, 1, 0, 0, 0), some (.iload_n 2, 1, 0, 0, 0), some (.aload_n 1, 1, 0, 0, 0), some (.invokevirtual 33, 3, 40, 0, 675), none, none, some (.iinc 2 1, 3, 0, 0, 0), none, none, some (.goto (-24), 3, 0, 0, 0), none, none, some (.aload_n 0, 1, 0, 0, 0), some (.aload_n 1, 1, 0, 0, 0), some (.getfield 41, 3, 3, 5, 281)], [none, none, some (.putfield 41, 3, 3, 5, 281), none, none, some (.aload_n 0, 1, 0, 0, 0), some (.aload_n 1, 1, 0, 0, 0), some (.getfield 25, 3, 3, 6, 283), none, none, some (.putfield 25, 3, 3, 6, 283), none, none, some (.return_, 1, 0, 0, 0)]]
def cd_44 : List (List (Option si_E)) := [[some (.aload_n 0, 1, 0, 0, 0), some (.invokevirtual 44, 3, 39, 0, 642), none, none, some (.iconst 0, 1, 0, 0, 0), some (.istore_n 2, 1, 0, 0, 0), some (.iconst 1, 1, 0, 0, 0), some (.istore_n 3, 1, 0, 0, 0), some (.iconst 0, 1, 0, 0, 0), some (.istore 4, 2, 0, 0, 0), none, some (.iload 4, 2, 0, 0, 0), none, some (.bipush 8, 2, 0, 0, 0), none, some (.if_icmp .gt 67, 3, 0, 0, 0), none, none, some (.iload_n 3, 1, 0, 0, 0), some (.ifCond .eq 63, 3, 0, 0, 0), none, none, some (.aload_n 1, 1, 0, 0, 0), some (.invokevirtual 47, 3, 126, 0, 643), none, none, some (.istore 5, 2, 0, 0, 0), none, some (.aload_n 0, 1, 0, 0, 0), some (.iload 5, 2, 0, 0, 0), none, some (.invokevirtual 53, 3, 46, 0, 647)], [none, none, some (.ifCond .eq 16, 3, 0, 0, 0), none, none, some (.aload_n 1, 1, 0, 0, 0), some (.bipush 6, 2, 0, 0, 0), none, some (.aload_n 1, 1, 0, 0, 0), some (.invokevirtual 57, 3, 120, 0, 651), none, none, some (.invokevirtual 60, 3, 125, 0, 652), none, none, some (.goto 22, 3, 0, 0, 0), none, none, some (.iload 5, 2, 0, 0, 0), none, some (.ifCond .lt 17, 3, 0, 0, 0), none, none, some (.aload_n 1, 1, 0, 0, 0), some (.invokevirtual 64, 3, 122, 0, 653), none, none, some (.aload_n 0, 1, 0, 0, 0), some (.aload_n 1, 1, 0, 0, 0), some (.iload 5, 2, 0, 0, 0), none, some (.invokevirtual 67, 3, 45, 0, 654)], [none, none, some (.iinc 2 1, 3, 0, 0, 0), none, none, some (.aload_n 1, 1, 0, 0, 0), some (.bipush 59, 2, 0, 0, 0), none, some (.invokevirtual 71, 3, 123, 0, 668), none, none, some (.istore_n 3, 1, 0, 0, 0), some (.iinc 4 1, 3, 0, 0, 0), none, none, some (.goto (-68), 3, 0, 0, 0), none, none, some (.aload_n 1, 1, 0, 0, 0), some (.iload_n 2, 1, 0, 0, 0), some (.invokevirtual 74, 3, 129, 0, 670), none, none, some (.ireturn, 1, 0, 0, 0)]]
def cd_45 : List (List (Option si_E)) := [[some (.aload_n 1, 1, 0, 0, 0), some (.bipush 64, 2, 0, 0, 0), none, some (.invokevirtual 78, 3, 124, 0, 658), none, none, some (.aload_n 0, 1, 0, 0, 0), some (.getfield 9, 3, 3, 1, 273), none, none, some (.iload_n 2, 1, 0, 0, 0), some (.iconst 1, 1, 0, 0, 0), some (.bastore, 1, 0, 0, 0), some (.aload_n 0, 1, 0, 0, 0), some (.getfield 15, 3, 3, 2, 275), none, none, some (.iload_n 2, 1, 0, 0, 0), some (.aload_n 1, 1, 0, 0, 0), some (.aload_n 0, 1, 0, 0, 0), some (.getfield 29, 3, 3, 0, 272), none, none, some (.invokevirtual 82, 3, 128, 0, 659), none, none, some (.iastore, 1, 0, 0, 0), some (.aload_n 0, 1, 0, 0, 0), some (.getfield 19, 3, 3, 3, 277), none, none, some (.iload_n 2, 1, 0, 0, 0)], [some (.iconst 0, 1, 0, 0, 0), some (.iastore, 1, 0, 0, 0), some (.aload_n 0, 1, 0, 0, 0), some (.getfield 22, 3, 3, 4, 279), none, none, some (.iload_n 2, 1, 0, 0, 0), some (.iconst 0, 1, 0, 0, 0), some (.iastore, 1, 0, 0, 0), some (.aload_n 1, 1, 0, 0, 0), some (.bipush 43, 2, 0, 0, 0), none, some (.invokevirtual 71, 3, 123, 0, 668), none, none, some (.ifCond .eq 17, 3, 0, 0, 0), none, none, some (.aload_n 0, 1, 0, 0, 0), some (.getfield 19, 3, 3, 3, 277), none, none, some (.iload_n 2, 1, 0, 0, 0), some (.aload_n 1, 1, 0, 0, 0), some (.iconst 2, 1, 0, 0, 0), some (.invokevirtual 86, 3, 127, 0, 669), none, none, some (.iastore, 1, 0, 0, 0), some (.goto 24, 3, 0, 0, 0), none, none], [some (.aload_n 1, 1, 0, 0, 0), some (.bipush 45, 2, 0, 0, 0), none, some (.invokevirtual 71, 3, 123, 0, 668), none, none, some (.ifCond .eq 15, 3, 0, 0, 0), none, none, some (.aload_n 0, 1, 0, 0, 0), some (.getfield 19, 3, 3, 3, 277), none, none, some (.iload_n 2, 1, 0, 0, 0), some (.aload_n 1, 1, 0, 0, 0), some (.iconst 2, 1, 0, 0, 0), some (.invokevirtual 86, 3, 127, 0, 669), none, none, some (.ineg, 1, 0, 0, 0), some (.iastore, 1, 0, 0, 0), some (.return_, 1, 0, 0, 0)]]
def cd_46 : List (List (Option si_E)) := [[some (.iload_n 1, 1, 0, 0, 0), some (.ifCond .lt 22, 3, 0, 0, 0), none, none, some (.iload_n 1, 1, 0, 0, 0), some (.bipush 8, 2, 0, 0, 0), none, some (.if_icmp .ge 16, 3, 0, 0, 0), none, none, some (.aload_n 0, 1, 0, 0, 0), some (.getfield 9, 3, 3, 1, 273), none, none, some (.iload_n 1, 1, 0, 0, 0), some (.baload, 1, 0, 0, 0), some (.ifCond .eq 7, 3, 0, 0, 0), none, none, some (.iconst 1, 1, 0, 0, 0), some (.goto 4, 3, 0, 0, 0), none, none, some (.iconst 0, 1, 0, 0, 0), some (.ireturn, 1, 0, 0, 0)]]
def cd_47 : List (List (Option si_E)) := [[some (.iload_n 1, 1, 0, 0, 0), some (.iload_n 2, 1, 0, 0, 0), some (.if_icmp .eq 23, 3, 0, 0, 0), none, none, some (.aload_n 0, 1, 0, 0, 0), some (.iload_n 1, 1, 0, 0, 0), some (.invokevirtual 53, 3, 46, 0, 647), none, none, some (.ifCond .eq 15, 3, 0, 0, 0), none, none, some (.aload_n 0, 1, 0, 0, 0), some (.iload_n 2, 1, 0, 0, 0), some (.invokevirtual 53, 3, 46, 0, 647), none, none, some (.ifCond .eq 7, 3, 0, 0, 0), none, none, some (.iconst 1, 1, 0, 0, 0), some (.goto 4, 3, 0, 0, 0), none, none, some (.iconst 0, 1, 0, 0, 0), some (.ireturn, 1, 0, 0, 0)]]
def cd_48 : List (List (Option si_E)) := [[some (.iconst 0, 1, 0, 0, 0), some (.istore_n 1, 1, 0, 0, 0), some (.iconst 0, 1, 0, 0, 0), some (.istore_n 2, 1, 0, 0, 0), some (.iload_n 2, 1, 0, 0, 0), some (.bipush 8, 2, 0, 0, 0), none, some (.if_icmp .ge 24, 3, 0, 0, 0), none, none, some (.aload_n 0, 1, 0, 0, 0), some (.getfield 9, 3, 3, 1, 273), none, none, some (.iload_n 2, 1, 0, 0, 0), some (.baload, 1, 0, 0, 0), some (.ifCond .eq 9, 3, 0, 0, 0), none, none, some (.iload_n 1, 1, 0, 0, 0), some (.iconst 1, 1, 0, 0, 0), some (.iload_n 2, 1, 0, 0, 0), some (.ishl, 1, 0, 0, 0), some (.ior, 1, 0, 0, 0), some (.istore_n 1, 1, 0, 0, 0), some (.iinc 2 1, 3, 0, 0, 0), none, none, some (.goto (-24), 3, 0, 0, 0), none, none, some (.iload_n 1, 1, 0, 0, 0)], [some (.ireturn, 1, 0, 0, 0)]]
def cd_49 : List (List (Option si_E)) := [[some (.iconst 0, 1, 0, 0, 0), some (.istore_n 1, 1, 0, 0, 0), some (.iconst 0, 1, 0, 0, 0), some (.istore_n 2, 1, 0, 0, 0), some (.iload_n 2, 1, 0, 0, 0), some (.bipush 8, 2, 0, 0, 0), none, some (.if_icmp .ge 27, 3, 0, 0, 0), none, none, some (.aload_n 0, 1, 0, 0, 0), some (.getfield 9, 3, 3, 1, 273), none, none, some (.iload_n 2, 1, 0, 0, 0), some (.baload, 1, 0, 0, 0), some (.ifCond .eq 12, 3, 0, 0, 0), none, none, some (.iload_n 1, 1, 0, 0, 0), some (.aload_n 0, 1, 0, 0, 0), some (.getfield 22, 3, 3, 4, 279), none, none, some (.iload_n 2, 1, 0, 0, 0), some (.iaload, 1, 0, 0, 0), some (.iadd, 1, 0, 0, 0), some (.istore_n 1, 1, 0, 0, 0), some (.iinc 2 1, 3, 0, 0, 0), none, none, some (.goto (-27), 3, 0, 0, 0)], [none, none, some (.iload_n 1, 1, 0, 0, 0), some (.ireturn, 1, 0, 0, 0)]]
def cd_50 : List (List (Option si_E)) := [[some (.aload_n 0, 1, 0, 0, 0), some (.iload_n 1, 1, 0, 0, 0), some (.invokevirtual 53, 3, 46, 0, 647), none, none, some (.ifCond .eq 16, 3, 0, 0, 0), none, none, some (.aload_n 0, 1, 0, 0, 0), some (.getfield 15, 3, 3, 2, 275), none, none, some (.iload_n 1, 1, 0, 0, 0), some (.iaload, 1, 0, 0, 0), some (.sipush 255, 3, 0, 0, 0), none, none, some (.iand, 1, 0, 0, 0), some (.goto 6, 3, 0, 0, 0), none, none, some (.sipush 255, 3, 0, 0, 0), none, none, some (.ireturn, 1, 0, 0, 0)]]
def cd_51 : List (List (Option si_E)) := [[some (.aload_n 0, 1, 0, 0, 0), some (.getfield 15, 3, 3, 2, 275), none, none, some (.iload_n 1, 1, 0, 0, 0), some (.iload_n 2, 1, 0, 0, 0), some (.iastore, 1, 0, 0, 0), some (.aload_n 0, 1, 0, 0, 0), some (.getfield 22, 3, 3, 4, 279), none, none, some (.iload_n 1, 1, 0, 0, 0), some (.aload_n 0, 1, 0, 0, 0), some (.getfield 22, 3, 3, 4, 279), none, none, some (.iload_n 1, 1, 0, 0, 0), some (.iaload, 1, 0, 0, 0), some (.iconst 1, 1, 0, 0, 0), some (.iadd, 1, 0, 0, 0), some (.sipush 9999, 3, 0, 0, 0), none, none, some (.invokestatic 89, 3, 344, 0, 1177), none, none, some (.iastore, 1, 0, 0, 0), some (.return_, 1, 0, 0, 0)]]
def cd_52 : List (List (Option si_E)) := [[some (.aload_n 0, 1, 0, 0, 0), some (.sipush 25173, 3, 0, 0, 0), none, none, some (.aload_n 0, 1, 0, 0, 0), some (.getfield 25, 3, 3, 6, 283), none, none, some (.imul, 1, 0, 0, 0), some (.sipush 13849, 3, 0, 0, 0), none, none, some (.iadd, 1, 0, 0, 0), some (.ldc 95, 2, 65535, 0, 1263), none, some (.iand, 1, 0, 0, 0), some (.putfield 25, 3, 3, 6, 283), none, none, some (.aload_n 0, 1, 0, 0, 0), some (.getfield 25, 3, 3, 6, 283), none, none, some (.bipush 10, 2, 0, 0, 0), none, some (.irem, 1, 0, 0, 0), some (.ireturn, 1, 0, 0, 0)]]
def cd_53 : List (List (Option si_E)) := [[some (.aload_n 3, 1, 0, 0, 0), some (.iconst 0, 1, 0, 0, 0), some (.iload_n 1, 1, 0, 0, 0), some (.iastore, 1, 0, 0, 0), some (.aload_n 3, 1, 0, 0, 0), some (.iconst 1, 1, 0, 0, 0), some (.aload_n 0, 1, 0, 0, 0), some (.getfield 15, 3, 3, 2, 275), none, none, some (.iload_n 1, 1, 0, 0, 0), some (.iaload, 1, 0, 0, 0), some (.iastore, 1, 0, 0, 0), some (.aload_n 3, 1, 0, 0, 0), some (.iconst 2, 1, 0, 0, 0), some (.aload_n 0, 1, 0, 0, 0), some (.getfield 19, 3, 3, 3, 277), none, none, some (.iload_n 1, 1, 0, 0, 0), some (.iaload, 1, 0, 0, 0), some (.bipush 99, 2, 0, 0, 0), none, some (.iadd, 1, 0, 0, 0), some (.iastore, 1, 0, 0, 0), some (.aload_n 3, 1, 0, 0, 0), some (.iconst 3, 1, 0, 0, 0), some (.aload_n 0, 1, 0, 0, 0), some (.getfield 22, 3, 3, 4, 279), none, none, some (.iload_n 1, 1, 0, 0, 0)], [some (.iaload, 1, 0, 0, 0), some (.iastore, 1, 0, 0, 0), some (.aload_n 3, 1, 0, 0, 0), some (.iconst 4, 1, 0, 0, 0), some (.aload_n 0, 1, 0, 0, 0), some (.iload_n 1, 1, 0, 0, 0), some (.invokevirtual 96, 3, 54, 0, 1268), none, none, some (.iastore, 1, 0, 0, 0), some (.aload_n 3, 1, 0, 0, 0), some (.iconst 5, 1, 0, 0, 0), some (.aload_n 0, 1, 0, 0, 0), some (.getfield 29, 3, 3, 0, 272), none, none, some (.aload_n 0, 1, 0, 0, 0), some (.getfield 15, 3, 3, 2, 275), none, none, some (.iload_n 1, 1, 0, 0, 0), some (.iaload, 1, 0, 0, 0), some (.iconst 0, 1, 0, 0, 0), some (.invokevirtual 99, 3, 79, 0, 1139), none, none, some (.iastore, 1, 0, 0, 0), some (.aload_n 3, 1, 0, 0, 0), some (.bipush 6, 2, 0, 0, 0), none, some (.aload_n 0, 1, 0, 0, 0), some (.getfield 41, 3, 3, 5, 281)], [none, none, some (.bipush 100, 2, 0, 0, 0), none, some (.irem, 1, 0, 0, 0), some (.iastore, 1, 0, 0, 0), some (.aload_n 3, 1, 0, 0, 0), some (.bipush 7, 2, 0, 0, 0), none, some (.iload_n 2, 1, 0, 0, 0), some (.iastore, 1, 0, 0, 0), some (.return_, 1, 0, 0, 0)]]
def cd_54 : List (List (Option si_E)) := [[some (.iconst 0, 1, 0, 0, 0), some (.istore_n 2, 1, 0, 0, 0), some (.iconst 0, 1, 0, 0, 0), some (.istore_n 3, 1, 0, 0, 0), some (.iload_n 3, 1, 0, 0, 0), some (.bipush 8, 2, 0, 0, 0), none, some (.if_icmp .ge 41, 3, 0, 0, 0), none, none, some (.iload_n 3, 1, 0, 0, 0), some (.iload_n 1, 1, 0, 0, 0), some (.if_icmp .eq 30, 3, 0, 0, 0), none, none, some (.aload_n 0, 1, 0, 0, 0), some (.getfield 9, 3, 3, 1, 273), none, none, some (.iload_n 3, 1, 0, 0, 0), some (.baload, 1, 0, 0, 0), some (.ifCond .eq 21, 3, 0, 0, 0), none, none, some (.aload_n 0, 1, 0, 0, 0), some (.getfield 15, 3, 3, 2, 275), none, none, some (.iload_n 3, 1, 0, 0, 0), some (.iaload, 1, 0, 0, 0), some (.aload_n 0, 1, 0, 0, 0), some (.getfield 15, 3, 3, 2, 275)], [none, none, some (.iload_n 1, 1, 0, 0, 0), some (.iaload, 1, 0, 0, 0), some (.if_icmp .ne 6, 3, 0, 0, 0), none, none, some (.iinc 2 1, 3, 0, 0, 0), none, none, some (.iinc 3 1, 3, 0, 0, 0), none, none, some (.goto (-41), 3, 0, 0, 0), none, none, some (.iload_n 2, 1, 0, 0, 0), some (.ireturn, 1, 0, 0, 0)]]
def cd_55 : List (List (Option si_E)) := [[some (.aload_n 0, 1, 0, 0, 0), some (.getfield 29, 3, 3, 0, 272), none, none, some (.aload_n 0, 1, 0, 0, 0), some (.getfield 15, 3, 3, 2, 275), none, none, some (.iload_n 1, 1, 0, 0, 0), some (.iaload, 1, 0, 0, 0), some (.iload_n 2, 1, 0, 0, 0), some (.iadd, 1, 0, 0, 0), some (.iload_n 2, 1, 0, 0, 0), some (.aload_n 0, 1, 0, 0, 0), some (.getfield 19, 3, 3, 3, 277), none, none, some (.iload_n 1, 1, 0, 0, 0), some (.iaload, 1, 0, 0, 0), some (.imul, 1, 0, 0, 0), some (.sipush 1000, 3, 0, 0, 0), none, none, some (.invokestatic 104, 3, 341, 0, 1069), none, none, some (.iadd, 1, 0, 0, 0), some (.invokevirtual 107, 3, 75, 0, 1072), none, none, some (.ireturn, 1, 0, 0, 0)]]
def cd_56 : List (List (Option si_E)) := [[some (.aload_n 0, 1, 0, 0, 0), some (.getfield 29, 3, 3, 0, 272), none, none, some (.aload_n 0, 1, 0, 0, 0), some (.iload_n 1, 1, 0, 0, 0), some (.iload_n 2, 1, 0, 0, 0), some (.invokevirtual 110, 3, 55, 0, 1083), none, none, some (.iload_n 2, 1, 0, 0, 0), some (.invokevirtual 99, 3, 79, 0, 1139), none, none, some (.ireturn, 1, 0, 0, 0)]]
def cd_57 : List (List (Option si_E)) := [[some (.aload_n 0, 1, 0, 0, 0), some (.iload_n 1, 1, 0, 0, 0), some (.iload 4, 2, 0, 0, 0), none, some (.invokevirtual 110, 3, 55, 0, 1083), none, none, some (.istore 5, 2, 0, 0, 0), none, some (.aload_n 0, 1, 0, 0, 0), some (.iload_n 2, 1, 0, 0, 0), some (.iload 4, 2, 0, 0, 0), none, some (.invokevirtual 110, 3, 55, 0, 1083), none, none, some (.istore 6, 2, 0, 0, 0), none, some (.iload_n 3, 1, 0, 0, 0), some (.ifCond .eq 17, 3, 0, 0, 0), none, none, some (.aload_n 0, 1, 0, 0, 0), some (.getfield 29, 3, 3, 0, 272), none, none, some (.iload 5, 2, 0, 0, 0), none, some (.iload 6, 2, 0, 0, 0), none, some (.invokevirtual 113, 3, 81, 0, 1105), none], [none, some (.goto 15, 3, 0, 0, 0), none, none, some (.iload 5, 2, 0, 0, 0), none, some (.iload 6, 2, 0, 0, 0), none, some (.if_icmp .ne 7, 3, 0, 0, 0), none, none, some (.iconst 1, 1, 0, 0, 0), some (.goto 4, 3, 0, 0, 0), none, none, some (.iconst 0, 1, 0, 0, 0), some (.ireturn, 1, 0, 0, 0)]]
def cd_58 : List (List (Option si_E)) := [[some (.aload_n 2, 1, 0, 0, 0), some (.invokevirtual 117, 3, 131, 0, 1081), none, none, some (.aload_n 0, 1, 0, 0, 0), some (.getfield 29, 3, 3, 0, 272), none, none, some (.invokevirtual 122, 3, 73, 0, 1082), none, none, some (.istore_n 3, 1, 0, 0, 0), some (.iconst 0, 1, 0, 0, 0), some (.istore 4, 2, 0, 0, 0), none, some (.iload 4, 2, 0, 0, 0), none, some (.iload_n 3, 1, 0, 0, 0), some (.if_icmp .ge 27, 3, 0, 0, 0), none, none, some (.aload_n 0, 1, 0, 0, 0), some (.iload_n 1, 1, 0, 0, 0), some (.iload 4, 2, 0, 0, 0), none, some (.invokevirtual 110, 3, 55, 0, 1083), none, none, some (.iload 4, 2, 0, 0, 0), none, some (.if_icmp .ne 9, 3, 0, 0, 0), none], [none, some (.aload_n 2, 1, 0, 0, 0), some (.iload 4, 2, 0, 0, 0), none, some (.invokevirtual 125, 3, 132, 0, 1084), none, none, some (.iinc 4 1, 3, 0, 0, 0), none, none, some (.goto (-27), 3, 0, 0, 0), none, none, some (.return_, 1, 0, 0, 0)]]
def cd_59 : List (List (Option si_E)) := [[some (.aload 4, 2, 0, 0, 0), none, some (.invokevirtual 117, 3, 131, 0, 1081), none, none, some (.aload_n 0, 1, 0, 0, 0), some (.getfield 29, 3, 3, 0, 272), none, none, some (.invokevirtual 122, 3, 73, 0, 1082), none, none, some (.istore 5, 2, 0, 0, 0), none, some (.iconst 0, 1, 0, 0, 0), some (.istore 6, 2, 0, 0, 0), none, some (.iload 6, 2, 0, 0, 0), none, some (.iload 5, 2, 0, 0, 0), none, some (.if_icmp .ge 28, 3, 0, 0, 0), none, none, some (.aload_n 0, 1, 0, 0, 0), some (.iload_n 1, 1, 0, 0, 0), some (.iload_n 2, 1, 0, 0, 0), some (.iload_n 3, 1, 0, 0, 0), some (.iload 6, 2, 0, 0, 0), none, some (.invokevirtual 128, 3, 57, 0, 1101), none], [none, some (.ifCond .eq 10, 3, 0, 0, 0), none, none, some (.aload 4, 2, 0, 0, 0), none, some (.iload 6, 2, 0, 0, 0), none, some (.invokevirtual 125, 3, 132, 0, 1084), none, none, some (.iinc 6 1, 3, 0, 0, 0), none, none, some (.goto (-29), 3, 0, 0, 0), none, none, some (.return_, 1, 0, 0, 0)]]
def cd_60 : List (List (Option si_E)) := [[some (.iconst 0, 1, 0, 0, 0), some (.istore_n 3, 1, 0, 0, 0), some (.iconst 0, 1, 0, 0, 0), some (.istore 4, 2, 0, 0, 0), none, some (.aload_n 0, 1, 0, 0, 0), some (.getfield 29, 3, 3, 0, 272), none, none, some (.invokevirtual 122, 3, 73, 0, 1082), none, none, some (.istore 5, 2, 0, 0, 0), none, some (.iconst 0, 1, 0, 0, 0), some (.istore 6, 2, 0, 0, 0), none, some (.iload 6, 2, 0, 0, 0), none, some (.iload 5, 2, 0, 0, 0), none, some (.if_icmp .ge 38, 3, 0, 0, 0), none, none, some (.aload_n 0, 1, 0, 0, 0), some (.iload_n 1, 1, 0, 0, 0), some (.iload_n 2, 1, 0, 0, 0), some (.iconst 0, 1, 0, 0, 0), some (.iload 6, 2, 0, 0, 0), none, some (.invokevirtual 128, 3, 57, 0, 1101), none], [none, some (.ifCond .eq 10, 3, 0, 0, 0), none, none, some (.iload 4, 2, 0, 0, 0), none, some (.iconst 1, 1, 0, 0, 0), some (.iadd, 1, 0, 0, 0), some (.goto 4, 3, 0, 0, 0), none, none, some (.iconst 0, 1, 0, 0, 0), some (.istore 4, 2, 0, 0, 0), none, some (.iload_n 3, 1, 0, 0, 0), some (.iload 4, 2, 0, 0, 0), none, some (.invokestatic 132, 3, 343, 0, 1114), none, none, some (.istore_n 3, 1, 0, 0, 0), some (.iinc 6 1, 3, 0, 0, 0), none, none, some (.goto (-39), 3, 0, 0, 0), none, none, some (.iload_n 3, 1, 0, 0, 0), some (.ireturn, 1, 0, 0, 0)]]
def cd_61 : List (List (Option si_E)) := [[some (.aload_n 1, 1, 0, 0, 0), some (.invokevirtual 117, 3, 131, 0, 1081), none, none, some (.aload_n 0, 1, 0, 0, 0), some (.getfield 29, 3, 3, 0, 272), none, none, some (.invokevirtual 122, 3, 73, 0, 1082), none, none, some (.istore_n 2, 1, 0, 0, 0), some (.iconst 0, 1, 0, 0, 0), some (.istore_n 3, 1, 0, 0, 0), some (.iload_n 3, 1, 0, 0, 0), some (.iload_n 2, 1, 0, 0, 0), some (.if_icmp .ge 22, 3, 0, 0, 0), none, none, some (.aload_n 0, 1, 0, 0, 0), some (.iload_n 3, 1, 0, 0, 0), some (.invokevirtual 135, 3, 62, 0, 1123), none, none, some (.ifCond .eq 8, 3, 0, 0, 0), none, none, some (.aload_n 1, 1, 0, 0, 0), some (.iload_n 3, 1, 0, 0, 0), some (.invokevirtual 125, 3, 132, 0, 1084), none, none], [some (.iinc 3 1, 3, 0, 0, 0), none, none, some (.goto (-21), 3, 0, 0, 0), none, none, some (.return_, 1, 0, 0, 0)]]
def cd_62 : List (List (Option si_E)) := [[some (.bipush (-2), 2, 0, 0, 0), none, some (.istore_n 2, 1, 0, 0, 0), some (.iconst 0, 1, 0, 0, 0), some (.istore_n 3, 1, 0, 0, 0), some (.iload_n 3, 1, 0, 0, 0), some (.bipush 8, 2, 0, 0, 0), none, some (.if_icmp .ge 43, 3, 0, 0, 0), none, none, some (.aload_n 0, 1, 0, 0, 0), some (.getfield 9, 3, 3, 1, 273), none, none, some (.iload_n 3, 1, 0, 0, 0), some (.baload, 1, 0, 0, 0), some (.ifCond .eq 28, 3, 0, 0, 0), none, none, some (.aload_n 0, 1, 0, 0, 0), some (.iload_n 3, 1, 0, 0, 0), some (.iload_n 1, 1, 0, 0, 0), some (.invokevirtual 110, 3, 55, 0, 1083), none, none, some (.istore 4, 2, 0, 0, 0), none, some (.iload_n 2, 1, 0, 0, 0), some (.bipush (-2), 2, 0, 0, 0), none, some (.if_icmp .eq 11, 3, 0, 0, 0)], [none, none, some (.iload_n 2, 1, 0, 0, 0), some (.iload 4, 2, 0, 0, 0), none, some (.if_icmp .eq 5, 3, 0, 0, 0), none, none, some (.iconst 0, 1, 0, 0, 0), some (.ireturn, 1, 0, 0, 0), some (.iload 4, 2, 0, 0, 0), none, some (.istore_n 2, 1, 0, 0, 0), some (.iinc 3 1, 3, 0, 0, 0), none, none, some (.goto (-43), 3, 0, 0, 0), none, none, some (.iconst 1, 1, 0, 0, 0), some (.ireturn, 1, 0, 0, 0)]]
def cd_63 : List (List (Option si_E)) := [[some (.bipush (-2), 2, 0, 0, 0), none, some (.istore_n 2, 1, 0, 0, 0), some (.iconst 0, 1, 0, 0, 0), some (.istore_n 3, 1, 0, 0, 0), some (.iconst 0, 1, 0, 0, 0), some (.istore 4, 2, 0, 0, 0), none, some (.iload 4, 2, 0, 0, 0), none, some (.bipush 8, 2, 0, 0, 0), none, some (.if_icmp .ge 44, 3, 0, 0, 0), none, none, some (.aload_n 0, 1, 0, 0, 0), some (.getfield 9, 3, 3, 1, 273), none, none, some (.iload 4, 2, 0, 0, 0), none, some (.baload, 1, 0, 0, 0), some (.ifCond .eq 28, 3, 0, 0, 0), none, none, some (.aload_n 0, 1, 0, 0, 0), some (.iload 4, 2, 0, 0, 0), none, some (.iload_n 1, 1, 0, 0, 0), some (.invokevirtual 138, 3, 56, 0, 1135), none, none], [some (.istore 5, 2, 0, 0, 0), none, some (.iload_n 2, 1, 0, 0, 0), some (.ifCond .lt 9, 3, 0, 0, 0), none, none, some (.iload 5, 2, 0, 0, 0), none, some (.iload_n 3, 1, 0, 0, 0), some (.if_icmp .ge 9, 3, 0, 0, 0), none, none, some (.iload 4, 2, 0, 0, 0), none, some (.istore_n 2, 1, 0, 0, 0), some (.iload 5, 2, 0, 0, 0), none, some (.istore_n 3, 1, 0, 0, 0), some (.iinc 4 1, 3, 0, 0, 0), none, none, some (.goto (-45), 3, 0, 0, 0), none, none, some (.iload_n 2, 1, 0, 0, 0), some (.ireturn, 1, 0, 0, 0)]]
def cd_64 : List (List (Option si_E)) := [[some (.iconst 0, 1, 0, 0, 0), some (.istore_n 3, 1, 0, 0, 0), some (.aload_n 0, 1, 0, 0, 0), some (.iload_n 1, 1, 0, 0, 0), some (.iload_n 2, 1, 0, 0, 0), some (.invokevirtual 110, 3, 55, 0, 1083), none, none, some (.istore 4, 2, 0, 0, 0), none, some (.iconst 0, 1, 0, 0, 0), some (.istore 5, 2, 0, 0, 0), none, some (.iload 5, 2, 0, 0, 0), none, some (.bipush 8, 2, 0, 0, 0), none, some (.if_icmp .ge 34, 3, 0, 0, 0), none, none, some (.aload_n 0, 1, 0, 0, 0), some (.getfield 9, 3, 3, 1, 273), none, none, some (.iload 5, 2, 0, 0, 0), none, some (.baload, 1, 0, 0, 0), some (.ifCond .eq 18, 3, 0, 0, 0), none, none, some (.aload_n 0, 1, 0, 0, 0), some (.iload 5, 2, 0, 0, 0)], [none, some (.iload_n 2, 1, 0, 0, 0), some (.invokevirtual 110, 3, 55, 0, 1083), none, none, some (.iload 4, 2, 0, 0, 0), none, some (.if_icmp .ne 6, 3, 0, 0, 0), none, none, some (.iinc 3 1, 3, 0, 0, 0), none, none, some (.iinc 5 1, 3, 0, 0, 0), none, none, some (.goto (-35), 3, 0, 0, 0), none, none, some (.iload_n 3, 1, 0, 0, 0), some (.ireturn, 1, 0, 0, 0)]]
def cd_65 : List (List (Option si_E)) := [[some (.bipush (-2), 2, 0, 0, 0), none, some (.istore_n 2, 1, 0, 0, 0), some (.iconst 0, 1, 0, 0, 0), some (.istore_n 3, 1, 0, 0, 0), some (.iconst 0, 1, 0, 0, 0), some (.istore 4, 2, 0, 0, 0), none, some (.iload 4, 2, 0, 0, 0), none, some (.bipush 8, 2, 0, 0, 0), none, some (.if_icmp .ge 83, 3, 0, 0, 0), none, none, some (.aload_n 0, 1, 0, 0, 0), some (.getfield 9, 3, 3, 1, 273), none, none, some (.iload 4, 2, 0, 0, 0), none, some (.baload, 1, 0, 0, 0), some (.ifCond .eq 13, 3, 0, 0, 0), none, none, some (.aload_n 0, 1, 0, 0, 0), some (.iload 4, 2, 0, 0, 0), none, some (.iload_n 1, 1, 0, 0, 0), some (.invokevirtual 141, 3, 64, 0, 1152), none, none], [some (.goto 4, 3, 0, 0, 0), none, none, some (.iconst 0, 1, 0, 0, 0), some (.istore 5, 2, 0, 0, 0), none, some (.iload 5, 2, 0, 0, 0), none, some (.ifCond .le 29, 3, 0, 0, 0), none, none, some (.iload 5, 2, 0, 0, 0), none, some (.iload_n 3, 1, 0, 0, 0), some (.if_icmp .ne 23, 3, 0, 0, 0), none, none, some (.aload_n 0, 1, 0, 0, 0), some (.iload 4, 2, 0, 0, 0), none, some (.iload_n 1, 1, 0, 0, 0), some (.invokevirtual 110, 3, 55, 0, 1083), none, none, some (.aload_n 0, 1, 0, 0, 0), some (.iload_n 2, 1, 0, 0, 0), some (.iload_n 1, 1, 0, 0, 0), some (.invokevirtual 110, 3, 55, 0, 1083), none, none, some (.if_icmp .ge 7, 3, 0, 0, 0), none], [none, some (.iconst 1, 1, 0, 0, 0), some (.goto 4, 3, 0, 0, 0), none, none, some (.iconst 0, 1, 0, 0, 0), some (.istore 6, 2, 0, 0, 0), none, some (.iload 5, 2, 0, 0, 0), none, some (.iload_n 3, 1, 0, 0, 0), some (.if_icmp .gt 8, 3, 0, 0, 0), none, none, some (.iload 6, 2, 0, 0, 0), none, some (.ifCond .eq 9, 3, 0, 0, 0), none, none, some (.iload 4, 2, 0, 0, 0), none, some (.istore_n 2, 1, 0, 0, 0), some (.iload 5, 2, 0, 0, 0), none, some (.istore_n 3, 1, 0, 0, 0), some (.iinc 4 1, 3, 0, 0, 0), none, none, some (.goto (-84), 3, 0, 0, 0), none, none, some (.iload_n 2, 1, 0, 0, 0)], [some (.ireturn, 1, 0, 0, 0)]]
def cd_66 : List (List (Option si_E)) := [[some (.iconst 0, 1, 0, 0, 0), some (.istore_n 3, 1, 0, 0, 0), some (.iconst 0, 1, 0, 0, 0), some (.istore 4, 2, 0, 0, 0), none, some (.iload 4, 2, 0, 0, 0), none, some (.bipush 8, 2, 0, 0, 0), none, some (.if_icmp .ge 64, 3, 0, 0, 0), none, none, some (.iload 4, 2, 0, 0, 0), none, some (.iconst 1, 1, 0, 0, 0), some (.iadd, 1, 0, 0, 0), some (.istore 5, 2, 0, 0, 0), none, some (.iload 5, 2, 0, 0, 0), none, some (.bipush 8, 2, 0, 0, 0), none, some (.if_icmp .ge 45, 3, 0, 0, 0), none, none, some (.aload_n 0, 1, 0, 0, 0), some (.getfield 9, 3, 3, 1, 273), none, none, some (.iload 4, 2, 0, 0, 0), none, some (.baload, 1, 0, 0, 0)], [some (.ifCond .eq 29, 3, 0, 0, 0), none, none, some (.aload_n 0, 1, 0, 0, 0), some (.getfield 9, 3, 3, 1, 273), none, none, some (.iload 5, 2, 0, 0, 0), none, some (.baload, 1, 0, 0, 0), some (.ifCond .eq 19, 3, 0, 0, 0), none, none, some (.aload_n 0, 1, 0, 0, 0), some (.iload 4, 2, 0, 0, 0), none, some (.iload 5, 2, 0, 0, 0), none, some (.iload_n 2, 1, 0, 0, 0), some (.iload_n 1, 1, 0, 0, 0), some (.invokevirtual 128, 3, 57, 0, 1101), none, none, some (.ifCond .eq 6, 3, 0, 0, 0), none, none, some (.iinc 3 1, 3, 0, 0, 0), none, none, some (.iinc 5 1, 3, 0, 0, 0), none, none], [some (.goto (-46), 3, 0, 0, 0), none, none, some (.iinc 4 1, 3, 0, 0, 0), none, none, some (.goto (-65), 3, 0, 0, 0), none, none, some (.iload_n 3, 1, 0, 0, 0), some (.ireturn, 1, 0, 0, 0)]]
def cd_67 : List (List (Option si_E)) := [[some (.aload_n 0, 1, 0, 0, 0), some (.getfield 29, 3, 3, 0, 272), none, none, some (.invokevirtual 122, 3, 73, 0, 1082), none, none, some (.istore_n 2, 1, 0, 0, 0), some (.iconst 0, 1, 0, 0, 0), some (.istore_n 3, 1, 0, 0, 0), some (.iconst 0, 1, 0, 0, 0), some (.istore 4, 2, 0, 0, 0), none, some (.iload 4, 2, 0, 0, 0), none, some (.bipush 8, 2, 0, 0, 0), none, some (.if_icmp .ge 38, 3, 0, 0, 0), none, none, some (.aload_n 0, 1, 0, 0, 0), some (.getfield 9, 3, 3, 1, 273), none, none, some (.iload 4, 2, 0, 0, 0), none, some (.baload, 1, 0, 0, 0), some (.ifCond .eq 22, 3, 0, 0, 0), none, none, some (.iload_n 2, 1, 0, 0, 0), some (.aload_n 0, 1, 0, 0, 0)], [some (.aload_n 0, 1, 0, 0, 0), some (.iload 4, 2, 0, 0, 0), none, some (.iload_n 1, 1, 0, 0, 0), some (.invokevirtual 110, 3, 55, 0, 1083), none, none, some (.iload_n 1, 1, 0, 0, 0), some (.invokevirtual 144, 3, 68, 0, 1173), none, none, some (.invokestatic 89, 3, 344, 0, 1177), none, none, some (.istore_n 2, 1, 0, 0, 0), some (.iconst 1, 1, 0, 0, 0), some (.istore_n 3, 1, 0, 0, 0), some (.iinc 4 1, 3, 0, 0, 0), none, none, some (.goto (-39), 3, 0, 0, 0), none, none, some (.iload_n 3, 1, 0, 0, 0), some (.ifCond .eq 7, 3, 0, 0, 0), none, none, some (.iload_n 2, 1, 0, 0, 0), some (.goto 4, 3, 0, 0, 0), none, none, some (.iconst 0, 1, 0, 0, 0)], [some (.ireturn, 1, 0, 0, 0)]]
def cd_68 : List (List (Option si_E)) := [[some (.iconst 0, 1, 0, 0, 0), some (.istore_n 3, 1, 0, 0, 0), some (.iconst 0, 1, 0, 0, 0), some (.istore 4, 2, 0, 0, 0), none, some (.iload 4, 2, 0, 0, 0), none, some (.bipush 8, 2, 0, 0, 0), none, some (.if_icmp .ge 40, 3, 0, 0, 0), none, none, some (.aload_n 0, 1, 0, 0, 0), some (.getfield 9, 3, 3, 1, 273), none, none, some (.iload 4, 2, 0, 0, 0), none, some (.baload, 1, 0, 0, 0), some (.ifCond .eq 24, 3, 0, 0, 0), none, none, some (.iload_n 3, 1, 0, 0, 0), some (.aload_n 0, 1, 0, 0, 0), some (.getfield 29, 3, 3, 0, 272), none, none, some (.aload_n 0, 1, 0, 0, 0), some (.iload 4, 2, 0, 0, 0), none, some (.iload_n 2, 1, 0, 0, 0), some (.invokevirtual 110, 3, 55, 0, 1083)], [none, none, some (.iload_n 1, 1, 0, 0, 0), some (.isub, 1, 0, 0, 0), some (.invokevirtual 107, 3, 75, 0, 1072), none, none, some (.invokestatic 132, 3, 343, 0, 1114), none, none, some (.istore_n 3, 1, 0, 0, 0), some (.iinc 4 1, 3, 0, 0, 0), none, none, some (.goto (-41), 3, 0, 0, 0), none, none, some (.iload_n 3, 1, 0, 0, 0), some (.ireturn, 1, 0, 0, 0)]]
def cd_69 : List (List (Option si_E)) := [[some (.aload_n 0, 1, 0, 0, 0), some (.iload_n 1, 1, 0, 0, 0), some (.invokevirtual 53, 3, 46, 0, 647), none, none, some (.ifCond .ne 6, 3, 0, 0, 0), none, none, some (.bipush (-2), 2, 0, 0, 0), none, some (.ireturn, 1, 0, 0, 0), some (.aload_n 0, 1, 0, 0, 0), some (.getfield 29, 3, 3, 0, 272), none, none, some (.invokevirtual 122, 3, 73, 0, 1082), none, none, some (.istore_n 3, 1, 0, 0, 0), some (.iconst 0, 1, 0, 0, 0), some (.istore 4, 2, 0, 0, 0), none, some (.iload 4, 2, 0, 0, 0), none, some (.iload_n 3, 1, 0, 0, 0), some (.if_icmp .ge 23, 3, 0, 0, 0), none, none, some (.aload_n 0, 1, 0, 0, 0), some (.iload_n 1, 1, 0, 0, 0), some (.iload 4, 2, 0, 0, 0), none], [some (.invokevirtual 110, 3, 55, 0, 1083), none, none, some (.iload_n 2, 1, 0, 0, 0), some (.if_icmp .ne 6, 3, 0, 0, 0), none, none, some (.iload 4, 2, 0, 0, 0), none, some (.ireturn, 1, 0, 0, 0), some (.iinc 4 1, 3, 0, 0, 0), none, none, some (.goto (-23), 3, 0, 0, 0), none, none, some (.bipush (-2), 2, 0, 0, 0), none, some (.ireturn, 1, 0, 0, 0)]]
def cd_70 : List (List (Option si_E)) := [[some (.aload_n 0, 1, 0, 0, 0), some (.getfield 29, 3, 3, 0, 272), none, none, some (.invokevirtual 122, 3, 73, 0, 1082), none, none, some (.aload_n 2, 1, 0, 0, 0), some (.arraylength, 1, 0, 0, 0), some (.invokestatic 89, 3, 344, 0, 1177), none, none, some (.istore_n 3, 1, 0, 0, 0), some (.iconst 0, 1, 0, 0, 0), some (.istore 4, 2, 0, 0, 0), none, some (.iload 4, 2, 0, 0, 0), none, some (.iload_n 3, 1, 0, 0, 0), some (.if_icmp .ge 15, 3, 0, 0, 0), none, none, some (.aload_n 2, 1, 0, 0, 0), some (.iload 4, 2, 0, 0, 0), none, some (.bipush (-2), 2, 0, 0, 0), none, some (.iastore, 1, 0, 0, 0), some (.iinc 4 1, 3, 0, 0, 0), none, none, some (.goto (-15), 3, 0, 0, 0)], [none, none, some (.iload_n 3, 1, 0, 0, 0), some (.iconst 1, 1, 0, 0, 0), some (.isub, 1, 0, 0, 0), some (.istore 4, 2, 0, 0, 0), none, some (.iload 4, 2, 0, 0, 0), none, some (.ifCond .lt 31, 3, 0, 0, 0), none, none, some (.aload_n 0, 1, 0, 0, 0), some (.iload_n 1, 1, 0, 0, 0), some (.iload 4, 2, 0, 0, 0), none, some (.invokevirtual 110, 3, 55, 0, 1083), none, none, some (.istore 5, 2, 0, 0, 0), none, some (.iload 5, 2, 0, 0, 0), none, some (.aload_n 2, 1, 0, 0, 0), some (.arraylength, 1, 0, 0, 0), some (.if_icmp .ge 9, 3, 0, 0, 0), none, none, some (.aload_n 2, 1, 0, 0, 0), some (.iload 5, 2, 0, 0, 0), none, some (.iload 4, 2, 0, 0, 0)], [none, some (.iastore, 1, 0, 0, 0), some (.iinc 4 (-1), 3, 0, 0, 0), none, none, some (.goto (-30), 3, 0, 0, 0), none, none, some (.return_, 1, 0, 0, 0)]]
def cd_71 : List (List (Option si_E)) := [[some (.aload_n 0, 1, 0, 0, 0), some (.invokespecial 3, 3, 0, 9, 148), none, none, some (.aload_n 0, 1, 0, 0, 0), some (.bipush 60, 2, 0, 0, 0), none, some (.putfield 9, 3, 4, 0, 149), none, none, some (.aload_n 0, 1, 0, 0, 0), some (.bipush 12, 2, 0, 0, 0), none, some (.putfield 15, 3, 4, 1, 153), none, none, some (.return_, 1, 0, 0, 0)]]
def cd_72 : List (List (Option si_E)) := [[some (.aload_n 0, 1, 0, 0, 0), some (.iload_n 1, 1, 0, 0, 0), some (.putfield 9, 3, 4, 0, 149), none, none, some (.aload_n 0, 1, 0, 0, 0), some (.iload_n 2, 1, 0, 0, 0), some (.putfield 15, 3, 4, 1, 153), none, none, some (.return_, 1, 0, 0, 0)]]
def cd_73 : List (List (Option si_E)) := [[some (.aload_n 0, 1, 0, 0, 0), some (.getfield 9, 3, 4, 0, 149), none, none, some (.aload_n 0, 1, 0, 0, 0), some (.getfield 15, 3, 4, 1, 153), none, none, some (.imul, 1, 0, 0, 0), some (.ireturn, 1, 0, 0, 0)]]
def cd_74 : List (List (Option si_E)) := [[some (.iload_n 1, 1, 0, 0, 0), some (.ifCond .lt 20, 3, 0, 0, 0), none, none, some (.iload_n 1, 1, 0, 0, 0), some (.aload_n 0, 1, 0, 0, 0), some (.getfield 9, 3, 4, 0, 149), none, none, some (.aload_n 0, 1, 0, 0, 0), some (.getfield 15, 3, 4, 1, 153), none, none, some (.imul, 1, 0, 0, 0), some (.if_icmp .ge 7, 3, 0, 0, 0), none, none, some (.iconst 1, 1, 0, 0, 0), some (.goto 4, 3, 0, 0, 0), none, none, some (.iconst 0, 1, 0, 0, 0), some (.ireturn, 1, 0, 0, 0)]]
def cd_75 : List (List (Option si_E)) := [[some (.iload_n 1, 1, 0, 0, 0), some (.aload_n 0, 1, 0, 0, 0), some (.getfield 9, 3, 4, 0, 149), none, none, some (.aload_n 0, 1, 0, 0, 0), some (.getfield 15, 3, 4, 1, 153), none, none, some (.imul, 1, 0, 0, 0), some (.invokestatic 18, 3, 200, 1, 716), none, none, some (.ireturn, 1, 0, 0, 0)]]
def cd_76 : List (List (Option si_E)) := [[some (.iload_n 1, 1, 0, 0, 0), some (.aload_n 0, 1, 0, 0, 0), some (.getfield 15, 3, 4, 1, 153), none, none, some (.invokestatic 22, 3, 199, 1, 709), none, none, some (.ireturn, 1, 0, 0, 0)]]
def cd_77 : List (List (Option si_E)) := [[some (.iload_n 1, 1, 0, 0, 0), some (.aload_n 0, 1, 0, 0, 0), some (.getfield 9, 3, 4, 0, 149), none, none, some (.invokestatic 18, 3, 200, 1, 716), none, none, some (.ireturn, 1, 0, 0, 0)]]
def cd_78 : List (List (Option si_E)) := [[some (.iload_n 1, 1, 0, 0, 0), some (.ifCond .ne 7, 3, 0, 0, 0), none, none, some (.iconst 0, 1, 0, 0, 0), some (.goto 9, 3, 0, 0, 0), none, none, some (.aload_n 0, 1, 0, 0, 0), some (.getfield 9, 3, 4, 0, 149), none, none, some (.iload_n 1, 1, 0, 0, 0), some (.isub, 1, 0, 0, 0), some (.ireturn, 1, 0, 0, 0)]]
def cd_79 : List (List (Option si_E)) := [[some (.aload_n 0, 1, 0, 0, 0), some (.getfield 9, 3, 4, 0, 149), none, none, some (.aload_n 0, 1, 0, 0, 0), some (.getfield 15, 3, 4, 1, 153), none, none, some (.imul, 1, 0, 0, 0), some (.istore_n 3, 1, 0, 0, 0), some (.iload_n 1, 1, 0, 0, 0), some (.iload_n 2, 1, 0, 0, 0), some (.isub, 1, 0, 0, 0), some (.iload_n 3, 1, 0, 0, 0), some (.invokestatic 18, 3, 200, 1, 716), none, none, some (.istore 4, 2, 0, 0, 0), none, some (.iload 4, 2, 0, 0, 0), none, some (.iload_n 3, 1, 0, 0, 0), some (.iload 4, 2, 0, 0, 0), none, some (.isub, 1, 0, 0, 0), some (.invokestatic 25, 3, 344, 0, 773), none, none, some (.ireturn, 1, 0, 0, 0)]]
def cd_80 : List (List (Option si_E)) := [[some (.aload_n 0, 1, 0, 0, 0), some (.iload_n 1, 1, 0, 0, 0), some (.invokevirtual 30, 3, 77, 0, 724), none, none, some (.aload_n 0, 1, 0, 0, 0), some (.iload_n 1, 1, 0, 0, 0), some (.invokevirtual 34, 3, 76, 0, 723), none, none, some (.isub, 1, 0, 0, 0), some (.aload_n 0, 1, 0, 0, 0), some (.getfield 9, 3, 4, 0, 149), none, none, some (.invokestatic 18, 3, 200, 1, 716), none, none, some (.istore_n 2, 1, 0, 0, 0), some (.iload_n 2, 1, 0, 0, 0), some (.aload_n 0, 1, 0, 0, 0), some (.getfield 9, 3, 4, 0, 149), none, none, some (.iload_n 2, 1, 0, 0, 0), some (.isub, 1, 0, 0, 0), some (.invokestatic 25, 3, 344, 0, 773), none, none, some (.ireturn, 1, 0, 0, 0)]]
def cd_81 : List (List (Option si_E)) := [[some (.aload_n 0, 1, 0, 0, 0), some (.iload_n 2, 1, 0, 0, 0), some (.aload_n 0, 1, 0, 0, 0), some (.iload_n 1, 1, 0, 0, 0), some (.invokevirtual 34, 3, 76, 0, 723), none, none, some (.aload_n 0, 1, 0, 0, 0), some (.iload_n 1, 1, 0, 0, 0), some (.invokevirtual 30, 3, 77, 0, 724), none, none, some (.invokevirtual 37, 3, 82, 0, 859), none, none, some (.ireturn, 1, 0, 0, 0)]]
def cd_82 : List (List (Option si_E)) := [[some (.aload_n 0, 1, 0, 0, 0), some (.iload_n 1, 1, 0, 0, 0), some (.invokevirtual 34, 3, 76, 0, 723), none, none, some (.istore 4, 2, 0, 0, 0), none, some (.aload_n 0, 1, 0, 0, 0), some (.iload_n 1, 1, 0, 0, 0), some (.invokevirtual 30, 3, 77, 0, 724), none, none, some (.istore 5, 2, 0, 0, 0), none, some (.iload 4, 2, 0, 0, 0), none, some (.iload_n 2, 1, 0, 0, 0), some (.if_icmp .ne 9, 3, 0, 0, 0), none, none, some (.iload 5, 2, 0, 0, 0), none, some (.iload_n 3, 1, 0, 0, 0), some (.if_icmp .eq 15, 3, 0, 0, 0), none, none, some (.iload 4, 2, 0, 0, 0), none, some (.iload_n 3, 1, 0, 0, 0), some (.if_icmp .ne 13, 3, 0, 0, 0), none, none], [some (.iload 5, 2, 0, 0, 0), none, some (.iload_n 2, 1, 0, 0, 0), some (.if_icmp .ne 7, 3, 0, 0, 0), none, none, some (.iconst 1, 1, 0, 0, 0), some (.goto 4, 3, 0, 0, 0), none, none, some (.iconst 0, 1, 0, 0, 0), some (.ireturn, 1, 0, 0, 0)]]
def cd_83 : List (List (Option si_E)) := [[some (.iload_n 1, 1, 0, 0, 0), some (.aload_n 0, 1, 0, 0, 0), some (.getfield 15, 3, 4, 1, 153), none, none, some (.imul, 1, 0, 0, 0), some (.istore_n 3, 1, 0, 0, 0), some (.iload_n 3, 1, 0, 0, 0), some (.iload_n 2, 1, 0, 0, 0), some (.iload_n 3, 1, 0, 0, 0), some (.isub, 1, 0, 0, 0), some (.aload_n 0, 1, 0, 0, 0), some (.getfield 9, 3, 4, 0, 149), none, none, some (.invokestatic 18, 3, 200, 1, 716), none, none, some (.iadd, 1, 0, 0, 0), some (.istore 4, 2, 0, 0, 0), none, some (.iload 4, 2, 0, 0, 0), none, some (.iload_n 3, 1, 0, 0, 0), some (.aload_n 0, 1, 0, 0, 0), some (.getfield 15, 3, 4, 1, 153), none, none, some (.iadd, 1, 0, 0, 0), some (.if_icmp .ge 8, 3, 0, 0, 0), none, none], [some (.iload 4, 2, 0, 0, 0), none, some (.goto 5, 3, 0, 0, 0), none, none, some (.bipush (-2), 2, 0, 0, 0), none, some (.ireturn, 1, 0, 0, 0)]]
def cd_84 : List (List (Option si_E)) := [[some (.aload_n 0, 1, 0, 0, 0), some (.iload_n 1, 1, 0, 0, 0), some (.iload_n 2, 1, 0, 0, 0), some (.invokevirtual 41, 3, 83, 0, 729), none, none, some (.istore_n 3, 1, 0, 0, 0), some (.aload_n 0, 1, 0, 0, 0), some (.iload_n 2, 1, 0, 0, 0), some (.iload_n 1, 1, 0, 0, 0), some (.invokevirtual 41, 3, 83, 0, 729), none, none, some (.istore 4, 2, 0, 0, 0), none, some (.iload_n 3, 1, 0, 0, 0), some (.ifCond .lt 8, 3, 0, 0, 0), none, none, some (.iload 4, 2, 0, 0, 0), none, some (.ifCond .ge 12, 3, 0, 0, 0), none, none, some (.iload_n 3, 1, 0, 0, 0), some (.iload 4, 2, 0, 0, 0), none, some (.invokestatic 44, 3, 343, 0, 772), none, none, some (.goto 9, 3, 0, 0, 0), none], [none, some (.iload_n 3, 1, 0, 0, 0), some (.iload 4, 2, 0, 0, 0), none, some (.invokestatic 25, 3, 344, 0, 773), none, none, some (.ireturn, 1, 0, 0, 0)]]
def cd_85 : List (List (Option si_E)) := [[some (.aload_n 0, 1, 0, 0, 0), some (.iload_n 1, 1, 0, 0, 0), some (.iload_n 2, 1, 0, 0, 0), some (.invokevirtual 41, 3, 83, 0, 729), none, none, some (.istore_n 3, 1, 0, 0, 0), some (.iload_n 1, 1, 0, 0, 0), some (.iconst 1, 1, 0, 0, 0), some (.iadd, 1, 0, 0, 0), some (.aload_n 0, 1, 0, 0, 0), some (.getfield 15, 3, 4, 1, 153), none, none, some (.imul, 1, 0, 0, 0), some (.iconst 1, 1, 0, 0, 0), some (.isub, 1, 0, 0, 0), some (.istore 4, 2, 0, 0, 0), none, some (.iload_n 3, 1, 0, 0, 0), some (.ifCond .ge 7, 3, 0, 0, 0), none, none, some (.iconst 0, 1, 0, 0, 0), some (.goto 16, 3, 0, 0, 0), none, none, some (.iconst 1, 1, 0, 0, 0), some (.iload 4, 2, 0, 0, 0), none, some (.iload_n 3, 1, 0, 0, 0), some (.isub, 1, 0, 0, 0)], [some (.aload_n 0, 1, 0, 0, 0), some (.getfield 9, 3, 4, 0, 149), none, none, some (.invokestatic 22, 3, 199, 1, 709), none, none, some (.iadd, 1, 0, 0, 0), some (.ireturn, 1, 0, 0, 0)]]
def cd_86 : List (List (Option si_E)) := [[some (.aload_n 0, 1, 0, 0, 0), some (.iload_n 1, 1, 0, 0, 0), some (.invokevirtual 34, 3, 76, 0, 723), none, none, some (.istore_n 2, 1, 0, 0, 0), some (.aload_n 0, 1, 0, 0, 0), some (.iload_n 1, 1, 0, 0, 0), some (.invokevirtual 30, 3, 77, 0, 724), none, none, some (.istore_n 3, 1, 0, 0, 0), some (.aload_n 0, 1, 0, 0, 0), some (.iload_n 2, 1, 0, 0, 0), some (.iload_n 3, 1, 0, 0, 0), some (.invokevirtual 47, 3, 85, 0, 725), none, none, some (.istore 4, 2, 0, 0, 0), none, some (.iload_n 2, 1, 0, 0, 0), some (.iload_n 3, 1, 0, 0, 0), some (.if_icmp .ne 8, 3, 0, 0, 0), none, none, some (.iload 4, 2, 0, 0, 0), none, some (.goto 12, 3, 0, 0, 0), none, none, some (.iload 4, 2, 0, 0, 0), none], [some (.aload_n 0, 1, 0, 0, 0), some (.iload_n 3, 1, 0, 0, 0), some (.iload_n 2, 1, 0, 0, 0), some (.invokevirtual 47, 3, 85, 0, 725), none, none, some (.iadd, 1, 0, 0, 0), some (.ireturn, 1, 0, 0, 0)]]
def cd_87 : List (List (Option si_E)) := [[some (.aload_n 0, 1, 0, 0, 0), some (.iload_n 1, 1, 0, 0, 0), some (.invokevirtual 50, 3, 86, 0, 820), none, none, some (.iconst 1, 1, 0, 0, 0), some (.if_icmp .ne 7, 3, 0, 0, 0), none, none, some (.iconst 1, 1, 0, 0, 0), some (.goto 4, 3, 0, 0, 0), none, none, some (.iconst 0, 1, 0, 0, 0), some (.ireturn, 1, 0, 0, 0)]]
def cd_88 : List (List (Option si_E)) := [[some (.iconst 0, 1, 0, 0, 0), some (.istore_n 1, 1, 0, 0, 0), some (.aload_n 0, 1, 0, 0, 0), some (.invokevirtual 53, 3, 73, 0, 815), none, none, some (.istore_n 2, 1, 0, 0, 0), some (.iconst 0, 1, 0, 0, 0), some (.istore_n 3, 1, 0, 0, 0), some (.iload_n 3, 1, 0, 0, 0), some (.iload_n 2, 1, 0, 0, 0), some (.if_icmp .ge 20, 3, 0, 0, 0), none, none, some (.aload_n 0, 1, 0, 0, 0), some (.iload_n 3, 1, 0, 0, 0), some (.invokevirtual 57, 3, 87, 0, 816), none, none, some (.ifCond .ne 6, 3, 0, 0, 0), none, none, some (.iinc 1 1, 3, 0, 0, 0), none, none, some (.iinc 3 1, 3, 0, 0, 0), none, none, some (.goto (-19), 3, 0, 0, 0), none, none, some (.iload_n 1, 1, 0, 0, 0)], [some (.ireturn, 1, 0, 0, 0)]]
def cd_89 : List (List (Option si_E)) := [[some (.aload_n 0, 1, 0, 0, 0), some (.iload_n 1, 1, 0, 0, 0), some (.iload_n 2, 1, 0, 0, 0), some (.aload_n 3, 1, 0, 0, 0), some (.iload 4, 2, 0, 0, 0), none, some (.invokevirtual 61, 3, 90, 0, 747), none, none, some (.istore 5, 2, 0, 0, 0), none, some (.iload_n 1, 1, 0, 0, 0), some (.iload_n 2, 1, 0, 0, 0), some (.if_icmp .eq 20, 3, 0, 0, 0), none, none, some (.iload 5, 2, 0, 0, 0), none, some (.aload_n 0, 1, 0, 0, 0), some (.iload_n 2, 1, 0, 0, 0), some (.iload_n 1, 1, 0, 0, 0), some (.aload_n 3, 1, 0, 0, 0), some (.iload 4, 2, 0, 0, 0), none, some (.iload 5, 2, 0, 0, 0), none, some (.iadd, 1, 0, 0, 0), some (.invokevirtual 61, 3, 90, 0, 747), none, none, some (.iadd, 1, 0, 0, 0), some (.istore 5, 2, 0, 0, 0)], [none, some (.iload 5, 2, 0, 0, 0), none, some (.ireturn, 1, 0, 0, 0)]]
def cd_90 : List (List (Option si_E)) := [[some (.iconst 0, 1, 0, 0, 0), some (.istore 5, 2, 0, 0, 0), none, some (.aload_n 0, 1, 0, 0, 0), some (.iload_n 1, 1, 0, 0, 0), some (.iload_n 2, 1, 0, 0, 0), some (.invokevirtual 41, 3, 83, 0, 729), none, none, some (.istore 6, 2, 0, 0, 0), none, some (.iload_n 1, 1, 0, 0, 0), some (.iconst 1, 1, 0, 0, 0), some (.iadd, 1, 0, 0, 0), some (.aload_n 0, 1, 0, 0, 0), some (.getfield 15, 3, 4, 1, 153), none, none, some (.imul, 1, 0, 0, 0), some (.istore 7, 2, 0, 0, 0), none, some (.iload 6, 2, 0, 0, 0), none, some (.ifCond .lt 44, 3, 0, 0, 0), none, none, some (.iload 6, 2, 0, 0, 0), none, some (.iload 7, 2, 0, 0, 0), none, some (.if_icmp .ge 37, 3, 0, 0, 0), none], [none, some (.iload 4, 2, 0, 0, 0), none, some (.iload 5, 2, 0, 0, 0), none, some (.iadd, 1, 0, 0, 0), some (.aload_n 3, 1, 0, 0, 0), some (.arraylength, 1, 0, 0, 0), some (.if_icmp .ge 27, 3, 0, 0, 0), none, none, some (.aload_n 3, 1, 0, 0, 0), some (.iload 4, 2, 0, 0, 0), none, some (.iload 5, 2, 0, 0, 0), none, some (.iadd, 1, 0, 0, 0), some (.iload 6, 2, 0, 0, 0), none, some (.iastore, 1, 0, 0, 0), some (.iload 6, 2, 0, 0, 0), none, some (.aload_n 0, 1, 0, 0, 0), some (.getfield 9, 3, 4, 0, 149), none, none, some (.iadd, 1, 0, 0, 0), some (.istore 6, 2, 0, 0, 0), none, some (.iinc 5 1, 3, 0, 0, 0), none, none], [some (.goto (-43), 3, 0, 0, 0), none, none, some (.iload 5, 2, 0, 0, 0), none, some (.ireturn, 1, 0, 0, 0)]]
def cd_91 : List (List (Option si_E)) := [[some (.aload_n 0, 1, 0, 0, 0), some (.invokespecial 3, 3, 0, 9, 317), none, none, some (.aload_n 0, 1, 0, 0, 0), some (.sipush 272, 3, 0, 0, 0), none, none, some (.newarray .int, 2, 0, 0, 174), none, some (.putfield 11, 3, 5, 0, 318), none, none, some (.aload_n 0, 1, 0, 0, 0), some (.sipush 272, 3, 0, 0, 0), none, none, some (.newarray .int, 2, 0, 0, 174), none, some (.putfield 15, 3, 5, 1, 319), none, none, some (.aload_n 0, 1, 0, 0, 0), some (.bipush 16, 2, 0, 0, 0), none, some (.newarray .int, 2, 0, 0, 174), none, some (.putfield 18, 3, 5, 2, 320), none, none, some (.aload_n 0, 1, 0, 0, 0), some (.bipush 16, 2, 0, 0, 0)], [none, some (.newarray .int, 2, 0, 0, 174), none, some (.putfield 21, 3, 5, 3, 321), none, none, some (.aload_n 0, 1, 0, 0, 0), some (.bipush 16, 2, 0, 0, 0), none, some (.newarray .int, 2, 0, 0, 174), none, some (.putfield 24, 3, 5, 4, 322), none, none, some (.aload_n 0, 1, 0, 0, 0), some (.bipush 40, 2, 0, 0, 0), none, some (.newarray .int, 2, 0, 0, 174), none, some (.putfield 27, 3, 5, 5, 323), none, none, some (.return_, 1, 0, 0, 0)]]
def cd_92 : List (List (Option si_E)) := [[some (.aload_n 0, 1, 0, 0, 0), some (.getfield 30, 3, 5, 7, 325), none, none, some (.ireturn, 1, 0, 0, 0)]]
def cd_93 : List (List (Option si_E)) := [[some (.aload_n 0, 1, 0, 0, 0), some (.iconst 0, 1, 0, 0, 0), some (.putfield 34, 3, 5, 6, 324), none, none, some (.aload_n 0, 1, 0, 0, 0), some (.iconst 0, 1, 0, 0, 0), some (.putfield 30, 3, 5, 7, 325), none, none, some (.iconst 1, 1, 0, 0, 0), some (.istore_n 2, 1, 0, 0, 0), some (.iconst 0, 1, 0, 0, 0), some (.istore_n 3, 1, 0, 0, 0), some (.iload_n 3, 1, 0, 0, 0), some (.bipush 16, 2, 0, 0, 0), none, some (.if_icmp .gt 161, 3, 0, 0, 0), none, none, some (.iload_n 2, 1, 0, 0, 0), some (.ifCond .eq 157, 3, 0, 0, 0), none, none, some (.aload_n 1, 1, 0, 0, 0), some (.invokevirtual 37, 3, 121, 0, 493), none, none, some (.istore 4, 2, 0, 0, 0), none, some (.iload 4, 2, 0, 0, 0), none], [some (.ifCond .lt 14, 3, 0, 0, 0), none, none, some (.ldc 43, 2, 2, 1, 497), none, some (.iload 4, 2, 0, 0, 0), none, some (.i2c, 1, 0, 0, 0), some (.invokevirtual 45, 3, 0, 7, 498), none, none, some (.ifCond .ge 15, 3, 0, 0, 0), none, none, some (.aload_n 1, 1, 0, 0, 0), some (.iconst 1, 1, 0, 0, 0), some (.aload_n 1, 1, 0, 0, 0), some (.invokevirtual 51, 3, 120, 0, 575), none, none, some (.invokevirtual 54, 3, 125, 0, 579), none, none, some (.goto 110, 3, 0, 0, 0), none, none, some (.iload_n 3, 1, 0, 0, 0), some (.bipush 16, 2, 0, 0, 0), none, some (.if_icmp .ne 15, 3, 0, 0, 0), none, none], [some (.aload_n 1, 1, 0, 0, 0), some (.iconst 4, 1, 0, 0, 0), some (.aload_n 1, 1, 0, 0, 0), some (.invokevirtual 51, 3, 120, 0, 575), none, none, some (.invokevirtual 54, 3, 125, 0, 579), none, none, some (.goto 92, 3, 0, 0, 0), none, none, some (.aload_n 1, 1, 0, 0, 0), some (.invokevirtual 58, 3, 122, 0, 583), none, none, some (.aload_n 0, 1, 0, 0, 0), some (.getfield 18, 3, 5, 2, 320), none, none, some (.iload_n 3, 1, 0, 0, 0), some (.iload 4, 2, 0, 0, 0), none, some (.iastore, 1, 0, 0, 0), some (.aload_n 0, 1, 0, 0, 0), some (.getfield 21, 3, 5, 3, 321), none, none, some (.iload_n 3, 1, 0, 0, 0), some (.aload_n 0, 1, 0, 0, 0), some (.getfield 34, 3, 5, 6, 324), none], [none, some (.iastore, 1, 0, 0, 0), some (.iload 4, 2, 0, 0, 0), none, some (.bipush 120, 2, 0, 0, 0), none, some (.if_icmp .eq 17, 3, 0, 0, 0), none, none, some (.aload_n 0, 1, 0, 0, 0), some (.aload_n 1, 1, 0, 0, 0), some (.iconst 0, 1, 0, 0, 0), some (.invokevirtual 61, 3, 98, 0, 587), none, none, some (.aload_n 0, 1, 0, 0, 0), some (.bipush 46, 2, 0, 0, 0), none, some (.iconst 0, 1, 0, 0, 0), some (.invokevirtual 65, 3, 94, 0, 606), none, none, some (.pop, 1, 0, 0, 0), some (.aload_n 0, 1, 0, 0, 0), some (.getfield 24, 3, 5, 4, 322), none, none, some (.iload_n 3, 1, 0, 0, 0), some (.aload_n 0, 1, 0, 0, 0), some (.getfield 34, 3, 5, 6, 324), none, none], [some (.iastore, 1, 0, 0, 0), some (.aload_n 1, 1, 0, 0, 0), some (.bipush 40, 2, 0, 0, 0), none, some (.invokevirtual 69, 3, 124, 0, 601), none, none, some (.aload_n 0, 1, 0, 0, 0), some (.aload_n 1, 1, 0, 0, 0), some (.iconst 1, 1, 0, 0, 0), some (.invokevirtual 73, 3, 96, 0, 614), none, none, some (.aload_n 1, 1, 0, 0, 0), some (.bipush 41, 2, 0, 0, 0), none, some (.invokevirtual 69, 3, 124, 0, 601), none, none, some (.aload_n 0, 1, 0, 0, 0), some (.bipush 46, 2, 0, 0, 0), none, some (.iconst 0, 1, 0, 0, 0), some (.invokevirtual 65, 3, 94, 0, 606), none, none, some (.pop, 1, 0, 0, 0), some (.aload_n 0, 1, 0, 0, 0), some (.dup, 1, 0, 0, 0), some (.getfield 30, 3, 5, 7, 325), none, none], [some (.iconst 1, 1, 0, 0, 0), some (.iadd, 1, 0, 0, 0), some (.putfield 30, 3, 5, 7, 325), none, none, some (.aload_n 1, 1, 0, 0, 0), some (.bipush 59, 2, 0, 0, 0), none, some (.invokevirtual 76, 3, 123, 0, 596), none, none, some (.istore_n 2, 1, 0, 0, 0), some (.iinc 3 1, 3, 0, 0, 0), none, none, some (.goto (-161), 3, 0, 0, 0), none, none, some (.aload_n 1, 1, 0, 0, 0), some (.aload_n 0, 1, 0, 0, 0), some (.getfield 30, 3, 5, 7, 325), none, none, some (.invokevirtual 80, 3, 129, 0, 626), none, none, some (.ireturn, 1, 0, 0, 0)]]
def cd_94 : List (List (Option si_E)) := [[some (.aload_n 0, 1, 0, 0, 0), some (.getfield 34, 3, 5, 6, 324), none, none, some (.istore_n 3, 1, 0, 0, 0), some (.iload_n 3, 1, 0, 0, 0), some (.aload_n 0, 1, 0, 0, 0), some (.getfield 11, 3, 5, 0, 318), none, none, some (.arraylength, 1, 0, 0, 0), some (.if_icmp .ge 27, 3, 0, 0, 0), none, none, some (.aload_n 0, 1, 0, 0, 0), some (.getfield 11, 3, 5, 0, 318), none, none, some (.iload_n 3, 1, 0, 0, 0), some (.iload_n 1, 1, 0, 0, 0), some (.iastore, 1, 0, 0, 0), some (.aload_n 0, 1, 0, 0, 0), some (.getfield 15, 3, 5, 1, 319), none, none, some (.iload_n 3, 1, 0, 0, 0), some (.iload_n 2, 1, 0, 0, 0), some (.iastore, 1, 0, 0, 0), some (.aload_n 0, 1, 0, 0, 0), some (.dup, 1, 0, 0, 0), some (.getfield 34, 3, 5, 6, 324), none], [none, some (.iconst 1, 1, 0, 0, 0), some (.iadd, 1, 0, 0, 0), some (.putfield 34, 3, 5, 6, 324), none, none, some (.iload_n 3, 1, 0, 0, 0), some (.ireturn, 1, 0, 0, 0)]]
def cd_95 : List (List (Option si_E)) := [[some (.iload_n 1, 1, 0, 0, 0), some (.istore_n 2, 1, 0, 0, 0), some (.iconst 0, 1, 0, 0, 0), some (.istore_n 3, 1, 0, 0, 0), some (.iload_n 3, 1, 0, 0, 0), some (.sipush 240, 3, 0, 0, 0), none, none, some (.if_icmp .ge 42, 3, 0, 0, 0), none, none, some (.iload_n 2, 1, 0, 0, 0), some (.ifCond .lt 38, 3, 0, 0, 0), none, none, some (.iload_n 2, 1, 0, 0, 0), some (.aload_n 0, 1, 0, 0, 0), some (.getfield 34, 3, 5, 6, 324), none, none, some (.if_icmp .ge 30, 3, 0, 0, 0), none, none, some (.aload_n 0, 1, 0, 0, 0), some (.getfield 15, 3, 5, 1, 319), none, none, some (.iload_n 2, 1, 0, 0, 0), some (.iaload, 1, 0, 0, 0), some (.istore 4, 2, 0, 0, 0), none, some (.aload_n 0, 1, 0, 0, 0)], [some (.getfield 15, 3, 5, 1, 319), none, none, some (.iload_n 2, 1, 0, 0, 0), some (.aload_n 0, 1, 0, 0, 0), some (.getfield 34, 3, 5, 6, 324), none, none, some (.iastore, 1, 0, 0, 0), some (.iload 4, 2, 0, 0, 0), none, some (.istore_n 2, 1, 0, 0, 0), some (.iinc 3 1, 3, 0, 0, 0), none, none, some (.goto (-43), 3, 0, 0, 0), none, none, some (.return_, 1, 0, 0, 0)]]
def cd_96 : List (List (Option si_E)) := [[some (.iconst (-1), 1, 0, 0, 0), some (.istore_n 3, 1, 0, 0, 0), some (.iconst (-1), 1, 0, 0, 0), some (.istore 4, 2, 0, 0, 0), none, some (.aload_n 0, 1, 0, 0, 0), some (.aload_n 1, 1, 0, 0, 0), some (.iload_n 2, 1, 0, 0, 0), some (.invokevirtual 83, 3, 97, 0, 618), none, none, some (.iconst 0, 1, 0, 0, 0), some (.istore 5, 2, 0, 0, 0), none, some (.iload 5, 2, 0, 0, 0), none, some (.sipush 240, 3, 0, 0, 0), none, none, some (.if_icmp .ge 61, 3, 0, 0, 0), none, none, some (.aload_n 1, 1, 0, 0, 0), some (.bipush 38, 2, 0, 0, 0), none, some (.invokevirtual 76, 3, 123, 0, 596), none, none, some (.ifCond .eq 14, 3, 0, 0, 0), none, none, some (.aload_n 0, 1, 0, 0, 0)], [some (.bipush 38, 2, 0, 0, 0), none, some (.iload_n 3, 1, 0, 0, 0), some (.invokevirtual 65, 3, 94, 0, 606), none, none, some (.istore_n 3, 1, 0, 0, 0), some (.goto 29, 3, 0, 0, 0), none, none, some (.aload_n 1, 1, 0, 0, 0), some (.bipush 124, 2, 0, 0, 0), none, some (.invokevirtual 76, 3, 123, 0, 596), none, none, some (.ifCond .eq 32, 3, 0, 0, 0), none, none, some (.aload_n 0, 1, 0, 0, 0), some (.iload_n 3, 1, 0, 0, 0), some (.invokevirtual 86, 3, 95, 0, 622), none, none, some (.iconst (-1), 1, 0, 0, 0), some (.istore_n 3, 1, 0, 0, 0), some (.aload_n 0, 1, 0, 0, 0), some (.bipush 124, 2, 0, 0, 0), none, some (.iload 4, 2, 0, 0, 0), none, some (.invokevirtual 65, 3, 94, 0, 606)], [none, none, some (.istore 4, 2, 0, 0, 0), none, some (.aload_n 0, 1, 0, 0, 0), some (.aload_n 1, 1, 0, 0, 0), some (.iload_n 2, 1, 0, 0, 0), some (.invokevirtual 83, 3, 97, 0, 618), none, none, some (.iinc 5 1, 3, 0, 0, 0), none, none, some (.goto (-63), 3, 0, 0, 0), none, none, some (.aload_n 0, 1, 0, 0, 0), some (.iload_n 3, 1, 0, 0, 0), some (.invokevirtual 86, 3, 95, 0, 622), none, none, some (.aload_n 0, 1, 0, 0, 0), some (.iload 4, 2, 0, 0, 0), none, some (.invokevirtual 86, 3, 95, 0, 622), none, none, some (.return_, 1, 0, 0, 0)]]
def cd_97 : List (List (Option si_E)) := [[some (.aload_n 1, 1, 0, 0, 0), some (.invokevirtual 37, 3, 121, 0, 493), none, none, some (.istore_n 3, 1, 0, 0, 0), some (.iload_n 3, 1, 0, 0, 0), some (.bipush 33, 2, 0, 0, 0), none, some (.if_icmp .eq 9, 3, 0, 0, 0), none, none, some (.iload_n 3, 1, 0, 0, 0), some (.bipush 40, 2, 0, 0, 0), none, some (.if_icmp .ne 21, 3, 0, 0, 0), none, none, some (.iload_n 2, 1, 0, 0, 0), some (.bipush 6, 2, 0, 0, 0), none, some (.if_icmp .lt 15, 3, 0, 0, 0), none, none, some (.aload_n 1, 1, 0, 0, 0), some (.iconst 5, 1, 0, 0, 0), some (.aload_n 1, 1, 0, 0, 0), some (.invokevirtual 51, 3, 120, 0, 575), none, none, some (.invokevirtual 54, 3, 125, 0, 579), none, none], [some (.goto 107, 3, 0, 0, 0), none, none, some (.aload_n 1, 1, 0, 0, 0), some (.bipush 33, 2, 0, 0, 0), none, some (.invokevirtual 76, 3, 123, 0, 596), none, none, some (.ifCond .eq 22, 3, 0, 0, 0), none, none, some (.aload_n 0, 1, 0, 0, 0), some (.aload_n 1, 1, 0, 0, 0), some (.iload_n 2, 1, 0, 0, 0), some (.iconst 1, 1, 0, 0, 0), some (.iadd, 1, 0, 0, 0), some (.invokevirtual 83, 3, 97, 0, 618), none, none, some (.aload_n 0, 1, 0, 0, 0), some (.bipush 33, 2, 0, 0, 0), none, some (.iconst 0, 1, 0, 0, 0), some (.invokevirtual 65, 3, 94, 0, 606), none, none, some (.pop, 1, 0, 0, 0), some (.goto 79, 3, 0, 0, 0), none, none, some (.aload_n 1, 1, 0, 0, 0)], [some (.bipush 40, 2, 0, 0, 0), none, some (.invokevirtual 76, 3, 123, 0, 596), none, none, some (.ifCond .eq 20, 3, 0, 0, 0), none, none, some (.aload_n 0, 1, 0, 0, 0), some (.aload_n 1, 1, 0, 0, 0), some (.iload_n 2, 1, 0, 0, 0), some (.iconst 1, 1, 0, 0, 0), some (.iadd, 1, 0, 0, 0), some (.invokevirtual 73, 3, 96, 0, 614), none, none, some (.aload_n 1, 1, 0, 0, 0), some (.bipush 41, 2, 0, 0, 0), none, some (.invokevirtual 69, 3, 124, 0, 601), none, none, some (.goto 53, 3, 0, 0, 0), none, none, some (.aload_n 0, 1, 0, 0, 0), some (.aload_n 1, 1, 0, 0, 0), some (.iload_n 2, 1, 0, 0, 0), some (.invokevirtual 61, 3, 98, 0, 587), none, none, some (.aload_n 1, 1, 0, 0, 0)], [some (.invokevirtual 37, 3, 121, 0, 493), none, none, some (.istore 4, 2, 0, 0, 0), none, some (.aload_n 1, 1, 0, 0, 0), some (.bipush 60, 2, 0, 0, 0), none, some (.invokevirtual 76, 3, 123, 0, 596), none, none, some (.ifCond .ne 18, 3, 0, 0, 0), none, none, some (.aload_n 1, 1, 0, 0, 0), some (.bipush 62, 2, 0, 0, 0), none, some (.invokevirtual 76, 3, 123, 0, 596), none, none, some (.ifCond .ne 9, 3, 0, 0, 0), none, none, some (.aload_n 1, 1, 0, 0, 0), some (.bipush 61, 2, 0, 0, 0), none, some (.invokevirtual 69, 3, 124, 0, 601), none, none, some (.aload_n 0, 1, 0, 0, 0), some (.aload_n 1, 1, 0, 0, 0), some (.iload_n 2, 1, 0, 0, 0)], [some (.invokevirtual 61, 3, 98, 0, 587), none, none, some (.aload_n 0, 1, 0, 0, 0), some (.iload 4, 2, 0, 0, 0), none, some (.iconst 0, 1, 0, 0, 0), some (.invokevirtual 65, 3, 94, 0, 606), none, none, some (.pop, 1, 0, 0, 0), some (.return_, 1, 0, 0, 0)]]
def cd_98 : List (List (Option si_E)) := [[some (.iconst (-1), 1, 0, 0, 0), some (.istore_n 3, 1, 0, 0, 0), some (.aload_n 0, 1, 0, 0, 0), some (.aload_n 1, 1, 0, 0, 0), some (.iload_n 2, 1, 0, 0, 0), some (.invokevirtual 89, 3, 99, 0, 591), none, none, some (.iconst 0, 1, 0, 0, 0), some (.istore 4, 2, 0, 0, 0), none, some (.iload 4, 2, 0, 0, 0), none, some (.sipush 240, 3, 0, 0, 0), none, none, some (.if_icmp .ge 97, 3, 0, 0, 0), none, none, some (.aload_n 1, 1, 0, 0, 0), some (.invokevirtual 37, 3, 121, 0, 493), none, none, some (.istore 5, 2, 0, 0, 0), none, some (.aload_n 1, 1, 0, 0, 0), some (.bipush 42, 2, 0, 0, 0), none, some (.invokevirtual 76, 3, 123, 0, 596), none, none, some (.ifCond .ne 21, 3, 0, 0, 0)], [none, none, some (.aload_n 1, 1, 0, 0, 0), some (.bipush 47, 2, 0, 0, 0), none, some (.invokevirtual 76, 3, 123, 0, 596), none, none, some (.ifCond .ne 12, 3, 0, 0, 0), none, none, some (.aload_n 1, 1, 0, 0, 0), some (.bipush 37, 2, 0, 0, 0), none, some (.invokevirtual 76, 3, 123, 0, 596), none, none, some (.ifCond .eq 20, 3, 0, 0, 0), none, none, some (.aload_n 0, 1, 0, 0, 0), some (.aload_n 1, 1, 0, 0, 0), some (.iload_n 2, 1, 0, 0, 0), some (.invokevirtual 89, 3, 99, 0, 591), none, none, some (.aload_n 0, 1, 0, 0, 0), some (.iload 5, 2, 0, 0, 0), none, some (.iconst 0, 1, 0, 0, 0), some (.invokevirtual 65, 3, 94, 0, 606), none], [none, some (.pop, 1, 0, 0, 0), some (.goto 41, 3, 0, 0, 0), none, none, some (.aload_n 1, 1, 0, 0, 0), some (.bipush 43, 2, 0, 0, 0), none, some (.invokevirtual 76, 3, 123, 0, 596), none, none, some (.ifCond .ne 12, 3, 0, 0, 0), none, none, some (.aload_n 1, 1, 0, 0, 0), some (.bipush 45, 2, 0, 0, 0), none, some (.invokevirtual 76, 3, 123, 0, 596), none, none, some (.ifCond .eq 29, 3, 0, 0, 0), none, none, some (.iload_n 3, 1, 0, 0, 0), some (.ifCond .lt 10, 3, 0, 0, 0), none, none, some (.aload_n 0, 1, 0, 0, 0), some (.iload_n 3, 1, 0, 0, 0), some (.iconst 0, 1, 0, 0, 0), some (.invokevirtual 65, 3, 94, 0, 606), none], [none, some (.pop, 1, 0, 0, 0), some (.iload 5, 2, 0, 0, 0), none, some (.istore_n 3, 1, 0, 0, 0), some (.aload_n 0, 1, 0, 0, 0), some (.aload_n 1, 1, 0, 0, 0), some (.iload_n 2, 1, 0, 0, 0), some (.invokevirtual 89, 3, 99, 0, 591), none, none, some (.iinc 4 1, 3, 0, 0, 0), none, none, some (.goto (-99), 3, 0, 0, 0), none, none, some (.iload_n 3, 1, 0, 0, 0), some (.ifCond .lt 10, 3, 0, 0, 0), none, none, some (.aload_n 0, 1, 0, 0, 0), some (.iload_n 3, 1, 0, 0, 0), some (.iconst 0, 1, 0, 0, 0), some (.invokevirtual 65, 3, 94, 0, 606), none, none, some (.pop, 1, 0, 0, 0), some (.return_, 1, 0, 0, 0)]]
def cd_99 : List (List (Option si_E)) := [[some (.aload_n 1, 1, 0, 0, 0), some (.invokevirtual 37, 3, 121, 0, 493), none, none, some (.istore_n 3, 1, 0, 0, 0), some (.iload_n 3, 1, 0, 0, 0), some (.ifCond .ge 7, 3, 0, 0, 0), none, none, some (.iconst (-1), 1, 0, 0, 0), some (.goto 10, 3, 0, 0, 0), none, none, some (.ldc 92, 2, 1, 1, 595), none, some (.iload_n 3, 1, 0, 0, 0), some (.i2c, 1, 0, 0, 0), some (.invokevirtual 45, 3, 0, 7, 498), none, none, some (.istore 4, 2, 0, 0, 0), none, some (.iload_n 3, 1, 0, 0, 0), some (.bipush 91, 2, 0, 0, 0), none, some (.if_icmp .ne 21, 3, 0, 0, 0), none, none, some (.iload_n 2, 1, 0, 0, 0), some (.bipush 6, 2, 0, 0, 0), none, some (.if_icmp .lt 15, 3, 0, 0, 0)], [none, none, some (.aload_n 1, 1, 0, 0, 0), some (.iconst 5, 1, 0, 0, 0), some (.aload_n 1, 1, 0, 0, 0), some (.invokevirtual 51, 3, 120, 0, 575), none, none, some (.invokevirtual 54, 3, 125, 0, 579), none, none, some (.goto 62, 3, 0, 0, 0), none, none, some (.aload_n 1, 1, 0, 0, 0), some (.bipush 91, 2, 0, 0, 0), none, some (.invokevirtual 76, 3, 123, 0, 596), none, none, some (.ifCond .eq 20, 3, 0, 0, 0), none, none, some (.aload_n 0, 1, 0, 0, 0), some (.aload_n 1, 1, 0, 0, 0), some (.iload_n 2, 1, 0, 0, 0), some (.iconst 1, 1, 0, 0, 0), some (.iadd, 1, 0, 0, 0), some (.invokevirtual 61, 3, 98, 0, 587), none, none, some (.aload_n 1, 1, 0, 0, 0)], [some (.bipush 93, 2, 0, 0, 0), none, some (.invokevirtual 69, 3, 124, 0, 601), none, none, some (.goto 36, 3, 0, 0, 0), none, none, some (.iload 4, 2, 0, 0, 0), none, some (.ifCond .lt 19, 3, 0, 0, 0), none, none, some (.aload_n 1, 1, 0, 0, 0), some (.invokevirtual 58, 3, 122, 0, 583), none, none, some (.aload_n 0, 1, 0, 0, 0), some (.bipush 36, 2, 0, 0, 0), none, some (.iload 4, 2, 0, 0, 0), none, some (.invokevirtual 65, 3, 94, 0, 606), none, none, some (.pop, 1, 0, 0, 0), some (.goto 15, 3, 0, 0, 0), none, none, some (.aload_n 0, 1, 0, 0, 0), some (.bipush 35, 2, 0, 0, 0), none], [some (.aload_n 1, 1, 0, 0, 0), some (.iconst 5, 1, 0, 0, 0), some (.invokevirtual 94, 3, 127, 0, 610), none, none, some (.invokevirtual 65, 3, 94, 0, 606), none, none, some (.pop, 1, 0, 0, 0), some (.return_, 1, 0, 0, 0)]]
def cd_100 : List (List (Option si_E)) := [[some (.iconst 0, 1, 0, 0, 0), some (.istore 4, 2, 0, 0, 0), none, some (.iload 4, 2, 0, 0, 0), none, some (.aload_n 0, 1, 0, 0, 0), some (.getfield 30, 3, 5, 7, 325), none, none, some (.if_icmp .ge 53, 3, 0, 0, 0), none, none, some (.aload_n 0, 1, 0, 0, 0), some (.getfield 18, 3, 5, 2, 320), none, none, some (.iload 4, 2, 0, 0, 0), none, some (.iaload, 1, 0, 0, 0), some (.iload_n 1, 1, 0, 0, 0), some (.if_icmp .ne 36, 3, 0, 0, 0), none, none, some (.aload_n 0, 1, 0, 0, 0), some (.aload_n 0, 1, 0, 0, 0), some (.getfield 24, 3, 5, 4, 322), none, none, some (.iload 4, 2, 0, 0, 0), none, some (.iaload, 1, 0, 0, 0), some (.aload_n 3, 1, 0, 0, 0)], [some (.invokevirtual 97, 3, 102, 0, 1276), none, none, some (.ifCond .eq 21, 3, 0, 0, 0), none, none, some (.aload_n 0, 1, 0, 0, 0), some (.aload_n 0, 1, 0, 0, 0), some (.getfield 21, 3, 5, 3, 321), none, none, some (.iload 4, 2, 0, 0, 0), none, some (.iaload, 1, 0, 0, 0), some (.aload_n 3, 1, 0, 0, 0), some (.invokevirtual 97, 3, 102, 0, 1276), none, none, some (.iconst 0, 1, 0, 0, 0), some (.iload_n 2, 1, 0, 0, 0), some (.invokestatic 101, 3, 198, 1, 1288), none, none, some (.ireturn, 1, 0, 0, 0), some (.iinc 4 1, 3, 0, 0, 0), none, none, some (.goto (-56), 3, 0, 0, 0), none, none, some (.iconst 0, 1, 0, 0, 0), some (.ireturn, 1, 0, 0, 0)]]
def cd_101 : List (List (Option si_E)) := [[some (.iconst 0, 1, 0, 0, 0), some (.istore_n 3, 1, 0, 0, 0), some (.iload_n 3, 1, 0, 0, 0), some (.aload_n 0, 1, 0, 0, 0), some (.getfield 30, 3, 5, 7, 325), none, none, some (.if_icmp .ge 35, 3, 0, 0, 0), none, none, some (.aload_n 0, 1, 0, 0, 0), some (.getfield 18, 3, 5, 2, 320), none, none, some (.iload_n 3, 1, 0, 0, 0), some (.iaload, 1, 0, 0, 0), some (.iload_n 1, 1, 0, 0, 0), some (.if_icmp .ne 19, 3, 0, 0, 0), none, none, some (.aload_n 0, 1, 0, 0, 0), some (.aload_n 0, 1, 0, 0, 0), some (.getfield 24, 3, 5, 4, 322), none, none, some (.iload_n 3, 1, 0, 0, 0), some (.iaload, 1, 0, 0, 0), some (.aload_n 2, 1, 0, 0, 0), some (.invokevirtual 97, 3, 102, 0, 1276), none, none, some (.ifCond .eq 5, 3, 0, 0, 0)], [none, none, some (.iconst 1, 1, 0, 0, 0), some (.ireturn, 1, 0, 0, 0), some (.iinc 3 1, 3, 0, 0, 0), none, none, some (.goto (-37), 3, 0, 0, 0), none, none, some (.iconst 0, 1, 0, 0, 0), some (.ireturn, 1, 0, 0, 0)]]
def cd_102 : List (List (Option si_E)) := [[some (.aload_n 0, 1, 0, 0, 0), some (.iconst 0, 1, 0, 0, 0), some (.putfield 105, 3, 5, 8, 326), none, none, some (.iconst 0, 1, 0, 0, 0), some (.istore_n 3, 1, 0, 0, 0), some (.iload_n 1, 1, 0, 0, 0), some (.istore 4, 2, 0, 0, 0), none, some (.iload 4, 2, 0, 0, 0), none, some (.aload_n 0, 1, 0, 0, 0), some (.getfield 34, 3, 5, 6, 324), none, none, some (.if_icmp .ge 280, 3, 0, 0, 0), none, none, some (.aload_n 0, 1, 0, 0, 0), some (.getfield 11, 3, 5, 0, 318), none, none, some (.iload 4, 2, 0, 0, 0), none, some (.iaload, 1, 0, 0, 0), some (.bipush 46, 2, 0, 0, 0), none, some (.if_icmp .eq 268, 3, 0, 0, 0), none, none, some (.aload_n 0, 1, 0, 0, 0)], [some (.getfield 105, 3, 5, 8, 326), none, none, some (.ifCond .ne 261, 3, 0, 0, 0), none, none, some (.aload_n 0, 1, 0, 0, 0), some (.getfield 11, 3, 5, 0, 318), none, none, some (.iload 4, 2, 0, 0, 0), none, some (.iaload, 1, 0, 0, 0), some (.istore 5, 2, 0, 0, 0), none, some (.iload 5, 2, 0, 0, 0), none, some (.bipush 35, 2, 0, 0, 0), none, some (.if_icmp .eq 10, 3, 0, 0, 0), none, none, some (.iload 5, 2, 0, 0, 0), none, some (.bipush 36, 2, 0, 0, 0), none, some (.if_icmp .ne 65, 3, 0, 0, 0), none, none, some (.aload_n 0, 1, 0, 0, 0), some (.iload_n 3, 1, 0, 0, 0), some (.bipush 40, 2, 0, 0, 0)], [none, some (.if_icmp .lt 7, 3, 0, 0, 0), none, none, some (.iconst 1, 1, 0, 0, 0), some (.goto 4, 3, 0, 0, 0), none, none, some (.iconst 0, 1, 0, 0, 0), some (.putfield 105, 3, 5, 8, 326), none, none, some (.aload_n 0, 1, 0, 0, 0), some (.getfield 105, 3, 5, 8, 326), none, none, some (.ifCond .ne 210, 3, 0, 0, 0), none, none, some (.aload_n 0, 1, 0, 0, 0), some (.getfield 27, 3, 5, 5, 323), none, none, some (.iload_n 3, 1, 0, 0, 0), some (.iload 5, 2, 0, 0, 0), none, some (.bipush 35, 2, 0, 0, 0), none, some (.if_icmp .ne 13, 3, 0, 0, 0), none, none, some (.aload_n 0, 1, 0, 0, 0)], [some (.getfield 15, 3, 5, 1, 319), none, none, some (.iload 4, 2, 0, 0, 0), none, some (.iaload, 1, 0, 0, 0), some (.goto 14, 3, 0, 0, 0), none, none, some (.aload_n 2, 1, 0, 0, 0), some (.aload_n 0, 1, 0, 0, 0), some (.getfield 15, 3, 5, 1, 319), none, none, some (.iload 4, 2, 0, 0, 0), none, some (.iaload, 1, 0, 0, 0), some (.invokestatic 109, 3, 103, 0, 1280), none, none, some (.iastore, 1, 0, 0, 0), some (.iinc 3 1, 3, 0, 0, 0), none, none, some (.goto 170, 3, 0, 0, 0), none, none, some (.iload_n 3, 1, 0, 0, 0), some (.iconst 1, 1, 0, 0, 0), some (.if_icmp .ge 11, 3, 0, 0, 0), none, none], [some (.aload_n 0, 1, 0, 0, 0), some (.iconst 1, 1, 0, 0, 0), some (.putfield 105, 3, 5, 8, 326), none, none, some (.goto 157, 3, 0, 0, 0), none, none, some (.iload 5, 2, 0, 0, 0), none, some (.bipush 33, 2, 0, 0, 0), none, some (.if_icmp .ne 24, 3, 0, 0, 0), none, none, some (.aload_n 0, 1, 0, 0, 0), some (.getfield 27, 3, 5, 5, 323), none, none, some (.iload_n 3, 1, 0, 0, 0), some (.iconst 1, 1, 0, 0, 0), some (.isub, 1, 0, 0, 0), some (.iconst 1, 1, 0, 0, 0), some (.aload_n 0, 1, 0, 0, 0), some (.getfield 27, 3, 5, 5, 323), none, none, some (.iload_n 3, 1, 0, 0, 0), some (.iconst 1, 1, 0, 0, 0), some (.isub, 1, 0, 0, 0), some (.iaload, 1, 0, 0, 0), some (.isub, 1, 0, 0, 0)], [some (.iastore, 1, 0, 0, 0), some (.goto 129, 3, 0, 0, 0), none, none, some (.iload 5, 2, 0, 0, 0), none, some (.bipush 38, 2, 0, 0, 0), none, some (.if_icmp .eq 10, 3, 0, 0, 0), none, none, some (.iload 5, 2, 0, 0, 0), none, some (.bipush 124, 2, 0, 0, 0), none, some (.if_icmp .ne 71, 3, 0, 0, 0), none, none, some (.aload_n 0, 1, 0, 0, 0), some (.getfield 27, 3, 5, 5, 323), none, none, some (.iload_n 3, 1, 0, 0, 0), some (.iconst 1, 1, 0, 0, 0), some (.isub, 1, 0, 0, 0), some (.iaload, 1, 0, 0, 0), some (.ifCond .eq 7, 3, 0, 0, 0), none, none, some (.iconst 1, 1, 0, 0, 0), some (.goto 4, 3, 0, 0, 0), none], [none, some (.iconst 0, 1, 0, 0, 0), some (.iload 5, 2, 0, 0, 0), none, some (.bipush 124, 2, 0, 0, 0), none, some (.if_icmp .ne 7, 3, 0, 0, 0), none, none, some (.iconst 1, 1, 0, 0, 0), some (.goto 4, 3, 0, 0, 0), none, none, some (.iconst 0, 1, 0, 0, 0), some (.if_icmp .ne 7, 3, 0, 0, 0), none, none, some (.iconst 1, 1, 0, 0, 0), some (.goto 4, 3, 0, 0, 0), none, none, some (.iconst 0, 1, 0, 0, 0), some (.istore 6, 2, 0, 0, 0), none, some (.iload 6, 2, 0, 0, 0), none, some (.ifCond .eq 22, 3, 0, 0, 0), none, none, some (.iload 4, 2, 0, 0, 0), none, some (.aload_n 0, 1, 0, 0, 0)], [some (.getfield 15, 3, 5, 1, 319), none, none, some (.iload 4, 2, 0, 0, 0), none, some (.iaload, 1, 0, 0, 0), some (.iconst 1, 1, 0, 0, 0), some (.isub, 1, 0, 0, 0), some (.invokestatic 113, 3, 343, 0, 1283), none, none, some (.istore 4, 2, 0, 0, 0), none, some (.goto 6, 3, 0, 0, 0), none, none, some (.iinc 3 (-1), 3, 0, 0, 0), none, none, some (.goto 47, 3, 0, 0, 0), none, none, some (.iload_n 3, 1, 0, 0, 0), some (.iconst 2, 1, 0, 0, 0), some (.if_icmp .ge 11, 3, 0, 0, 0), none, none, some (.aload_n 0, 1, 0, 0, 0), some (.iconst 1, 1, 0, 0, 0), some (.putfield 105, 3, 5, 8, 326), none, none], [some (.goto 34, 3, 0, 0, 0), none, none, some (.iinc 3 (-1), 3, 0, 0, 0), none, none, some (.aload_n 0, 1, 0, 0, 0), some (.getfield 27, 3, 5, 5, 323), none, none, some (.iload_n 3, 1, 0, 0, 0), some (.iconst 1, 1, 0, 0, 0), some (.isub, 1, 0, 0, 0), some (.aload_n 0, 1, 0, 0, 0), some (.iload 5, 2, 0, 0, 0), none, some (.aload_n 0, 1, 0, 0, 0), some (.getfield 27, 3, 5, 5, 323), none, none, some (.iload_n 3, 1, 0, 0, 0), some (.iconst 1, 1, 0, 0, 0), some (.isub, 1, 0, 0, 0), some (.iaload, 1, 0, 0, 0), some (.aload_n 0, 1, 0, 0, 0), some (.getfield 27, 3, 5, 5, 323), none, none, some (.iload_n 3, 1, 0, 0, 0), some (.iaload, 1, 0, 0, 0), some (.invokevirtual 118, 3, 104, 0, 1284), none], [none, some (.iastore, 1, 0, 0, 0), some (.iinc 4 1, 3, 0, 0, 0), none, none, some (.goto (-283), 3, 0, 0, 0), none, none, some (.aload_n 0, 1, 0, 0, 0), some (.getfield 105, 3, 5, 8, 326), none, none, some (.ifCond .ne 8, 3, 0, 0, 0), none, none, some (.iload_n 3, 1, 0, 0, 0), some (.iconst 1, 1, 0, 0, 0), some (.if_icmp .ge 7, 3, 0, 0, 0), none, none, some (.iconst 0, 1, 0, 0, 0), some (.goto 9, 3, 0, 0, 0), none, none, some (.aload_n 0, 1, 0, 0, 0), some (.getfield 27, 3, 5, 5, 323), none, none, some (.iconst 0, 1, 0, 0, 0), some (.iaload, 1, 0, 0, 0), some (.ireturn, 1, 0, 0, 0)]]
def cd_103 : List (List (Option si_E)) := [[some (.iload_n 1, 1, 0, 0, 0), some (.ifCond .lt 15, 3, 0, 0, 0), none, none, some (.iload_n 1, 1, 0, 0, 0), some (.aload_n 0, 1, 0, 0, 0), some (.arraylength, 1, 0, 0, 0), some (.if_icmp .ge 9, 3, 0, 0, 0), none, none, some (.aload_n 0, 1, 0, 0, 0), some (.iload_n 1, 1, 0, 0, 0), some (.iaload, 1, 0, 0, 0), some (.goto 4, 3, 0, 0, 0), none, none, some (.iconst 0, 1, 0, 0, 0), some (.ireturn, 1, 0, 0, 0)]]
def cd_104 : List (List (Option si_E)) := [[some (.iload_n 1, 1, 0, 0, 0), some (.lookupswitch 104 #[(42, 67), (43, 59), (45, 63), (60, 71), (61, 93), (62, 82)], 59, 0, 0, 0), none, none, none, none, none, none, none, none, none, none, none, none, none, none, none, none, none, none, none, none, none, none, none, none, none, none, none, none, none, none], [none, none, none, none, none, none, none, none, none, none, none, none, none, none, none, none, none, none, none, none, none, none, none, none, none, none, none, none, some (.iload_n 2, 1, 0, 0, 0), some (.iload_n 3, 1, 0, 0, 0), some (.iadd, 1, 0, 0, 0), some (.ireturn, 1, 0, 0, 0)], [some (.iload_n 2, 1, 0, 0, 0), some (.iload_n 3, 1, 0, 0, 0), some (.isub, 1, 0, 0, 0), some (.ireturn, 1, 0, 0, 0), some (.iload_n 2, 1, 0, 0, 0), some (.iload_n 3, 1, 0, 0, 0), some (.imul, 1, 0, 0, 0), some (.ireturn, 1, 0, 0, 0), some (.iload_n 2, 1, 0, 0, 0), some (.iload_n 3, 1, 0, 0, 0), some (.if_icmp .ge 7, 3, 0, 0, 0), none, none, some (.iconst 1, 1, 0, 0, 0), some (.goto 4, 3, 0, 0, 0), none, none, some (.iconst 0, 1, 0, 0, 0), some (.ireturn, 1, 0, 0, 0), some (.iload_n 2, 1, 0, 0, 0), some (.iload_n 3, 1, 0, 0, 0), some (.if_icmp .le 7, 3, 0, 0, 0), none, none, some (.iconst 1, 1, 0, 0, 0), some (.goto 4, 3, 0, 0, 0), none, none, some (.iconst 0, 1, 0, 0, 0), some (.ireturn, 1, 0, 0, 0), some (.iload_n 2, 1, 0, 0, 0), some (.iload_n 3, 1, 0, 0, 0)], [some (.if_icmp .ne 7, 3, 0, 0, 0), none, none, some (.iconst 1, 1, 0, 0, 0), some (.goto 4, 3, 0, 0, 0), none, none, some (.iconst 0, 1, 0, 0, 0), some (.ireturn, 1, 0, 0, 0), some (.iload_n 3, 1, 0, 0, 0), some (.ifCond .ne 10, 3, 0, 0, 0), none, none, some (.aload_n 0, 1, 0, 0, 0), some (.iconst 1, 1, 0, 0, 0), some (.putfield 105, 3, 5, 8, 326), none, none, some (.iconst 0, 1, 0, 0, 0), some (.ireturn, 1, 0, 0, 0), some (.iload_n 1, 1, 0, 0, 0), some (.bipush 47, 2, 0, 0, 0), none, some (.if_icmp .ne 9, 3, 0, 0, 0), none, none, some (.iload_n 2, 1, 0, 0, 0), some (.iload_n 3, 1, 0, 0, 0), some (.idiv, 1, 0, 0, 0), some (.goto 6, 3, 0, 0, 0), none, none], [some (.iload_n 2, 1, 0, 0, 0), some (.iload_n 3, 1, 0, 0, 0), some (.irem, 1, 0, 0, 0), some (.ireturn, 1, 0, 0, 0)]]
def cd_105 : List (List (Option si_E)) := [[some (.aload_n 0, 1, 0, 0, 0), some (.invokespecial 3, 3, 0, 9, 166), none, none, some (.aload_n 0, 1, 0, 0, 0), some (.bipush 12, 2, 0, 0, 0), none, some (.newarray .int, 2, 0, 0, 174), none, some (.putfield 11, 3, 6, 1, 168), none, none, some (.aload_n 0, 1, 0, 0, 0), some (.aload_n 1, 1, 0, 0, 0), some (.putfield 17, 3, 6, 0, 167), none, none, some (.return_, 1, 0, 0, 0)]]
def cd_106 : List (List (Option si_E)) := [[some (.aload_n 0, 1, 0, 0, 0), some (.getfield 17, 3, 6, 0, 167), none, none, some (.aload_n 0, 1, 0, 0, 0), some (.getfield 17, 3, 6, 0, 167), none, none, some (.iload_n 1, 1, 0, 0, 0), some (.invokevirtual 21, 3, 76, 0, 741), none, none, some (.aload_n 0, 1, 0, 0, 0), some (.getfield 17, 3, 6, 0, 167), none, none, some (.iload_n 1, 1, 0, 0, 0), some (.invokevirtual 25, 3, 77, 0, 742), none, none, some (.aload_n 0, 1, 0, 0, 0), some (.getfield 11, 3, 6, 1, 168), none, none, some (.iconst 0, 1, 0, 0, 0), some (.invokevirtual 28, 3, 89, 0, 743), none, none, some (.ireturn, 1, 0, 0, 0)]]
def cd_107 : List (List (Option si_E)) := [[some (.aload_n 0, 1, 0, 0, 0), some (.iload_n 1, 1, 0, 0, 0), some (.invokevirtual 32, 3, 106, 0, 737), none, none, some (.istore_n 2, 1, 0, 0, 0), some (.aload_n 0, 1, 0, 0, 0), some (.getfield 17, 3, 6, 0, 167), none, none, some (.invokevirtual 35, 3, 73, 0, 751), none, none, some (.istore_n 3, 1, 0, 0, 0), some (.iconst 0, 1, 0, 0, 0), some (.istore 4, 2, 0, 0, 0), none, some (.iload 4, 2, 0, 0, 0), none, some (.iload_n 2, 1, 0, 0, 0), some (.if_icmp .ge 34, 3, 0, 0, 0), none, none, some (.iload_n 3, 1, 0, 0, 0), some (.iconst 1, 1, 0, 0, 0), some (.aload_n 0, 1, 0, 0, 0), some (.getfield 17, 3, 6, 0, 167), none, none, some (.aload_n 0, 1, 0, 0, 0), some (.getfield 11, 3, 6, 1, 168), none], [none, some (.iload 4, 2, 0, 0, 0), none, some (.iaload, 1, 0, 0, 0), some (.iload_n 1, 1, 0, 0, 0), some (.isub, 1, 0, 0, 0), some (.iconst 1, 1, 0, 0, 0), some (.isub, 1, 0, 0, 0), some (.invokevirtual 39, 3, 75, 0, 755), none, none, some (.iadd, 1, 0, 0, 0), some (.invokestatic 42, 3, 344, 0, 759), none, none, some (.istore_n 3, 1, 0, 0, 0), some (.iinc 4 1, 3, 0, 0, 0), none, none, some (.goto (-34), 3, 0, 0, 0), none, none, some (.aload_n 0, 1, 0, 0, 0), some (.getfield 17, 3, 6, 0, 167), none, none, some (.iload_n 1, 1, 0, 0, 0), some (.iload_n 3, 1, 0, 0, 0), some (.iadd, 1, 0, 0, 0), some (.invokevirtual 39, 3, 75, 0, 755), none, none], [some (.ireturn, 1, 0, 0, 0)]]
def cd_108 : List (List (Option si_E)) := [[some (.aload_n 0, 1, 0, 0, 0), some (.getfield 17, 3, 6, 0, 167), none, none, some (.aload_n 0, 1, 0, 0, 0), some (.getfield 17, 3, 6, 0, 167), none, none, some (.aload_n 0, 1, 0, 0, 0), some (.getfield 17, 3, 6, 0, 167), none, none, some (.iload_n 1, 1, 0, 0, 0), some (.invokevirtual 21, 3, 76, 0, 741), none, none, some (.invokevirtual 48, 3, 78, 0, 764), none, none, some (.aload_n 0, 1, 0, 0, 0), some (.getfield 17, 3, 6, 0, 167), none, none, some (.aload_n 0, 1, 0, 0, 0), some (.getfield 17, 3, 6, 0, 167), none, none, some (.iload_n 1, 1, 0, 0, 0), some (.invokevirtual 25, 3, 77, 0, 742), none, none, some (.invokevirtual 48, 3, 78, 0, 764)], [none, none, some (.invokevirtual 51, 3, 84, 0, 768), none, none, some (.ireturn, 1, 0, 0, 0)]]
def cd_109 : List (List (Option si_E)) := [[some (.iconst 0, 1, 0, 0, 0), some (.istore_n 2, 1, 0, 0, 0), some (.aload_n 0, 1, 0, 0, 0), some (.getfield 17, 3, 6, 0, 167), none, none, some (.invokevirtual 35, 3, 73, 0, 751), none, none, some (.istore_n 3, 1, 0, 0, 0), some (.iconst 0, 1, 0, 0, 0), some (.istore 4, 2, 0, 0, 0), none, some (.iload 4, 2, 0, 0, 0), none, some (.iload_n 3, 1, 0, 0, 0), some (.if_icmp .ge 37, 3, 0, 0, 0), none, none, some (.iload_n 1, 1, 0, 0, 0), some (.ifCond .eq 15, 3, 0, 0, 0), none, none, some (.aload_n 0, 1, 0, 0, 0), some (.iload 4, 2, 0, 0, 0), none, some (.invokevirtual 54, 3, 110, 0, 794), none, none, some (.ifCond .eq 18, 3, 0, 0, 0), none, none], [some (.goto 12, 3, 0, 0, 0), none, none, some (.aload_n 0, 1, 0, 0, 0), some (.iload 4, 2, 0, 0, 0), none, some (.invokevirtual 58, 3, 108, 0, 802), none, none, some (.ifCond .lt 6, 3, 0, 0, 0), none, none, some (.iinc 2 1, 3, 0, 0, 0), none, none, some (.iinc 4 1, 3, 0, 0, 0), none, none, some (.goto (-37), 3, 0, 0, 0), none, none, some (.iload_n 2, 1, 0, 0, 0), some (.ireturn, 1, 0, 0, 0)]]
def cd_110 : List (List (Option si_E)) := [[some (.aload_n 0, 1, 0, 0, 0), some (.getfield 17, 3, 6, 0, 167), none, none, some (.iload_n 1, 1, 0, 0, 0), some (.aload_n 0, 1, 0, 0, 0), some (.getfield 17, 3, 6, 0, 167), none, none, some (.aload_n 0, 1, 0, 0, 0), some (.getfield 17, 3, 6, 0, 167), none, none, some (.iload_n 1, 1, 0, 0, 0), some (.invokevirtual 21, 3, 76, 0, 741), none, none, some (.invokevirtual 48, 3, 78, 0, 764), none, none, some (.aload_n 0, 1, 0, 0, 0), some (.getfield 17, 3, 6, 0, 167), none, none, some (.aload_n 0, 1, 0, 0, 0), some (.getfield 17, 3, 6, 0, 167), none, none, some (.iload_n 1, 1, 0, 0, 0), some (.invokevirtual 25, 3, 77, 0, 742), none, none], [some (.invokevirtual 48, 3, 78, 0, 764), none, none, some (.invokevirtual 61, 3, 82, 0, 798), none, none, some (.ireturn, 1, 0, 0, 0)]]
def cd_111 : List (List (Option si_E)) := [[some (.aload_n 0, 1, 0, 0, 0), some (.getfield 17, 3, 6, 0, 167), none, none, some (.invokevirtual 35, 3, 73, 0, 751), none, none, some (.istore_n 1, 1, 0, 0, 0), some (.iconst 0, 1, 0, 0, 0), some (.istore_n 2, 1, 0, 0, 0), some (.iload_n 2, 1, 0, 0, 0), some (.iload_n 1, 1, 0, 0, 0), some (.if_icmp .ge 22, 3, 0, 0, 0), none, none, some (.aload_n 0, 1, 0, 0, 0), some (.getfield 17, 3, 6, 0, 167), none, none, some (.iload_n 2, 1, 0, 0, 0), some (.invokevirtual 65, 3, 87, 0, 829), none, none, some (.ifCond .ne 5, 3, 0, 0, 0), none, none, some (.iload_n 2, 1, 0, 0, 0), some (.ireturn, 1, 0, 0, 0), some (.iinc 2 1, 3, 0, 0, 0), none, none, some (.goto (-21), 3, 0, 0, 0)], [none, none, some (.bipush (-2), 2, 0, 0, 0), none, some (.ireturn, 1, 0, 0, 0)]]
def cd_112 : List (List (Option si_E)) := [[some (.aload_n 0, 1, 0, 0, 0), some (.getfield 17, 3, 6, 0, 167), none, none, some (.invokevirtual 35, 3, 73, 0, 751), none, none, some (.istore_n 2, 1, 0, 0, 0), some (.iconst 0, 1, 0, 0, 0), some (.istore_n 3, 1, 0, 0, 0), some (.iconst 0, 1, 0, 0, 0), some (.istore 4, 2, 0, 0, 0), none, some (.iconst 0, 1, 0, 0, 0), some (.istore 5, 2, 0, 0, 0), none, some (.iload 5, 2, 0, 0, 0), none, some (.iconst 2, 1, 0, 0, 0), some (.iload_n 2, 1, 0, 0, 0), some (.imul, 1, 0, 0, 0), some (.if_icmp .ge 46, 3, 0, 0, 0), none, none, some (.aload_n 0, 1, 0, 0, 0), some (.getfield 17, 3, 6, 0, 167), none, none, some (.aload_n 0, 1, 0, 0, 0), some (.getfield 17, 3, 6, 0, 167), none, none], [some (.iload 5, 2, 0, 0, 0), none, some (.invokevirtual 39, 3, 75, 0, 755), none, none, some (.invokevirtual 65, 3, 87, 0, 829), none, none, some (.iload_n 1, 1, 0, 0, 0), some (.if_icmp .ne 10, 3, 0, 0, 0), none, none, some (.iload 4, 2, 0, 0, 0), none, some (.iconst 1, 1, 0, 0, 0), some (.iadd, 1, 0, 0, 0), some (.goto 4, 3, 0, 0, 0), none, none, some (.iconst 0, 1, 0, 0, 0), some (.istore 4, 2, 0, 0, 0), none, some (.iload_n 3, 1, 0, 0, 0), some (.iload 4, 2, 0, 0, 0), none, some (.invokestatic 68, 3, 343, 0, 834), none, none, some (.istore_n 3, 1, 0, 0, 0), some (.iinc 5 1, 3, 0, 0, 0), none, none], [some (.goto (-48), 3, 0, 0, 0), none, none, some (.iload_n 3, 1, 0, 0, 0), some (.iload_n 2, 1, 0, 0, 0), some (.invokestatic 42, 3, 344, 0, 759), none, none, some (.ireturn, 1, 0, 0, 0)]]
def cd_113 : List (List (Option si_E)) := [[some (.aload_n 0, 1, 0, 0, 0), some (.getfield 17, 3, 6, 0, 167), none, none, some (.invokevirtual 35, 3, 73, 0, 751), none, none, some (.istore_n 2, 1, 0, 0, 0), some (.iconst 0, 1, 0, 0, 0), some (.istore_n 3, 1, 0, 0, 0), some (.iload_n 3, 1, 0, 0, 0), some (.iload_n 2, 1, 0, 0, 0), some (.if_icmp .ge 31, 3, 0, 0, 0), none, none, some (.aload_n 0, 1, 0, 0, 0), some (.getfield 17, 3, 6, 0, 167), none, none, some (.aload_n 0, 1, 0, 0, 0), some (.getfield 17, 3, 6, 0, 167), none, none, some (.iload_n 1, 1, 0, 0, 0), some (.iload_n 3, 1, 0, 0, 0), some (.iadd, 1, 0, 0, 0), some (.invokevirtual 39, 3, 75, 0, 755), none, none, some (.invokevirtual 65, 3, 87, 0, 829), none, none], [some (.ifCond .eq 5, 3, 0, 0, 0), none, none, some (.iload_n 3, 1, 0, 0, 0), some (.ireturn, 1, 0, 0, 0), some (.iinc 3 1, 3, 0, 0, 0), none, none, some (.goto (-30), 3, 0, 0, 0), none, none, some (.bipush (-2), 2, 0, 0, 0), none, some (.ireturn, 1, 0, 0, 0)]]
def cd_114 : List (List (Option si_E)) := [[some (.aload_n 0, 1, 0, 0, 0), some (.iload_n 1, 1, 0, 0, 0), some (.invokevirtual 32, 3, 106, 0, 737), none, none, some (.istore_n 2, 1, 0, 0, 0), some (.aload_n 0, 1, 0, 0, 0), some (.getfield 17, 3, 6, 0, 167), none, none, some (.invokevirtual 35, 3, 73, 0, 751), none, none, some (.istore_n 3, 1, 0, 0, 0), some (.iconst 1, 1, 0, 0, 0), some (.istore 4, 2, 0, 0, 0), none, some (.iload 4, 2, 0, 0, 0), none, some (.iload_n 3, 1, 0, 0, 0), some (.if_icmp .ge 23, 3, 0, 0, 0), none, none, some (.aload_n 0, 1, 0, 0, 0), some (.iload_n 1, 1, 0, 0, 0), some (.iload 4, 2, 0, 0, 0), none, some (.iload_n 2, 1, 0, 0, 0), some (.invokevirtual 71, 3, 115, 0, 851), none, none, some (.ifCond .eq 6, 3, 0, 0, 0)], [none, none, some (.iload 4, 2, 0, 0, 0), none, some (.ireturn, 1, 0, 0, 0), some (.iinc 4 1, 3, 0, 0, 0), none, none, some (.goto (-23), 3, 0, 0, 0), none, none, some (.bipush (-2), 2, 0, 0, 0), none, some (.ireturn, 1, 0, 0, 0)]]
def cd_115 : List (List (Option si_E)) := [[some (.aload_n 0, 1, 0, 0, 0), some (.getfield 17, 3, 6, 0, 167), none, none, some (.iload_n 1, 1, 0, 0, 0), some (.iload_n 2, 1, 0, 0, 0), some (.iadd, 1, 0, 0, 0), some (.invokevirtual 39, 3, 75, 0, 755), none, none, some (.istore 4, 2, 0, 0, 0), none, some (.iconst 0, 1, 0, 0, 0), some (.istore 5, 2, 0, 0, 0), none, some (.iload 5, 2, 0, 0, 0), none, some (.iload_n 3, 1, 0, 0, 0), some (.if_icmp .ge 50, 3, 0, 0, 0), none, none, some (.aload_n 0, 1, 0, 0, 0), some (.getfield 17, 3, 6, 0, 167), none, none, some (.aload_n 0, 1, 0, 0, 0), some (.getfield 11, 3, 6, 1, 168), none, none, some (.iload 5, 2, 0, 0, 0), none, some (.iaload, 1, 0, 0, 0)], [some (.iload_n 2, 1, 0, 0, 0), some (.iadd, 1, 0, 0, 0), some (.invokevirtual 39, 3, 75, 0, 755), none, none, some (.istore 6, 2, 0, 0, 0), none, some (.iload 6, 2, 0, 0, 0), none, some (.iload 4, 2, 0, 0, 0), none, some (.if_icmp .eq 19, 3, 0, 0, 0), none, none, some (.aload_n 0, 1, 0, 0, 0), some (.getfield 17, 3, 6, 0, 167), none, none, some (.iload 4, 2, 0, 0, 0), none, some (.iload 6, 2, 0, 0, 0), none, some (.invokevirtual 74, 3, 81, 0, 855), none, none, some (.ifCond .eq 5, 3, 0, 0, 0), none, none, some (.iconst 0, 1, 0, 0, 0), some (.ireturn, 1, 0, 0, 0), some (.iinc 5 1, 3, 0, 0, 0), none], [none, some (.goto (-50), 3, 0, 0, 0), none, none, some (.iconst 1, 1, 0, 0, 0), some (.ireturn, 1, 0, 0, 0)]]
def cd_116 : List (List (Option si_E)) := [[some (.aload_n 0, 1, 0, 0, 0), some (.getfield 17, 3, 6, 0, 167), none, none, some (.invokevirtual 35, 3, 73, 0, 751), none, none, some (.istore_n 2, 1, 0, 0, 0), some (.iconst 0, 1, 0, 0, 0), some (.istore_n 3, 1, 0, 0, 0), some (.iload_n 3, 1, 0, 0, 0), some (.iload_n 2, 1, 0, 0, 0), some (.if_icmp .ge 36, 3, 0, 0, 0), none, none, some (.aload_n 0, 1, 0, 0, 0), some (.getfield 17, 3, 6, 0, 167), none, none, some (.iload_n 1, 1, 0, 0, 0), some (.iload_n 3, 1, 0, 0, 0), some (.iadd, 1, 0, 0, 0), some (.invokevirtual 39, 3, 75, 0, 755), none, none, some (.istore 4, 2, 0, 0, 0), none, some (.aload_n 0, 1, 0, 0, 0), some (.getfield 17, 3, 6, 0, 167), none, none, some (.iload 4, 2, 0, 0, 0)], [none, some (.invokevirtual 78, 3, 80, 0, 868), none, none, some (.ifCond .ne 6, 3, 0, 0, 0), none, none, some (.iload 4, 2, 0, 0, 0), none, some (.ireturn, 1, 0, 0, 0), some (.iinc 3 1, 3, 0, 0, 0), none, none, some (.goto (-35), 3, 0, 0, 0), none, none, some (.bipush (-2), 2, 0, 0, 0), none, some (.ireturn, 1, 0, 0, 0)]]
def cd_117 : List (List (Option si_E)) := [[some (.iconst 0, 1, 0, 0, 0), some (.istore_n 2, 1, 0, 0, 0), some (.aload_n 0, 1, 0, 0, 0), some (.getfield 17, 3, 6, 0, 167), none, none, some (.invokevirtual 35, 3, 73, 0, 751), none, none, some (.istore_n 3, 1, 0, 0, 0), some (.iconst 0, 1, 0, 0, 0), some (.istore 4, 2, 0, 0, 0), none, some (.iload 4, 2, 0, 0, 0), none, some (.iload_n 3, 1, 0, 0, 0), some (.if_icmp .ge 25, 3, 0, 0, 0), none, none, some (.aload_n 0, 1, 0, 0, 0), some (.getfield 17, 3, 6, 0, 167), none, none, some (.iload 4, 2, 0, 0, 0), none, some (.invokevirtual 78, 3, 80, 0, 868), none, none, some (.iload_n 1, 1, 0, 0, 0), some (.if_icmp .ne 6, 3, 0, 0, 0), none, none], [some (.iinc 2 1, 3, 0, 0, 0), none, none, some (.iinc 4 1, 3, 0, 0, 0), none, none, some (.goto (-25), 3, 0, 0, 0), none, none, some (.iload_n 2, 1, 0, 0, 0), some (.ireturn, 1, 0, 0, 0)]]
def cd_118 : List (List (Option si_E)) := [[some (.aload_n 0, 1, 0, 0, 0), some (.invokespecial 3, 3, 0, 9, 239), none, none, some (.aload_n 0, 1, 0, 0, 0), some (.aload_n 1, 1, 0, 0, 0), some (.putfield 9, 3, 7, 0, 240), none, none, some (.return_, 1, 0, 0, 0)]]
def cd_119 : List (List (Option si_E)) := [[some (.aload_n 0, 1, 0, 0, 0), some (.iload_n 1, 1, 0, 0, 0), some (.putfield 15, 3, 7, 1, 241), none, none, some (.aload_n 0, 1, 0, 0, 0), some (.iconst 0, 1, 0, 0, 0), some (.putfield 19, 3, 7, 2, 242), none, none, some (.aload_n 0, 1, 0, 0, 0), some (.iconst 0, 1, 0, 0, 0), some (.putfield 22, 3, 7, 3, 243), none, none, some (.return_, 1, 0, 0, 0)]]
def cd_120 : List (List (Option si_E)) := [[some (.aload_n 0, 1, 0, 0, 0), some (.getfield 19, 3, 7, 2, 242), none, none, some (.ireturn, 1, 0, 0, 0)]]
def cd_121 : List (List (Option si_E)) := [[some (.aload_n 0, 1, 0, 0, 0), some (.getfield 22, 3, 7, 3, 243), none, none, some (.ifCond .ne 39, 3, 0, 0, 0), none, none, some (.aload_n 0, 1, 0, 0, 0), some (.getfield 19, 3, 7, 2, 242), none, none, some (.aload_n 0, 1, 0, 0, 0), some (.getfield 15, 3, 7, 1, 241), none, none, some (.if_icmp .ge 28, 3, 0, 0, 0), none, none, some (.aload_n 0, 1, 0, 0, 0), some (.getfield 19, 3, 7, 2, 242), none, none, some (.sipush 260, 3, 0, 0, 0), none, none, some (.if_icmp .ge 18, 3, 0, 0, 0), none, none, some (.aload_n 0, 1, 0, 0, 0), some (.getfield 9, 3, 7, 0, 240), none, none], [some (.getfield 25, 3, 9, 0, 227), none, none, some (.aload_n 0, 1, 0, 0, 0), some (.getfield 19, 3, 7, 2, 242), none, none, some (.iaload, 1, 0, 0, 0), some (.goto 4, 3, 0, 0, 0), none, none, some (.iconst (-1), 1, 0, 0, 0), some (.ireturn, 1, 0, 0, 0)]]
def cd_122 : List (List (Option si_E)) := [[some (.aload_n 0, 1, 0, 0, 0), some (.dup, 1, 0, 0, 0), some (.getfield 19, 3, 7, 2, 242), none, none, some (.iconst 1, 1, 0, 0, 0), some (.iadd, 1, 0, 0, 0), some (.putfield 19, 3, 7, 2, 242), none, none, some (.return_, 1, 0, 0, 0)]]
def cd_123 : List (List (Option si_E)) := [[some (.aload_n 0, 1, 0, 0, 0), some (.invokevirtual 31, 3, 121, 0, 600), none, none, some (.iload_n 1, 1, 0, 0, 0), some (.if_icmp .eq 5, 3, 0, 0, 0), none, none, some (.iconst 0, 1, 0, 0, 0), some (.ireturn, 1, 0, 0, 0), some (.aload_n 0, 1, 0, 0, 0), some (.dup, 1, 0, 0, 0), some (.getfield 19, 3, 7, 2, 242), none, none, some (.iconst 1, 1, 0, 0, 0), some (.iadd, 1, 0, 0, 0), some (.putfield 19, 3, 7, 2, 242), none, none, some (.iconst 1, 1, 0, 0, 0), some (.ireturn, 1, 0, 0, 0)]]
def cd_124 : List (List (Option si_E)) := [[some (.aload_n 0, 1, 0, 0, 0), some (.invokevirtual 31, 3, 121, 0, 600), none, none, some (.iload_n 1, 1, 0, 0, 0), some (.if_icmp .ne 16, 3, 0, 0, 0), none, none, some (.aload_n 0, 1, 0, 0, 0), some (.dup, 1, 0, 0, 0), some (.getfield 19, 3, 7, 2, 242), none, none, some (.iconst 1, 1, 0, 0, 0), some (.iadd, 1, 0, 0, 0), some (.putfield 19, 3, 7, 2, 242), none, none, some (.goto 12, 3, 0, 0, 0), none, none, some (.aload_n 0, 1, 0, 0, 0), some (.iconst 1, 1, 0, 0, 0), some (.aload_n 0, 1, 0, 0, 0), some (.getfield 19, 3, 7, 2, 242), none, none, some (.invokevirtual 35, 3, 125, 0, 605), none, none, some (.return_, 1, 0, 0, 0)]]
def cd_125 : List (List (Option si_E)) := [[some (.aload_n 0, 1, 0, 0, 0), some (.getfield 22, 3, 7, 3, 243), none, none, some (.ifCond .ne 14, 3, 0, 0, 0), none, none, some (.aload_n 0, 1, 0, 0, 0), some (.sipush (-1000), 3, 0, 0, 0), none, none, some (.iload_n 1, 1, 0, 0, 0), some (.imul, 1, 0, 0, 0), some (.iload_n 2, 1, 0, 0, 0), some (.isub, 1, 0, 0, 0), some (.putfield 22, 3, 7, 3, 243), none, none, some (.return_, 1, 0, 0, 0)]]
def cd_126 : List (List (Option si_E)) := [[some (.aload_n 0, 1, 0, 0, 0), some (.invokevirtual 31, 3, 121, 0, 600), none, none, some (.istore_n 1, 1, 0, 0, 0), some (.iload_n 1, 1, 0, 0, 0), some (.bipush 97, 2, 0, 0, 0), none, some (.if_icmp .lt 9, 3, 0, 0, 0), none, none, some (.iload_n 1, 1, 0, 0, 0), some (.bipush 104, 2, 0, 0, 0), none, some (.if_icmp .le 14, 3, 0, 0, 0), none, none, some (.aload_n 0, 1, 0, 0, 0), some (.iconst 1, 1, 0, 0, 0), some (.aload_n 0, 1, 0, 0, 0), some (.getfield 19, 3, 7, 2, 242), none, none, some (.invokevirtual 35, 3, 125, 0, 605), none, none, some (.iconst (-1), 1, 0, 0, 0), some (.ireturn, 1, 0, 0, 0), some (.iload_n 1, 1, 0, 0, 0), some (.bipush 97, 2, 0, 0, 0), none, some (.isub, 1, 0, 0, 0)], [some (.ireturn, 1, 0, 0, 0)]]
def cd_127 : List (List (Option si_E)) := [[some (.iconst 0, 1, 0, 0, 0), some (.istore_n 2, 1, 0, 0, 0), some (.iconst 0, 1, 0, 0, 0), some (.istore_n 3, 1, 0, 0, 0), some (.iload_n 3, 1, 0, 0, 0), some (.iload_n 1, 1, 0, 0, 0), some (.if_icmp .gt 98, 3, 0, 0, 0), none, none, some (.aload_n 0, 1, 0, 0, 0), some (.invokevirtual 31, 3, 121, 0, 600), none, none, some (.istore 4, 2, 0, 0, 0), none, some (.iload 4, 2, 0, 0, 0), none, some (.bipush 48, 2, 0, 0, 0), none, some (.if_icmp .lt 14, 3, 0, 0, 0), none, none, some (.iload 4, 2, 0, 0, 0), none, some (.bipush 57, 2, 0, 0, 0), none, some (.if_icmp .gt 7, 3, 0, 0, 0), none, none, some (.iconst 1, 1, 0, 0, 0), some (.goto 4, 3, 0, 0, 0), none], [none, some (.iconst 0, 1, 0, 0, 0), some (.istore 5, 2, 0, 0, 0), none, some (.iload 5, 2, 0, 0, 0), none, some (.ifCond .ne 16, 3, 0, 0, 0), none, none, some (.iload_n 3, 1, 0, 0, 0), some (.ifCond .ne 12, 3, 0, 0, 0), none, none, some (.aload_n 0, 1, 0, 0, 0), some (.iconst 1, 1, 0, 0, 0), some (.aload_n 0, 1, 0, 0, 0), some (.getfield 19, 3, 7, 2, 242), none, none, some (.invokevirtual 35, 3, 125, 0, 605), none, none, some (.iload 5, 2, 0, 0, 0), none, some (.ifCond .ne 5, 3, 0, 0, 0), none, none, some (.iload_n 2, 1, 0, 0, 0), some (.ireturn, 1, 0, 0, 0), some (.iload_n 3, 1, 0, 0, 0), some (.iload_n 1, 1, 0, 0, 0), some (.if_icmp .ne 14, 3, 0, 0, 0)], [none, none, some (.aload_n 0, 1, 0, 0, 0), some (.iconst 2, 1, 0, 0, 0), some (.aload_n 0, 1, 0, 0, 0), some (.getfield 19, 3, 7, 2, 242), none, none, some (.invokevirtual 35, 3, 125, 0, 605), none, none, some (.iconst 0, 1, 0, 0, 0), some (.ireturn, 1, 0, 0, 0), some (.bipush 10, 2, 0, 0, 0), none, some (.iload_n 2, 1, 0, 0, 0), some (.imul, 1, 0, 0, 0), some (.iload 4, 2, 0, 0, 0), none, some (.iadd, 1, 0, 0, 0), some (.bipush 48, 2, 0, 0, 0), none, some (.isub, 1, 0, 0, 0), some (.istore_n 2, 1, 0, 0, 0), some (.aload_n 0, 1, 0, 0, 0), some (.dup, 1, 0, 0, 0), some (.getfield 19, 3, 7, 2, 242), none, none, some (.iconst 1, 1, 0, 0, 0), some (.iadd, 1, 0, 0, 0), some (.putfield 19, 3, 7, 2, 242)], [none, none, some (.iinc 3 1, 3, 0, 0, 0), none, none, some (.goto (-97), 3, 0, 0, 0), none, none, some (.iload_n 2, 1, 0, 0, 0), some (.ireturn, 1, 0, 0, 0)]]
def cd_128 : List (List (Option si_E)) := [[some (.aload_n 0, 1, 0, 0, 0), some (.getfield 19, 3, 7, 2, 242), none, none, some (.istore_n 2, 1, 0, 0, 0), some (.aload_n 0, 1, 0, 0, 0), some (.iconst 4, 1, 0, 0, 0), some (.invokevirtual 39, 3, 127, 0, 663), none, none, some (.istore_n 3, 1, 0, 0, 0), some (.aload_n 1, 1, 0, 0, 0), some (.iload_n 3, 1, 0, 0, 0), some (.invokevirtual 43, 3, 74, 0, 664), none, none, some (.ifCond .ne 9, 3, 0, 0, 0), none, none, some (.aload_n 0, 1, 0, 0, 0), some (.iconst 3, 1, 0, 0, 0), some (.iload_n 2, 1, 0, 0, 0), some (.invokevirtual 35, 3, 125, 0, 605), none, none, some (.iload_n 3, 1, 0, 0, 0), some (.ireturn, 1, 0, 0, 0)]]
def cd_129 : List (List (Option si_E)) := [[some (.aload_n 0, 1, 0, 0, 0), some (.getfield 22, 3, 7, 3, 243), none, none, some (.ifCond .ne 23, 3, 0, 0, 0), none, none, some (.aload_n 0, 1, 0, 0, 0), some (.getfield 19, 3, 7, 2, 242), none, none, some (.aload_n 0, 1, 0, 0, 0), some (.getfield 15, 3, 7, 1, 241), none, none, some (.if_icmp .ge 12, 3, 0, 0, 0), none, none, some (.aload_n 0, 1, 0, 0, 0), some (.iconst 1, 1, 0, 0, 0), some (.aload_n 0, 1, 0, 0, 0), some (.getfield 19, 3, 7, 2, 242), none, none, some (.invokevirtual 35, 3, 125, 0, 605), none, none, some (.aload_n 0, 1, 0, 0, 0), some (.getfield 22, 3, 7, 3, 243), none, none, some (.ifCond .ne 7, 3, 0, 0, 0)], [none, none, some (.iload_n 1, 1, 0, 0, 0), some (.goto 7, 3, 0, 0, 0), none, none, some (.aload_n 0, 1, 0, 0, 0), some (.getfield 22, 3, 7, 3, 243), none, none, some (.ireturn, 1, 0, 0, 0)]]
def cd_130 : List (List (Option si_E)) := [[some (.aload_n 0, 1, 0, 0, 0), some (.invokespecial 3, 3, 0, 9, 258), none, none, some (.aload_n 0, 1, 0, 0, 0), some (.bipush (-2), 2, 0, 0, 0), none, some (.putfield 9, 3, 8, 1, 260), none, none, some (.return_, 1, 0, 0, 0)]]
def cd_131 : List (List (Option si_E)) := [[some (.aload_n 0, 1, 0, 0, 0), some (.iconst 0, 1, 0, 0, 0), some (.putfield 15, 3, 8, 0, 259), none, none, some (.aload_n 0, 1, 0, 0, 0), some (.bipush (-2), 2, 0, 0, 0), none, some (.putfield 9, 3, 8, 1, 260), none, none, some (.return_, 1, 0, 0, 0)]]
def cd_132 : List (List (Option si_E)) := [[some (.aload_n 0, 1, 0, 0, 0), some (.getfield 15, 3, 8, 0, 259), none, none, some (.ifCond .ne 8, 3, 0, 0, 0), none, none, some (.aload_n 0, 1, 0, 0, 0), some (.iload_n 1, 1, 0, 0, 0), some (.putfield 9, 3, 8, 1, 260), none, none, some (.aload_n 0, 1, 0, 0, 0), some (.dup, 1, 0, 0, 0), some (.getfield 15, 3, 8, 0, 259), none, none, some (.iconst 1, 1, 0, 0, 0), some (.iadd, 1, 0, 0, 0), some (.putfield 15, 3, 8, 0, 259), none, none, some (.return_, 1, 0, 0, 0)]]
def cd_133 : List (List (Option si_E)) := [[some (.aload_n 0, 1, 0, 0, 0), some (.getfield 15, 3, 8, 0, 259), none, none, some (.ireturn, 1, 0, 0, 0)]]
def cd_134 : List (List (Option si_E)) := [[some (.aload_n 0, 1, 0, 0, 0), some (.getfield 9, 3, 8, 1, 260), none, none, some (.ireturn, 1, 0, 0, 0)]]
def cd_135 : List (List (Option si_E)) := [[some (.iload_n 1, 1, 0, 0, 0), some (.ifCond .ne 10, 3, 0, 0, 0), none, none, some (.aload_n 0, 1, 0, 0, 0), some (.getfield 15, 3, 8, 0, 259), none, none, some (.goto 7, 3, 0, 0, 0), none, none, some (.aload_n 0, 1, 0, 0, 0), some (.getfield 9, 3, 8, 1, 260), none, none, some (.ireturn, 1, 0, 0, 0)]]
def cd_136 : List (List (Option si_E)) := [[some (.aload_n 0, 1, 0, 0, 0), some (.invokespecial 3, 3, 0, 9, 225), none, none, some (.aload_n 0, 1, 0, 0, 0), some (.sipush 260, 3, 0, 0, 0), none, none, some (.newarray .int, 2, 0, 0, 174), none, some (.putfield 9, 3, 9, 0, 226), none, none, some (.return_, 1, 0, 0, 0)]]
def cd_137 : List (List (Option si_E)) := [[some (.aload_n 0, 1, 0, 0, 0), some (.getfield 15, 3, 9, 1, 228), none, none, some (.ireturn, 1, 0, 0, 0)]]
def cd_138 : List (List (Option si_E)) := [[some (.iload_n 1, 1, 0, 0, 0), some (.aload_n 0, 1, 0, 0, 0), some (.getfield 15, 3, 9, 1, 228), none, none, some (.if_icmp .gt 7, 3, 0, 0, 0), none, none, some (.iconst 1, 1, 0, 0, 0), some (.goto 4, 3, 0, 0, 0), none, none, some (.iconst 0, 1, 0, 0, 0), some (.ireturn, 1, 0, 0, 0)]]
def cd_139 : List (List (Option si_E)) := [[some (.aload_n 0, 1, 0, 0, 0), some (.getfield 15, 3, 9, 1, 228), none, none, some (.iload_n 1, 1, 0, 0, 0), some (.iadd, 1, 0, 0, 0), some (.sipush 260, 3, 0, 0, 0), none, none, some (.if_icmp .gt 7, 3, 0, 0, 0), none, none, some (.iconst 1, 1, 0, 0, 0), some (.goto 4, 3, 0, 0, 0), none, none, some (.iconst 0, 1, 0, 0, 0), some (.ireturn, 1, 0, 0, 0)]]
def cd_140 : List (List (Option si_E)) := [[some (.bipush 24, 2, 0, 0, 0), none, some (.istore_n 2, 1, 0, 0, 0), some (.iload_n 2, 1, 0, 0, 0), some (.ifCond .lt 45, 3, 0, 0, 0), none, none, some (.aload_n 0, 1, 0, 0, 0), some (.getfield 15, 3, 9, 1, 228), none, none, some (.sipush 260, 3, 0, 0, 0), none, none, some (.if_icmp .ge 35, 3, 0, 0, 0), none, none, some (.aload_n 0, 1, 0, 0, 0), some (.getfield 9, 3, 9, 0, 226), none, none, some (.aload_n 0, 1, 0, 0, 0), some (.getfield 15, 3, 9, 1, 228), none, none, some (.iload_n 1, 1, 0, 0, 0), some (.iload_n 2, 1, 0, 0, 0), some (.ishr, 1, 0, 0, 0), some (.sipush 255, 3, 0, 0, 0), none, none, some (.iand, 1, 0, 0, 0)], [some (.iastore, 1, 0, 0, 0), some (.aload_n 0, 1, 0, 0, 0), some (.dup, 1, 0, 0, 0), some (.getfield 15, 3, 9, 1, 228), none, none, some (.iconst 1, 1, 0, 0, 0), some (.iadd, 1, 0, 0, 0), some (.putfield 15, 3, 9, 1, 228), none, none, some (.iinc 2 (-8), 3, 0, 0, 0), none, none, some (.goto (-43), 3, 0, 0, 0), none, none, some (.return_, 1, 0, 0, 0)]]
def cd_141 : List (List (Option si_E)) := [[some (.iload_n 1, 1, 0, 0, 0), some (.ifCond .lt 20, 3, 0, 0, 0), none, none, some (.iload_n 1, 1, 0, 0, 0), some (.aload_n 0, 1, 0, 0, 0), some (.getfield 15, 3, 9, 1, 228), none, none, some (.if_icmp .ge 12, 3, 0, 0, 0), none, none, some (.aload_n 0, 1, 0, 0, 0), some (.getfield 9, 3, 9, 0, 226), none, none, some (.iload_n 1, 1, 0, 0, 0), some (.iaload, 1, 0, 0, 0), some (.goto 4, 3, 0, 0, 0), none, none, some (.iconst (-1), 1, 0, 0, 0), some (.ireturn, 1, 0, 0, 0)]]
def cd_142 : List (List (Option si_E)) := [[some (.aload_n 0, 1, 0, 0, 0), some (.iconst 0, 1, 0, 0, 0), some (.putfield 15, 3, 9, 1, 228), none, none, some (.return_, 1, 0, 0, 0)]]
def cd_143 : List (List (Option si_E)) := [[some (.aload_n 0, 1, 0, 0, 0), some (.invokespecial 1, 3, 0, 9, 140), none, none, some (.aload_n 0, 1, 0, 0, 0), some (.new 7, 3, 4, 0, 143), none, none, some (.dup, 1, 0, 0, 0), some (.invokespecial 9, 3, 71, 1, 145), none, none, some (.putfield 10, 3, 10, 0, 377), none, none, some (.aload_n 0, 1, 0, 0, 0), some (.new 7, 3, 4, 0, 143), none, none, some (.dup, 1, 0, 0, 0), some (.invokespecial 9, 3, 71, 1, 145), none, none, some (.putfield 16, 3, 10, 1, 378), none, none, some (.aload_n 0, 1, 0, 0, 0), some (.new 19, 3, 6, 0, 161), none, none, some (.dup, 1, 0, 0, 0), some (.aload_n 0, 1, 0, 0, 0)], [some (.getfield 10, 3, 10, 0, 377), none, none, some (.invokespecial 21, 3, 105, 0, 163), none, none, some (.putfield 24, 3, 10, 2, 379), none, none, some (.aload_n 0, 1, 0, 0, 0), some (.new 28, 3, 1, 0, 175), none, none, some (.dup, 1, 0, 0, 0), some (.aload_n 0, 1, 0, 0, 0), some (.getfield 10, 3, 10, 0, 377), none, none, some (.invokespecial 30, 3, 14, 0, 177), none, none, some (.putfield 31, 3, 10, 3, 380), none, none, some (.aload_n 0, 1, 0, 0, 0), some (.new 35, 3, 0, 0, 185), none, none, some (.dup, 1, 0, 0, 0), some (.aload_n 0, 1, 0, 0, 0), some (.getfield 10, 3, 10, 0, 377), none], [none, some (.invokespecial 37, 3, 0, 0, 187), none, none, some (.putfield 38, 3, 10, 4, 381), none, none, some (.aload_n 0, 1, 0, 0, 0), some (.new 42, 3, 9, 0, 220), none, none, some (.dup, 1, 0, 0, 0), some (.invokespecial 44, 3, 136, 1, 222), none, none, some (.putfield 45, 3, 10, 5, 382), none, none, some (.aload_n 0, 1, 0, 0, 0), some (.new 49, 3, 7, 0, 234), none, none, some (.dup, 1, 0, 0, 0), some (.aload_n 0, 1, 0, 0, 0), some (.getfield 45, 3, 10, 5, 382), none, none, some (.invokespecial 51, 3, 118, 0, 236), none, none, some (.putfield 54, 3, 10, 6, 383), none], [none, some (.aload_n 0, 1, 0, 0, 0), some (.new 58, 3, 8, 0, 253), none, none, some (.dup, 1, 0, 0, 0), some (.invokespecial 60, 3, 130, 1, 255), none, none, some (.putfield 61, 3, 10, 7, 384), none, none, some (.aload_n 0, 1, 0, 0, 0), some (.new 65, 3, 3, 0, 266), none, none, some (.dup, 1, 0, 0, 0), some (.aload_n 0, 1, 0, 0, 0), some (.getfield 10, 3, 10, 0, 377), none, none, some (.invokespecial 67, 3, 38, 0, 268), none, none, some (.putfield 68, 3, 10, 8, 385), none, none, some (.aload_n 0, 1, 0, 0, 0), some (.new 65, 3, 3, 0, 266), none, none, some (.dup, 1, 0, 0, 0)], [some (.aload_n 0, 1, 0, 0, 0), some (.getfield 10, 3, 10, 0, 377), none, none, some (.invokespecial 67, 3, 38, 0, 268), none, none, some (.putfield 72, 3, 10, 9, 386), none, none, some (.aload_n 0, 1, 0, 0, 0), some (.new 65, 3, 3, 0, 266), none, none, some (.dup, 1, 0, 0, 0), some (.aload_n 0, 1, 0, 0, 0), some (.getfield 10, 3, 10, 0, 377), none, none, some (.invokespecial 67, 3, 38, 0, 268), none, none, some (.putfield 75, 3, 10, 10, 387), none, none, some (.aload_n 0, 1, 0, 0, 0), some (.ldc 80, 2, 3, 1, 301), none, some (.invokevirtual 82, 3, 0, 8, 302), none, none, some (.newarray .int, 2, 0, 0, 174)], [none, some (.putfield 88, 3, 10, 11, 388), none, none, some (.aload_n 0, 1, 0, 0, 0), some (.sipush 1440, 3, 0, 0, 0), none, none, some (.newarray .int, 2, 0, 0, 174), none, some (.putfield 92, 3, 10, 12, 389), none, none, some (.aload_n 0, 1, 0, 0, 0), some (.sipush 1440, 3, 0, 0, 0), none, none, some (.newarray .int, 2, 0, 0, 174), none, some (.putfield 95, 3, 10, 13, 390), none, none, some (.aload_n 0, 1, 0, 0, 0), some (.bipush 61, 2, 0, 0, 0), none, some (.newarray .int, 2, 0, 0, 174), none, some (.putfield 98, 3, 10, 14, 391), none, none, some (.aload_n 0, 1, 0, 0, 0), some (.new 78, 3, 5, 0, 312)], [none, none, some (.dup, 1, 0, 0, 0), some (.invokespecial 101, 3, 91, 1, 314), none, none, some (.putfield 102, 3, 10, 15, 392), none, none, some (.aload_n 0, 1, 0, 0, 0), some (.new 78, 3, 5, 0, 312), none, none, some (.dup, 1, 0, 0, 0), some (.invokespecial 101, 3, 91, 1, 314), none, none, some (.putfield 106, 3, 10, 16, 393), none, none, some (.aload_n 0, 1, 0, 0, 0), some (.new 109, 3, 2, 0, 347), none, none, some (.dup, 1, 0, 0, 0), some (.aload_n 0, 1, 0, 0, 0), some (.getfield 10, 3, 10, 0, 377), none, none, some (.invokespecial 111, 3, 28, 0, 349), none, none], [some (.putfield 112, 3, 10, 17, 394), none, none, some (.aload_n 0, 1, 0, 0, 0), some (.new 109, 3, 2, 0, 347), none, none, some (.dup, 1, 0, 0, 0), some (.aload_n 0, 1, 0, 0, 0), some (.getfield 10, 3, 10, 0, 377), none, none, some (.invokespecial 111, 3, 28, 0, 349), none, none, some (.putfield 116, 3, 10, 18, 395), none, none, some (.aload_n 0, 1, 0, 0, 0), some (.iconst 2, 1, 0, 0, 0), some (.newarray .int, 2, 0, 0, 174), none, some (.putfield 119, 3, 10, 19, 396), none, none, some (.return_, 1, 0, 0, 0)]]
def cd_144 : List (List (Option si_E)) := [[some (.iload_n 1, 1, 0, 0, 0), some (.invokestatic 122, 3, 189, 0, 442), none, none, some (.ifCond .eq 14, 3, 0, 0, 0), none, none, some (.iload_n 2, 1, 0, 0, 0), some (.iconst 2, 1, 0, 0, 0), some (.if_icmp .lt 9, 3, 0, 0, 0), none, none, some (.iload_n 2, 1, 0, 0, 0), some (.bipush 24, 2, 0, 0, 0), none, some (.if_icmp .le 5, 3, 0, 0, 0), none, none, some (.iconst 0, 1, 0, 0, 0), some (.ireturn, 1, 0, 0, 0), some (.aload_n 0, 1, 0, 0, 0), some (.getfield 10, 3, 10, 0, 377), none, none, some (.iload_n 1, 1, 0, 0, 0), some (.iload_n 2, 1, 0, 0, 0), some (.invokevirtual 126, 3, 72, 0, 445), none, none, some (.aload_n 0, 1, 0, 0, 0), some (.getfield 68, 3, 10, 8, 385), none], [none, some (.invokevirtual 130, 3, 39, 0, 449), none, none, some (.aload_n 0, 1, 0, 0, 0), some (.getfield 112, 3, 10, 17, 394), none, none, some (.invokevirtual 133, 3, 29, 0, 453), none, none, some (.iconst 1, 1, 0, 0, 0), some (.ireturn, 1, 0, 0, 0)]]
def cd_145 : List (List (Option si_E)) := [[some (.aload_n 0, 1, 0, 0, 0), some (.getfield 45, 3, 10, 5, 382), none, none, some (.bipush 20, 2, 0, 0, 0), none, some (.invokevirtual 134, 3, 139, 0, 461), none, none, some (.ifCond .ne 5, 3, 0, 0, 0), none, none, some (.iconst (-1), 1, 0, 0, 0), some (.ireturn, 1, 0, 0, 0), some (.aload_n 0, 1, 0, 0, 0), some (.getfield 45, 3, 10, 5, 382), none, none, some (.iload_n 1, 1, 0, 0, 0), some (.invokevirtual 137, 3, 140, 0, 465), none, none, some (.aload_n 0, 1, 0, 0, 0), some (.getfield 45, 3, 10, 5, 382), none, none, some (.iload_n 2, 1, 0, 0, 0), some (.invokevirtual 137, 3, 140, 0, 465), none, none, some (.aload_n 0, 1, 0, 0, 0), some (.getfield 45, 3, 10, 5, 382)], [none, none, some (.iload_n 3, 1, 0, 0, 0), some (.invokevirtual 137, 3, 140, 0, 465), none, none, some (.aload_n 0, 1, 0, 0, 0), some (.getfield 45, 3, 10, 5, 382), none, none, some (.iload 4, 2, 0, 0, 0), none, some (.invokevirtual 137, 3, 140, 0, 465), none, none, some (.aload_n 0, 1, 0, 0, 0), some (.getfield 45, 3, 10, 5, 382), none, none, some (.iload 5, 2, 0, 0, 0), none, some (.invokevirtual 137, 3, 140, 0, 465), none, none, some (.aload_n 0, 1, 0, 0, 0), some (.getfield 45, 3, 10, 5, 382), none, none, some (.invokevirtual 141, 3, 137, 0, 469), none, none, some (.ireturn, 1, 0, 0, 0)]]
def cd_146 : List (List (Option si_E)) := [[some (.aload_n 0, 1, 0, 0, 0), some (.iload_n 1, 1, 0, 0, 0), some (.sipush 240, 3, 0, 0, 0), none, none, some (.invokevirtual 144, 3, 192, 0, 477), none, none, some (.ifCond .ne 5, 3, 0, 0, 0), none, none, some (.iconst (-1), 1, 0, 0, 0), some (.ireturn, 1, 0, 0, 0), some (.aload_n 0, 1, 0, 0, 0), some (.getfield 54, 3, 10, 6, 383), none, none, some (.iload_n 1, 1, 0, 0, 0), some (.invokevirtual 148, 3, 119, 0, 485), none, none, some (.aload_n 0, 1, 0, 0, 0), some (.getfield 106, 3, 10, 16, 393), none, none, some (.aload_n 0, 1, 0, 0, 0), some (.getfield 54, 3, 10, 6, 383), none, none, some (.invokevirtual 151, 3, 93, 0, 489), none, none], [some (.istore_n 2, 1, 0, 0, 0), some (.aload_n 0, 1, 0, 0, 0), some (.getfield 45, 3, 10, 5, 382), none, none, some (.invokevirtual 155, 3, 142, 0, 630), none, none, some (.iload_n 2, 1, 0, 0, 0), some (.ifCond .lt 21, 3, 0, 0, 0), none, none, some (.aload_n 0, 1, 0, 0, 0), some (.getfield 102, 3, 10, 15, 392), none, none, some (.astore_n 3, 1, 0, 0, 0), some (.aload_n 0, 1, 0, 0, 0), some (.aload_n 0, 1, 0, 0, 0), some (.getfield 106, 3, 10, 16, 393), none, none, some (.putfield 102, 3, 10, 15, 392), none, none, some (.aload_n 0, 1, 0, 0, 0), some (.aload_n 3, 1, 0, 0, 0), some (.putfield 106, 3, 10, 16, 393), none, none, some (.iload_n 2, 1, 0, 0, 0), some (.ireturn, 1, 0, 0, 0)]]
def cd_147 : List (List (Option si_E)) := [[some (.aload_n 0, 1, 0, 0, 0), some (.iload_n 1, 1, 0, 0, 0), some (.bipush 120, 2, 0, 0, 0), none, some (.invokevirtual 144, 3, 192, 0, 477), none, none, some (.ifCond .ne 5, 3, 0, 0, 0), none, none, some (.iconst (-1), 1, 0, 0, 0), some (.ireturn, 1, 0, 0, 0), some (.aload_n 0, 1, 0, 0, 0), some (.getfield 54, 3, 10, 6, 383), none, none, some (.iload_n 1, 1, 0, 0, 0), some (.invokevirtual 148, 3, 119, 0, 485), none, none, some (.aload_n 0, 1, 0, 0, 0), some (.getfield 75, 3, 10, 10, 387), none, none, some (.aload_n 0, 1, 0, 0, 0), some (.getfield 54, 3, 10, 6, 383), none, none, some (.invokevirtual 158, 3, 44, 0, 638), none, none, some (.istore_n 2, 1, 0, 0, 0)], [some (.aload_n 0, 1, 0, 0, 0), some (.getfield 45, 3, 10, 5, 382), none, none, some (.invokevirtual 155, 3, 142, 0, 630), none, none, some (.iload_n 2, 1, 0, 0, 0), some (.ifCond .lt 14, 3, 0, 0, 0), none, none, some (.aload_n 0, 1, 0, 0, 0), some (.getfield 68, 3, 10, 8, 385), none, none, some (.aload_n 0, 1, 0, 0, 0), some (.getfield 75, 3, 10, 10, 387), none, none, some (.invokevirtual 159, 3, 41, 0, 671), none, none, some (.iload_n 2, 1, 0, 0, 0), some (.ireturn, 1, 0, 0, 0)]]
def cd_148 : List (List (Option si_E)) := [[some (.aload_n 0, 1, 0, 0, 0), some (.iload_n 1, 1, 0, 0, 0), some (.sipush 160, 3, 0, 0, 0), none, none, some (.invokevirtual 144, 3, 192, 0, 477), none, none, some (.ifCond .ne 5, 3, 0, 0, 0), none, none, some (.iconst (-1), 1, 0, 0, 0), some (.ireturn, 1, 0, 0, 0), some (.aload_n 0, 1, 0, 0, 0), some (.getfield 54, 3, 10, 6, 383), none, none, some (.iload_n 1, 1, 0, 0, 0), some (.invokevirtual 148, 3, 119, 0, 485), none, none, some (.aload_n 0, 1, 0, 0, 0), some (.getfield 116, 3, 10, 18, 395), none, none, some (.aload_n 0, 1, 0, 0, 0), some (.getfield 54, 3, 10, 6, 383), none, none, some (.invokevirtual 163, 3, 31, 0, 683), none, none], [some (.istore_n 2, 1, 0, 0, 0), some (.aload_n 0, 1, 0, 0, 0), some (.getfield 45, 3, 10, 5, 382), none, none, some (.invokevirtual 155, 3, 142, 0, 630), none, none, some (.iload_n 2, 1, 0, 0, 0), some (.ifCond .lt 21, 3, 0, 0, 0), none, none, some (.aload_n 0, 1, 0, 0, 0), some (.getfield 112, 3, 10, 17, 394), none, none, some (.astore_n 3, 1, 0, 0, 0), some (.aload_n 0, 1, 0, 0, 0), some (.aload_n 0, 1, 0, 0, 0), some (.getfield 116, 3, 10, 18, 395), none, none, some (.putfield 112, 3, 10, 17, 394), none, none, some (.aload_n 0, 1, 0, 0, 0), some (.aload_n 3, 1, 0, 0, 0), some (.putfield 116, 3, 10, 18, 395), none, none, some (.iload_n 2, 1, 0, 0, 0), some (.ireturn, 1, 0, 0, 0)]]
def cd_149 : List (List (Option si_E)) := [[some (.aload_n 0, 1, 0, 0, 0), some (.getfield 10, 3, 10, 0, 377), none, none, some (.iload_n 1, 1, 0, 0, 0), some (.invokevirtual 164, 3, 74, 0, 704), none, none, some (.ifCond .ne 5, 3, 0, 0, 0), none, none, some (.iconst (-1), 1, 0, 0, 0), some (.ireturn, 1, 0, 0, 0), some (.iload_n 2, 1, 0, 0, 0), some (.tableswitch 92 0 5 #[38, 47, 56, 65, 74, 83], 38, 0, 0, 0), none, none, none, none, none, none, none, none, none, none, none, none, none, none, none, none, none], [none, none, none, none, none, none, none, none, none, none, none, none, none, none, none, none, none, none, none, none, some (.aload_n 0, 1, 0, 0, 0), some (.getfield 10, 3, 10, 0, 377), none, none, some (.iload_n 1, 1, 0, 0, 0), some (.invokevirtual 167, 3, 76, 0, 705), none, none, some (.ireturn, 1, 0, 0, 0), some (.aload_n 0, 1, 0, 0, 0), some (.getfield 10, 3, 10, 0, 377), none], [none, some (.iload_n 1, 1, 0, 0, 0), some (.invokevirtual 171, 3, 77, 0, 712), none, none, some (.ireturn, 1, 0, 0, 0), some (.aload_n 0, 1, 0, 0, 0), some (.getfield 10, 3, 10, 0, 377), none, none, some (.iload_n 1, 1, 0, 0, 0), some (.invokevirtual 174, 3, 86, 0, 719), none, none, some (.ireturn, 1, 0, 0, 0), some (.aload_n 0, 1, 0, 0, 0), some (.getfield 24, 3, 10, 2, 379), none, none, some (.iload_n 1, 1, 0, 0, 0), some (.invokevirtual 177, 3, 107, 0, 733), none, none, some (.ireturn, 1, 0, 0, 0), some (.aload_n 0, 1, 0, 0, 0), some (.getfield 24, 3, 10, 2, 379), none, none, some (.iload_n 1, 1, 0, 0, 0), some (.invokevirtual 180, 3, 108, 0, 760), none, none], [some (.ireturn, 1, 0, 0, 0), some (.aload_n 0, 1, 0, 0, 0), some (.getfield 10, 3, 10, 0, 377), none, none, some (.iload_n 1, 1, 0, 0, 0), some (.invokevirtual 183, 3, 80, 0, 774), none, none, some (.ireturn, 1, 0, 0, 0), some (.iconst (-1), 1, 0, 0, 0), some (.ireturn, 1, 0, 0, 0)]]
def cd_150 : List (List (Option si_E)) := [[some (.aload_n 0, 1, 0, 0, 0), some (.getfield 10, 3, 10, 0, 377), none, none, some (.iload_n 1, 1, 0, 0, 0), some (.invokevirtual 164, 3, 74, 0, 704), none, none, some (.ifCond .ne 5, 3, 0, 0, 0), none, none, some (.iconst (-1), 1, 0, 0, 0), some (.ireturn, 1, 0, 0, 0), some (.aload_n 0, 1, 0, 0, 0), some (.getfield 10, 3, 10, 0, 377), none, none, some (.aload_n 0, 1, 0, 0, 0), some (.getfield 10, 3, 10, 0, 377), none, none, some (.iload_n 1, 1, 0, 0, 0), some (.invokevirtual 171, 3, 77, 0, 712), none, none, some (.aload_n 0, 1, 0, 0, 0), some (.getfield 10, 3, 10, 0, 377), none, none, some (.iload_n 1, 1, 0, 0, 0), some (.invokevirtual 167, 3, 76, 0, 705), none], [none, some (.invokevirtual 186, 3, 83, 0, 782), none, none, some (.ireturn, 1, 0, 0, 0)]]
def cd_151 : List (List (Option si_E)) := [[some (.iload_n 1, 1, 0, 0, 0), some (.invokestatic 190, 3, 188, 0, 787), none, none, some (.ifCond .ne 5, 3, 0, 0, 0), none, none, some (.iconst (-1), 1, 0, 0, 0), some (.ireturn, 1, 0, 0, 0), some (.aload_n 0, 1, 0, 0, 0), some (.getfield 24, 3, 10, 2, 379), none, none, some (.iload_n 1, 1, 0, 0, 0), some (.iconst 1, 1, 0, 0, 0), some (.if_icmp .ne 7, 3, 0, 0, 0), none, none, some (.iconst 1, 1, 0, 0, 0), some (.goto 4, 3, 0, 0, 0), none, none, some (.iconst 0, 1, 0, 0, 0), some (.invokevirtual 193, 3, 109, 0, 790), none, none, some (.ireturn, 1, 0, 0, 0)]]
def cd_152 : List (List (Option si_E)) := [[some (.iload_n 1, 1, 0, 0, 0), some (.invokestatic 122, 3, 189, 0, 442), none, none, some (.ifCond .eq 10, 3, 0, 0, 0), none, none, some (.iload_n 2, 1, 0, 0, 0), some (.invokestatic 190, 3, 188, 0, 787), none, none, some (.ifCond .ne 5, 3, 0, 0, 0), none, none, some (.iconst (-1), 1, 0, 0, 0), some (.ireturn, 1, 0, 0, 0), some (.aload_n 0, 1, 0, 0, 0), some (.getfield 98, 3, 10, 14, 391), none, none, some (.iload_n 1, 1, 0, 0, 0), some (.iaload, 1, 0, 0, 0), some (.ifCond .ne 14, 3, 0, 0, 0), none, none, some (.aload_n 0, 1, 0, 0, 0), some (.getfield 98, 3, 10, 14, 391), none, none, some (.iload_n 1, 1, 0, 0, 0), some (.aload_n 0, 1, 0, 0, 0), some (.iload_n 1, 1, 0, 0, 0)], [some (.invokevirtual 197, 3, 193, 0, 807), none, none, some (.iastore, 1, 0, 0, 0), some (.iload_n 2, 1, 0, 0, 0), some (.ifCond .ne 10, 3, 0, 0, 0), none, none, some (.aload_n 0, 1, 0, 0, 0), some (.getfield 98, 3, 10, 14, 391), none, none, some (.iload_n 1, 1, 0, 0, 0), some (.iaload, 1, 0, 0, 0), some (.ireturn, 1, 0, 0, 0), some (.aload_n 0, 1, 0, 0, 0), some (.getfield 16, 3, 10, 1, 378), none, none, some (.iload_n 1, 1, 0, 0, 0), some (.aload_n 0, 1, 0, 0, 0), some (.getfield 98, 3, 10, 14, 391), none, none, some (.iload_n 1, 1, 0, 0, 0), some (.iaload, 1, 0, 0, 0), some (.invokevirtual 126, 3, 72, 0, 445), none, none, some (.aload_n 0, 1, 0, 0, 0), some (.getfield 16, 3, 10, 1, 378), none], [none, some (.invokevirtual 200, 3, 88, 0, 811), none, none, some (.ireturn, 1, 0, 0, 0)]]
def cd_153 : List (List (Option si_E)) := [[some (.iload_n 1, 1, 0, 0, 0), some (.tableswitch 65 0 3 #[31, 39, 47, 56], 31, 0, 0, 0), none, none, none, none, none, none, none, none, none, none, none, none, none, none, none, none, none, none, none, none, none, none, none, none, none, none, none, none, none, none], [some (.aload_n 0, 1, 0, 0, 0), some (.getfield 10, 3, 10, 0, 377), none, none, some (.invokevirtual 200, 3, 88, 0, 811), none, none, some (.ireturn, 1, 0, 0, 0), some (.aload_n 0, 1, 0, 0, 0), some (.getfield 24, 3, 10, 2, 379), none, none, some (.invokevirtual 203, 3, 111, 0, 825), none, none, some (.ireturn, 1, 0, 0, 0), some (.aload_n 0, 1, 0, 0, 0), some (.getfield 24, 3, 10, 2, 379), none, none, some (.iconst 0, 1, 0, 0, 0), some (.invokevirtual 206, 3, 112, 0, 830), none, none, some (.ireturn, 1, 0, 0, 0), some (.aload_n 0, 1, 0, 0, 0), some (.getfield 24, 3, 10, 2, 379), none, none, some (.iconst 1, 1, 0, 0, 0), some (.invokevirtual 206, 3, 112, 0, 830), none], [none, some (.ireturn, 1, 0, 0, 0), some (.iconst (-1), 1, 0, 0, 0), some (.ireturn, 1, 0, 0, 0)]]
def cd_154 : List (List (Option si_E)) := [[some (.aload_n 0, 1, 0, 0, 0), some (.getfield 10, 3, 10, 0, 377), none, none, some (.iload_n 1, 1, 0, 0, 0), some (.invokevirtual 164, 3, 74, 0, 704), none, none, some (.ifCond .eq 14, 3, 0, 0, 0), none, none, some (.aload_n 0, 1, 0, 0, 0), some (.getfield 24, 3, 10, 2, 379), none, none, some (.iload_n 1, 1, 0, 0, 0), some (.invokevirtual 209, 3, 113, 0, 839), none, none, some (.goto 4, 3, 0, 0, 0), none, none, some (.iconst (-1), 1, 0, 0, 0), some (.ireturn, 1, 0, 0, 0)]]
def cd_155 : List (List (Option si_E)) := [[some (.aload_n 0, 1, 0, 0, 0), some (.getfield 10, 3, 10, 0, 377), none, none, some (.iload_n 1, 1, 0, 0, 0), some (.invokevirtual 164, 3, 74, 0, 704), none, none, some (.ifCond .eq 14, 3, 0, 0, 0), none, none, some (.aload_n 0, 1, 0, 0, 0), some (.getfield 24, 3, 10, 2, 379), none, none, some (.iload_n 1, 1, 0, 0, 0), some (.invokevirtual 212, 3, 114, 0, 847), none, none, some (.goto 4, 3, 0, 0, 0), none, none, some (.iconst (-1), 1, 0, 0, 0), some (.ireturn, 1, 0, 0, 0)]]
def cd_156 : List (List (Option si_E)) := [[some (.iload_n 1, 1, 0, 0, 0), some (.iconst (-1), 1, 0, 0, 0), some (.if_icmp .ne 12, 3, 0, 0, 0), none, none, some (.aload_n 0, 1, 0, 0, 0), some (.getfield 24, 3, 10, 2, 379), none, none, some (.iconst 0, 1, 0, 0, 0), some (.invokevirtual 215, 3, 117, 0, 864), none, none, some (.ireturn, 1, 0, 0, 0), some (.aload_n 0, 1, 0, 0, 0), some (.getfield 10, 3, 10, 0, 377), none, none, some (.iload_n 1, 1, 0, 0, 0), some (.invokevirtual 164, 3, 74, 0, 704), none, none, some (.ifCond .eq 14, 3, 0, 0, 0), none, none, some (.aload_n 0, 1, 0, 0, 0), some (.getfield 24, 3, 10, 2, 379), none, none, some (.iload_n 1, 1, 0, 0, 0), some (.invokevirtual 218, 3, 116, 0, 869), none], [none, some (.goto 4, 3, 0, 0, 0), none, none, some (.iconst (-1), 1, 0, 0, 0), some (.ireturn, 1, 0, 0, 0)]]
def cd_157 : List (List (Option si_E)) := [[some (.iload_n 1, 1, 0, 0, 0), some (.ifCond .lt 9, 3, 0, 0, 0), none, none, some (.iload_n 1, 1, 0, 0, 0), some (.bipush 30, 2, 0, 0, 0), none, some (.if_icmp .le 5, 3, 0, 0, 0), none, none, some (.iconst (-1), 1, 0, 0, 0), some (.ireturn, 1, 0, 0, 0), some (.aload_n 0, 1, 0, 0, 0), some (.getfield 24, 3, 10, 2, 379), none, none, some (.iload_n 1, 1, 0, 0, 0), some (.invokevirtual 215, 3, 117, 0, 864), none, none, some (.ireturn, 1, 0, 0, 0)]]
def cd_158 : List (List (Option si_E)) := [[some (.iload 4, 2, 0, 0, 0), none, some (.bipush 100, 2, 0, 0, 0), none, some (.if_icmp .eq 14, 3, 0, 0, 0), none, none, some (.iload 4, 2, 0, 0, 0), none, some (.ifCond .lt 13, 3, 0, 0, 0), none, none, some (.iload 4, 2, 0, 0, 0), none, some (.iload_n 1, 1, 0, 0, 0), some (.if_icmp .ge 7, 3, 0, 0, 0), none, none, some (.iconst 1, 1, 0, 0, 0), some (.goto 4, 3, 0, 0, 0), none, none, some (.iconst 0, 1, 0, 0, 0), some (.istore 5, 2, 0, 0, 0), none, some (.iload_n 1, 1, 0, 0, 0), some (.iconst 1, 1, 0, 0, 0), some (.if_icmp .lt 35, 3, 0, 0, 0), none, none, some (.iload_n 1, 1, 0, 0, 0), some (.bipush 8, 2, 0, 0, 0)], [none, some (.if_icmp .gt 29, 3, 0, 0, 0), none, none, some (.iload 5, 2, 0, 0, 0), none, some (.ifCond .eq 24, 3, 0, 0, 0), none, none, some (.iload_n 2, 1, 0, 0, 0), some (.iload_n 3, 1, 0, 0, 0), some (.invokestatic 221, 3, 191, 0, 881), none, none, some (.ifCond .eq 16, 3, 0, 0, 0), none, none, some (.aload_n 0, 1, 0, 0, 0), some (.getfield 45, 3, 10, 5, 382), none, none, some (.iconst 2, 1, 0, 0, 0), some (.iload_n 1, 1, 0, 0, 0), some (.imul, 1, 0, 0, 0), some (.invokevirtual 224, 3, 138, 0, 481), none, none, some (.ifCond .ne 5, 3, 0, 0, 0), none, none, some (.iconst (-1), 1, 0, 0, 0), some (.ireturn, 1, 0, 0, 0)], [some (.aload_n 0, 1, 0, 0, 0), some (.getfield 38, 3, 10, 4, 381), none, none, some (.aload_n 0, 1, 0, 0, 0), some (.getfield 45, 3, 10, 5, 382), none, none, some (.iload_n 1, 1, 0, 0, 0), some (.iload_n 2, 1, 0, 0, 0), some (.iload_n 3, 1, 0, 0, 0), some (.invokevirtual 227, 3, 1, 0, 884), none, none, some (.istore 6, 2, 0, 0, 0), none, some (.aload_n 0, 1, 0, 0, 0), some (.getfield 45, 3, 10, 5, 382), none, none, some (.invokevirtual 155, 3, 142, 0, 630), none, none, some (.iload 6, 2, 0, 0, 0), none, some (.ifCond .ne 6, 3, 0, 0, 0), none, none, some (.bipush (-3), 2, 0, 0, 0), none, some (.ireturn, 1, 0, 0, 0), some (.iload 4, 2, 0, 0, 0)], [none, some (.bipush 100, 2, 0, 0, 0), none, some (.if_icmp .ne 13, 3, 0, 0, 0), none, none, some (.aload_n 0, 1, 0, 0, 0), some (.getfield 38, 3, 10, 4, 381), none, none, some (.invokevirtual 231, 3, 5, 0, 894), none, none, some (.goto 12, 3, 0, 0, 0), none, none, some (.aload_n 0, 1, 0, 0, 0), some (.getfield 38, 3, 10, 4, 381), none, none, some (.iload 4, 2, 0, 0, 0), none, some (.invokevirtual 234, 3, 6, 0, 911), none, none, some (.ireturn, 1, 0, 0, 0)]]
def cd_159 : List (List (Option si_E)) := [[some (.iload 4, 2, 0, 0, 0), none, some (.invokestatic 190, 3, 188, 0, 787), none, none, some (.ifCond .eq 15, 3, 0, 0, 0), none, none, some (.iload_n 2, 1, 0, 0, 0), some (.iload_n 3, 1, 0, 0, 0), some (.invokestatic 221, 3, 191, 0, 881), none, none, some (.ifCond .eq 7, 3, 0, 0, 0), none, none, some (.iconst 1, 1, 0, 0, 0), some (.goto 4, 3, 0, 0, 0), none, none, some (.iconst 0, 1, 0, 0, 0), some (.istore 5, 2, 0, 0, 0), none, some (.iload_n 1, 1, 0, 0, 0), some (.iconst 1, 1, 0, 0, 0), some (.if_icmp .lt 27, 3, 0, 0, 0), none, none, some (.iload_n 1, 1, 0, 0, 0), some (.bipush 6, 2, 0, 0, 0), none, some (.if_icmp .gt 21, 3, 0, 0, 0)], [none, none, some (.iload 5, 2, 0, 0, 0), none, some (.ifCond .eq 16, 3, 0, 0, 0), none, none, some (.aload_n 0, 1, 0, 0, 0), some (.getfield 45, 3, 10, 5, 382), none, none, some (.iconst 2, 1, 0, 0, 0), some (.iload_n 1, 1, 0, 0, 0), some (.imul, 1, 0, 0, 0), some (.invokevirtual 224, 3, 138, 0, 481), none, none, some (.ifCond .ne 5, 3, 0, 0, 0), none, none, some (.iconst (-1), 1, 0, 0, 0), some (.ireturn, 1, 0, 0, 0), some (.aload_n 0, 1, 0, 0, 0), some (.getfield 38, 3, 10, 4, 381), none, none, some (.aload_n 0, 1, 0, 0, 0), some (.getfield 45, 3, 10, 5, 382), none, none, some (.iload_n 1, 1, 0, 0, 0), some (.iload_n 2, 1, 0, 0, 0)], [some (.iload_n 3, 1, 0, 0, 0), some (.invokevirtual 227, 3, 1, 0, 884), none, none, some (.istore 6, 2, 0, 0, 0), none, some (.aload_n 0, 1, 0, 0, 0), some (.getfield 45, 3, 10, 5, 382), none, none, some (.invokevirtual 155, 3, 142, 0, 630), none, none, some (.iload 6, 2, 0, 0, 0), none, some (.ifCond .ne 6, 3, 0, 0, 0), none, none, some (.bipush (-3), 2, 0, 0, 0), none, some (.ireturn, 1, 0, 0, 0), some (.aload_n 0, 1, 0, 0, 0), some (.getfield 38, 3, 10, 4, 381), none, none, some (.invokevirtual 237, 3, 8, 0, 923), none, none, some (.iload 4, 2, 0, 0, 0), none, some (.ifCond .ne 13, 3, 0, 0, 0), none], [none, some (.aload_n 0, 1, 0, 0, 0), some (.getfield 38, 3, 10, 4, 381), none, none, some (.invokevirtual 240, 3, 12, 0, 938), none, none, some (.goto 10, 3, 0, 0, 0), none, none, some (.aload_n 0, 1, 0, 0, 0), some (.getfield 38, 3, 10, 4, 381), none, none, some (.invokevirtual 243, 3, 13, 0, 946), none, none, some (.ireturn, 1, 0, 0, 0)]]
def cd_160 : List (List (Option si_E)) := [[some (.aload_n 0, 1, 0, 0, 0), some (.getfield 31, 3, 10, 3, 380), none, none, some (.iload_n 1, 1, 0, 0, 0), some (.invokevirtual 246, 3, 20, 0, 954), none, none, some (.ireturn, 1, 0, 0, 0)]]
def cd_161 : List (List (Option si_E)) := [[some (.aload_n 0, 1, 0, 0, 0), some (.getfield 10, 3, 10, 0, 377), none, none, some (.iload_n 1, 1, 0, 0, 0), some (.invokevirtual 164, 3, 74, 0, 704), none, none, some (.ifCond .eq 15, 3, 0, 0, 0), none, none, some (.iload_n 2, 1, 0, 0, 0), some (.iconst 1, 1, 0, 0, 0), some (.if_icmp .lt 10, 3, 0, 0, 0), none, none, some (.iload_n 2, 1, 0, 0, 0), some (.sipush 9999, 3, 0, 0, 0), none, none, some (.if_icmp .le 5, 3, 0, 0, 0), none, none, some (.iconst (-1), 1, 0, 0, 0), some (.ireturn, 1, 0, 0, 0), some (.aload_n 0, 1, 0, 0, 0), some (.getfield 31, 3, 10, 3, 380), none, none, some (.iload_n 1, 1, 0, 0, 0), some (.iload_n 2, 1, 0, 0, 0), some (.iload_n 3, 1, 0, 0, 0)], [some (.invokevirtual 249, 3, 21, 0, 973), none, none, some (.ireturn, 1, 0, 0, 0)]]
def cd_162 : List (List (Option si_E)) := [[some (.aload_n 0, 1, 0, 0, 0), some (.getfield 10, 3, 10, 0, 377), none, none, some (.iload_n 1, 1, 0, 0, 0), some (.invokevirtual 164, 3, 74, 0, 704), none, none, some (.ifCond .eq 19, 3, 0, 0, 0), none, none, some (.aload_n 0, 1, 0, 0, 0), some (.getfield 10, 3, 10, 0, 377), none, none, some (.iload_n 2, 1, 0, 0, 0), some (.invokevirtual 164, 3, 74, 0, 704), none, none, some (.ifCond .eq 8, 3, 0, 0, 0), none, none, some (.iload_n 2, 1, 0, 0, 0), some (.iload_n 1, 1, 0, 0, 0), some (.if_icmp .ge 5, 3, 0, 0, 0), none, none, some (.iconst (-1), 1, 0, 0, 0), some (.ireturn, 1, 0, 0, 0), some (.aload_n 0, 1, 0, 0, 0), some (.getfield 31, 3, 10, 3, 380), none], [none, some (.iload_n 1, 1, 0, 0, 0), some (.iload_n 2, 1, 0, 0, 0), some (.iload_n 3, 1, 0, 0, 0), some (.invokevirtual 253, 3, 19, 0, 991), none, none, some (.ireturn, 1, 0, 0, 0)]]
def cd_163 : List (List (Option si_E)) := [[some (.iload_n 1, 1, 0, 0, 0), some (.iconst 1, 1, 0, 0, 0), some (.if_icmp .lt 27, 3, 0, 0, 0), none, none, some (.iload_n 1, 1, 0, 0, 0), some (.bipush 12, 2, 0, 0, 0), none, some (.if_icmp .gt 21, 3, 0, 0, 0), none, none, some (.iload_n 3, 1, 0, 0, 0), some (.invokestatic 190, 3, 188, 0, 787), none, none, some (.ifCond .eq 14, 3, 0, 0, 0), none, none, some (.aload_n 0, 1, 0, 0, 0), some (.getfield 45, 3, 10, 5, 382), none, none, some (.iload_n 1, 1, 0, 0, 0), some (.invokevirtual 224, 3, 138, 0, 481), none, none, some (.ifCond .ne 5, 3, 0, 0, 0), none, none, some (.iconst (-1), 1, 0, 0, 0), some (.ireturn, 1, 0, 0, 0), some (.aload_n 0, 1, 0, 0, 0)], [some (.getfield 31, 3, 10, 3, 380), none, none, some (.aload_n 0, 1, 0, 0, 0), some (.getfield 45, 3, 10, 5, 382), none, none, some (.iload_n 1, 1, 0, 0, 0), some (.iload_n 2, 1, 0, 0, 0), some (.aload_n 0, 1, 0, 0, 0), some (.getfield 61, 3, 10, 7, 384), none, none, some (.invokevirtual 256, 3, 22, 0, 996), none, none, some (.aload_n 0, 1, 0, 0, 0), some (.getfield 45, 3, 10, 5, 382), none, none, some (.invokevirtual 155, 3, 142, 0, 630), none, none, some (.iload_n 3, 1, 0, 0, 0), some (.ifCond .ne 11, 3, 0, 0, 0), none, none, some (.aload_n 0, 1, 0, 0, 0), some (.getfield 61, 3, 10, 7, 384), none, none, some (.invokevirtual 260, 3, 133, 0, 1013)], [none, none, some (.ireturn, 1, 0, 0, 0), some (.aload_n 0, 1, 0, 0, 0), some (.getfield 61, 3, 10, 7, 384), none, none, some (.invokevirtual 260, 3, 133, 0, 1013), none, none, some (.ifCond .ne 6, 3, 0, 0, 0), none, none, some (.bipush (-4), 2, 0, 0, 0), none, some (.ireturn, 1, 0, 0, 0), some (.aload_n 0, 1, 0, 0, 0), some (.getfield 61, 3, 10, 7, 384), none, none, some (.invokevirtual 260, 3, 133, 0, 1013), none, none, some (.iconst 1, 1, 0, 0, 0), some (.if_icmp .le 8, 3, 0, 0, 0), none, none, some (.bipush (-2), 2, 0, 0, 0), none, some (.goto 22, 3, 0, 0, 0), none, none], [some (.aload_n 0, 1, 0, 0, 0), some (.getfield 31, 3, 10, 3, 380), none, none, some (.aload_n 0, 1, 0, 0, 0), some (.getfield 61, 3, 10, 7, 384), none, none, some (.invokevirtual 263, 3, 134, 0, 1017), none, none, some (.iload_n 1, 1, 0, 0, 0), some (.iadd, 1, 0, 0, 0), some (.iconst 1, 1, 0, 0, 0), some (.isub, 1, 0, 0, 0), some (.iload_n 2, 1, 0, 0, 0), some (.invokevirtual 266, 3, 16, 0, 1021), none, none, some (.ireturn, 1, 0, 0, 0)]]
def cd_164 : List (List (Option si_E)) := [[some (.aload_n 0, 1, 0, 0, 0), some (.getfield 31, 3, 10, 3, 380), none, none, some (.iload_n 1, 1, 0, 0, 0), some (.invokevirtual 270, 3, 23, 0, 1026), none, none, some (.ireturn, 1, 0, 0, 0)]]
def cd_165 : List (List (Option si_E)) := [[some (.aload_n 0, 1, 0, 0, 0), some (.getfield 10, 3, 10, 0, 377), none, none, some (.iload_n 1, 1, 0, 0, 0), some (.invokevirtual 164, 3, 74, 0, 704), none, none, some (.ifCond .eq 10, 3, 0, 0, 0), none, none, some (.iload_n 3, 1, 0, 0, 0), some (.invokestatic 190, 3, 188, 0, 787), none, none, some (.ifCond .ne 5, 3, 0, 0, 0), none, none, some (.iconst (-1), 1, 0, 0, 0), some (.ireturn, 1, 0, 0, 0), some (.iload_n 3, 1, 0, 0, 0), some (.ifCond .ne 15, 3, 0, 0, 0), none, none, some (.aload_n 0, 1, 0, 0, 0), some (.getfield 31, 3, 10, 3, 380), none, none, some (.iload_n 1, 1, 0, 0, 0), some (.iload_n 2, 1, 0, 0, 0), some (.invokevirtual 273, 3, 26, 0, 1042), none], [none, some (.goto 12, 3, 0, 0, 0), none, none, some (.aload_n 0, 1, 0, 0, 0), some (.getfield 31, 3, 10, 3, 380), none, none, some (.iload_n 1, 1, 0, 0, 0), some (.iload_n 2, 1, 0, 0, 0), some (.invokevirtual 276, 3, 27, 0, 1046), none, none, some (.ireturn, 1, 0, 0, 0)]]
def cd_166 : List (List (Option si_E)) := [[some (.iload_n 1, 1, 0, 0, 0), some (.bipush 6, 2, 0, 0, 0), none, some (.if_icmp .lt 21, 3, 0, 0, 0), none, none, some (.iload_n 2, 1, 0, 0, 0), some (.bipush 40, 2, 0, 0, 0), none, some (.if_icmp .gt 15, 3, 0, 0, 0), none, none, some (.iload_n 2, 1, 0, 0, 0), some (.iload_n 1, 1, 0, 0, 0), some (.if_icmp .lt 10, 3, 0, 0, 0), none, none, some (.iload_n 3, 1, 0, 0, 0), some (.invokestatic 190, 3, 188, 0, 787), none, none, some (.ifCond .ne 5, 3, 0, 0, 0), none, none, some (.iconst (-1), 1, 0, 0, 0), some (.ireturn, 1, 0, 0, 0), some (.aload_n 0, 1, 0, 0, 0), some (.iload_n 1, 1, 0, 0, 0), some (.iload_n 2, 1, 0, 0, 0), some (.iload_n 3, 1, 0, 0, 0), some (.invokevirtual 279, 3, 194, 0, 1054), none], [none, some (.ireturn, 1, 0, 0, 0)]]
def cd_167 : List (List (Option si_E)) := [[some (.aload_n 0, 1, 0, 0, 0), some (.getfield 68, 3, 10, 8, 385), none, none, some (.iload_n 1, 1, 0, 0, 0), some (.invokevirtual 283, 3, 46, 0, 1064), none, none, some (.ifCond .eq 14, 3, 0, 0, 0), none, none, some (.aload_n 0, 1, 0, 0, 0), some (.getfield 10, 3, 10, 0, 377), none, none, some (.iload_n 2, 1, 0, 0, 0), some (.invokevirtual 164, 3, 74, 0, 704), none, none, some (.ifCond .ne 5, 3, 0, 0, 0), none, none, some (.iconst (-1), 1, 0, 0, 0), some (.ireturn, 1, 0, 0, 0), some (.aload_n 0, 1, 0, 0, 0), some (.getfield 68, 3, 10, 8, 385), none, none, some (.iload_n 1, 1, 0, 0, 0), some (.iload_n 2, 1, 0, 0, 0), some (.invokevirtual 286, 3, 55, 0, 1065), none], [none, some (.ireturn, 1, 0, 0, 0)]]
def cd_168 : List (List (Option si_E)) := [[some (.aload_n 0, 1, 0, 0, 0), some (.getfield 68, 3, 10, 8, 385), none, none, some (.iload_n 1, 1, 0, 0, 0), some (.invokevirtual 283, 3, 46, 0, 1064), none, none, some (.ifCond .ne 7, 3, 0, 0, 0), none, none, some (.sipush (-1000), 3, 0, 0, 0), none, none, some (.ireturn, 1, 0, 0, 0), some (.iload_n 2, 1, 0, 0, 0), some (.tableswitch 89 0 4 #[36, 46, 56, 66, 66], 36, 0, 0, 0), none, none, none, none, none, none, none, none, none, none, none, none, none, none, none], [none, none, none, none, none, none, none, none, none, none, none, none, none, none, none, none, none, none, none, none, some (.aload_n 0, 1, 0, 0, 0), some (.getfield 68, 3, 10, 8, 385), none, none, some (.getfield 289, 3, 3, 2, 276), none, none, some (.iload_n 1, 1, 0, 0, 0), some (.iaload, 1, 0, 0, 0), some (.ireturn, 1, 0, 0, 0), some (.aload_n 0, 1, 0, 0, 0), some (.getfield 68, 3, 10, 8, 385)], [none, none, some (.getfield 292, 3, 3, 3, 278), none, none, some (.iload_n 1, 1, 0, 0, 0), some (.iaload, 1, 0, 0, 0), some (.ireturn, 1, 0, 0, 0), some (.aload_n 0, 1, 0, 0, 0), some (.getfield 68, 3, 10, 8, 385), none, none, some (.getfield 295, 3, 3, 4, 280), none, none, some (.iload_n 1, 1, 0, 0, 0), some (.iaload, 1, 0, 0, 0), some (.ireturn, 1, 0, 0, 0), some (.aload_n 0, 1, 0, 0, 0), some (.getfield 68, 3, 10, 8, 385), none, none, some (.iload_n 1, 1, 0, 0, 0), some (.aload_n 0, 1, 0, 0, 0), some (.getfield 61, 3, 10, 7, 384), none, none, some (.invokevirtual 298, 3, 58, 0, 1077), none, none, some (.aload_n 0, 1, 0, 0, 0), some (.getfield 61, 3, 10, 7, 384)], [none, none, some (.iload_n 2, 1, 0, 0, 0), some (.iconst 3, 1, 0, 0, 0), some (.isub, 1, 0, 0, 0), some (.invokevirtual 302, 3, 135, 0, 1085), none, none, some (.ireturn, 1, 0, 0, 0), some (.sipush (-1000), 3, 0, 0, 0), none, none, some (.ireturn, 1, 0, 0, 0)]]
def cd_169 : List (List (Option si_E)) := [[some (.aload_n 0, 1, 0, 0, 0), some (.getfield 68, 3, 10, 8, 385), none, none, some (.iload_n 1, 1, 0, 0, 0), some (.iload_n 2, 1, 0, 0, 0), some (.invokevirtual 305, 3, 47, 0, 1093), none, none, some (.ifCond .eq 11, 3, 0, 0, 0), none, none, some (.iload 4, 2, 0, 0, 0), none, some (.invokestatic 190, 3, 188, 0, 787), none, none, some (.ifCond .ne 5, 3, 0, 0, 0), none, none, some (.iconst (-1), 1, 0, 0, 0), some (.ireturn, 1, 0, 0, 0), some (.aload_n 0, 1, 0, 0, 0), some (.getfield 68, 3, 10, 8, 385), none, none, some (.iload_n 1, 1, 0, 0, 0), some (.iload_n 2, 1, 0, 0, 0), some (.iload_n 3, 1, 0, 0, 0), some (.aload_n 0, 1, 0, 0, 0), some (.getfield 61, 3, 10, 7, 384), none], [none, some (.invokevirtual 308, 3, 59, 0, 1097), none, none, some (.aload_n 0, 1, 0, 0, 0), some (.getfield 61, 3, 10, 7, 384), none, none, some (.iload 4, 2, 0, 0, 0), none, some (.invokevirtual 302, 3, 135, 0, 1085), none, none, some (.ireturn, 1, 0, 0, 0)]]
def cd_170 : List (List (Option si_E)) := [[some (.aload_n 0, 1, 0, 0, 0), some (.getfield 68, 3, 10, 8, 385), none, none, some (.iload_n 1, 1, 0, 0, 0), some (.iload_n 2, 1, 0, 0, 0), some (.invokevirtual 305, 3, 47, 0, 1093), none, none, some (.ifCond .eq 15, 3, 0, 0, 0), none, none, some (.aload_n 0, 1, 0, 0, 0), some (.getfield 68, 3, 10, 8, 385), none, none, some (.iload_n 1, 1, 0, 0, 0), some (.iload_n 2, 1, 0, 0, 0), some (.invokevirtual 312, 3, 60, 0, 1110), none, none, some (.goto 4, 3, 0, 0, 0), none, none, some (.iconst (-1), 1, 0, 0, 0), some (.ireturn, 1, 0, 0, 0)]]
def cd_171 : List (List (Option si_E)) := [[some (.iload_n 1, 1, 0, 0, 0), some (.invokestatic 190, 3, 188, 0, 787), none, none, some (.ifCond .ne 5, 3, 0, 0, 0), none, none, some (.iconst (-1), 1, 0, 0, 0), some (.ireturn, 1, 0, 0, 0), some (.aload_n 0, 1, 0, 0, 0), some (.getfield 68, 3, 10, 8, 385), none, none, some (.aload_n 0, 1, 0, 0, 0), some (.getfield 61, 3, 10, 7, 384), none, none, some (.invokevirtual 315, 3, 61, 0, 1119), none, none, some (.aload_n 0, 1, 0, 0, 0), some (.getfield 61, 3, 10, 7, 384), none, none, some (.iload_n 1, 1, 0, 0, 0), some (.invokevirtual 302, 3, 135, 0, 1085), none, none, some (.ireturn, 1, 0, 0, 0)]]
def cd_172 : List (List (Option si_E)) := [[some (.aload_n 0, 1, 0, 0, 0), some (.getfield 10, 3, 10, 0, 377), none, none, some (.iload_n 1, 1, 0, 0, 0), some (.invokevirtual 164, 3, 74, 0, 704), none, none, some (.ifCond .eq 10, 3, 0, 0, 0), none, none, some (.iload_n 2, 1, 0, 0, 0), some (.invokestatic 190, 3, 188, 0, 787), none, none, some (.ifCond .ne 5, 3, 0, 0, 0), none, none, some (.iconst (-1), 1, 0, 0, 0), some (.ireturn, 1, 0, 0, 0), some (.aload_n 0, 1, 0, 0, 0), some (.getfield 68, 3, 10, 8, 385), none, none, some (.iload_n 1, 1, 0, 0, 0), some (.invokevirtual 319, 3, 63, 0, 1131), none, none, some (.istore_n 3, 1, 0, 0, 0), some (.iload_n 3, 1, 0, 0, 0), some (.ifCond .ge 6, 3, 0, 0, 0), none], [none, some (.bipush (-2), 2, 0, 0, 0), none, some (.ireturn, 1, 0, 0, 0), some (.iload_n 2, 1, 0, 0, 0), some (.ifCond .ne 7, 3, 0, 0, 0), none, none, some (.iload_n 3, 1, 0, 0, 0), some (.goto 12, 3, 0, 0, 0), none, none, some (.aload_n 0, 1, 0, 0, 0), some (.getfield 68, 3, 10, 8, 385), none, none, some (.iload_n 3, 1, 0, 0, 0), some (.iload_n 1, 1, 0, 0, 0), some (.invokevirtual 322, 3, 56, 0, 1143), none, none, some (.ireturn, 1, 0, 0, 0)]]
def cd_173 : List (List (Option si_E)) := [[some (.aload_n 0, 1, 0, 0, 0), some (.getfield 10, 3, 10, 0, 377), none, none, some (.iload_n 1, 1, 0, 0, 0), some (.invokevirtual 164, 3, 74, 0, 704), none, none, some (.ifCond .eq 10, 3, 0, 0, 0), none, none, some (.iload_n 2, 1, 0, 0, 0), some (.invokestatic 190, 3, 188, 0, 787), none, none, some (.ifCond .ne 5, 3, 0, 0, 0), none, none, some (.iconst (-1), 1, 0, 0, 0), some (.ireturn, 1, 0, 0, 0), some (.aload_n 0, 1, 0, 0, 0), some (.getfield 68, 3, 10, 8, 385), none, none, some (.iload_n 1, 1, 0, 0, 0), some (.invokevirtual 325, 3, 65, 0, 1148), none, none, some (.istore_n 3, 1, 0, 0, 0), some (.iload_n 3, 1, 0, 0, 0), some (.ifCond .ge 14, 3, 0, 0, 0), none], [none, some (.iload_n 2, 1, 0, 0, 0), some (.ifCond .ne 8, 3, 0, 0, 0), none, none, some (.bipush (-2), 2, 0, 0, 0), none, some (.goto 4, 3, 0, 0, 0), none, none, some (.iconst 0, 1, 0, 0, 0), some (.ireturn, 1, 0, 0, 0), some (.iload_n 2, 1, 0, 0, 0), some (.ifCond .ne 15, 3, 0, 0, 0), none, none, some (.aload_n 0, 1, 0, 0, 0), some (.getfield 68, 3, 10, 8, 385), none, none, some (.iload_n 3, 1, 0, 0, 0), some (.iload_n 1, 1, 0, 0, 0), some (.invokevirtual 286, 3, 55, 0, 1065), none, none, some (.goto 12, 3, 0, 0, 0), none, none, some (.aload_n 0, 1, 0, 0, 0), some (.getfield 68, 3, 10, 8, 385), none, none], [some (.iload_n 3, 1, 0, 0, 0), some (.iload_n 1, 1, 0, 0, 0), some (.invokevirtual 328, 3, 64, 0, 1156), none, none, some (.ireturn, 1, 0, 0, 0)]]
def cd_174 : List (List (Option si_E)) := [[some (.aload_n 0, 1, 0, 0, 0), some (.getfield 10, 3, 10, 0, 377), none, none, some (.iload_n 1, 1, 0, 0, 0), some (.invokevirtual 164, 3, 74, 0, 704), none, none, some (.ifCond .eq 10, 3, 0, 0, 0), none, none, some (.iload_n 2, 1, 0, 0, 0), some (.invokestatic 190, 3, 188, 0, 787), none, none, some (.ifCond .ne 5, 3, 0, 0, 0), none, none, some (.iconst (-1), 1, 0, 0, 0), some (.ireturn, 1, 0, 0, 0), some (.aload_n 0, 1, 0, 0, 0), some (.getfield 68, 3, 10, 8, 385), none, none, some (.iload_n 1, 1, 0, 0, 0), some (.iload_n 2, 1, 0, 0, 0), some (.iconst 1, 1, 0, 0, 0), some (.if_icmp .ne 7, 3, 0, 0, 0), none, none, some (.iconst 1, 1, 0, 0, 0), some (.goto 4, 3, 0, 0, 0)], [none, none, some (.iconst 0, 1, 0, 0, 0), some (.invokevirtual 331, 3, 66, 0, 1161), none, none, some (.ireturn, 1, 0, 0, 0)]]
def cd_175 : List (List (Option si_E)) := [[some (.aload_n 0, 1, 0, 0, 0), some (.getfield 10, 3, 10, 0, 377), none, none, some (.iload_n 1, 1, 0, 0, 0), some (.invokevirtual 164, 3, 74, 0, 704), none, none, some (.ifCond .eq 14, 3, 0, 0, 0), none, none, some (.aload_n 0, 1, 0, 0, 0), some (.getfield 68, 3, 10, 8, 385), none, none, some (.iload_n 1, 1, 0, 0, 0), some (.invokevirtual 334, 3, 67, 0, 1169), none, none, some (.goto 4, 3, 0, 0, 0), none, none, some (.iconst (-1), 1, 0, 0, 0), some (.ireturn, 1, 0, 0, 0)]]
def cd_176 : List (List (Option si_E)) := [[some (.iload_n 3, 1, 0, 0, 0), some (.ifCond .lt 21, 3, 0, 0, 0), none, none, some (.iload_n 3, 1, 0, 0, 0), some (.bipush 99, 2, 0, 0, 0), none, some (.if_icmp .gt 15, 3, 0, 0, 0), none, none, some (.iload 4, 2, 0, 0, 0), none, some (.invokestatic 190, 3, 188, 0, 787), none, none, some (.ifCond .eq 7, 3, 0, 0, 0), none, none, some (.iconst 1, 1, 0, 0, 0), some (.goto 4, 3, 0, 0, 0), none, none, some (.iconst 0, 1, 0, 0, 0), some (.istore 5, 2, 0, 0, 0), none, some (.iload 5, 2, 0, 0, 0), none, some (.ifCond .eq 15, 3, 0, 0, 0), none, none, some (.aload_n 0, 1, 0, 0, 0), some (.getfield 68, 3, 10, 8, 385)], [none, none, some (.iload_n 1, 1, 0, 0, 0), some (.iload_n 2, 1, 0, 0, 0), some (.invokevirtual 305, 3, 47, 0, 1093), none, none, some (.ifCond .ne 5, 3, 0, 0, 0), none, none, some (.iconst (-1), 1, 0, 0, 0), some (.ireturn, 1, 0, 0, 0), some (.aload_n 0, 1, 0, 0, 0), some (.getfield 68, 3, 10, 8, 385), none, none, some (.iload_n 1, 1, 0, 0, 0), some (.aload_n 0, 1, 0, 0, 0), some (.getfield 92, 3, 10, 12, 389), none, none, some (.invokevirtual 337, 3, 70, 0, 1182), none, none, some (.aload_n 0, 1, 0, 0, 0), some (.getfield 68, 3, 10, 8, 385), none, none, some (.iload_n 2, 1, 0, 0, 0), some (.aload_n 0, 1, 0, 0, 0), some (.getfield 95, 3, 10, 13, 390), none], [none, some (.invokevirtual 337, 3, 70, 0, 1182), none, none, some (.aload_n 0, 1, 0, 0, 0), some (.getfield 61, 3, 10, 7, 384), none, none, some (.invokevirtual 341, 3, 131, 0, 1186), none, none, some (.aload_n 0, 1, 0, 0, 0), some (.getfield 10, 3, 10, 0, 377), none, none, some (.invokevirtual 343, 3, 73, 0, 1187), none, none, some (.sipush 1440, 3, 0, 0, 0), none, none, some (.invokestatic 346, 3, 344, 0, 1059), none, none, some (.istore 6, 2, 0, 0, 0), none, some (.iconst 0, 1, 0, 0, 0), some (.istore 7, 2, 0, 0, 0), none, some (.iload 7, 2, 0, 0, 0), none, some (.iload 6, 2, 0, 0, 0)], [none, some (.if_icmp .ge 39, 3, 0, 0, 0), none, none, some (.aload_n 0, 1, 0, 0, 0), some (.getfield 92, 3, 10, 12, 389), none, none, some (.iload 7, 2, 0, 0, 0), none, some (.iaload, 1, 0, 0, 0), some (.aload_n 0, 1, 0, 0, 0), some (.getfield 95, 3, 10, 13, 390), none, none, some (.iload 7, 2, 0, 0, 0), none, some (.iaload, 1, 0, 0, 0), some (.iload_n 3, 1, 0, 0, 0), some (.invokestatic 351, 3, 33, 0, 1188), none, none, some (.ifCond .eq 12, 3, 0, 0, 0), none, none, some (.aload_n 0, 1, 0, 0, 0), some (.getfield 61, 3, 10, 7, 384), none, none, some (.iload 7, 2, 0, 0, 0), none, some (.invokevirtual 355, 3, 132, 0, 1194)], [none, none, some (.iinc 7 1, 3, 0, 0, 0), none, none, some (.goto (-40), 3, 0, 0, 0), none, none, some (.aload_n 0, 1, 0, 0, 0), some (.getfield 61, 3, 10, 7, 384), none, none, some (.iload 4, 2, 0, 0, 0), none, some (.invokevirtual 302, 3, 135, 0, 1085), none, none, some (.ireturn, 1, 0, 0, 0)]]
def cd_177 : List (List (Option si_E)) := [[some (.aload_n 0, 1, 0, 0, 0), some (.getfield 68, 3, 10, 8, 385), none, none, some (.iload_n 1, 1, 0, 0, 0), some (.iload_n 2, 1, 0, 0, 0), some (.invokevirtual 305, 3, 47, 0, 1093), none, none, some (.ifCond .ne 5, 3, 0, 0, 0), none, none, some (.iconst 0, 1, 0, 0, 0), some (.ireturn, 1, 0, 0, 0), some (.aload_n 0, 1, 0, 0, 0), some (.getfield 68, 3, 10, 8, 385), none, none, some (.iload_n 1, 1, 0, 0, 0), some (.aload_n 0, 1, 0, 0, 0), some (.getfield 68, 3, 10, 8, 385), none, none, some (.getfield 289, 3, 3, 2, 276), none, none, some (.iload_n 2, 1, 0, 0, 0), some (.iaload, 1, 0, 0, 0), some (.invokevirtual 356, 3, 51, 0, 1199), none, none, some (.iconst 1, 1, 0, 0, 0)], [some (.ireturn, 1, 0, 0, 0)]]
def cd_178 : List (List (Option si_E)) := [[some (.aload_n 0, 1, 0, 0, 0), some (.getfield 112, 3, 10, 17, 394), none, none, some (.iload_n 1, 1, 0, 0, 0), some (.invokevirtual 359, 3, 30, 0, 1207), none, none, some (.ifCond .ne 5, 3, 0, 0, 0), none, none, some (.iconst (-1), 1, 0, 0, 0), some (.ireturn, 1, 0, 0, 0), some (.iload_n 2, 1, 0, 0, 0), some (.tableswitch 172 0 7 #[46, 56, 66, 76, 86, 112, 138, 159], 46, 0, 0, 0), none, none, none, none, none, none, none, none, none, none, none, none, none, none, none, none, none], [none, none, none, none, none, none, none, none, none, none, none, none, none, none, none, none, none, none, none, none, none, none, none, none, none, none, none, none, some (.aload_n 0, 1, 0, 0, 0), some (.getfield 112, 3, 10, 17, 394), none, none], [some (.getfield 360, 3, 2, 1, 355), none, none, some (.iload_n 1, 1, 0, 0, 0), some (.iaload, 1, 0, 0, 0), some (.ireturn, 1, 0, 0, 0), some (.aload_n 0, 1, 0, 0, 0), some (.getfield 112, 3, 10, 17, 394), none, none, some (.getfield 363, 3, 2, 2, 357), none, none, some (.iload_n 1, 1, 0, 0, 0), some (.iaload, 1, 0, 0, 0), some (.ireturn, 1, 0, 0, 0), some (.aload_n 0, 1, 0, 0, 0), some (.getfield 112, 3, 10, 17, 394), none, none, some (.getfield 366, 3, 2, 3, 359), none, none, some (.iload_n 1, 1, 0, 0, 0), some (.iaload, 1, 0, 0, 0), some (.ireturn, 1, 0, 0, 0), some (.aload_n 0, 1, 0, 0, 0), some (.getfield 112, 3, 10, 17, 394), none, none, some (.getfield 369, 3, 2, 4, 361), none], [none, some (.iload_n 1, 1, 0, 0, 0), some (.iaload, 1, 0, 0, 0), some (.ireturn, 1, 0, 0, 0), some (.aload_n 0, 1, 0, 0, 0), some (.getfield 68, 3, 10, 8, 385), none, none, some (.aload_n 0, 1, 0, 0, 0), some (.getfield 112, 3, 10, 17, 394), none, none, some (.getfield 360, 3, 2, 1, 355), none, none, some (.iload_n 1, 1, 0, 0, 0), some (.iaload, 1, 0, 0, 0), some (.aload_n 0, 1, 0, 0, 0), some (.getfield 112, 3, 10, 17, 394), none, none, some (.getfield 366, 3, 2, 3, 359), none, none, some (.iload_n 1, 1, 0, 0, 0), some (.iaload, 1, 0, 0, 0), some (.invokevirtual 372, 3, 69, 0, 1211), none, none, some (.ireturn, 1, 0, 0, 0), some (.aload_n 0, 1, 0, 0, 0), some (.getfield 68, 3, 10, 8, 385)], [none, none, some (.aload_n 0, 1, 0, 0, 0), some (.getfield 112, 3, 10, 17, 394), none, none, some (.getfield 363, 3, 2, 2, 357), none, none, some (.iload_n 1, 1, 0, 0, 0), some (.iaload, 1, 0, 0, 0), some (.aload_n 0, 1, 0, 0, 0), some (.getfield 112, 3, 10, 17, 394), none, none, some (.getfield 366, 3, 2, 3, 359), none, none, some (.iload_n 1, 1, 0, 0, 0), some (.iaload, 1, 0, 0, 0), some (.invokevirtual 372, 3, 69, 0, 1211), none, none, some (.ireturn, 1, 0, 0, 0), some (.aload_n 0, 1, 0, 0, 0), some (.getfield 112, 3, 10, 17, 394), none, none, some (.iload_n 1, 1, 0, 0, 0), some (.aload_n 0, 1, 0, 0, 0), some (.getfield 68, 3, 10, 8, 385), none], [none, some (.invokevirtual 375, 3, 34, 0, 1215), none, none, some (.ifCond .eq 7, 3, 0, 0, 0), none, none, some (.iconst 1, 1, 0, 0, 0), some (.goto 4, 3, 0, 0, 0), none, none, some (.iconst 0, 1, 0, 0, 0), some (.ireturn, 1, 0, 0, 0), some (.aload_n 0, 1, 0, 0, 0), some (.getfield 112, 3, 10, 17, 394), none, none, some (.iload_n 1, 1, 0, 0, 0), some (.aload_n 0, 1, 0, 0, 0), some (.getfield 68, 3, 10, 8, 385), none, none, some (.invokevirtual 379, 3, 35, 0, 1221), none, none, some (.ireturn, 1, 0, 0, 0), some (.iconst (-1), 1, 0, 0, 0), some (.ireturn, 1, 0, 0, 0)]]
def cd_179 : List (List (Option si_E)) := [[some (.iload_n 1, 1, 0, 0, 0), some (.invokestatic 190, 3, 188, 0, 787), none, none, some (.ifCond .ne 5, 3, 0, 0, 0), none, none, some (.iconst (-1), 1, 0, 0, 0), some (.ireturn, 1, 0, 0, 0), some (.iload_n 1, 1, 0, 0, 0), some (.ifCond .ne 17, 3, 0, 0, 0), none, none, some (.aload_n 0, 1, 0, 0, 0), some (.getfield 112, 3, 10, 17, 394), none, none, some (.aload_n 0, 1, 0, 0, 0), some (.getfield 68, 3, 10, 8, 385), none, none, some (.invokevirtual 383, 3, 36, 0, 1230), none, none, some (.goto 14, 3, 0, 0, 0), none, none, some (.aload_n 0, 1, 0, 0, 0), some (.getfield 112, 3, 10, 17, 394), none, none, some (.aload_n 0, 1, 0, 0, 0)], [some (.getfield 68, 3, 10, 8, 385), none, none, some (.invokevirtual 387, 3, 37, 0, 1235), none, none, some (.ireturn, 1, 0, 0, 0)]]
def cd_180 : List (List (Option si_E)) := [[some (.iload_n 1, 1, 0, 0, 0), some (.invokestatic 390, 3, 190, 0, 1244), none, none, some (.ifCond .eq 15, 3, 0, 0, 0), none, none, some (.aload_n 0, 1, 0, 0, 0), some (.aload_n 0, 1, 0, 0, 0), some (.getfield 68, 3, 10, 8, 385), none, none, some (.iload_n 1, 1, 0, 0, 0), some (.invokevirtual 393, 3, 195, 0, 1247), none, none, some (.goto 4, 3, 0, 0, 0), none, none, some (.iconst (-1), 1, 0, 0, 0), some (.ireturn, 1, 0, 0, 0)]]
def cd_181 : List (List (Option si_E)) := [[some (.aload_n 0, 1, 0, 0, 0), some (.getfield 68, 3, 10, 8, 385), none, none, some (.iload_n 2, 1, 0, 0, 0), some (.bipush 10, 2, 0, 0, 0), none, some (.isub, 1, 0, 0, 0), some (.invokevirtual 283, 3, 46, 0, 1064), none, none, some (.istore_n 3, 1, 0, 0, 0), some (.aload_n 0, 1, 0, 0, 0), some (.getfield 68, 3, 10, 8, 385), none, none, some (.iload_n 2, 1, 0, 0, 0), some (.bipush 20, 2, 0, 0, 0), none, some (.isub, 1, 0, 0, 0), some (.invokevirtual 283, 3, 46, 0, 1064), none, none, some (.istore 4, 2, 0, 0, 0), none, some (.iload_n 1, 1, 0, 0, 0), some (.invokestatic 390, 3, 190, 0, 1244), none, none, some (.ifCond .eq 19, 3, 0, 0, 0), none, none], [some (.iload_n 2, 1, 0, 0, 0), some (.invokestatic 190, 3, 188, 0, 787), none, none, some (.ifCond .ne 14, 3, 0, 0, 0), none, none, some (.iload_n 3, 1, 0, 0, 0), some (.ifCond .ne 10, 3, 0, 0, 0), none, none, some (.iload 4, 2, 0, 0, 0), none, some (.ifCond .ne 5, 3, 0, 0, 0), none, none, some (.iconst (-1), 1, 0, 0, 0), some (.ireturn, 1, 0, 0, 0), some (.aload_n 0, 1, 0, 0, 0), some (.getfield 75, 3, 10, 10, 387), none, none, some (.aload_n 0, 1, 0, 0, 0), some (.getfield 68, 3, 10, 8, 385), none, none, some (.invokevirtual 397, 3, 42, 0, 1303), none, none, some (.aload_n 0, 1, 0, 0, 0), some (.aload_n 0, 1, 0, 0, 0), some (.getfield 75, 3, 10, 10, 387)], [none, none, some (.iload_n 1, 1, 0, 0, 0), some (.invokevirtual 393, 3, 195, 0, 1247), none, none, some (.istore 5, 2, 0, 0, 0), none, some (.iload_n 2, 1, 0, 0, 0), some (.ifCond .ne 6, 3, 0, 0, 0), none, none, some (.iload 5, 2, 0, 0, 0), none, some (.ireturn, 1, 0, 0, 0), some (.iload_n 2, 1, 0, 0, 0), some (.iconst 1, 1, 0, 0, 0), some (.if_icmp .ne 15, 3, 0, 0, 0), none, none, some (.aload_n 0, 1, 0, 0, 0), some (.getfield 112, 3, 10, 17, 394), none, none, some (.aload_n 0, 1, 0, 0, 0), some (.getfield 75, 3, 10, 10, 387), none, none, some (.invokevirtual 383, 3, 36, 0, 1230), none, none, some (.ireturn, 1, 0, 0, 0)], [some (.iload_n 3, 1, 0, 0, 0), some (.ifCond .eq 18, 3, 0, 0, 0), none, none, some (.aload_n 0, 1, 0, 0, 0), some (.getfield 75, 3, 10, 10, 387), none, none, some (.getfield 289, 3, 3, 2, 276), none, none, some (.iload_n 2, 1, 0, 0, 0), some (.bipush 10, 2, 0, 0, 0), none, some (.isub, 1, 0, 0, 0), some (.iaload, 1, 0, 0, 0), some (.goto 18, 3, 0, 0, 0), none, none, some (.aload_n 0, 1, 0, 0, 0), some (.getfield 75, 3, 10, 10, 387), none, none, some (.getfield 292, 3, 3, 3, 278), none, none, some (.iload_n 2, 1, 0, 0, 0), some (.bipush 20, 2, 0, 0, 0), none, some (.isub, 1, 0, 0, 0), some (.iaload, 1, 0, 0, 0), some (.bipush 99, 2, 0, 0, 0)], [none, some (.iadd, 1, 0, 0, 0), some (.ireturn, 1, 0, 0, 0)]]
def cd_182 : List (List (Option si_E)) := [[some (.iload_n 3, 1, 0, 0, 0), some (.invokestatic 390, 3, 190, 0, 1244), none, none, some (.ifCond .eq 15, 3, 0, 0, 0), none, none, some (.aload_n 0, 1, 0, 0, 0), some (.getfield 68, 3, 10, 8, 385), none, none, some (.iload_n 1, 1, 0, 0, 0), some (.iload_n 2, 1, 0, 0, 0), some (.invokevirtual 305, 3, 47, 0, 1093), none, none, some (.ifCond .ne 5, 3, 0, 0, 0), none, none, some (.iconst (-1), 1, 0, 0, 0), some (.ireturn, 1, 0, 0, 0), some (.aload_n 0, 1, 0, 0, 0), some (.getfield 75, 3, 10, 10, 387), none, none, some (.aload_n 0, 1, 0, 0, 0), some (.getfield 68, 3, 10, 8, 385), none, none, some (.invokevirtual 397, 3, 42, 0, 1303), none, none], [some (.iconst 0, 1, 0, 0, 0), some (.istore 4, 2, 0, 0, 0), none, some (.iload 4, 2, 0, 0, 0), none, some (.iload_n 3, 1, 0, 0, 0), some (.if_icmp .gt 58, 3, 0, 0, 0), none, none, some (.aload_n 0, 1, 0, 0, 0), some (.getfield 75, 3, 10, 10, 387), none, none, some (.getfield 289, 3, 3, 2, 276), none, none, some (.iload_n 1, 1, 0, 0, 0), some (.iaload, 1, 0, 0, 0), some (.aload_n 0, 1, 0, 0, 0), some (.getfield 75, 3, 10, 10, 387), none, none, some (.getfield 289, 3, 3, 2, 276), none, none, some (.iload_n 2, 1, 0, 0, 0), some (.iaload, 1, 0, 0, 0), some (.if_icmp .ne 6, 3, 0, 0, 0), none, none, some (.iload 4, 2, 0, 0, 0), none], [some (.ireturn, 1, 0, 0, 0), some (.aload_n 0, 1, 0, 0, 0), some (.getfield 75, 3, 10, 10, 387), none, none, some (.getfield 400, 3, 3, 5, 282), none, none, some (.sipush 9999, 3, 0, 0, 0), none, none, some (.if_icmp .lt 6, 3, 0, 0, 0), none, none, some (.bipush (-2), 2, 0, 0, 0), none, some (.ireturn, 1, 0, 0, 0), some (.aload_n 0, 1, 0, 0, 0), some (.aload_n 0, 1, 0, 0, 0), some (.getfield 75, 3, 10, 10, 387), none, none, some (.invokevirtual 404, 3, 196, 0, 1251), none, none, some (.pop, 1, 0, 0, 0), some (.iinc 4 1, 3, 0, 0, 0), none, none, some (.goto (-58), 3, 0, 0, 0), none, none], [some (.bipush (-2), 2, 0, 0, 0), none, some (.ireturn, 1, 0, 0, 0)]]
def cd_183 : List (List (Option si_E)) := [[some (.iload_n 1, 1, 0, 0, 0), some (.ifCond .lt 10, 3, 0, 0, 0), none, none, some (.iload_n 1, 1, 0, 0, 0), some (.ldc_w 407, 3, 65535, 0, 1316), none, none, some (.if_icmp .le 5, 3, 0, 0, 0), none, none, some (.iconst 0, 1, 0, 0, 0), some (.ireturn, 1, 0, 0, 0), some (.aload_n 0, 1, 0, 0, 0), some (.getfield 68, 3, 10, 8, 385), none, none, some (.iload_n 1, 1, 0, 0, 0), some (.putfield 408, 3, 3, 6, 284), none, none, some (.iconst 1, 1, 0, 0, 0), some (.ireturn, 1, 0, 0, 0)]]
def cd_184 : List (List (Option si_E)) := [[some (.aload_n 0, 1, 0, 0, 0), some (.getfield 72, 3, 10, 9, 386), none, none, some (.aload_n 0, 1, 0, 0, 0), some (.getfield 68, 3, 10, 8, 385), none, none, some (.invokevirtual 397, 3, 42, 0, 1303), none, none, some (.aload_n 0, 1, 0, 0, 0), some (.getfield 119, 3, 10, 19, 396), none, none, some (.iconst 0, 1, 0, 0, 0), some (.aload_n 0, 1, 0, 0, 0), some (.getfield 10, 3, 10, 0, 377), none, none, some (.getfield 411, 3, 4, 0, 152), none, none, some (.iastore, 1, 0, 0, 0), some (.aload_n 0, 1, 0, 0, 0), some (.getfield 119, 3, 10, 19, 396), none, none, some (.iconst 1, 1, 0, 0, 0), some (.aload_n 0, 1, 0, 0, 0), some (.getfield 10, 3, 10, 0, 377), none], [none, some (.getfield 414, 3, 4, 1, 155), none, none, some (.iastore, 1, 0, 0, 0), some (.aload_n 0, 1, 0, 0, 0), some (.getfield 68, 3, 10, 8, 385), none, none, some (.getfield 400, 3, 3, 5, 282), none, none, some (.ireturn, 1, 0, 0, 0)]]
def cd_185 : List (List (Option si_E)) := [[some (.aload_n 0, 1, 0, 0, 0), some (.getfield 119, 3, 10, 19, 396), none, none, some (.iconst 0, 1, 0, 0, 0), some (.iaload, 1, 0, 0, 0), some (.aload_n 0, 1, 0, 0, 0), some (.getfield 10, 3, 10, 0, 377), none, none, some (.getfield 411, 3, 4, 0, 152), none, none, some (.if_icmp .ne 19, 3, 0, 0, 0), none, none, some (.aload_n 0, 1, 0, 0, 0), some (.getfield 119, 3, 10, 19, 396), none, none, some (.iconst 1, 1, 0, 0, 0), some (.iaload, 1, 0, 0, 0), some (.aload_n 0, 1, 0, 0, 0), some (.getfield 10, 3, 10, 0, 377), none, none, some (.getfield 414, 3, 4, 1, 155), none, none, some (.if_icmp .eq 5, 3, 0, 0, 0), none, none], [some (.iconst 0, 1, 0, 0, 0), some (.ireturn, 1, 0, 0, 0), some (.aload_n 0, 1, 0, 0, 0), some (.getfield 68, 3, 10, 8, 385), none, none, some (.aload_n 0, 1, 0, 0, 0), some (.getfield 72, 3, 10, 9, 386), none, none, some (.invokevirtual 417, 3, 43, 0, 1325), none, none, some (.iconst 1, 1, 0, 0, 0), some (.ireturn, 1, 0, 0, 0)]]
def cd_186 : List (List (Option si_E)) := [[some (.iload_n 1, 1, 0, 0, 0), some (.ifCond .lt 20, 3, 0, 0, 0), none, none, some (.iload_n 1, 1, 0, 0, 0), some (.bipush 8, 2, 0, 0, 0), none, some (.if_icmp .gt 14, 3, 0, 0, 0), none, none, some (.aload_n 0, 1, 0, 0, 0), some (.getfield 45, 3, 10, 5, 382), none, none, some (.iload_n 1, 1, 0, 0, 0), some (.invokevirtual 224, 3, 138, 0, 481), none, none, some (.ifCond .ne 6, 3, 0, 0, 0), none, none, some (.bipush (-2), 2, 0, 0, 0), none, some (.ireturn, 1, 0, 0, 0), some (.iconst (-1), 1, 0, 0, 0), some (.istore_n 2, 1, 0, 0, 0), some (.iload_n 1, 1, 0, 0, 0), some (.iconst 1, 1, 0, 0, 0), some (.isub, 1, 0, 0, 0), some (.istore_n 3, 1, 0, 0, 0), some (.iload_n 3, 1, 0, 0, 0), some (.ifCond .lt 30, 3, 0, 0, 0)], [none, none, some (.aload_n 0, 1, 0, 0, 0), some (.getfield 45, 3, 10, 5, 382), none, none, some (.iload_n 3, 1, 0, 0, 0), some (.invokevirtual 420, 3, 141, 0, 1333), none, none, some (.aload_n 0, 1, 0, 0, 0), some (.getfield 68, 3, 10, 8, 385), none, none, some (.iload_n 3, 1, 0, 0, 0), some (.invokevirtual 423, 3, 50, 0, 1334), none, none, some (.if_icmp .eq 5, 3, 0, 0, 0), none, none, some (.iload_n 3, 1, 0, 0, 0), some (.istore_n 2, 1, 0, 0, 0), some (.iinc 3 (-1), 3, 0, 0, 0), none, none, some (.goto (-28), 3, 0, 0, 0), none, none, some (.aload_n 0, 1, 0, 0, 0), some (.getfield 45, 3, 10, 5, 382), none], [none, some (.invokevirtual 155, 3, 142, 0, 630), none, none, some (.iload_n 2, 1, 0, 0, 0), some (.ireturn, 1, 0, 0, 0)]]
def cd_187 : List (List (Option si_E)) := [[some (.iload_n 1, 1, 0, 0, 0), some (.tableswitch 123 0 8 #[51, 59, 67, 75, 83, 91, 99, 107, 115], 51, 0, 0, 0), none, none, none, none, none, none, none, none, none, none, none, none, none, none, none, none, none, none, none, none, none, none, none, none, none, none, none, none, none, none], [none, none, none, none, none, none, none, none, none, none, none, none, none, none, none, none, none, none, none, none, some (.aload_n 0, 1, 0, 0, 0), some (.getfield 68, 3, 10, 8, 385), none, none, some (.getfield 400, 3, 3, 5, 282), none, none, some (.ireturn, 1, 0, 0, 0), some (.aload_n 0, 1, 0, 0, 0), some (.getfield 68, 3, 10, 8, 385), none, none], [some (.invokevirtual 426, 3, 48, 0, 1342), none, none, some (.ireturn, 1, 0, 0, 0), some (.aload_n 0, 1, 0, 0, 0), some (.getfield 112, 3, 10, 17, 394), none, none, some (.getfield 429, 3, 2, 5, 363), none, none, some (.ireturn, 1, 0, 0, 0), some (.aload_n 0, 1, 0, 0, 0), some (.getfield 10, 3, 10, 0, 377), none, none, some (.getfield 411, 3, 4, 0, 152), none, none, some (.ireturn, 1, 0, 0, 0), some (.aload_n 0, 1, 0, 0, 0), some (.getfield 10, 3, 10, 0, 377), none, none, some (.getfield 414, 3, 4, 1, 155), none, none, some (.ireturn, 1, 0, 0, 0), some (.aload_n 0, 1, 0, 0, 0), some (.getfield 102, 3, 10, 15, 392), none, none], [some (.invokevirtual 431, 3, 92, 0, 1346), none, none, some (.ireturn, 1, 0, 0, 0), some (.aload_n 0, 1, 0, 0, 0), some (.getfield 45, 3, 10, 5, 382), none, none, some (.invokevirtual 141, 3, 137, 0, 469), none, none, some (.ireturn, 1, 0, 0, 0), some (.aload_n 0, 1, 0, 0, 0), some (.getfield 68, 3, 10, 8, 385), none, none, some (.getfield 408, 3, 3, 6, 284), none, none, some (.ireturn, 1, 0, 0, 0), some (.aload_n 0, 1, 0, 0, 0), some (.getfield 68, 3, 10, 8, 385), none, none, some (.invokevirtual 432, 3, 49, 0, 1350), none, none, some (.ireturn, 1, 0, 0, 0), some (.iconst (-1), 1, 0, 0, 0), some (.ireturn, 1, 0, 0, 0)]]
def cd_188 : List (List (Option si_E)) := [[some (.iload_n 0, 1, 0, 0, 0), some (.ifCond .eq 8, 3, 0, 0, 0), none, none, some (.iload_n 0, 1, 0, 0, 0), some (.iconst 1, 1, 0, 0, 0), some (.if_icmp .ne 7, 3, 0, 0, 0), none, none, some (.iconst 1, 1, 0, 0, 0), some (.goto 4, 3, 0, 0, 0), none, none, some (.iconst 0, 1, 0, 0, 0), some (.ireturn, 1, 0, 0, 0)]]
def cd_189 : List (List (Option si_E)) := [[some (.iload_n 0, 1, 0, 0, 0), some (.iconst 4, 1, 0, 0, 0), some (.if_icmp .lt 13, 3, 0, 0, 0), none, none, some (.iload_n 0, 1, 0, 0, 0), some (.bipush 60, 2, 0, 0, 0), none, some (.if_icmp .gt 7, 3, 0, 0, 0), none, none, some (.iconst 1, 1, 0, 0, 0), some (.goto 4, 3, 0, 0, 0), none, none, some (.iconst 0, 1, 0, 0, 0), some (.ireturn, 1, 0, 0, 0)]]
def cd_190 : List (List (Option si_E)) := [[some (.iload_n 0, 1, 0, 0, 0), some (.iconst 1, 1, 0, 0, 0), some (.if_icmp .lt 13, 3, 0, 0, 0), none, none, some (.iload_n 0, 1, 0, 0, 0), some (.bipush 100, 2, 0, 0, 0), none, some (.if_icmp .gt 7, 3, 0, 0, 0), none, none, some (.iconst 1, 1, 0, 0, 0), some (.goto 4, 3, 0, 0, 0), none, none, some (.iconst 0, 1, 0, 0, 0), some (.ireturn, 1, 0, 0, 0)]]
def cd_191 : List (List (Option si_E)) := [[some (.iload_n 0, 1, 0, 0, 0), some (.ifCond .lt 18, 3, 0, 0, 0), none, none, some (.iload_n 0, 1, 0, 0, 0), some (.iload_n 1, 1, 0, 0, 0), some (.if_icmp .gt 13, 3, 0, 0, 0), none, none, some (.iload_n 1, 1, 0, 0, 0), some (.bipush 99, 2, 0, 0, 0), none, some (.if_icmp .gt 7, 3, 0, 0, 0), none, none, some (.iconst 1, 1, 0, 0, 0), some (.goto 4, 3, 0, 0, 0), none, none, some (.iconst 0, 1, 0, 0, 0), some (.ireturn, 1, 0, 0, 0)]]
def cd_192 : List (List (Option si_E)) := [[some (.iload_n 1, 1, 0, 0, 0), some (.iconst 1, 1, 0, 0, 0), some (.if_icmp .lt 23, 3, 0, 0, 0), none, none, some (.iload_n 1, 1, 0, 0, 0), some (.iload_n 2, 1, 0, 0, 0), some (.if_icmp .gt 18, 3, 0, 0, 0), none, none, some (.aload_n 0, 1, 0, 0, 0), some (.getfield 45, 3, 10, 5, 382), none, none, some (.iload_n 1, 1, 0, 0, 0), some (.invokevirtual 224, 3, 138, 0, 481), none, none, some (.ifCond .eq 7, 3, 0, 0, 0), none, none, some (.iconst 1, 1, 0, 0, 0), some (.goto 4, 3, 0, 0, 0), none, none, some (.iconst 0, 1, 0, 0, 0), some (.ireturn, 1, 0, 0, 0)]]
def cd_193 : List (List (Option si_E)) := [[some (.iconst 2, 1, 0, 0, 0), some (.istore_n 2, 1, 0, 0, 0), some (.aload_n 0, 1, 0, 0, 0), some (.getfield 16, 3, 10, 1, 378), none, none, some (.iload_n 1, 1, 0, 0, 0), some (.iload_n 2, 1, 0, 0, 0), some (.invokevirtual 126, 3, 72, 0, 445), none, none, some (.aload_n 0, 1, 0, 0, 0), some (.getfield 16, 3, 10, 1, 378), none, none, some (.invokevirtual 200, 3, 88, 0, 811), none, none, some (.istore_n 3, 1, 0, 0, 0), some (.iconst 3, 1, 0, 0, 0), some (.istore 4, 2, 0, 0, 0), none, some (.iload 4, 2, 0, 0, 0), none, some (.bipush 24, 2, 0, 0, 0), none, some (.if_icmp .gt 45, 3, 0, 0, 0), none, none, some (.aload_n 0, 1, 0, 0, 0), some (.getfield 16, 3, 10, 1, 378), none], [none, some (.iload_n 1, 1, 0, 0, 0), some (.iload 4, 2, 0, 0, 0), none, some (.invokevirtual 126, 3, 72, 0, 445), none, none, some (.aload_n 0, 1, 0, 0, 0), some (.getfield 16, 3, 10, 1, 378), none, none, some (.invokevirtual 200, 3, 88, 0, 811), none, none, some (.istore 5, 2, 0, 0, 0), none, some (.iload 5, 2, 0, 0, 0), none, some (.iload_n 2, 1, 0, 0, 0), some (.imul, 1, 0, 0, 0), some (.iload_n 3, 1, 0, 0, 0), some (.iload 4, 2, 0, 0, 0), none, some (.imul, 1, 0, 0, 0), some (.if_icmp .ge 9, 3, 0, 0, 0), none, none, some (.iload 4, 2, 0, 0, 0), none, some (.istore_n 2, 1, 0, 0, 0), some (.iload 5, 2, 0, 0, 0), none], [some (.istore_n 3, 1, 0, 0, 0), some (.iinc 4 1, 3, 0, 0, 0), none, none, some (.goto (-46), 3, 0, 0, 0), none, none, some (.iload_n 2, 1, 0, 0, 0), some (.ireturn, 1, 0, 0, 0)]]
def cd_194 : List (List (Option si_E)) := [[some (.iconst 0, 1, 0, 0, 0), some (.istore 4, 2, 0, 0, 0), none, some (.bipush (-2), 2, 0, 0, 0), none, some (.istore 5, 2, 0, 0, 0), none, some (.iload_n 1, 1, 0, 0, 0), some (.istore 6, 2, 0, 0, 0), none, some (.iload 6, 2, 0, 0, 0), none, some (.iload_n 2, 1, 0, 0, 0), some (.if_icmp .gt 128, 3, 0, 0, 0), none, none, some (.iload_n 1, 1, 0, 0, 0), some (.istore 7, 2, 0, 0, 0), none, some (.iload 7, 2, 0, 0, 0), none, some (.iload_n 2, 1, 0, 0, 0), some (.if_icmp .gt 113, 3, 0, 0, 0), none, none, some (.aload_n 0, 1, 0, 0, 0), some (.getfield 10, 3, 10, 0, 377), none, none, some (.getfield 414, 3, 4, 1, 155), none, none], [some (.iload 6, 2, 0, 0, 0), none, some (.imul, 1, 0, 0, 0), some (.iload 7, 2, 0, 0, 0), none, some (.imul, 1, 0, 0, 0), some (.istore 8, 2, 0, 0, 0), none, some (.iload_n 1, 1, 0, 0, 0), some (.istore 9, 2, 0, 0, 0), none, some (.iload 9, 2, 0, 0, 0), none, some (.iload_n 2, 1, 0, 0, 0), some (.if_icmp .gt 83, 3, 0, 0, 0), none, none, some (.iload 8, 2, 0, 0, 0), none, some (.iload_n 2, 1, 0, 0, 0), some (.iload_n 2, 1, 0, 0, 0), some (.imul, 1, 0, 0, 0), some (.if_icmp .gt 75, 3, 0, 0, 0), none, none, some (.iload 8, 2, 0, 0, 0), none, some (.iload 9, 2, 0, 0, 0), none, some (.invokestatic 435, 3, 199, 0, 1058), none, none], [some (.istore 10, 2, 0, 0, 0), none, some (.iload 10, 2, 0, 0, 0), none, some (.iload 9, 2, 0, 0, 0), none, some (.imul, 1, 0, 0, 0), some (.iload 8, 2, 0, 0, 0), none, some (.if_icmp .ne 50, 3, 0, 0, 0), none, none, some (.iload 10, 2, 0, 0, 0), none, some (.iload_n 1, 1, 0, 0, 0), some (.if_icmp .lt 44, 3, 0, 0, 0), none, none, some (.iload 10, 2, 0, 0, 0), none, some (.iload_n 2, 1, 0, 0, 0), some (.if_icmp .gt 38, 3, 0, 0, 0), none, none, some (.iload 6, 2, 0, 0, 0), none, some (.iload 9, 2, 0, 0, 0), none, some (.iadd, 1, 0, 0, 0), some (.iload 7, 2, 0, 0, 0), none, some (.iadd, 1, 0, 0, 0)], [some (.iload 10, 2, 0, 0, 0), none, some (.iadd, 1, 0, 0, 0), some (.istore 11, 2, 0, 0, 0), none, some (.iload 4, 2, 0, 0, 0), none, some (.ifCond .ne 8, 3, 0, 0, 0), none, none, some (.iload 11, 2, 0, 0, 0), none, some (.goto 10, 3, 0, 0, 0), none, none, some (.iload 5, 2, 0, 0, 0), none, some (.iload 11, 2, 0, 0, 0), none, some (.invokestatic 346, 3, 344, 0, 1059), none, none, some (.istore 5, 2, 0, 0, 0), none, some (.iinc 4 1, 3, 0, 0, 0), none, none, some (.iinc 9 1, 3, 0, 0, 0), none, none, some (.goto (-83), 3, 0, 0, 0), none], [none, some (.iinc 7 1, 3, 0, 0, 0), none, none, some (.goto (-113), 3, 0, 0, 0), none, none, some (.iinc 6 1, 3, 0, 0, 0), none, none, some (.goto (-128), 3, 0, 0, 0), none, none, some (.iload_n 3, 1, 0, 0, 0), some (.ifCond .ne 8, 3, 0, 0, 0), none, none, some (.iload 4, 2, 0, 0, 0), none, some (.goto 5, 3, 0, 0, 0), none, none, some (.iload 5, 2, 0, 0, 0), none, some (.ireturn, 1, 0, 0, 0)]]
def cd_195 : List (List (Option si_E)) := [[some (.iconst 0, 1, 0, 0, 0), some (.istore_n 3, 1, 0, 0, 0), some (.iconst 0, 1, 0, 0, 0), some (.istore 4, 2, 0, 0, 0), none, some (.iload 4, 2, 0, 0, 0), none, some (.iload_n 2, 1, 0, 0, 0), some (.if_icmp .ge 27, 3, 0, 0, 0), none, none, some (.aload_n 1, 1, 0, 0, 0), some (.getfield 400, 3, 3, 5, 282), none, none, some (.sipush 9999, 3, 0, 0, 0), none, none, some (.if_icmp .ge 17, 3, 0, 0, 0), none, none, some (.iload_n 3, 1, 0, 0, 0), some (.aload_n 0, 1, 0, 0, 0), some (.aload_n 1, 1, 0, 0, 0), some (.invokevirtual 404, 3, 196, 0, 1251), none, none, some (.iadd, 1, 0, 0, 0), some (.istore_n 3, 1, 0, 0, 0), some (.iinc 4 1, 3, 0, 0, 0), none, none], [some (.goto (-27), 3, 0, 0, 0), none, none, some (.iload_n 3, 1, 0, 0, 0), some (.ireturn, 1, 0, 0, 0)]]
def cd_196 : List (List (Option si_E)) := [[some (.iconst 0, 1, 0, 0, 0), some (.istore_n 2, 1, 0, 0, 0), some (.iconst 0, 1, 0, 0, 0), some (.istore_n 3, 1, 0, 0, 0), some (.iload_n 3, 1, 0, 0, 0), some (.bipush 8, 2, 0, 0, 0), none, some (.if_icmp .ge 30, 3, 0, 0, 0), none, none, some (.aload_n 1, 1, 0, 0, 0), some (.getfield 438, 3, 3, 1, 274), none, none, some (.iload_n 3, 1, 0, 0, 0), some (.baload, 1, 0, 0, 0), some (.ifCond .eq 15, 3, 0, 0, 0), none, none, some (.aload_n 0, 1, 0, 0, 0), some (.iload_n 3, 1, 0, 0, 0), some (.aload_n 1, 1, 0, 0, 0), some (.invokevirtual 442, 3, 197, 0, 1255), none, none, some (.ifCond .eq 6, 3, 0, 0, 0), none, none, some (.iinc 2 1, 3, 0, 0, 0), none, none, some (.iinc 3 1, 3, 0, 0, 0)], [none, none, some (.goto (-30), 3, 0, 0, 0), none, none, some (.aload_n 1, 1, 0, 0, 0), some (.dup, 1, 0, 0, 0), some (.getfield 400, 3, 3, 5, 282), none, none, some (.iconst 1, 1, 0, 0, 0), some (.iadd, 1, 0, 0, 0), some (.putfield 400, 3, 3, 5, 282), none, none, some (.iload_n 2, 1, 0, 0, 0), some (.ireturn, 1, 0, 0, 0)]]
def cd_197 : List (List (Option si_E)) := [[some (.aload_n 2, 1, 0, 0, 0), some (.iload_n 1, 1, 0, 0, 0), some (.aload_n 2, 1, 0, 0, 0), some (.invokevirtual 445, 3, 52, 0, 1259), none, none, some (.aload_n 0, 1, 0, 0, 0), some (.getfield 88, 3, 10, 11, 388), none, none, some (.invokevirtual 448, 3, 53, 0, 1264), none, none, some (.aload_n 0, 1, 0, 0, 0), some (.getfield 102, 3, 10, 15, 392), none, none, some (.bipush 115, 2, 0, 0, 0), none, some (.sipush 999, 3, 0, 0, 0), none, none, some (.aload_n 0, 1, 0, 0, 0), some (.getfield 88, 3, 10, 11, 388), none, none, some (.invokevirtual 452, 3, 100, 0, 1272), none, none, some (.istore_n 3, 1, 0, 0, 0), some (.aload_n 0, 1, 0, 0, 0), some (.getfield 102, 3, 10, 15, 392)], [none, none, some (.bipush 103, 2, 0, 0, 0), none, some (.bipush 20, 2, 0, 0, 0), none, some (.aload_n 0, 1, 0, 0, 0), some (.getfield 88, 3, 10, 11, 388), none, none, some (.invokevirtual 452, 3, 100, 0, 1272), none, none, some (.istore 4, 2, 0, 0, 0), none, some (.aload_n 0, 1, 0, 0, 0), some (.getfield 102, 3, 10, 15, 392), none, none, some (.bipush 108, 2, 0, 0, 0), none, some (.bipush 20, 2, 0, 0, 0), none, some (.aload_n 0, 1, 0, 0, 0), some (.getfield 88, 3, 10, 11, 388), none, none, some (.invokevirtual 452, 3, 100, 0, 1272), none, none, some (.istore 5, 2, 0, 0, 0), none], [some (.aload_n 0, 1, 0, 0, 0), some (.getfield 102, 3, 10, 15, 392), none, none, some (.bipush 120, 2, 0, 0, 0), none, some (.aload_n 0, 1, 0, 0, 0), some (.getfield 88, 3, 10, 11, 388), none, none, some (.invokevirtual 456, 3, 101, 0, 1292), none, none, some (.istore 6, 2, 0, 0, 0), none, some (.aload_n 0, 1, 0, 0, 0), some (.getfield 10, 3, 10, 0, 377), none, none, some (.invokevirtual 343, 3, 73, 0, 1187), none, none, some (.aload_n 2, 1, 0, 0, 0), some (.getfield 292, 3, 3, 3, 278), none, none, some (.iload_n 1, 1, 0, 0, 0), some (.iaload, 1, 0, 0, 0), some (.imul, 1, 0, 0, 0), some (.sipush 1000, 3, 0, 0, 0), none, none], [some (.invokestatic 460, 3, 341, 0, 1296), none, none, some (.istore 7, 2, 0, 0, 0), none, some (.aload_n 2, 1, 0, 0, 0), some (.getfield 289, 3, 3, 2, 276), none, none, some (.iload_n 1, 1, 0, 0, 0), some (.aload_n 0, 1, 0, 0, 0), some (.getfield 10, 3, 10, 0, 377), none, none, some (.aload_n 2, 1, 0, 0, 0), some (.getfield 289, 3, 3, 2, 276), none, none, some (.iload_n 1, 1, 0, 0, 0), some (.iaload, 1, 0, 0, 0), some (.iload 7, 2, 0, 0, 0), none, some (.iadd, 1, 0, 0, 0), some (.iload_n 3, 1, 0, 0, 0), some (.isub, 1, 0, 0, 0), some (.invokevirtual 463, 3, 75, 0, 1297), none, none, some (.iastore, 1, 0, 0, 0), some (.aload_n 2, 1, 0, 0, 0), some (.getfield 292, 3, 3, 3, 278), none], [none, some (.iload_n 1, 1, 0, 0, 0), some (.aload_n 2, 1, 0, 0, 0), some (.getfield 292, 3, 3, 3, 278), none, none, some (.iload_n 1, 1, 0, 0, 0), some (.iaload, 1, 0, 0, 0), some (.iload 4, 2, 0, 0, 0), none, some (.iadd, 1, 0, 0, 0), some (.iload 5, 2, 0, 0, 0), none, some (.isub, 1, 0, 0, 0), some (.bipush (-99), 2, 0, 0, 0), none, some (.bipush 99, 2, 0, 0, 0), none, some (.invokestatic 466, 3, 198, 0, 1298), none, none, some (.iastore, 1, 0, 0, 0), some (.iload 6, 2, 0, 0, 0), none, some (.ifCond .eq 9, 3, 0, 0, 0), none, none, some (.aload_n 2, 1, 0, 0, 0), some (.iload_n 1, 1, 0, 0, 0), some (.iconst 0, 1, 0, 0, 0), some (.invokevirtual 356, 3, 51, 0, 1199), none], [none, some (.iload 6, 2, 0, 0, 0), none, some (.ireturn, 1, 0, 0, 0)]]
def cd_198 : List (List (Option si_E)) := [[some (.iload_n 1, 1, 0, 0, 0), some (.iload_n 2, 1, 0, 0, 0), some (.iload_n 0, 1, 0, 0, 0), some (.invokestatic 346, 3, 344, 0, 1059), none, none, some (.invokestatic 469, 3, 343, 0, 1291), none, none, some (.ireturn, 1, 0, 0, 0)]]
def cd_199 : List (List (Option si_E)) := [[some (.iload_n 1, 1, 0, 0, 0), some (.iconst 1, 1, 0, 0, 0), some (.if_icmp .ge 7, 3, 0, 0, 0), none, none, some (.iconst 0, 1, 0, 0, 0), some (.goto 6, 3, 0, 0, 0), none, none, some (.iload_n 0, 1, 0, 0, 0), some (.iload_n 1, 1, 0, 0, 0), some (.idiv, 1, 0, 0, 0), some (.ireturn, 1, 0, 0, 0)]]
def cd_200 : List (List (Option si_E)) := [[some (.iload_n 1, 1, 0, 0, 0), some (.iconst 1, 1, 0, 0, 0), some (.if_icmp .ge 7, 3, 0, 0, 0), none, none, some (.iconst 0, 1, 0, 0, 0), some (.goto 6, 3, 0, 0, 0), none, none, some (.iload_n 0, 1, 0, 0, 0), some (.iload_n 1, 1, 0, 0, 0), some (.irem, 1, 0, 0, 0), some (.istore_n 2, 1, 0, 0, 0), some (.iload_n 2, 1, 0, 0, 0), some (.ifCond .ge 9, 3, 0, 0, 0), none, none, some (.iload_n 2, 1, 0, 0, 0), some (.iload_n 1, 1, 0, 0, 0), some (.iadd, 1, 0, 0, 0), some (.goto 4, 3, 0, 0, 0), none, none, some (.iload_n 2, 1, 0, 0, 0), some (.ireturn, 1, 0, 0, 0)]]
def cd_201 : List (List (Option si_E)) := [[some (.aload_n 0, 1, 0, 0, 0), some (.invokespecial 1, 3, 0, 9, 1359), none, none, some (.aload_n 0, 1, 0, 0, 0), some (.bipush 26, 2, 0, 0, 0), none, some (.newarray .int, 2, 0, 0, 174), none, some (.putfield 7, 3, 11, 0, 1381), none, none, some (.aload_n 0, 1, 0, 0, 0), some (.bipush 26, 2, 0, 0, 0), none, some (.newarray .int, 2, 0, 0, 174), none, some (.putfield 13, 3, 11, 1, 1382), none, none, some (.aload_n 0, 1, 0, 0, 0), some (.bipush 26, 2, 0, 0, 0), none, some (.newarray .int, 2, 0, 0, 174), none, some (.putfield 16, 3, 11, 2, 1383), none, none, some (.aload_n 0, 1, 0, 0, 0), some (.bipush 16, 2, 0, 0, 0), none, some (.newarray .int, 2, 0, 0, 174)], [none, some (.putfield 19, 3, 11, 3, 1384), none, none, some (.aload_n 0, 1, 0, 0, 0), some (.bipush 16, 2, 0, 0, 0), none, some (.newarray .int, 2, 0, 0, 174), none, some (.putfield 22, 3, 11, 4, 1385), none, none, some (.aload_n 0, 1, 0, 0, 0), some (.bipush 16, 2, 0, 0, 0), none, some (.newarray .int, 2, 0, 0, 174), none, some (.putfield 25, 3, 11, 5, 1386), none, none, some (.aload_n 0, 1, 0, 0, 0), some (.bipush 16, 2, 0, 0, 0), none, some (.newarray .int, 2, 0, 0, 174), none, some (.putfield 28, 3, 11, 6, 1387), none, none, some (.aload_n 0, 1, 0, 0, 0), some (.sipush 1440, 3, 0, 0, 0), none, none], [some (.newarray .int, 2, 0, 0, 174), none, some (.putfield 31, 3, 11, 12, 1393), none, none, some (.aload_n 0, 1, 0, 0, 0), some (.sipush 4096, 3, 0, 0, 0), none, none, some (.newarray .int, 2, 0, 0, 174), none, some (.putfield 34, 3, 11, 13, 1394), none, none, some (.aload_n 0, 1, 0, 0, 0), some (.sipush 4096, 3, 0, 0, 0), none, none, some (.newarray .int, 2, 0, 0, 174), none, some (.putfield 37, 3, 11, 14, 1395), none, none, some (.aload_n 0, 1, 0, 0, 0), some (.sipush 260, 3, 0, 0, 0), none, none, some (.newarray .byte, 2, 0, 0, 346), none, some (.putfield 40, 3, 11, 15, 1396), none, none], [some (.aload_n 0, 1, 0, 0, 0), some (.sipush 260, 3, 0, 0, 0), none, none, some (.newarray .int, 2, 0, 0, 174), none, some (.putfield 44, 3, 11, 26, 1407), none, none, some (.aload_n 0, 1, 0, 0, 0), some (.sipush 260, 3, 0, 0, 0), none, none, some (.newarray .int, 2, 0, 0, 174), none, some (.putfield 47, 3, 11, 27, 1408), none, none, some (.aload_n 0, 1, 0, 0, 0), some (.bipush 16, 2, 0, 0, 0), none, some (.newarray .int, 2, 0, 0, 174), none, some (.putfield 50, 3, 11, 28, 1409), none, none, some (.aload_n 0, 1, 0, 0, 0), some (.bipush 16, 2, 0, 0, 0), none, some (.newarray .int, 2, 0, 0, 174), none, some (.putfield 53, 3, 11, 29, 1410)], [none, none, some (.aload_n 0, 1, 0, 0, 0), some (.bipush 16, 2, 0, 0, 0), none, some (.newarray .int, 2, 0, 0, 174), none, some (.putfield 56, 3, 11, 30, 1411), none, none, some (.aload_n 0, 1, 0, 0, 0), some (.bipush 16, 2, 0, 0, 0), none, some (.newarray .int, 2, 0, 0, 174), none, some (.putfield 59, 3, 11, 31, 1412), none, none, some (.aload_n 0, 1, 0, 0, 0), some (.sipush 260, 3, 0, 0, 0), none, none, some (.newarray .int, 2, 0, 0, 174), none, some (.putfield 62, 3, 11, 32, 1413), none, none, some (.aload_n 0, 1, 0, 0, 0), some (.bipush 16, 2, 0, 0, 0), none, some (.newarray .int, 2, 0, 0, 174), none], [some (.putfield 65, 3, 11, 33, 1414), none, none, some (.aload_n 0, 1, 0, 0, 0), some (.bipush 16, 2, 0, 0, 0), none, some (.newarray .int, 2, 0, 0, 174), none, some (.putfield 68, 3, 11, 34, 1415), none, none, some (.aload_n 0, 1, 0, 0, 0), some (.bipush 16, 2, 0, 0, 0), none, some (.newarray .int, 2, 0, 0, 174), none, some (.putfield 71, 3, 11, 35, 1416), none, none, some (.aload_n 0, 1, 0, 0, 0), some (.bipush 16, 2, 0, 0, 0), none, some (.newarray .int, 2, 0, 0, 174), none, some (.putfield 74, 3, 11, 36, 1417), none, none, some (.aload_n 0, 1, 0, 0, 0), some (.sipush 260, 3, 0, 0, 0), none, none, some (.newarray .int, 2, 0, 0, 174)], [none, some (.putfield 77, 3, 11, 37, 1418), none, none, some (.aload_n 0, 1, 0, 0, 0), some (.bipush 8, 2, 0, 0, 0), none, some (.newarray .int, 2, 0, 0, 174), none, some (.putfield 80, 3, 11, 38, 1419), none, none, some (.aload_n 0, 1, 0, 0, 0), some (.bipush 8, 2, 0, 0, 0), none, some (.newarray .int, 2, 0, 0, 174), none, some (.putfield 83, 3, 11, 39, 1420), none, none, some (.aload_n 0, 1, 0, 0, 0), some (.bipush 8, 2, 0, 0, 0), none, some (.newarray .int, 2, 0, 0, 174), none, some (.putfield 86, 3, 11, 40, 1421), none, none, some (.aload_n 0, 1, 0, 0, 0), some (.bipush 16, 2, 0, 0, 0), none, some (.newarray .int, 2, 0, 0, 174)], [none, some (.putfield 89, 3, 11, 41, 1422), none, none, some (.aload_n 0, 1, 0, 0, 0), some (.bipush 16, 2, 0, 0, 0), none, some (.newarray .int, 2, 0, 0, 174), none, some (.putfield 92, 3, 11, 42, 1423), none, none, some (.aload_n 0, 1, 0, 0, 0), some (.bipush 16, 2, 0, 0, 0), none, some (.newarray .int, 2, 0, 0, 174), none, some (.putfield 95, 3, 11, 43, 1424), none, none, some (.aload_n 0, 1, 0, 0, 0), some (.bipush 16, 2, 0, 0, 0), none, some (.newarray .int, 2, 0, 0, 174), none, some (.putfield 98, 3, 11, 44, 1425), none, none, some (.aload_n 0, 1, 0, 0, 0), some (.sipush 1440, 3, 0, 0, 0), none, none], [some (.newarray .long, 2, 0, 0, 219), none, some (.putfield 101, 3, 11, 48, 1429), none, none, some (.aload_n 0, 1, 0, 0, 0), some (.sipush 1440, 3, 0, 0, 0), none, none, some (.newarray .long, 2, 0, 0, 219), none, some (.putfield 105, 3, 11, 49, 1430), none, none, some (.aload_n 0, 1, 0, 0, 0), some (.sipush 1440, 3, 0, 0, 0), none, none, some (.newarray .boolean, 2, 0, 0, 300), none, some (.putfield 108, 3, 11, 50, 1431), none, none, some (.aload_n 0, 1, 0, 0, 0), some (.sipush 11520, 3, 0, 0, 0), none, none, some (.newarray .boolean, 2, 0, 0, 300), none, some (.putfield 112, 3, 11, 51, 1432), none, none], [some (.aload_n 0, 1, 0, 0, 0), some (.sipush 11520, 3, 0, 0, 0), none, none, some (.newarray .boolean, 2, 0, 0, 300), none, some (.putfield 115, 3, 11, 52, 1433), none, none, some (.aload_n 0, 1, 0, 0, 0), some (.bipush 96, 2, 0, 0, 0), none, some (.newarray .int, 2, 0, 0, 174), none, some (.putfield 118, 3, 11, 53, 1434), none, none, some (.aload_n 0, 1, 0, 0, 0), some (.bipush 6, 2, 0, 0, 0), none, some (.newarray .int, 2, 0, 0, 174), none, some (.putfield 121, 3, 11, 54, 1435), none, none, some (.aload_n 0, 1, 0, 0, 0), some (.sipush 6144, 3, 0, 0, 0), none, none, some (.newarray .long, 2, 0, 0, 219), none, some (.putfield 124, 3, 11, 55, 1436)], [none, none, some (.aload_n 0, 1, 0, 0, 0), some (.bipush 48, 2, 0, 0, 0), none, some (.newarray .int, 2, 0, 0, 174), none, some (.putfield 127, 3, 11, 56, 1437), none, none, some (.aload_n 0, 1, 0, 0, 0), some (.bipush 48, 2, 0, 0, 0), none, some (.newarray .int, 2, 0, 0, 174), none, some (.putfield 130, 3, 11, 57, 1438), none, none, some (.aload_n 0, 1, 0, 0, 0), some (.sipush 1440, 3, 0, 0, 0), none, none, some (.newarray .int, 2, 0, 0, 174), none, some (.putfield 133, 3, 11, 59, 1440), none, none, some (.aload_n 0, 1, 0, 0, 0), some (.sipush 1440, 3, 0, 0, 0), none, none, some (.newarray .int, 2, 0, 0, 174)], [none, some (.putfield 136, 3, 11, 60, 1441), none, none, some (.aload_n 0, 1, 0, 0, 0), some (.getfield 7, 3, 11, 0, 1381), none, none, some (.bipush 25, 2, 0, 0, 0), none, some (.iconst 1, 1, 0, 0, 0), some (.iastore, 1, 0, 0, 0), some (.aload_n 0, 1, 0, 0, 0), some (.bipush 60, 2, 0, 0, 0), none, some (.bipush 12, 2, 0, 0, 0), none, some (.invokevirtual 139, 3, 217, 0, 1360), none, none, some (.return_, 1, 0, 0, 0)]]
def cd_202 : List (List (Option si_E)) := [[some (.iload_n 0, 1, 0, 0, 0), some (.iload_n 1, 1, 0, 0, 0), some (.if_icmp .lt 12, 3, 0, 0, 0), none, none, some (.iload_n 0, 1, 0, 0, 0), some (.iload_n 2, 1, 0, 0, 0), some (.if_icmp .gt 7, 3, 0, 0, 0), none, none, some (.iconst 1, 1, 0, 0, 0), some (.goto 4, 3, 0, 0, 0), none, none, some (.iconst 0, 1, 0, 0, 0), some (.ireturn, 1, 0, 0, 0)]]
def cd_203 : List (List (Option si_E)) := [[some (.iload_n 0, 1, 0, 0, 0), some (.iload_n 1, 1, 0, 0, 0), some (.if_icmp .ge 7, 3, 0, 0, 0), none, none, some (.iload_n 0, 1, 0, 0, 0), some (.goto 4, 3, 0, 0, 0), none, none, some (.iload_n 1, 1, 0, 0, 0), some (.ireturn, 1, 0, 0, 0)]]
def cd_204 : List (List (Option si_E)) := [[some (.iload_n 0, 1, 0, 0, 0), some (.iload_n 1, 1, 0, 0, 0), some (.if_icmp .le 7, 3, 0, 0, 0), none, none, some (.iload_n 0, 1, 0, 0, 0), some (.goto 4, 3, 0, 0, 0), none, none, some (.iload_n 1, 1, 0, 0, 0), some (.ireturn, 1, 0, 0, 0)]]
def cd_205 : List (List (Option si_E)) := [[some (.iload_n 0, 1, 0, 0, 0), some (.ifCond .ge 8, 3, 0, 0, 0), none, none, some (.iload_n 0, 1, 0, 0, 0), some (.ineg, 1, 0, 0, 0), some (.goto 4, 3, 0, 0, 0), none, none, some (.iload_n 0, 1, 0, 0, 0), some (.ireturn, 1, 0, 0, 0)]]
def cd_206 : List (List (Option si_E)) := [[some (.iload_n 0, 1, 0, 0, 0), some (.iload_n 1, 1, 0, 0, 0), some (.ishr, 1, 0, 0, 0), some (.iconst 1, 1, 0, 0, 0), some (.iand, 1, 0, 0, 0), some (.iconst 1, 1, 0, 0, 0), some (.if_icmp .ne 7, 3, 0, 0, 0), none, none, some (.iconst 1, 1, 0, 0, 0), some (.goto 4, 3, 0, 0, 0), none, none, some (.iconst 0, 1, 0, 0, 0), some (.ireturn, 1, 0, 0, 0)]]
def cd_207 : List (List (Option si_E)) := [[some (.iload_n 0, 1, 0, 0, 0), some (.ifCond .lt 9, 3, 0, 0, 0), none, none, some (.iload_n 0, 1, 0, 0, 0), some (.iload_n 1, 1, 0, 0, 0), some (.idiv, 1, 0, 0, 0), some (.goto 11, 3, 0, 0, 0), none, none, some (.iload_n 1, 1, 0, 0, 0), some (.iconst 1, 1, 0, 0, 0), some (.isub, 1, 0, 0, 0), some (.iload_n 0, 1, 0, 0, 0), some (.isub, 1, 0, 0, 0), some (.iload_n 1, 1, 0, 0, 0), some (.idiv, 1, 0, 0, 0), some (.ineg, 1, 0, 0, 0), some (.ireturn, 1, 0, 0, 0)]]
def cd_208 : List (List (Option si_E)) := [[some (.iload_n 0, 1, 0, 0, 0), some (.iload_n 1, 1, 0, 0, 0), some (.iload_n 0, 1, 0, 0, 0), some (.iload_n 1, 1, 0, 0, 0), some (.invokestatic 143, 3, 207, 0, 1613), none, none, some (.imul, 1, 0, 0, 0), some (.isub, 1, 0, 0, 0), some (.ireturn, 1, 0, 0, 0)]]
def cd_209 : List (List (Option si_E)) := [[some (.iload_n 0, 1, 0, 0, 0), some (.iload_n 1, 1, 0, 0, 0), some (.isub, 1, 0, 0, 0), some (.iload_n 2, 1, 0, 0, 0), some (.invokestatic 147, 3, 208, 0, 1610), none, none, some (.iload_n 1, 1, 0, 0, 0), some (.iload_n 0, 1, 0, 0, 0), some (.isub, 1, 0, 0, 0), some (.iload_n 2, 1, 0, 0, 0), some (.invokestatic 147, 3, 208, 0, 1610), none, none, some (.invokestatic 150, 3, 203, 0, 1375), none, none, some (.ireturn, 1, 0, 0, 0)]]
def cd_210 : List (List (Option si_E)) := [[some (.iconst 0, 1, 0, 0, 0), some (.istore_n 2, 1, 0, 0, 0), some (.iload_n 2, 1, 0, 0, 0), some (.bipush 26, 2, 0, 0, 0), none, some (.if_icmp .ge 15, 3, 0, 0, 0), none, none, some (.aload_n 1, 1, 0, 0, 0), some (.iload_n 2, 1, 0, 0, 0), some (.aload_n 0, 1, 0, 0, 0), some (.iload_n 2, 1, 0, 0, 0), some (.iaload, 1, 0, 0, 0), some (.iastore, 1, 0, 0, 0), some (.iinc 2 1, 3, 0, 0, 0), none, none, some (.goto (-15), 3, 0, 0, 0), none, none, some (.return_, 1, 0, 0, 0)]]
def cd_211 : List (List (Option si_E)) := [[some (.iload_n 1, 1, 0, 0, 0), some (.iconst 0, 1, 0, 0, 0), some (.aload_n 0, 1, 0, 0, 0), some (.getfield 153, 3, 11, 9, 1390), none, none, some (.iconst 1, 1, 0, 0, 0), some (.isub, 1, 0, 0, 0), some (.invokestatic 157, 3, 202, 0, 1584), none, none, some (.ireturn, 1, 0, 0, 0)]]
def cd_212 : List (List (Option si_E)) := [[some (.iload_n 1, 1, 0, 0, 0), some (.iconst 0, 1, 0, 0, 0), some (.bipush 7, 2, 0, 0, 0), none, some (.invokestatic 157, 3, 202, 0, 1584), none, none, some (.ifCond .eq 18, 3, 0, 0, 0), none, none, some (.aload_n 0, 1, 0, 0, 0), some (.getfield 161, 3, 11, 10, 1391), none, none, some (.iload_n 1, 1, 0, 0, 0), some (.invokestatic 164, 3, 206, 0, 1775), none, none, some (.ifCond .eq 7, 3, 0, 0, 0), none, none, some (.iconst 1, 1, 0, 0, 0), some (.goto 4, 3, 0, 0, 0), none, none, some (.iconst 0, 1, 0, 0, 0), some (.ireturn, 1, 0, 0, 0)]]
def cd_213 : List (List (Option si_E)) := [[some (.aload_n 0, 1, 0, 0, 0), some (.iload_n 1, 1, 0, 0, 0), some (.invokevirtual 168, 3, 212, 0, 1907), none, none, some (.ifCond .eq 20, 3, 0, 0, 0), none, none, some (.aload_n 0, 1, 0, 0, 0), some (.iload_n 2, 1, 0, 0, 0), some (.invokevirtual 168, 3, 212, 0, 1907), none, none, some (.ifCond .eq 12, 3, 0, 0, 0), none, none, some (.iload_n 1, 1, 0, 0, 0), some (.iload_n 2, 1, 0, 0, 0), some (.if_icmp .eq 7, 3, 0, 0, 0), none, none, some (.iconst 1, 1, 0, 0, 0), some (.goto 4, 3, 0, 0, 0), none, none, some (.iconst 0, 1, 0, 0, 0), some (.ireturn, 1, 0, 0, 0)]]
def cd_214 : List (List (Option si_E)) := [[some (.bipush 64, 2, 0, 0, 0), none, some (.iload_n 0, 1, 0, 0, 0), some (.iload_n 1, 1, 0, 0, 0), some (.invokestatic 150, 3, 203, 0, 1375), none, none, some (.imul, 1, 0, 0, 0), some (.iload_n 0, 1, 0, 0, 0), some (.iload_n 1, 1, 0, 0, 0), some (.invokestatic 172, 3, 204, 0, 1378), none, none, some (.iadd, 1, 0, 0, 0), some (.ireturn, 1, 0, 0, 0)]]
def cd_215 : List (List (Option si_E)) := [[some (.iload_n 1, 1, 0, 0, 0), some (.aload_n 0, 1, 0, 0, 0), some (.getfield 175, 3, 11, 7, 1388), none, none, some (.irem, 1, 0, 0, 0), some (.ireturn, 1, 0, 0, 0)]]
def cd_216 : List (List (Option si_E)) := [[some (.iload_n 1, 1, 0, 0, 0), some (.aload_n 0, 1, 0, 0, 0), some (.getfield 178, 3, 11, 8, 1389), none, none, some (.idiv, 1, 0, 0, 0), some (.ireturn, 1, 0, 0, 0)]]
def cd_217 : List (List (Option si_E)) := [[some (.aload_n 0, 1, 0, 0, 0), some (.iload_n 1, 1, 0, 0, 0), some (.putfield 175, 3, 11, 7, 1388), none, none, some (.aload_n 0, 1, 0, 0, 0), some (.iload_n 2, 1, 0, 0, 0), some (.putfield 178, 3, 11, 8, 1389), none, none, some (.aload_n 0, 1, 0, 0, 0), some (.iload_n 1, 1, 0, 0, 0), some (.iload_n 2, 1, 0, 0, 0), some (.imul, 1, 0, 0, 0), some (.putfield 153, 3, 11, 9, 1390), none, none, some (.aload_n 0, 1, 0, 0, 0), some (.iconst 0, 1, 0, 0, 0), some (.putfield 161, 3, 11, 10, 1391), none, none, some (.aload_n 0, 1, 0, 0, 0), some (.iconst 0, 1, 0, 0, 0), some (.putfield 181, 3, 11, 11, 1392), none, none, some (.iconst 0, 1, 0, 0, 0), some (.istore_n 3, 1, 0, 0, 0), some (.iload_n 3, 1, 0, 0, 0), some (.sipush 4096, 3, 0, 0, 0), none], [none, some (.if_icmp .ge 16, 3, 0, 0, 0), none, none, some (.aload_n 0, 1, 0, 0, 0), some (.getfield 34, 3, 11, 13, 1394), none, none, some (.iload_n 3, 1, 0, 0, 0), some (.iconst 0, 1, 0, 0, 0), some (.iastore, 1, 0, 0, 0), some (.iinc 3 1, 3, 0, 0, 0), none, none, some (.goto (-17), 3, 0, 0, 0), none, none, some (.iconst 0, 1, 0, 0, 0), some (.istore_n 3, 1, 0, 0, 0), some (.iload_n 3, 1, 0, 0, 0), some (.aload_n 0, 1, 0, 0, 0), some (.getfield 153, 3, 11, 9, 1390), none, none, some (.if_icmp .ge 52, 3, 0, 0, 0), none, none, some (.aload_n 0, 1, 0, 0, 0), some (.getfield 31, 3, 11, 12, 1393), none, none, some (.iload_n 3, 1, 0, 0, 0)], [some (.aload_n 0, 1, 0, 0, 0), some (.iload_n 3, 1, 0, 0, 0), some (.invokevirtual 184, 3, 215, 0, 1364), none, none, some (.aload_n 0, 1, 0, 0, 0), some (.iload_n 3, 1, 0, 0, 0), some (.invokevirtual 188, 3, 216, 0, 1368), none, none, some (.invokestatic 191, 3, 214, 0, 1372), none, none, some (.iastore, 1, 0, 0, 0), some (.aload_n 0, 1, 0, 0, 0), some (.getfield 34, 3, 11, 13, 1394), none, none, some (.aload_n 0, 1, 0, 0, 0), some (.getfield 31, 3, 11, 12, 1393), none, none, some (.iload_n 3, 1, 0, 0, 0), some (.iaload, 1, 0, 0, 0), some (.aload_n 0, 1, 0, 0, 0), some (.getfield 34, 3, 11, 13, 1394), none, none, some (.aload_n 0, 1, 0, 0, 0), some (.getfield 31, 3, 11, 12, 1393), none, none], [some (.iload_n 3, 1, 0, 0, 0), some (.iaload, 1, 0, 0, 0), some (.iaload, 1, 0, 0, 0), some (.iconst 1, 1, 0, 0, 0), some (.iadd, 1, 0, 0, 0), some (.iastore, 1, 0, 0, 0), some (.iinc 3 1, 3, 0, 0, 0), none, none, some (.goto (-54), 3, 0, 0, 0), none, none, some (.return_, 1, 0, 0, 0)]]
def cd_218 : List (List (Option si_E)) := [[some (.iload_n 1, 1, 0, 0, 0), some (.iconst 4, 1, 0, 0, 0), some (.bipush 60, 2, 0, 0, 0), none, some (.invokestatic 157, 3, 202, 0, 1584), none, none, some (.ifCond .eq 13, 3, 0, 0, 0), none, none, some (.iload_n 2, 1, 0, 0, 0), some (.iconst 2, 1, 0, 0, 0), some (.bipush 24, 2, 0, 0, 0), none, some (.invokestatic 157, 3, 202, 0, 1584), none, none, some (.ifCond .ne 5, 3, 0, 0, 0), none, none, some (.iconst 0, 1, 0, 0, 0), some (.ireturn, 1, 0, 0, 0), some (.aload_n 0, 1, 0, 0, 0), some (.iload_n 1, 1, 0, 0, 0), some (.iload_n 2, 1, 0, 0, 0), some (.invokevirtual 139, 3, 217, 0, 1360), none, none, some (.iconst 1, 1, 0, 0, 0), some (.ireturn, 1, 0, 0, 0)]]
def cd_219 : List (List (Option si_E)) := [[some (.iload_n 1, 1, 0, 0, 0), some (.iconst 1, 1, 0, 0, 0), some (.iadd, 1, 0, 0, 0), some (.aload_n 0, 1, 0, 0, 0), some (.getfield 153, 3, 11, 9, 1390), none, none, some (.irem, 1, 0, 0, 0), some (.istore_n 2, 1, 0, 0, 0), some (.aload_n 0, 1, 0, 0, 0), some (.getfield 31, 3, 11, 12, 1393), none, none, some (.iload_n 2, 1, 0, 0, 0), some (.iaload, 1, 0, 0, 0), some (.aload_n 0, 1, 0, 0, 0), some (.getfield 31, 3, 11, 12, 1393), none, none, some (.iload_n 1, 1, 0, 0, 0), some (.iaload, 1, 0, 0, 0), some (.if_icmp .eq 15, 3, 0, 0, 0), none, none, some (.iload_n 2, 1, 0, 0, 0), some (.iconst 1, 1, 0, 0, 0), some (.iadd, 1, 0, 0, 0), some (.aload_n 0, 1, 0, 0, 0), some (.getfield 153, 3, 11, 9, 1390), none, none, some (.irem, 1, 0, 0, 0)], [some (.istore_n 2, 1, 0, 0, 0), some (.goto (-24), 3, 0, 0, 0), none, none, some (.iload_n 2, 1, 0, 0, 0), some (.ireturn, 1, 0, 0, 0)]]
def cd_220 : List (List (Option si_E)) := [[some (.aload_n 0, 1, 0, 0, 0), some (.getfield 175, 3, 11, 7, 1388), none, none, some (.aload_n 0, 1, 0, 0, 0), some (.iload_n 1, 1, 0, 0, 0), some (.invokevirtual 184, 3, 215, 0, 1364), none, none, some (.isub, 1, 0, 0, 0), some (.aload_n 0, 1, 0, 0, 0), some (.getfield 175, 3, 11, 7, 1388), none, none, some (.irem, 1, 0, 0, 0), some (.aload_n 0, 1, 0, 0, 0), some (.getfield 175, 3, 11, 7, 1388), none, none, some (.aload_n 0, 1, 0, 0, 0), some (.iload_n 1, 1, 0, 0, 0), some (.invokevirtual 188, 3, 216, 0, 1368), none, none, some (.isub, 1, 0, 0, 0), some (.aload_n 0, 1, 0, 0, 0), some (.getfield 175, 3, 11, 7, 1388), none, none, some (.irem, 1, 0, 0, 0), some (.invokestatic 191, 3, 214, 0, 1372), none], [none, some (.ireturn, 1, 0, 0, 0)]]
def cd_221 : List (List (Option si_E)) := [[some (.iconst 0, 1, 0, 0, 0), some (.istore_n 2, 1, 0, 0, 0), some (.iload_n 2, 1, 0, 0, 0), some (.aload_n 0, 1, 0, 0, 0), some (.getfield 153, 3, 11, 9, 1390), none, none, some (.if_icmp .ge 21, 3, 0, 0, 0), none, none, some (.aload_n 0, 1, 0, 0, 0), some (.getfield 31, 3, 11, 12, 1393), none, none, some (.iload_n 2, 1, 0, 0, 0), some (.iaload, 1, 0, 0, 0), some (.iload_n 1, 1, 0, 0, 0), some (.if_icmp .ne 5, 3, 0, 0, 0), none, none, some (.iload_n 2, 1, 0, 0, 0), some (.ireturn, 1, 0, 0, 0), some (.iinc 2 1, 3, 0, 0, 0), none, none, some (.goto (-23), 3, 0, 0, 0), none, none, some (.bipush (-2), 2, 0, 0, 0), none, some (.ireturn, 1, 0, 0, 0)]]
def cd_222 : List (List (Option si_E)) := [[some (.aload_n 0, 1, 0, 0, 0), some (.iload_n 1, 1, 0, 0, 0), some (.invokevirtual 194, 3, 211, 0, 1591), none, none, some (.ifCond .ne 5, 3, 0, 0, 0), none, none, some (.iconst (-1), 1, 0, 0, 0), some (.ireturn, 1, 0, 0, 0), some (.iload_n 2, 1, 0, 0, 0), some (.tableswitch 95 0 5 #[37, 43, 49, 61, 67, 77], 37, 0, 0, 0), none, none, none, none, none, none, none, none, none, none, none, none, none, none, none, none, none, none, none, none], [none, none, none, none, none, none, none, none, none, none, none, none, none, none, none, none, some (.aload_n 0, 1, 0, 0, 0), some (.iload_n 1, 1, 0, 0, 0), some (.invokevirtual 188, 3, 216, 0, 1368), none, none, some (.ireturn, 1, 0, 0, 0), some (.aload_n 0, 1, 0, 0, 0), some (.iload_n 1, 1, 0, 0, 0), some (.invokevirtual 184, 3, 215, 0, 1364), none, none, some (.ireturn, 1, 0, 0, 0), some (.aload_n 0, 1, 0, 0, 0), some (.getfield 34, 3, 11, 13, 1394), none, none], [some (.aload_n 0, 1, 0, 0, 0), some (.getfield 31, 3, 11, 12, 1393), none, none, some (.iload_n 1, 1, 0, 0, 0), some (.iaload, 1, 0, 0, 0), some (.iaload, 1, 0, 0, 0), some (.ireturn, 1, 0, 0, 0), some (.aload_n 0, 1, 0, 0, 0), some (.iload_n 1, 1, 0, 0, 0), some (.invokevirtual 197, 3, 219, 0, 1595), none, none, some (.ireturn, 1, 0, 0, 0), some (.aload_n 0, 1, 0, 0, 0), some (.aload_n 0, 1, 0, 0, 0), some (.iload_n 1, 1, 0, 0, 0), some (.invokevirtual 200, 3, 220, 0, 1599), none, none, some (.invokevirtual 203, 3, 221, 0, 1603), none, none, some (.ireturn, 1, 0, 0, 0), some (.aload_n 0, 1, 0, 0, 0), some (.iload_n 1, 1, 0, 0, 0), some (.invokevirtual 184, 3, 215, 0, 1364), none, none, some (.aload_n 0, 1, 0, 0, 0), some (.iload_n 1, 1, 0, 0, 0), some (.invokevirtual 188, 3, 216, 0, 1368)], [none, none, some (.aload_n 0, 1, 0, 0, 0), some (.getfield 175, 3, 11, 7, 1388), none, none, some (.invokestatic 206, 3, 209, 0, 1607), none, none, some (.ireturn, 1, 0, 0, 0), some (.iconst (-1), 1, 0, 0, 0), some (.ireturn, 1, 0, 0, 0)]]
def cd_223 : List (List (Option si_E)) := [[some (.aload_n 0, 1, 0, 0, 0), some (.iload_n 1, 1, 0, 0, 0), some (.invokevirtual 194, 3, 211, 0, 1591), none, none, some (.ifCond .ne 5, 3, 0, 0, 0), none, none, some (.iconst (-1), 1, 0, 0, 0), some (.ireturn, 1, 0, 0, 0), some (.iconst 0, 1, 0, 0, 0), some (.istore_n 2, 1, 0, 0, 0), some (.iload_n 2, 1, 0, 0, 0), some (.aload_n 0, 1, 0, 0, 0), some (.getfield 153, 3, 11, 9, 1390), none, none, some (.if_icmp .ge 37, 3, 0, 0, 0), none, none, some (.aload_n 0, 1, 0, 0, 0), some (.iload_n 2, 1, 0, 0, 0), some (.invokevirtual 188, 3, 216, 0, 1368), none, none, some (.aload_n 0, 1, 0, 0, 0), some (.iload_n 1, 1, 0, 0, 0), some (.invokevirtual 184, 3, 215, 0, 1364), none, none, some (.if_icmp .ne 18, 3, 0, 0, 0), none], [none, some (.aload_n 0, 1, 0, 0, 0), some (.iload_n 2, 1, 0, 0, 0), some (.invokevirtual 184, 3, 215, 0, 1364), none, none, some (.aload_n 0, 1, 0, 0, 0), some (.iload_n 1, 1, 0, 0, 0), some (.invokevirtual 188, 3, 216, 0, 1368), none, none, some (.if_icmp .ne 5, 3, 0, 0, 0), none, none, some (.iload_n 2, 1, 0, 0, 0), some (.ireturn, 1, 0, 0, 0), some (.iinc 2 1, 3, 0, 0, 0), none, none, some (.goto (-39), 3, 0, 0, 0), none, none, some (.bipush (-2), 2, 0, 0, 0), none, some (.ireturn, 1, 0, 0, 0)]]
def cd_224 : List (List (Option si_E)) := [[some (.iload_n 1, 1, 0, 0, 0), some (.iconst 0, 1, 0, 0, 0), some (.iconst 1, 1, 0, 0, 0), some (.invokestatic 157, 3, 202, 0, 1584), none, none, some (.ifCond .ne 5, 3, 0, 0, 0), none, none, some (.iconst (-1), 1, 0, 0, 0), some (.ireturn, 1, 0, 0, 0), some (.iconst 0, 1, 0, 0, 0), some (.istore_n 2, 1, 0, 0, 0), some (.iconst 0, 1, 0, 0, 0), some (.istore_n 3, 1, 0, 0, 0), some (.iload_n 3, 1, 0, 0, 0), some (.aload_n 0, 1, 0, 0, 0), some (.getfield 153, 3, 11, 9, 1390), none, none, some (.if_icmp .ge 47, 3, 0, 0, 0), none, none, some (.iload_n 1, 1, 0, 0, 0), some (.ifCond .ne 19, 3, 0, 0, 0), none, none, some (.aload_n 0, 1, 0, 0, 0), some (.getfield 34, 3, 11, 13, 1394), none, none, some (.aload_n 0, 1, 0, 0, 0)], [some (.iload_n 3, 1, 0, 0, 0), some (.invokevirtual 200, 3, 220, 0, 1599), none, none, some (.iaload, 1, 0, 0, 0), some (.ifCond .le 24, 3, 0, 0, 0), none, none, some (.goto 17, 3, 0, 0, 0), none, none, some (.aload_n 0, 1, 0, 0, 0), some (.iload_n 3, 1, 0, 0, 0), some (.invokevirtual 200, 3, 220, 0, 1599), none, none, some (.aload_n 0, 1, 0, 0, 0), some (.getfield 31, 3, 11, 12, 1393), none, none, some (.iload_n 3, 1, 0, 0, 0), some (.iaload, 1, 0, 0, 0), some (.if_icmp .ne 7, 3, 0, 0, 0), none, none, some (.iload_n 2, 1, 0, 0, 0), some (.iconst 1, 1, 0, 0, 0), some (.iadd, 1, 0, 0, 0), some (.istore_n 2, 1, 0, 0, 0), some (.iinc 3 1, 3, 0, 0, 0), none, none], [some (.goto (-49), 3, 0, 0, 0), none, none, some (.iload_n 2, 1, 0, 0, 0), some (.ireturn, 1, 0, 0, 0)]]
def cd_225 : List (List (Option si_E)) := [[some (.aload_n 0, 1, 0, 0, 0), some (.getfield 34, 3, 11, 13, 1394), none, none, some (.aload_n 0, 1, 0, 0, 0), some (.getfield 31, 3, 11, 12, 1393), none, none, some (.iload_n 1, 1, 0, 0, 0), some (.iaload, 1, 0, 0, 0), some (.iaload, 1, 0, 0, 0), some (.iconst 1, 1, 0, 0, 0), some (.if_icmp .ne 7, 3, 0, 0, 0), none, none, some (.iconst 1, 1, 0, 0, 0), some (.goto 4, 3, 0, 0, 0), none, none, some (.iconst 0, 1, 0, 0, 0), some (.ireturn, 1, 0, 0, 0)]]
def cd_226 : List (List (Option si_E)) := [[some (.iconst 0, 1, 0, 0, 0), some (.istore_n 1, 1, 0, 0, 0), some (.iconst 0, 1, 0, 0, 0), some (.istore_n 2, 1, 0, 0, 0), some (.iload_n 2, 1, 0, 0, 0), some (.aload_n 0, 1, 0, 0, 0), some (.getfield 153, 3, 11, 9, 1390), none, none, some (.if_icmp .ge 21, 3, 0, 0, 0), none, none, some (.aload_n 0, 1, 0, 0, 0), some (.iload_n 2, 1, 0, 0, 0), some (.invokevirtual 210, 3, 225, 0, 1640), none, none, some (.ifCond .ne 7, 3, 0, 0, 0), none, none, some (.iload_n 1, 1, 0, 0, 0), some (.iconst 1, 1, 0, 0, 0), some (.iadd, 1, 0, 0, 0), some (.istore_n 1, 1, 0, 0, 0), some (.iinc 2 1, 3, 0, 0, 0), none, none, some (.goto (-23), 3, 0, 0, 0), none, none, some (.iload_n 1, 1, 0, 0, 0), some (.ireturn, 1, 0, 0, 0)]]
def cd_227 : List (List (Option si_E)) := [[some (.iconst 0, 1, 0, 0, 0), some (.istore_n 3, 1, 0, 0, 0), some (.iload_n 3, 1, 0, 0, 0), some (.sipush 4096, 3, 0, 0, 0), none, none, some (.if_icmp .ge 16, 3, 0, 0, 0), none, none, some (.aload_n 0, 1, 0, 0, 0), some (.getfield 37, 3, 11, 14, 1395), none, none, some (.iload_n 3, 1, 0, 0, 0), some (.iconst 0, 1, 0, 0, 0), some (.iastore, 1, 0, 0, 0), some (.iinc 3 1, 3, 0, 0, 0), none, none, some (.goto (-17), 3, 0, 0, 0), none, none, some (.iconst 0, 1, 0, 0, 0), some (.istore_n 3, 1, 0, 0, 0), some (.iload_n 3, 1, 0, 0, 0), some (.iload_n 1, 1, 0, 0, 0), some (.iload_n 2, 1, 0, 0, 0), some (.imul, 1, 0, 0, 0), some (.if_icmp .ge 36, 3, 0, 0, 0), none, none, some (.iload_n 3, 1, 0, 0, 0)], [some (.iload_n 1, 1, 0, 0, 0), some (.irem, 1, 0, 0, 0), some (.iload_n 3, 1, 0, 0, 0), some (.iload_n 2, 1, 0, 0, 0), some (.idiv, 1, 0, 0, 0), some (.invokestatic 191, 3, 214, 0, 1372), none, none, some (.istore 4, 2, 0, 0, 0), none, some (.aload_n 0, 1, 0, 0, 0), some (.getfield 37, 3, 11, 14, 1395), none, none, some (.iload 4, 2, 0, 0, 0), none, some (.aload_n 0, 1, 0, 0, 0), some (.getfield 37, 3, 11, 14, 1395), none, none, some (.iload 4, 2, 0, 0, 0), none, some (.iaload, 1, 0, 0, 0), some (.iconst 1, 1, 0, 0, 0), some (.iadd, 1, 0, 0, 0), some (.iastore, 1, 0, 0, 0), some (.iinc 3 1, 3, 0, 0, 0), none, none, some (.goto (-37), 3, 0, 0, 0), none, none], [some (.iconst 0, 1, 0, 0, 0), some (.istore_n 3, 1, 0, 0, 0), some (.iconst 0, 1, 0, 0, 0), some (.istore 4, 2, 0, 0, 0), none, some (.iload 4, 2, 0, 0, 0), none, some (.sipush 4096, 3, 0, 0, 0), none, none, some (.if_icmp .ge 30, 3, 0, 0, 0), none, none, some (.aload_n 0, 1, 0, 0, 0), some (.getfield 37, 3, 11, 14, 1395), none, none, some (.iload 4, 2, 0, 0, 0), none, some (.iaload, 1, 0, 0, 0), some (.iconst 1, 1, 0, 0, 0), some (.if_icmp .le 13, 3, 0, 0, 0), none, none, some (.iload_n 3, 1, 0, 0, 0), some (.aload_n 0, 1, 0, 0, 0), some (.getfield 37, 3, 11, 14, 1395), none, none, some (.iload 4, 2, 0, 0, 0), none, some (.iaload, 1, 0, 0, 0)], [some (.iadd, 1, 0, 0, 0), some (.istore_n 3, 1, 0, 0, 0), some (.iinc 4 1, 3, 0, 0, 0), none, none, some (.goto (-32), 3, 0, 0, 0), none, none, some (.iload_n 3, 1, 0, 0, 0), some (.ireturn, 1, 0, 0, 0)]]
def cd_228 : List (List (Option si_E)) := [[some (.iload_n 1, 1, 0, 0, 0), some (.iconst 4, 1, 0, 0, 0), some (.bipush 60, 2, 0, 0, 0), none, some (.invokestatic 157, 3, 202, 0, 1584), none, none, some (.ifCond .eq 12, 3, 0, 0, 0), none, none, some (.iload_n 2, 1, 0, 0, 0), some (.iconst 0, 1, 0, 0, 0), some (.iconst 1, 1, 0, 0, 0), some (.invokestatic 157, 3, 202, 0, 1584), none, none, some (.ifCond .ne 5, 3, 0, 0, 0), none, none, some (.iconst (-1), 1, 0, 0, 0), some (.ireturn, 1, 0, 0, 0), some (.iconst 2, 1, 0, 0, 0), some (.istore_n 3, 1, 0, 0, 0), some (.aload_n 0, 1, 0, 0, 0), some (.iload_n 1, 1, 0, 0, 0), some (.iconst 2, 1, 0, 0, 0), some (.invokevirtual 213, 3, 227, 0, 1628), none, none, some (.istore 4, 2, 0, 0, 0), none, some (.iconst 3, 1, 0, 0, 0)], [some (.istore 5, 2, 0, 0, 0), none, some (.iload 5, 2, 0, 0, 0), none, some (.bipush 24, 2, 0, 0, 0), none, some (.if_icmp .gt 40, 3, 0, 0, 0), none, none, some (.aload_n 0, 1, 0, 0, 0), some (.iload_n 1, 1, 0, 0, 0), some (.iload 5, 2, 0, 0, 0), none, some (.invokevirtual 213, 3, 227, 0, 1628), none, none, some (.istore 6, 2, 0, 0, 0), none, some (.iload 6, 2, 0, 0, 0), none, some (.iload_n 3, 1, 0, 0, 0), some (.imul, 1, 0, 0, 0), some (.iload 4, 2, 0, 0, 0), none, some (.iload 5, 2, 0, 0, 0), none, some (.imul, 1, 0, 0, 0), some (.if_icmp .lt 6, 3, 0, 0, 0), none, none, some (.goto 10, 3, 0, 0, 0), none], [none, some (.iload 5, 2, 0, 0, 0), none, some (.istore_n 3, 1, 0, 0, 0), some (.iload 6, 2, 0, 0, 0), none, some (.istore 4, 2, 0, 0, 0), none, some (.iinc 5 1, 3, 0, 0, 0), none, none, some (.goto (-41), 3, 0, 0, 0), none, none, some (.iload_n 2, 1, 0, 0, 0), some (.ifCond .ne 7, 3, 0, 0, 0), none, none, some (.iload_n 3, 1, 0, 0, 0), some (.goto 5, 3, 0, 0, 0), none, none, some (.iload 4, 2, 0, 0, 0), none, some (.ireturn, 1, 0, 0, 0)]]
def cd_229 : List (List (Option si_E)) := [[some (.iconst 0, 1, 0, 0, 0), some (.istore_n 2, 1, 0, 0, 0), some (.iconst 0, 1, 0, 0, 0), some (.istore_n 3, 1, 0, 0, 0), some (.iconst 0, 1, 0, 0, 0), some (.istore 4, 2, 0, 0, 0), none, some (.iload 4, 2, 0, 0, 0), none, some (.iconst 2, 1, 0, 0, 0), some (.aload_n 0, 1, 0, 0, 0), some (.getfield 153, 3, 11, 9, 1390), none, none, some (.imul, 1, 0, 0, 0), some (.if_icmp .ge 45, 3, 0, 0, 0), none, none, some (.aload_n 0, 1, 0, 0, 0), some (.iload 4, 2, 0, 0, 0), none, some (.aload_n 0, 1, 0, 0, 0), some (.getfield 153, 3, 11, 9, 1390), none, none, some (.irem, 1, 0, 0, 0), some (.invokevirtual 210, 3, 225, 0, 1640), none, none, some (.iload_n 1, 1, 0, 0, 0), some (.if_icmp .ne 16, 3, 0, 0, 0), none], [none, some (.aload_n 0, 1, 0, 0, 0), some (.getfield 153, 3, 11, 9, 1390), none, none, some (.iload_n 3, 1, 0, 0, 0), some (.iconst 1, 1, 0, 0, 0), some (.iadd, 1, 0, 0, 0), some (.invokestatic 150, 3, 203, 0, 1375), none, none, some (.goto 4, 3, 0, 0, 0), none, none, some (.iconst 0, 1, 0, 0, 0), some (.istore_n 3, 1, 0, 0, 0), some (.iload_n 2, 1, 0, 0, 0), some (.iload_n 3, 1, 0, 0, 0), some (.invokestatic 172, 3, 204, 0, 1378), none, none, some (.istore_n 2, 1, 0, 0, 0), some (.iinc 4 1, 3, 0, 0, 0), none, none, some (.goto (-50), 3, 0, 0, 0), none, none, some (.iload_n 2, 1, 0, 0, 0), some (.ireturn, 1, 0, 0, 0)]]
def cd_230 : List (List (Option si_E)) := [[some (.iconst 0, 1, 0, 0, 0), some (.istore_n 1, 1, 0, 0, 0), some (.iload_n 1, 1, 0, 0, 0), some (.aload_n 0, 1, 0, 0, 0), some (.getfield 153, 3, 11, 9, 1390), none, none, some (.if_icmp .ge 19, 3, 0, 0, 0), none, none, some (.aload_n 0, 1, 0, 0, 0), some (.iload_n 1, 1, 0, 0, 0), some (.invokevirtual 210, 3, 225, 0, 1640), none, none, some (.ifCond .ne 5, 3, 0, 0, 0), none, none, some (.iload_n 1, 1, 0, 0, 0), some (.ireturn, 1, 0, 0, 0), some (.iinc 1 1, 3, 0, 0, 0), none, none, some (.goto (-21), 3, 0, 0, 0), none, none, some (.bipush (-2), 2, 0, 0, 0), none, some (.ireturn, 1, 0, 0, 0)]]
def cd_231 : List (List (Option si_E)) := [[some (.iload_n 1, 1, 0, 0, 0), some (.tableswitch 53 0 3 #[31, 36, 41, 47], 31, 0, 0, 0), none, none, none, none, none, none, none, none, none, none, none, none, none, none, none, none, none, none, none, none, none, none, none, none, none, none, none, none, none, none], [some (.aload_n 0, 1, 0, 0, 0), some (.invokevirtual 216, 3, 226, 0, 1636), none, none, some (.ireturn, 1, 0, 0, 0), some (.aload_n 0, 1, 0, 0, 0), some (.invokevirtual 220, 3, 230, 0, 1644), none, none, some (.ireturn, 1, 0, 0, 0), some (.aload_n 0, 1, 0, 0, 0), some (.iconst 0, 1, 0, 0, 0), some (.invokevirtual 223, 3, 229, 0, 1648), none, none, some (.ireturn, 1, 0, 0, 0), some (.aload_n 0, 1, 0, 0, 0), some (.iconst 1, 1, 0, 0, 0), some (.invokevirtual 223, 3, 229, 0, 1648), none, none, some (.ireturn, 1, 0, 0, 0), some (.iconst (-1), 1, 0, 0, 0), some (.ireturn, 1, 0, 0, 0)]]
def cd_232 : List (List (Option si_E)) := [[some (.aload_n 0, 1, 0, 0, 0), some (.iload_n 1, 1, 0, 0, 0), some (.invokevirtual 194, 3, 211, 0, 1591), none, none, some (.ifCond .ne 5, 3, 0, 0, 0), none, none, some (.iconst (-1), 1, 0, 0, 0), some (.ireturn, 1, 0, 0, 0), some (.iconst 0, 1, 0, 0, 0), some (.istore_n 2, 1, 0, 0, 0), some (.iload_n 2, 1, 0, 0, 0), some (.aload_n 0, 1, 0, 0, 0), some (.getfield 153, 3, 11, 9, 1390), none, none, some (.if_icmp .ge 26, 3, 0, 0, 0), none, none, some (.aload_n 0, 1, 0, 0, 0), some (.iload_n 1, 1, 0, 0, 0), some (.iload_n 2, 1, 0, 0, 0), some (.iadd, 1, 0, 0, 0), some (.aload_n 0, 1, 0, 0, 0), some (.getfield 153, 3, 11, 9, 1390), none, none, some (.irem, 1, 0, 0, 0), some (.invokevirtual 210, 3, 225, 0, 1640), none, none], [some (.ifCond .eq 5, 3, 0, 0, 0), none, none, some (.iload_n 2, 1, 0, 0, 0), some (.ireturn, 1, 0, 0, 0), some (.iinc 2 1, 3, 0, 0, 0), none, none, some (.goto (-28), 3, 0, 0, 0), none, none, some (.bipush (-2), 2, 0, 0, 0), none, some (.ireturn, 1, 0, 0, 0)]]
def cd_233 : List (List (Option si_E)) := [[some (.iconst 0, 1, 0, 0, 0), some (.istore_n 3, 1, 0, 0, 0), some (.iload_n 3, 1, 0, 0, 0), some (.aload_n 0, 1, 0, 0, 0), some (.getfield 153, 3, 11, 9, 1390), none, none, some (.if_icmp .ge 60, 3, 0, 0, 0), none, none, some (.iload_n 3, 1, 0, 0, 0), some (.iload_n 1, 1, 0, 0, 0), some (.if_icmp .eq 49, 3, 0, 0, 0), none, none, some (.aload_n 0, 1, 0, 0, 0), some (.getfield 31, 3, 11, 12, 1393), none, none, some (.iload_n 3, 1, 0, 0, 0), some (.iaload, 1, 0, 0, 0), some (.aload_n 0, 1, 0, 0, 0), some (.getfield 31, 3, 11, 12, 1393), none, none, some (.iload_n 1, 1, 0, 0, 0), some (.iaload, 1, 0, 0, 0), some (.if_icmp .ne 34, 3, 0, 0, 0), none, none, some (.aload_n 0, 1, 0, 0, 0), some (.getfield 31, 3, 11, 12, 1393)], [none, none, some (.iload_n 3, 1, 0, 0, 0), some (.iload_n 2, 1, 0, 0, 0), some (.iadd, 1, 0, 0, 0), some (.aload_n 0, 1, 0, 0, 0), some (.getfield 153, 3, 11, 9, 1390), none, none, some (.irem, 1, 0, 0, 0), some (.iaload, 1, 0, 0, 0), some (.aload_n 0, 1, 0, 0, 0), some (.getfield 31, 3, 11, 12, 1393), none, none, some (.iload_n 1, 1, 0, 0, 0), some (.iload_n 2, 1, 0, 0, 0), some (.iadd, 1, 0, 0, 0), some (.aload_n 0, 1, 0, 0, 0), some (.getfield 153, 3, 11, 9, 1390), none, none, some (.irem, 1, 0, 0, 0), some (.iaload, 1, 0, 0, 0), some (.if_icmp .ne 5, 3, 0, 0, 0), none, none, some (.iconst 0, 1, 0, 0, 0), some (.ireturn, 1, 0, 0, 0), some (.iinc 3 1, 3, 0, 0, 0), none, none], [some (.goto (-62), 3, 0, 0, 0), none, none, some (.iconst 1, 1, 0, 0, 0), some (.ireturn, 1, 0, 0, 0)]]
def cd_234 : List (List (Option si_E)) := [[some (.aload_n 0, 1, 0, 0, 0), some (.iload_n 1, 1, 0, 0, 0), some (.invokevirtual 194, 3, 211, 0, 1591), none, none, some (.ifCond .ne 5, 3, 0, 0, 0), none, none, some (.iconst (-1), 1, 0, 0, 0), some (.ireturn, 1, 0, 0, 0), some (.iconst 1, 1, 0, 0, 0), some (.istore_n 2, 1, 0, 0, 0), some (.iload_n 2, 1, 0, 0, 0), some (.aload_n 0, 1, 0, 0, 0), some (.getfield 153, 3, 11, 9, 1390), none, none, some (.if_icmp .ge 20, 3, 0, 0, 0), none, none, some (.aload_n 0, 1, 0, 0, 0), some (.iload_n 1, 1, 0, 0, 0), some (.iload_n 2, 1, 0, 0, 0), some (.invokevirtual 227, 3, 233, 0, 1660), none, none, some (.ifCond .eq 5, 3, 0, 0, 0), none, none, some (.iload_n 2, 1, 0, 0, 0), some (.ireturn, 1, 0, 0, 0), some (.iinc 2 1, 3, 0, 0, 0)], [none, none, some (.goto (-22), 3, 0, 0, 0), none, none, some (.bipush (-2), 2, 0, 0, 0), none, some (.ireturn, 1, 0, 0, 0)]]
def cd_235 : List (List (Option si_E)) := [[some (.iload_n 1, 1, 0, 0, 0), some (.iconst (-1), 1, 0, 0, 0), some (.if_icmp .eq 13, 3, 0, 0, 0), none, none, some (.aload_n 0, 1, 0, 0, 0), some (.iload_n 1, 1, 0, 0, 0), some (.invokevirtual 194, 3, 211, 0, 1591), none, none, some (.ifCond .ne 5, 3, 0, 0, 0), none, none, some (.iconst (-1), 1, 0, 0, 0), some (.ireturn, 1, 0, 0, 0), some (.iconst 0, 1, 0, 0, 0), some (.istore_n 2, 1, 0, 0, 0), some (.iload_n 1, 1, 0, 0, 0), some (.iconst (-1), 1, 0, 0, 0), some (.if_icmp .ne 38, 3, 0, 0, 0), none, none, some (.iconst 0, 1, 0, 0, 0), some (.istore_n 3, 1, 0, 0, 0), some (.iload_n 3, 1, 0, 0, 0), some (.aload_n 0, 1, 0, 0, 0), some (.getfield 153, 3, 11, 9, 1390), none, none, some (.if_icmp .ge 26, 3, 0, 0, 0), none, none], [some (.aload_n 0, 1, 0, 0, 0), some (.iload_n 3, 1, 0, 0, 0), some (.invokevirtual 184, 3, 215, 0, 1364), none, none, some (.aload_n 0, 1, 0, 0, 0), some (.iload_n 3, 1, 0, 0, 0), some (.invokevirtual 188, 3, 216, 0, 1368), none, none, some (.if_icmp .ne 7, 3, 0, 0, 0), none, none, some (.iload_n 2, 1, 0, 0, 0), some (.iconst 1, 1, 0, 0, 0), some (.iadd, 1, 0, 0, 0), some (.istore_n 2, 1, 0, 0, 0), some (.iinc 3 1, 3, 0, 0, 0), none, none, some (.goto (-28), 3, 0, 0, 0), none, none, some (.iload_n 2, 1, 0, 0, 0), some (.ireturn, 1, 0, 0, 0), some (.iload_n 1, 1, 0, 0, 0), some (.istore_n 3, 1, 0, 0, 0), some (.aload_n 0, 1, 0, 0, 0), some (.iload_n 3, 1, 0, 0, 0), some (.invokevirtual 184, 3, 215, 0, 1364), none, none], [some (.aload_n 0, 1, 0, 0, 0), some (.iload_n 3, 1, 0, 0, 0), some (.invokevirtual 188, 3, 216, 0, 1368), none, none, some (.if_icmp .eq 15, 3, 0, 0, 0), none, none, some (.iload_n 3, 1, 0, 0, 0), some (.iconst 1, 1, 0, 0, 0), some (.iadd, 1, 0, 0, 0), some (.aload_n 0, 1, 0, 0, 0), some (.getfield 153, 3, 11, 9, 1390), none, none, some (.irem, 1, 0, 0, 0), some (.istore_n 3, 1, 0, 0, 0), some (.goto (-22), 3, 0, 0, 0), none, none, some (.iload_n 3, 1, 0, 0, 0), some (.ireturn, 1, 0, 0, 0)]]
def cd_236 : List (List (Option si_E)) := [[some (.iload_n 1, 1, 0, 0, 0), some (.iconst 0, 1, 0, 0, 0), some (.bipush 30, 2, 0, 0, 0), none, some (.invokestatic 157, 3, 202, 0, 1584), none, none, some (.ifCond .ne 5, 3, 0, 0, 0), none, none, some (.iconst (-1), 1, 0, 0, 0), some (.ireturn, 1, 0, 0, 0), some (.iconst 0, 1, 0, 0, 0), some (.istore_n 2, 1, 0, 0, 0), some (.iconst 0, 1, 0, 0, 0), some (.istore_n 3, 1, 0, 0, 0), some (.iload_n 3, 1, 0, 0, 0), some (.aload_n 0, 1, 0, 0, 0), some (.getfield 153, 3, 11, 9, 1390), none, none, some (.if_icmp .ge 34, 3, 0, 0, 0), none, none, some (.aload_n 0, 1, 0, 0, 0), some (.iload_n 3, 1, 0, 0, 0), some (.invokevirtual 184, 3, 215, 0, 1364), none, none, some (.aload_n 0, 1, 0, 0, 0), some (.iload_n 3, 1, 0, 0, 0), some (.invokevirtual 188, 3, 216, 0, 1368)], [none, none, some (.aload_n 0, 1, 0, 0, 0), some (.getfield 175, 3, 11, 7, 1388), none, none, some (.invokestatic 206, 3, 209, 0, 1607), none, none, some (.iload_n 1, 1, 0, 0, 0), some (.if_icmp .ne 7, 3, 0, 0, 0), none, none, some (.iload_n 2, 1, 0, 0, 0), some (.iconst 1, 1, 0, 0, 0), some (.iadd, 1, 0, 0, 0), some (.istore_n 2, 1, 0, 0, 0), some (.iinc 3 1, 3, 0, 0, 0), none, none, some (.goto (-36), 3, 0, 0, 0), none, none, some (.iload_n 2, 1, 0, 0, 0), some (.ireturn, 1, 0, 0, 0)]]
def cd_237 : List (List (Option si_E)) := [[some (.iconst 3, 1, 0, 0, 0), some (.istore_n 2, 1, 0, 0, 0), some (.iload_n 2, 1, 0, 0, 0), some (.ifCond .lt 35, 3, 0, 0, 0), none, none, some (.aload_n 0, 1, 0, 0, 0), some (.getfield 40, 3, 11, 15, 1396), none, none, some (.aload_n 0, 1, 0, 0, 0), some (.getfield 230, 3, 11, 16, 1397), none, none, some (.iload_n 1, 1, 0, 0, 0), some (.bipush 8, 2, 0, 0, 0), none, some (.iload_n 2, 1, 0, 0, 0), some (.imul, 1, 0, 0, 0), some (.ishr, 1, 0, 0, 0), some (.i2b, 1, 0, 0, 0), some (.bastore, 1, 0, 0, 0), some (.aload_n 0, 1, 0, 0, 0), some (.aload_n 0, 1, 0, 0, 0), some (.getfield 230, 3, 11, 16, 1397), none, none, some (.iconst 1, 1, 0, 0, 0), some (.iadd, 1, 0, 0, 0), some (.putfield 230, 3, 11, 16, 1397), none, none], [some (.iinc 2 (-1), 3, 0, 0, 0), none, none, some (.goto (-33), 3, 0, 0, 0), none, none, some (.return_, 1, 0, 0, 0)]]
def cd_238 : List (List (Option si_E)) := [[some (.aload_n 0, 1, 0, 0, 0), some (.getfield 230, 3, 11, 16, 1397), none, none, some (.bipush 20, 2, 0, 0, 0), none, some (.iadd, 1, 0, 0, 0), some (.sipush 260, 3, 0, 0, 0), none, none, some (.if_icmp .le 5, 3, 0, 0, 0), none, none, some (.iconst (-1), 1, 0, 0, 0), some (.ireturn, 1, 0, 0, 0), some (.aload_n 0, 1, 0, 0, 0), some (.iload_n 1, 1, 0, 0, 0), some (.invokevirtual 233, 3, 237, 0, 1676), none, none, some (.aload_n 0, 1, 0, 0, 0), some (.iload_n 2, 1, 0, 0, 0), some (.invokevirtual 233, 3, 237, 0, 1676), none, none, some (.aload_n 0, 1, 0, 0, 0), some (.iload_n 3, 1, 0, 0, 0), some (.invokevirtual 233, 3, 237, 0, 1676), none, none, some (.aload_n 0, 1, 0, 0, 0), some (.iload 4, 2, 0, 0, 0)], [none, some (.invokevirtual 233, 3, 237, 0, 1676), none, none, some (.aload_n 0, 1, 0, 0, 0), some (.iload 5, 2, 0, 0, 0), none, some (.invokevirtual 233, 3, 237, 0, 1676), none, none, some (.aload_n 0, 1, 0, 0, 0), some (.getfield 230, 3, 11, 16, 1397), none, none, some (.ireturn, 1, 0, 0, 0)]]
def cd_239 : List (List (Option si_E)) := [[some (.aload_n 0, 1, 0, 0, 0), some (.getfield 40, 3, 11, 15, 1396), none, none, some (.iload_n 1, 1, 0, 0, 0), some (.baload, 1, 0, 0, 0), some (.sipush 255, 3, 0, 0, 0), none, none, some (.iand, 1, 0, 0, 0), some (.ireturn, 1, 0, 0, 0)]]
def cd_240 : List (List (Option si_E)) := [[some (.aload_n 0, 1, 0, 0, 0), some (.getfield 237, 3, 11, 17, 1398), none, none, some (.aload_n 0, 1, 0, 0, 0), some (.getfield 240, 3, 11, 18, 1399), none, none, some (.if_icmp .ge 19, 3, 0, 0, 0), none, none, some (.aload_n 0, 1, 0, 0, 0), some (.getfield 40, 3, 11, 15, 1396), none, none, some (.aload_n 0, 1, 0, 0, 0), some (.getfield 237, 3, 11, 17, 1398), none, none, some (.baload, 1, 0, 0, 0), some (.sipush 255, 3, 0, 0, 0), none, none, some (.iand, 1, 0, 0, 0), some (.goto 4, 3, 0, 0, 0), none, none, some (.iconst (-1), 1, 0, 0, 0), some (.ireturn, 1, 0, 0, 0)]]
def cd_241 : List (List (Option si_E)) := [[some (.aload_n 0, 1, 0, 0, 0), some (.invokevirtual 243, 3, 240, 0, 1692), none, none, some (.bipush 48, 2, 0, 0, 0), none, some (.if_icmp .lt 16, 3, 0, 0, 0), none, none, some (.aload_n 0, 1, 0, 0, 0), some (.invokevirtual 243, 3, 240, 0, 1692), none, none, some (.bipush 57, 2, 0, 0, 0), none, some (.if_icmp .gt 7, 3, 0, 0, 0), none, none, some (.iconst 1, 1, 0, 0, 0), some (.goto 4, 3, 0, 0, 0), none, none, some (.iconst 0, 1, 0, 0, 0), some (.ireturn, 1, 0, 0, 0)]]
def cd_242 : List (List (Option si_E)) := [[some (.aload_n 0, 1, 0, 0, 0), some (.sipush (-1000), 3, 0, 0, 0), none, none, some (.iload_n 1, 1, 0, 0, 0), some (.imul, 1, 0, 0, 0), some (.iload_n 2, 1, 0, 0, 0), some (.isub, 1, 0, 0, 0), some (.putfield 246, 3, 11, 19, 1400), none, none, some (.iconst 0, 1, 0, 0, 0), some (.ireturn, 1, 0, 0, 0)]]
def cd_243 : List (List (Option si_E)) := [[some (.aload_n 0, 1, 0, 0, 0), some (.invokevirtual 243, 3, 240, 0, 1692), none, none, some (.iload_n 1, 1, 0, 0, 0), some (.if_icmp .eq 13, 3, 0, 0, 0), none, none, some (.aload_n 0, 1, 0, 0, 0), some (.iconst 1, 1, 0, 0, 0), some (.aload_n 0, 1, 0, 0, 0), some (.getfield 237, 3, 11, 17, 1398), none, none, some (.invokevirtual 249, 3, 242, 0, 1696), none, none, some (.ireturn, 1, 0, 0, 0), some (.aload_n 0, 1, 0, 0, 0), some (.aload_n 0, 1, 0, 0, 0), some (.getfield 237, 3, 11, 17, 1398), none, none, some (.iconst 1, 1, 0, 0, 0), some (.iadd, 1, 0, 0, 0), some (.putfield 237, 3, 11, 17, 1398), none, none, some (.iconst 1, 1, 0, 0, 0), some (.ireturn, 1, 0, 0, 0)]]
def cd_244 : List (List (Option si_E)) := [[some (.aload_n 0, 1, 0, 0, 0), some (.getfield 237, 3, 11, 17, 1398), none, none, some (.istore_n 1, 1, 0, 0, 0), some (.aload_n 0, 1, 0, 0, 0), some (.iconst 0, 1, 0, 0, 0), some (.putfield 252, 3, 11, 20, 1401), none, none, some (.aload_n 0, 1, 0, 0, 0), some (.invokevirtual 255, 3, 241, 0, 1713), none, none, some (.ifCond .eq 55, 3, 0, 0, 0), none, none, some (.aload_n 0, 1, 0, 0, 0), some (.getfield 237, 3, 11, 17, 1398), none, none, some (.iload_n 1, 1, 0, 0, 0), some (.iconst 5, 1, 0, 0, 0), some (.iadd, 1, 0, 0, 0), some (.if_icmp .ne 13, 3, 0, 0, 0), none, none, some (.aload_n 0, 1, 0, 0, 0), some (.iconst 2, 1, 0, 0, 0), some (.aload_n 0, 1, 0, 0, 0), some (.getfield 237, 3, 11, 17, 1398), none], [none, some (.invokevirtual 249, 3, 242, 0, 1696), none, none, some (.ireturn, 1, 0, 0, 0), some (.aload_n 0, 1, 0, 0, 0), some (.bipush 10, 2, 0, 0, 0), none, some (.aload_n 0, 1, 0, 0, 0), some (.getfield 252, 3, 11, 20, 1401), none, none, some (.imul, 1, 0, 0, 0), some (.aload_n 0, 1, 0, 0, 0), some (.invokevirtual 243, 3, 240, 0, 1692), none, none, some (.iadd, 1, 0, 0, 0), some (.bipush 48, 2, 0, 0, 0), none, some (.isub, 1, 0, 0, 0), some (.putfield 252, 3, 11, 20, 1401), none, none, some (.aload_n 0, 1, 0, 0, 0), some (.aload_n 0, 1, 0, 0, 0), some (.getfield 237, 3, 11, 17, 1398), none, none, some (.iconst 1, 1, 0, 0, 0), some (.iadd, 1, 0, 0, 0), some (.putfield 237, 3, 11, 17, 1398)], [none, none, some (.goto (-56), 3, 0, 0, 0), none, none, some (.iconst 1, 1, 0, 0, 0), some (.ireturn, 1, 0, 0, 0)]]
def cd_245 : List (List (Option si_E)) := [[some (.aload_n 0, 1, 0, 0, 0), some (.getfield 44, 3, 11, 26, 1407), none, none, some (.aload_n 0, 1, 0, 0, 0), some (.getfield 259, 3, 11, 22, 1403), none, none, some (.ldc_w 262, 3, 1048576, 0, 1712), none, none, some (.iload_n 1, 1, 0, 0, 0), some (.imul, 1, 0, 0, 0), some (.iload_n 2, 1, 0, 0, 0), some (.iadd, 1, 0, 0, 0), some (.iastore, 1, 0, 0, 0), some (.aload_n 0, 1, 0, 0, 0), some (.aload_n 0, 1, 0, 0, 0), some (.getfield 259, 3, 11, 22, 1403), none, none, some (.iconst 1, 1, 0, 0, 0), some (.iadd, 1, 0, 0, 0), some (.putfield 259, 3, 11, 22, 1403), none, none, some (.return_, 1, 0, 0, 0)]]
def cd_246 : List (List (Option si_E)) := [[some (.aload_n 0, 1, 0, 0, 0), some (.getfield 263, 3, 11, 21, 1402), none, none, some (.bipush 6, 2, 0, 0, 0), none, some (.if_icmp .ne 13, 3, 0, 0, 0), none, none, some (.aload_n 0, 1, 0, 0, 0), some (.iconst 5, 1, 0, 0, 0), some (.aload_n 0, 1, 0, 0, 0), some (.getfield 237, 3, 11, 17, 1398), none, none, some (.invokevirtual 249, 3, 242, 0, 1696), none, none, some (.ireturn, 1, 0, 0, 0), some (.aload_n 0, 1, 0, 0, 0), some (.aload_n 0, 1, 0, 0, 0), some (.getfield 263, 3, 11, 21, 1402), none, none, some (.iconst 1, 1, 0, 0, 0), some (.iadd, 1, 0, 0, 0), some (.putfield 263, 3, 11, 21, 1402), none, none, some (.aload_n 0, 1, 0, 0, 0), some (.getfield 47, 3, 11, 27, 1408), none], [none, some (.aload_n 0, 1, 0, 0, 0), some (.getfield 266, 3, 11, 23, 1404), none, none, some (.ldc_w 262, 3, 1048576, 0, 1712), none, none, some (.iload_n 1, 1, 0, 0, 0), some (.imul, 1, 0, 0, 0), some (.iastore, 1, 0, 0, 0), some (.aload_n 0, 1, 0, 0, 0), some (.aload_n 0, 1, 0, 0, 0), some (.getfield 266, 3, 11, 23, 1404), none, none, some (.iconst 1, 1, 0, 0, 0), some (.iadd, 1, 0, 0, 0), some (.putfield 266, 3, 11, 23, 1404), none, none, some (.aload_n 0, 1, 0, 0, 0), some (.aload_n 0, 1, 0, 0, 0), some (.getfield 237, 3, 11, 17, 1398), none, none, some (.iconst 1, 1, 0, 0, 0), some (.iadd, 1, 0, 0, 0), some (.putfield 237, 3, 11, 17, 1398), none, none, some (.iconst 1, 1, 0, 0, 0)], [some (.ireturn, 1, 0, 0, 0)]]
def cd_247 : List (List (Option si_E)) := [[some (.aload_n 0, 1, 0, 0, 0), some (.getfield 266, 3, 11, 23, 1404), none, none, some (.ifCond .ne 7, 3, 0, 0, 0), none, none, some (.iconst (-1), 1, 0, 0, 0), some (.goto 18, 3, 0, 0, 0), none, none, some (.aload_n 0, 1, 0, 0, 0), some (.getfield 47, 3, 11, 27, 1408), none, none, some (.aload_n 0, 1, 0, 0, 0), some (.getfield 266, 3, 11, 23, 1404), none, none, some (.iconst 1, 1, 0, 0, 0), some (.isub, 1, 0, 0, 0), some (.iaload, 1, 0, 0, 0), some (.ldc_w 262, 3, 1048576, 0, 1712), none, none, some (.idiv, 1, 0, 0, 0), some (.ireturn, 1, 0, 0, 0)]]
def cd_248 : List (List (Option si_E)) := [[some (.iload_n 0, 1, 0, 0, 0), some (.tableswitch 125 97 119 #[109, 125, 107, 125, 125, 125, 125, 125, 125, 125, 113, 125, 125, 115, 117, 125, 125, 125, 125, 119, 125, 111, 122], 107, 0, 0, 0), none, none, none, none, none, none, none, none, none, none, none, none, none, none, none, none, none, none, none, none, none, none, none, none, none, none, none, none, none, none], [none, none, none, none, none, none, none, none, none, none, none, none, none, none, none, none, none, none, none, none, none, none, none, none, none, none, none, none, none, none, none, none], [none, none, none, none, none, none, none, none, none, none, none, none, none, none, none, none, none, none, none, none, none, none, none, none, none, none, none, none, none, none, none, none], [none, none, none, none, none, none, none, none, none, none, none, none, some (.iconst 0, 1, 0, 0, 0), some (.ireturn, 1, 0, 0, 0), some (.iconst 1, 1, 0, 0, 0), some (.ireturn, 1, 0, 0, 0), some (.iconst 2, 1, 0, 0, 0), some (.ireturn, 1, 0, 0, 0), some (.iconst 3, 1, 0, 0, 0), some (.ireturn, 1, 0, 0, 0), some (.iconst 4, 1, 0, 0, 0), some (.ireturn, 1, 0, 0, 0), some (.iconst 5, 1, 0, 0, 0), some (.ireturn, 1, 0, 0, 0), some (.bipush 6, 2, 0, 0, 0), none, some (.ireturn, 1, 0, 0, 0), some (.bipush 7, 2, 0, 0, 0), none, some (.ireturn, 1, 0, 0, 0), some (.iconst (-1), 1, 0, 0, 0), some (.ireturn, 1, 0, 0, 0)]]
def cd_249 : List (List (Option si_E)) := [[some (.iload_n 0, 1, 0, 0, 0), some (.bipush 43, 2, 0, 0, 0), none, some (.if_icmp .ne 7, 3, 0, 0, 0), none, none, some (.iconst 2, 1, 0, 0, 0), some (.goto 45, 3, 0, 0, 0), none, none, some (.iload_n 0, 1, 0, 0, 0), some (.bipush 45, 2, 0, 0, 0), none, some (.if_icmp .ne 7, 3, 0, 0, 0), none, none, some (.iconst 3, 1, 0, 0, 0), some (.goto 35, 3, 0, 0, 0), none, none, some (.iload_n 0, 1, 0, 0, 0), some (.bipush 42, 2, 0, 0, 0), none, some (.if_icmp .ne 7, 3, 0, 0, 0), none, none, some (.iconst 4, 1, 0, 0, 0), some (.goto 25, 3, 0, 0, 0), none, none, some (.iload_n 0, 1, 0, 0, 0), some (.bipush 47, 2, 0, 0, 0)], [none, some (.if_icmp .ne 7, 3, 0, 0, 0), none, none, some (.iconst 5, 1, 0, 0, 0), some (.goto 15, 3, 0, 0, 0), none, none, some (.iload_n 0, 1, 0, 0, 0), some (.bipush 37, 2, 0, 0, 0), none, some (.if_icmp .ne 8, 3, 0, 0, 0), none, none, some (.bipush 6, 2, 0, 0, 0), none, some (.goto 4, 3, 0, 0, 0), none, none, some (.iconst (-1), 1, 0, 0, 0), some (.ireturn, 1, 0, 0, 0)]]
def cd_250 : List (List (Option si_E)) := [[some (.aload_n 0, 1, 0, 0, 0), some (.invokevirtual 269, 3, 247, 0, 1735), none, none, some (.iconst 4, 1, 0, 0, 0), some (.if_icmp .lt 12, 3, 0, 0, 0), none, none, some (.aload_n 0, 1, 0, 0, 0), some (.invokevirtual 269, 3, 247, 0, 1735), none, none, some (.bipush 6, 2, 0, 0, 0), none, some (.if_icmp .le 23, 3, 0, 0, 0), none, none, some (.iload_n 1, 1, 0, 0, 0), some (.ifCond .eq 41, 3, 0, 0, 0), none, none, some (.aload_n 0, 1, 0, 0, 0), some (.invokevirtual 269, 3, 247, 0, 1735), none, none, some (.iconst 2, 1, 0, 0, 0), some (.if_icmp .eq 11, 3, 0, 0, 0), none, none, some (.aload_n 0, 1, 0, 0, 0), some (.invokevirtual 269, 3, 247, 0, 1735), none], [none, some (.iconst 3, 1, 0, 0, 0), some (.if_icmp .ne 25, 3, 0, 0, 0), none, none, some (.aload_n 0, 1, 0, 0, 0), some (.aload_n 0, 1, 0, 0, 0), some (.invokevirtual 269, 3, 247, 0, 1735), none, none, some (.iconst 0, 1, 0, 0, 0), some (.invokevirtual 272, 3, 245, 0, 1721), none, none, some (.aload_n 0, 1, 0, 0, 0), some (.aload_n 0, 1, 0, 0, 0), some (.getfield 266, 3, 11, 23, 1404), none, none, some (.iconst 1, 1, 0, 0, 0), some (.isub, 1, 0, 0, 0), some (.putfield 266, 3, 11, 23, 1404), none, none, some (.goto (-56), 3, 0, 0, 0), none, none, some (.return_, 1, 0, 0, 0)]]
def cd_251 : List (List (Option si_E)) := [[some (.aload_n 0, 1, 0, 0, 0), some (.invokevirtual 243, 3, 240, 0, 1692), none, none, some (.bipush 91, 2, 0, 0, 0), none, some (.if_icmp .ne 14, 3, 0, 0, 0), none, none, some (.aload_n 0, 1, 0, 0, 0), some (.bipush 14, 2, 0, 0, 0), none, some (.invokevirtual 275, 3, 246, 0, 1708), none, none, some (.ifCond .ne (-15), 3, 0, 0, 0), none, none, some (.iconst 0, 1, 0, 0, 0), some (.ireturn, 1, 0, 0, 0), some (.aload_n 0, 1, 0, 0, 0), some (.invokevirtual 255, 3, 241, 0, 1713), none, none, some (.ifCond .eq 23, 3, 0, 0, 0), none, none, some (.aload_n 0, 1, 0, 0, 0), some (.invokevirtual 278, 3, 244, 0, 1717), none, none, some (.ifCond .ne 5, 3, 0, 0, 0)], [none, none, some (.iconst 0, 1, 0, 0, 0), some (.ireturn, 1, 0, 0, 0), some (.aload_n 0, 1, 0, 0, 0), some (.iconst 0, 1, 0, 0, 0), some (.aload_n 0, 1, 0, 0, 0), some (.getfield 252, 3, 11, 20, 1401), none, none, some (.invokevirtual 272, 3, 245, 0, 1721), none, none, some (.iconst 1, 1, 0, 0, 0), some (.ireturn, 1, 0, 0, 0), some (.aload_n 0, 1, 0, 0, 0), some (.invokevirtual 243, 3, 240, 0, 1692), none, none, some (.invokestatic 281, 3, 248, 0, 1725), none, none, some (.istore_n 1, 1, 0, 0, 0), some (.iload_n 1, 1, 0, 0, 0), some (.iconst (-1), 1, 0, 0, 0), some (.if_icmp .ne 13, 3, 0, 0, 0), none, none, some (.aload_n 0, 1, 0, 0, 0), some (.iconst 1, 1, 0, 0, 0), some (.aload_n 0, 1, 0, 0, 0), some (.getfield 237, 3, 11, 17, 1398)], [none, none, some (.invokevirtual 249, 3, 242, 0, 1696), none, none, some (.ireturn, 1, 0, 0, 0), some (.aload_n 0, 1, 0, 0, 0), some (.iconst 1, 1, 0, 0, 0), some (.iload_n 1, 1, 0, 0, 0), some (.invokevirtual 272, 3, 245, 0, 1721), none, none, some (.aload_n 0, 1, 0, 0, 0), some (.aload_n 0, 1, 0, 0, 0), some (.getfield 237, 3, 11, 17, 1398), none, none, some (.iconst 1, 1, 0, 0, 0), some (.iadd, 1, 0, 0, 0), some (.putfield 237, 3, 11, 17, 1398), none, none, some (.iconst 1, 1, 0, 0, 0), some (.ireturn, 1, 0, 0, 0)]]
def cd_252 : List (List (Option si_E)) := [[some (.iload_n 1, 1, 0, 0, 0), some (.istore_n 2, 1, 0, 0, 0), some (.iload_n 2, 1, 0, 0, 0), some (.aload_n 0, 1, 0, 0, 0), some (.getfield 266, 3, 11, 23, 1404), none, none, some (.if_icmp .ge 26, 3, 0, 0, 0), none, none, some (.aload_n 0, 1, 0, 0, 0), some (.getfield 47, 3, 11, 27, 1408), none, none, some (.iload_n 2, 1, 0, 0, 0), some (.iaload, 1, 0, 0, 0), some (.ldc_w 262, 3, 1048576, 0, 1712), none, none, some (.idiv, 1, 0, 0, 0), some (.bipush 14, 2, 0, 0, 0), none, some (.if_icmp .ne 5, 3, 0, 0, 0), none, none, some (.iconst 1, 1, 0, 0, 0), some (.ireturn, 1, 0, 0, 0), some (.iinc 2 1, 3, 0, 0, 0), none, none, some (.goto (-28), 3, 0, 0, 0), none], [none, some (.iconst 0, 1, 0, 0, 0), some (.ireturn, 1, 0, 0, 0)]]
def cd_253 : List (List (Option si_E)) := [[some (.aload_n 0, 1, 0, 0, 0), some (.getfield 266, 3, 11, 23, 1404), none, none, some (.istore_n 1, 1, 0, 0, 0), some (.aload_n 0, 1, 0, 0, 0), some (.invokevirtual 284, 3, 251, 0, 1704), none, none, some (.ifCond .ne 5, 3, 0, 0, 0), none, none, some (.iconst 0, 1, 0, 0, 0), some (.ireturn, 1, 0, 0, 0), some (.aload_n 0, 1, 0, 0, 0), some (.invokevirtual 243, 3, 240, 0, 1692), none, none, some (.invokestatic 287, 3, 249, 0, 1728), none, none, some (.istore_n 2, 1, 0, 0, 0), some (.iload_n 2, 1, 0, 0, 0), some (.iconst (-1), 1, 0, 0, 0), some (.if_icmp .eq 60, 3, 0, 0, 0), none, none, some (.aload_n 0, 1, 0, 0, 0), some (.iload_n 2, 1, 0, 0, 0), some (.iconst 4, 1, 0, 0, 0), some (.if_icmp .ge 7, 3, 0, 0, 0), none], [none, some (.iconst 1, 1, 0, 0, 0), some (.goto 4, 3, 0, 0, 0), none, none, some (.iconst 0, 1, 0, 0, 0), some (.invokevirtual 290, 3, 250, 0, 1731), none, none, some (.aload_n 0, 1, 0, 0, 0), some (.getfield 47, 3, 11, 27, 1408), none, none, some (.aload_n 0, 1, 0, 0, 0), some (.getfield 266, 3, 11, 23, 1404), none, none, some (.ldc_w 262, 3, 1048576, 0, 1712), none, none, some (.iload_n 2, 1, 0, 0, 0), some (.imul, 1, 0, 0, 0), some (.iastore, 1, 0, 0, 0), some (.aload_n 0, 1, 0, 0, 0), some (.aload_n 0, 1, 0, 0, 0), some (.getfield 266, 3, 11, 23, 1404), none, none, some (.iconst 1, 1, 0, 0, 0), some (.iadd, 1, 0, 0, 0), some (.putfield 266, 3, 11, 23, 1404), none], [none, some (.aload_n 0, 1, 0, 0, 0), some (.aload_n 0, 1, 0, 0, 0), some (.getfield 237, 3, 11, 17, 1398), none, none, some (.iconst 1, 1, 0, 0, 0), some (.iadd, 1, 0, 0, 0), some (.putfield 237, 3, 11, 17, 1398), none, none, some (.aload_n 0, 1, 0, 0, 0), some (.invokevirtual 284, 3, 251, 0, 1704), none, none, some (.ifCond .ne 85, 3, 0, 0, 0), none, none, some (.iconst 0, 1, 0, 0, 0), some (.ireturn, 1, 0, 0, 0), some (.aload_n 0, 1, 0, 0, 0), some (.invokevirtual 243, 3, 240, 0, 1692), none, none, some (.bipush 93, 2, 0, 0, 0), none, some (.if_icmp .ne 49, 3, 0, 0, 0), none, none, some (.aload_n 0, 1, 0, 0, 0), some (.iload_n 1, 1, 0, 0, 0), some (.invokevirtual 294, 3, 252, 0, 1739)], [none, none, some (.ifCond .eq 41, 3, 0, 0, 0), none, none, some (.aload_n 0, 1, 0, 0, 0), some (.iconst 1, 1, 0, 0, 0), some (.invokevirtual 290, 3, 250, 0, 1731), none, none, some (.aload_n 0, 1, 0, 0, 0), some (.aload_n 0, 1, 0, 0, 0), some (.getfield 266, 3, 11, 23, 1404), none, none, some (.iconst 1, 1, 0, 0, 0), some (.isub, 1, 0, 0, 0), some (.putfield 266, 3, 11, 23, 1404), none, none, some (.aload_n 0, 1, 0, 0, 0), some (.aload_n 0, 1, 0, 0, 0), some (.getfield 263, 3, 11, 21, 1402), none, none, some (.iconst 1, 1, 0, 0, 0), some (.isub, 1, 0, 0, 0), some (.putfield 263, 3, 11, 21, 1402), none, none, some (.aload_n 0, 1, 0, 0, 0), some (.aload_n 0, 1, 0, 0, 0)], [some (.getfield 237, 3, 11, 17, 1398), none, none, some (.iconst 1, 1, 0, 0, 0), some (.iadd, 1, 0, 0, 0), some (.putfield 237, 3, 11, 17, 1398), none, none, some (.goto 28, 3, 0, 0, 0), none, none, some (.aload_n 0, 1, 0, 0, 0), some (.iload_n 1, 1, 0, 0, 0), some (.invokevirtual 294, 3, 252, 0, 1739), none, none, some (.ifCond .eq 13, 3, 0, 0, 0), none, none, some (.aload_n 0, 1, 0, 0, 0), some (.iconst 1, 1, 0, 0, 0), some (.aload_n 0, 1, 0, 0, 0), some (.getfield 237, 3, 11, 17, 1398), none, none, some (.invokevirtual 249, 3, 242, 0, 1696), none, none, some (.ireturn, 1, 0, 0, 0), some (.aload_n 0, 1, 0, 0, 0), some (.iconst 1, 1, 0, 0, 0), some (.invokevirtual 290, 3, 250, 0, 1731)], [none, none, some (.iconst 1, 1, 0, 0, 0), some (.ireturn, 1, 0, 0, 0), some (.goto (-150), 3, 0, 0, 0)]]
def cd_254 : List (List (Option si_E)) := [[some (.aload_n 0, 1, 0, 0, 0), some (.invokevirtual 269, 3, 247, 0, 1735), none, none, some (.bipush 10, 2, 0, 0, 0), none, some (.if_icmp .ne 33, 3, 0, 0, 0), none, none, some (.aload_n 0, 1, 0, 0, 0), some (.bipush 10, 2, 0, 0, 0), none, some (.iconst 0, 1, 0, 0, 0), some (.invokevirtual 272, 3, 245, 0, 1721), none, none, some (.aload_n 0, 1, 0, 0, 0), some (.aload_n 0, 1, 0, 0, 0), some (.getfield 266, 3, 11, 23, 1404), none, none, some (.iconst 1, 1, 0, 0, 0), some (.isub, 1, 0, 0, 0), some (.putfield 266, 3, 11, 23, 1404), none, none, some (.aload_n 0, 1, 0, 0, 0), some (.aload_n 0, 1, 0, 0, 0), some (.getfield 263, 3, 11, 21, 1402), none, none, some (.iconst 1, 1, 0, 0, 0)], [some (.isub, 1, 0, 0, 0), some (.putfield 263, 3, 11, 21, 1402), none, none, some (.goto (-36), 3, 0, 0, 0), none, none, some (.return_, 1, 0, 0, 0)]]
def cd_255 : List (List (Option si_E)) := [[some (.aload_n 0, 1, 0, 0, 0), some (.invokevirtual 269, 3, 247, 0, 1735), none, none, some (.bipush 11, 2, 0, 0, 0), none, some (.if_icmp .eq 16, 3, 0, 0, 0), none, none, some (.iload_n 1, 1, 0, 0, 0), some (.ifCond .eq 66, 3, 0, 0, 0), none, none, some (.aload_n 0, 1, 0, 0, 0), some (.invokevirtual 269, 3, 247, 0, 1735), none, none, some (.bipush 12, 2, 0, 0, 0), none, some (.if_icmp .ne 57, 3, 0, 0, 0), none, none, some (.aload_n 0, 1, 0, 0, 0), some (.getfield 47, 3, 11, 27, 1408), none, none, some (.aload_n 0, 1, 0, 0, 0), some (.getfield 266, 3, 11, 23, 1404), none, none, some (.iconst 1, 1, 0, 0, 0), some (.isub, 1, 0, 0, 0)], [some (.iaload, 1, 0, 0, 0), some (.ldc_w 262, 3, 1048576, 0, 1712), none, none, some (.irem, 1, 0, 0, 0), some (.istore_n 2, 1, 0, 0, 0), some (.aload_n 0, 1, 0, 0, 0), some (.getfield 44, 3, 11, 26, 1407), none, none, some (.iload_n 2, 1, 0, 0, 0), some (.ldc_w 262, 3, 1048576, 0, 1712), none, none, some (.aload_n 0, 1, 0, 0, 0), some (.getfield 44, 3, 11, 26, 1407), none, none, some (.iload_n 2, 1, 0, 0, 0), some (.iaload, 1, 0, 0, 0), some (.ldc_w 262, 3, 1048576, 0, 1712), none, none, some (.idiv, 1, 0, 0, 0), some (.imul, 1, 0, 0, 0), some (.aload_n 0, 1, 0, 0, 0), some (.getfield 259, 3, 11, 22, 1403), none, none, some (.iadd, 1, 0, 0, 0), some (.iastore, 1, 0, 0, 0), some (.aload_n 0, 1, 0, 0, 0)], [some (.aload_n 0, 1, 0, 0, 0), some (.getfield 266, 3, 11, 23, 1404), none, none, some (.iconst 1, 1, 0, 0, 0), some (.isub, 1, 0, 0, 0), some (.putfield 266, 3, 11, 23, 1404), none, none, some (.goto (-73), 3, 0, 0, 0), none, none, some (.return_, 1, 0, 0, 0)]]
def cd_256 : List (List (Option si_E)) := [[some (.aload_n 0, 1, 0, 0, 0), some (.getfield 47, 3, 11, 27, 1408), none, none, some (.aload_n 0, 1, 0, 0, 0), some (.getfield 266, 3, 11, 23, 1404), none, none, some (.ldc_w 262, 3, 1048576, 0, 1712), none, none, some (.iload_n 1, 1, 0, 0, 0), some (.imul, 1, 0, 0, 0), some (.aload_n 0, 1, 0, 0, 0), some (.getfield 259, 3, 11, 22, 1403), none, none, some (.iadd, 1, 0, 0, 0), some (.iastore, 1, 0, 0, 0), some (.aload_n 0, 1, 0, 0, 0), some (.aload_n 0, 1, 0, 0, 0), some (.getfield 266, 3, 11, 23, 1404), none, none, some (.iconst 1, 1, 0, 0, 0), some (.iadd, 1, 0, 0, 0), some (.putfield 266, 3, 11, 23, 1404), none, none, some (.aload_n 0, 1, 0, 0, 0), some (.iload_n 1, 1, 0, 0, 0), some (.iconst 0, 1, 0, 0, 0)], [some (.invokevirtual 272, 3, 245, 0, 1721), none, none, some (.aload_n 0, 1, 0, 0, 0), some (.aload_n 0, 1, 0, 0, 0), some (.getfield 237, 3, 11, 17, 1398), none, none, some (.iconst 1, 1, 0, 0, 0), some (.iadd, 1, 0, 0, 0), some (.putfield 237, 3, 11, 17, 1398), none, none, some (.return_, 1, 0, 0, 0)]]
def cd_257 : List (List (Option si_E)) := [[some (.aload_n 0, 1, 0, 0, 0), some (.invokevirtual 297, 3, 253, 0, 1700), none, none, some (.ifCond .ne 5, 3, 0, 0, 0), none, none, some (.iconst 0, 1, 0, 0, 0), some (.ireturn, 1, 0, 0, 0), some (.aload_n 0, 1, 0, 0, 0), some (.invokevirtual 243, 3, 240, 0, 1692), none, none, some (.bipush 60, 2, 0, 0, 0), none, some (.if_icmp .ne 8, 3, 0, 0, 0), none, none, some (.bipush 7, 2, 0, 0, 0), none, some (.goto 32, 3, 0, 0, 0), none, none, some (.aload_n 0, 1, 0, 0, 0), some (.invokevirtual 243, 3, 240, 0, 1692), none, none, some (.bipush 62, 2, 0, 0, 0), none, some (.if_icmp .ne 8, 3, 0, 0, 0), none, none], [some (.bipush 8, 2, 0, 0, 0), none, some (.goto 18, 3, 0, 0, 0), none, none, some (.aload_n 0, 1, 0, 0, 0), some (.invokevirtual 243, 3, 240, 0, 1692), none, none, some (.bipush 61, 2, 0, 0, 0), none, some (.if_icmp .ne 8, 3, 0, 0, 0), none, none, some (.bipush 9, 2, 0, 0, 0), none, some (.goto 4, 3, 0, 0, 0), none, none, some (.iconst (-1), 1, 0, 0, 0), some (.istore_n 1, 1, 0, 0, 0), some (.iload_n 1, 1, 0, 0, 0), some (.iconst (-1), 1, 0, 0, 0), some (.if_icmp .ne 13, 3, 0, 0, 0), none, none, some (.aload_n 0, 1, 0, 0, 0), some (.iconst 1, 1, 0, 0, 0), some (.aload_n 0, 1, 0, 0, 0), some (.getfield 237, 3, 11, 17, 1398), none, none], [some (.invokevirtual 249, 3, 242, 0, 1696), none, none, some (.ireturn, 1, 0, 0, 0), some (.aload_n 0, 1, 0, 0, 0), some (.aload_n 0, 1, 0, 0, 0), some (.getfield 237, 3, 11, 17, 1398), none, none, some (.iconst 1, 1, 0, 0, 0), some (.iadd, 1, 0, 0, 0), some (.putfield 237, 3, 11, 17, 1398), none, none, some (.aload_n 0, 1, 0, 0, 0), some (.invokevirtual 297, 3, 253, 0, 1700), none, none, some (.ifCond .ne 5, 3, 0, 0, 0), none, none, some (.iconst 0, 1, 0, 0, 0), some (.ireturn, 1, 0, 0, 0), some (.aload_n 0, 1, 0, 0, 0), some (.iload_n 1, 1, 0, 0, 0), some (.iconst 0, 1, 0, 0, 0), some (.invokevirtual 272, 3, 245, 0, 1721), none, none, some (.aload_n 0, 1, 0, 0, 0), some (.invokevirtual 300, 3, 254, 0, 1751), none], [none, some (.iconst 1, 1, 0, 0, 0), some (.ireturn, 1, 0, 0, 0)]]
def cd_258 : List (List (Option si_E)) := [[some (.aload_n 0, 1, 0, 0, 0), some (.invokevirtual 243, 3, 240, 0, 1692), none, none, some (.bipush 40, 2, 0, 0, 0), none, some (.if_icmp .eq 13, 3, 0, 0, 0), none, none, some (.aload_n 0, 1, 0, 0, 0), some (.iconst 1, 1, 0, 0, 0), some (.aload_n 0, 1, 0, 0, 0), some (.getfield 237, 3, 11, 17, 1398), none, none, some (.invokevirtual 249, 3, 242, 0, 1696), none, none, some (.ireturn, 1, 0, 0, 0), some (.aload_n 0, 1, 0, 0, 0), some (.iconst 0, 1, 0, 0, 0), some (.putfield 263, 3, 11, 21, 1402), none, none, some (.aload_n 0, 1, 0, 0, 0), some (.iconst 0, 1, 0, 0, 0), some (.putfield 266, 3, 11, 23, 1404), none, none, some (.aload_n 0, 1, 0, 0, 0), some (.bipush 13, 2, 0, 0, 0), none], [some (.invokevirtual 275, 3, 246, 0, 1708), none, none, some (.ifCond .ne 5, 3, 0, 0, 0), none, none, some (.iconst 0, 1, 0, 0, 0), some (.ireturn, 1, 0, 0, 0), some (.aload_n 0, 1, 0, 0, 0), some (.invokevirtual 243, 3, 240, 0, 1692), none, none, some (.bipush 33, 2, 0, 0, 0), none, some (.if_icmp .eq 12, 3, 0, 0, 0), none, none, some (.aload_n 0, 1, 0, 0, 0), some (.invokevirtual 243, 3, 240, 0, 1692), none, none, some (.bipush 40, 2, 0, 0, 0), none, some (.if_icmp .ne 28, 3, 0, 0, 0), none, none, some (.aload_n 0, 1, 0, 0, 0), some (.aload_n 0, 1, 0, 0, 0), some (.invokevirtual 243, 3, 240, 0, 1692), none, none, some (.bipush 33, 2, 0, 0, 0)], [none, some (.if_icmp .ne 8, 3, 0, 0, 0), none, none, some (.bipush 10, 2, 0, 0, 0), none, some (.goto 5, 3, 0, 0, 0), none, none, some (.bipush 13, 2, 0, 0, 0), none, some (.invokevirtual 275, 3, 246, 0, 1708), none, none, some (.ifCond .ne (-38), 3, 0, 0, 0), none, none, some (.iconst 0, 1, 0, 0, 0), some (.ireturn, 1, 0, 0, 0), some (.aload_n 0, 1, 0, 0, 0), some (.invokevirtual 303, 3, 257, 0, 1747), none, none, some (.ifCond .ne 5, 3, 0, 0, 0), none, none, some (.iconst 0, 1, 0, 0, 0), some (.ireturn, 1, 0, 0, 0), some (.aload_n 0, 1, 0, 0, 0), some (.invokevirtual 243, 3, 240, 0, 1692), none, none], [some (.bipush 41, 2, 0, 0, 0), none, some (.if_icmp .ne 54, 3, 0, 0, 0), none, none, some (.aload_n 0, 1, 0, 0, 0), some (.iconst 1, 1, 0, 0, 0), some (.invokevirtual 306, 3, 255, 0, 1755), none, none, some (.aload_n 0, 1, 0, 0, 0), some (.aload_n 0, 1, 0, 0, 0), some (.getfield 266, 3, 11, 23, 1404), none, none, some (.iconst 1, 1, 0, 0, 0), some (.isub, 1, 0, 0, 0), some (.putfield 266, 3, 11, 23, 1404), none, none, some (.aload_n 0, 1, 0, 0, 0), some (.aload_n 0, 1, 0, 0, 0), some (.getfield 263, 3, 11, 21, 1402), none, none, some (.iconst 1, 1, 0, 0, 0), some (.isub, 1, 0, 0, 0), some (.putfield 263, 3, 11, 21, 1402), none, none, some (.aload_n 0, 1, 0, 0, 0), some (.aload_n 0, 1, 0, 0, 0)], [some (.getfield 237, 3, 11, 17, 1398), none, none, some (.iconst 1, 1, 0, 0, 0), some (.iadd, 1, 0, 0, 0), some (.putfield 237, 3, 11, 17, 1398), none, none, some (.aload_n 0, 1, 0, 0, 0), some (.getfield 266, 3, 11, 23, 1404), none, none, some (.ifCond .ne 5, 3, 0, 0, 0), none, none, some (.iconst 1, 1, 0, 0, 0), some (.ireturn, 1, 0, 0, 0), some (.aload_n 0, 1, 0, 0, 0), some (.invokevirtual 300, 3, 254, 0, 1751), none, none, some (.goto (-57), 3, 0, 0, 0), none, none, some (.aload_n 0, 1, 0, 0, 0), some (.invokevirtual 243, 3, 240, 0, 1692), none, none, some (.bipush 38, 2, 0, 0, 0), none, some (.if_icmp .eq 22, 3, 0, 0, 0), none], [none, some (.aload_n 0, 1, 0, 0, 0), some (.invokevirtual 243, 3, 240, 0, 1692), none, none, some (.bipush 124, 2, 0, 0, 0), none, some (.if_icmp .eq 13, 3, 0, 0, 0), none, none, some (.aload_n 0, 1, 0, 0, 0), some (.iconst 1, 1, 0, 0, 0), some (.aload_n 0, 1, 0, 0, 0), some (.getfield 237, 3, 11, 17, 1398), none, none, some (.invokevirtual 249, 3, 242, 0, 1696), none, none, some (.ireturn, 1, 0, 0, 0), some (.aload_n 0, 1, 0, 0, 0), some (.aload_n 0, 1, 0, 0, 0), some (.invokevirtual 243, 3, 240, 0, 1692), none, none, some (.bipush 124, 2, 0, 0, 0), none, some (.if_icmp .ne 7, 3, 0, 0, 0), none, none, some (.iconst 1, 1, 0, 0, 0), some (.goto 4, 3, 0, 0, 0)], [none, none, some (.iconst 0, 1, 0, 0, 0), some (.invokevirtual 306, 3, 255, 0, 1755), none, none, some (.aload_n 0, 1, 0, 0, 0), some (.aload_n 0, 1, 0, 0, 0), some (.invokevirtual 243, 3, 240, 0, 1692), none, none, some (.bipush 38, 2, 0, 0, 0), none, some (.if_icmp .ne 8, 3, 0, 0, 0), none, none, some (.bipush 11, 2, 0, 0, 0), none, some (.goto 5, 3, 0, 0, 0), none, none, some (.bipush 12, 2, 0, 0, 0), none, some (.invokevirtual 309, 3, 256, 0, 1759), none, none, some (.goto (-178), 3, 0, 0, 0)]]
def cd_259 : List (List (Option si_E)) := [[some (.aload_n 0, 1, 0, 0, 0), some (.invokevirtual 243, 3, 240, 0, 1692), none, none, some (.istore_n 1, 1, 0, 0, 0), some (.iload_n 1, 1, 0, 0, 0), some (.bipush 103, 2, 0, 0, 0), none, some (.if_icmp .eq 31, 3, 0, 0, 0), none, none, some (.iload_n 1, 1, 0, 0, 0), some (.bipush 108, 2, 0, 0, 0), none, some (.if_icmp .eq 25, 3, 0, 0, 0), none, none, some (.iload_n 1, 1, 0, 0, 0), some (.bipush 115, 2, 0, 0, 0), none, some (.if_icmp .eq 19, 3, 0, 0, 0), none, none, some (.iload_n 1, 1, 0, 0, 0), some (.bipush 120, 2, 0, 0, 0), none, some (.if_icmp .eq 13, 3, 0, 0, 0), none, none, some (.aload_n 0, 1, 0, 0, 0), some (.iconst 1, 1, 0, 0, 0), some (.aload_n 0, 1, 0, 0, 0)], [some (.getfield 237, 3, 11, 17, 1398), none, none, some (.invokevirtual 249, 3, 242, 0, 1696), none, none, some (.ireturn, 1, 0, 0, 0), some (.aload_n 0, 1, 0, 0, 0), some (.getfield 312, 3, 11, 24, 1405), none, none, some (.bipush 16, 2, 0, 0, 0), none, some (.if_icmp .ne 13, 3, 0, 0, 0), none, none, some (.aload_n 0, 1, 0, 0, 0), some (.iconst 4, 1, 0, 0, 0), some (.aload_n 0, 1, 0, 0, 0), some (.getfield 237, 3, 11, 17, 1398), none, none, some (.invokevirtual 249, 3, 242, 0, 1696), none, none, some (.ireturn, 1, 0, 0, 0), some (.aload_n 0, 1, 0, 0, 0), some (.getfield 50, 3, 11, 28, 1409), none, none, some (.aload_n 0, 1, 0, 0, 0), some (.getfield 312, 3, 11, 24, 1405)], [none, none, some (.iload_n 1, 1, 0, 0, 0), some (.iastore, 1, 0, 0, 0), some (.aload_n 0, 1, 0, 0, 0), some (.aload_n 0, 1, 0, 0, 0), some (.getfield 237, 3, 11, 17, 1398), none, none, some (.iconst 1, 1, 0, 0, 0), some (.iadd, 1, 0, 0, 0), some (.putfield 237, 3, 11, 17, 1398), none, none, some (.aload_n 0, 1, 0, 0, 0), some (.getfield 53, 3, 11, 29, 1410), none, none, some (.aload_n 0, 1, 0, 0, 0), some (.getfield 312, 3, 11, 24, 1405), none, none, some (.aload_n 0, 1, 0, 0, 0), some (.getfield 259, 3, 11, 22, 1403), none, none, some (.iastore, 1, 0, 0, 0), some (.aload_n 0, 1, 0, 0, 0), some (.iconst 0, 1, 0, 0, 0), some (.putfield 263, 3, 11, 21, 1402), none, none], [some (.aload_n 0, 1, 0, 0, 0), some (.iconst 0, 1, 0, 0, 0), some (.putfield 266, 3, 11, 23, 1404), none, none, some (.iload_n 1, 1, 0, 0, 0), some (.bipush 120, 2, 0, 0, 0), none, some (.if_icmp .eq 12, 3, 0, 0, 0), none, none, some (.aload_n 0, 1, 0, 0, 0), some (.invokevirtual 297, 3, 253, 0, 1700), none, none, some (.ifCond .ne 5, 3, 0, 0, 0), none, none, some (.iconst 0, 1, 0, 0, 0), some (.ireturn, 1, 0, 0, 0), some (.aload_n 0, 1, 0, 0, 0), some (.getfield 56, 3, 11, 30, 1411), none, none, some (.aload_n 0, 1, 0, 0, 0), some (.getfield 312, 3, 11, 24, 1405), none, none, some (.aload_n 0, 1, 0, 0, 0), some (.getfield 259, 3, 11, 22, 1403), none, none], [some (.iastore, 1, 0, 0, 0), some (.aload_n 0, 1, 0, 0, 0), some (.invokevirtual 315, 3, 258, 0, 1743), none, none, some (.ifCond .ne 5, 3, 0, 0, 0), none, none, some (.iconst 0, 1, 0, 0, 0), some (.ireturn, 1, 0, 0, 0), some (.aload_n 0, 1, 0, 0, 0), some (.getfield 59, 3, 11, 31, 1412), none, none, some (.aload_n 0, 1, 0, 0, 0), some (.getfield 312, 3, 11, 24, 1405), none, none, some (.aload_n 0, 1, 0, 0, 0), some (.getfield 259, 3, 11, 22, 1403), none, none, some (.iastore, 1, 0, 0, 0), some (.aload_n 0, 1, 0, 0, 0), some (.aload_n 0, 1, 0, 0, 0), some (.getfield 312, 3, 11, 24, 1405), none, none, some (.iconst 1, 1, 0, 0, 0), some (.iadd, 1, 0, 0, 0), some (.putfield 312, 3, 11, 24, 1405), none], [none, some (.iconst 1, 1, 0, 0, 0), some (.ireturn, 1, 0, 0, 0)]]
def cd_260 : List (List (Option si_E)) := [[some (.aload_n 0, 1, 0, 0, 0), some (.iconst 0, 1, 0, 0, 0), some (.putfield 237, 3, 11, 17, 1398), none, none, some (.aload_n 0, 1, 0, 0, 0), some (.iload_n 1, 1, 0, 0, 0), some (.putfield 240, 3, 11, 18, 1399), none, none, some (.aload_n 0, 1, 0, 0, 0), some (.iconst 0, 1, 0, 0, 0), some (.putfield 259, 3, 11, 22, 1403), none, none, some (.aload_n 0, 1, 0, 0, 0), some (.iconst 0, 1, 0, 0, 0), some (.putfield 312, 3, 11, 24, 1405), none, none, some (.return_, 1, 0, 0, 0)]]
def cd_261 : List (List (Option si_E)) := [[some (.iload_n 1, 1, 0, 0, 0), some (.iconst 1, 1, 0, 0, 0), some (.sipush 240, 3, 0, 0, 0), none, none, some (.invokestatic 157, 3, 202, 0, 1584), none, none, some (.ifCond .eq 11, 3, 0, 0, 0), none, none, some (.iload_n 1, 1, 0, 0, 0), some (.aload_n 0, 1, 0, 0, 0), some (.getfield 230, 3, 11, 16, 1397), none, none, some (.if_icmp .le 5, 3, 0, 0, 0), none, none, some (.iconst (-1), 1, 0, 0, 0), some (.ireturn, 1, 0, 0, 0), some (.aload_n 0, 1, 0, 0, 0), some (.iload_n 1, 1, 0, 0, 0), some (.invokevirtual 318, 3, 260, 0, 1684), none, none, some (.aload_n 0, 1, 0, 0, 0), some (.invokevirtual 321, 3, 259, 0, 1688), none, none, some (.istore_n 2, 1, 0, 0, 0), some (.iload_n 2, 1, 0, 0, 0)], [some (.ifCond .eq 39, 3, 0, 0, 0), none, none, some (.aload_n 0, 1, 0, 0, 0), some (.getfield 237, 3, 11, 17, 1398), none, none, some (.aload_n 0, 1, 0, 0, 0), some (.getfield 240, 3, 11, 18, 1399), none, none, some (.if_icmp .ge 28, 3, 0, 0, 0), none, none, some (.aload_n 0, 1, 0, 0, 0), some (.bipush 59, 2, 0, 0, 0), none, some (.invokevirtual 324, 3, 243, 0, 1763), none, none, some (.ifCond .eq 14, 3, 0, 0, 0), none, none, some (.aload_n 0, 1, 0, 0, 0), some (.invokevirtual 321, 3, 259, 0, 1688), none, none, some (.ifCond .eq 7, 3, 0, 0, 0), none, none, some (.iconst 1, 1, 0, 0, 0), some (.goto 4, 3, 0, 0, 0)], [none, none, some (.iconst 0, 1, 0, 0, 0), some (.istore_n 2, 1, 0, 0, 0), some (.goto (-37), 3, 0, 0, 0), none, none, some (.aload_n 0, 1, 0, 0, 0), some (.iconst 0, 1, 0, 0, 0), some (.putfield 230, 3, 11, 16, 1397), none, none, some (.iload_n 2, 1, 0, 0, 0), some (.ifCond .ne 8, 3, 0, 0, 0), none, none, some (.aload_n 0, 1, 0, 0, 0), some (.getfield 246, 3, 11, 19, 1400), none, none, some (.ireturn, 1, 0, 0, 0), some (.aload_n 0, 1, 0, 0, 0), some (.aload_n 0, 1, 0, 0, 0), some (.getfield 312, 3, 11, 24, 1405), none, none, some (.putfield 327, 3, 11, 25, 1406), none, none, some (.iconst 0, 1, 0, 0, 0), some (.istore_n 3, 1, 0, 0, 0), some (.iload_n 3, 1, 0, 0, 0)], [some (.aload_n 0, 1, 0, 0, 0), some (.getfield 259, 3, 11, 22, 1403), none, none, some (.if_icmp .ge 21, 3, 0, 0, 0), none, none, some (.aload_n 0, 1, 0, 0, 0), some (.getfield 62, 3, 11, 32, 1413), none, none, some (.iload_n 3, 1, 0, 0, 0), some (.aload_n 0, 1, 0, 0, 0), some (.getfield 44, 3, 11, 26, 1407), none, none, some (.iload_n 3, 1, 0, 0, 0), some (.iaload, 1, 0, 0, 0), some (.iastore, 1, 0, 0, 0), some (.iinc 3 1, 3, 0, 0, 0), none, none, some (.goto (-23), 3, 0, 0, 0), none, none, some (.iconst 0, 1, 0, 0, 0), some (.istore_n 3, 1, 0, 0, 0), some (.iload_n 3, 1, 0, 0, 0), some (.aload_n 0, 1, 0, 0, 0), some (.getfield 312, 3, 11, 24, 1405), none, none], [some (.if_icmp .ge 57, 3, 0, 0, 0), none, none, some (.aload_n 0, 1, 0, 0, 0), some (.getfield 65, 3, 11, 33, 1414), none, none, some (.iload_n 3, 1, 0, 0, 0), some (.aload_n 0, 1, 0, 0, 0), some (.getfield 50, 3, 11, 28, 1409), none, none, some (.iload_n 3, 1, 0, 0, 0), some (.iaload, 1, 0, 0, 0), some (.iastore, 1, 0, 0, 0), some (.aload_n 0, 1, 0, 0, 0), some (.getfield 68, 3, 11, 34, 1415), none, none, some (.iload_n 3, 1, 0, 0, 0), some (.aload_n 0, 1, 0, 0, 0), some (.getfield 53, 3, 11, 29, 1410), none, none, some (.iload_n 3, 1, 0, 0, 0), some (.iaload, 1, 0, 0, 0), some (.iastore, 1, 0, 0, 0), some (.aload_n 0, 1, 0, 0, 0), some (.getfield 71, 3, 11, 35, 1416), none, none, some (.iload_n 3, 1, 0, 0, 0)], [some (.aload_n 0, 1, 0, 0, 0), some (.getfield 56, 3, 11, 30, 1411), none, none, some (.iload_n 3, 1, 0, 0, 0), some (.iaload, 1, 0, 0, 0), some (.iastore, 1, 0, 0, 0), some (.aload_n 0, 1, 0, 0, 0), some (.getfield 74, 3, 11, 36, 1417), none, none, some (.iload_n 3, 1, 0, 0, 0), some (.aload_n 0, 1, 0, 0, 0), some (.getfield 59, 3, 11, 31, 1412), none, none, some (.iload_n 3, 1, 0, 0, 0), some (.iaload, 1, 0, 0, 0), some (.iastore, 1, 0, 0, 0), some (.iinc 3 1, 3, 0, 0, 0), none, none, some (.goto (-59), 3, 0, 0, 0), none, none, some (.aload_n 0, 1, 0, 0, 0), some (.getfield 312, 3, 11, 24, 1405), none, none, some (.ireturn, 1, 0, 0, 0)]]
def cd_262 : List (List (Option si_E)) := [[some (.iload_n 0, 1, 0, 0, 0), some (.tableswitch 85 2 8 #[43, 47, 51, 55, 59, 63, 74], 43, 0, 0, 0), none, none, none, none, none, none, none, none, none, none, none, none, none, none, none, none, none, none, none, none, none, none, none, none, none, none, none, none, none, none], [none, none, none, none, none, none, none, none, none, none, none, none, some (.iload_n 1, 1, 0, 0, 0), some (.iload_n 2, 1, 0, 0, 0), some (.iadd, 1, 0, 0, 0), some (.ireturn, 1, 0, 0, 0), some (.iload_n 1, 1, 0, 0, 0), some (.iload_n 2, 1, 0, 0, 0), some (.isub, 1, 0, 0, 0), some (.ireturn, 1, 0, 0, 0), some (.iload_n 1, 1, 0, 0, 0), some (.iload_n 2, 1, 0, 0, 0), some (.imul, 1, 0, 0, 0), some (.ireturn, 1, 0, 0, 0), some (.iload_n 1, 1, 0, 0, 0), some (.iload_n 2, 1, 0, 0, 0), some (.idiv, 1, 0, 0, 0), some (.ireturn, 1, 0, 0, 0), some (.iload_n 1, 1, 0, 0, 0), some (.iload_n 2, 1, 0, 0, 0), some (.irem, 1, 0, 0, 0), some (.ireturn, 1, 0, 0, 0)], [some (.iload_n 1, 1, 0, 0, 0), some (.iload_n 2, 1, 0, 0, 0), some (.if_icmp .ge 7, 3, 0, 0, 0), none, none, some (.iconst 1, 1, 0, 0, 0), some (.goto 4, 3, 0, 0, 0), none, none, some (.iconst 0, 1, 0, 0, 0), some (.ireturn, 1, 0, 0, 0), some (.iload_n 1, 1, 0, 0, 0), some (.iload_n 2, 1, 0, 0, 0), some (.if_icmp .le 7, 3, 0, 0, 0), none, none, some (.iconst 1, 1, 0, 0, 0), some (.goto 4, 3, 0, 0, 0), none, none, some (.iconst 0, 1, 0, 0, 0), some (.ireturn, 1, 0, 0, 0), some (.iload_n 1, 1, 0, 0, 0), some (.iload_n 2, 1, 0, 0, 0), some (.if_icmp .ne 7, 3, 0, 0, 0), none, none, some (.iconst 1, 1, 0, 0, 0), some (.goto 4, 3, 0, 0, 0), none, none, some (.iconst 0, 1, 0, 0, 0)], [some (.ireturn, 1, 0, 0, 0)]]
def cd_263 : List (List (Option si_E)) := [[some (.iconst 0, 1, 0, 0, 0), some (.istore_n 3, 1, 0, 0, 0), some (.sipush 260, 3, 0, 0, 0), none, none, some (.iload_n 1, 1, 0, 0, 0), some (.sipush 260, 3, 0, 0, 0), none, none, some (.idiv, 1, 0, 0, 0), some (.imul, 1, 0, 0, 0), some (.istore 4, 2, 0, 0, 0), none, some (.iload_n 1, 1, 0, 0, 0), some (.istore 5, 2, 0, 0, 0), none, some (.iload 5, 2, 0, 0, 0), none, some (.iload_n 2, 1, 0, 0, 0), some (.if_icmp .ge 216, 3, 0, 0, 0), none, none, some (.aload_n 0, 1, 0, 0, 0), some (.getfield 62, 3, 11, 32, 1413), none, none, some (.iload 5, 2, 0, 0, 0), none, some (.iaload, 1, 0, 0, 0), some (.ldc_w 262, 3, 1048576, 0, 1712), none, none], [some (.idiv, 1, 0, 0, 0), some (.istore 6, 2, 0, 0, 0), none, some (.aload_n 0, 1, 0, 0, 0), some (.getfield 62, 3, 11, 32, 1413), none, none, some (.iload 5, 2, 0, 0, 0), none, some (.iaload, 1, 0, 0, 0), some (.ldc_w 262, 3, 1048576, 0, 1712), none, none, some (.irem, 1, 0, 0, 0), some (.istore 7, 2, 0, 0, 0), none, some (.iload 5, 2, 0, 0, 0), none, some (.iconst 1, 1, 0, 0, 0), some (.iadd, 1, 0, 0, 0), some (.istore 5, 2, 0, 0, 0), none, some (.iload 6, 2, 0, 0, 0), none, some (.ifCond .eq 9, 3, 0, 0, 0), none, none, some (.iload 6, 2, 0, 0, 0), none, some (.iconst 1, 1, 0, 0, 0), some (.if_icmp .ne 33, 3, 0, 0, 0), none], [none, some (.aload_n 0, 1, 0, 0, 0), some (.getfield 77, 3, 11, 37, 1418), none, none, some (.iload_n 3, 1, 0, 0, 0), some (.iload 6, 2, 0, 0, 0), none, some (.ifCond .ne 8, 3, 0, 0, 0), none, none, some (.iload 7, 2, 0, 0, 0), none, some (.goto 10, 3, 0, 0, 0), none, none, some (.aload_n 0, 1, 0, 0, 0), some (.getfield 80, 3, 11, 38, 1419), none, none, some (.iload 7, 2, 0, 0, 0), none, some (.iaload, 1, 0, 0, 0), some (.iastore, 1, 0, 0, 0), some (.iload_n 3, 1, 0, 0, 0), some (.iconst 1, 1, 0, 0, 0), some (.iadd, 1, 0, 0, 0), some (.istore_n 3, 1, 0, 0, 0), some (.goto 140, 3, 0, 0, 0), none, none, some (.iload 6, 2, 0, 0, 0)], [none, some (.bipush 10, 2, 0, 0, 0), none, some (.if_icmp .ne 24, 3, 0, 0, 0), none, none, some (.aload_n 0, 1, 0, 0, 0), some (.getfield 77, 3, 11, 37, 1418), none, none, some (.iload_n 3, 1, 0, 0, 0), some (.iconst 1, 1, 0, 0, 0), some (.isub, 1, 0, 0, 0), some (.iconst 1, 1, 0, 0, 0), some (.aload_n 0, 1, 0, 0, 0), some (.getfield 77, 3, 11, 37, 1418), none, none, some (.iload_n 3, 1, 0, 0, 0), some (.iconst 1, 1, 0, 0, 0), some (.isub, 1, 0, 0, 0), some (.iaload, 1, 0, 0, 0), some (.isub, 1, 0, 0, 0), some (.iastore, 1, 0, 0, 0), some (.goto 112, 3, 0, 0, 0), none, none, some (.iload 6, 2, 0, 0, 0), none, some (.bipush 11, 2, 0, 0, 0), none, some (.if_icmp .eq 10, 3, 0, 0, 0)], [none, none, some (.iload 6, 2, 0, 0, 0), none, some (.bipush 12, 2, 0, 0, 0), none, some (.if_icmp .ne 43, 3, 0, 0, 0), none, none, some (.aload_n 0, 1, 0, 0, 0), some (.getfield 77, 3, 11, 37, 1418), none, none, some (.iload_n 3, 1, 0, 0, 0), some (.iconst 1, 1, 0, 0, 0), some (.isub, 1, 0, 0, 0), some (.iaload, 1, 0, 0, 0), some (.iload 6, 2, 0, 0, 0), none, some (.bipush 12, 2, 0, 0, 0), none, some (.if_icmp .ne 7, 3, 0, 0, 0), none, none, some (.iconst 1, 1, 0, 0, 0), some (.goto 4, 3, 0, 0, 0), none, none, some (.iconst 0, 1, 0, 0, 0), some (.if_icmp .ne 13, 3, 0, 0, 0), none, none], [some (.iload 4, 2, 0, 0, 0), none, some (.iload 7, 2, 0, 0, 0), none, some (.iadd, 1, 0, 0, 0), some (.istore 5, 2, 0, 0, 0), none, some (.goto 65, 3, 0, 0, 0), none, none, some (.iload_n 3, 1, 0, 0, 0), some (.iconst 1, 1, 0, 0, 0), some (.isub, 1, 0, 0, 0), some (.istore_n 3, 1, 0, 0, 0), some (.goto 58, 3, 0, 0, 0), none, none, some (.iload_n 3, 1, 0, 0, 0), some (.iconst 1, 1, 0, 0, 0), some (.isub, 1, 0, 0, 0), some (.istore_n 3, 1, 0, 0, 0), some (.iload 6, 2, 0, 0, 0), none, some (.iconst 5, 1, 0, 0, 0), some (.if_icmp .eq 10, 3, 0, 0, 0), none, none, some (.iload 6, 2, 0, 0, 0), none, some (.bipush 6, 2, 0, 0, 0), none, some (.if_icmp .ne 14, 3, 0, 0, 0)], [none, none, some (.aload_n 0, 1, 0, 0, 0), some (.getfield 77, 3, 11, 37, 1418), none, none, some (.iload_n 3, 1, 0, 0, 0), some (.iaload, 1, 0, 0, 0), some (.ifCond .ne 5, 3, 0, 0, 0), none, none, some (.iconst 0, 1, 0, 0, 0), some (.ireturn, 1, 0, 0, 0), some (.aload_n 0, 1, 0, 0, 0), some (.getfield 77, 3, 11, 37, 1418), none, none, some (.iload_n 3, 1, 0, 0, 0), some (.iconst 1, 1, 0, 0, 0), some (.isub, 1, 0, 0, 0), some (.iload 6, 2, 0, 0, 0), none, some (.aload_n 0, 1, 0, 0, 0), some (.getfield 77, 3, 11, 37, 1418), none, none, some (.iload_n 3, 1, 0, 0, 0), some (.iconst 1, 1, 0, 0, 0), some (.isub, 1, 0, 0, 0), some (.iaload, 1, 0, 0, 0), some (.aload_n 0, 1, 0, 0, 0), some (.getfield 77, 3, 11, 37, 1418)], [none, none, some (.iload_n 3, 1, 0, 0, 0), some (.iaload, 1, 0, 0, 0), some (.invokestatic 330, 3, 262, 0, 2062), none, none, some (.iastore, 1, 0, 0, 0), some (.goto (-216), 3, 0, 0, 0), none, none, some (.aload_n 0, 1, 0, 0, 0), some (.getfield 77, 3, 11, 37, 1418), none, none, some (.iconst 0, 1, 0, 0, 0), some (.iaload, 1, 0, 0, 0), some (.ireturn, 1, 0, 0, 0)]]
def cd_264 : List (List (Option si_E)) := [[some (.iconst 0, 1, 0, 0, 0), some (.istore_n 3, 1, 0, 0, 0), some (.iload_n 3, 1, 0, 0, 0), some (.aload_n 0, 1, 0, 0, 0), some (.getfield 327, 3, 11, 25, 1406), none, none, some (.if_icmp .ge 82, 3, 0, 0, 0), none, none, some (.aload_n 0, 1, 0, 0, 0), some (.getfield 65, 3, 11, 33, 1414), none, none, some (.iload_n 3, 1, 0, 0, 0), some (.iaload, 1, 0, 0, 0), some (.iload_n 1, 1, 0, 0, 0), some (.if_icmp .ne 66, 3, 0, 0, 0), none, none, some (.aload_n 0, 1, 0, 0, 0), some (.aload_n 0, 1, 0, 0, 0), some (.getfield 71, 3, 11, 35, 1416), none, none, some (.iload_n 3, 1, 0, 0, 0), some (.iaload, 1, 0, 0, 0), some (.aload_n 0, 1, 0, 0, 0), some (.getfield 74, 3, 11, 36, 1417), none, none, some (.iload_n 3, 1, 0, 0, 0)], [some (.iaload, 1, 0, 0, 0), some (.invokevirtual 333, 3, 263, 0, 2058), none, none, some (.iconst 1, 1, 0, 0, 0), some (.if_icmp .eq 6, 3, 0, 0, 0), none, none, some (.goto 43, 3, 0, 0, 0), none, none, some (.aload_n 0, 1, 0, 0, 0), some (.aload_n 0, 1, 0, 0, 0), some (.getfield 68, 3, 11, 34, 1415), none, none, some (.iload_n 3, 1, 0, 0, 0), some (.iaload, 1, 0, 0, 0), some (.aload_n 0, 1, 0, 0, 0), some (.getfield 71, 3, 11, 35, 1416), none, none, some (.iload_n 3, 1, 0, 0, 0), some (.iaload, 1, 0, 0, 0), some (.invokevirtual 333, 3, 263, 0, 2058), none, none, some (.istore 4, 2, 0, 0, 0), none, some (.iload 4, 2, 0, 0, 0), none, some (.ifCond .ge 7, 3, 0, 0, 0)], [none, none, some (.iconst 0, 1, 0, 0, 0), some (.goto 15, 3, 0, 0, 0), none, none, some (.iload 4, 2, 0, 0, 0), none, some (.iload_n 2, 1, 0, 0, 0), some (.if_icmp .le 7, 3, 0, 0, 0), none, none, some (.iload_n 2, 1, 0, 0, 0), some (.goto 5, 3, 0, 0, 0), none, none, some (.iload 4, 2, 0, 0, 0), none, some (.ireturn, 1, 0, 0, 0), some (.iinc 3 1, 3, 0, 0, 0), none, none, some (.goto (-84), 3, 0, 0, 0), none, none, some (.iconst 0, 1, 0, 0, 0), some (.ireturn, 1, 0, 0, 0)]]
def cd_265 : List (List (Option si_E)) := [[some (.iconst 0, 1, 0, 0, 0), some (.istore_n 2, 1, 0, 0, 0), some (.iload_n 2, 1, 0, 0, 0), some (.aload_n 0, 1, 0, 0, 0), some (.getfield 327, 3, 11, 25, 1406), none, none, some (.if_icmp .ge 41, 3, 0, 0, 0), none, none, some (.aload_n 0, 1, 0, 0, 0), some (.getfield 65, 3, 11, 33, 1414), none, none, some (.iload_n 2, 1, 0, 0, 0), some (.iaload, 1, 0, 0, 0), some (.iload_n 1, 1, 0, 0, 0), some (.if_icmp .ne 25, 3, 0, 0, 0), none, none, some (.aload_n 0, 1, 0, 0, 0), some (.aload_n 0, 1, 0, 0, 0), some (.getfield 71, 3, 11, 35, 1416), none, none, some (.iload_n 2, 1, 0, 0, 0), some (.iaload, 1, 0, 0, 0), some (.aload_n 0, 1, 0, 0, 0), some (.getfield 74, 3, 11, 36, 1417), none, none, some (.iload_n 2, 1, 0, 0, 0)], [some (.iaload, 1, 0, 0, 0), some (.invokevirtual 333, 3, 263, 0, 2058), none, none, some (.iconst 1, 1, 0, 0, 0), some (.if_icmp .ne 5, 3, 0, 0, 0), none, none, some (.iconst 1, 1, 0, 0, 0), some (.ireturn, 1, 0, 0, 0), some (.iinc 2 1, 3, 0, 0, 0), none, none, some (.goto (-43), 3, 0, 0, 0), none, none, some (.iconst 0, 1, 0, 0, 0), some (.ireturn, 1, 0, 0, 0)]]
def cd_266 : List (List (Option si_E)) := [[some (.aload_n 0, 1, 0, 0, 0), some (.getfield 237, 3, 11, 17, 1398), none, none, some (.istore_n 2, 1, 0, 0, 0), some (.aload_n 0, 1, 0, 0, 0), some (.invokevirtual 255, 3, 241, 0, 1713), none, none, some (.ifCond .ne 13, 3, 0, 0, 0), none, none, some (.aload_n 0, 1, 0, 0, 0), some (.iconst 1, 1, 0, 0, 0), some (.aload_n 0, 1, 0, 0, 0), some (.getfield 237, 3, 11, 17, 1398), none, none, some (.invokevirtual 249, 3, 242, 0, 1696), none, none, some (.ireturn, 1, 0, 0, 0), some (.aload_n 0, 1, 0, 0, 0), some (.iconst 0, 1, 0, 0, 0), some (.putfield 252, 3, 11, 20, 1401), none, none, some (.aload_n 0, 1, 0, 0, 0), some (.invokevirtual 255, 3, 241, 0, 1713), none, none, some (.ifCond .eq 55, 3, 0, 0, 0)], [none, none, some (.aload_n 0, 1, 0, 0, 0), some (.getfield 237, 3, 11, 17, 1398), none, none, some (.iload_n 2, 1, 0, 0, 0), some (.iload_n 1, 1, 0, 0, 0), some (.iadd, 1, 0, 0, 0), some (.if_icmp .ne 13, 3, 0, 0, 0), none, none, some (.aload_n 0, 1, 0, 0, 0), some (.iconst 2, 1, 0, 0, 0), some (.aload_n 0, 1, 0, 0, 0), some (.getfield 237, 3, 11, 17, 1398), none, none, some (.invokevirtual 249, 3, 242, 0, 1696), none, none, some (.ireturn, 1, 0, 0, 0), some (.aload_n 0, 1, 0, 0, 0), some (.bipush 10, 2, 0, 0, 0), none, some (.aload_n 0, 1, 0, 0, 0), some (.getfield 252, 3, 11, 20, 1401), none, none, some (.imul, 1, 0, 0, 0), some (.aload_n 0, 1, 0, 0, 0), some (.invokevirtual 243, 3, 240, 0, 1692)], [none, none, some (.iadd, 1, 0, 0, 0), some (.bipush 48, 2, 0, 0, 0), none, some (.isub, 1, 0, 0, 0), some (.putfield 252, 3, 11, 20, 1401), none, none, some (.aload_n 0, 1, 0, 0, 0), some (.aload_n 0, 1, 0, 0, 0), some (.getfield 237, 3, 11, 17, 1398), none, none, some (.iconst 1, 1, 0, 0, 0), some (.iadd, 1, 0, 0, 0), some (.putfield 237, 3, 11, 17, 1398), none, none, some (.goto (-56), 3, 0, 0, 0), none, none, some (.iconst 1, 1, 0, 0, 0), some (.ireturn, 1, 0, 0, 0)]]
def cd_267 : List (List (Option si_E)) := [[some (.aload_n 0, 1, 0, 0, 0), some (.bipush 64, 2, 0, 0, 0), none, some (.invokevirtual 324, 3, 243, 0, 1763), none, none, some (.ifCond .ne 5, 3, 0, 0, 0), none, none, some (.iconst 0, 1, 0, 0, 0), some (.ireturn, 1, 0, 0, 0), some (.aload_n 0, 1, 0, 0, 0), some (.getfield 237, 3, 11, 17, 1398), none, none, some (.istore_n 1, 1, 0, 0, 0), some (.aload_n 0, 1, 0, 0, 0), some (.iconst 4, 1, 0, 0, 0), some (.invokevirtual 336, 3, 266, 0, 1782), none, none, some (.ifCond .eq 27, 3, 0, 0, 0), none, none, some (.aload_n 0, 1, 0, 0, 0), some (.getfield 252, 3, 11, 20, 1401), none, none, some (.aload_n 0, 1, 0, 0, 0), some (.getfield 153, 3, 11, 9, 1390), none, none], [some (.if_icmp .lt 12, 3, 0, 0, 0), none, none, some (.aload_n 0, 1, 0, 0, 0), some (.iconst 3, 1, 0, 0, 0), some (.iload_n 1, 1, 0, 0, 0), some (.invokevirtual 249, 3, 242, 0, 1696), none, none, some (.ifCond .eq 7, 3, 0, 0, 0), none, none, some (.iconst 1, 1, 0, 0, 0), some (.goto 4, 3, 0, 0, 0), none, none, some (.iconst 0, 1, 0, 0, 0), some (.ireturn, 1, 0, 0, 0)]]
def cd_268 : List (List (Option si_E)) := [[some (.aload_n 0, 1, 0, 0, 0), some (.invokevirtual 243, 3, 240, 0, 1692), none, none, some (.bipush 97, 2, 0, 0, 0), none, some (.isub, 1, 0, 0, 0), some (.istore_n 1, 1, 0, 0, 0), some (.iload_n 1, 1, 0, 0, 0), some (.iconst 0, 1, 0, 0, 0), some (.bipush 7, 2, 0, 0, 0), none, some (.invokestatic 157, 3, 202, 0, 1584), none, none, some (.ifCond .ne 13, 3, 0, 0, 0), none, none, some (.aload_n 0, 1, 0, 0, 0), some (.iconst 1, 1, 0, 0, 0), some (.aload_n 0, 1, 0, 0, 0), some (.getfield 237, 3, 11, 17, 1398), none, none, some (.invokevirtual 249, 3, 242, 0, 1696), none, none, some (.ireturn, 1, 0, 0, 0), some (.aload_n 0, 1, 0, 0, 0), some (.getfield 339, 3, 11, 45, 1426), none, none], [some (.iload_n 1, 1, 0, 0, 0), some (.invokestatic 164, 3, 206, 0, 1775), none, none, some (.ifCond .eq 14, 3, 0, 0, 0), none, none, some (.aload_n 0, 1, 0, 0, 0), some (.bipush 6, 2, 0, 0, 0), none, some (.aload_n 0, 1, 0, 0, 0), some (.getfield 237, 3, 11, 17, 1398), none, none, some (.invokevirtual 249, 3, 242, 0, 1696), none, none, some (.ireturn, 1, 0, 0, 0), some (.aload_n 0, 1, 0, 0, 0), some (.aload_n 0, 1, 0, 0, 0), some (.getfield 237, 3, 11, 17, 1398), none, none, some (.iconst 1, 1, 0, 0, 0), some (.iadd, 1, 0, 0, 0), some (.putfield 237, 3, 11, 17, 1398), none, none, some (.aload_n 0, 1, 0, 0, 0), some (.invokevirtual 342, 3, 267, 0, 1778), none, none], [some (.ifCond .ne 5, 3, 0, 0, 0), none, none, some (.iconst 0, 1, 0, 0, 0), some (.ireturn, 1, 0, 0, 0), some (.aload_n 0, 1, 0, 0, 0), some (.getfield 83, 3, 11, 39, 1420), none, none, some (.iload_n 1, 1, 0, 0, 0), some (.aload_n 0, 1, 0, 0, 0), some (.getfield 252, 3, 11, 20, 1401), none, none, some (.iastore, 1, 0, 0, 0), some (.aload_n 0, 1, 0, 0, 0), some (.getfield 86, 3, 11, 40, 1421), none, none, some (.iload_n 1, 1, 0, 0, 0), some (.iconst 0, 1, 0, 0, 0), some (.iastore, 1, 0, 0, 0), some (.aload_n 0, 1, 0, 0, 0), some (.aload_n 0, 1, 0, 0, 0), some (.getfield 339, 3, 11, 45, 1426), none, none, some (.iconst 1, 1, 0, 0, 0), some (.iload_n 1, 1, 0, 0, 0), some (.ishl, 1, 0, 0, 0), some (.ior, 1, 0, 0, 0), some (.putfield 339, 3, 11, 45, 1426)], [none, none, some (.aload_n 0, 1, 0, 0, 0), some (.aload_n 0, 1, 0, 0, 0), some (.getfield 345, 3, 11, 47, 1428), none, none, some (.iconst 1, 1, 0, 0, 0), some (.iadd, 1, 0, 0, 0), some (.putfield 345, 3, 11, 47, 1428), none, none, some (.aload_n 0, 1, 0, 0, 0), some (.invokevirtual 243, 3, 240, 0, 1692), none, none, some (.bipush 43, 2, 0, 0, 0), none, some (.if_icmp .eq 14, 3, 0, 0, 0), none, none, some (.aload_n 0, 1, 0, 0, 0), some (.invokevirtual 243, 3, 240, 0, 1692), none, none, some (.bipush 45, 2, 0, 0, 0), none, some (.if_icmp .eq 5, 3, 0, 0, 0), none, none, some (.iconst 1, 1, 0, 0, 0), some (.ireturn, 1, 0, 0, 0)], [some (.aload_n 0, 1, 0, 0, 0), some (.invokevirtual 243, 3, 240, 0, 1692), none, none, some (.bipush 45, 2, 0, 0, 0), none, some (.if_icmp .ne 7, 3, 0, 0, 0), none, none, some (.iconst 1, 1, 0, 0, 0), some (.goto 4, 3, 0, 0, 0), none, none, some (.iconst 0, 1, 0, 0, 0), some (.istore_n 2, 1, 0, 0, 0), some (.aload_n 0, 1, 0, 0, 0), some (.aload_n 0, 1, 0, 0, 0), some (.getfield 237, 3, 11, 17, 1398), none, none, some (.iconst 1, 1, 0, 0, 0), some (.iadd, 1, 0, 0, 0), some (.putfield 237, 3, 11, 17, 1398), none, none, some (.aload_n 0, 1, 0, 0, 0), some (.iconst 2, 1, 0, 0, 0), some (.invokevirtual 336, 3, 266, 0, 1782), none, none, some (.ifCond .ne 5, 3, 0, 0, 0), none], [none, some (.iconst 0, 1, 0, 0, 0), some (.ireturn, 1, 0, 0, 0), some (.aload_n 0, 1, 0, 0, 0), some (.getfield 86, 3, 11, 40, 1421), none, none, some (.iload_n 1, 1, 0, 0, 0), some (.iload_n 2, 1, 0, 0, 0), some (.ifCond .eq 11, 3, 0, 0, 0), none, none, some (.aload_n 0, 1, 0, 0, 0), some (.getfield 252, 3, 11, 20, 1401), none, none, some (.ineg, 1, 0, 0, 0), some (.goto 7, 3, 0, 0, 0), none, none, some (.aload_n 0, 1, 0, 0, 0), some (.getfield 252, 3, 11, 20, 1401), none, none, some (.iastore, 1, 0, 0, 0), some (.iconst 1, 1, 0, 0, 0), some (.ireturn, 1, 0, 0, 0)]]
def cd_269 : List (List (Option si_E)) := [[some (.iload_n 1, 1, 0, 0, 0), some (.iconst 1, 1, 0, 0, 0), some (.bipush 120, 2, 0, 0, 0), none, some (.invokestatic 157, 3, 202, 0, 1584), none, none, some (.ifCond .eq 11, 3, 0, 0, 0), none, none, some (.iload_n 1, 1, 0, 0, 0), some (.aload_n 0, 1, 0, 0, 0), some (.getfield 230, 3, 11, 16, 1397), none, none, some (.if_icmp .le 5, 3, 0, 0, 0), none, none, some (.iconst (-1), 1, 0, 0, 0), some (.ireturn, 1, 0, 0, 0), some (.aload_n 0, 1, 0, 0, 0), some (.iload_n 1, 1, 0, 0, 0), some (.invokevirtual 318, 3, 260, 0, 1684), none, none, some (.aload_n 0, 1, 0, 0, 0), some (.iconst 0, 1, 0, 0, 0), some (.putfield 339, 3, 11, 45, 1426), none, none, some (.aload_n 0, 1, 0, 0, 0), some (.iconst 0, 1, 0, 0, 0)], [some (.putfield 345, 3, 11, 47, 1428), none, none, some (.aload_n 0, 1, 0, 0, 0), some (.invokevirtual 348, 3, 268, 0, 1771), none, none, some (.istore_n 2, 1, 0, 0, 0), some (.iload_n 2, 1, 0, 0, 0), some (.ifCond .eq 39, 3, 0, 0, 0), none, none, some (.aload_n 0, 1, 0, 0, 0), some (.getfield 237, 3, 11, 17, 1398), none, none, some (.aload_n 0, 1, 0, 0, 0), some (.getfield 240, 3, 11, 18, 1399), none, none, some (.if_icmp .ge 28, 3, 0, 0, 0), none, none, some (.aload_n 0, 1, 0, 0, 0), some (.bipush 59, 2, 0, 0, 0), none, some (.invokevirtual 324, 3, 243, 0, 1763), none, none, some (.ifCond .eq 14, 3, 0, 0, 0), none, none], [some (.aload_n 0, 1, 0, 0, 0), some (.invokevirtual 348, 3, 268, 0, 1771), none, none, some (.ifCond .eq 7, 3, 0, 0, 0), none, none, some (.iconst 1, 1, 0, 0, 0), some (.goto 4, 3, 0, 0, 0), none, none, some (.iconst 0, 1, 0, 0, 0), some (.istore_n 2, 1, 0, 0, 0), some (.goto (-37), 3, 0, 0, 0), none, none, some (.aload_n 0, 1, 0, 0, 0), some (.iconst 0, 1, 0, 0, 0), some (.putfield 230, 3, 11, 16, 1397), none, none, some (.iload_n 2, 1, 0, 0, 0), some (.ifCond .ne 8, 3, 0, 0, 0), none, none, some (.aload_n 0, 1, 0, 0, 0), some (.getfield 246, 3, 11, 19, 1400), none, none, some (.ireturn, 1, 0, 0, 0), some (.aload_n 0, 1, 0, 0, 0), some (.aload_n 0, 1, 0, 0, 0)], [some (.getfield 339, 3, 11, 45, 1426), none, none, some (.putfield 161, 3, 11, 10, 1391), none, none, some (.iconst 0, 1, 0, 0, 0), some (.istore_n 3, 1, 0, 0, 0), some (.iload_n 3, 1, 0, 0, 0), some (.bipush 8, 2, 0, 0, 0), none, some (.if_icmp .ge 48, 3, 0, 0, 0), none, none, some (.aload_n 0, 1, 0, 0, 0), some (.getfield 7, 3, 11, 0, 1381), none, none, some (.iconst 0, 1, 0, 0, 0), some (.iload_n 3, 1, 0, 0, 0), some (.iadd, 1, 0, 0, 0), some (.aload_n 0, 1, 0, 0, 0), some (.getfield 83, 3, 11, 39, 1420), none, none, some (.iload_n 3, 1, 0, 0, 0), some (.iaload, 1, 0, 0, 0), some (.iastore, 1, 0, 0, 0), some (.aload_n 0, 1, 0, 0, 0), some (.getfield 7, 3, 11, 0, 1381), none, none], [some (.bipush 8, 2, 0, 0, 0), none, some (.iload_n 3, 1, 0, 0, 0), some (.iadd, 1, 0, 0, 0), some (.aload_n 0, 1, 0, 0, 0), some (.getfield 86, 3, 11, 40, 1421), none, none, some (.iload_n 3, 1, 0, 0, 0), some (.iaload, 1, 0, 0, 0), some (.iastore, 1, 0, 0, 0), some (.aload_n 0, 1, 0, 0, 0), some (.getfield 7, 3, 11, 0, 1381), none, none, some (.bipush 16, 2, 0, 0, 0), none, some (.iload_n 3, 1, 0, 0, 0), some (.iadd, 1, 0, 0, 0), some (.iconst 0, 1, 0, 0, 0), some (.iastore, 1, 0, 0, 0), some (.iinc 3 1, 3, 0, 0, 0), none, none, some (.goto (-48), 3, 0, 0, 0), none, none, some (.aload_n 0, 1, 0, 0, 0), some (.getfield 345, 3, 11, 47, 1428), none, none, some (.ireturn, 1, 0, 0, 0)]]
def cd_270 : List (List (Option si_E)) := [[some (.aload_n 0, 1, 0, 0, 0), some (.invokevirtual 243, 3, 240, 0, 1692), none, none, some (.bipush 97, 2, 0, 0, 0), none, some (.isub, 1, 0, 0, 0), some (.istore_n 1, 1, 0, 0, 0), some (.iload_n 1, 1, 0, 0, 0), some (.iconst 0, 1, 0, 0, 0), some (.bipush 7, 2, 0, 0, 0), none, some (.invokestatic 157, 3, 202, 0, 1584), none, none, some (.ifCond .ne 13, 3, 0, 0, 0), none, none, some (.aload_n 0, 1, 0, 0, 0), some (.iconst 1, 1, 0, 0, 0), some (.aload_n 0, 1, 0, 0, 0), some (.getfield 237, 3, 11, 17, 1398), none, none, some (.invokevirtual 249, 3, 242, 0, 1696), none, none, some (.ireturn, 1, 0, 0, 0), some (.aload_n 0, 1, 0, 0, 0), some (.getfield 351, 3, 11, 46, 1427), none, none], [some (.bipush 16, 2, 0, 0, 0), none, some (.if_icmp .ne 13, 3, 0, 0, 0), none, none, some (.aload_n 0, 1, 0, 0, 0), some (.iconst 4, 1, 0, 0, 0), some (.aload_n 0, 1, 0, 0, 0), some (.getfield 237, 3, 11, 17, 1398), none, none, some (.invokevirtual 249, 3, 242, 0, 1696), none, none, some (.ireturn, 1, 0, 0, 0), some (.aload_n 0, 1, 0, 0, 0), some (.aload_n 0, 1, 0, 0, 0), some (.getfield 237, 3, 11, 17, 1398), none, none, some (.iconst 1, 1, 0, 0, 0), some (.iadd, 1, 0, 0, 0), some (.putfield 237, 3, 11, 17, 1398), none, none, some (.aload_n 0, 1, 0, 0, 0), some (.invokevirtual 243, 3, 240, 0, 1692), none, none, some (.bipush 97, 2, 0, 0, 0), none, some (.isub, 1, 0, 0, 0)], [some (.istore_n 2, 1, 0, 0, 0), some (.iload_n 2, 1, 0, 0, 0), some (.iconst 0, 1, 0, 0, 0), some (.bipush 7, 2, 0, 0, 0), none, some (.invokestatic 157, 3, 202, 0, 1584), none, none, some (.ifCond .ne 13, 3, 0, 0, 0), none, none, some (.aload_n 0, 1, 0, 0, 0), some (.iconst 1, 1, 0, 0, 0), some (.aload_n 0, 1, 0, 0, 0), some (.getfield 237, 3, 11, 17, 1398), none, none, some (.invokevirtual 249, 3, 242, 0, 1696), none, none, some (.ireturn, 1, 0, 0, 0), some (.iload_n 2, 1, 0, 0, 0), some (.iload_n 1, 1, 0, 0, 0), some (.if_icmp .ne 14, 3, 0, 0, 0), none, none, some (.aload_n 0, 1, 0, 0, 0), some (.bipush 6, 2, 0, 0, 0), none, some (.aload_n 0, 1, 0, 0, 0), some (.getfield 237, 3, 11, 17, 1398), none], [none, some (.invokevirtual 249, 3, 242, 0, 1696), none, none, some (.ireturn, 1, 0, 0, 0), some (.aload_n 0, 1, 0, 0, 0), some (.aload_n 0, 1, 0, 0, 0), some (.getfield 237, 3, 11, 17, 1398), none, none, some (.iconst 1, 1, 0, 0, 0), some (.iadd, 1, 0, 0, 0), some (.putfield 237, 3, 11, 17, 1398), none, none, some (.aload_n 0, 1, 0, 0, 0), some (.invokevirtual 342, 3, 267, 0, 1778), none, none, some (.ifCond .ne 5, 3, 0, 0, 0), none, none, some (.iconst 0, 1, 0, 0, 0), some (.ireturn, 1, 0, 0, 0), some (.aload_n 0, 1, 0, 0, 0), some (.getfield 89, 3, 11, 41, 1422), none, none, some (.aload_n 0, 1, 0, 0, 0), some (.getfield 351, 3, 11, 46, 1427), none, none], [some (.iload_n 1, 1, 0, 0, 0), some (.iastore, 1, 0, 0, 0), some (.aload_n 0, 1, 0, 0, 0), some (.getfield 92, 3, 11, 42, 1423), none, none, some (.aload_n 0, 1, 0, 0, 0), some (.getfield 351, 3, 11, 46, 1427), none, none, some (.iload_n 2, 1, 0, 0, 0), some (.iastore, 1, 0, 0, 0), some (.aload_n 0, 1, 0, 0, 0), some (.getfield 95, 3, 11, 43, 1424), none, none, some (.aload_n 0, 1, 0, 0, 0), some (.getfield 351, 3, 11, 46, 1427), none, none, some (.aload_n 0, 1, 0, 0, 0), some (.getfield 252, 3, 11, 20, 1401), none, none, some (.iastore, 1, 0, 0, 0), some (.aload_n 0, 1, 0, 0, 0), some (.bipush 58, 2, 0, 0, 0), none, some (.invokevirtual 324, 3, 243, 0, 1763), none, none, some (.ifCond .eq 11, 3, 0, 0, 0)], [none, none, some (.aload_n 0, 1, 0, 0, 0), some (.iconst 2, 1, 0, 0, 0), some (.invokevirtual 336, 3, 266, 0, 1782), none, none, some (.ifCond .ne 5, 3, 0, 0, 0), none, none, some (.iconst 0, 1, 0, 0, 0), some (.ireturn, 1, 0, 0, 0), some (.aload_n 0, 1, 0, 0, 0), some (.getfield 98, 3, 11, 44, 1425), none, none, some (.aload_n 0, 1, 0, 0, 0), some (.getfield 351, 3, 11, 46, 1427), none, none, some (.aload_n 0, 1, 0, 0, 0), some (.getfield 252, 3, 11, 20, 1401), none, none, some (.iastore, 1, 0, 0, 0), some (.aload_n 0, 1, 0, 0, 0), some (.aload_n 0, 1, 0, 0, 0), some (.getfield 351, 3, 11, 46, 1427), none, none, some (.iconst 1, 1, 0, 0, 0), some (.iadd, 1, 0, 0, 0)], [some (.putfield 351, 3, 11, 46, 1427), none, none, some (.iconst 1, 1, 0, 0, 0), some (.ireturn, 1, 0, 0, 0)]]
def cd_271 : List (List (Option si_E)) := [[some (.iload_n 1, 1, 0, 0, 0), some (.iconst 1, 1, 0, 0, 0), some (.sipush 160, 3, 0, 0, 0), none, none, some (.invokestatic 157, 3, 202, 0, 1584), none, none, some (.ifCond .eq 11, 3, 0, 0, 0), none, none, some (.iload_n 1, 1, 0, 0, 0), some (.aload_n 0, 1, 0, 0, 0), some (.getfield 230, 3, 11, 16, 1397), none, none, some (.if_icmp .le 5, 3, 0, 0, 0), none, none, some (.iconst (-1), 1, 0, 0, 0), some (.ireturn, 1, 0, 0, 0), some (.aload_n 0, 1, 0, 0, 0), some (.iload_n 1, 1, 0, 0, 0), some (.invokevirtual 318, 3, 260, 0, 1684), none, none, some (.aload_n 0, 1, 0, 0, 0), some (.iconst 0, 1, 0, 0, 0), some (.putfield 351, 3, 11, 46, 1427), none, none, some (.aload_n 0, 1, 0, 0, 0)], [some (.invokevirtual 354, 3, 270, 0, 1790), none, none, some (.istore_n 2, 1, 0, 0, 0), some (.iload_n 2, 1, 0, 0, 0), some (.ifCond .eq 39, 3, 0, 0, 0), none, none, some (.aload_n 0, 1, 0, 0, 0), some (.getfield 237, 3, 11, 17, 1398), none, none, some (.aload_n 0, 1, 0, 0, 0), some (.getfield 240, 3, 11, 18, 1399), none, none, some (.if_icmp .ge 28, 3, 0, 0, 0), none, none, some (.aload_n 0, 1, 0, 0, 0), some (.bipush 59, 2, 0, 0, 0), none, some (.invokevirtual 324, 3, 243, 0, 1763), none, none, some (.ifCond .eq 14, 3, 0, 0, 0), none, none, some (.aload_n 0, 1, 0, 0, 0), some (.invokevirtual 354, 3, 270, 0, 1790), none, none], [some (.ifCond .eq 7, 3, 0, 0, 0), none, none, some (.iconst 1, 1, 0, 0, 0), some (.goto 4, 3, 0, 0, 0), none, none, some (.iconst 0, 1, 0, 0, 0), some (.istore_n 2, 1, 0, 0, 0), some (.goto (-37), 3, 0, 0, 0), none, none, some (.aload_n 0, 1, 0, 0, 0), some (.iconst 0, 1, 0, 0, 0), some (.putfield 230, 3, 11, 16, 1397), none, none, some (.iload_n 2, 1, 0, 0, 0), some (.ifCond .ne 8, 3, 0, 0, 0), none, none, some (.aload_n 0, 1, 0, 0, 0), some (.getfield 246, 3, 11, 19, 1400), none, none, some (.ireturn, 1, 0, 0, 0), some (.aload_n 0, 1, 0, 0, 0), some (.aload_n 0, 1, 0, 0, 0), some (.getfield 351, 3, 11, 46, 1427), none, none, some (.putfield 181, 3, 11, 11, 1392)], [none, none, some (.iconst 0, 1, 0, 0, 0), some (.istore_n 3, 1, 0, 0, 0), some (.iload_n 3, 1, 0, 0, 0), some (.aload_n 0, 1, 0, 0, 0), some (.getfield 181, 3, 11, 11, 1392), none, none, some (.if_icmp .ge 57, 3, 0, 0, 0), none, none, some (.aload_n 0, 1, 0, 0, 0), some (.getfield 19, 3, 11, 3, 1384), none, none, some (.iload_n 3, 1, 0, 0, 0), some (.aload_n 0, 1, 0, 0, 0), some (.getfield 89, 3, 11, 41, 1422), none, none, some (.iload_n 3, 1, 0, 0, 0), some (.iaload, 1, 0, 0, 0), some (.iastore, 1, 0, 0, 0), some (.aload_n 0, 1, 0, 0, 0), some (.getfield 22, 3, 11, 4, 1385), none, none, some (.iload_n 3, 1, 0, 0, 0), some (.aload_n 0, 1, 0, 0, 0), some (.getfield 92, 3, 11, 42, 1423), none], [none, some (.iload_n 3, 1, 0, 0, 0), some (.iaload, 1, 0, 0, 0), some (.iastore, 1, 0, 0, 0), some (.aload_n 0, 1, 0, 0, 0), some (.getfield 25, 3, 11, 5, 1386), none, none, some (.iload_n 3, 1, 0, 0, 0), some (.aload_n 0, 1, 0, 0, 0), some (.getfield 95, 3, 11, 43, 1424), none, none, some (.iload_n 3, 1, 0, 0, 0), some (.iaload, 1, 0, 0, 0), some (.iastore, 1, 0, 0, 0), some (.aload_n 0, 1, 0, 0, 0), some (.getfield 28, 3, 11, 6, 1387), none, none, some (.iload_n 3, 1, 0, 0, 0), some (.aload_n 0, 1, 0, 0, 0), some (.getfield 98, 3, 11, 44, 1425), none, none, some (.iload_n 3, 1, 0, 0, 0), some (.iaload, 1, 0, 0, 0), some (.iastore, 1, 0, 0, 0), some (.iinc 3 1, 3, 0, 0, 0), none, none, some (.goto (-59), 3, 0, 0, 0)], [none, none, some (.aload_n 0, 1, 0, 0, 0), some (.getfield 181, 3, 11, 11, 1392), none, none, some (.ireturn, 1, 0, 0, 0)]]
def cd_272 : List (List (Option si_E)) := [[some (.aload_n 0, 1, 0, 0, 0), some (.iconst 2, 1, 0, 0, 0), some (.iload_n 1, 1, 0, 0, 0), some (.imul, 1, 0, 0, 0), some (.invokevirtual 357, 3, 239, 0, 1802), none, none, some (.aload_n 0, 1, 0, 0, 0), some (.iconst 2, 1, 0, 0, 0), some (.iload_n 1, 1, 0, 0, 0), some (.imul, 1, 0, 0, 0), some (.iconst 1, 1, 0, 0, 0), some (.iadd, 1, 0, 0, 0), some (.invokevirtual 357, 3, 239, 0, 1802), none, none, some (.invokestatic 191, 3, 214, 0, 1372), none, none, some (.ireturn, 1, 0, 0, 0)]]
def cd_273 : List (List (Option si_E)) := [[some (.iconst 0, 1, 0, 0, 0), some (.istore_n 3, 1, 0, 0, 0), some (.iload_n 3, 1, 0, 0, 0), some (.aload_n 0, 1, 0, 0, 0), some (.getfield 153, 3, 11, 9, 1390), none, none, some (.if_icmp .ge 16, 3, 0, 0, 0), none, none, some (.aload_n 0, 1, 0, 0, 0), some (.getfield 108, 3, 11, 50, 1431), none, none, some (.iload_n 3, 1, 0, 0, 0), some (.iconst 0, 1, 0, 0, 0), some (.bastore, 1, 0, 0, 0), some (.iinc 3 1, 3, 0, 0, 0), none, none, some (.goto (-18), 3, 0, 0, 0), none, none, some (.iload_n 1, 1, 0, 0, 0), some (.istore_n 3, 1, 0, 0, 0), some (.iload_n 3, 1, 0, 0, 0), some (.iload_n 2, 1, 0, 0, 0), some (.if_icmp .gt 21, 3, 0, 0, 0), none, none, some (.aload_n 0, 1, 0, 0, 0), some (.getfield 108, 3, 11, 50, 1431)], [none, none, some (.iload_n 3, 1, 0, 0, 0), some (.aload_n 0, 1, 0, 0, 0), some (.getfield 153, 3, 11, 9, 1390), none, none, some (.irem, 1, 0, 0, 0), some (.iconst 1, 1, 0, 0, 0), some (.bastore, 1, 0, 0, 0), some (.iinc 3 1, 3, 0, 0, 0), none, none, some (.goto (-20), 3, 0, 0, 0), none, none, some (.return_, 1, 0, 0, 0)]]
def cd_274 : List (List (Option si_E)) := [[some (.iconst 0, 1, 0, 0, 0), some (.istore_n 2, 1, 0, 0, 0), some (.iload_n 2, 1, 0, 0, 0), some (.iconst 2, 1, 0, 0, 0), some (.iload_n 1, 1, 0, 0, 0), some (.imul, 1, 0, 0, 0), some (.if_icmp .ge 23, 3, 0, 0, 0), none, none, some (.aload_n 0, 1, 0, 0, 0), some (.iload_n 2, 1, 0, 0, 0), some (.invokevirtual 357, 3, 239, 0, 1802), none, none, some (.aload_n 0, 1, 0, 0, 0), some (.getfield 175, 3, 11, 7, 1388), none, none, some (.if_icmp .lt 5, 3, 0, 0, 0), none, none, some (.iconst 0, 1, 0, 0, 0), some (.ireturn, 1, 0, 0, 0), some (.iinc 2 1, 3, 0, 0, 0), none, none, some (.goto (-24), 3, 0, 0, 0), none, none, some (.iconst 1, 1, 0, 0, 0), some (.ireturn, 1, 0, 0, 0)]]
def cd_275 : List (List (Option si_E)) := [[some (.lconst 0, 1, 0, 0, 0), some (.lstore_n 2, 1, 0, 0, 0), some (.iconst 0, 1, 0, 0, 0), some (.istore 4, 2, 0, 0, 0), none, some (.iload 4, 2, 0, 0, 0), none, some (.aload_n 0, 1, 0, 0, 0), some (.getfield 153, 3, 11, 9, 1390), none, none, some (.if_icmp .ge 141, 3, 0, 0, 0), none, none, some (.aload_n 0, 1, 0, 0, 0), some (.getfield 105, 3, 11, 49, 1430), none, none, some (.iload 4, 2, 0, 0, 0), none, some (.lconst 0, 1, 0, 0, 0), some (.lastore, 1, 0, 0, 0), some (.aload_n 0, 1, 0, 0, 0), some (.getfield 31, 3, 11, 12, 1393), none, none, some (.iload 4, 2, 0, 0, 0), none, some (.iaload, 1, 0, 0, 0), some (.aload_n 0, 1, 0, 0, 0), some (.iload_n 1, 1, 0, 0, 0), some (.invokevirtual 360, 3, 272, 0, 1814)], [none, none, some (.if_icmp .eq 6, 3, 0, 0, 0), none, none, some (.goto 109, 3, 0, 0, 0), none, none, some (.iconst 0, 1, 0, 0, 0), some (.istore 5, 2, 0, 0, 0), none, some (.iload 5, 2, 0, 0, 0), none, some (.aload_n 0, 1, 0, 0, 0), some (.getfield 153, 3, 11, 9, 1390), none, none, some (.if_icmp .ge 63, 3, 0, 0, 0), none, none, some (.aload_n 0, 1, 0, 0, 0), some (.getfield 101, 3, 11, 48, 1429), none, none, some (.iload 5, 2, 0, 0, 0), none, some (.laload, 1, 0, 0, 0), some (.lconst 0, 1, 0, 0, 0), some (.lcmp, 1, 0, 0, 0), some (.ifCond .le 45, 3, 0, 0, 0), none, none], [some (.aload_n 0, 1, 0, 0, 0), some (.getfield 108, 3, 11, 50, 1431), none, none, some (.iload 4, 2, 0, 0, 0), none, some (.iload 5, 2, 0, 0, 0), none, some (.isub, 1, 0, 0, 0), some (.aload_n 0, 1, 0, 0, 0), some (.getfield 153, 3, 11, 9, 1390), none, none, some (.invokestatic 147, 3, 208, 0, 1610), none, none, some (.baload, 1, 0, 0, 0), some (.ifCond .eq 25, 3, 0, 0, 0), none, none, some (.aload_n 0, 1, 0, 0, 0), some (.getfield 105, 3, 11, 49, 1430), none, none, some (.iload 4, 2, 0, 0, 0), none, some (.aload_n 0, 1, 0, 0, 0), some (.getfield 105, 3, 11, 49, 1430), none, none, some (.iload 4, 2, 0, 0, 0), none], [some (.laload, 1, 0, 0, 0), some (.aload_n 0, 1, 0, 0, 0), some (.getfield 101, 3, 11, 48, 1429), none, none, some (.iload 5, 2, 0, 0, 0), none, some (.laload, 1, 0, 0, 0), some (.ladd, 1, 0, 0, 0), some (.lastore, 1, 0, 0, 0), some (.iinc 5 1, 3, 0, 0, 0), none, none, some (.goto (-66), 3, 0, 0, 0), none, none, some (.aload_n 0, 1, 0, 0, 0), some (.getfield 105, 3, 11, 49, 1430), none, none, some (.iload 4, 2, 0, 0, 0), none, some (.laload, 1, 0, 0, 0), some (.ldc2_w 363, 3, 1000000000, 0, 1838), none, none, some (.lcmp, 1, 0, 0, 0), some (.ifCond .le 13, 3, 0, 0, 0), none, none, some (.aload_n 0, 1, 0, 0, 0), some (.getfield 105, 3, 11, 49, 1430)], [none, none, some (.iload 4, 2, 0, 0, 0), none, some (.ldc2_w 363, 3, 1000000000, 0, 1838), none, none, some (.lastore, 1, 0, 0, 0), some (.lload_n 2, 1, 0, 0, 0), some (.aload_n 0, 1, 0, 0, 0), some (.getfield 105, 3, 11, 49, 1430), none, none, some (.iload 4, 2, 0, 0, 0), none, some (.laload, 1, 0, 0, 0), some (.ladd, 1, 0, 0, 0), some (.lstore_n 2, 1, 0, 0, 0), some (.iinc 4 1, 3, 0, 0, 0), none, none, some (.goto (-144), 3, 0, 0, 0), none, none, some (.iconst 0, 1, 0, 0, 0), some (.istore 4, 2, 0, 0, 0), none, some (.iload 4, 2, 0, 0, 0), none, some (.aload_n 0, 1, 0, 0, 0), some (.getfield 153, 3, 11, 9, 1390), none], [none, some (.if_icmp .ge 23, 3, 0, 0, 0), none, none, some (.aload_n 0, 1, 0, 0, 0), some (.getfield 101, 3, 11, 48, 1429), none, none, some (.iload 4, 2, 0, 0, 0), none, some (.aload_n 0, 1, 0, 0, 0), some (.getfield 105, 3, 11, 49, 1430), none, none, some (.iload 4, 2, 0, 0, 0), none, some (.laload, 1, 0, 0, 0), some (.lastore, 1, 0, 0, 0), some (.iinc 4 1, 3, 0, 0, 0), none, none, some (.goto (-26), 3, 0, 0, 0), none, none, some (.lload_n 2, 1, 0, 0, 0), some (.ldc2_w 363, 3, 1000000000, 0, 1838), none, none, some (.lcmp, 1, 0, 0, 0), some (.ifCond .le 9, 3, 0, 0, 0), none, none], [some (.ldc2_w 363, 3, 1000000000, 0, 1838), none, none, some (.goto 4, 3, 0, 0, 0), none, none, some (.lload_n 2, 1, 0, 0, 0), some (.lreturn, 1, 0, 0, 0)]]
def cd_276 : List (List (Option si_E)) := [[some (.lconst 0, 1, 0, 0, 0), some (.lstore_n 2, 1, 0, 0, 0), some (.iconst 0, 1, 0, 0, 0), some (.istore 4, 2, 0, 0, 0), none, some (.iload 4, 2, 0, 0, 0), none, some (.aload_n 0, 1, 0, 0, 0), some (.getfield 153, 3, 11, 9, 1390), none, none, some (.if_icmp .ge 46, 3, 0, 0, 0), none, none, some (.aload_n 0, 1, 0, 0, 0), some (.getfield 101, 3, 11, 48, 1429), none, none, some (.iload 4, 2, 0, 0, 0), none, some (.aload_n 0, 1, 0, 0, 0), some (.getfield 31, 3, 11, 12, 1393), none, none, some (.iload 4, 2, 0, 0, 0), none, some (.iaload, 1, 0, 0, 0), some (.aload_n 0, 1, 0, 0, 0), some (.iload_n 1, 1, 0, 0, 0), some (.invokevirtual 360, 3, 272, 0, 1814), none, none], [some (.if_icmp .ne 7, 3, 0, 0, 0), none, none, some (.lconst 1, 1, 0, 0, 0), some (.goto 4, 3, 0, 0, 0), none, none, some (.lconst 0, 1, 0, 0, 0), some (.lastore, 1, 0, 0, 0), some (.lload_n 2, 1, 0, 0, 0), some (.aload_n 0, 1, 0, 0, 0), some (.getfield 101, 3, 11, 48, 1429), none, none, some (.iload 4, 2, 0, 0, 0), none, some (.laload, 1, 0, 0, 0), some (.ladd, 1, 0, 0, 0), some (.lstore_n 2, 1, 0, 0, 0), some (.iinc 4 1, 3, 0, 0, 0), none, none, some (.goto (-49), 3, 0, 0, 0), none, none, some (.lload_n 2, 1, 0, 0, 0), some (.lreturn, 1, 0, 0, 0)]]
def cd_277 : List (List (Option si_E)) := [[some (.iconst 0, 1, 0, 0, 0), some (.istore_n 2, 1, 0, 0, 0), some (.iload_n 2, 1, 0, 0, 0), some (.iload_n 1, 1, 0, 0, 0), some (.sipush 1440, 3, 0, 0, 0), none, none, some (.imul, 1, 0, 0, 0), some (.if_icmp .ge 23, 3, 0, 0, 0), none, none, some (.aload_n 0, 1, 0, 0, 0), some (.getfield 112, 3, 11, 51, 1432), none, none, some (.iload_n 2, 1, 0, 0, 0), some (.iconst 0, 1, 0, 0, 0), some (.bastore, 1, 0, 0, 0), some (.aload_n 0, 1, 0, 0, 0), some (.getfield 115, 3, 11, 52, 1433), none, none, some (.iload_n 2, 1, 0, 0, 0), some (.iconst 0, 1, 0, 0, 0), some (.bastore, 1, 0, 0, 0), some (.iinc 2 1, 3, 0, 0, 0), none, none, some (.goto (-26), 3, 0, 0, 0), none, none, some (.iconst 0, 1, 0, 0, 0)], [some (.istore_n 2, 1, 0, 0, 0), some (.iload_n 2, 1, 0, 0, 0), some (.iload_n 1, 1, 0, 0, 0), some (.if_icmp .ge 69, 3, 0, 0, 0), none, none, some (.iconst 0, 1, 0, 0, 0), some (.istore_n 3, 1, 0, 0, 0), some (.iload_n 3, 1, 0, 0, 0), some (.aload_n 0, 1, 0, 0, 0), some (.getfield 153, 3, 11, 9, 1390), none, none, some (.if_icmp .ge 53, 3, 0, 0, 0), none, none, some (.aload_n 0, 1, 0, 0, 0), some (.getfield 112, 3, 11, 51, 1432), none, none, some (.sipush 1440, 3, 0, 0, 0), none, none, some (.iload_n 2, 1, 0, 0, 0), some (.imul, 1, 0, 0, 0), some (.iload_n 3, 1, 0, 0, 0), some (.iadd, 1, 0, 0, 0), some (.aload_n 0, 1, 0, 0, 0), some (.getfield 31, 3, 11, 12, 1393), none, none, some (.iload_n 3, 1, 0, 0, 0)], [some (.iaload, 1, 0, 0, 0), some (.aload_n 0, 1, 0, 0, 0), some (.iload_n 2, 1, 0, 0, 0), some (.invokevirtual 360, 3, 272, 0, 1814), none, none, some (.if_icmp .ne 20, 3, 0, 0, 0), none, none, some (.iload_n 2, 1, 0, 0, 0), some (.ifCond .eq 12, 3, 0, 0, 0), none, none, some (.aload_n 0, 1, 0, 0, 0), some (.iload_n 2, 1, 0, 0, 0), some (.iload_n 3, 1, 0, 0, 0), some (.invokevirtual 365, 3, 278, 0, 1818), none, none, some (.ifCond .eq 7, 3, 0, 0, 0), none, none, some (.iconst 1, 1, 0, 0, 0), some (.goto 4, 3, 0, 0, 0), none, none, some (.iconst 0, 1, 0, 0, 0), some (.bastore, 1, 0, 0, 0), some (.iinc 3 1, 3, 0, 0, 0), none, none, some (.goto (-55), 3, 0, 0, 0)], [none, none, some (.iinc 2 1, 3, 0, 0, 0), none, none, some (.goto (-68), 3, 0, 0, 0), none, none, some (.iload_n 1, 1, 0, 0, 0), some (.iconst 1, 1, 0, 0, 0), some (.isub, 1, 0, 0, 0), some (.istore_n 2, 1, 0, 0, 0), some (.iload_n 2, 1, 0, 0, 0), some (.ifCond .lt 73, 3, 0, 0, 0), none, none, some (.iconst 0, 1, 0, 0, 0), some (.istore_n 3, 1, 0, 0, 0), some (.iload_n 3, 1, 0, 0, 0), some (.aload_n 0, 1, 0, 0, 0), some (.getfield 153, 3, 11, 9, 1390), none, none, some (.if_icmp .ge 57, 3, 0, 0, 0), none, none, some (.aload_n 0, 1, 0, 0, 0), some (.getfield 115, 3, 11, 52, 1433), none, none, some (.sipush 1440, 3, 0, 0, 0), none], [none, some (.iload_n 2, 1, 0, 0, 0), some (.imul, 1, 0, 0, 0), some (.iload_n 3, 1, 0, 0, 0), some (.iadd, 1, 0, 0, 0), some (.aload_n 0, 1, 0, 0, 0), some (.getfield 112, 3, 11, 51, 1432), none, none, some (.sipush 1440, 3, 0, 0, 0), none, none, some (.iload_n 2, 1, 0, 0, 0), some (.imul, 1, 0, 0, 0), some (.iload_n 3, 1, 0, 0, 0), some (.iadd, 1, 0, 0, 0), some (.baload, 1, 0, 0, 0), some (.ifCond .eq 23, 3, 0, 0, 0), none, none, some (.iload_n 2, 1, 0, 0, 0), some (.iload_n 1, 1, 0, 0, 0), some (.iconst 1, 1, 0, 0, 0), some (.isub, 1, 0, 0, 0), some (.if_icmp .eq 12, 3, 0, 0, 0), none, none, some (.aload_n 0, 1, 0, 0, 0), some (.iload_n 2, 1, 0, 0, 0), some (.iload_n 3, 1, 0, 0, 0), some (.invokevirtual 368, 3, 279, 0, 1822), none], [none, some (.ifCond .eq 7, 3, 0, 0, 0), none, none, some (.iconst 1, 1, 0, 0, 0), some (.goto 4, 3, 0, 0, 0), none, none, some (.iconst 0, 1, 0, 0, 0), some (.bastore, 1, 0, 0, 0), some (.iinc 3 1, 3, 0, 0, 0), none, none, some (.goto (-59), 3, 0, 0, 0), none, none, some (.iinc 2 (-1), 3, 0, 0, 0), none, none, some (.goto (-71), 3, 0, 0, 0), none, none, some (.return_, 1, 0, 0, 0)]]
def cd_278 : List (List (Option si_E)) := [[some (.iconst 0, 1, 0, 0, 0), some (.istore_n 3, 1, 0, 0, 0), some (.iload_n 3, 1, 0, 0, 0), some (.aload_n 0, 1, 0, 0, 0), some (.getfield 153, 3, 11, 9, 1390), none, none, some (.if_icmp .ge 46, 3, 0, 0, 0), none, none, some (.aload_n 0, 1, 0, 0, 0), some (.getfield 112, 3, 11, 51, 1432), none, none, some (.sipush 1440, 3, 0, 0, 0), none, none, some (.iload_n 1, 1, 0, 0, 0), some (.iconst 1, 1, 0, 0, 0), some (.isub, 1, 0, 0, 0), some (.imul, 1, 0, 0, 0), some (.iload_n 3, 1, 0, 0, 0), some (.iadd, 1, 0, 0, 0), some (.baload, 1, 0, 0, 0), some (.ifCond .eq 23, 3, 0, 0, 0), none, none, some (.aload_n 0, 1, 0, 0, 0), some (.getfield 108, 3, 11, 50, 1431), none, none, some (.iload_n 2, 1, 0, 0, 0)], [some (.iload_n 3, 1, 0, 0, 0), some (.isub, 1, 0, 0, 0), some (.aload_n 0, 1, 0, 0, 0), some (.getfield 153, 3, 11, 9, 1390), none, none, some (.invokestatic 147, 3, 208, 0, 1610), none, none, some (.baload, 1, 0, 0, 0), some (.ifCond .eq 5, 3, 0, 0, 0), none, none, some (.iconst 1, 1, 0, 0, 0), some (.ireturn, 1, 0, 0, 0), some (.iinc 3 1, 3, 0, 0, 0), none, none, some (.goto (-48), 3, 0, 0, 0), none, none, some (.iconst 0, 1, 0, 0, 0), some (.ireturn, 1, 0, 0, 0)]]
def cd_279 : List (List (Option si_E)) := [[some (.iconst 0, 1, 0, 0, 0), some (.istore_n 3, 1, 0, 0, 0), some (.iload_n 3, 1, 0, 0, 0), some (.aload_n 0, 1, 0, 0, 0), some (.getfield 153, 3, 11, 9, 1390), none, none, some (.if_icmp .ge 46, 3, 0, 0, 0), none, none, some (.aload_n 0, 1, 0, 0, 0), some (.getfield 115, 3, 11, 52, 1433), none, none, some (.sipush 1440, 3, 0, 0, 0), none, none, some (.iload_n 1, 1, 0, 0, 0), some (.iconst 1, 1, 0, 0, 0), some (.iadd, 1, 0, 0, 0), some (.imul, 1, 0, 0, 0), some (.iload_n 3, 1, 0, 0, 0), some (.iadd, 1, 0, 0, 0), some (.baload, 1, 0, 0, 0), some (.ifCond .eq 23, 3, 0, 0, 0), none, none, some (.aload_n 0, 1, 0, 0, 0), some (.getfield 108, 3, 11, 50, 1431), none, none, some (.iload_n 3, 1, 0, 0, 0)], [some (.iload_n 2, 1, 0, 0, 0), some (.isub, 1, 0, 0, 0), some (.aload_n 0, 1, 0, 0, 0), some (.getfield 153, 3, 11, 9, 1390), none, none, some (.invokestatic 147, 3, 208, 0, 1610), none, none, some (.baload, 1, 0, 0, 0), some (.ifCond .eq 5, 3, 0, 0, 0), none, none, some (.iconst 1, 1, 0, 0, 0), some (.ireturn, 1, 0, 0, 0), some (.iinc 3 1, 3, 0, 0, 0), none, none, some (.goto (-48), 3, 0, 0, 0), none, none, some (.iconst 0, 1, 0, 0, 0), some (.ireturn, 1, 0, 0, 0)]]
def cd_280 : List (List (Option si_E)) := [[some (.bipush (-4), 2, 0, 0, 0), none, some (.istore_n 2, 1, 0, 0, 0), some (.iconst 0, 1, 0, 0, 0), some (.istore_n 3, 1, 0, 0, 0), some (.iload_n 3, 1, 0, 0, 0), some (.aload_n 0, 1, 0, 0, 0), some (.getfield 153, 3, 11, 9, 1390), none, none, some (.if_icmp .ge 38, 3, 0, 0, 0), none, none, some (.aload_n 0, 1, 0, 0, 0), some (.getfield 115, 3, 11, 52, 1433), none, none, some (.sipush 1440, 3, 0, 0, 0), none, none, some (.iload_n 1, 1, 0, 0, 0), some (.imul, 1, 0, 0, 0), some (.iload_n 3, 1, 0, 0, 0), some (.iadd, 1, 0, 0, 0), some (.baload, 1, 0, 0, 0), some (.ifCond .ne 6, 3, 0, 0, 0), none, none, some (.goto 14, 3, 0, 0, 0), none, none, some (.iload_n 2, 1, 0, 0, 0)], [some (.bipush (-4), 2, 0, 0, 0), none, some (.if_icmp .eq 6, 3, 0, 0, 0), none, none, some (.bipush (-2), 2, 0, 0, 0), none, some (.ireturn, 1, 0, 0, 0), some (.iload_n 3, 1, 0, 0, 0), some (.istore_n 2, 1, 0, 0, 0), some (.iinc 3 1, 3, 0, 0, 0), none, none, some (.goto (-40), 3, 0, 0, 0), none, none, some (.iload_n 2, 1, 0, 0, 0), some (.ireturn, 1, 0, 0, 0)]]
def cd_281 : List (List (Option si_E)) := [[some (.iload_n 1, 1, 0, 0, 0), some (.iconst 1, 1, 0, 0, 0), some (.bipush 8, 2, 0, 0, 0), none, some (.invokestatic 157, 3, 202, 0, 1584), none, none, some (.ifCond .eq 52, 3, 0, 0, 0), none, none, some (.iload_n 2, 1, 0, 0, 0), some (.iconst 0, 1, 0, 0, 0), some (.bipush 99, 2, 0, 0, 0), none, some (.invokestatic 157, 3, 202, 0, 1584), none, none, some (.ifCond .eq 42, 3, 0, 0, 0), none, none, some (.iload_n 3, 1, 0, 0, 0), some (.iload_n 2, 1, 0, 0, 0), some (.bipush 99, 2, 0, 0, 0), none, some (.invokestatic 157, 3, 202, 0, 1584), none, none, some (.ifCond .eq 32, 3, 0, 0, 0), none, none, some (.iload 4, 2, 0, 0, 0), none], [some (.iconst 0, 1, 0, 0, 0), some (.iload_n 1, 1, 0, 0, 0), some (.iconst 1, 1, 0, 0, 0), some (.isub, 1, 0, 0, 0), some (.invokestatic 157, 3, 202, 0, 1584), none, none, some (.ifCond .ne 10, 3, 0, 0, 0), none, none, some (.iload 4, 2, 0, 0, 0), none, some (.bipush 100, 2, 0, 0, 0), none, some (.if_icmp .ne 13, 3, 0, 0, 0), none, none, some (.iconst 2, 1, 0, 0, 0), some (.iload_n 1, 1, 0, 0, 0), some (.imul, 1, 0, 0, 0), some (.aload_n 0, 1, 0, 0, 0), some (.getfield 230, 3, 11, 16, 1397), none, none, some (.if_icmp .le 5, 3, 0, 0, 0), none, none, some (.iconst (-1), 1, 0, 0, 0), some (.ireturn, 1, 0, 0, 0), some (.aload_n 0, 1, 0, 0, 0), some (.iconst 0, 1, 0, 0, 0), some (.putfield 230, 3, 11, 16, 1397)], [none, none, some (.aload_n 0, 1, 0, 0, 0), some (.iload_n 1, 1, 0, 0, 0), some (.invokevirtual 371, 3, 274, 0, 1798), none, none, some (.ifCond .ne 6, 3, 0, 0, 0), none, none, some (.bipush (-3), 2, 0, 0, 0), none, some (.ireturn, 1, 0, 0, 0), some (.aload_n 0, 1, 0, 0, 0), some (.iload_n 2, 1, 0, 0, 0), some (.iload_n 3, 1, 0, 0, 0), some (.invokevirtual 374, 3, 273, 0, 1806), none, none, some (.iload 4, 2, 0, 0, 0), none, some (.bipush 100, 2, 0, 0, 0), none, some (.if_icmp .eq 15, 3, 0, 0, 0), none, none, some (.aload_n 0, 1, 0, 0, 0), some (.iload_n 1, 1, 0, 0, 0), some (.invokevirtual 377, 3, 277, 0, 1810), none, none, some (.aload_n 0, 1, 0, 0, 0)], [some (.iload 4, 2, 0, 0, 0), none, some (.invokevirtual 380, 3, 280, 0, 1826), none, none, some (.ireturn, 1, 0, 0, 0), some (.aload_n 0, 1, 0, 0, 0), some (.iconst 0, 1, 0, 0, 0), some (.invokevirtual 383, 3, 276, 0, 1830), none, none, some (.lstore 5, 2, 0, 0, 0), none, some (.iconst 1, 1, 0, 0, 0), some (.istore 7, 2, 0, 0, 0), none, some (.iload 7, 2, 0, 0, 0), none, some (.iload_n 1, 1, 0, 0, 0), some (.if_icmp .ge 17, 3, 0, 0, 0), none, none, some (.aload_n 0, 1, 0, 0, 0), some (.iload 7, 2, 0, 0, 0), none, some (.invokevirtual 387, 3, 275, 0, 1834), none, none, some (.lstore 5, 2, 0, 0, 0), none, some (.iinc 7 1, 3, 0, 0, 0), none], [none, some (.goto (-17), 3, 0, 0, 0), none, none, some (.lload 5, 2, 0, 0, 0), none, some (.l2i, 1, 0, 0, 0), some (.ireturn, 1, 0, 0, 0)]]
def cd_282 : List (List (Option si_E)) := [[some (.iconst 0, 1, 0, 0, 0), some (.istore_n 2, 1, 0, 0, 0), some (.iload_n 2, 1, 0, 0, 0), some (.iload_n 1, 1, 0, 0, 0), some (.if_icmp .ge 80, 3, 0, 0, 0), none, none, some (.aload_n 0, 1, 0, 0, 0), some (.getfield 121, 3, 11, 54, 1435), none, none, some (.iload_n 2, 1, 0, 0, 0), some (.iconst 0, 1, 0, 0, 0), some (.iastore, 1, 0, 0, 0), some (.iconst 0, 1, 0, 0, 0), some (.istore_n 3, 1, 0, 0, 0), some (.iload_n 3, 1, 0, 0, 0), some (.aload_n 0, 1, 0, 0, 0), some (.getfield 153, 3, 11, 9, 1390), none, none, some (.if_icmp .ge 57, 3, 0, 0, 0), none, none, some (.aload_n 0, 1, 0, 0, 0), some (.getfield 31, 3, 11, 12, 1393), none, none, some (.iload_n 3, 1, 0, 0, 0), some (.iaload, 1, 0, 0, 0), some (.aload_n 0, 1, 0, 0, 0), some (.iload_n 2, 1, 0, 0, 0)], [some (.invokevirtual 360, 3, 272, 0, 1814), none, none, some (.if_icmp .eq 6, 3, 0, 0, 0), none, none, some (.goto 34, 3, 0, 0, 0), none, none, some (.aload_n 0, 1, 0, 0, 0), some (.getfield 118, 3, 11, 53, 1434), none, none, some (.bipush 16, 2, 0, 0, 0), none, some (.iload_n 2, 1, 0, 0, 0), some (.imul, 1, 0, 0, 0), some (.aload_n 0, 1, 0, 0, 0), some (.getfield 121, 3, 11, 54, 1435), none, none, some (.iload_n 2, 1, 0, 0, 0), some (.iaload, 1, 0, 0, 0), some (.iadd, 1, 0, 0, 0), some (.iload_n 3, 1, 0, 0, 0), some (.iastore, 1, 0, 0, 0), some (.aload_n 0, 1, 0, 0, 0), some (.getfield 121, 3, 11, 54, 1435), none, none, some (.iload_n 2, 1, 0, 0, 0), some (.aload_n 0, 1, 0, 0, 0)], [some (.getfield 121, 3, 11, 54, 1435), none, none, some (.iload_n 2, 1, 0, 0, 0), some (.iaload, 1, 0, 0, 0), some (.iconst 1, 1, 0, 0, 0), some (.iadd, 1, 0, 0, 0), some (.iastore, 1, 0, 0, 0), some (.iinc 3 1, 3, 0, 0, 0), none, none, some (.goto (-59), 3, 0, 0, 0), none, none, some (.iinc 2 1, 3, 0, 0, 0), none, none, some (.goto (-79), 3, 0, 0, 0), none, none, some (.return_, 1, 0, 0, 0)]]
def cd_283 : List (List (Option si_E)) := [[some (.bipush 96, 2, 0, 0, 0), none, some (.iload_n 0, 1, 0, 0, 0), some (.imul, 1, 0, 0, 0), some (.bipush 16, 2, 0, 0, 0), none, some (.iload_n 1, 1, 0, 0, 0), some (.imul, 1, 0, 0, 0), some (.iadd, 1, 0, 0, 0), some (.iload_n 2, 1, 0, 0, 0), some (.iadd, 1, 0, 0, 0), some (.ireturn, 1, 0, 0, 0)]]
def cd_284 : List (List (Option si_E)) := [[some (.lconst 0, 1, 0, 0, 0), some (.lstore_n 3, 1, 0, 0, 0), some (.iconst 0, 1, 0, 0, 0), some (.istore 5, 2, 0, 0, 0), none, some (.iload 5, 2, 0, 0, 0), none, some (.sipush 6144, 3, 0, 0, 0), none, none, some (.if_icmp .ge 17, 3, 0, 0, 0), none, none, some (.aload_n 0, 1, 0, 0, 0), some (.getfield 124, 3, 11, 55, 1436), none, none, some (.iload 5, 2, 0, 0, 0), none, some (.lconst 0, 1, 0, 0, 0), some (.lastore, 1, 0, 0, 0), some (.iinc 5 1, 3, 0, 0, 0), none, none, some (.goto (-19), 3, 0, 0, 0), none, none, some (.iconst 1, 1, 0, 0, 0), some (.istore 5, 2, 0, 0, 0), none, some (.iload 5, 2, 0, 0, 0), none], [some (.iconst 1, 1, 0, 0, 0), some (.iload_n 2, 1, 0, 0, 0), some (.ishl, 1, 0, 0, 0), some (.if_icmp .ge 164, 3, 0, 0, 0), none, none, some (.iconst 0, 1, 0, 0, 0), some (.istore 6, 2, 0, 0, 0), none, some (.iload 6, 2, 0, 0, 0), none, some (.iload_n 2, 1, 0, 0, 0), some (.if_icmp .ge 149, 3, 0, 0, 0), none, none, some (.iload 5, 2, 0, 0, 0), none, some (.iload 6, 2, 0, 0, 0), none, some (.invokestatic 164, 3, 206, 0, 1775), none, none, some (.ifCond .ne 6, 3, 0, 0, 0), none, none, some (.goto 130, 3, 0, 0, 0), none, none, some (.iload 5, 2, 0, 0, 0), none, some (.iconst 1, 1, 0, 0, 0), some (.iload 6, 2, 0, 0, 0)], [none, some (.ishl, 1, 0, 0, 0), some (.iconst (-1), 1, 0, 0, 0), some (.ixor, 1, 0, 0, 0), some (.iand, 1, 0, 0, 0), some (.istore 7, 2, 0, 0, 0), none, some (.iconst 0, 1, 0, 0, 0), some (.istore 8, 2, 0, 0, 0), none, some (.iload 8, 2, 0, 0, 0), none, some (.aload_n 0, 1, 0, 0, 0), some (.getfield 121, 3, 11, 54, 1435), none, none, some (.iload 6, 2, 0, 0, 0), none, some (.iaload, 1, 0, 0, 0), some (.if_icmp .ge 104, 3, 0, 0, 0), none, none, some (.iload 7, 2, 0, 0, 0), none, some (.ifCond .ne 13, 3, 0, 0, 0), none, none, some (.iload_n 1, 1, 0, 0, 0), some (.iload 6, 2, 0, 0, 0), none, some (.ishr, 1, 0, 0, 0), some (.iconst 1, 1, 0, 0, 0)], [some (.iand, 1, 0, 0, 0), some (.i2l, 1, 0, 0, 0), some (.goto 23, 3, 0, 0, 0), none, none, some (.aload_n 0, 1, 0, 0, 0), some (.iload 7, 2, 0, 0, 0), none, some (.iload_n 2, 1, 0, 0, 0), some (.aload_n 0, 1, 0, 0, 0), some (.getfield 118, 3, 11, 53, 1434), none, none, some (.bipush 16, 2, 0, 0, 0), none, some (.iload 6, 2, 0, 0, 0), none, some (.imul, 1, 0, 0, 0), some (.iload 8, 2, 0, 0, 0), none, some (.iadd, 1, 0, 0, 0), some (.iaload, 1, 0, 0, 0), some (.invokevirtual 390, 3, 285, 0, 1851), none, none, some (.lstore 9, 2, 0, 0, 0), none, some (.aload_n 0, 1, 0, 0, 0), some (.getfield 124, 3, 11, 55, 1436), none, none, some (.iload 5, 2, 0, 0, 0)], [none, some (.iload 6, 2, 0, 0, 0), none, some (.iload 8, 2, 0, 0, 0), none, some (.invokestatic 394, 3, 283, 0, 1855), none, none, some (.lload 9, 2, 0, 0, 0), none, some (.ldc2_w 363, 3, 1000000000, 0, 1838), none, none, some (.lcmp, 1, 0, 0, 0), some (.ifCond .le 9, 3, 0, 0, 0), none, none, some (.ldc2_w 363, 3, 1000000000, 0, 1838), none, none, some (.goto 5, 3, 0, 0, 0), none, none, some (.lload 9, 2, 0, 0, 0), none, some (.lastore, 1, 0, 0, 0), some (.iload 5, 2, 0, 0, 0), none, some (.iconst 1, 1, 0, 0, 0), some (.iload_n 2, 1, 0, 0, 0), some (.ishl, 1, 0, 0, 0), some (.iconst 1, 1, 0, 0, 0)], [some (.isub, 1, 0, 0, 0), some (.if_icmp .ne 20, 3, 0, 0, 0), none, none, some (.lload_n 3, 1, 0, 0, 0), some (.aload_n 0, 1, 0, 0, 0), some (.getfield 124, 3, 11, 55, 1436), none, none, some (.iload 5, 2, 0, 0, 0), none, some (.iload 6, 2, 0, 0, 0), none, some (.iload 8, 2, 0, 0, 0), none, some (.invokestatic 394, 3, 283, 0, 1855), none, none, some (.laload, 1, 0, 0, 0), some (.ladd, 1, 0, 0, 0), some (.lstore_n 3, 1, 0, 0, 0), some (.iinc 8 1, 3, 0, 0, 0), none, none, some (.goto (-110), 3, 0, 0, 0), none, none, some (.iinc 6 1, 3, 0, 0, 0), none, none, some (.goto (-149), 3, 0, 0, 0), none], [none, some (.iinc 5 1, 3, 0, 0, 0), none, none, some (.goto (-166), 3, 0, 0, 0), none, none, some (.lload_n 3, 1, 0, 0, 0), some (.ldc2_w 363, 3, 1000000000, 0, 1838), none, none, some (.lcmp, 1, 0, 0, 0), some (.ifCond .le 9, 3, 0, 0, 0), none, none, some (.ldc2_w 363, 3, 1000000000, 0, 1838), none, none, some (.goto 4, 3, 0, 0, 0), none, none, some (.lload_n 3, 1, 0, 0, 0), some (.lreturn, 1, 0, 0, 0)]]
def cd_285 : List (List (Option si_E)) := [[some (.lconst 0, 1, 0, 0, 0), some (.lstore 4, 2, 0, 0, 0), none, some (.iconst 0, 1, 0, 0, 0), some (.istore 6, 2, 0, 0, 0), none, some (.iload 6, 2, 0, 0, 0), none, some (.iload_n 2, 1, 0, 0, 0), some (.if_icmp .ge 87, 3, 0, 0, 0), none, none, some (.iconst 0, 1, 0, 0, 0), some (.istore 7, 2, 0, 0, 0), none, some (.iload 7, 2, 0, 0, 0), none, some (.aload_n 0, 1, 0, 0, 0), some (.getfield 121, 3, 11, 54, 1435), none, none, some (.iload 6, 2, 0, 0, 0), none, some (.iaload, 1, 0, 0, 0), some (.if_icmp .ge 66, 3, 0, 0, 0), none, none, some (.iload_n 1, 1, 0, 0, 0), some (.iload 6, 2, 0, 0, 0), none, some (.invokestatic 164, 3, 206, 0, 1775), none], [none, some (.ifCond .eq 51, 3, 0, 0, 0), none, none, some (.aload_n 0, 1, 0, 0, 0), some (.getfield 108, 3, 11, 50, 1431), none, none, some (.iload_n 3, 1, 0, 0, 0), some (.aload_n 0, 1, 0, 0, 0), some (.getfield 118, 3, 11, 53, 1434), none, none, some (.bipush 16, 2, 0, 0, 0), none, some (.iload 6, 2, 0, 0, 0), none, some (.imul, 1, 0, 0, 0), some (.iload 7, 2, 0, 0, 0), none, some (.iadd, 1, 0, 0, 0), some (.iaload, 1, 0, 0, 0), some (.isub, 1, 0, 0, 0), some (.aload_n 0, 1, 0, 0, 0), some (.getfield 153, 3, 11, 9, 1390), none, none, some (.invokestatic 147, 3, 208, 0, 1610), none, none, some (.baload, 1, 0, 0, 0), some (.ifCond .eq 21, 3, 0, 0, 0)], [none, none, some (.lload 4, 2, 0, 0, 0), none, some (.aload_n 0, 1, 0, 0, 0), some (.getfield 124, 3, 11, 55, 1436), none, none, some (.iload_n 1, 1, 0, 0, 0), some (.iload 6, 2, 0, 0, 0), none, some (.iload 7, 2, 0, 0, 0), none, some (.invokestatic 394, 3, 283, 0, 1855), none, none, some (.laload, 1, 0, 0, 0), some (.ladd, 1, 0, 0, 0), some (.lstore 4, 2, 0, 0, 0), none, some (.iinc 7 1, 3, 0, 0, 0), none, none, some (.goto (-72), 3, 0, 0, 0), none, none, some (.iinc 6 1, 3, 0, 0, 0), none, none, some (.goto (-87), 3, 0, 0, 0), none, none], [some (.lload 4, 2, 0, 0, 0), none, some (.lreturn, 1, 0, 0, 0)]]
def cd_286 : List (List (Option si_E)) := [[some (.iload_n 1, 1, 0, 0, 0), some (.iconst 1, 1, 0, 0, 0), some (.bipush 6, 2, 0, 0, 0), none, some (.invokestatic 157, 3, 202, 0, 1584), none, none, some (.ifCond .eq 43, 3, 0, 0, 0), none, none, some (.iload_n 2, 1, 0, 0, 0), some (.iconst 0, 1, 0, 0, 0), some (.bipush 99, 2, 0, 0, 0), none, some (.invokestatic 157, 3, 202, 0, 1584), none, none, some (.ifCond .eq 33, 3, 0, 0, 0), none, none, some (.iload_n 3, 1, 0, 0, 0), some (.iload_n 2, 1, 0, 0, 0), some (.bipush 99, 2, 0, 0, 0), none, some (.invokestatic 157, 3, 202, 0, 1584), none, none, some (.ifCond .eq 23, 3, 0, 0, 0), none, none, some (.iload 4, 2, 0, 0, 0), none], [some (.iconst 0, 1, 0, 0, 0), some (.iconst 1, 1, 0, 0, 0), some (.invokestatic 157, 3, 202, 0, 1584), none, none, some (.ifCond .eq 13, 3, 0, 0, 0), none, none, some (.iconst 2, 1, 0, 0, 0), some (.iload_n 1, 1, 0, 0, 0), some (.imul, 1, 0, 0, 0), some (.aload_n 0, 1, 0, 0, 0), some (.getfield 230, 3, 11, 16, 1397), none, none, some (.if_icmp .le 5, 3, 0, 0, 0), none, none, some (.iconst (-1), 1, 0, 0, 0), some (.ireturn, 1, 0, 0, 0), some (.aload_n 0, 1, 0, 0, 0), some (.iconst 0, 1, 0, 0, 0), some (.putfield 230, 3, 11, 16, 1397), none, none, some (.aload_n 0, 1, 0, 0, 0), some (.iload_n 1, 1, 0, 0, 0), some (.invokevirtual 371, 3, 274, 0, 1798), none, none, some (.ifCond .ne 6, 3, 0, 0, 0), none], [none, some (.bipush (-3), 2, 0, 0, 0), none, some (.ireturn, 1, 0, 0, 0), some (.aload_n 0, 1, 0, 0, 0), some (.iload_n 2, 1, 0, 0, 0), some (.iload_n 3, 1, 0, 0, 0), some (.invokevirtual 374, 3, 273, 0, 1806), none, none, some (.aload_n 0, 1, 0, 0, 0), some (.iload_n 1, 1, 0, 0, 0), some (.invokevirtual 397, 3, 282, 0, 1843), none, none, some (.iload 4, 2, 0, 0, 0), none, some (.ifCond .ne 15, 3, 0, 0, 0), none, none, some (.aload_n 0, 1, 0, 0, 0), some (.iconst 1, 1, 0, 0, 0), some (.iload_n 1, 1, 0, 0, 0), some (.ishl, 1, 0, 0, 0), some (.iconst 1, 1, 0, 0, 0), some (.isub, 1, 0, 0, 0), some (.iload_n 1, 1, 0, 0, 0), some (.invokevirtual 400, 3, 284, 0, 1847), none, none, some (.l2i, 1, 0, 0, 0), some (.ireturn, 1, 0, 0, 0)], [some (.iconst 0, 1, 0, 0, 0), some (.istore 5, 2, 0, 0, 0), none, some (.iconst 0, 1, 0, 0, 0), some (.istore 6, 2, 0, 0, 0), none, some (.iload 6, 2, 0, 0, 0), none, some (.iload_n 1, 1, 0, 0, 0), some (.if_icmp .ge 32, 3, 0, 0, 0), none, none, some (.aload_n 0, 1, 0, 0, 0), some (.iconst 1, 1, 0, 0, 0), some (.iload 6, 2, 0, 0, 0), none, some (.ishl, 1, 0, 0, 0), some (.iload_n 1, 1, 0, 0, 0), some (.invokevirtual 400, 3, 284, 0, 1847), none, none, some (.lconst 0, 1, 0, 0, 0), some (.lcmp, 1, 0, 0, 0), some (.ifCond .le 12, 3, 0, 0, 0), none, none, some (.iload 5, 2, 0, 0, 0), none, some (.iconst 1, 1, 0, 0, 0), some (.iload 6, 2, 0, 0, 0), none, some (.ishl, 1, 0, 0, 0)], [some (.ior, 1, 0, 0, 0), some (.istore 5, 2, 0, 0, 0), none, some (.iinc 6 1, 3, 0, 0, 0), none, none, some (.goto (-32), 3, 0, 0, 0), none, none, some (.iload 5, 2, 0, 0, 0), none, some (.ireturn, 1, 0, 0, 0)]]
def cd_287 : List (List (Option si_E)) := [[some (.iload_n 1, 1, 0, 0, 0), some (.aload_n 0, 1, 0, 0, 0), some (.getfield 175, 3, 11, 7, 1388), none, none, some (.irem, 1, 0, 0, 0), some (.ifCond .ne 21, 3, 0, 0, 0), none, none, some (.iload_n 1, 1, 0, 0, 0), some (.ifCond .ne 10, 3, 0, 0, 0), none, none, some (.aload_n 0, 1, 0, 0, 0), some (.getfield 178, 3, 11, 8, 1389), none, none, some (.goto 9, 3, 0, 0, 0), none, none, some (.iload_n 1, 1, 0, 0, 0), some (.aload_n 0, 1, 0, 0, 0), some (.getfield 175, 3, 11, 7, 1388), none, none, some (.idiv, 1, 0, 0, 0), some (.ireturn, 1, 0, 0, 0), some (.iload_n 2, 1, 0, 0, 0), some (.ifCond .eq 22, 3, 0, 0, 0), none, none, some (.iload_n 1, 1, 0, 0, 0)], [some (.aload_n 0, 1, 0, 0, 0), some (.getfield 175, 3, 11, 7, 1388), none, none, some (.irem, 1, 0, 0, 0), some (.aload_n 0, 1, 0, 0, 0), some (.getfield 175, 3, 11, 7, 1388), none, none, some (.iconst 2, 1, 0, 0, 0), some (.idiv, 1, 0, 0, 0), some (.if_icmp .ne 7, 3, 0, 0, 0), none, none, some (.iconst 1, 1, 0, 0, 0), some (.goto 4, 3, 0, 0, 0), none, none, some (.iconst 0, 1, 0, 0, 0), some (.ireturn, 1, 0, 0, 0)]]
def cd_288 : List (List (Option si_E)) := [[some (.aload_n 0, 1, 0, 0, 0), some (.iload_n 1, 1, 0, 0, 0), some (.invokevirtual 194, 3, 211, 0, 1591), none, none, some (.ifCond .eq 17, 3, 0, 0, 0), none, none, some (.iload_n 2, 1, 0, 0, 0), some (.iload_n 1, 1, 0, 0, 0), some (.aload_n 0, 1, 0, 0, 0), some (.getfield 153, 3, 11, 9, 1390), none, none, some (.iconst 1, 1, 0, 0, 0), some (.isub, 1, 0, 0, 0), some (.invokestatic 157, 3, 202, 0, 1584), none, none, some (.ifCond .ne 5, 3, 0, 0, 0), none, none, some (.iconst (-1), 1, 0, 0, 0), some (.ireturn, 1, 0, 0, 0), some (.iconst 0, 1, 0, 0, 0), some (.istore 4, 2, 0, 0, 0), none, some (.iload_n 1, 1, 0, 0, 0), some (.istore 5, 2, 0, 0, 0), none, some (.iload 5, 2, 0, 0, 0), none], [some (.iload_n 2, 1, 0, 0, 0), some (.if_icmp .gt 21, 3, 0, 0, 0), none, none, some (.iload 4, 2, 0, 0, 0), none, some (.aload_n 0, 1, 0, 0, 0), some (.iload 5, 2, 0, 0, 0), none, some (.iload_n 3, 1, 0, 0, 0), some (.invokevirtual 404, 3, 287, 0, 1862), none, none, some (.iadd, 1, 0, 0, 0), some (.istore 4, 2, 0, 0, 0), none, some (.iinc 5 1, 3, 0, 0, 0), none, none, some (.goto (-21), 3, 0, 0, 0), none, none, some (.iload 4, 2, 0, 0, 0), none, some (.ireturn, 1, 0, 0, 0)]]
def cd_289 : List (List (Option si_E)) := [[some (.aload_n 0, 1, 0, 0, 0), some (.iconst 0, 1, 0, 0, 0), some (.putfield 408, 3, 11, 58, 1439), none, none, some (.iconst 0, 1, 0, 0, 0), some (.istore_n 2, 1, 0, 0, 0), some (.iload_n 2, 1, 0, 0, 0), some (.aload_n 0, 1, 0, 0, 0), some (.getfield 153, 3, 11, 9, 1390), none, none, some (.if_icmp .ge 56, 3, 0, 0, 0), none, none, some (.aload_n 0, 1, 0, 0, 0), some (.iload_n 2, 1, 0, 0, 0), some (.iload_n 1, 1, 0, 0, 0), some (.invokevirtual 404, 3, 287, 0, 1862), none, none, some (.ifCond .ne 6, 3, 0, 0, 0), none, none, some (.goto 38, 3, 0, 0, 0), none, none, some (.aload_n 0, 1, 0, 0, 0), some (.getfield 127, 3, 11, 56, 1437), none, none, some (.aload_n 0, 1, 0, 0, 0)], [some (.getfield 408, 3, 11, 58, 1439), none, none, some (.iload_n 2, 1, 0, 0, 0), some (.iastore, 1, 0, 0, 0), some (.aload_n 0, 1, 0, 0, 0), some (.getfield 130, 3, 11, 57, 1438), none, none, some (.aload_n 0, 1, 0, 0, 0), some (.getfield 408, 3, 11, 58, 1439), none, none, some (.aload_n 0, 1, 0, 0, 0), some (.iload_n 2, 1, 0, 0, 0), some (.iload_n 1, 1, 0, 0, 0), some (.invokevirtual 404, 3, 287, 0, 1862), none, none, some (.iastore, 1, 0, 0, 0), some (.aload_n 0, 1, 0, 0, 0), some (.aload_n 0, 1, 0, 0, 0), some (.getfield 408, 3, 11, 58, 1439), none, none, some (.iconst 1, 1, 0, 0, 0), some (.iadd, 1, 0, 0, 0), some (.putfield 408, 3, 11, 58, 1439), none, none, some (.iinc 2 1, 3, 0, 0, 0), none], [none, some (.goto (-58), 3, 0, 0, 0), none, none, some (.return_, 1, 0, 0, 0)]]
def cd_290 : List (List (Option si_E)) := [[some (.aload_n 0, 1, 0, 0, 0), some (.iload_n 1, 1, 0, 0, 0), some (.invokevirtual 411, 3, 289, 0, 1870), none, none, some (.iconst 0, 1, 0, 0, 0), some (.istore_n 2, 1, 0, 0, 0), some (.iconst 0, 1, 0, 0, 0), some (.istore_n 3, 1, 0, 0, 0), some (.iload_n 3, 1, 0, 0, 0), some (.aload_n 0, 1, 0, 0, 0), some (.getfield 408, 3, 11, 58, 1439), none, none, some (.if_icmp .ge 53, 3, 0, 0, 0), none, none, some (.aload_n 0, 1, 0, 0, 0), some (.getfield 127, 3, 11, 56, 1437), none, none, some (.iload_n 3, 1, 0, 0, 0), some (.iconst 1, 1, 0, 0, 0), some (.iadd, 1, 0, 0, 0), some (.aload_n 0, 1, 0, 0, 0), some (.getfield 408, 3, 11, 58, 1439), none, none, some (.irem, 1, 0, 0, 0), some (.iaload, 1, 0, 0, 0), some (.aload_n 0, 1, 0, 0, 0), some (.getfield 127, 3, 11, 56, 1437)], [none, none, some (.iload_n 3, 1, 0, 0, 0), some (.iaload, 1, 0, 0, 0), some (.isub, 1, 0, 0, 0), some (.istore 4, 2, 0, 0, 0), none, some (.iload_n 2, 1, 0, 0, 0), some (.iload 4, 2, 0, 0, 0), none, some (.ifCond .le 8, 3, 0, 0, 0), none, none, some (.iload 4, 2, 0, 0, 0), none, some (.goto 10, 3, 0, 0, 0), none, none, some (.iload 4, 2, 0, 0, 0), none, some (.aload_n 0, 1, 0, 0, 0), some (.getfield 153, 3, 11, 9, 1390), none, none, some (.iadd, 1, 0, 0, 0), some (.invokestatic 172, 3, 204, 0, 1378), none, none, some (.istore_n 2, 1, 0, 0, 0), some (.iinc 3 1, 3, 0, 0, 0), none, none], [some (.goto (-55), 3, 0, 0, 0), none, none, some (.iload_n 2, 1, 0, 0, 0), some (.ireturn, 1, 0, 0, 0)]]
def cd_291 : List (List (Option si_E)) := [[some (.aload_n 0, 1, 0, 0, 0), some (.iload_n 1, 1, 0, 0, 0), some (.invokevirtual 194, 3, 211, 0, 1591), none, none, some (.ifCond .eq 14, 3, 0, 0, 0), none, none, some (.iload_n 2, 1, 0, 0, 0), some (.iconst 1, 1, 0, 0, 0), some (.sipush 9999, 3, 0, 0, 0), none, none, some (.invokestatic 157, 3, 202, 0, 1584), none, none, some (.ifCond .ne 5, 3, 0, 0, 0), none, none, some (.iconst (-1), 1, 0, 0, 0), some (.ireturn, 1, 0, 0, 0), some (.iconst 0, 1, 0, 0, 0), some (.istore 4, 2, 0, 0, 0), none, some (.iconst 0, 1, 0, 0, 0), some (.istore 5, 2, 0, 0, 0), none, some (.iload 4, 2, 0, 0, 0), none, some (.aload_n 0, 1, 0, 0, 0), some (.iload_n 1, 1, 0, 0, 0), some (.iload 5, 2, 0, 0, 0)], [none, some (.iadd, 1, 0, 0, 0), some (.aload_n 0, 1, 0, 0, 0), some (.getfield 153, 3, 11, 9, 1390), none, none, some (.irem, 1, 0, 0, 0), some (.iload_n 3, 1, 0, 0, 0), some (.invokevirtual 404, 3, 287, 0, 1862), none, none, some (.iadd, 1, 0, 0, 0), some (.iload_n 2, 1, 0, 0, 0), some (.if_icmp .ge 31, 3, 0, 0, 0), none, none, some (.iload 4, 2, 0, 0, 0), none, some (.aload_n 0, 1, 0, 0, 0), some (.iload_n 1, 1, 0, 0, 0), some (.iload 5, 2, 0, 0, 0), none, some (.iadd, 1, 0, 0, 0), some (.aload_n 0, 1, 0, 0, 0), some (.getfield 153, 3, 11, 9, 1390), none, none, some (.irem, 1, 0, 0, 0), some (.iload_n 3, 1, 0, 0, 0), some (.invokevirtual 404, 3, 287, 0, 1862), none, none], [some (.iadd, 1, 0, 0, 0), some (.istore 4, 2, 0, 0, 0), none, some (.iload 5, 2, 0, 0, 0), none, some (.iconst 1, 1, 0, 0, 0), some (.iadd, 1, 0, 0, 0), some (.istore 5, 2, 0, 0, 0), none, some (.goto (-46), 3, 0, 0, 0), none, none, some (.iload 5, 2, 0, 0, 0), none, some (.ireturn, 1, 0, 0, 0)]]
def cd_292 : List (List (Option si_E)) := [[some (.iconst 0, 1, 0, 0, 0), some (.istore_n 3, 1, 0, 0, 0), some (.iload_n 3, 1, 0, 0, 0), some (.iload_n 2, 1, 0, 0, 0), some (.if_icmp .ge 32, 3, 0, 0, 0), none, none, some (.aload_n 0, 1, 0, 0, 0), some (.getfield 130, 3, 11, 57, 1438), none, none, some (.iload_n 1, 1, 0, 0, 0), some (.iload_n 3, 1, 0, 0, 0), some (.iadd, 1, 0, 0, 0), some (.aload_n 0, 1, 0, 0, 0), some (.getfield 408, 3, 11, 58, 1439), none, none, some (.irem, 1, 0, 0, 0), some (.iaload, 1, 0, 0, 0), some (.aload_n 0, 1, 0, 0, 0), some (.iload_n 3, 1, 0, 0, 0), some (.invokevirtual 357, 3, 239, 0, 1802), none, none, some (.if_icmp .eq 5, 3, 0, 0, 0), none, none, some (.iconst 0, 1, 0, 0, 0), some (.ireturn, 1, 0, 0, 0), some (.iinc 3 1, 3, 0, 0, 0), none], [none, some (.goto (-31), 3, 0, 0, 0), none, none, some (.iconst 1, 1, 0, 0, 0), some (.ireturn, 1, 0, 0, 0)]]
def cd_293 : List (List (Option si_E)) := [[some (.iload_n 1, 1, 0, 0, 0), some (.iconst 1, 1, 0, 0, 0), some (.bipush 12, 2, 0, 0, 0), none, some (.invokestatic 157, 3, 202, 0, 1584), none, none, some (.ifCond .eq 20, 3, 0, 0, 0), none, none, some (.iload_n 3, 1, 0, 0, 0), some (.iconst 0, 1, 0, 0, 0), some (.iconst 1, 1, 0, 0, 0), some (.invokestatic 157, 3, 202, 0, 1584), none, none, some (.ifCond .eq 11, 3, 0, 0, 0), none, none, some (.iload_n 1, 1, 0, 0, 0), some (.aload_n 0, 1, 0, 0, 0), some (.getfield 230, 3, 11, 16, 1397), none, none, some (.if_icmp .le 5, 3, 0, 0, 0), none, none, some (.iconst (-1), 1, 0, 0, 0), some (.ireturn, 1, 0, 0, 0), some (.aload_n 0, 1, 0, 0, 0), some (.iconst 0, 1, 0, 0, 0), some (.putfield 230, 3, 11, 16, 1397)], [none, none, some (.aload_n 0, 1, 0, 0, 0), some (.iload_n 2, 1, 0, 0, 0), some (.invokevirtual 411, 3, 289, 0, 1870), none, none, some (.iconst 0, 1, 0, 0, 0), some (.istore 4, 2, 0, 0, 0), none, some (.bipush (-4), 2, 0, 0, 0), none, some (.istore 5, 2, 0, 0, 0), none, some (.iconst 0, 1, 0, 0, 0), some (.istore 6, 2, 0, 0, 0), none, some (.iload 6, 2, 0, 0, 0), none, some (.aload_n 0, 1, 0, 0, 0), some (.getfield 408, 3, 11, 58, 1439), none, none, some (.if_icmp .ge 57, 3, 0, 0, 0), none, none, some (.aload_n 0, 1, 0, 0, 0), some (.iload 6, 2, 0, 0, 0), none, some (.iload_n 1, 1, 0, 0, 0), some (.invokevirtual 414, 3, 292, 0, 1882), none], [none, some (.ifCond .ne 6, 3, 0, 0, 0), none, none, some (.goto 38, 3, 0, 0, 0), none, none, some (.iload 4, 2, 0, 0, 0), none, some (.iconst 1, 1, 0, 0, 0), some (.iadd, 1, 0, 0, 0), some (.istore 4, 2, 0, 0, 0), none, some (.iload 4, 2, 0, 0, 0), none, some (.iconst 1, 1, 0, 0, 0), some (.if_icmp .le 8, 3, 0, 0, 0), none, none, some (.bipush (-2), 2, 0, 0, 0), none, some (.goto 19, 3, 0, 0, 0), none, none, some (.aload_n 0, 1, 0, 0, 0), some (.getfield 127, 3, 11, 56, 1437), none, none, some (.iload 6, 2, 0, 0, 0), none, some (.iload_n 1, 1, 0, 0, 0), some (.iadd, 1, 0, 0, 0)], [some (.iconst 1, 1, 0, 0, 0), some (.isub, 1, 0, 0, 0), some (.aload_n 0, 1, 0, 0, 0), some (.getfield 408, 3, 11, 58, 1439), none, none, some (.irem, 1, 0, 0, 0), some (.iaload, 1, 0, 0, 0), some (.istore 5, 2, 0, 0, 0), none, some (.iinc 6 1, 3, 0, 0, 0), none, none, some (.goto (-60), 3, 0, 0, 0), none, none, some (.iload_n 3, 1, 0, 0, 0), some (.ifCond .ne 8, 3, 0, 0, 0), none, none, some (.iload 4, 2, 0, 0, 0), none, some (.goto 5, 3, 0, 0, 0), none, none, some (.iload 5, 2, 0, 0, 0), none, some (.ireturn, 1, 0, 0, 0)]]
def cd_294 : List (List (Option si_E)) := [[some (.iconst 0, 1, 0, 0, 0), some (.istore 4, 2, 0, 0, 0), none, some (.iload 4, 2, 0, 0, 0), none, some (.iload_n 3, 1, 0, 0, 0), some (.if_icmp .ge 42, 3, 0, 0, 0), none, none, some (.aload_n 0, 1, 0, 0, 0), some (.getfield 130, 3, 11, 57, 1438), none, none, some (.iload_n 1, 1, 0, 0, 0), some (.iload 4, 2, 0, 0, 0), none, some (.iadd, 1, 0, 0, 0), some (.aload_n 0, 1, 0, 0, 0), some (.getfield 408, 3, 11, 58, 1439), none, none, some (.irem, 1, 0, 0, 0), some (.iaload, 1, 0, 0, 0), some (.aload_n 0, 1, 0, 0, 0), some (.getfield 130, 3, 11, 57, 1438), none, none, some (.iload_n 2, 1, 0, 0, 0), some (.iload 4, 2, 0, 0, 0), none, some (.iadd, 1, 0, 0, 0), some (.aload_n 0, 1, 0, 0, 0)], [some (.getfield 408, 3, 11, 58, 1439), none, none, some (.irem, 1, 0, 0, 0), some (.iaload, 1, 0, 0, 0), some (.if_icmp .eq 5, 3, 0, 0, 0), none, none, some (.iconst 0, 1, 0, 0, 0), some (.ireturn, 1, 0, 0, 0), some (.iinc 4 1, 3, 0, 0, 0), none, none, some (.goto (-42), 3, 0, 0, 0), none, none, some (.iconst 1, 1, 0, 0, 0), some (.ireturn, 1, 0, 0, 0)]]
def cd_295 : List (List (Option si_E)) := [[some (.aload_n 0, 1, 0, 0, 0), some (.iload_n 1, 1, 0, 0, 0), some (.invokevirtual 411, 3, 289, 0, 1870), none, none, some (.iconst 1, 1, 0, 0, 0), some (.istore_n 2, 1, 0, 0, 0), some (.iload_n 2, 1, 0, 0, 0), some (.aload_n 0, 1, 0, 0, 0), some (.getfield 408, 3, 11, 58, 1439), none, none, some (.if_icmp .ge 81, 3, 0, 0, 0), none, none, some (.iconst 1, 1, 0, 0, 0), some (.istore_n 3, 1, 0, 0, 0), some (.iconst 0, 1, 0, 0, 0), some (.istore 4, 2, 0, 0, 0), none, some (.iload 4, 2, 0, 0, 0), none, some (.aload_n 0, 1, 0, 0, 0), some (.getfield 408, 3, 11, 58, 1439), none, none, some (.aload_n 0, 1, 0, 0, 0), some (.getfield 408, 3, 11, 58, 1439), none, none, some (.imul, 1, 0, 0, 0), some (.if_icmp .ge 50, 3, 0, 0, 0)], [none, none, some (.iload 4, 2, 0, 0, 0), none, some (.aload_n 0, 1, 0, 0, 0), some (.getfield 408, 3, 11, 58, 1439), none, none, some (.idiv, 1, 0, 0, 0), some (.iload 4, 2, 0, 0, 0), none, some (.aload_n 0, 1, 0, 0, 0), some (.getfield 408, 3, 11, 58, 1439), none, none, some (.irem, 1, 0, 0, 0), some (.if_icmp .ge 27, 3, 0, 0, 0), none, none, some (.aload_n 0, 1, 0, 0, 0), some (.iload 4, 2, 0, 0, 0), none, some (.aload_n 0, 1, 0, 0, 0), some (.getfield 408, 3, 11, 58, 1439), none, none, some (.idiv, 1, 0, 0, 0), some (.iload 4, 2, 0, 0, 0), none, some (.aload_n 0, 1, 0, 0, 0), some (.getfield 408, 3, 11, 58, 1439), none], [none, some (.irem, 1, 0, 0, 0), some (.iload_n 2, 1, 0, 0, 0), some (.invokevirtual 417, 3, 294, 0, 1890), none, none, some (.ifCond .eq 5, 3, 0, 0, 0), none, none, some (.iconst 0, 1, 0, 0, 0), some (.istore_n 3, 1, 0, 0, 0), some (.iinc 4 1, 3, 0, 0, 0), none, none, some (.goto (-58), 3, 0, 0, 0), none, none, some (.iload_n 3, 1, 0, 0, 0), some (.ifCond .eq 5, 3, 0, 0, 0), none, none, some (.iload_n 2, 1, 0, 0, 0), some (.ireturn, 1, 0, 0, 0), some (.iinc 2 1, 3, 0, 0, 0), none, none, some (.goto (-83), 3, 0, 0, 0), none, none, some (.aload_n 0, 1, 0, 0, 0), some (.getfield 408, 3, 11, 58, 1439), none], [none, some (.ireturn, 1, 0, 0, 0)]]
def cd_296 : List (List (Option si_E)) := [[some (.aload_n 0, 1, 0, 0, 0), some (.iload_n 1, 1, 0, 0, 0), some (.invokevirtual 194, 3, 211, 0, 1591), none, none, some (.ifCond .eq 12, 3, 0, 0, 0), none, none, some (.iload_n 3, 1, 0, 0, 0), some (.iconst 0, 1, 0, 0, 0), some (.iconst 1, 1, 0, 0, 0), some (.invokestatic 157, 3, 202, 0, 1584), none, none, some (.ifCond .ne 5, 3, 0, 0, 0), none, none, some (.iconst (-1), 1, 0, 0, 0), some (.ireturn, 1, 0, 0, 0), some (.iconst 0, 1, 0, 0, 0), some (.istore 4, 2, 0, 0, 0), none, some (.iconst 0, 1, 0, 0, 0), some (.istore 5, 2, 0, 0, 0), none, some (.iconst 0, 1, 0, 0, 0), some (.istore 6, 2, 0, 0, 0), none, some (.iload 6, 2, 0, 0, 0), none, some (.aload_n 0, 1, 0, 0, 0), some (.getfield 153, 3, 11, 9, 1390)], [none, none, some (.if_icmp .ge 64, 3, 0, 0, 0), none, none, some (.aload_n 0, 1, 0, 0, 0), some (.iload 6, 2, 0, 0, 0), none, some (.iload_n 2, 1, 0, 0, 0), some (.invokevirtual 404, 3, 287, 0, 1862), none, none, some (.istore 7, 2, 0, 0, 0), none, some (.aload_n 0, 1, 0, 0, 0), some (.iload 6, 2, 0, 0, 0), none, some (.iload_n 1, 1, 0, 0, 0), some (.isub, 1, 0, 0, 0), some (.aload_n 0, 1, 0, 0, 0), some (.getfield 153, 3, 11, 9, 1390), none, none, some (.invokestatic 147, 3, 208, 0, 1610), none, none, some (.iload_n 2, 1, 0, 0, 0), some (.invokevirtual 404, 3, 287, 0, 1862), none, none, some (.istore 8, 2, 0, 0, 0), none], [some (.iload 7, 2, 0, 0, 0), none, some (.ifCond .le 14, 3, 0, 0, 0), none, none, some (.iload 8, 2, 0, 0, 0), none, some (.ifCond .le 9, 3, 0, 0, 0), none, none, some (.iload 4, 2, 0, 0, 0), none, some (.iconst 1, 1, 0, 0, 0), some (.iadd, 1, 0, 0, 0), some (.istore 4, 2, 0, 0, 0), none, some (.iload 5, 2, 0, 0, 0), none, some (.iload 7, 2, 0, 0, 0), none, some (.iload 8, 2, 0, 0, 0), none, some (.iadd, 1, 0, 0, 0), some (.invokestatic 172, 3, 204, 0, 1378), none, none, some (.istore 5, 2, 0, 0, 0), none, some (.iinc 6 1, 3, 0, 0, 0), none, none, some (.goto (-67), 3, 0, 0, 0)], [none, none, some (.iload_n 3, 1, 0, 0, 0), some (.ifCond .ne 8, 3, 0, 0, 0), none, none, some (.iload 4, 2, 0, 0, 0), none, some (.goto 5, 3, 0, 0, 0), none, none, some (.iload 5, 2, 0, 0, 0), none, some (.ireturn, 1, 0, 0, 0)]]
def cd_297 : List (List (Option si_E)) := [[some (.iload_n 1, 1, 0, 0, 0), some (.bipush 6, 2, 0, 0, 0), none, some (.bipush 40, 2, 0, 0, 0), none, some (.invokestatic 157, 3, 202, 0, 1584), none, none, some (.ifCond .eq 22, 3, 0, 0, 0), none, none, some (.iload_n 2, 1, 0, 0, 0), some (.iload_n 1, 1, 0, 0, 0), some (.bipush 40, 2, 0, 0, 0), none, some (.invokestatic 157, 3, 202, 0, 1584), none, none, some (.ifCond .eq 12, 3, 0, 0, 0), none, none, some (.iload_n 3, 1, 0, 0, 0), some (.iconst 0, 1, 0, 0, 0), some (.iconst 1, 1, 0, 0, 0), some (.invokestatic 157, 3, 202, 0, 1584), none, none, some (.ifCond .ne 5, 3, 0, 0, 0), none, none, some (.iconst (-1), 1, 0, 0, 0), some (.ireturn, 1, 0, 0, 0)], [some (.iconst 0, 1, 0, 0, 0), some (.istore 4, 2, 0, 0, 0), none, some (.ldc_w 420, 3, 100000000, 0, 1902), none, none, some (.istore 5, 2, 0, 0, 0), none, some (.iload_n 1, 1, 0, 0, 0), some (.istore 6, 2, 0, 0, 0), none, some (.iload 6, 2, 0, 0, 0), none, some (.iload_n 2, 1, 0, 0, 0), some (.if_icmp .gt 109, 3, 0, 0, 0), none, none, some (.iload_n 1, 1, 0, 0, 0), some (.istore 7, 2, 0, 0, 0), none, some (.iload 7, 2, 0, 0, 0), none, some (.iload_n 2, 1, 0, 0, 0), some (.if_icmp .gt 94, 3, 0, 0, 0), none, none, some (.iload_n 1, 1, 0, 0, 0), some (.istore 8, 2, 0, 0, 0), none, some (.iload 8, 2, 0, 0, 0), none, some (.iload_n 2, 1, 0, 0, 0)], [some (.if_icmp .gt 79, 3, 0, 0, 0), none, none, some (.aload_n 0, 1, 0, 0, 0), some (.getfield 178, 3, 11, 8, 1389), none, none, some (.iload 6, 2, 0, 0, 0), none, some (.imul, 1, 0, 0, 0), some (.iload 7, 2, 0, 0, 0), none, some (.imul, 1, 0, 0, 0), some (.iload 8, 2, 0, 0, 0), none, some (.idiv, 1, 0, 0, 0), some (.istore 9, 2, 0, 0, 0), none, some (.iload 8, 2, 0, 0, 0), none, some (.iload 9, 2, 0, 0, 0), none, some (.imul, 1, 0, 0, 0), some (.aload_n 0, 1, 0, 0, 0), some (.getfield 178, 3, 11, 8, 1389), none, none, some (.iload 6, 2, 0, 0, 0), none, some (.imul, 1, 0, 0, 0), some (.iload 7, 2, 0, 0, 0), none], [some (.imul, 1, 0, 0, 0), some (.if_icmp .ne 40, 3, 0, 0, 0), none, none, some (.iload 9, 2, 0, 0, 0), none, some (.iload_n 1, 1, 0, 0, 0), some (.iload_n 2, 1, 0, 0, 0), some (.invokestatic 157, 3, 202, 0, 1584), none, none, some (.ifCond .ne 6, 3, 0, 0, 0), none, none, some (.goto 27, 3, 0, 0, 0), none, none, some (.iload 4, 2, 0, 0, 0), none, some (.iconst 1, 1, 0, 0, 0), some (.iadd, 1, 0, 0, 0), some (.istore 4, 2, 0, 0, 0), none, some (.iload 5, 2, 0, 0, 0), none, some (.iload 6, 2, 0, 0, 0), none, some (.iload 8, 2, 0, 0, 0), none, some (.iadd, 1, 0, 0, 0), some (.iload 7, 2, 0, 0, 0), none], [some (.iadd, 1, 0, 0, 0), some (.iload 9, 2, 0, 0, 0), none, some (.iadd, 1, 0, 0, 0), some (.invokestatic 150, 3, 203, 0, 1375), none, none, some (.istore 5, 2, 0, 0, 0), none, some (.iinc 8 1, 3, 0, 0, 0), none, none, some (.goto (-79), 3, 0, 0, 0), none, none, some (.iinc 7 1, 3, 0, 0, 0), none, none, some (.goto (-94), 3, 0, 0, 0), none, none, some (.iinc 6 1, 3, 0, 0, 0), none, none, some (.goto (-109), 3, 0, 0, 0), none, none, some (.iload_n 3, 1, 0, 0, 0), some (.ifCond .ne 8, 3, 0, 0, 0), none, none, some (.iload 4, 2, 0, 0, 0)], [none, some (.goto 15, 3, 0, 0, 0), none, none, some (.iload 4, 2, 0, 0, 0), none, some (.ifCond .ne 8, 3, 0, 0, 0), none, none, some (.bipush (-2), 2, 0, 0, 0), none, some (.goto 5, 3, 0, 0, 0), none, none, some (.iload 5, 2, 0, 0, 0), none, some (.ireturn, 1, 0, 0, 0)]]
def cd_298 : List (List (Option si_E)) := [[some (.aload_n 0, 1, 0, 0, 0), some (.getfield 7, 3, 11, 0, 1381), none, none, some (.iconst 0, 1, 0, 0, 0), some (.iload_n 1, 1, 0, 0, 0), some (.iadd, 1, 0, 0, 0), some (.iaload, 1, 0, 0, 0), some (.iload_n 2, 1, 0, 0, 0), some (.iadd, 1, 0, 0, 0), some (.iload_n 2, 1, 0, 0, 0), some (.aload_n 0, 1, 0, 0, 0), some (.getfield 7, 3, 11, 0, 1381), none, none, some (.bipush 8, 2, 0, 0, 0), none, some (.iload_n 1, 1, 0, 0, 0), some (.iadd, 1, 0, 0, 0), some (.iaload, 1, 0, 0, 0), some (.imul, 1, 0, 0, 0), some (.sipush 1000, 3, 0, 0, 0), none, none, some (.invokestatic 143, 3, 207, 0, 1613), none, none, some (.iadd, 1, 0, 0, 0), some (.aload_n 0, 1, 0, 0, 0), some (.getfield 153, 3, 11, 9, 1390), none, none], [some (.invokestatic 147, 3, 208, 0, 1610), none, none, some (.ireturn, 1, 0, 0, 0)]]
def cd_299 : List (List (Option si_E)) := [[some (.aload_n 0, 1, 0, 0, 0), some (.iload_n 1, 1, 0, 0, 0), some (.invokevirtual 168, 3, 212, 0, 1907), none, none, some (.ifCond .eq 20, 3, 0, 0, 0), none, none, some (.aload_n 0, 1, 0, 0, 0), some (.iload_n 2, 1, 0, 0, 0), some (.invokevirtual 194, 3, 211, 0, 1591), none, none, some (.ifCond .eq 12, 3, 0, 0, 0), none, none, some (.aload_n 0, 1, 0, 0, 0), some (.iload_n 1, 1, 0, 0, 0), some (.iload_n 2, 1, 0, 0, 0), some (.invokevirtual 421, 3, 298, 0, 1911), none, none, some (.goto 4, 3, 0, 0, 0), none, none, some (.iconst (-1), 1, 0, 0, 0), some (.ireturn, 1, 0, 0, 0)]]
def cd_300 : List (List (Option si_E)) := [[some (.iconst 0, 1, 0, 0, 0), some (.istore_n 2, 1, 0, 0, 0), some (.iconst 0, 1, 0, 0, 0), some (.istore_n 3, 1, 0, 0, 0), some (.iload_n 3, 1, 0, 0, 0), some (.aload_n 0, 1, 0, 0, 0), some (.getfield 153, 3, 11, 9, 1390), none, none, some (.if_icmp .ge 23, 3, 0, 0, 0), none, none, some (.aload_n 0, 1, 0, 0, 0), some (.iload_n 1, 1, 0, 0, 0), some (.iload_n 3, 1, 0, 0, 0), some (.invokevirtual 421, 3, 298, 0, 1911), none, none, some (.iload_n 3, 1, 0, 0, 0), some (.if_icmp .ne 7, 3, 0, 0, 0), none, none, some (.iload_n 2, 1, 0, 0, 0), some (.iconst 1, 1, 0, 0, 0), some (.iadd, 1, 0, 0, 0), some (.istore_n 2, 1, 0, 0, 0), some (.iinc 3 1, 3, 0, 0, 0), none, none, some (.goto (-25), 3, 0, 0, 0), none, none], [some (.iload_n 2, 1, 0, 0, 0), some (.ireturn, 1, 0, 0, 0)]]
def cd_301 : List (List (Option si_E)) := [[some (.iconst 0, 1, 0, 0, 0), some (.istore_n 2, 1, 0, 0, 0), some (.iload_n 2, 1, 0, 0, 0), some (.aload_n 0, 1, 0, 0, 0), some (.getfield 153, 3, 11, 9, 1390), none, none, some (.if_icmp .ge 21, 3, 0, 0, 0), none, none, some (.aload_n 0, 1, 0, 0, 0), some (.iload_n 1, 1, 0, 0, 0), some (.iload_n 2, 1, 0, 0, 0), some (.invokevirtual 421, 3, 298, 0, 1911), none, none, some (.iload_n 2, 1, 0, 0, 0), some (.if_icmp .ne 5, 3, 0, 0, 0), none, none, some (.iload_n 2, 1, 0, 0, 0), some (.ireturn, 1, 0, 0, 0), some (.iinc 2 1, 3, 0, 0, 0), none, none, some (.goto (-23), 3, 0, 0, 0), none, none, some (.bipush (-2), 2, 0, 0, 0), none, some (.ireturn, 1, 0, 0, 0)]]
def cd_302 : List (List (Option si_E)) := [[some (.aload_n 0, 1, 0, 0, 0), some (.iload_n 1, 1, 0, 0, 0), some (.invokevirtual 168, 3, 212, 0, 1907), none, none, some (.ifCond .ne 7, 3, 0, 0, 0), none, none, some (.sipush (-1000), 3, 0, 0, 0), none, none, some (.ireturn, 1, 0, 0, 0), some (.iload_n 2, 1, 0, 0, 0), some (.tableswitch 76 0 4 #[35, 44, 54, 64, 70], 35, 0, 0, 0), none, none, none, none, none, none, none, none, none, none, none, none, none, none, none, none, none, none], [none, none, none, none, none, none, none, none, none, none, none, none, none, none, none, none, some (.aload_n 0, 1, 0, 0, 0), some (.getfield 7, 3, 11, 0, 1381), none, none, some (.iconst 0, 1, 0, 0, 0), some (.iload_n 1, 1, 0, 0, 0), some (.iadd, 1, 0, 0, 0), some (.iaload, 1, 0, 0, 0), some (.ireturn, 1, 0, 0, 0), some (.aload_n 0, 1, 0, 0, 0), some (.getfield 7, 3, 11, 0, 1381), none, none, some (.bipush 8, 2, 0, 0, 0), none, some (.iload_n 1, 1, 0, 0, 0)], [some (.iadd, 1, 0, 0, 0), some (.iaload, 1, 0, 0, 0), some (.ireturn, 1, 0, 0, 0), some (.aload_n 0, 1, 0, 0, 0), some (.getfield 7, 3, 11, 0, 1381), none, none, some (.bipush 16, 2, 0, 0, 0), none, some (.iload_n 1, 1, 0, 0, 0), some (.iadd, 1, 0, 0, 0), some (.iaload, 1, 0, 0, 0), some (.ireturn, 1, 0, 0, 0), some (.aload_n 0, 1, 0, 0, 0), some (.iload_n 1, 1, 0, 0, 0), some (.invokevirtual 424, 3, 300, 0, 1919), none, none, some (.ireturn, 1, 0, 0, 0), some (.aload_n 0, 1, 0, 0, 0), some (.iload_n 1, 1, 0, 0, 0), some (.invokevirtual 427, 3, 301, 0, 1923), none, none, some (.ireturn, 1, 0, 0, 0), some (.sipush (-1000), 3, 0, 0, 0), none, none, some (.ireturn, 1, 0, 0, 0)]]
def cd_303 : List (List (Option si_E)) := [[some (.aload_n 0, 1, 0, 0, 0), some (.iload_n 1, 1, 0, 0, 0), some (.iload 4, 2, 0, 0, 0), none, some (.invokevirtual 421, 3, 298, 0, 1911), none, none, some (.istore 5, 2, 0, 0, 0), none, some (.aload_n 0, 1, 0, 0, 0), some (.iload_n 2, 1, 0, 0, 0), some (.iload 4, 2, 0, 0, 0), none, some (.invokevirtual 421, 3, 298, 0, 1911), none, none, some (.istore 6, 2, 0, 0, 0), none, some (.iload_n 3, 1, 0, 0, 0), some (.ifCond .eq 28, 3, 0, 0, 0), none, none, some (.aload_n 0, 1, 0, 0, 0), some (.getfield 31, 3, 11, 12, 1393), none, none, some (.iload 5, 2, 0, 0, 0), none, some (.iaload, 1, 0, 0, 0), some (.aload_n 0, 1, 0, 0, 0), some (.getfield 31, 3, 11, 12, 1393), none], [none, some (.iload 6, 2, 0, 0, 0), none, some (.iaload, 1, 0, 0, 0), some (.if_icmp .ne 7, 3, 0, 0, 0), none, none, some (.iconst 1, 1, 0, 0, 0), some (.goto 19, 3, 0, 0, 0), none, none, some (.iconst 0, 1, 0, 0, 0), some (.goto 15, 3, 0, 0, 0), none, none, some (.iload 5, 2, 0, 0, 0), none, some (.iload 6, 2, 0, 0, 0), none, some (.if_icmp .ne 7, 3, 0, 0, 0), none, none, some (.iconst 1, 1, 0, 0, 0), some (.goto 4, 3, 0, 0, 0), none, none, some (.iconst 0, 1, 0, 0, 0), some (.ireturn, 1, 0, 0, 0)]]
def cd_304 : List (List (Option si_E)) := [[some (.aload_n 0, 1, 0, 0, 0), some (.iload_n 1, 1, 0, 0, 0), some (.iload_n 2, 1, 0, 0, 0), some (.invokevirtual 430, 3, 213, 0, 1931), none, none, some (.ifCond .eq 13, 3, 0, 0, 0), none, none, some (.iload 4, 2, 0, 0, 0), none, some (.iconst 0, 1, 0, 0, 0), some (.iconst 1, 1, 0, 0, 0), some (.invokestatic 157, 3, 202, 0, 1584), none, none, some (.ifCond .ne 5, 3, 0, 0, 0), none, none, some (.iconst (-1), 1, 0, 0, 0), some (.ireturn, 1, 0, 0, 0), some (.iconst 0, 1, 0, 0, 0), some (.istore 5, 2, 0, 0, 0), none, some (.bipush (-2), 2, 0, 0, 0), none, some (.istore 6, 2, 0, 0, 0), none, some (.aload_n 0, 1, 0, 0, 0), some (.getfield 153, 3, 11, 9, 1390), none, none], [some (.iconst 1, 1, 0, 0, 0), some (.isub, 1, 0, 0, 0), some (.istore 7, 2, 0, 0, 0), none, some (.iload 7, 2, 0, 0, 0), none, some (.ifCond .lt 34, 3, 0, 0, 0), none, none, some (.aload_n 0, 1, 0, 0, 0), some (.iload_n 1, 1, 0, 0, 0), some (.iload_n 2, 1, 0, 0, 0), some (.iload_n 3, 1, 0, 0, 0), some (.iload 7, 2, 0, 0, 0), none, some (.invokevirtual 433, 3, 303, 0, 1935), none, none, some (.ifCond .ne 6, 3, 0, 0, 0), none, none, some (.goto 13, 3, 0, 0, 0), none, none, some (.iload 5, 2, 0, 0, 0), none, some (.iconst 1, 1, 0, 0, 0), some (.iadd, 1, 0, 0, 0), some (.istore 5, 2, 0, 0, 0), none, some (.iload 7, 2, 0, 0, 0), none], [some (.istore 6, 2, 0, 0, 0), none, some (.iinc 7 (-1), 3, 0, 0, 0), none, none, some (.goto (-33), 3, 0, 0, 0), none, none, some (.iload 4, 2, 0, 0, 0), none, some (.ifCond .ne 8, 3, 0, 0, 0), none, none, some (.iload 5, 2, 0, 0, 0), none, some (.goto 5, 3, 0, 0, 0), none, none, some (.iload 6, 2, 0, 0, 0), none, some (.ireturn, 1, 0, 0, 0)]]
def cd_305 : List (List (Option si_E)) := [[some (.aload_n 0, 1, 0, 0, 0), some (.iload_n 1, 1, 0, 0, 0), some (.iload_n 2, 1, 0, 0, 0), some (.invokevirtual 430, 3, 213, 0, 1931), none, none, some (.ifCond .ne 5, 3, 0, 0, 0), none, none, some (.iconst (-1), 1, 0, 0, 0), some (.ireturn, 1, 0, 0, 0), some (.iconst 0, 1, 0, 0, 0), some (.istore_n 3, 1, 0, 0, 0), some (.iconst 0, 1, 0, 0, 0), some (.istore 4, 2, 0, 0, 0), none, some (.iconst 0, 1, 0, 0, 0), some (.istore 5, 2, 0, 0, 0), none, some (.iload 5, 2, 0, 0, 0), none, some (.aload_n 0, 1, 0, 0, 0), some (.getfield 153, 3, 11, 9, 1390), none, none, some (.if_icmp .ge 38, 3, 0, 0, 0), none, none, some (.aload_n 0, 1, 0, 0, 0), some (.iload_n 1, 1, 0, 0, 0), some (.iload_n 2, 1, 0, 0, 0), some (.iconst 0, 1, 0, 0, 0)], [some (.iload 5, 2, 0, 0, 0), none, some (.invokevirtual 433, 3, 303, 0, 1935), none, none, some (.ifCond .eq 10, 3, 0, 0, 0), none, none, some (.iload 4, 2, 0, 0, 0), none, some (.iconst 1, 1, 0, 0, 0), some (.iadd, 1, 0, 0, 0), some (.goto 4, 3, 0, 0, 0), none, none, some (.iconst 0, 1, 0, 0, 0), some (.istore 4, 2, 0, 0, 0), none, some (.iload_n 3, 1, 0, 0, 0), some (.iload 4, 2, 0, 0, 0), none, some (.invokestatic 172, 3, 204, 0, 1378), none, none, some (.istore_n 3, 1, 0, 0, 0), some (.iinc 5 1, 3, 0, 0, 0), none, none, some (.goto (-41), 3, 0, 0, 0), none, none, some (.iload_n 3, 1, 0, 0, 0)], [some (.ireturn, 1, 0, 0, 0)]]
def cd_306 : List (List (Option si_E)) := [[some (.iconst (-1), 1, 0, 0, 0), some (.istore_n 2, 1, 0, 0, 0), some (.iconst 0, 1, 0, 0, 0), some (.istore_n 3, 1, 0, 0, 0), some (.iload_n 3, 1, 0, 0, 0), some (.bipush 8, 2, 0, 0, 0), none, some (.if_icmp .ge 44, 3, 0, 0, 0), none, none, some (.aload_n 0, 1, 0, 0, 0), some (.iload_n 3, 1, 0, 0, 0), some (.invokevirtual 168, 3, 212, 0, 1907), none, none, some (.ifCond .ne 6, 3, 0, 0, 0), none, none, some (.goto 27, 3, 0, 0, 0), none, none, some (.iload_n 2, 1, 0, 0, 0), some (.iconst (-1), 1, 0, 0, 0), some (.if_icmp .eq 15, 3, 0, 0, 0), none, none, some (.aload_n 0, 1, 0, 0, 0), some (.iload_n 3, 1, 0, 0, 0), some (.iload_n 1, 1, 0, 0, 0), some (.invokevirtual 421, 3, 298, 0, 1911), none, none], [some (.iload_n 2, 1, 0, 0, 0), some (.if_icmp .eq 5, 3, 0, 0, 0), none, none, some (.iconst 0, 1, 0, 0, 0), some (.ireturn, 1, 0, 0, 0), some (.aload_n 0, 1, 0, 0, 0), some (.iload_n 3, 1, 0, 0, 0), some (.iload_n 1, 1, 0, 0, 0), some (.invokevirtual 421, 3, 298, 0, 1911), none, none, some (.istore_n 2, 1, 0, 0, 0), some (.iinc 3 1, 3, 0, 0, 0), none, none, some (.goto (-44), 3, 0, 0, 0), none, none, some (.iconst 1, 1, 0, 0, 0), some (.ireturn, 1, 0, 0, 0)]]
def cd_307 : List (List (Option si_E)) := [[some (.iload_n 1, 1, 0, 0, 0), some (.iconst 0, 1, 0, 0, 0), some (.iconst 1, 1, 0, 0, 0), some (.invokestatic 157, 3, 202, 0, 1584), none, none, some (.ifCond .ne 5, 3, 0, 0, 0), none, none, some (.iconst (-1), 1, 0, 0, 0), some (.ireturn, 1, 0, 0, 0), some (.iconst 0, 1, 0, 0, 0), some (.istore_n 2, 1, 0, 0, 0), some (.bipush (-2), 2, 0, 0, 0), none, some (.istore_n 3, 1, 0, 0, 0), some (.aload_n 0, 1, 0, 0, 0), some (.getfield 153, 3, 11, 9, 1390), none, none, some (.iconst 1, 1, 0, 0, 0), some (.isub, 1, 0, 0, 0), some (.istore 4, 2, 0, 0, 0), none, some (.iload 4, 2, 0, 0, 0), none, some (.ifCond .lt 28, 3, 0, 0, 0), none, none, some (.aload_n 0, 1, 0, 0, 0), some (.iload 4, 2, 0, 0, 0), none], [some (.invokevirtual 437, 3, 306, 0, 1947), none, none, some (.ifCond .ne 6, 3, 0, 0, 0), none, none, some (.goto 10, 3, 0, 0, 0), none, none, some (.iload_n 2, 1, 0, 0, 0), some (.iconst 1, 1, 0, 0, 0), some (.iadd, 1, 0, 0, 0), some (.istore_n 2, 1, 0, 0, 0), some (.iload 4, 2, 0, 0, 0), none, some (.istore_n 3, 1, 0, 0, 0), some (.iinc 4 (-1), 3, 0, 0, 0), none, none, some (.goto (-27), 3, 0, 0, 0), none, none, some (.iload_n 1, 1, 0, 0, 0), some (.ifCond .ne 7, 3, 0, 0, 0), none, none, some (.iload_n 2, 1, 0, 0, 0), some (.goto 4, 3, 0, 0, 0), none, none, some (.iload_n 3, 1, 0, 0, 0), some (.ireturn, 1, 0, 0, 0)]]
def cd_308 : List (List (Option si_E)) := [[some (.aload_n 0, 1, 0, 0, 0), some (.iload_n 1, 1, 0, 0, 0), some (.iload_n 2, 1, 0, 0, 0), some (.invokevirtual 421, 3, 298, 0, 1911), none, none, some (.iload_n 2, 1, 0, 0, 0), some (.aload_n 0, 1, 0, 0, 0), some (.getfield 153, 3, 11, 9, 1390), none, none, some (.invokestatic 206, 3, 209, 0, 1607), none, none, some (.ireturn, 1, 0, 0, 0)]]
def cd_309 : List (List (Option si_E)) := [[some (.aload_n 0, 1, 0, 0, 0), some (.iload_n 1, 1, 0, 0, 0), some (.invokevirtual 194, 3, 211, 0, 1591), none, none, some (.ifCond .eq 12, 3, 0, 0, 0), none, none, some (.iload_n 2, 1, 0, 0, 0), some (.iconst 0, 1, 0, 0, 0), some (.iconst 1, 1, 0, 0, 0), some (.invokestatic 157, 3, 202, 0, 1584), none, none, some (.ifCond .ne 5, 3, 0, 0, 0), none, none, some (.iconst (-1), 1, 0, 0, 0), some (.ireturn, 1, 0, 0, 0), some (.bipush (-2), 2, 0, 0, 0), none, some (.istore_n 3, 1, 0, 0, 0), some (.iconst 0, 1, 0, 0, 0), some (.istore 4, 2, 0, 0, 0), none, some (.iload 4, 2, 0, 0, 0), none, some (.bipush 8, 2, 0, 0, 0), none, some (.if_icmp .ge 43, 3, 0, 0, 0), none, none], [some (.aload_n 0, 1, 0, 0, 0), some (.iload 4, 2, 0, 0, 0), none, some (.invokevirtual 168, 3, 212, 0, 1907), none, none, some (.ifCond .eq 28, 3, 0, 0, 0), none, none, some (.iload_n 3, 1, 0, 0, 0), some (.bipush (-2), 2, 0, 0, 0), none, some (.if_icmp .eq 19, 3, 0, 0, 0), none, none, some (.aload_n 0, 1, 0, 0, 0), some (.iload 4, 2, 0, 0, 0), none, some (.iload_n 1, 1, 0, 0, 0), some (.invokevirtual 440, 3, 308, 0, 1955), none, none, some (.aload_n 0, 1, 0, 0, 0), some (.iload_n 3, 1, 0, 0, 0), some (.iload_n 1, 1, 0, 0, 0), some (.invokevirtual 440, 3, 308, 0, 1955), none, none, some (.if_icmp .ge 6, 3, 0, 0, 0), none, none, some (.iload 4, 2, 0, 0, 0)], [none, some (.istore_n 3, 1, 0, 0, 0), some (.iinc 4 1, 3, 0, 0, 0), none, none, some (.goto (-44), 3, 0, 0, 0), none, none, some (.iload_n 2, 1, 0, 0, 0), some (.ifCond .eq 9, 3, 0, 0, 0), none, none, some (.iload_n 3, 1, 0, 0, 0), some (.bipush (-2), 2, 0, 0, 0), none, some (.if_icmp .ne 7, 3, 0, 0, 0), none, none, some (.iload_n 3, 1, 0, 0, 0), some (.goto 9, 3, 0, 0, 0), none, none, some (.aload_n 0, 1, 0, 0, 0), some (.iload_n 3, 1, 0, 0, 0), some (.iload_n 1, 1, 0, 0, 0), some (.invokevirtual 440, 3, 308, 0, 1955), none, none, some (.ireturn, 1, 0, 0, 0)]]
def cd_310 : List (List (Option si_E)) := [[some (.iconst 0, 1, 0, 0, 0), some (.istore_n 3, 1, 0, 0, 0), some (.iconst 0, 1, 0, 0, 0), some (.istore 4, 2, 0, 0, 0), none, some (.iload 4, 2, 0, 0, 0), none, some (.bipush 8, 2, 0, 0, 0), none, some (.if_icmp .ge 33, 3, 0, 0, 0), none, none, some (.aload_n 0, 1, 0, 0, 0), some (.iload 4, 2, 0, 0, 0), none, some (.invokevirtual 168, 3, 212, 0, 1907), none, none, some (.ifCond .eq 18, 3, 0, 0, 0), none, none, some (.aload_n 0, 1, 0, 0, 0), some (.iload 4, 2, 0, 0, 0), none, some (.iload_n 2, 1, 0, 0, 0), some (.invokevirtual 421, 3, 298, 0, 1911), none, none, some (.iload_n 1, 1, 0, 0, 0), some (.if_icmp .ne 7, 3, 0, 0, 0), none, none], [some (.iload_n 3, 1, 0, 0, 0), some (.iconst 1, 1, 0, 0, 0), some (.iadd, 1, 0, 0, 0), some (.istore_n 3, 1, 0, 0, 0), some (.iinc 4 1, 3, 0, 0, 0), none, none, some (.goto (-34), 3, 0, 0, 0), none, none, some (.iload_n 3, 1, 0, 0, 0), some (.ireturn, 1, 0, 0, 0)]]
def cd_311 : List (List (Option si_E)) := [[some (.aload_n 0, 1, 0, 0, 0), some (.iload_n 1, 1, 0, 0, 0), some (.invokevirtual 194, 3, 211, 0, 1591), none, none, some (.ifCond .eq 12, 3, 0, 0, 0), none, none, some (.iload_n 2, 1, 0, 0, 0), some (.iconst 0, 1, 0, 0, 0), some (.iconst 1, 1, 0, 0, 0), some (.invokestatic 157, 3, 202, 0, 1584), none, none, some (.ifCond .ne 5, 3, 0, 0, 0), none, none, some (.iconst (-1), 1, 0, 0, 0), some (.ireturn, 1, 0, 0, 0), some (.iconst 0, 1, 0, 0, 0), some (.istore_n 3, 1, 0, 0, 0), some (.bipush (-2), 2, 0, 0, 0), none, some (.istore 4, 2, 0, 0, 0), none, some (.iconst 0, 1, 0, 0, 0), some (.istore 5, 2, 0, 0, 0), none, some (.iload 5, 2, 0, 0, 0), none, some (.aload_n 0, 1, 0, 0, 0), some (.getfield 153, 3, 11, 9, 1390)], [none, none, some (.if_icmp .ge 35, 3, 0, 0, 0), none, none, some (.aload_n 0, 1, 0, 0, 0), some (.iload 5, 2, 0, 0, 0), none, some (.iload_n 1, 1, 0, 0, 0), some (.invokevirtual 443, 3, 310, 0, 1963), none, none, some (.iload_n 3, 1, 0, 0, 0), some (.if_icmp .gt 6, 3, 0, 0, 0), none, none, some (.goto 15, 3, 0, 0, 0), none, none, some (.aload_n 0, 1, 0, 0, 0), some (.iload 5, 2, 0, 0, 0), none, some (.iload_n 1, 1, 0, 0, 0), some (.invokevirtual 443, 3, 310, 0, 1963), none, none, some (.istore_n 3, 1, 0, 0, 0), some (.iload 5, 2, 0, 0, 0), none, some (.istore 4, 2, 0, 0, 0), none, some (.iinc 5 1, 3, 0, 0, 0)], [none, none, some (.goto (-38), 3, 0, 0, 0), none, none, some (.iload_n 2, 1, 0, 0, 0), some (.ifCond .ne 8, 3, 0, 0, 0), none, none, some (.iload 4, 2, 0, 0, 0), none, some (.goto 4, 3, 0, 0, 0), none, none, some (.iload_n 3, 1, 0, 0, 0), some (.ireturn, 1, 0, 0, 0)]]
def cd_312 : List (List (Option si_E)) := [[some (.aload_n 0, 1, 0, 0, 0), some (.iload_n 1, 1, 0, 0, 0), some (.invokevirtual 194, 3, 211, 0, 1591), none, none, some (.ifCond .eq 12, 3, 0, 0, 0), none, none, some (.iload_n 2, 1, 0, 0, 0), some (.iconst 0, 1, 0, 0, 0), some (.iconst 1, 1, 0, 0, 0), some (.invokestatic 157, 3, 202, 0, 1584), none, none, some (.ifCond .ne 5, 3, 0, 0, 0), none, none, some (.iconst (-1), 1, 0, 0, 0), some (.ireturn, 1, 0, 0, 0), some (.iconst 0, 1, 0, 0, 0), some (.istore_n 3, 1, 0, 0, 0), some (.iconst 0, 1, 0, 0, 0), some (.istore 4, 2, 0, 0, 0), none, some (.iload 4, 2, 0, 0, 0), none, some (.bipush 8, 2, 0, 0, 0), none, some (.if_icmp .ge 62, 3, 0, 0, 0), none, none, some (.iconst 0, 1, 0, 0, 0)], [some (.istore 5, 2, 0, 0, 0), none, some (.iload 5, 2, 0, 0, 0), none, some (.iload 4, 2, 0, 0, 0), none, some (.if_icmp .ge 46, 3, 0, 0, 0), none, none, some (.aload_n 0, 1, 0, 0, 0), some (.iload 4, 2, 0, 0, 0), none, some (.iload 5, 2, 0, 0, 0), none, some (.invokevirtual 430, 3, 213, 0, 1931), none, none, some (.ifCond .eq 29, 3, 0, 0, 0), none, none, some (.aload_n 0, 1, 0, 0, 0), some (.iload 4, 2, 0, 0, 0), none, some (.iload 5, 2, 0, 0, 0), none, some (.iload_n 2, 1, 0, 0, 0), some (.iconst 1, 1, 0, 0, 0), some (.if_icmp .ne 7, 3, 0, 0, 0), none, none, some (.iconst 1, 1, 0, 0, 0), some (.goto 4, 3, 0, 0, 0)], [none, none, some (.iconst 0, 1, 0, 0, 0), some (.iload_n 1, 1, 0, 0, 0), some (.invokevirtual 433, 3, 303, 0, 1935), none, none, some (.ifCond .eq 7, 3, 0, 0, 0), none, none, some (.iload_n 3, 1, 0, 0, 0), some (.iconst 1, 1, 0, 0, 0), some (.iadd, 1, 0, 0, 0), some (.istore_n 3, 1, 0, 0, 0), some (.iinc 5 1, 3, 0, 0, 0), none, none, some (.goto (-47), 3, 0, 0, 0), none, none, some (.iinc 4 1, 3, 0, 0, 0), none, none, some (.goto (-63), 3, 0, 0, 0), none, none, some (.iload_n 3, 1, 0, 0, 0), some (.ireturn, 1, 0, 0, 0)]]
def cd_313 : List (List (Option si_E)) := [[some (.iconst 0, 1, 0, 0, 0), some (.istore_n 3, 1, 0, 0, 0), some (.iconst 0, 1, 0, 0, 0), some (.istore 4, 2, 0, 0, 0), none, some (.iload 4, 2, 0, 0, 0), none, some (.bipush 8, 2, 0, 0, 0), none, some (.if_icmp .ge 44, 3, 0, 0, 0), none, none, some (.aload_n 0, 1, 0, 0, 0), some (.iload 4, 2, 0, 0, 0), none, some (.invokevirtual 168, 3, 212, 0, 1907), none, none, some (.ifCond .eq 29, 3, 0, 0, 0), none, none, some (.iload_n 3, 1, 0, 0, 0), some (.aload_n 0, 1, 0, 0, 0), some (.iload 4, 2, 0, 0, 0), none, some (.iload_n 2, 1, 0, 0, 0), some (.invokevirtual 421, 3, 298, 0, 1911), none, none, some (.aload_n 0, 1, 0, 0, 0), some (.iload_n 1, 1, 0, 0, 0), some (.iload_n 2, 1, 0, 0, 0)], [some (.invokevirtual 421, 3, 298, 0, 1911), none, none, some (.isub, 1, 0, 0, 0), some (.aload_n 0, 1, 0, 0, 0), some (.getfield 153, 3, 11, 9, 1390), none, none, some (.invokestatic 147, 3, 208, 0, 1610), none, none, some (.invokestatic 172, 3, 204, 0, 1378), none, none, some (.istore_n 3, 1, 0, 0, 0), some (.iinc 4 1, 3, 0, 0, 0), none, none, some (.goto (-45), 3, 0, 0, 0), none, none, some (.iload_n 3, 1, 0, 0, 0), some (.ireturn, 1, 0, 0, 0)]]
def cd_314 : List (List (Option si_E)) := [[some (.aload_n 0, 1, 0, 0, 0), some (.iload_n 1, 1, 0, 0, 0), some (.invokevirtual 194, 3, 211, 0, 1591), none, none, some (.ifCond .ne 5, 3, 0, 0, 0), none, none, some (.iconst (-1), 1, 0, 0, 0), some (.ireturn, 1, 0, 0, 0), some (.ldc_w 420, 3, 100000000, 0, 1902), none, none, some (.istore_n 2, 1, 0, 0, 0), some (.iconst 0, 1, 0, 0, 0), some (.istore_n 3, 1, 0, 0, 0), some (.iload_n 3, 1, 0, 0, 0), some (.bipush 8, 2, 0, 0, 0), none, some (.if_icmp .ge 28, 3, 0, 0, 0), none, none, some (.aload_n 0, 1, 0, 0, 0), some (.iload_n 3, 1, 0, 0, 0), some (.invokevirtual 168, 3, 212, 0, 1907), none, none, some (.ifCond .eq 14, 3, 0, 0, 0), none, none, some (.iload_n 2, 1, 0, 0, 0), some (.aload_n 0, 1, 0, 0, 0)], [some (.iload_n 3, 1, 0, 0, 0), some (.iload_n 1, 1, 0, 0, 0), some (.invokevirtual 446, 3, 313, 0, 1975), none, none, some (.invokestatic 150, 3, 203, 0, 1375), none, none, some (.istore_n 2, 1, 0, 0, 0), some (.iinc 3 1, 3, 0, 0, 0), none, none, some (.goto (-28), 3, 0, 0, 0), none, none, some (.iload_n 2, 1, 0, 0, 0), some (.ldc_w 420, 3, 100000000, 0, 1902), none, none, some (.if_icmp .ne 7, 3, 0, 0, 0), none, none, some (.iconst 0, 1, 0, 0, 0), some (.goto 4, 3, 0, 0, 0), none, none, some (.iload_n 2, 1, 0, 0, 0), some (.ireturn, 1, 0, 0, 0)]]
def cd_315 : List (List (Option si_E)) := [[some (.aload_n 0, 1, 0, 0, 0), some (.iload_n 1, 1, 0, 0, 0), some (.invokevirtual 168, 3, 212, 0, 1907), none, none, some (.ifCond .ne 6, 3, 0, 0, 0), none, none, some (.bipush (-2), 2, 0, 0, 0), none, some (.ireturn, 1, 0, 0, 0), some (.iconst 0, 1, 0, 0, 0), some (.istore_n 3, 1, 0, 0, 0), some (.iload_n 3, 1, 0, 0, 0), some (.aload_n 0, 1, 0, 0, 0), some (.getfield 153, 3, 11, 9, 1390), none, none, some (.if_icmp .ge 21, 3, 0, 0, 0), none, none, some (.aload_n 0, 1, 0, 0, 0), some (.iload_n 1, 1, 0, 0, 0), some (.iload_n 3, 1, 0, 0, 0), some (.invokevirtual 421, 3, 298, 0, 1911), none, none, some (.iload_n 2, 1, 0, 0, 0), some (.if_icmp .ne 5, 3, 0, 0, 0), none, none, some (.iload_n 3, 1, 0, 0, 0)], [some (.ireturn, 1, 0, 0, 0), some (.iinc 3 1, 3, 0, 0, 0), none, none, some (.goto (-23), 3, 0, 0, 0), none, none, some (.bipush (-2), 2, 0, 0, 0), none, some (.ireturn, 1, 0, 0, 0)]]
def cd_316 : List (List (Option si_E)) := [[some (.iload_n 0, 1, 0, 0, 0), some (.ifCond .lt 21, 3, 0, 0, 0), none, none, some (.iload_n 1, 1, 0, 0, 0), some (.ifCond .lt 17, 3, 0, 0, 0), none, none, some (.iload_n 0, 1, 0, 0, 0), some (.iload_n 1, 1, 0, 0, 0), some (.isub, 1, 0, 0, 0), some (.invokestatic 449, 3, 205, 0, 1994), none, none, some (.iload_n 2, 1, 0, 0, 0), some (.if_icmp .gt 7, 3, 0, 0, 0), none, none, some (.iconst 1, 1, 0, 0, 0), some (.goto 4, 3, 0, 0, 0), none, none, some (.iconst 0, 1, 0, 0, 0), some (.ireturn, 1, 0, 0, 0)]]
def cd_317 : List (List (Option si_E)) := [[some (.aload_n 0, 1, 0, 0, 0), some (.aload_n 0, 1, 0, 0, 0), some (.getfield 19, 3, 11, 3, 1384), none, none, some (.iload_n 1, 1, 0, 0, 0), some (.iaload, 1, 0, 0, 0), some (.aload_n 0, 1, 0, 0, 0), some (.getfield 25, 3, 11, 5, 1386), none, none, some (.iload_n 1, 1, 0, 0, 0), some (.iaload, 1, 0, 0, 0), some (.invokevirtual 452, 3, 315, 0, 1983), none, none, some (.aload_n 0, 1, 0, 0, 0), some (.aload_n 0, 1, 0, 0, 0), some (.getfield 22, 3, 11, 4, 1385), none, none, some (.iload_n 1, 1, 0, 0, 0), some (.iaload, 1, 0, 0, 0), some (.aload_n 0, 1, 0, 0, 0), some (.getfield 25, 3, 11, 5, 1386), none, none, some (.iload_n 1, 1, 0, 0, 0), some (.iaload, 1, 0, 0, 0), some (.invokevirtual 452, 3, 315, 0, 1983), none, none], [some (.aload_n 0, 1, 0, 0, 0), some (.getfield 28, 3, 11, 6, 1387), none, none, some (.iload_n 1, 1, 0, 0, 0), some (.iaload, 1, 0, 0, 0), some (.invokestatic 455, 3, 316, 0, 1991), none, none, some (.ireturn, 1, 0, 0, 0)]]
def cd_318 : List (List (Option si_E)) := [[some (.aload_n 0, 1, 0, 0, 0), some (.aload_n 0, 1, 0, 0, 0), some (.getfield 19, 3, 11, 3, 1384), none, none, some (.iload_n 1, 1, 0, 0, 0), some (.iaload, 1, 0, 0, 0), some (.aload_n 0, 1, 0, 0, 0), some (.getfield 25, 3, 11, 5, 1386), none, none, some (.iload_n 1, 1, 0, 0, 0), some (.iaload, 1, 0, 0, 0), some (.invokevirtual 452, 3, 315, 0, 1983), none, none, some (.istore_n 2, 1, 0, 0, 0), some (.aload_n 0, 1, 0, 0, 0), some (.aload_n 0, 1, 0, 0, 0), some (.getfield 22, 3, 11, 4, 1385), none, none, some (.iload_n 1, 1, 0, 0, 0), some (.iaload, 1, 0, 0, 0), some (.aload_n 0, 1, 0, 0, 0), some (.getfield 25, 3, 11, 5, 1386), none, none, some (.iload_n 1, 1, 0, 0, 0), some (.iaload, 1, 0, 0, 0), some (.invokevirtual 452, 3, 315, 0, 1983), none], [none, some (.istore_n 3, 1, 0, 0, 0), some (.iload_n 2, 1, 0, 0, 0), some (.ifCond .ge 9, 3, 0, 0, 0), none, none, some (.iload_n 3, 1, 0, 0, 0), some (.ifCond .ge 5, 3, 0, 0, 0), none, none, some (.iconst 0, 1, 0, 0, 0), some (.ireturn, 1, 0, 0, 0), some (.iload_n 2, 1, 0, 0, 0), some (.ifCond .lt 7, 3, 0, 0, 0), none, none, some (.iload_n 3, 1, 0, 0, 0), some (.ifCond .ge 12, 3, 0, 0, 0), none, none, some (.aload_n 0, 1, 0, 0, 0), some (.getfield 28, 3, 11, 6, 1387), none, none, some (.iload_n 1, 1, 0, 0, 0), some (.iaload, 1, 0, 0, 0), some (.goto 18, 3, 0, 0, 0), none, none, some (.aload_n 0, 1, 0, 0, 0), some (.getfield 28, 3, 11, 6, 1387), none], [none, some (.iload_n 1, 1, 0, 0, 0), some (.iaload, 1, 0, 0, 0), some (.iload_n 2, 1, 0, 0, 0), some (.iload_n 3, 1, 0, 0, 0), some (.isub, 1, 0, 0, 0), some (.invokestatic 449, 3, 205, 0, 1994), none, none, some (.invokestatic 150, 3, 203, 0, 1375), none, none, some (.ireturn, 1, 0, 0, 0)]]
def cd_319 : List (List (Option si_E)) := [[some (.iload_n 1, 1, 0, 0, 0), some (.iconst 0, 1, 0, 0, 0), some (.aload_n 0, 1, 0, 0, 0), some (.getfield 181, 3, 11, 11, 1392), none, none, some (.iconst 1, 1, 0, 0, 0), some (.isub, 1, 0, 0, 0), some (.invokestatic 157, 3, 202, 0, 1584), none, none, some (.ifCond .ne 5, 3, 0, 0, 0), none, none, some (.iconst (-1), 1, 0, 0, 0), some (.ireturn, 1, 0, 0, 0), some (.iload_n 2, 1, 0, 0, 0), some (.tableswitch 129 0 7 #[47, 54, 61, 68, 75, 92, 109, 123], 47, 0, 0, 0), none, none, none, none, none, none, none, none, none, none, none, none, none, none], [none, none, none, none, none, none, none, none, none, none, none, none, none, none, none, none, none, none, none, none, none, none, none, none, none, none, none, none, none, none, none, none], [some (.aload_n 0, 1, 0, 0, 0), some (.getfield 19, 3, 11, 3, 1384), none, none, some (.iload_n 1, 1, 0, 0, 0), some (.iaload, 1, 0, 0, 0), some (.ireturn, 1, 0, 0, 0), some (.aload_n 0, 1, 0, 0, 0), some (.getfield 22, 3, 11, 4, 1385), none, none, some (.iload_n 1, 1, 0, 0, 0), some (.iaload, 1, 0, 0, 0), some (.ireturn, 1, 0, 0, 0), some (.aload_n 0, 1, 0, 0, 0), some (.getfield 25, 3, 11, 5, 1386), none, none, some (.iload_n 1, 1, 0, 0, 0), some (.iaload, 1, 0, 0, 0), some (.ireturn, 1, 0, 0, 0), some (.aload_n 0, 1, 0, 0, 0), some (.getfield 28, 3, 11, 6, 1387), none, none, some (.iload_n 1, 1, 0, 0, 0), some (.iaload, 1, 0, 0, 0), some (.ireturn, 1, 0, 0, 0), some (.aload_n 0, 1, 0, 0, 0), some (.aload_n 0, 1, 0, 0, 0), some (.getfield 19, 3, 11, 3, 1384), none], [none, some (.iload_n 1, 1, 0, 0, 0), some (.iaload, 1, 0, 0, 0), some (.aload_n 0, 1, 0, 0, 0), some (.getfield 25, 3, 11, 5, 1386), none, none, some (.iload_n 1, 1, 0, 0, 0), some (.iaload, 1, 0, 0, 0), some (.invokevirtual 452, 3, 315, 0, 1983), none, none, some (.ireturn, 1, 0, 0, 0), some (.aload_n 0, 1, 0, 0, 0), some (.aload_n 0, 1, 0, 0, 0), some (.getfield 22, 3, 11, 4, 1385), none, none, some (.iload_n 1, 1, 0, 0, 0), some (.iaload, 1, 0, 0, 0), some (.aload_n 0, 1, 0, 0, 0), some (.getfield 25, 3, 11, 5, 1386), none, none, some (.iload_n 1, 1, 0, 0, 0), some (.iaload, 1, 0, 0, 0), some (.invokevirtual 452, 3, 315, 0, 1983), none, none, some (.ireturn, 1, 0, 0, 0), some (.aload_n 0, 1, 0, 0, 0), some (.iload_n 1, 1, 0, 0, 0)], [some (.invokevirtual 458, 3, 317, 0, 1987), none, none, some (.ifCond .eq 7, 3, 0, 0, 0), none, none, some (.iconst 1, 1, 0, 0, 0), some (.goto 4, 3, 0, 0, 0), none, none, some (.iconst 0, 1, 0, 0, 0), some (.ireturn, 1, 0, 0, 0), some (.aload_n 0, 1, 0, 0, 0), some (.iload_n 1, 1, 0, 0, 0), some (.invokevirtual 461, 3, 318, 0, 1997), none, none, some (.ireturn, 1, 0, 0, 0), some (.iconst (-1), 1, 0, 0, 0), some (.ireturn, 1, 0, 0, 0)]]
def cd_320 : List (List (Option si_E)) := [[some (.iconst 0, 1, 0, 0, 0), some (.istore_n 1, 1, 0, 0, 0), some (.iconst 0, 1, 0, 0, 0), some (.istore_n 2, 1, 0, 0, 0), some (.iload_n 2, 1, 0, 0, 0), some (.aload_n 0, 1, 0, 0, 0), some (.getfield 181, 3, 11, 11, 1392), none, none, some (.if_icmp .ge 21, 3, 0, 0, 0), none, none, some (.aload_n 0, 1, 0, 0, 0), some (.iload_n 2, 1, 0, 0, 0), some (.invokevirtual 458, 3, 317, 0, 1987), none, none, some (.ifCond .eq 7, 3, 0, 0, 0), none, none, some (.iload_n 1, 1, 0, 0, 0), some (.iconst 1, 1, 0, 0, 0), some (.iadd, 1, 0, 0, 0), some (.istore_n 1, 1, 0, 0, 0), some (.iinc 2 1, 3, 0, 0, 0), none, none, some (.goto (-23), 3, 0, 0, 0), none, none, some (.iload_n 1, 1, 0, 0, 0), some (.ireturn, 1, 0, 0, 0)]]
def cd_321 : List (List (Option si_E)) := [[some (.iconst 0, 1, 0, 0, 0), some (.istore_n 1, 1, 0, 0, 0), some (.iconst 0, 1, 0, 0, 0), some (.istore_n 2, 1, 0, 0, 0), some (.iload_n 2, 1, 0, 0, 0), some (.aload_n 0, 1, 0, 0, 0), some (.getfield 181, 3, 11, 11, 1392), none, none, some (.if_icmp .ge 17, 3, 0, 0, 0), none, none, some (.iload_n 1, 1, 0, 0, 0), some (.aload_n 0, 1, 0, 0, 0), some (.iload_n 2, 1, 0, 0, 0), some (.invokevirtual 461, 3, 318, 0, 1997), none, none, some (.iadd, 1, 0, 0, 0), some (.istore_n 1, 1, 0, 0, 0), some (.iinc 2 1, 3, 0, 0, 0), none, none, some (.goto (-19), 3, 0, 0, 0), none, none, some (.iload_n 1, 1, 0, 0, 0), some (.ireturn, 1, 0, 0, 0)]]
def cd_322 : List (List (Option si_E)) := [[some (.iload_n 1, 1, 0, 0, 0), some (.ifCond .ne 10, 3, 0, 0, 0), none, none, some (.aload_n 0, 1, 0, 0, 0), some (.invokevirtual 464, 3, 320, 0, 2005), none, none, some (.goto 16, 3, 0, 0, 0), none, none, some (.iload_n 1, 1, 0, 0, 0), some (.iconst 1, 1, 0, 0, 0), some (.if_icmp .ne 10, 3, 0, 0, 0), none, none, some (.aload_n 0, 1, 0, 0, 0), some (.invokevirtual 467, 3, 321, 0, 2009), none, none, some (.goto 4, 3, 0, 0, 0), none, none, some (.iconst (-1), 1, 0, 0, 0), some (.ireturn, 1, 0, 0, 0)]]
def cd_323 : List (List (Option si_E)) := [[some (.iconst 0, 1, 0, 0, 0), some (.istore_n 3, 1, 0, 0, 0), some (.iload_n 3, 1, 0, 0, 0), some (.aload_n 0, 1, 0, 0, 0), some (.getfield 153, 3, 11, 9, 1390), none, none, some (.if_icmp .ge 14, 3, 0, 0, 0), none, none, some (.aload_n 2, 1, 0, 0, 0), some (.iload_n 3, 1, 0, 0, 0), some (.bipush (-2), 2, 0, 0, 0), none, some (.iastore, 1, 0, 0, 0), some (.iinc 3 1, 3, 0, 0, 0), none, none, some (.goto (-16), 3, 0, 0, 0), none, none, some (.aload_n 0, 1, 0, 0, 0), some (.getfield 153, 3, 11, 9, 1390), none, none, some (.iconst 1, 1, 0, 0, 0), some (.isub, 1, 0, 0, 0), some (.istore_n 3, 1, 0, 0, 0), some (.iload_n 3, 1, 0, 0, 0), some (.ifCond .lt 18, 3, 0, 0, 0), none, none], [some (.aload_n 2, 1, 0, 0, 0), some (.aload_n 0, 1, 0, 0, 0), some (.iload_n 1, 1, 0, 0, 0), some (.iload_n 3, 1, 0, 0, 0), some (.invokevirtual 421, 3, 298, 0, 1911), none, none, some (.iload_n 3, 1, 0, 0, 0), some (.iastore, 1, 0, 0, 0), some (.iinc 3 (-1), 3, 0, 0, 0), none, none, some (.goto (-16), 3, 0, 0, 0), none, none, some (.return_, 1, 0, 0, 0)]]
def cd_324 : List (List (Option si_E)) := [[some (.aload_n 0, 1, 0, 0, 0), some (.iload_n 1, 1, 0, 0, 0), some (.iload_n 2, 1, 0, 0, 0), some (.invokevirtual 430, 3, 213, 0, 1931), none, none, some (.ifCond .eq 23, 3, 0, 0, 0), none, none, some (.iload_n 3, 1, 0, 0, 0), some (.iconst 0, 1, 0, 0, 0), some (.bipush 99, 2, 0, 0, 0), none, some (.invokestatic 157, 3, 202, 0, 1584), none, none, some (.ifCond .eq 13, 3, 0, 0, 0), none, none, some (.iload 4, 2, 0, 0, 0), none, some (.iconst 0, 1, 0, 0, 0), some (.iconst 1, 1, 0, 0, 0), some (.invokestatic 157, 3, 202, 0, 1584), none, none, some (.ifCond .ne 5, 3, 0, 0, 0), none, none, some (.iconst (-1), 1, 0, 0, 0), some (.ireturn, 1, 0, 0, 0), some (.aload_n 0, 1, 0, 0, 0)], [some (.iload_n 1, 1, 0, 0, 0), some (.aload_n 0, 1, 0, 0, 0), some (.getfield 133, 3, 11, 59, 1440), none, none, some (.invokevirtual 470, 3, 323, 0, 2017), none, none, some (.aload_n 0, 1, 0, 0, 0), some (.iload_n 2, 1, 0, 0, 0), some (.aload_n 0, 1, 0, 0, 0), some (.getfield 136, 3, 11, 60, 1441), none, none, some (.invokevirtual 470, 3, 323, 0, 2017), none, none, some (.iconst 0, 1, 0, 0, 0), some (.istore 5, 2, 0, 0, 0), none, some (.bipush (-2), 2, 0, 0, 0), none, some (.istore 6, 2, 0, 0, 0), none, some (.aload_n 0, 1, 0, 0, 0), some (.getfield 153, 3, 11, 9, 1390), none, none, some (.iconst 1, 1, 0, 0, 0), some (.isub, 1, 0, 0, 0), some (.istore 7, 2, 0, 0, 0), none], [some (.iload 7, 2, 0, 0, 0), none, some (.ifCond .lt 43, 3, 0, 0, 0), none, none, some (.aload_n 0, 1, 0, 0, 0), some (.getfield 133, 3, 11, 59, 1440), none, none, some (.iload 7, 2, 0, 0, 0), none, some (.iaload, 1, 0, 0, 0), some (.aload_n 0, 1, 0, 0, 0), some (.getfield 136, 3, 11, 60, 1441), none, none, some (.iload 7, 2, 0, 0, 0), none, some (.iaload, 1, 0, 0, 0), some (.iload_n 3, 1, 0, 0, 0), some (.invokestatic 455, 3, 316, 0, 1991), none, none, some (.ifCond .ne 6, 3, 0, 0, 0), none, none, some (.goto 13, 3, 0, 0, 0), none, none, some (.iload 5, 2, 0, 0, 0), none, some (.iconst 1, 1, 0, 0, 0)], [some (.iadd, 1, 0, 0, 0), some (.istore 5, 2, 0, 0, 0), none, some (.iload 7, 2, 0, 0, 0), none, some (.istore 6, 2, 0, 0, 0), none, some (.iinc 7 (-1), 3, 0, 0, 0), none, none, some (.goto (-42), 3, 0, 0, 0), none, none, some (.iload 4, 2, 0, 0, 0), none, some (.ifCond .ne 8, 3, 0, 0, 0), none, none, some (.iload 5, 2, 0, 0, 0), none, some (.goto 5, 3, 0, 0, 0), none, none, some (.iload 6, 2, 0, 0, 0), none, some (.ireturn, 1, 0, 0, 0)]]
def cd_325 : List (List (Option si_E)) := [[some (.aload_n 0, 1, 0, 0, 0), some (.iload_n 1, 1, 0, 0, 0), some (.iload_n 2, 1, 0, 0, 0), some (.invokevirtual 430, 3, 213, 0, 1931), none, none, some (.ifCond .ne 5, 3, 0, 0, 0), none, none, some (.iconst 0, 1, 0, 0, 0), some (.ireturn, 1, 0, 0, 0), some (.aload_n 0, 1, 0, 0, 0), some (.getfield 7, 3, 11, 0, 1381), none, none, some (.iconst 0, 1, 0, 0, 0), some (.iload_n 1, 1, 0, 0, 0), some (.iadd, 1, 0, 0, 0), some (.aload_n 0, 1, 0, 0, 0), some (.getfield 7, 3, 11, 0, 1381), none, none, some (.iconst 0, 1, 0, 0, 0), some (.iload_n 2, 1, 0, 0, 0), some (.iadd, 1, 0, 0, 0), some (.iaload, 1, 0, 0, 0), some (.iastore, 1, 0, 0, 0), some (.aload_n 0, 1, 0, 0, 0), some (.iload_n 1, 1, 0, 0, 0), some (.invokevirtual 474, 3, 326, 0, 2025), none, none], [some (.iconst 1, 1, 0, 0, 0), some (.ireturn, 1, 0, 0, 0)]]
def cd_326 : List (List (Option si_E)) := [[some (.aload_n 0, 1, 0, 0, 0), some (.getfield 7, 3, 11, 0, 1381), none, none, some (.bipush 16, 2, 0, 0, 0), none, some (.iload_n 1, 1, 0, 0, 0), some (.iadd, 1, 0, 0, 0), some (.sipush 9999, 3, 0, 0, 0), none, none, some (.aload_n 0, 1, 0, 0, 0), some (.getfield 7, 3, 11, 0, 1381), none, none, some (.bipush 16, 2, 0, 0, 0), none, some (.iload_n 1, 1, 0, 0, 0), some (.iadd, 1, 0, 0, 0), some (.iaload, 1, 0, 0, 0), some (.iconst 1, 1, 0, 0, 0), some (.iadd, 1, 0, 0, 0), some (.invokestatic 150, 3, 203, 0, 1375), none, none, some (.iastore, 1, 0, 0, 0), some (.return_, 1, 0, 0, 0)]]
def cd_327 : List (List (Option si_E)) := [[some (.iconst 0, 1, 0, 0, 0), some (.istore_n 2, 1, 0, 0, 0), some (.iconst 0, 1, 0, 0, 0), some (.istore_n 3, 1, 0, 0, 0), some (.iload_n 3, 1, 0, 0, 0), some (.bipush 8, 2, 0, 0, 0), none, some (.if_icmp .ge 41, 3, 0, 0, 0), none, none, some (.aload_n 0, 1, 0, 0, 0), some (.iload_n 1, 1, 0, 0, 0), some (.iload_n 3, 1, 0, 0, 0), some (.invokevirtual 430, 3, 213, 0, 1931), none, none, some (.ifCond .eq 26, 3, 0, 0, 0), none, none, some (.aload_n 0, 1, 0, 0, 0), some (.getfield 7, 3, 11, 0, 1381), none, none, some (.iconst 0, 1, 0, 0, 0), some (.iload_n 3, 1, 0, 0, 0), some (.iadd, 1, 0, 0, 0), some (.iaload, 1, 0, 0, 0), some (.aload_n 0, 1, 0, 0, 0), some (.getfield 7, 3, 11, 0, 1381), none, none, some (.iconst 0, 1, 0, 0, 0)], [some (.iload_n 1, 1, 0, 0, 0), some (.iadd, 1, 0, 0, 0), some (.iaload, 1, 0, 0, 0), some (.if_icmp .ne 7, 3, 0, 0, 0), none, none, some (.iload_n 2, 1, 0, 0, 0), some (.iconst 1, 1, 0, 0, 0), some (.iadd, 1, 0, 0, 0), some (.istore_n 2, 1, 0, 0, 0), some (.iinc 3 1, 3, 0, 0, 0), none, none, some (.goto (-41), 3, 0, 0, 0), none, none, some (.iload_n 2, 1, 0, 0, 0), some (.ireturn, 1, 0, 0, 0)]]
def cd_328 : List (List (Option si_E)) := [[some (.aload_n 0, 1, 0, 0, 0), some (.getfield 7, 3, 11, 0, 1381), none, none, some (.bipush 25, 2, 0, 0, 0), none, some (.sipush 25173, 3, 0, 0, 0), none, none, some (.aload_n 0, 1, 0, 0, 0), some (.getfield 7, 3, 11, 0, 1381), none, none, some (.bipush 25, 2, 0, 0, 0), none, some (.iaload, 1, 0, 0, 0), some (.imul, 1, 0, 0, 0), some (.sipush 13849, 3, 0, 0, 0), none, none, some (.iadd, 1, 0, 0, 0), some (.ldc_w 477, 3, 65536, 0, 2049), none, none, some (.irem, 1, 0, 0, 0), some (.iastore, 1, 0, 0, 0), some (.aload_n 0, 1, 0, 0, 0), some (.getfield 80, 3, 11, 38, 1419), none, none, some (.iconst 0, 1, 0, 0, 0), some (.iload_n 1, 1, 0, 0, 0)], [some (.iastore, 1, 0, 0, 0), some (.aload_n 0, 1, 0, 0, 0), some (.getfield 80, 3, 11, 38, 1419), none, none, some (.iconst 1, 1, 0, 0, 0), some (.aload_n 0, 1, 0, 0, 0), some (.getfield 7, 3, 11, 0, 1381), none, none, some (.iconst 0, 1, 0, 0, 0), some (.iload_n 1, 1, 0, 0, 0), some (.iadd, 1, 0, 0, 0), some (.iaload, 1, 0, 0, 0), some (.iastore, 1, 0, 0, 0), some (.aload_n 0, 1, 0, 0, 0), some (.getfield 80, 3, 11, 38, 1419), none, none, some (.iconst 2, 1, 0, 0, 0), some (.aload_n 0, 1, 0, 0, 0), some (.getfield 7, 3, 11, 0, 1381), none, none, some (.bipush 8, 2, 0, 0, 0), none, some (.iload_n 1, 1, 0, 0, 0), some (.iadd, 1, 0, 0, 0), some (.iaload, 1, 0, 0, 0), some (.bipush 99, 2, 0, 0, 0), none, some (.iadd, 1, 0, 0, 0)], [some (.iastore, 1, 0, 0, 0), some (.aload_n 0, 1, 0, 0, 0), some (.getfield 80, 3, 11, 38, 1419), none, none, some (.iconst 3, 1, 0, 0, 0), some (.aload_n 0, 1, 0, 0, 0), some (.getfield 7, 3, 11, 0, 1381), none, none, some (.bipush 16, 2, 0, 0, 0), none, some (.iload_n 1, 1, 0, 0, 0), some (.iadd, 1, 0, 0, 0), some (.iaload, 1, 0, 0, 0), some (.iastore, 1, 0, 0, 0), some (.aload_n 0, 1, 0, 0, 0), some (.getfield 80, 3, 11, 38, 1419), none, none, some (.iconst 4, 1, 0, 0, 0), some (.aload_n 0, 1, 0, 0, 0), some (.iload_n 1, 1, 0, 0, 0), some (.invokevirtual 478, 3, 327, 0, 2050), none, none, some (.iastore, 1, 0, 0, 0), some (.aload_n 0, 1, 0, 0, 0), some (.getfield 80, 3, 11, 38, 1419), none, none, some (.iconst 5, 1, 0, 0, 0)], [some (.aload_n 0, 1, 0, 0, 0), some (.getfield 7, 3, 11, 0, 1381), none, none, some (.iconst 0, 1, 0, 0, 0), some (.iload_n 1, 1, 0, 0, 0), some (.iadd, 1, 0, 0, 0), some (.iaload, 1, 0, 0, 0), some (.iconst 0, 1, 0, 0, 0), some (.aload_n 0, 1, 0, 0, 0), some (.getfield 153, 3, 11, 9, 1390), none, none, some (.invokestatic 206, 3, 209, 0, 1607), none, none, some (.iastore, 1, 0, 0, 0), some (.aload_n 0, 1, 0, 0, 0), some (.getfield 80, 3, 11, 38, 1419), none, none, some (.bipush 6, 2, 0, 0, 0), none, some (.aload_n 0, 1, 0, 0, 0), some (.getfield 7, 3, 11, 0, 1381), none, none, some (.bipush 24, 2, 0, 0, 0), none, some (.iaload, 1, 0, 0, 0), some (.bipush 100, 2, 0, 0, 0), none], [some (.irem, 1, 0, 0, 0), some (.iastore, 1, 0, 0, 0), some (.aload_n 0, 1, 0, 0, 0), some (.getfield 80, 3, 11, 38, 1419), none, none, some (.bipush 7, 2, 0, 0, 0), none, some (.aload_n 0, 1, 0, 0, 0), some (.getfield 7, 3, 11, 0, 1381), none, none, some (.bipush 25, 2, 0, 0, 0), none, some (.iaload, 1, 0, 0, 0), some (.bipush 10, 2, 0, 0, 0), none, some (.irem, 1, 0, 0, 0), some (.iastore, 1, 0, 0, 0), some (.return_, 1, 0, 0, 0)]]
def cd_329 : List (List (Option si_E)) := [[some (.aload_n 0, 1, 0, 0, 0), some (.iload_n 1, 1, 0, 0, 0), some (.invokevirtual 481, 3, 328, 0, 2045), none, none, some (.aload_n 0, 1, 0, 0, 0), some (.bipush 115, 2, 0, 0, 0), none, some (.sipush 999, 3, 0, 0, 0), none, none, some (.invokevirtual 484, 3, 264, 0, 2054), none, none, some (.istore_n 2, 1, 0, 0, 0), some (.aload_n 0, 1, 0, 0, 0), some (.bipush 103, 2, 0, 0, 0), none, some (.bipush 20, 2, 0, 0, 0), none, some (.invokevirtual 484, 3, 264, 0, 2054), none, none, some (.istore_n 3, 1, 0, 0, 0), some (.aload_n 0, 1, 0, 0, 0), some (.bipush 108, 2, 0, 0, 0), none, some (.bipush 20, 2, 0, 0, 0), none, some (.invokevirtual 484, 3, 264, 0, 2054), none, none], [some (.istore 4, 2, 0, 0, 0), none, some (.aload_n 0, 1, 0, 0, 0), some (.bipush 120, 2, 0, 0, 0), none, some (.invokevirtual 487, 3, 265, 0, 2065), none, none, some (.istore 5, 2, 0, 0, 0), none, some (.aload_n 0, 1, 0, 0, 0), some (.getfield 7, 3, 11, 0, 1381), none, none, some (.iconst 0, 1, 0, 0, 0), some (.iload_n 1, 1, 0, 0, 0), some (.iadd, 1, 0, 0, 0), some (.aload_n 0, 1, 0, 0, 0), some (.getfield 7, 3, 11, 0, 1381), none, none, some (.iconst 0, 1, 0, 0, 0), some (.iload_n 1, 1, 0, 0, 0), some (.iadd, 1, 0, 0, 0), some (.iaload, 1, 0, 0, 0), some (.aload_n 0, 1, 0, 0, 0), some (.getfield 153, 3, 11, 9, 1390), none, none, some (.aload_n 0, 1, 0, 0, 0), some (.getfield 7, 3, 11, 0, 1381), none], [none, some (.bipush 8, 2, 0, 0, 0), none, some (.iload_n 1, 1, 0, 0, 0), some (.iadd, 1, 0, 0, 0), some (.iaload, 1, 0, 0, 0), some (.imul, 1, 0, 0, 0), some (.sipush 1000, 3, 0, 0, 0), none, none, some (.invokestatic 143, 3, 207, 0, 1613), none, none, some (.iadd, 1, 0, 0, 0), some (.iload_n 2, 1, 0, 0, 0), some (.isub, 1, 0, 0, 0), some (.aload_n 0, 1, 0, 0, 0), some (.getfield 153, 3, 11, 9, 1390), none, none, some (.invokestatic 147, 3, 208, 0, 1610), none, none, some (.iastore, 1, 0, 0, 0), some (.aload_n 0, 1, 0, 0, 0), some (.getfield 7, 3, 11, 0, 1381), none, none, some (.bipush 8, 2, 0, 0, 0), none, some (.iload_n 1, 1, 0, 0, 0), some (.iadd, 1, 0, 0, 0)], [some (.bipush (-99), 2, 0, 0, 0), none, some (.bipush 99, 2, 0, 0, 0), none, some (.aload_n 0, 1, 0, 0, 0), some (.getfield 7, 3, 11, 0, 1381), none, none, some (.bipush 8, 2, 0, 0, 0), none, some (.iload_n 1, 1, 0, 0, 0), some (.iadd, 1, 0, 0, 0), some (.iaload, 1, 0, 0, 0), some (.iload_n 3, 1, 0, 0, 0), some (.iadd, 1, 0, 0, 0), some (.iload 4, 2, 0, 0, 0), none, some (.isub, 1, 0, 0, 0), some (.invokestatic 150, 3, 203, 0, 1375), none, none, some (.invokestatic 172, 3, 204, 0, 1378), none, none, some (.iastore, 1, 0, 0, 0), some (.iload 5, 2, 0, 0, 0), none, some (.ifCond .ne 4, 3, 0, 0, 0), none, none, some (.return_, 1, 0, 0, 0), some (.aload_n 0, 1, 0, 0, 0)], [some (.getfield 7, 3, 11, 0, 1381), none, none, some (.iconst 0, 1, 0, 0, 0), some (.iload_n 1, 1, 0, 0, 0), some (.iadd, 1, 0, 0, 0), some (.iconst 0, 1, 0, 0, 0), some (.iastore, 1, 0, 0, 0), some (.aload_n 0, 1, 0, 0, 0), some (.iload_n 1, 1, 0, 0, 0), some (.invokevirtual 474, 3, 326, 0, 2025), none, none, some (.aload_n 0, 1, 0, 0, 0), some (.aload_n 0, 1, 0, 0, 0), some (.getfield 490, 3, 11, 61, 1442), none, none, some (.iconst 1, 1, 0, 0, 0), some (.iadd, 1, 0, 0, 0), some (.putfield 490, 3, 11, 61, 1442), none, none, some (.return_, 1, 0, 0, 0)]]
def cd_330 : List (List (Option si_E)) := [[some (.iconst 0, 1, 0, 0, 0), some (.istore_n 1, 1, 0, 0, 0), some (.iload_n 1, 1, 0, 0, 0), some (.bipush 8, 2, 0, 0, 0), none, some (.if_icmp .ge 22, 3, 0, 0, 0), none, none, some (.aload_n 0, 1, 0, 0, 0), some (.iload_n 1, 1, 0, 0, 0), some (.invokevirtual 168, 3, 212, 0, 1907), none, none, some (.ifCond .eq 8, 3, 0, 0, 0), none, none, some (.aload_n 0, 1, 0, 0, 0), some (.iload_n 1, 1, 0, 0, 0), some (.invokevirtual 493, 3, 329, 0, 2041), none, none, some (.iinc 1 1, 3, 0, 0, 0), none, none, some (.goto (-22), 3, 0, 0, 0), none, none, some (.aload_n 0, 1, 0, 0, 0), some (.getfield 7, 3, 11, 0, 1381), none, none, some (.bipush 24, 2, 0, 0, 0)], [none, some (.aload_n 0, 1, 0, 0, 0), some (.getfield 7, 3, 11, 0, 1381), none, none, some (.bipush 24, 2, 0, 0, 0), none, some (.iaload, 1, 0, 0, 0), some (.iconst 1, 1, 0, 0, 0), some (.iadd, 1, 0, 0, 0), some (.iastore, 1, 0, 0, 0), some (.return_, 1, 0, 0, 0)]]
def cd_331 : List (List (Option si_E)) := [[some (.aload_n 0, 1, 0, 0, 0), some (.iconst 0, 1, 0, 0, 0), some (.putfield 490, 3, 11, 61, 1442), none, none, some (.iconst 0, 1, 0, 0, 0), some (.istore_n 2, 1, 0, 0, 0), some (.iload_n 2, 1, 0, 0, 0), some (.iload_n 1, 1, 0, 0, 0), some (.if_icmp .ge 26, 3, 0, 0, 0), none, none, some (.aload_n 0, 1, 0, 0, 0), some (.getfield 7, 3, 11, 0, 1381), none, none, some (.bipush 24, 2, 0, 0, 0), none, some (.iaload, 1, 0, 0, 0), some (.sipush 9999, 3, 0, 0, 0), none, none, some (.if_icmp .ge 13, 3, 0, 0, 0), none, none, some (.aload_n 0, 1, 0, 0, 0), some (.invokevirtual 496, 3, 330, 0, 2037), none, none, some (.iinc 2 1, 3, 0, 0, 0), none, none], [some (.goto (-25), 3, 0, 0, 0), none, none, some (.return_, 1, 0, 0, 0)]]
def cd_332 : List (List (Option si_E)) := [[some (.iload_n 1, 1, 0, 0, 0), some (.iconst 1, 1, 0, 0, 0), some (.bipush 100, 2, 0, 0, 0), none, some (.invokestatic 157, 3, 202, 0, 1584), none, none, some (.ifCond .ne 5, 3, 0, 0, 0), none, none, some (.iconst (-1), 1, 0, 0, 0), some (.ireturn, 1, 0, 0, 0), some (.aload_n 0, 1, 0, 0, 0), some (.iload_n 1, 1, 0, 0, 0), some (.invokevirtual 499, 3, 331, 0, 2033), none, none, some (.aload_n 0, 1, 0, 0, 0), some (.getfield 490, 3, 11, 61, 1442), none, none, some (.ireturn, 1, 0, 0, 0)]]
def cd_333 : List (List (Option si_E)) := [[some (.iload_n 1, 1, 0, 0, 0), some (.iconst 1, 1, 0, 0, 0), some (.bipush 100, 2, 0, 0, 0), none, some (.invokestatic 157, 3, 202, 0, 1584), none, none, some (.ifCond .eq 34, 3, 0, 0, 0), none, none, some (.iload_n 2, 1, 0, 0, 0), some (.iconst 0, 1, 0, 0, 0), some (.iconst 1, 1, 0, 0, 0), some (.invokestatic 157, 3, 202, 0, 1584), none, none, some (.ifCond .ne 27, 3, 0, 0, 0), none, none, some (.aload_n 0, 1, 0, 0, 0), some (.iload_n 2, 1, 0, 0, 0), some (.bipush 10, 2, 0, 0, 0), none, some (.isub, 1, 0, 0, 0), some (.invokevirtual 168, 3, 212, 0, 1907), none, none, some (.ifCond .ne 16, 3, 0, 0, 0), none, none, some (.aload_n 0, 1, 0, 0, 0), some (.iload_n 2, 1, 0, 0, 0)], [some (.bipush 20, 2, 0, 0, 0), none, some (.isub, 1, 0, 0, 0), some (.invokevirtual 168, 3, 212, 0, 1907), none, none, some (.ifCond .ne 5, 3, 0, 0, 0), none, none, some (.iconst (-1), 1, 0, 0, 0), some (.ireturn, 1, 0, 0, 0), some (.aload_n 0, 1, 0, 0, 0), some (.getfield 7, 3, 11, 0, 1381), none, none, some (.aload_n 0, 1, 0, 0, 0), some (.getfield 13, 3, 11, 1, 1382), none, none, some (.invokestatic 502, 3, 210, 0, 2073), none, none, some (.aload_n 0, 1, 0, 0, 0), some (.iload_n 1, 1, 0, 0, 0), some (.invokevirtual 499, 3, 331, 0, 2033), none, none, some (.iload_n 2, 1, 0, 0, 0), some (.lookupswitch 44 #[(0, 28), (1, 36)], 28, 0, 0, 0), none, none, none], [none, none, none, none, none, none, none, none, none, none, none, none, none, none, none, none, none, none, none, none, none, none, none, none, some (.aload_n 0, 1, 0, 0, 0), some (.getfield 490, 3, 11, 61, 1442), none, none, some (.istore_n 3, 1, 0, 0, 0), some (.goto 47, 3, 0, 0, 0), none, none], [some (.aload_n 0, 1, 0, 0, 0), some (.invokevirtual 464, 3, 320, 0, 2005), none, none, some (.istore_n 3, 1, 0, 0, 0), some (.goto 39, 3, 0, 0, 0), none, none, some (.iload_n 2, 1, 0, 0, 0), some (.bipush 20, 2, 0, 0, 0), none, some (.if_icmp .ge 17, 3, 0, 0, 0), none, none, some (.aload_n 0, 1, 0, 0, 0), some (.getfield 7, 3, 11, 0, 1381), none, none, some (.iconst 0, 1, 0, 0, 0), some (.iload_n 2, 1, 0, 0, 0), some (.iadd, 1, 0, 0, 0), some (.bipush 10, 2, 0, 0, 0), none, some (.isub, 1, 0, 0, 0), some (.iaload, 1, 0, 0, 0), some (.goto 18, 3, 0, 0, 0), none, none, some (.aload_n 0, 1, 0, 0, 0), some (.getfield 7, 3, 11, 0, 1381), none, none], [some (.bipush 8, 2, 0, 0, 0), none, some (.iload_n 2, 1, 0, 0, 0), some (.iadd, 1, 0, 0, 0), some (.bipush 20, 2, 0, 0, 0), none, some (.isub, 1, 0, 0, 0), some (.iaload, 1, 0, 0, 0), some (.bipush 99, 2, 0, 0, 0), none, some (.iadd, 1, 0, 0, 0), some (.istore_n 3, 1, 0, 0, 0), some (.aload_n 0, 1, 0, 0, 0), some (.getfield 13, 3, 11, 1, 1382), none, none, some (.aload_n 0, 1, 0, 0, 0), some (.getfield 7, 3, 11, 0, 1381), none, none, some (.invokestatic 502, 3, 210, 0, 2073), none, none, some (.iload_n 3, 1, 0, 0, 0), some (.ireturn, 1, 0, 0, 0)]]
def cd_334 : List (List (Option si_E)) := [[some (.aload_n 0, 1, 0, 0, 0), some (.iload_n 1, 1, 0, 0, 0), some (.iload_n 2, 1, 0, 0, 0), some (.invokevirtual 430, 3, 213, 0, 1931), none, none, some (.ifCond .eq 13, 3, 0, 0, 0), none, none, some (.iload_n 3, 1, 0, 0, 0), some (.iconst 1, 1, 0, 0, 0), some (.bipush 100, 2, 0, 0, 0), none, some (.invokestatic 157, 3, 202, 0, 1584), none, none, some (.ifCond .ne 5, 3, 0, 0, 0), none, none, some (.iconst (-1), 1, 0, 0, 0), some (.ireturn, 1, 0, 0, 0), some (.aload_n 0, 1, 0, 0, 0), some (.getfield 7, 3, 11, 0, 1381), none, none, some (.aload_n 0, 1, 0, 0, 0), some (.getfield 13, 3, 11, 1, 1382), none, none, some (.invokestatic 502, 3, 210, 0, 2073), none, none], [some (.iconst 0, 1, 0, 0, 0), some (.istore 4, 2, 0, 0, 0), none, some (.aload_n 0, 1, 0, 0, 0), some (.getfield 7, 3, 11, 0, 1381), none, none, some (.iconst 0, 1, 0, 0, 0), some (.iload_n 1, 1, 0, 0, 0), some (.iadd, 1, 0, 0, 0), some (.iaload, 1, 0, 0, 0), some (.aload_n 0, 1, 0, 0, 0), some (.getfield 7, 3, 11, 0, 1381), none, none, some (.iconst 0, 1, 0, 0, 0), some (.iload_n 2, 1, 0, 0, 0), some (.iadd, 1, 0, 0, 0), some (.iaload, 1, 0, 0, 0), some (.if_icmp .eq 35, 3, 0, 0, 0), none, none, some (.iload 4, 2, 0, 0, 0), none, some (.iload_n 3, 1, 0, 0, 0), some (.if_icmp .ge 29, 3, 0, 0, 0), none, none, some (.aload_n 0, 1, 0, 0, 0), some (.getfield 7, 3, 11, 0, 1381), none, none], [some (.bipush 24, 2, 0, 0, 0), none, some (.iaload, 1, 0, 0, 0), some (.sipush 9999, 3, 0, 0, 0), none, none, some (.if_icmp .ge 16, 3, 0, 0, 0), none, none, some (.aload_n 0, 1, 0, 0, 0), some (.invokevirtual 496, 3, 330, 0, 2037), none, none, some (.iload 4, 2, 0, 0, 0), none, some (.iconst 1, 1, 0, 0, 0), some (.iadd, 1, 0, 0, 0), some (.istore 4, 2, 0, 0, 0), none, some (.goto (-48), 3, 0, 0, 0), none, none, some (.aload_n 0, 1, 0, 0, 0), some (.getfield 7, 3, 11, 0, 1381), none, none, some (.iconst 0, 1, 0, 0, 0), some (.iload_n 1, 1, 0, 0, 0), some (.iadd, 1, 0, 0, 0), some (.iaload, 1, 0, 0, 0), some (.aload_n 0, 1, 0, 0, 0), some (.getfield 7, 3, 11, 0, 1381)], [none, none, some (.iconst 0, 1, 0, 0, 0), some (.iload_n 2, 1, 0, 0, 0), some (.iadd, 1, 0, 0, 0), some (.iaload, 1, 0, 0, 0), some (.if_icmp .ne 7, 3, 0, 0, 0), none, none, some (.iconst 1, 1, 0, 0, 0), some (.goto 4, 3, 0, 0, 0), none, none, some (.iconst 0, 1, 0, 0, 0), some (.istore 5, 2, 0, 0, 0), none, some (.aload_n 0, 1, 0, 0, 0), some (.getfield 13, 3, 11, 1, 1382), none, none, some (.aload_n 0, 1, 0, 0, 0), some (.getfield 7, 3, 11, 0, 1381), none, none, some (.invokestatic 502, 3, 210, 0, 2073), none, none, some (.iload 5, 2, 0, 0, 0), none, some (.ifCond .eq 8, 3, 0, 0, 0), none, none], [some (.iload 4, 2, 0, 0, 0), none, some (.goto 5, 3, 0, 0, 0), none, none, some (.bipush (-2), 2, 0, 0, 0), none, some (.ireturn, 1, 0, 0, 0)]]
def cd_335 : List (List (Option si_E)) := [[some (.iload_n 1, 1, 0, 0, 0), some (.iconst 0, 1, 0, 0, 0), some (.ldc_w 506, 3, 65535, 0, 2084), none, none, some (.invokestatic 157, 3, 202, 0, 1584), none, none, some (.ifCond .ne 5, 3, 0, 0, 0), none, none, some (.iconst 0, 1, 0, 0, 0), some (.ireturn, 1, 0, 0, 0), some (.aload_n 0, 1, 0, 0, 0), some (.getfield 7, 3, 11, 0, 1381), none, none, some (.bipush 25, 2, 0, 0, 0), none, some (.iload_n 1, 1, 0, 0, 0), some (.iastore, 1, 0, 0, 0), some (.iconst 1, 1, 0, 0, 0), some (.ireturn, 1, 0, 0, 0)]]
def cd_336 : List (List (Option si_E)) := [[some (.aload_n 0, 1, 0, 0, 0), some (.iconst 1, 1, 0, 0, 0), some (.putfield 507, 3, 11, 62, 1443), none, none, some (.aload_n 0, 1, 0, 0, 0), some (.aload_n 0, 1, 0, 0, 0), some (.getfield 161, 3, 11, 10, 1391), none, none, some (.putfield 511, 3, 11, 63, 1444), none, none, some (.aload_n 0, 1, 0, 0, 0), some (.aload_n 0, 1, 0, 0, 0), some (.getfield 175, 3, 11, 7, 1388), none, none, some (.putfield 514, 3, 11, 64, 1445), none, none, some (.aload_n 0, 1, 0, 0, 0), some (.aload_n 0, 1, 0, 0, 0), some (.getfield 178, 3, 11, 8, 1389), none, none, some (.putfield 517, 3, 11, 65, 1446), none, none, some (.aload_n 0, 1, 0, 0, 0), some (.getfield 7, 3, 11, 0, 1381), none], [none, some (.aload_n 0, 1, 0, 0, 0), some (.getfield 16, 3, 11, 2, 1383), none, none, some (.invokestatic 502, 3, 210, 0, 2073), none, none, some (.aload_n 0, 1, 0, 0, 0), some (.getfield 7, 3, 11, 0, 1381), none, none, some (.bipush 24, 2, 0, 0, 0), none, some (.iaload, 1, 0, 0, 0), some (.ireturn, 1, 0, 0, 0)]]
def cd_337 : List (List (Option si_E)) := [[some (.aload_n 0, 1, 0, 0, 0), some (.getfield 507, 3, 11, 62, 1443), none, none, some (.ifCond .eq 25, 3, 0, 0, 0), none, none, some (.aload_n 0, 1, 0, 0, 0), some (.getfield 514, 3, 11, 64, 1445), none, none, some (.aload_n 0, 1, 0, 0, 0), some (.getfield 175, 3, 11, 7, 1388), none, none, some (.if_icmp .ne 14, 3, 0, 0, 0), none, none, some (.aload_n 0, 1, 0, 0, 0), some (.getfield 517, 3, 11, 65, 1446), none, none, some (.aload_n 0, 1, 0, 0, 0), some (.getfield 178, 3, 11, 8, 1389), none, none, some (.if_icmp .eq 5, 3, 0, 0, 0), none, none, some (.iconst 0, 1, 0, 0, 0), some (.ireturn, 1, 0, 0, 0), some (.iconst 0, 1, 0, 0, 0)], [some (.istore_n 1, 1, 0, 0, 0), some (.iload_n 1, 1, 0, 0, 0), some (.bipush 24, 2, 0, 0, 0), none, some (.if_icmp .ge 40, 3, 0, 0, 0), none, none, some (.aload_n 0, 1, 0, 0, 0), some (.getfield 161, 3, 11, 10, 1391), none, none, some (.aload_n 0, 1, 0, 0, 0), some (.getfield 511, 3, 11, 63, 1444), none, none, some (.iand, 1, 0, 0, 0), some (.iload_n 1, 1, 0, 0, 0), some (.bipush 8, 2, 0, 0, 0), none, some (.irem, 1, 0, 0, 0), some (.invokestatic 164, 3, 206, 0, 1775), none, none, some (.ifCond .eq 15, 3, 0, 0, 0), none, none, some (.aload_n 0, 1, 0, 0, 0), some (.getfield 7, 3, 11, 0, 1381), none, none, some (.iload_n 1, 1, 0, 0, 0), some (.aload_n 0, 1, 0, 0, 0)], [some (.getfield 16, 3, 11, 2, 1383), none, none, some (.iload_n 1, 1, 0, 0, 0), some (.iaload, 1, 0, 0, 0), some (.iastore, 1, 0, 0, 0), some (.iinc 1 1, 3, 0, 0, 0), none, none, some (.goto (-40), 3, 0, 0, 0), none, none, some (.aload_n 0, 1, 0, 0, 0), some (.getfield 7, 3, 11, 0, 1381), none, none, some (.bipush 24, 2, 0, 0, 0), none, some (.aload_n 0, 1, 0, 0, 0), some (.getfield 16, 3, 11, 2, 1383), none, none, some (.bipush 24, 2, 0, 0, 0), none, some (.iaload, 1, 0, 0, 0), some (.iastore, 1, 0, 0, 0), some (.aload_n 0, 1, 0, 0, 0), some (.getfield 7, 3, 11, 0, 1381), none, none, some (.bipush 25, 2, 0, 0, 0), none], [some (.aload_n 0, 1, 0, 0, 0), some (.getfield 16, 3, 11, 2, 1383), none, none, some (.bipush 25, 2, 0, 0, 0), none, some (.iaload, 1, 0, 0, 0), some (.iastore, 1, 0, 0, 0), some (.iconst 1, 1, 0, 0, 0), some (.ireturn, 1, 0, 0, 0)]]
def cd_338 : List (List (Option si_E)) := [[some (.iload_n 1, 1, 0, 0, 0), some (.iconst 0, 1, 0, 0, 0), some (.bipush 8, 2, 0, 0, 0), none, some (.invokestatic 157, 3, 202, 0, 1584), none, none, some (.ifCond .eq 11, 3, 0, 0, 0), none, none, some (.iload_n 1, 1, 0, 0, 0), some (.aload_n 0, 1, 0, 0, 0), some (.getfield 230, 3, 11, 16, 1397), none, none, some (.if_icmp .le 6, 3, 0, 0, 0), none, none, some (.bipush (-2), 2, 0, 0, 0), none, some (.ireturn, 1, 0, 0, 0), some (.aload_n 0, 1, 0, 0, 0), some (.iconst 0, 1, 0, 0, 0), some (.putfield 230, 3, 11, 16, 1397), none, none, some (.iconst 0, 1, 0, 0, 0), some (.istore_n 2, 1, 0, 0, 0), some (.iload_n 2, 1, 0, 0, 0), some (.iload_n 1, 1, 0, 0, 0), some (.if_icmp .ge 45, 3, 0, 0, 0), none], [none, some (.aload_n 0, 1, 0, 0, 0), some (.iload_n 2, 1, 0, 0, 0), some (.invokevirtual 357, 3, 239, 0, 1802), none, none, some (.aload_n 0, 1, 0, 0, 0), some (.iload_n 2, 1, 0, 0, 0), some (.invokevirtual 168, 3, 212, 0, 1907), none, none, some (.ifCond .eq 18, 3, 0, 0, 0), none, none, some (.aload_n 0, 1, 0, 0, 0), some (.getfield 7, 3, 11, 0, 1381), none, none, some (.iconst 0, 1, 0, 0, 0), some (.iload_n 2, 1, 0, 0, 0), some (.iadd, 1, 0, 0, 0), some (.iaload, 1, 0, 0, 0), some (.sipush 256, 3, 0, 0, 0), none, none, some (.irem, 1, 0, 0, 0), some (.goto 6, 3, 0, 0, 0), none, none, some (.sipush 255, 3, 0, 0, 0), none, none], [some (.if_icmp .eq 5, 3, 0, 0, 0), none, none, some (.iload_n 2, 1, 0, 0, 0), some (.ireturn, 1, 0, 0, 0), some (.iinc 2 1, 3, 0, 0, 0), none, none, some (.goto (-44), 3, 0, 0, 0), none, none, some (.iconst (-1), 1, 0, 0, 0), some (.ireturn, 1, 0, 0, 0)]]
def cd_339 : List (List (Option si_E)) := [[some (.iconst 0, 1, 0, 0, 0), some (.istore_n 1, 1, 0, 0, 0), some (.iconst 0, 1, 0, 0, 0), some (.istore_n 2, 1, 0, 0, 0), some (.iload_n 2, 1, 0, 0, 0), some (.bipush 8, 2, 0, 0, 0), none, some (.if_icmp .ge 29, 3, 0, 0, 0), none, none, some (.aload_n 0, 1, 0, 0, 0), some (.iload_n 2, 1, 0, 0, 0), some (.invokevirtual 168, 3, 212, 0, 1907), none, none, some (.ifCond .eq 15, 3, 0, 0, 0), none, none, some (.iload_n 1, 1, 0, 0, 0), some (.aload_n 0, 1, 0, 0, 0), some (.getfield 7, 3, 11, 0, 1381), none, none, some (.bipush 16, 2, 0, 0, 0), none, some (.iload_n 2, 1, 0, 0, 0), some (.iadd, 1, 0, 0, 0), some (.iaload, 1, 0, 0, 0), some (.iadd, 1, 0, 0, 0), some (.istore_n 1, 1, 0, 0, 0), some (.iinc 2 1, 3, 0, 0, 0), none], [none, some (.goto (-29), 3, 0, 0, 0), none, none, some (.iload_n 1, 1, 0, 0, 0), some (.ireturn, 1, 0, 0, 0)]]
def cd_340 : List (List (Option si_E)) := [[some (.iload_n 1, 1, 0, 0, 0), some (.tableswitch 102 0 8 #[51, 59, 64, 69, 74, 79, 84, 89, 97], 51, 0, 0, 0), none, none, none, none, none, none, none, none, none, none, none, none, none, none, none, none, none, none, none, none, none, none, none, none, none, none, none, none, none, none], [none, none, none, none, none, none, none, none, none, none, none, none, none, none, none, none, none, none, none, none, some (.aload_n 0, 1, 0, 0, 0), some (.getfield 7, 3, 11, 0, 1381), none, none, some (.bipush 24, 2, 0, 0, 0), none, some (.iaload, 1, 0, 0, 0), some (.ireturn, 1, 0, 0, 0), some (.aload_n 0, 1, 0, 0, 0), some (.getfield 161, 3, 11, 10, 1391), none, none], [some (.ireturn, 1, 0, 0, 0), some (.aload_n 0, 1, 0, 0, 0), some (.getfield 181, 3, 11, 11, 1392), none, none, some (.ireturn, 1, 0, 0, 0), some (.aload_n 0, 1, 0, 0, 0), some (.getfield 175, 3, 11, 7, 1388), none, none, some (.ireturn, 1, 0, 0, 0), some (.aload_n 0, 1, 0, 0, 0), some (.getfield 178, 3, 11, 8, 1389), none, none, some (.ireturn, 1, 0, 0, 0), some (.aload_n 0, 1, 0, 0, 0), some (.getfield 327, 3, 11, 25, 1406), none, none, some (.ireturn, 1, 0, 0, 0), some (.aload_n 0, 1, 0, 0, 0), some (.getfield 230, 3, 11, 16, 1397), none, none, some (.ireturn, 1, 0, 0, 0), some (.aload_n 0, 1, 0, 0, 0), some (.getfield 7, 3, 11, 0, 1381), none, none, some (.bipush 25, 2, 0, 0, 0), none], [some (.iaload, 1, 0, 0, 0), some (.ireturn, 1, 0, 0, 0), some (.aload_n 0, 1, 0, 0, 0), some (.invokevirtual 520, 3, 339, 0, 2101), none, none, some (.ireturn, 1, 0, 0, 0), some (.iconst (-1), 1, 0, 0, 0), some (.ireturn, 1, 0, 0, 0)]]
def cd_341 : List (List (Option si_E)) := [[some (.iload_n 0, 1, 0, 0, 0), some (.iload_n 1, 1, 0, 0, 0), some (.idiv, 1, 0, 0, 0), some (.istore_n 2, 1, 0, 0, 0), some (.iload_n 0, 1, 0, 0, 0), some (.iload_n 1, 1, 0, 0, 0), some (.ixor, 1, 0, 0, 0), some (.ifCond .ge 14, 3, 0, 0, 0), none, none, some (.iload_n 2, 1, 0, 0, 0), some (.iload_n 1, 1, 0, 0, 0), some (.imul, 1, 0, 0, 0), some (.iload_n 0, 1, 0, 0, 0), some (.if_icmp .eq 7, 3, 0, 0, 0), none, none, some (.iload_n 2, 1, 0, 0, 0), some (.iconst 1, 1, 0, 0, 0), some (.isub, 1, 0, 0, 0), some (.ireturn, 1, 0, 0, 0), some (.iload_n 2, 1, 0, 0, 0), some (.ireturn, 1, 0, 0, 0)]]
def cd_342 : List (List (Option si_E)) := [[some (.iload_n 0, 1, 0, 0, 0), some (.ifCond .ge 8, 3, 0, 0, 0), none, none, some (.iload_n 0, 1, 0, 0, 0), some (.ineg, 1, 0, 0, 0), some (.goto 4, 3, 0, 0, 0), none, none, some (.iload_n 0, 1, 0, 0, 0), some (.ireturn, 1, 0, 0, 0)]]
def cd_343 : List (List (Option si_E)) := [[some (.iload_n 0, 1, 0, 0, 0), some (.iload_n 1, 1, 0, 0, 0), some (.if_icmp .lt 7, 3, 0, 0, 0), none, none, some (.iload_n 0, 1, 0, 0, 0), some (.goto 4, 3, 0, 0, 0), none, none, some (.iload_n 1, 1, 0, 0, 0), some (.ireturn, 1, 0, 0, 0)]]
def cd_344 : List (List (Option si_E)) := [[some (.iload_n 0, 1, 0, 0, 0), some (.iload_n 1, 1, 0, 0, 0), some (.if_icmp .gt 7, 3, 0, 0, 0), none, none, some (.iload_n 0, 1, 0, 0, 0), some (.goto 4, 3, 0, 0, 0), none, none, some (.iload_n 1, 1, 0, 0, 0), some (.ireturn, 1, 0, 0, 0)]]
def cd_345 : List (List (Option si_E)) := [[some (.lload_n 0, 1, 0, 0, 0), some (.lload_n 2, 1, 0, 0, 0), some (.lcmp, 1, 0, 0, 0), some (.ifCond .gt 7, 3, 0, 0, 0), none, none, some (.lload_n 0, 1, 0, 0, 0), some (.goto 4, 3, 0, 0, 0), none, none, some (.lload_n 2, 1, 0, 0, 0), some (.lreturn, 1, 0, 0, 0)]]
def cd_346 : List (List (Option si_E)) := [[some (.new 7, 3, 10, 0, 135), none, none, some (.dup, 1, 0, 0, 0), some (.invokespecial 9, 3, 143, 0, 137), none, none, some (.astore_n 1, 1, 0, 0, 0), some (.new 10, 3, 11, 0, 1354), none, none, some (.dup, 1, 0, 0, 0), some (.invokespecial 12, 3, 201, 0, 1356), none, none, some (.astore_n 2, 1, 0, 0, 0), some (.iconst 0, 1, 0, 0, 0), some (.istore_n 3, 1, 0, 0, 0), some (.iload_n 3, 1, 0, 0, 0), some (.aload_n 0, 1, 0, 0, 0), some (.arraylength, 1, 0, 0, 0), some (.bipush 6, 2, 0, 0, 0), none, some (.isub, 1, 0, 0, 0), some (.if_icmp .gt 1710, 3, 0, 0, 0), none, none, some (.aload_n 0, 1, 0, 0, 0), some (.iload_n 3, 1, 0, 0, 0), some (.iaload, 1, 0, 0, 0), some (.bipush 63, 2, 0, 0, 0), none], [some (.iand, 1, 0, 0, 0), some (.tableswitch 1695 0 43 #[191, 224, 287, 310, 333, 356, 389, 412, 435, 468, 491, 514, 537, 560, 583, 636, 689, 728, 787, 846, 905, 944, 1003, 1046, 1079, 1112, 1181, 1214, 1237, 1270, 1303, 1336, 1359, 1412, 1445, 1478, 1501, 1524, 1557, 1600, 1623, 1636, 1649, 1672], 191, 0, 0, 0), none, none, none, none, none, none, none, none, none, none, none, none, none, none, none, none, none, none, none, none, none, none, none, none, none, none, none, none, none, none], [none, none, none, none, none, none, none, none, none, none, none, none, none, none, none, none, none, none, none, none, none, none, none, none, none, none, none, none, none, none, none, none], [none, none, none, none, none, none, none, none, none, none, none, none, none, none, none, none, none, none, none, none, none, none, none, none, none, none, none, none, none, none, none, none], [none, none, none, none, none, none, none, none, none, none, none, none, none, none, none, none, none, none, none, none, none, none, none, none, none, none, none, none, none, none, none, none], [none, none, none, none, none, none, none, none, none, none, none, none, none, none, none, none, none, none, none, none, none, none, none, none, none, none, none, none, none, none, none, none], [none, none, none, none, none, none, none, none, none, none, none, none, none, none, none, none, none, none, none, none, none, none, none, none, none, none, none, none, none, none, none, none], [some (.aload_n 1, 1, 0, 0, 0), some (.aload_n 0, 1, 0, 0, 0), some (.iload_n 3, 1, 0, 0, 0), some (.iconst 1, 1, 0, 0, 0), some (.iadd, 1, 0, 0, 0), some (.iaload, 1, 0, 0, 0), some (.aload_n 0, 1, 0, 0, 0), some (.iload_n 3, 1, 0, 0, 0), some (.iconst 2, 1, 0, 0, 0), some (.iadd, 1, 0, 0, 0), some (.iaload, 1, 0, 0, 0), some (.invokevirtual 13, 3, 144, 0, 438), none, none, some (.pop, 1, 0, 0, 0), some (.aload_n 2, 1, 0, 0, 0), some (.aload_n 0, 1, 0, 0, 0), some (.iload_n 3, 1, 0, 0, 0), some (.iconst 1, 1, 0, 0, 0), some (.iadd, 1, 0, 0, 0), some (.iaload, 1, 0, 0, 0), some (.aload_n 0, 1, 0, 0, 0), some (.iload_n 3, 1, 0, 0, 0), some (.iconst 2, 1, 0, 0, 0), some (.iadd, 1, 0, 0, 0), some (.iaload, 1, 0, 0, 0), some (.invokevirtual 17, 3, 218, 0, 1580), none, none, some (.pop, 1, 0, 0, 0), some (.goto 1474, 3, 0, 0, 0), none], [none, some (.aload_n 1, 1, 0, 0, 0), some (.aload_n 0, 1, 0, 0, 0), some (.iload_n 3, 1, 0, 0, 0), some (.iconst 1, 1, 0, 0, 0), some (.iadd, 1, 0, 0, 0), some (.iaload, 1, 0, 0, 0), some (.aload_n 0, 1, 0, 0, 0), some (.iload_n 3, 1, 0, 0, 0), some (.iconst 2, 1, 0, 0, 0), some (.iadd, 1, 0, 0, 0), some (.iaload, 1, 0, 0, 0), some (.aload_n 0, 1, 0, 0, 0), some (.iload_n 3, 1, 0, 0, 0), some (.iconst 3, 1, 0, 0, 0), some (.iadd, 1, 0, 0, 0), some (.iaload, 1, 0, 0, 0), some (.aload_n 0, 1, 0, 0, 0), some (.iload_n 3, 1, 0, 0, 0), some (.iconst 4, 1, 0, 0, 0), some (.iadd, 1, 0, 0, 0), some (.iaload, 1, 0, 0, 0), some (.aload_n 0, 1, 0, 0, 0), some (.iload_n 3, 1, 0, 0, 0), some (.iconst 5, 1, 0, 0, 0), some (.iadd, 1, 0, 0, 0), some (.iaload, 1, 0, 0, 0), some (.invokevirtual 18, 3, 145, 0, 457), none, none, some (.pop, 1, 0, 0, 0), some (.aload_n 2, 1, 0, 0, 0)], [some (.aload_n 0, 1, 0, 0, 0), some (.iload_n 3, 1, 0, 0, 0), some (.iconst 1, 1, 0, 0, 0), some (.iadd, 1, 0, 0, 0), some (.iaload, 1, 0, 0, 0), some (.aload_n 0, 1, 0, 0, 0), some (.iload_n 3, 1, 0, 0, 0), some (.iconst 2, 1, 0, 0, 0), some (.iadd, 1, 0, 0, 0), some (.iaload, 1, 0, 0, 0), some (.aload_n 0, 1, 0, 0, 0), some (.iload_n 3, 1, 0, 0, 0), some (.iconst 3, 1, 0, 0, 0), some (.iadd, 1, 0, 0, 0), some (.iaload, 1, 0, 0, 0), some (.aload_n 0, 1, 0, 0, 0), some (.iload_n 3, 1, 0, 0, 0), some (.iconst 4, 1, 0, 0, 0), some (.iadd, 1, 0, 0, 0), some (.iaload, 1, 0, 0, 0), some (.aload_n 0, 1, 0, 0, 0), some (.iload_n 3, 1, 0, 0, 0), some (.iconst 5, 1, 0, 0, 0), some (.iadd, 1, 0, 0, 0), some (.iaload, 1, 0, 0, 0), some (.invokevirtual 22, 3, 238, 0, 1672), none, none, some (.pop, 1, 0, 0, 0), some (.goto 1411, 3, 0, 0, 0), none, none], [some (.aload_n 1, 1, 0, 0, 0), some (.aload_n 0, 1, 0, 0, 0), some (.iload_n 3, 1, 0, 0, 0), some (.iconst 1, 1, 0, 0, 0), some (.iadd, 1, 0, 0, 0), some (.iaload, 1, 0, 0, 0), some (.invokevirtual 23, 3, 146, 0, 473), none, none, some (.pop, 1, 0, 0, 0), some (.aload_n 2, 1, 0, 0, 0), some (.aload_n 0, 1, 0, 0, 0), some (.iload_n 3, 1, 0, 0, 0), some (.iconst 1, 1, 0, 0, 0), some (.iadd, 1, 0, 0, 0), some (.iaload, 1, 0, 0, 0), some (.invokevirtual 27, 3, 261, 0, 1680), none, none, some (.pop, 1, 0, 0, 0), some (.goto 1388, 3, 0, 0, 0), none, none, some (.aload_n 1, 1, 0, 0, 0), some (.aload_n 0, 1, 0, 0, 0), some (.iload_n 3, 1, 0, 0, 0), some (.iconst 1, 1, 0, 0, 0), some (.iadd, 1, 0, 0, 0), some (.iaload, 1, 0, 0, 0), some (.invokevirtual 28, 3, 147, 0, 634), none, none], [some (.pop, 1, 0, 0, 0), some (.aload_n 2, 1, 0, 0, 0), some (.aload_n 0, 1, 0, 0, 0), some (.iload_n 3, 1, 0, 0, 0), some (.iconst 1, 1, 0, 0, 0), some (.iadd, 1, 0, 0, 0), some (.iaload, 1, 0, 0, 0), some (.invokevirtual 31, 3, 269, 0, 1767), none, none, some (.pop, 1, 0, 0, 0), some (.goto 1365, 3, 0, 0, 0), none, none, some (.aload_n 1, 1, 0, 0, 0), some (.aload_n 0, 1, 0, 0, 0), some (.iload_n 3, 1, 0, 0, 0), some (.iconst 1, 1, 0, 0, 0), some (.iadd, 1, 0, 0, 0), some (.iaload, 1, 0, 0, 0), some (.invokevirtual 32, 3, 148, 0, 679), none, none, some (.pop, 1, 0, 0, 0), some (.aload_n 2, 1, 0, 0, 0), some (.aload_n 0, 1, 0, 0, 0), some (.iload_n 3, 1, 0, 0, 0), some (.iconst 1, 1, 0, 0, 0), some (.iadd, 1, 0, 0, 0), some (.iaload, 1, 0, 0, 0), some (.invokevirtual 35, 3, 271, 0, 1786), none], [none, some (.pop, 1, 0, 0, 0), some (.goto 1342, 3, 0, 0, 0), none, none, some (.aload_n 1, 1, 0, 0, 0), some (.aload_n 0, 1, 0, 0, 0), some (.iload_n 3, 1, 0, 0, 0), some (.iconst 1, 1, 0, 0, 0), some (.iadd, 1, 0, 0, 0), some (.iaload, 1, 0, 0, 0), some (.aload_n 0, 1, 0, 0, 0), some (.iload_n 3, 1, 0, 0, 0), some (.iconst 2, 1, 0, 0, 0), some (.iadd, 1, 0, 0, 0), some (.iaload, 1, 0, 0, 0), some (.invokevirtual 36, 3, 149, 0, 700), none, none, some (.pop, 1, 0, 0, 0), some (.aload_n 2, 1, 0, 0, 0), some (.aload_n 0, 1, 0, 0, 0), some (.iload_n 3, 1, 0, 0, 0), some (.iconst 1, 1, 0, 0, 0), some (.iadd, 1, 0, 0, 0), some (.iaload, 1, 0, 0, 0), some (.aload_n 0, 1, 0, 0, 0), some (.iload_n 3, 1, 0, 0, 0), some (.iconst 2, 1, 0, 0, 0), some (.iadd, 1, 0, 0, 0), some (.iaload, 1, 0, 0, 0), some (.invokevirtual 40, 3, 222, 0, 1587)], [none, none, some (.pop, 1, 0, 0, 0), some (.goto 1309, 3, 0, 0, 0), none, none, some (.aload_n 1, 1, 0, 0, 0), some (.aload_n 0, 1, 0, 0, 0), some (.iload_n 3, 1, 0, 0, 0), some (.iconst 1, 1, 0, 0, 0), some (.iadd, 1, 0, 0, 0), some (.iaload, 1, 0, 0, 0), some (.invokevirtual 41, 3, 150, 0, 778), none, none, some (.pop, 1, 0, 0, 0), some (.aload_n 2, 1, 0, 0, 0), some (.aload_n 0, 1, 0, 0, 0), some (.iload_n 3, 1, 0, 0, 0), some (.iconst 1, 1, 0, 0, 0), some (.iadd, 1, 0, 0, 0), some (.iaload, 1, 0, 0, 0), some (.invokevirtual 44, 3, 223, 0, 1616), none, none, some (.pop, 1, 0, 0, 0), some (.goto 1286, 3, 0, 0, 0), none, none, some (.aload_n 1, 1, 0, 0, 0), some (.aload_n 0, 1, 0, 0, 0), some (.iload_n 3, 1, 0, 0, 0)], [some (.iconst 1, 1, 0, 0, 0), some (.iadd, 1, 0, 0, 0), some (.iaload, 1, 0, 0, 0), some (.invokevirtual 45, 3, 151, 0, 783), none, none, some (.pop, 1, 0, 0, 0), some (.aload_n 2, 1, 0, 0, 0), some (.aload_n 0, 1, 0, 0, 0), some (.iload_n 3, 1, 0, 0, 0), some (.iconst 1, 1, 0, 0, 0), some (.iadd, 1, 0, 0, 0), some (.iaload, 1, 0, 0, 0), some (.invokevirtual 48, 3, 224, 0, 1620), none, none, some (.pop, 1, 0, 0, 0), some (.goto 1263, 3, 0, 0, 0), none, none, some (.aload_n 1, 1, 0, 0, 0), some (.aload_n 0, 1, 0, 0, 0), some (.iload_n 3, 1, 0, 0, 0), some (.iconst 1, 1, 0, 0, 0), some (.iadd, 1, 0, 0, 0), some (.iaload, 1, 0, 0, 0), some (.aload_n 0, 1, 0, 0, 0), some (.iload_n 3, 1, 0, 0, 0), some (.iconst 2, 1, 0, 0, 0), some (.iadd, 1, 0, 0, 0), some (.iaload, 1, 0, 0, 0), some (.invokevirtual 49, 3, 152, 0, 803)], [none, none, some (.pop, 1, 0, 0, 0), some (.aload_n 2, 1, 0, 0, 0), some (.aload_n 0, 1, 0, 0, 0), some (.iload_n 3, 1, 0, 0, 0), some (.iconst 1, 1, 0, 0, 0), some (.iadd, 1, 0, 0, 0), some (.iaload, 1, 0, 0, 0), some (.aload_n 0, 1, 0, 0, 0), some (.iload_n 3, 1, 0, 0, 0), some (.iconst 2, 1, 0, 0, 0), some (.iadd, 1, 0, 0, 0), some (.iaload, 1, 0, 0, 0), some (.invokevirtual 52, 3, 228, 0, 1624), none, none, some (.pop, 1, 0, 0, 0), some (.goto 1230, 3, 0, 0, 0), none, none, some (.aload_n 1, 1, 0, 0, 0), some (.aload_n 0, 1, 0, 0, 0), some (.iload_n 3, 1, 0, 0, 0), some (.iconst 1, 1, 0, 0, 0), some (.iadd, 1, 0, 0, 0), some (.iaload, 1, 0, 0, 0), some (.invokevirtual 53, 3, 153, 0, 821), none, none, some (.pop, 1, 0, 0, 0), some (.aload_n 2, 1, 0, 0, 0)], [some (.aload_n 0, 1, 0, 0, 0), some (.iload_n 3, 1, 0, 0, 0), some (.iconst 1, 1, 0, 0, 0), some (.iadd, 1, 0, 0, 0), some (.iaload, 1, 0, 0, 0), some (.invokevirtual 56, 3, 231, 0, 1632), none, none, some (.pop, 1, 0, 0, 0), some (.goto 1207, 3, 0, 0, 0), none, none, some (.aload_n 1, 1, 0, 0, 0), some (.aload_n 0, 1, 0, 0, 0), some (.iload_n 3, 1, 0, 0, 0), some (.iconst 1, 1, 0, 0, 0), some (.iadd, 1, 0, 0, 0), some (.iaload, 1, 0, 0, 0), some (.invokevirtual 57, 3, 154, 0, 835), none, none, some (.pop, 1, 0, 0, 0), some (.aload_n 2, 1, 0, 0, 0), some (.aload_n 0, 1, 0, 0, 0), some (.iload_n 3, 1, 0, 0, 0), some (.iconst 1, 1, 0, 0, 0), some (.iadd, 1, 0, 0, 0), some (.iaload, 1, 0, 0, 0), some (.invokevirtual 60, 3, 232, 0, 1652), none, none, some (.pop, 1, 0, 0, 0)], [some (.goto 1184, 3, 0, 0, 0), none, none, some (.aload_n 1, 1, 0, 0, 0), some (.aload_n 0, 1, 0, 0, 0), some (.iload_n 3, 1, 0, 0, 0), some (.iconst 1, 1, 0, 0, 0), some (.iadd, 1, 0, 0, 0), some (.iaload, 1, 0, 0, 0), some (.invokevirtual 61, 3, 155, 0, 843), none, none, some (.pop, 1, 0, 0, 0), some (.aload_n 2, 1, 0, 0, 0), some (.aload_n 0, 1, 0, 0, 0), some (.iload_n 3, 1, 0, 0, 0), some (.iconst 1, 1, 0, 0, 0), some (.iadd, 1, 0, 0, 0), some (.iaload, 1, 0, 0, 0), some (.invokevirtual 64, 3, 234, 0, 1656), none, none, some (.pop, 1, 0, 0, 0), some (.goto 1161, 3, 0, 0, 0), none, none, some (.aload_n 1, 1, 0, 0, 0), some (.aload_n 0, 1, 0, 0, 0), some (.iload_n 3, 1, 0, 0, 0), some (.iconst 1, 1, 0, 0, 0), some (.iadd, 1, 0, 0, 0), some (.iaload, 1, 0, 0, 0)], [some (.invokevirtual 65, 3, 156, 0, 860), none, none, some (.pop, 1, 0, 0, 0), some (.aload_n 2, 1, 0, 0, 0), some (.aload_n 0, 1, 0, 0, 0), some (.iload_n 3, 1, 0, 0, 0), some (.iconst 1, 1, 0, 0, 0), some (.iadd, 1, 0, 0, 0), some (.iaload, 1, 0, 0, 0), some (.invokevirtual 68, 3, 235, 0, 1664), none, none, some (.pop, 1, 0, 0, 0), some (.goto 1138, 3, 0, 0, 0), none, none, some (.aload_n 1, 1, 0, 0, 0), some (.aload_n 0, 1, 0, 0, 0), some (.iload_n 3, 1, 0, 0, 0), some (.iconst 1, 1, 0, 0, 0), some (.iadd, 1, 0, 0, 0), some (.iaload, 1, 0, 0, 0), some (.invokevirtual 69, 3, 157, 0, 873), none, none, some (.pop, 1, 0, 0, 0), some (.aload_n 2, 1, 0, 0, 0), some (.aload_n 0, 1, 0, 0, 0), some (.iload_n 3, 1, 0, 0, 0), some (.iconst 1, 1, 0, 0, 0), some (.iadd, 1, 0, 0, 0)], [some (.iaload, 1, 0, 0, 0), some (.invokevirtual 72, 3, 236, 0, 1668), none, none, some (.pop, 1, 0, 0, 0), some (.goto 1115, 3, 0, 0, 0), none, none, some (.aload_n 1, 1, 0, 0, 0), some (.aload_n 0, 1, 0, 0, 0), some (.iload_n 3, 1, 0, 0, 0), some (.iconst 1, 1, 0, 0, 0), some (.iadd, 1, 0, 0, 0), some (.iaload, 1, 0, 0, 0), some (.aload_n 0, 1, 0, 0, 0), some (.iload_n 3, 1, 0, 0, 0), some (.iconst 2, 1, 0, 0, 0), some (.iadd, 1, 0, 0, 0), some (.iaload, 1, 0, 0, 0), some (.aload_n 0, 1, 0, 0, 0), some (.iload_n 3, 1, 0, 0, 0), some (.iconst 3, 1, 0, 0, 0), some (.iadd, 1, 0, 0, 0), some (.iaload, 1, 0, 0, 0), some (.aload_n 0, 1, 0, 0, 0), some (.iload_n 3, 1, 0, 0, 0), some (.iconst 4, 1, 0, 0, 0), some (.iadd, 1, 0, 0, 0), some (.iaload, 1, 0, 0, 0), some (.invokevirtual 73, 3, 158, 0, 877), none, none], [some (.pop, 1, 0, 0, 0), some (.aload_n 2, 1, 0, 0, 0), some (.aload_n 0, 1, 0, 0, 0), some (.iload_n 3, 1, 0, 0, 0), some (.iconst 1, 1, 0, 0, 0), some (.iadd, 1, 0, 0, 0), some (.iaload, 1, 0, 0, 0), some (.aload_n 0, 1, 0, 0, 0), some (.iload_n 3, 1, 0, 0, 0), some (.iconst 2, 1, 0, 0, 0), some (.iadd, 1, 0, 0, 0), some (.iaload, 1, 0, 0, 0), some (.aload_n 0, 1, 0, 0, 0), some (.iload_n 3, 1, 0, 0, 0), some (.iconst 3, 1, 0, 0, 0), some (.iadd, 1, 0, 0, 0), some (.iaload, 1, 0, 0, 0), some (.aload_n 0, 1, 0, 0, 0), some (.iload_n 3, 1, 0, 0, 0), some (.iconst 4, 1, 0, 0, 0), some (.iadd, 1, 0, 0, 0), some (.iaload, 1, 0, 0, 0), some (.invokevirtual 77, 3, 281, 0, 1794), none, none, some (.pop, 1, 0, 0, 0), some (.goto 1062, 3, 0, 0, 0), none, none, some (.aload_n 1, 1, 0, 0, 0), some (.aload_n 0, 1, 0, 0, 0), some (.iload_n 3, 1, 0, 0, 0)], [some (.iconst 1, 1, 0, 0, 0), some (.iadd, 1, 0, 0, 0), some (.iaload, 1, 0, 0, 0), some (.aload_n 0, 1, 0, 0, 0), some (.iload_n 3, 1, 0, 0, 0), some (.iconst 2, 1, 0, 0, 0), some (.iadd, 1, 0, 0, 0), some (.iaload, 1, 0, 0, 0), some (.aload_n 0, 1, 0, 0, 0), some (.iload_n 3, 1, 0, 0, 0), some (.iconst 3, 1, 0, 0, 0), some (.iadd, 1, 0, 0, 0), some (.iaload, 1, 0, 0, 0), some (.aload_n 0, 1, 0, 0, 0), some (.iload_n 3, 1, 0, 0, 0), some (.iconst 4, 1, 0, 0, 0), some (.iadd, 1, 0, 0, 0), some (.iaload, 1, 0, 0, 0), some (.invokevirtual 78, 3, 159, 0, 919), none, none, some (.pop, 1, 0, 0, 0), some (.aload_n 2, 1, 0, 0, 0), some (.aload_n 0, 1, 0, 0, 0), some (.iload_n 3, 1, 0, 0, 0), some (.iconst 1, 1, 0, 0, 0), some (.iadd, 1, 0, 0, 0), some (.iaload, 1, 0, 0, 0), some (.aload_n 0, 1, 0, 0, 0), some (.iload_n 3, 1, 0, 0, 0), some (.iconst 2, 1, 0, 0, 0), some (.iadd, 1, 0, 0, 0)], [some (.iaload, 1, 0, 0, 0), some (.aload_n 0, 1, 0, 0, 0), some (.iload_n 3, 1, 0, 0, 0), some (.iconst 3, 1, 0, 0, 0), some (.iadd, 1, 0, 0, 0), some (.iaload, 1, 0, 0, 0), some (.aload_n 0, 1, 0, 0, 0), some (.iload_n 3, 1, 0, 0, 0), some (.iconst 4, 1, 0, 0, 0), some (.iadd, 1, 0, 0, 0), some (.iaload, 1, 0, 0, 0), some (.invokevirtual 81, 3, 286, 0, 1839), none, none, some (.pop, 1, 0, 0, 0), some (.goto 1009, 3, 0, 0, 0), none, none, some (.aload_n 1, 1, 0, 0, 0), some (.aload_n 0, 1, 0, 0, 0), some (.iload_n 3, 1, 0, 0, 0), some (.iconst 1, 1, 0, 0, 0), some (.iadd, 1, 0, 0, 0), some (.iaload, 1, 0, 0, 0), some (.ifCond .eq 7, 3, 0, 0, 0), none, none, some (.iconst 1, 1, 0, 0, 0), some (.goto 4, 3, 0, 0, 0), none, none, some (.iconst 0, 1, 0, 0, 0)], [some (.invokevirtual 82, 3, 160, 0, 950), none, none, some (.pop, 1, 0, 0, 0), some (.aload_n 2, 1, 0, 0, 0), some (.aload_n 0, 1, 0, 0, 0), some (.iload_n 3, 1, 0, 0, 0), some (.iconst 1, 1, 0, 0, 0), some (.iadd, 1, 0, 0, 0), some (.iaload, 1, 0, 0, 0), some (.ifCond .eq 7, 3, 0, 0, 0), none, none, some (.iconst 1, 1, 0, 0, 0), some (.goto 4, 3, 0, 0, 0), none, none, some (.iconst 0, 1, 0, 0, 0), some (.invokevirtual 86, 3, 290, 0, 1866), none, none, some (.pop, 1, 0, 0, 0), some (.goto 970, 3, 0, 0, 0), none, none, some (.aload_n 1, 1, 0, 0, 0), some (.aload_n 0, 1, 0, 0, 0), some (.iload_n 3, 1, 0, 0, 0), some (.iconst 1, 1, 0, 0, 0), some (.iadd, 1, 0, 0, 0), some (.iaload, 1, 0, 0, 0), some (.aload_n 0, 1, 0, 0, 0)], [some (.iload_n 3, 1, 0, 0, 0), some (.iconst 2, 1, 0, 0, 0), some (.iadd, 1, 0, 0, 0), some (.iaload, 1, 0, 0, 0), some (.aload_n 0, 1, 0, 0, 0), some (.iload_n 3, 1, 0, 0, 0), some (.iconst 3, 1, 0, 0, 0), some (.iadd, 1, 0, 0, 0), some (.iaload, 1, 0, 0, 0), some (.ifCond .eq 7, 3, 0, 0, 0), none, none, some (.iconst 1, 1, 0, 0, 0), some (.goto 4, 3, 0, 0, 0), none, none, some (.iconst 0, 1, 0, 0, 0), some (.invokevirtual 87, 3, 161, 0, 969), none, none, some (.pop, 1, 0, 0, 0), some (.aload_n 2, 1, 0, 0, 0), some (.aload_n 0, 1, 0, 0, 0), some (.iload_n 3, 1, 0, 0, 0), some (.iconst 1, 1, 0, 0, 0), some (.iadd, 1, 0, 0, 0), some (.iaload, 1, 0, 0, 0), some (.aload_n 0, 1, 0, 0, 0), some (.iload_n 3, 1, 0, 0, 0), some (.iconst 2, 1, 0, 0, 0), some (.iadd, 1, 0, 0, 0), some (.iaload, 1, 0, 0, 0)], [some (.aload_n 0, 1, 0, 0, 0), some (.iload_n 3, 1, 0, 0, 0), some (.iconst 3, 1, 0, 0, 0), some (.iadd, 1, 0, 0, 0), some (.iaload, 1, 0, 0, 0), some (.ifCond .eq 7, 3, 0, 0, 0), none, none, some (.iconst 1, 1, 0, 0, 0), some (.goto 4, 3, 0, 0, 0), none, none, some (.iconst 0, 1, 0, 0, 0), some (.invokevirtual 91, 3, 291, 0, 1874), none, none, some (.pop, 1, 0, 0, 0), some (.goto 911, 3, 0, 0, 0), none, none, some (.aload_n 1, 1, 0, 0, 0), some (.aload_n 0, 1, 0, 0, 0), some (.iload_n 3, 1, 0, 0, 0), some (.iconst 1, 1, 0, 0, 0), some (.iadd, 1, 0, 0, 0), some (.iaload, 1, 0, 0, 0), some (.aload_n 0, 1, 0, 0, 0), some (.iload_n 3, 1, 0, 0, 0), some (.iconst 2, 1, 0, 0, 0), some (.iadd, 1, 0, 0, 0), some (.iaload, 1, 0, 0, 0), some (.aload_n 0, 1, 0, 0, 0)], [some (.iload_n 3, 1, 0, 0, 0), some (.iconst 3, 1, 0, 0, 0), some (.iadd, 1, 0, 0, 0), some (.iaload, 1, 0, 0, 0), some (.ifCond .eq 7, 3, 0, 0, 0), none, none, some (.iconst 1, 1, 0, 0, 0), some (.goto 4, 3, 0, 0, 0), none, none, some (.iconst 0, 1, 0, 0, 0), some (.invokevirtual 92, 3, 162, 0, 987), none, none, some (.pop, 1, 0, 0, 0), some (.aload_n 2, 1, 0, 0, 0), some (.aload_n 0, 1, 0, 0, 0), some (.iload_n 3, 1, 0, 0, 0), some (.iconst 1, 1, 0, 0, 0), some (.iadd, 1, 0, 0, 0), some (.iaload, 1, 0, 0, 0), some (.aload_n 0, 1, 0, 0, 0), some (.iload_n 3, 1, 0, 0, 0), some (.iconst 2, 1, 0, 0, 0), some (.iadd, 1, 0, 0, 0), some (.iaload, 1, 0, 0, 0), some (.aload_n 0, 1, 0, 0, 0), some (.iload_n 3, 1, 0, 0, 0), some (.iconst 3, 1, 0, 0, 0), some (.iadd, 1, 0, 0, 0), some (.iaload, 1, 0, 0, 0)], [some (.ifCond .eq 7, 3, 0, 0, 0), none, none, some (.iconst 1, 1, 0, 0, 0), some (.goto 4, 3, 0, 0, 0), none, none, some (.iconst 0, 1, 0, 0, 0), some (.invokevirtual 95, 3, 288, 0, 1858), none, none, some (.pop, 1, 0, 0, 0), some (.goto 852, 3, 0, 0, 0), none, none, some (.aload_n 1, 1, 0, 0, 0), some (.aload_n 0, 1, 0, 0, 0), some (.iload_n 3, 1, 0, 0, 0), some (.iconst 1, 1, 0, 0, 0), some (.iadd, 1, 0, 0, 0), some (.iaload, 1, 0, 0, 0), some (.aload_n 0, 1, 0, 0, 0), some (.iload_n 3, 1, 0, 0, 0), some (.iconst 2, 1, 0, 0, 0), some (.iadd, 1, 0, 0, 0), some (.iaload, 1, 0, 0, 0), some (.ifCond .eq 7, 3, 0, 0, 0), none, none, some (.iconst 1, 1, 0, 0, 0), some (.goto 4, 3, 0, 0, 0), none], [none, some (.iconst 0, 1, 0, 0, 0), some (.aload_n 0, 1, 0, 0, 0), some (.iload_n 3, 1, 0, 0, 0), some (.iconst 3, 1, 0, 0, 0), some (.iadd, 1, 0, 0, 0), some (.iaload, 1, 0, 0, 0), some (.invokevirtual 96, 3, 163, 0, 992), none, none, some (.pop, 1, 0, 0, 0), some (.aload_n 2, 1, 0, 0, 0), some (.aload_n 0, 1, 0, 0, 0), some (.iload_n 3, 1, 0, 0, 0), some (.iconst 1, 1, 0, 0, 0), some (.iadd, 1, 0, 0, 0), some (.iaload, 1, 0, 0, 0), some (.aload_n 0, 1, 0, 0, 0), some (.iload_n 3, 1, 0, 0, 0), some (.iconst 2, 1, 0, 0, 0), some (.iadd, 1, 0, 0, 0), some (.iaload, 1, 0, 0, 0), some (.ifCond .eq 7, 3, 0, 0, 0), none, none, some (.iconst 1, 1, 0, 0, 0), some (.goto 4, 3, 0, 0, 0), none, none, some (.iconst 0, 1, 0, 0, 0), some (.aload_n 0, 1, 0, 0, 0), some (.iload_n 3, 1, 0, 0, 0)], [some (.iconst 3, 1, 0, 0, 0), some (.iadd, 1, 0, 0, 0), some (.iaload, 1, 0, 0, 0), some (.invokevirtual 100, 3, 293, 0, 1878), none, none, some (.pop, 1, 0, 0, 0), some (.goto 793, 3, 0, 0, 0), none, none, some (.aload_n 1, 1, 0, 0, 0), some (.aload_n 0, 1, 0, 0, 0), some (.iload_n 3, 1, 0, 0, 0), some (.iconst 1, 1, 0, 0, 0), some (.iadd, 1, 0, 0, 0), some (.iaload, 1, 0, 0, 0), some (.ifCond .eq 7, 3, 0, 0, 0), none, none, some (.iconst 1, 1, 0, 0, 0), some (.goto 4, 3, 0, 0, 0), none, none, some (.iconst 0, 1, 0, 0, 0), some (.invokevirtual 101, 3, 164, 0, 1022), none, none, some (.pop, 1, 0, 0, 0), some (.aload_n 2, 1, 0, 0, 0), some (.aload_n 0, 1, 0, 0, 0), some (.iload_n 3, 1, 0, 0, 0), some (.iconst 1, 1, 0, 0, 0)], [some (.iadd, 1, 0, 0, 0), some (.iaload, 1, 0, 0, 0), some (.ifCond .eq 7, 3, 0, 0, 0), none, none, some (.iconst 1, 1, 0, 0, 0), some (.goto 4, 3, 0, 0, 0), none, none, some (.iconst 0, 1, 0, 0, 0), some (.invokevirtual 104, 3, 295, 0, 1886), none, none, some (.pop, 1, 0, 0, 0), some (.goto 754, 3, 0, 0, 0), none, none, some (.aload_n 1, 1, 0, 0, 0), some (.aload_n 0, 1, 0, 0, 0), some (.iload_n 3, 1, 0, 0, 0), some (.iconst 1, 1, 0, 0, 0), some (.iadd, 1, 0, 0, 0), some (.iaload, 1, 0, 0, 0), some (.aload_n 0, 1, 0, 0, 0), some (.iload_n 3, 1, 0, 0, 0), some (.iconst 2, 1, 0, 0, 0), some (.iadd, 1, 0, 0, 0), some (.iaload, 1, 0, 0, 0), some (.ifCond .eq 7, 3, 0, 0, 0), none, none, some (.iconst 1, 1, 0, 0, 0)], [some (.goto 4, 3, 0, 0, 0), none, none, some (.iconst 0, 1, 0, 0, 0), some (.aload_n 0, 1, 0, 0, 0), some (.iload_n 3, 1, 0, 0, 0), some (.iconst 3, 1, 0, 0, 0), some (.iadd, 1, 0, 0, 0), some (.iaload, 1, 0, 0, 0), some (.invokevirtual 105, 3, 165, 0, 1038), none, none, some (.pop, 1, 0, 0, 0), some (.aload_n 2, 1, 0, 0, 0), some (.aload_n 0, 1, 0, 0, 0), some (.iload_n 3, 1, 0, 0, 0), some (.iconst 1, 1, 0, 0, 0), some (.iadd, 1, 0, 0, 0), some (.iaload, 1, 0, 0, 0), some (.aload_n 0, 1, 0, 0, 0), some (.iload_n 3, 1, 0, 0, 0), some (.iconst 2, 1, 0, 0, 0), some (.iadd, 1, 0, 0, 0), some (.iaload, 1, 0, 0, 0), some (.ifCond .eq 7, 3, 0, 0, 0), none, none, some (.iconst 1, 1, 0, 0, 0), some (.goto 4, 3, 0, 0, 0), none, none, some (.iconst 0, 1, 0, 0, 0)], [some (.aload_n 0, 1, 0, 0, 0), some (.iload_n 3, 1, 0, 0, 0), some (.iconst 3, 1, 0, 0, 0), some (.iadd, 1, 0, 0, 0), some (.iaload, 1, 0, 0, 0), some (.invokevirtual 108, 3, 296, 0, 1894), none, none, some (.pop, 1, 0, 0, 0), some (.goto 695, 3, 0, 0, 0), none, none, some (.aload_n 1, 1, 0, 0, 0), some (.aload_n 0, 1, 0, 0, 0), some (.iload_n 3, 1, 0, 0, 0), some (.iconst 1, 1, 0, 0, 0), some (.iadd, 1, 0, 0, 0), some (.iaload, 1, 0, 0, 0), some (.aload_n 0, 1, 0, 0, 0), some (.iload_n 3, 1, 0, 0, 0), some (.iconst 2, 1, 0, 0, 0), some (.iadd, 1, 0, 0, 0), some (.iaload, 1, 0, 0, 0), some (.aload_n 0, 1, 0, 0, 0), some (.iload_n 3, 1, 0, 0, 0), some (.iconst 3, 1, 0, 0, 0), some (.iadd, 1, 0, 0, 0), some (.iaload, 1, 0, 0, 0), some (.invokevirtual 109, 3, 166, 0, 1050), none, none, some (.pop, 1, 0, 0, 0)], [some (.aload_n 2, 1, 0, 0, 0), some (.aload_n 0, 1, 0, 0, 0), some (.iload_n 3, 1, 0, 0, 0), some (.iconst 1, 1, 0, 0, 0), some (.iadd, 1, 0, 0, 0), some (.iaload, 1, 0, 0, 0), some (.aload_n 0, 1, 0, 0, 0), some (.iload_n 3, 1, 0, 0, 0), some (.iconst 2, 1, 0, 0, 0), some (.iadd, 1, 0, 0, 0), some (.iaload, 1, 0, 0, 0), some (.aload_n 0, 1, 0, 0, 0), some (.iload_n 3, 1, 0, 0, 0), some (.iconst 3, 1, 0, 0, 0), some (.iadd, 1, 0, 0, 0), some (.iaload, 1, 0, 0, 0), some (.invokevirtual 113, 3, 297, 0, 1898), none, none, some (.pop, 1, 0, 0, 0), some (.goto 652, 3, 0, 0, 0), none, none, some (.aload_n 1, 1, 0, 0, 0), some (.aload_n 0, 1, 0, 0, 0), some (.iload_n 3, 1, 0, 0, 0), some (.iconst 1, 1, 0, 0, 0), some (.iadd, 1, 0, 0, 0), some (.iaload, 1, 0, 0, 0), some (.aload_n 0, 1, 0, 0, 0), some (.iload_n 3, 1, 0, 0, 0), some (.iconst 2, 1, 0, 0, 0)], [some (.iadd, 1, 0, 0, 0), some (.iaload, 1, 0, 0, 0), some (.invokevirtual 114, 3, 167, 0, 1060), none, none, some (.pop, 1, 0, 0, 0), some (.aload_n 2, 1, 0, 0, 0), some (.aload_n 0, 1, 0, 0, 0), some (.iload_n 3, 1, 0, 0, 0), some (.iconst 1, 1, 0, 0, 0), some (.iadd, 1, 0, 0, 0), some (.iaload, 1, 0, 0, 0), some (.aload_n 0, 1, 0, 0, 0), some (.iload_n 3, 1, 0, 0, 0), some (.iconst 2, 1, 0, 0, 0), some (.iadd, 1, 0, 0, 0), some (.iaload, 1, 0, 0, 0), some (.invokevirtual 117, 3, 299, 0, 1903), none, none, some (.pop, 1, 0, 0, 0), some (.goto 619, 3, 0, 0, 0), none, none, some (.aload_n 1, 1, 0, 0, 0), some (.aload_n 0, 1, 0, 0, 0), some (.iload_n 3, 1, 0, 0, 0), some (.iconst 1, 1, 0, 0, 0), some (.iadd, 1, 0, 0, 0), some (.iaload, 1, 0, 0, 0), some (.aload_n 0, 1, 0, 0, 0), some (.iload_n 3, 1, 0, 0, 0)], [some (.iconst 2, 1, 0, 0, 0), some (.iadd, 1, 0, 0, 0), some (.iaload, 1, 0, 0, 0), some (.invokevirtual 118, 3, 168, 0, 1073), none, none, some (.pop, 1, 0, 0, 0), some (.aload_n 2, 1, 0, 0, 0), some (.aload_n 0, 1, 0, 0, 0), some (.iload_n 3, 1, 0, 0, 0), some (.iconst 1, 1, 0, 0, 0), some (.iadd, 1, 0, 0, 0), some (.iaload, 1, 0, 0, 0), some (.aload_n 0, 1, 0, 0, 0), some (.iload_n 3, 1, 0, 0, 0), some (.iconst 2, 1, 0, 0, 0), some (.iadd, 1, 0, 0, 0), some (.iaload, 1, 0, 0, 0), some (.invokevirtual 121, 3, 302, 0, 1915), none, none, some (.pop, 1, 0, 0, 0), some (.goto 586, 3, 0, 0, 0), none, none, some (.aload_n 1, 1, 0, 0, 0), some (.aload_n 0, 1, 0, 0, 0), some (.iload_n 3, 1, 0, 0, 0), some (.iconst 1, 1, 0, 0, 0), some (.iadd, 1, 0, 0, 0), some (.iaload, 1, 0, 0, 0), some (.aload_n 0, 1, 0, 0, 0)], [some (.iload_n 3, 1, 0, 0, 0), some (.iconst 2, 1, 0, 0, 0), some (.iadd, 1, 0, 0, 0), some (.iaload, 1, 0, 0, 0), some (.aload_n 0, 1, 0, 0, 0), some (.iload_n 3, 1, 0, 0, 0), some (.iconst 3, 1, 0, 0, 0), some (.iadd, 1, 0, 0, 0), some (.iaload, 1, 0, 0, 0), some (.ifCond .eq 7, 3, 0, 0, 0), none, none, some (.iconst 1, 1, 0, 0, 0), some (.goto 4, 3, 0, 0, 0), none, none, some (.iconst 0, 1, 0, 0, 0), some (.aload_n 0, 1, 0, 0, 0), some (.iload_n 3, 1, 0, 0, 0), some (.iconst 4, 1, 0, 0, 0), some (.iadd, 1, 0, 0, 0), some (.iaload, 1, 0, 0, 0), some (.invokevirtual 122, 3, 169, 0, 1089), none, none, some (.pop, 1, 0, 0, 0), some (.aload_n 2, 1, 0, 0, 0), some (.aload_n 0, 1, 0, 0, 0), some (.iload_n 3, 1, 0, 0, 0), some (.iconst 1, 1, 0, 0, 0), some (.iadd, 1, 0, 0, 0), some (.iaload, 1, 0, 0, 0)], [some (.aload_n 0, 1, 0, 0, 0), some (.iload_n 3, 1, 0, 0, 0), some (.iconst 2, 1, 0, 0, 0), some (.iadd, 1, 0, 0, 0), some (.iaload, 1, 0, 0, 0), some (.aload_n 0, 1, 0, 0, 0), some (.iload_n 3, 1, 0, 0, 0), some (.iconst 3, 1, 0, 0, 0), some (.iadd, 1, 0, 0, 0), some (.iaload, 1, 0, 0, 0), some (.ifCond .eq 7, 3, 0, 0, 0), none, none, some (.iconst 1, 1, 0, 0, 0), some (.goto 4, 3, 0, 0, 0), none, none, some (.iconst 0, 1, 0, 0, 0), some (.aload_n 0, 1, 0, 0, 0), some (.iload_n 3, 1, 0, 0, 0), some (.iconst 4, 1, 0, 0, 0), some (.iadd, 1, 0, 0, 0), some (.iaload, 1, 0, 0, 0), some (.invokevirtual 126, 3, 304, 0, 1927), none, none, some (.pop, 1, 0, 0, 0), some (.goto 517, 3, 0, 0, 0), none, none, some (.aload_n 1, 1, 0, 0, 0), some (.aload_n 0, 1, 0, 0, 0)], [some (.iload_n 3, 1, 0, 0, 0), some (.iconst 1, 1, 0, 0, 0), some (.iadd, 1, 0, 0, 0), some (.iaload, 1, 0, 0, 0), some (.aload_n 0, 1, 0, 0, 0), some (.iload_n 3, 1, 0, 0, 0), some (.iconst 2, 1, 0, 0, 0), some (.iadd, 1, 0, 0, 0), some (.iaload, 1, 0, 0, 0), some (.invokevirtual 127, 3, 170, 0, 1106), none, none, some (.pop, 1, 0, 0, 0), some (.aload_n 2, 1, 0, 0, 0), some (.aload_n 0, 1, 0, 0, 0), some (.iload_n 3, 1, 0, 0, 0), some (.iconst 1, 1, 0, 0, 0), some (.iadd, 1, 0, 0, 0), some (.iaload, 1, 0, 0, 0), some (.aload_n 0, 1, 0, 0, 0), some (.iload_n 3, 1, 0, 0, 0), some (.iconst 2, 1, 0, 0, 0), some (.iadd, 1, 0, 0, 0), some (.iaload, 1, 0, 0, 0), some (.invokevirtual 130, 3, 305, 0, 1939), none, none, some (.pop, 1, 0, 0, 0), some (.goto 484, 3, 0, 0, 0), none, none, some (.aload_n 1, 1, 0, 0, 0)], [some (.aload_n 0, 1, 0, 0, 0), some (.iload_n 3, 1, 0, 0, 0), some (.iconst 1, 1, 0, 0, 0), some (.iadd, 1, 0, 0, 0), some (.iaload, 1, 0, 0, 0), some (.invokevirtual 131, 3, 171, 0, 1115), none, none, some (.pop, 1, 0, 0, 0), some (.aload_n 2, 1, 0, 0, 0), some (.aload_n 0, 1, 0, 0, 0), some (.iload_n 3, 1, 0, 0, 0), some (.iconst 1, 1, 0, 0, 0), some (.iadd, 1, 0, 0, 0), some (.iaload, 1, 0, 0, 0), some (.invokevirtual 134, 3, 307, 0, 1943), none, none, some (.pop, 1, 0, 0, 0), some (.goto 461, 3, 0, 0, 0), none, none, some (.aload_n 1, 1, 0, 0, 0), some (.aload_n 0, 1, 0, 0, 0), some (.iload_n 3, 1, 0, 0, 0), some (.iconst 1, 1, 0, 0, 0), some (.iadd, 1, 0, 0, 0), some (.iaload, 1, 0, 0, 0), some (.aload_n 0, 1, 0, 0, 0), some (.iload_n 3, 1, 0, 0, 0), some (.iconst 2, 1, 0, 0, 0), some (.iadd, 1, 0, 0, 0)], [some (.iaload, 1, 0, 0, 0), some (.invokevirtual 135, 3, 172, 0, 1127), none, none, some (.pop, 1, 0, 0, 0), some (.aload_n 2, 1, 0, 0, 0), some (.aload_n 0, 1, 0, 0, 0), some (.iload_n 3, 1, 0, 0, 0), some (.iconst 1, 1, 0, 0, 0), some (.iadd, 1, 0, 0, 0), some (.iaload, 1, 0, 0, 0), some (.aload_n 0, 1, 0, 0, 0), some (.iload_n 3, 1, 0, 0, 0), some (.iconst 2, 1, 0, 0, 0), some (.iadd, 1, 0, 0, 0), some (.iaload, 1, 0, 0, 0), some (.invokevirtual 138, 3, 309, 0, 1951), none, none, some (.pop, 1, 0, 0, 0), some (.goto 428, 3, 0, 0, 0), none, none, some (.aload_n 1, 1, 0, 0, 0), some (.aload_n 0, 1, 0, 0, 0), some (.iload_n 3, 1, 0, 0, 0), some (.iconst 1, 1, 0, 0, 0), some (.iadd, 1, 0, 0, 0), some (.iaload, 1, 0, 0, 0), some (.aload_n 0, 1, 0, 0, 0), some (.iload_n 3, 1, 0, 0, 0), some (.iconst 2, 1, 0, 0, 0)], [some (.iadd, 1, 0, 0, 0), some (.iaload, 1, 0, 0, 0), some (.invokevirtual 139, 3, 173, 0, 1144), none, none, some (.pop, 1, 0, 0, 0), some (.aload_n 2, 1, 0, 0, 0), some (.aload_n 0, 1, 0, 0, 0), some (.iload_n 3, 1, 0, 0, 0), some (.iconst 1, 1, 0, 0, 0), some (.iadd, 1, 0, 0, 0), some (.iaload, 1, 0, 0, 0), some (.aload_n 0, 1, 0, 0, 0), some (.iload_n 3, 1, 0, 0, 0), some (.iconst 2, 1, 0, 0, 0), some (.iadd, 1, 0, 0, 0), some (.iaload, 1, 0, 0, 0), some (.invokevirtual 142, 3, 311, 0, 1959), none, none, some (.pop, 1, 0, 0, 0), some (.goto 395, 3, 0, 0, 0), none, none, some (.aload_n 1, 1, 0, 0, 0), some (.aload_n 0, 1, 0, 0, 0), some (.iload_n 3, 1, 0, 0, 0), some (.iconst 1, 1, 0, 0, 0), some (.iadd, 1, 0, 0, 0), some (.iaload, 1, 0, 0, 0), some (.aload_n 0, 1, 0, 0, 0), some (.iload_n 3, 1, 0, 0, 0)], [some (.iconst 2, 1, 0, 0, 0), some (.iadd, 1, 0, 0, 0), some (.iaload, 1, 0, 0, 0), some (.invokevirtual 143, 3, 174, 0, 1157), none, none, some (.pop, 1, 0, 0, 0), some (.aload_n 2, 1, 0, 0, 0), some (.aload_n 0, 1, 0, 0, 0), some (.iload_n 3, 1, 0, 0, 0), some (.iconst 1, 1, 0, 0, 0), some (.iadd, 1, 0, 0, 0), some (.iaload, 1, 0, 0, 0), some (.aload_n 0, 1, 0, 0, 0), some (.iload_n 3, 1, 0, 0, 0), some (.iconst 2, 1, 0, 0, 0), some (.iadd, 1, 0, 0, 0), some (.iaload, 1, 0, 0, 0), some (.invokevirtual 146, 3, 312, 0, 1967), none, none, some (.pop, 1, 0, 0, 0), some (.goto 362, 3, 0, 0, 0), none, none, some (.aload_n 1, 1, 0, 0, 0), some (.aload_n 0, 1, 0, 0, 0), some (.iload_n 3, 1, 0, 0, 0), some (.iconst 1, 1, 0, 0, 0), some (.iadd, 1, 0, 0, 0), some (.iaload, 1, 0, 0, 0), some (.invokevirtual 147, 3, 175, 0, 1165)], [none, none, some (.pop, 1, 0, 0, 0), some (.aload_n 2, 1, 0, 0, 0), some (.aload_n 0, 1, 0, 0, 0), some (.iload_n 3, 1, 0, 0, 0), some (.iconst 1, 1, 0, 0, 0), some (.iadd, 1, 0, 0, 0), some (.iaload, 1, 0, 0, 0), some (.invokevirtual 150, 3, 314, 0, 1971), none, none, some (.pop, 1, 0, 0, 0), some (.goto 339, 3, 0, 0, 0), none, none, some (.aload_n 1, 1, 0, 0, 0), some (.aload_n 0, 1, 0, 0, 0), some (.iload_n 3, 1, 0, 0, 0), some (.iconst 1, 1, 0, 0, 0), some (.iadd, 1, 0, 0, 0), some (.iaload, 1, 0, 0, 0), some (.aload_n 0, 1, 0, 0, 0), some (.iload_n 3, 1, 0, 0, 0), some (.iconst 2, 1, 0, 0, 0), some (.iadd, 1, 0, 0, 0), some (.iaload, 1, 0, 0, 0), some (.aload_n 0, 1, 0, 0, 0), some (.iload_n 3, 1, 0, 0, 0), some (.iconst 3, 1, 0, 0, 0), some (.iadd, 1, 0, 0, 0), some (.iaload, 1, 0, 0, 0)], [some (.aload_n 0, 1, 0, 0, 0), some (.iload_n 3, 1, 0, 0, 0), some (.iconst 4, 1, 0, 0, 0), some (.iadd, 1, 0, 0, 0), some (.iaload, 1, 0, 0, 0), some (.invokevirtual 151, 3, 176, 0, 1178), none, none, some (.pop, 1, 0, 0, 0), some (.aload_n 2, 1, 0, 0, 0), some (.aload_n 0, 1, 0, 0, 0), some (.iload_n 3, 1, 0, 0, 0), some (.iconst 1, 1, 0, 0, 0), some (.iadd, 1, 0, 0, 0), some (.iaload, 1, 0, 0, 0), some (.aload_n 0, 1, 0, 0, 0), some (.iload_n 3, 1, 0, 0, 0), some (.iconst 2, 1, 0, 0, 0), some (.iadd, 1, 0, 0, 0), some (.iaload, 1, 0, 0, 0), some (.aload_n 0, 1, 0, 0, 0), some (.iload_n 3, 1, 0, 0, 0), some (.iconst 3, 1, 0, 0, 0), some (.iadd, 1, 0, 0, 0), some (.iaload, 1, 0, 0, 0), some (.aload_n 0, 1, 0, 0, 0), some (.iload_n 3, 1, 0, 0, 0), some (.iconst 4, 1, 0, 0, 0), some (.iadd, 1, 0, 0, 0), some (.iaload, 1, 0, 0, 0), some (.invokevirtual 154, 3, 324, 0, 2013), none], [none, some (.pop, 1, 0, 0, 0), some (.goto 286, 3, 0, 0, 0), none, none, some (.aload_n 1, 1, 0, 0, 0), some (.aload_n 0, 1, 0, 0, 0), some (.iload_n 3, 1, 0, 0, 0), some (.iconst 1, 1, 0, 0, 0), some (.iadd, 1, 0, 0, 0), some (.iaload, 1, 0, 0, 0), some (.aload_n 0, 1, 0, 0, 0), some (.iload_n 3, 1, 0, 0, 0), some (.iconst 2, 1, 0, 0, 0), some (.iadd, 1, 0, 0, 0), some (.iaload, 1, 0, 0, 0), some (.invokevirtual 155, 3, 177, 0, 1195), none, none, some (.pop, 1, 0, 0, 0), some (.aload_n 2, 1, 0, 0, 0), some (.aload_n 0, 1, 0, 0, 0), some (.iload_n 3, 1, 0, 0, 0), some (.iconst 1, 1, 0, 0, 0), some (.iadd, 1, 0, 0, 0), some (.iaload, 1, 0, 0, 0), some (.aload_n 0, 1, 0, 0, 0), some (.iload_n 3, 1, 0, 0, 0), some (.iconst 2, 1, 0, 0, 0), some (.iadd, 1, 0, 0, 0), some (.iaload, 1, 0, 0, 0), some (.invokevirtual 158, 3, 325, 0, 2021)], [none, none, some (.pop, 1, 0, 0, 0), some (.goto 253, 3, 0, 0, 0), none, none, some (.aload_n 1, 1, 0, 0, 0), some (.aload_n 0, 1, 0, 0, 0), some (.iload_n 3, 1, 0, 0, 0), some (.iconst 1, 1, 0, 0, 0), some (.iadd, 1, 0, 0, 0), some (.iaload, 1, 0, 0, 0), some (.aload_n 0, 1, 0, 0, 0), some (.iload_n 3, 1, 0, 0, 0), some (.iconst 2, 1, 0, 0, 0), some (.iadd, 1, 0, 0, 0), some (.iaload, 1, 0, 0, 0), some (.invokevirtual 159, 3, 178, 0, 1203), none, none, some (.pop, 1, 0, 0, 0), some (.aload_n 2, 1, 0, 0, 0), some (.aload_n 0, 1, 0, 0, 0), some (.iload_n 3, 1, 0, 0, 0), some (.iconst 1, 1, 0, 0, 0), some (.iadd, 1, 0, 0, 0), some (.iaload, 1, 0, 0, 0), some (.aload_n 0, 1, 0, 0, 0), some (.iload_n 3, 1, 0, 0, 0), some (.iconst 2, 1, 0, 0, 0), some (.iadd, 1, 0, 0, 0), some (.iaload, 1, 0, 0, 0)], [some (.invokevirtual 162, 3, 319, 0, 1979), none, none, some (.pop, 1, 0, 0, 0), some (.goto 220, 3, 0, 0, 0), none, none, some (.aload_n 1, 1, 0, 0, 0), some (.aload_n 0, 1, 0, 0, 0), some (.iload_n 3, 1, 0, 0, 0), some (.iconst 1, 1, 0, 0, 0), some (.iadd, 1, 0, 0, 0), some (.iaload, 1, 0, 0, 0), some (.invokevirtual 163, 3, 179, 0, 1226), none, none, some (.pop, 1, 0, 0, 0), some (.aload_n 2, 1, 0, 0, 0), some (.aload_n 0, 1, 0, 0, 0), some (.iload_n 3, 1, 0, 0, 0), some (.iconst 1, 1, 0, 0, 0), some (.iadd, 1, 0, 0, 0), some (.iaload, 1, 0, 0, 0), some (.invokevirtual 166, 3, 322, 0, 2001), none, none, some (.pop, 1, 0, 0, 0), some (.goto 197, 3, 0, 0, 0), none, none, some (.aload_n 1, 1, 0, 0, 0), some (.aload_n 0, 1, 0, 0, 0)], [some (.iload_n 3, 1, 0, 0, 0), some (.iconst 1, 1, 0, 0, 0), some (.iadd, 1, 0, 0, 0), some (.iaload, 1, 0, 0, 0), some (.invokevirtual 167, 3, 180, 0, 1240), none, none, some (.pop, 1, 0, 0, 0), some (.aload_n 2, 1, 0, 0, 0), some (.aload_n 0, 1, 0, 0, 0), some (.iload_n 3, 1, 0, 0, 0), some (.iconst 1, 1, 0, 0, 0), some (.iadd, 1, 0, 0, 0), some (.iaload, 1, 0, 0, 0), some (.invokevirtual 170, 3, 332, 0, 2029), none, none, some (.pop, 1, 0, 0, 0), some (.goto 174, 3, 0, 0, 0), none, none, some (.aload_n 1, 1, 0, 0, 0), some (.aload_n 0, 1, 0, 0, 0), some (.iload_n 3, 1, 0, 0, 0), some (.iconst 1, 1, 0, 0, 0), some (.iadd, 1, 0, 0, 0), some (.iaload, 1, 0, 0, 0), some (.aload_n 0, 1, 0, 0, 0), some (.iload_n 3, 1, 0, 0, 0), some (.iconst 2, 1, 0, 0, 0), some (.iadd, 1, 0, 0, 0), some (.iaload, 1, 0, 0, 0)], [some (.invokevirtual 171, 3, 181, 0, 1299), none, none, some (.pop, 1, 0, 0, 0), some (.aload_n 2, 1, 0, 0, 0), some (.aload_n 0, 1, 0, 0, 0), some (.iload_n 3, 1, 0, 0, 0), some (.iconst 1, 1, 0, 0, 0), some (.iadd, 1, 0, 0, 0), some (.iaload, 1, 0, 0, 0), some (.aload_n 0, 1, 0, 0, 0), some (.iload_n 3, 1, 0, 0, 0), some (.iconst 2, 1, 0, 0, 0), some (.iadd, 1, 0, 0, 0), some (.iaload, 1, 0, 0, 0), some (.invokevirtual 174, 3, 333, 0, 2069), none, none, some (.pop, 1, 0, 0, 0), some (.goto 141, 3, 0, 0, 0), none, none, some (.aload_n 1, 1, 0, 0, 0), some (.aload_n 0, 1, 0, 0, 0), some (.iload_n 3, 1, 0, 0, 0), some (.iconst 1, 1, 0, 0, 0), some (.iadd, 1, 0, 0, 0), some (.iaload, 1, 0, 0, 0), some (.aload_n 0, 1, 0, 0, 0), some (.iload_n 3, 1, 0, 0, 0), some (.iconst 2, 1, 0, 0, 0), some (.iadd, 1, 0, 0, 0)], [some (.iaload, 1, 0, 0, 0), some (.aload_n 0, 1, 0, 0, 0), some (.iload_n 3, 1, 0, 0, 0), some (.iconst 3, 1, 0, 0, 0), some (.iadd, 1, 0, 0, 0), some (.iaload, 1, 0, 0, 0), some (.invokevirtual 175, 3, 182, 0, 1308), none, none, some (.pop, 1, 0, 0, 0), some (.aload_n 2, 1, 0, 0, 0), some (.aload_n 0, 1, 0, 0, 0), some (.iload_n 3, 1, 0, 0, 0), some (.iconst 1, 1, 0, 0, 0), some (.iadd, 1, 0, 0, 0), some (.iaload, 1, 0, 0, 0), some (.aload_n 0, 1, 0, 0, 0), some (.iload_n 3, 1, 0, 0, 0), some (.iconst 2, 1, 0, 0, 0), some (.iadd, 1, 0, 0, 0), some (.iaload, 1, 0, 0, 0), some (.aload_n 0, 1, 0, 0, 0), some (.iload_n 3, 1, 0, 0, 0), some (.iconst 3, 1, 0, 0, 0), some (.iadd, 1, 0, 0, 0), some (.iaload, 1, 0, 0, 0), some (.invokevirtual 178, 3, 334, 0, 2076), none, none, some (.pop, 1, 0, 0, 0), some (.goto 98, 3, 0, 0, 0), none], [none, some (.aload_n 1, 1, 0, 0, 0), some (.aload_n 0, 1, 0, 0, 0), some (.iload_n 3, 1, 0, 0, 0), some (.iconst 1, 1, 0, 0, 0), some (.iadd, 1, 0, 0, 0), some (.iaload, 1, 0, 0, 0), some (.invokevirtual 179, 3, 183, 0, 1312), none, none, some (.aload_n 2, 1, 0, 0, 0), some (.aload_n 0, 1, 0, 0, 0), some (.iload_n 3, 1, 0, 0, 0), some (.iconst 1, 1, 0, 0, 0), some (.iadd, 1, 0, 0, 0), some (.iaload, 1, 0, 0, 0), some (.invokevirtual 183, 3, 335, 0, 2080), none, none, some (.if_icmp .eq 77, 3, 0, 0, 0), none, none, some (.iconst 0, 1, 0, 0, 0), some (.ireturn, 1, 0, 0, 0), some (.aload_n 1, 1, 0, 0, 0), some (.invokevirtual 184, 3, 184, 0, 1317), none, none, some (.pop, 1, 0, 0, 0), some (.aload_n 2, 1, 0, 0, 0), some (.invokevirtual 188, 3, 336, 0, 2085), none], [none, some (.pop, 1, 0, 0, 0), some (.goto 62, 3, 0, 0, 0), none, none, some (.aload_n 1, 1, 0, 0, 0), some (.invokevirtual 189, 3, 185, 0, 1321), none, none, some (.pop, 1, 0, 0, 0), some (.aload_n 2, 1, 0, 0, 0), some (.invokevirtual 193, 3, 337, 0, 2089), none, none, some (.pop, 1, 0, 0, 0), some (.goto 49, 3, 0, 0, 0), none, none, some (.aload_n 1, 1, 0, 0, 0), some (.aload_n 0, 1, 0, 0, 0), some (.iload_n 3, 1, 0, 0, 0), some (.iconst 1, 1, 0, 0, 0), some (.iadd, 1, 0, 0, 0), some (.iaload, 1, 0, 0, 0), some (.invokevirtual 194, 3, 186, 0, 1329), none, none, some (.pop, 1, 0, 0, 0), some (.aload_n 2, 1, 0, 0, 0), some (.aload_n 0, 1, 0, 0, 0), some (.iload_n 3, 1, 0, 0, 0), some (.iconst 1, 1, 0, 0, 0)], [some (.iadd, 1, 0, 0, 0), some (.iaload, 1, 0, 0, 0), some (.invokevirtual 197, 3, 338, 0, 2093), none, none, some (.pop, 1, 0, 0, 0), some (.goto 26, 3, 0, 0, 0), none, none, some (.aload_n 1, 1, 0, 0, 0), some (.aload_n 0, 1, 0, 0, 0), some (.iload_n 3, 1, 0, 0, 0), some (.iconst 1, 1, 0, 0, 0), some (.iadd, 1, 0, 0, 0), some (.iaload, 1, 0, 0, 0), some (.invokevirtual 198, 3, 187, 0, 1338), none, none, some (.pop, 1, 0, 0, 0), some (.aload_n 2, 1, 0, 0, 0), some (.aload_n 0, 1, 0, 0, 0), some (.iload_n 3, 1, 0, 0, 0), some (.iconst 1, 1, 0, 0, 0), some (.iadd, 1, 0, 0, 0), some (.iaload, 1, 0, 0, 0), some (.invokevirtual 201, 3, 340, 0, 2097), none, none, some (.pop, 1, 0, 0, 0), some (.goto 3, 3, 0, 0, 0), none, none], [some (.iinc 3 6, 3, 0, 0, 0), none, none, some (.goto (-1713), 3, 0, 0, 0), none, none, some (.iconst 1, 1, 0, 0, 0), some (.ireturn, 1, 0, 0, 0)]]
def md_0 : si_M := (0, yX0_init, cX0_init, 2, none, 2, 1, [189, 188, 121])
def md_1 : si_M := (0, yX0_take, cX0_take, 7, some .boolean, 0, 4, [887, 885, 121, 886])
def md_2 : si_M := (0, yX0_follows, cX0_follows, 3, some .boolean, 0, 2, [905, 904, 121, 17])
def md_3 : si_M := (0, yX0_countTill, cX0_countTill, 6, none, 0, 0, [918, 917, 121, 18])
def md_4 : si_M := (0, yX0_countSince, cX0_countSince, 6, none, 0, 0, [901, 900, 121, 16])
def md_5 : si_M := (0, yX0_rowsMany, cX0_rowsMany, 4, some .int, 0, 0, [897, 895, 121, 896])
def md_6 : si_M := (0, yX0_sureTime, cX0_sureTime, 5, some .int, 0, 1, [914, 912, 121, 913])
def md_7 : si_M := (0, yX0_orderPlace, cX0_orderPlace, 3, some .int, 1, 3, [937, 936, 121])
def md_8 : si_M := (0, yX0_countOrders, cX0_countOrders, 3, none, 0, 0, [926, 924, 121, 925])
def md_9 : si_M := (0, yX0_countOrdersFrom, cX0_countOrdersFrom, 9, none, 0, 2, [930, 929, 121, 19])
def md_10 : si_M := (0, yX0_ordersBehind, cX0_ordersBehind, 7, some .long, 0, 3, [934, 933, 121, 20])
def md_11 : si_M := (0, yX0_ordersFrom, cX0_ordersFrom, 5, some .long, 0, 1, [945, 944, 121, 21])
def md_12 : si_M := (0, yX0_ordersMany, cX0_ordersMany, 4, some .int, 0, 0, [941, 939, 121, 940])
def md_13 : si_M := (0, yX0_canBeFirst, cX0_canBeFirst, 3, some .int, 0, 0, [949, 947, 121, 948])
def md_14 : si_M := (1, yX1_init, cX1_init, 2, none, 2, 1, [179, 178, 120])
def md_15 : si_M := (1, yX1_strikesMany, cX1_strikesMany, 2, some .int, 0, 1, [961, 960, 120, 22])
def md_16 : si_M := (1, yX1_timeOf, cX1_timeOf, 4, some .int, 0, 2, [965, 963, 120, 964])
def md_17 : si_M := (1, yX1_strokesAt, cX1_strokesAt, 5, some .int, 0, 2, [985, 983, 120, 984])
def md_18 : si_M := (1, yX1_strokesOf, cX1_strokesOf, 3, some .int, 0, 2, [1008, 1007, 120, 23])
def md_19 : si_M := (1, yX1_strokesBetween, cX1_strokesBetween, 6, some .int, 0, 3, [981, 979, 120, 980])
def md_20 : si_M := (1, yX1_longestQuiet, cX1_longestQuiet, 6, some .int, 0, 1, [957, 955, 120, 956])
def md_21 : si_M := (1, yX1_ticksTillHeard, cX1_ticksTillHeard, 10, some .int, 0, 3, [976, 974, 120, 975])
def md_22 : si_M := (1, yX1_match, cX1_match, 9, none, 0, 4, [999, 997, 120, 998])
def md_23 : si_M := (1, yX1_enoughStrikes, cX1_enoughStrikes, 4, some .int, 0, 1, [1029, 1027, 120, 1028])
def md_24 : si_M := (1, yX1_allUnlike, cX1_allUnlike, 6, some .boolean, 0, 2, [1033, 1032, 120, 24])
def md_25 : si_M := (1, yX1_soundSame, cX1_soundSame, 6, some .boolean, 0, 4, [1037, 1036, 120, 25])
def md_26 : si_M := (1, yX1_bothStrike, cX1_bothStrike, 6, some .int, 0, 2, [1045, 1043, 120, 1044])
def md_27 : si_M := (1, yX1_loudest, cX1_loudest, 7, some .int, 0, 2, [1049, 1047, 120, 1048])
def md_28 : si_M := (2, yX2_init, cX2_init, 2, none, 2, 1, [351, 350, 128])
def md_29 : si_M := (2, yX2_forget, cX2_forget, 1, none, 0, 0, [456, 454, 128, 455])
def md_30 : si_M := (2, yX2_has, cX2_has, 2, some .boolean, 0, 1, [1210, 1208, 128, 1209])
def md_31 : si_M := (2, yX2_read, cX2_read, 5, some .int, 0, 1, [686, 684, 128, 685])
def md_32 : si_M := (2, yX2_readRest, cX2_readRest, 3, none, 0, 2, [694, 693, 128, 9])
def md_33 : si_M := (2, yX2_doMeet, cX2_doMeet, 3, some .boolean, 1, 3, [1190, 1189, 128])
def md_34 : si_M := (2, yX2_meets, cX2_meets, 4, some .boolean, 0, 2, [1218, 1216, 128, 1217])
def md_35 : si_M := (2, yX2_waited, cX2_waited, 5, some .int, 0, 2, [1224, 1222, 128, 1223])
def md_36 : si_M := (2, yX2_meetMany, cX2_meetMany, 4, some .int, 0, 1, [1233, 1231, 128, 1232])
def md_37 : si_M := (2, yX2_waitedInAll, cX2_waitedInAll, 4, some .int, 0, 1, [1238, 1236, 128, 1237])
def md_38 : si_M := (3, yX3_init, cX3_init, 2, none, 2, 1, [270, 269, 125])
def md_39 : si_M := (3, yX3_forget, cX3_forget, 2, none, 0, 0, [452, 450, 125, 451])
def md_40 : si_M := (3, yX3_copyClock, cX3_copyClock, 3, none, 0, 2, [678, 677, 125, 8])
def md_41 : si_M := (3, yX3_copyClocks, cX3_copyClocks, 3, none, 0, 1, [674, 672, 125, 673])
def md_42 : si_M := (3, yX3_copyAll, cX3_copyAll, 2, none, 0, 1, [1306, 1304, 125, 1305])
def md_43 : si_M := (3, yX3_restore, cX3_restore, 3, none, 0, 1, [1328, 1326, 125, 1327])
def md_44 : si_M := (3, yX3_read, cX3_read, 6, some .int, 0, 1, [641, 639, 125, 640])
def md_45 : si_M := (3, yX3_readLine, cX3_readLine, 3, none, 0, 2, [657, 656, 125, 7])
def md_46 : si_M := (3, yX3_isTold, cX3_isTold, 2, some .boolean, 0, 1, [650, 648, 125, 649])
def md_47 : si_M := (3, yX3_areTwo, cX3_areTwo, 3, some .boolean, 0, 2, [1096, 1094, 125, 1095])
def md_48 : si_M := (3, yX3_toldBits, cX3_toldBits, 3, some .int, 0, 0, [1345, 1343, 125, 1344])
def md_49 : si_M := (3, yX3_setsOfAll, cX3_setsOfAll, 3, some .int, 0, 0, [1353, 1351, 125, 1352])
def md_50 : si_M := (3, yX3_checkByte, cX3_checkByte, 2, some .int, 0, 1, [1337, 1335, 125, 1336])
def md_51 : si_M := (3, yX3_setTo, cX3_setTo, 3, none, 0, 2, [1202, 1200, 125, 1201])
def md_52 : si_M := (3, yX3_draw, cX3_draw, 1, some .int, 0, 0, [1262, 1260, 125, 1261])
def md_53 : si_M := (3, yX3_lookAt, cX3_lookAt, 4, none, 0, 3, [1267, 1265, 125, 1266])
def md_54 : si_M := (3, yX3_othersAsMuchAhead, cX3_othersAsMuchAhead, 4, some .int, 0, 1, [1271, 1270, 125, 33])
def md_55 : si_M := (3, yX3_showsAt, cX3_showsAt, 3, some .int, 0, 2, [1068, 1066, 125, 1067])
def md_56 : si_M := (3, yX3_offBy, cX3_offBy, 3, some .int, 0, 2, [1138, 1136, 125, 1137])
def md_57 : si_M := (3, yX3_showSame, cX3_showSame, 7, some .boolean, 0, 4, [1104, 1103, 125, 27])
def md_58 : si_M := (3, yX3_tallyRight, cX3_tallyRight, 5, none, 0, 2, [1080, 1078, 125, 1079])
def md_59 : si_M := (3, yX3_tallyAgreed, cX3_tallyAgreed, 7, none, 0, 4, [1100, 1098, 125, 1099])
def md_60 : si_M := (3, yX3_longestAgreed, cX3_longestAgreed, 7, some .int, 0, 2, [1113, 1111, 125, 1112])
def md_61 : si_M := (3, yX3_tallyAllSame, cX3_tallyAllSame, 4, none, 0, 1, [1122, 1120, 125, 1121])
def md_62 : si_M := (3, yX3_allSame, cX3_allSame, 5, some .boolean, 0, 1, [1126, 1125, 125, 28])
def md_63 : si_M := (3, yX3_nearestTo, cX3_nearestTo, 6, some .int, 0, 1, [1134, 1132, 125, 1133])
def md_64 : si_M := (3, yX3_showingSame, cX3_showingSame, 6, some .int, 0, 2, [1155, 1153, 125, 1154])
def md_65 : si_M := (3, yX3_oneOfMost, cX3_oneOfMost, 7, some .int, 0, 1, [1151, 1149, 125, 1150])
def md_66 : si_M := (3, yX3_pairsMany, cX3_pairsMany, 6, some .int, 0, 2, [1164, 1162, 125, 1163])
def md_67 : si_M := (3, yX3_narrowest, cX3_narrowest, 5, some .int, 0, 1, [1172, 1170, 125, 1171])
def md_68 : si_M := (3, yX3_reach, cX3_reach, 5, some .int, 0, 2, [1176, 1175, 125, 29])
def md_69 : si_M := (3, yX3_firstTick, cX3_firstTick, 5, some .int, 0, 2, [1214, 1212, 125, 1213])
def md_70 : si_M := (3, yX3_firstTicks, cX3_firstTicks, 6, none, 0, 2, [1185, 1183, 125, 1184])
def md_71 : si_M := (4, yX4_init, cX4_init, 1, none, 2, 0, [147, 146, 118])
def md_72 : si_M := (4, yX4_make, cX4_make, 3, none, 0, 2, [448, 446, 118, 447])
def md_73 : si_M := (4, yX4_round, cX4_round, 1, some .int, 0, 0, [754, 752, 118, 753])
def md_74 : si_M := (4, yX4_isTime, cX4_isTime, 2, some .boolean, 0, 1, [667, 665, 118, 666])
def md_75 : si_M := (4, yX4_around, cX4_around, 2, some .int, 0, 1, [758, 756, 118, 757])
def md_76 : si_M := (4, yX4_shortAt, cX4_shortAt, 2, some .int, 0, 1, [708, 706, 118, 707])
def md_77 : si_M := (4, yX4_longAt, cX4_longAt, 2, some .int, 0, 1, [715, 713, 118, 714])
def md_78 : si_M := (4, yX4_mirrored, cX4_mirrored, 2, some .int, 0, 1, [767, 765, 118, 766])
def md_79 : si_M := (4, yX4_between, cX4_between, 5, some .int, 0, 2, [1142, 1140, 118, 1141])
def md_80 : si_M := (4, yX4_apartAt, cX4_apartAt, 3, some .int, 0, 1, [777, 775, 118, 776])
def md_81 : si_M := (4, yX4_areAlike, cX4_areAlike, 3, some .boolean, 0, 2, [858, 856, 118, 857])
def md_82 : si_M := (4, yX4_isAt, cX4_isAt, 6, some .boolean, 0, 3, [801, 799, 118, 800])
def md_83 : si_M := (4, yX4_lowest, cX4_lowest, 5, some .int, 0, 2, [732, 730, 118, 731])
def md_84 : si_M := (4, yX4_lowestAt, cX4_lowestAt, 5, some .int, 0, 2, [771, 769, 118, 770])
def md_85 : si_M := (4, yX4_manyAt, cX4_manyAt, 5, some .int, 0, 2, [728, 727, 118, 10])
def md_86 : si_M := (4, yX4_alikeMany, cX4_alikeMany, 5, some .int, 0, 1, [722, 720, 118, 721])
def md_87 : si_M := (4, yX4_canBeTold, cX4_canBeTold, 2, some .boolean, 0, 1, [819, 817, 118, 818])
def md_88 : si_M := (4, yX4_untoldMany, cX4_untoldMany, 4, some .int, 0, 0, [814, 812, 118, 813])
def md_89 : si_M := (4, yX4_list, cX4_list, 6, some .int, 0, 4, [746, 744, 118, 745])
def md_90 : si_M := (4, yX4_listOrdered, cX4_listOrdered, 8, some .int, 0, 4, [750, 749, 118, 12])
def md_91 : si_M := (5, yX5_init, cX5_init, 1, none, 2, 0, [316, 315, 127])
def md_92 : si_M := (5, yX5_size, cX5_size, 1, some .int, 0, 0, [1349, 1347, 127, 1348])
def md_93 : si_M := (5, yX5_read, cX5_read, 5, some .int, 0, 1, [492, 490, 127, 491])
def md_94 : si_M := (5, yX5_addStep, cX5_addStep, 4, some .int, 0, 2, [609, 608, 127, 3])
def md_95 : si_M := (5, yX5_land, cX5_land, 5, none, 0, 1, [625, 624, 127, 6])
def md_96 : si_M := (5, yX5_readCondition, cX5_readCondition, 6, none, 0, 2, [617, 616, 127, 4])
def md_97 : si_M := (5, yX5_readTest, cX5_readTest, 5, none, 0, 2, [621, 620, 127, 5])
def md_98 : si_M := (5, yX5_readExpression, cX5_readExpression, 6, none, 0, 2, [590, 589, 127, 1])
def md_99 : si_M := (5, yX5_readFactor, cX5_readFactor, 5, none, 0, 2, [594, 593, 127, 2])
def md_100 : si_M := (5, yX5_valueOf, cX5_valueOf, 5, some .int, 0, 3, [1275, 1273, 127, 1274])
def md_101 : si_M := (5, yX5_anyHolds, cX5_anyHolds, 4, some .boolean, 0, 2, [1295, 1293, 127, 1294])
def md_102 : si_M := (5, yX5_work, cX5_work, 7, some .int, 0, 2, [1279, 1278, 127, 34])
def md_103 : si_M := (5, yX5_factAt, cX5_factAt, 2, some .int, 1, 2, [1282, 1281, 127])
def md_104 : si_M := (5, yX5_reckon, cX5_reckon, 4, some .int, 0, 3, [1287, 1286, 127, 35])
def md_105 : si_M := (6, yX6_init, cX6_init, 2, none, 2, 1, [165, 164, 119])
def md_106 : si_M := (6, yX6_listAlikes, cX6_listAlikes, 2, some .int, 0, 1, [740, 739, 119, 11])
def md_107 : si_M := (6, yX6_nextAlike, cX6_nextAlike, 5, some .int, 0, 1, [736, 734, 119, 735])
def md_108 : si_M := (6, yX6_mirrorOf, cX6_mirrorOf, 2, some .int, 0, 1, [763, 761, 119, 762])
def md_109 : si_M := (6, yX6_mirroredMany, cX6_mirroredMany, 5, some .int, 0, 1, [793, 791, 119, 792])
def md_110 : si_M := (6, yX6_isOwnMirror, cX6_isOwnMirror, 2, some .boolean, 0, 1, [797, 796, 119, 13])
def md_111 : si_M := (6, yX6_firstUntold, cX6_firstUntold, 3, some .int, 0, 0, [828, 826, 119, 827])
def md_112 : si_M := (6, yX6_longestRow, cX6_longestRow, 6, some .int, 0, 1, [833, 831, 119, 832])
def md_113 : si_M := (6, yX6_ticksTillTold, cX6_ticksTillTold, 4, some .int, 0, 1, [842, 840, 119, 841])
def md_114 : si_M := (6, yX6_secondGlance, cX6_secondGlance, 5, some .int, 0, 1, [850, 848, 119, 849])
def md_115 : si_M := (6, yX6_tellsBehind, cX6_tellsBehind, 7, some .boolean, 0, 3, [854, 853, 119, 15])
def md_116 : si_M := (6, yX6_nextCovered, cX6_nextCovered, 5, some .int, 0, 1, [872, 870, 119, 871])
def md_117 : si_M := (6, yX6_apartMany, cX6_apartMany, 5, some .int, 0, 1, [867, 865, 119, 866])
def md_118 : si_M := (7, yX7_init, cX7_init, 2, none, 2, 1, [238, 237, 123])
def md_119 : si_M := (7, yX7_begin, cX7_begin, 2, none, 0, 1, [488, 486, 123, 487])
def md_120 : si_M := (7, yX7_place, cX7_place, 1, some .int, 0, 0, [578, 576, 123, 577])
def md_121 : si_M := (7, yX7_next, cX7_next, 1, some .int, 0, 0, [496, 494, 123, 495])
def md_122 : si_M := (7, yX7_skip, cX7_skip, 1, none, 0, 0, [586, 584, 123, 585])
def md_123 : si_M := (7, yX7_take, cX7_take, 2, some .boolean, 0, 1, [599, 597, 123, 598])
def md_124 : si_M := (7, yX7_expect, cX7_expect, 2, none, 0, 1, [604, 602, 123, 603])
def md_125 : si_M := (7, yX7_fail, cX7_fail, 3, none, 0, 2, [582, 580, 123, 581])
def md_126 : si_M := (7, yX7_clockLetter, cX7_clockLetter, 2, some .int, 0, 0, [646, 644, 123, 645])
def md_127 : si_M := (7, yX7_number, cX7_number, 6, some .int, 0, 1, [613, 611, 123, 612])
def md_128 : si_M := (7, yX7_time, cX7_time, 4, some .int, 0, 1, [662, 660, 123, 661])
def md_129 : si_M := (7, yX7_answer, cX7_answer, 2, some .int, 0, 1, [629, 627, 123, 628])
def md_130 : si_M := (8, yX8_init, cX8_init, 1, none, 2, 0, [257, 256, 124])
def md_131 : si_M := (8, yX8_begin, cX8_begin, 1, none, 0, 0, [1003, 1001, 124, 1002])
def md_132 : si_M := (8, yX8_add, cX8_add, 2, none, 0, 1, [1012, 1010, 124, 1011])
def md_133 : si_M := (8, yX8_many, cX8_many, 1, some .int, 0, 0, [1016, 1014, 124, 1015])
def md_134 : si_M := (8, yX8_first, cX8_first, 1, some .int, 0, 0, [1020, 1018, 124, 1019])
def md_135 : si_M := (8, yX8_answer, cX8_answer, 2, some .int, 0, 1, [1088, 1086, 124, 1087])
def md_136 : si_M := (9, yX9_init, cX9_init, 1, none, 2, 0, [224, 223, 122])
def md_137 : si_M := (9, yX9_size, cX9_size, 1, some .int, 0, 0, [472, 470, 122, 471])
def md_138 : si_M := (9, yX9_has, cX9_has, 2, some .boolean, 0, 1, [484, 482, 122, 483])
def md_139 : si_M := (9, yX9_hasRoom, cX9_hasRoom, 2, some .boolean, 0, 1, [464, 462, 122, 463])
def md_140 : si_M := (9, yX9_add, cX9_add, 3, none, 0, 1, [468, 466, 122, 467])
def md_141 : si_M := (9, yX9_at, cX9_at, 2, some .int, 0, 1, [892, 890, 122, 891])
def md_142 : si_M := (9, yX9_empty, cX9_empty, 1, none, 0, 0, [633, 631, 122, 632])
def md_143 : si_M := (10, yX10_init, cX10_init, 1, none, 2, 0, [139, 138, 117])
def md_144 : si_M := (10, yX10_dial, cX10_dial, 3, some .boolean, 0, 2, [441, 439, 117, 440])
def md_145 : si_M := (10, yX10_feed, cX10_feed, 6, some .int, 0, 5, [460, 458, 117, 459])
def md_146 : si_M := (10, yX10_law, cX10_law, 4, some .int, 0, 1, [476, 474, 117, 475])
def md_147 : si_M := (10, yX10_clocks, cX10_clocks, 3, some .int, 0, 1, [637, 635, 117, 636])
def md_148 : si_M := (10, yX10_book, cX10_book, 4, some .int, 0, 1, [682, 680, 117, 681])
def md_149 : si_M := (10, yX10_reads, cX10_reads, 3, some .int, 0, 2, [703, 701, 117, 702])
def md_150 : si_M := (10, yX10_exchanged, cX10_exchanged, 2, some .int, 0, 1, [781, 779, 117, 780])
def md_151 : si_M := (10, yX10_mirrors, cX10_mirrors, 2, some .int, 0, 1, [786, 784, 117, 785])
def md_152 : si_M := (10, yX10_bestDial, cX10_bestDial, 3, some .int, 0, 2, [806, 804, 117, 805])
def md_153 : si_M := (10, yX10_untold, cX10_untold, 2, some .int, 0, 1, [824, 822, 117, 823])
def md_154 : si_M := (10, yX10_till, cX10_till, 2, some .int, 0, 1, [838, 836, 117, 837])
def md_155 : si_M := (10, yX10_glance, cX10_glance, 2, some .int, 0, 1, [846, 844, 117, 845])
def md_156 : si_M := (10, yX10_covered, cX10_covered, 2, some .int, 0, 1, [863, 861, 117, 862])
def md_157 : si_M := (10, yX10_apart, cX10_apart, 2, some .int, 0, 1, [876, 874, 117, 875])
def md_158 : si_M := (10, yX10_photographs, cX10_photographs, 7, some .int, 0, 4, [880, 878, 117, 879])
def md_159 : si_M := (10, yX10_anyOrder, cX10_anyOrder, 7, some .int, 0, 4, [922, 920, 117, 921])
def md_160 : si_M := (10, yX10_quiet, cX10_quiet, 2, some .int, 0, 1, [953, 951, 117, 952])
def md_161 : si_M := (10, yX10_strokesTill, cX10_strokesTill, 4, some .int, 0, 3, [972, 970, 117, 971])
def md_162 : si_M := (10, yX10_strokes, cX10_strokes, 4, some .int, 0, 3, [990, 988, 117, 989])
def md_163 : si_M := (10, yX10_heard, cX10_heard, 4, some .int, 0, 3, [995, 993, 117, 994])
def md_164 : si_M := (10, yX10_listen, cX10_listen, 2, some .int, 0, 1, [1025, 1023, 117, 1024])
def md_165 : si_M := (10, yX10_towers, cX10_towers, 4, some .int, 0, 3, [1041, 1039, 117, 1040])
def md_166 : si_M := (10, yX10_wheels, cX10_wheels, 4, some .int, 0, 3, [1053, 1051, 117, 1052])
def md_167 : si_M := (10, yX10_shows, cX10_shows, 3, some .int, 0, 2, [1063, 1061, 117, 1062])
def md_168 : si_M := (10, yX10_clockIs, cX10_clockIs, 3, some .int, 0, 2, [1076, 1074, 117, 1075])
def md_169 : si_M := (10, yX10_agree, cX10_agree, 5, some .int, 0, 4, [1092, 1090, 117, 1091])
def md_170 : si_M := (10, yX10_agreeing, cX10_agreeing, 3, some .int, 0, 2, [1109, 1107, 117, 1108])
def md_171 : si_M := (10, yX10_all, cX10_all, 2, some .int, 0, 1, [1118, 1116, 117, 1117])
def md_172 : si_M := (10, yX10_nearest, cX10_nearest, 4, some .int, 0, 2, [1130, 1128, 117, 1129])
def md_173 : si_M := (10, yX10_most, cX10_most, 4, some .int, 0, 2, [1147, 1145, 117, 1146])
def md_174 : si_M := (10, yX10_pairs, cX10_pairs, 3, some .int, 0, 2, [1160, 1158, 117, 1159])
def md_175 : si_M := (10, yX10_spread, cX10_spread, 2, some .int, 0, 1, [1168, 1166, 117, 1167])
def md_176 : si_M := (10, yX10_goodTimes, cX10_goodTimes, 8, some .int, 0, 4, [1181, 1179, 117, 1180])
def md_177 : si_M := (10, yX10_setBy, cX10_setBy, 3, some .boolean, 0, 2, [1198, 1196, 117, 1197])
def md_178 : si_M := (10, yX10_appointment, cX10_appointment, 3, some .int, 0, 2, [1206, 1204, 117, 1205])
def md_179 : si_M := (10, yX10_meetings, cX10_meetings, 2, some .int, 0, 1, [1229, 1227, 117, 1228])
def md_180 : si_M := (10, yX10_days, cX10_days, 2, some .int, 0, 1, [1243, 1241, 117, 1242])
def md_181 : si_M := (10, yX10_tried, cX10_tried, 6, some .int, 0, 2, [1302, 1300, 117, 1301])
def md_182 : si_M := (10, yX10_together, cX10_together, 5, some .int, 0, 3, [1311, 1309, 117, 1310])
def md_183 : si_M := (10, yX10_seed, cX10_seed, 2, some .boolean, 0, 1, [1315, 1313, 117, 1314])
def md_184 : si_M := (10, yX10_keep, cX10_keep, 1, some .int, 0, 0, [1320, 1318, 117, 1319])
def md_185 : si_M := (10, yX10_undo, cX10_undo, 1, some .boolean, 0, 0, [1324, 1322, 117, 1323])
def md_186 : si_M := (10, yX10_check, cX10_check, 4, some .int, 0, 1, [1332, 1330, 117, 1331])
def md_187 : si_M := (10, yX10_count, cX10_count, 2, some .int, 0, 1, [1341, 1339, 117, 1340])
def md_188 : si_M := (10, yX10_isTwofold, cX10_isTwofold, 1, some .boolean, 1, 1, [789, 788, 117])
def md_189 : si_M := (10, yX10_isMarks, cX10_isMarks, 1, some .boolean, 1, 1, [444, 443, 117])
def md_190 : si_M := (10, yX10_isDays, cX10_isDays, 1, some .boolean, 1, 1, [1246, 1245, 117])
def md_191 : si_M := (10, yX10_isBetween, cX10_isBetween, 2, some .boolean, 1, 2, [883, 882, 117])
def md_192 : si_M := (10, yX10_canRead, cX10_canRead, 3, some .boolean, 0, 2, [480, 479, 117, 0])
def md_193 : si_M := (10, yX10_findBestTurns, cX10_findBestTurns, 6, some .int, 0, 1, [810, 809, 117, 14])
def md_194 : si_M := (10, yX10_countWheels, cX10_countWheels, 12, some .int, 0, 3, [1057, 1056, 117, 26])
def md_195 : si_M := (10, yX10_passDays, cX10_passDays, 5, some .int, 0, 2, [1250, 1249, 117, 30])
def md_196 : si_M := (10, yX10_passDay, cX10_passDay, 4, some .int, 0, 1, [1254, 1253, 117, 31])
def md_197 : si_M := (10, yX10_passDayOf, cX10_passDayOf, 8, some .boolean, 0, 2, [1258, 1257, 117, 32])
def md_198 : si_M := (10, yX10_within, cX10_within, 3, some .int, 1, 3, [1290, 1289, 117])
def md_199 : si_M := (10, yX10_through, cX10_through, 2, some .int, 1, 2, [711, 710, 117])
def md_200 : si_M := (10, yX10_modulo, cX10_modulo, 3, some .int, 1, 2, [718, 717, 117])
def md_201 : si_M := (11, yX11_init, cX11_init, 1, none, 2, 0, [1358, 1357, 129])
def md_202 : si_M := (11, yX11_in, cX11_in, 3, some .boolean, 1, 3, [1586, 1585, 129])
def md_203 : si_M := (11, yX11_min, cX11_min, 2, some .int, 1, 2, [1377, 1376, 129])
def md_204 : si_M := (11, yX11_max, cX11_max, 2, some .int, 1, 2, [1380, 1379, 129])
def md_205 : si_M := (11, yX11_size, cX11_size, 1, some .int, 1, 1, [1996, 1995, 129])
def md_206 : si_M := (11, yX11_has, cX11_has, 2, some .boolean, 1, 2, [1777, 1776, 129])
def md_207 : si_M := (11, yX11_down, cX11_down, 2, some .int, 1, 2, [1615, 1614, 129])
def md_208 : si_M := (11, yX11_mod, cX11_mod, 2, some .int, 1, 2, [1612, 1611, 129])
def md_209 : si_M := (11, yX11_shorter, cX11_shorter, 3, some .int, 1, 3, [1609, 1608, 129])
def md_210 : si_M := (11, yX11_copies, cX11_copies, 3, none, 1, 2, [2075, 2074, 129])
def md_211 : si_M := (11, yX11_isTime, cX11_isTime, 2, some .boolean, 0, 1, [1594, 1593, 129, 39])
def md_212 : si_M := (11, yX11_isClock, cX11_isClock, 2, some .boolean, 0, 1, [1910, 1909, 129, 90])
def md_213 : si_M := (11, yX11_areTwo, cX11_areTwo, 3, some .boolean, 0, 2, [1934, 1933, 129, 94])
def md_214 : si_M := (11, yX11_lookBy, cX11_lookBy, 2, some .int, 1, 2, [1374, 1373, 129])
def md_215 : si_M := (11, yX11_longAt, cX11_longAt, 2, some .int, 0, 1, [1367, 1366, 129, 37])
def md_216 : si_M := (11, yX11_shortAt, cX11_shortAt, 2, some .int, 0, 1, [1371, 1370, 129, 38])
def md_217 : si_M := (11, yX11_laysDial, cX11_laysDial, 4, none, 0, 2, [1363, 1362, 129, 36])
def md_218 : si_M := (11, yX11_dial, cX11_dial, 3, some .boolean, 0, 2, [1583, 1581, 129, 1582])
def md_219 : si_M := (11, yX11_nextAlike, cX11_nextAlike, 3, some .int, 0, 1, [1598, 1597, 129, 40])
def md_220 : si_M := (11, yX11_inMirror, cX11_inMirror, 2, some .int, 0, 1, [1602, 1601, 129, 41])
def md_221 : si_M := (11, yX11_lowestOf, cX11_lowestOf, 3, some .int, 0, 1, [1606, 1605, 129, 42])
def md_222 : si_M := (11, yX11_reads, cX11_reads, 3, some .int, 0, 2, [1590, 1588, 129, 1589])
def md_223 : si_M := (11, yX11_exchanged, cX11_exchanged, 3, some .int, 0, 1, [1619, 1617, 129, 1618])
def md_224 : si_M := (11, yX11_mirrors, cX11_mirrors, 4, some .int, 0, 1, [1623, 1621, 129, 1622])
def md_225 : si_M := (11, yX11_canBeTold, cX11_canBeTold, 2, some .boolean, 0, 1, [1643, 1642, 129, 45])
def md_226 : si_M := (11, yX11_untoldMany, cX11_untoldMany, 3, some .int, 0, 0, [1639, 1638, 129, 44])
def md_227 : si_M := (11, yX11_untoldBy, cX11_untoldBy, 5, some .int, 0, 2, [1631, 1630, 129, 43])
def md_228 : si_M := (11, yX11_bestDial, cX11_bestDial, 7, some .int, 0, 2, [1627, 1625, 129, 1626])
def md_229 : si_M := (11, yX11_longestRow, cX11_longestRow, 5, some .int, 0, 1, [1651, 1650, 129, 47])
def md_230 : si_M := (11, yX11_firstUntold, cX11_firstUntold, 2, some .int, 0, 0, [1647, 1646, 129, 46])
def md_231 : si_M := (11, yX11_untold, cX11_untold, 2, some .int, 0, 1, [1635, 1633, 129, 1634])
def md_232 : si_M := (11, yX11_till, cX11_till, 3, some .int, 0, 1, [1655, 1653, 129, 1654])
def md_233 : si_M := (11, yX11_tells, cX11_tells, 4, some .boolean, 0, 2, [1663, 1662, 129, 48])
def md_234 : si_M := (11, yX11_glance, cX11_glance, 3, some .int, 0, 1, [1659, 1657, 129, 1658])
def md_235 : si_M := (11, yX11_covered, cX11_covered, 4, some .int, 0, 1, [1667, 1665, 129, 1666])
def md_236 : si_M := (11, yX11_apart, cX11_apart, 4, some .int, 0, 1, [1671, 1669, 129, 1670])
def md_237 : si_M := (11, yX11_types, cX11_types, 3, none, 0, 1, [1679, 1678, 129, 49])
def md_238 : si_M := (11, yX11_feed, cX11_feed, 6, some .int, 0, 5, [1675, 1673, 129, 1674])
def md_239 : si_M := (11, yX11_octet, cX11_octet, 2, some .int, 0, 1, [1805, 1804, 129, 74])
def md_240 : si_M := (11, yX11_here, cX11_here, 1, some .int, 0, 0, [1695, 1694, 129, 52])
def md_241 : si_M := (11, yX11_isDigit, cX11_isDigit, 1, some .boolean, 0, 0, [1716, 1715, 129, 57])
def md_242 : si_M := (11, yX11_wrongAt, cX11_wrongAt, 3, some .boolean, 0, 2, [1699, 1698, 129, 53])
def md_243 : si_M := (11, yX11_takes, cX11_takes, 2, some .boolean, 0, 1, [1766, 1765, 129, 68])
def md_244 : si_M := (11, yX11_readsNumber, cX11_readsNumber, 2, some .boolean, 0, 0, [1720, 1719, 129, 58])
def md_245 : si_M := (11, yX11_notes, cX11_notes, 3, none, 0, 2, [1724, 1723, 129, 59])
def md_246 : si_M := (11, yX11_opens, cX11_opens, 2, some .boolean, 0, 1, [1711, 1710, 129, 56])
def md_247 : si_M := (11, yX11_waitTop, cX11_waitTop, 1, some .int, 0, 0, [1738, 1737, 129, 61])
def md_248 : si_M := (11, yX11_factOf, cX11_factOf, 1, some .int, 1, 1, [1727, 1726, 129])
def md_249 : si_M := (11, yX11_sumSign, cX11_sumSign, 1, some .int, 1, 1, [1730, 1729, 129])
def md_250 : si_M := (11, yX11_closesSums, cX11_closesSums, 2, none, 0, 1, [1734, 1733, 129, 60])
def md_251 : si_M := (11, yX11_readsFactor, cX11_readsFactor, 2, some .boolean, 0, 0, [1707, 1706, 129, 55])
def md_252 : si_M := (11, yX11_hasOpenSum, cX11_hasOpenSum, 3, some .boolean, 0, 1, [1742, 1741, 129, 62])
def md_253 : si_M := (11, yX11_readsSum, cX11_readsSum, 3, some .boolean, 0, 0, [1703, 1702, 129, 54])
def md_254 : si_M := (11, yX11_endsPiece, cX11_endsPiece, 1, none, 0, 0, [1754, 1753, 129, 65])
def md_255 : si_M := (11, yX11_lands, cX11_lands, 3, none, 0, 1, [1758, 1757, 129, 66])
def md_256 : si_M := (11, yX11_jumps, cX11_jumps, 2, none, 0, 1, [1762, 1761, 129, 67])
def md_257 : si_M := (11, yX11_readsCompared, cX11_readsCompared, 2, some .boolean, 0, 0, [1750, 1749, 129, 64])
def md_258 : si_M := (11, yX11_readsCondition, cX11_readsCondition, 1, some .boolean, 0, 0, [1746, 1745, 129, 63])
def md_259 : si_M := (11, yX11_readsRule, cX11_readsRule, 2, some .boolean, 0, 0, [1691, 1690, 129, 51])
def md_260 : si_M := (11, yX11_beginsText, cX11_beginsText, 2, none, 0, 1, [1687, 1686, 129, 50])
def md_261 : si_M := (11, yX11_law, cX11_law, 4, some .int, 0, 1, [1683, 1681, 129, 1682])
def md_262 : si_M := (11, yX11_reckon, cX11_reckon, 3, some .int, 1, 3, [2064, 2063, 129])
def md_263 : si_M := (11, yX11_reckonsTo, cX11_reckonsTo, 8, some .int, 0, 2, [2061, 2060, 129, 113])
def md_264 : si_M := (11, yX11_byLaw, cX11_byLaw, 5, some .int, 0, 2, [2057, 2056, 129, 112])
def md_265 : si_M := (11, yX11_holdsAny, cX11_holdsAny, 3, some .boolean, 0, 1, [2068, 2067, 129, 114])
def md_266 : si_M := (11, yX11_readsAmount, cX11_readsAmount, 3, some .boolean, 0, 1, [1785, 1784, 129, 71])
def md_267 : si_M := (11, yX11_readsTime, cX11_readsTime, 2, some .boolean, 0, 0, [1781, 1780, 129, 70])
def md_268 : si_M := (11, yX11_readsClock, cX11_readsClock, 3, some .boolean, 0, 0, [1774, 1773, 129, 69])
def md_269 : si_M := (11, yX11_clocks, cX11_clocks, 4, some .int, 0, 1, [1770, 1768, 129, 1769])
def md_270 : si_M := (11, yX11_readsAppointment, cX11_readsAppointment, 3, some .boolean, 0, 0, [1793, 1792, 129, 72])
def md_271 : si_M := (11, yX11_book, cX11_book, 4, some .int, 0, 1, [1789, 1787, 129, 1788])
def md_272 : si_M := (11, yX11_lookIn, cX11_lookIn, 2, some .int, 0, 1, [1817, 1816, 129, 77])
def md_273 : si_M := (11, yX11_laysSteps, cX11_laysSteps, 4, none, 0, 2, [1809, 1808, 129, 75])
def md_274 : si_M := (11, yX11_areMarks, cX11_areMarks, 3, some .boolean, 0, 1, [1801, 1800, 129, 73])
def md_275 : si_M := (11, yX11_goesTo, cX11_goesTo, 6, some .long, 0, 1, [1837, 1836, 129, 82])
def md_276 : si_M := (11, yX11_beginsWith, cX11_beginsWith, 5, some .long, 0, 1, [1833, 1832, 129, 81])
def md_277 : si_M := (11, yX11_laysCan, cX11_laysCan, 4, none, 0, 1, [1813, 1812, 129, 76])
def md_278 : si_M := (11, yX11_comesBy, cX11_comesBy, 4, some .boolean, 0, 2, [1821, 1820, 129, 78])
def md_279 : si_M := (11, yX11_goesBy, cX11_goesBy, 4, some .boolean, 0, 2, [1825, 1824, 129, 79])
def md_280 : si_M := (11, yX11_sureOf, cX11_sureOf, 4, some .int, 0, 1, [1829, 1828, 129, 80])
def md_281 : si_M := (11, yX11_photographs, cX11_photographs, 8, some .int, 0, 4, [1797, 1795, 129, 1796])
def md_282 : si_M := (11, yX11_laysTimes, cX11_laysTimes, 4, none, 0, 1, [1846, 1845, 129, 83])
def md_283 : si_M := (11, yX11_stateOf, cX11_stateOf, 3, some .int, 1, 3, [1857, 1856, 129])
def md_284 : si_M := (11, yX11_rowsFrom, cX11_rowsFrom, 11, some .long, 0, 2, [1850, 1849, 129, 84])
def md_285 : si_M := (11, yX11_rowsInto, cX11_rowsInto, 8, some .long, 0, 3, [1854, 1853, 129, 85])
def md_286 : si_M := (11, yX11_anyOrder, cX11_anyOrder, 7, some .int, 0, 4, [1842, 1840, 129, 1841])
def md_287 : si_M := (11, yX11_strokesAt, cX11_strokesAt, 3, some .int, 0, 2, [1865, 1864, 129, 86])
def md_288 : si_M := (11, yX11_strokes, cX11_strokes, 6, some .int, 0, 3, [1861, 1859, 129, 1860])
def md_289 : si_M := (11, yX11_laysStrikes, cX11_laysStrikes, 3, none, 0, 1, [1873, 1872, 129, 87])
def md_290 : si_M := (11, yX11_quiet, cX11_quiet, 5, some .int, 0, 1, [1869, 1867, 129, 1868])
def md_291 : si_M := (11, yX11_strokesTill, cX11_strokesTill, 6, some .int, 0, 3, [1877, 1875, 129, 1876])
def md_292 : si_M := (11, yX11_isHeardFrom, cX11_isHeardFrom, 4, some .boolean, 0, 2, [1885, 1884, 129, 88])
def md_293 : si_M := (11, yX11_heard, cX11_heard, 7, some .int, 0, 3, [1881, 1879, 129, 1880])
def md_294 : si_M := (11, yX11_soundAlike, cX11_soundAlike, 5, some .boolean, 0, 3, [1893, 1892, 129, 89])
def md_295 : si_M := (11, yX11_listen, cX11_listen, 5, some .int, 0, 1, [1889, 1887, 129, 1888])
def md_296 : si_M := (11, yX11_towers, cX11_towers, 9, some .int, 0, 3, [1897, 1895, 129, 1896])
def md_297 : si_M := (11, yX11_wheels, cX11_wheels, 10, some .int, 0, 3, [1901, 1899, 129, 1900])
def md_298 : si_M := (11, yX11_showsAt, cX11_showsAt, 3, some .int, 0, 2, [1914, 1913, 129, 91])
def md_299 : si_M := (11, yX11_shows, cX11_shows, 3, some .int, 0, 2, [1906, 1904, 129, 1905])
def md_300 : si_M := (11, yX11_rightMany, cX11_rightMany, 4, some .int, 0, 1, [1922, 1921, 129, 92])
def md_301 : si_M := (11, yX11_firstRight, cX11_firstRight, 3, some .int, 0, 1, [1926, 1925, 129, 93])
def md_302 : si_M := (11, yX11_clockIs, cX11_clockIs, 3, some .int, 0, 2, [1918, 1916, 129, 1917])
def md_303 : si_M := (11, yX11_agreeAt, cX11_agreeAt, 7, some .boolean, 0, 4, [1938, 1937, 129, 95])
def md_304 : si_M := (11, yX11_agree, cX11_agree, 8, some .int, 0, 4, [1930, 1928, 129, 1929])
def md_305 : si_M := (11, yX11_agreeing, cX11_agreeing, 6, some .int, 0, 2, [1942, 1940, 129, 1941])
def md_306 : si_M := (11, yX11_allAgreeAt, cX11_allAgreeAt, 4, some .boolean, 0, 1, [1950, 1949, 129, 96])
def md_307 : si_M := (11, yX11_all, cX11_all, 5, some .int, 0, 1, [1946, 1944, 129, 1945])
def md_308 : si_M := (11, yX11_offAt, cX11_offAt, 3, some .int, 0, 2, [1958, 1957, 129, 97])
def md_309 : si_M := (11, yX11_nearest, cX11_nearest, 5, some .int, 0, 2, [1954, 1952, 129, 1953])
def md_310 : si_M := (11, yX11_howManyShow, cX11_howManyShow, 5, some .int, 0, 2, [1966, 1965, 129, 98])
def md_311 : si_M := (11, yX11_most, cX11_most, 6, some .int, 0, 2, [1962, 1960, 129, 1961])
def md_312 : si_M := (11, yX11_pairs, cX11_pairs, 6, some .int, 0, 2, [1970, 1968, 129, 1969])
def md_313 : si_M := (11, yX11_reachFrom, cX11_reachFrom, 5, some .int, 0, 2, [1978, 1977, 129, 99])
def md_314 : si_M := (11, yX11_spread, cX11_spread, 4, some .int, 0, 1, [1974, 1972, 129, 1973])
def md_315 : si_M := (11, yX11_thereAt, cX11_thereAt, 4, some .int, 0, 2, [1986, 1985, 129, 100])
def md_316 : si_M := (11, yX11_isMet, cX11_isMet, 3, some .boolean, 1, 3, [1993, 1992, 129])
def md_317 : si_M := (11, yX11_isMetAt, cX11_isMetAt, 2, some .boolean, 0, 1, [1990, 1989, 129, 101])
def md_318 : si_M := (11, yX11_waitedAt, cX11_waitedAt, 4, some .int, 0, 1, [2000, 1999, 129, 102])
def md_319 : si_M := (11, yX11_appointment, cX11_appointment, 3, some .int, 0, 2, [1982, 1980, 129, 1981])
def md_320 : si_M := (11, yX11_metInAll, cX11_metInAll, 3, some .int, 0, 0, [2008, 2007, 129, 103])
def md_321 : si_M := (11, yX11_waitedInAll, cX11_waitedInAll, 3, some .int, 0, 0, [2012, 2011, 129, 104])
def md_322 : si_M := (11, yX11_meetings, cX11_meetings, 2, some .int, 0, 1, [2004, 2002, 129, 2003])
def md_323 : si_M := (11, yX11_laysThere, cX11_laysThere, 4, none, 0, 2, [2020, 2019, 129, 105])
def md_324 : si_M := (11, yX11_goodTimes, cX11_goodTimes, 8, some .int, 0, 4, [2016, 2014, 129, 2015])
def md_325 : si_M := (11, yX11_setBy, cX11_setBy, 3, some .boolean, 0, 2, [2024, 2022, 129, 2023])
def md_326 : si_M := (11, yX11_isSet, cX11_isSet, 2, none, 0, 1, [2028, 2027, 129, 106])
def md_327 : si_M := (11, yX11_likeAhead, cX11_likeAhead, 4, some .int, 0, 1, [2053, 2052, 129, 111])
def md_328 : si_M := (11, yX11_feels, cX11_feels, 2, none, 0, 1, [2048, 2047, 129, 110])
def md_329 : si_M := (11, yX11_goesOn, cX11_goesOn, 6, none, 0, 1, [2044, 2043, 129, 109])
def md_330 : si_M := (11, yX11_dayGoes, cX11_dayGoes, 2, none, 0, 0, [2040, 2039, 129, 108])
def md_331 : si_M := (11, yX11_daysGo, cX11_daysGo, 3, none, 0, 1, [2036, 2035, 129, 107])
def md_332 : si_M := (11, yX11_days, cX11_days, 2, some .int, 0, 1, [2032, 2030, 129, 2031])
def md_333 : si_M := (11, yX11_tried, cX11_tried, 4, some .int, 0, 2, [2072, 2070, 129, 2071])
def md_334 : si_M := (11, yX11_together, cX11_together, 6, some .int, 0, 3, [2079, 2077, 129, 2078])
def md_335 : si_M := (11, yX11_seed, cX11_seed, 2, some .boolean, 0, 1, [2083, 2081, 129, 2082])
def md_336 : si_M := (11, yX11_keep, cX11_keep, 1, some .int, 0, 0, [2088, 2086, 129, 2087])
def md_337 : si_M := (11, yX11_undo, cX11_undo, 2, some .boolean, 0, 0, [2092, 2090, 129, 2091])
def md_338 : si_M := (11, yX11_check, cX11_check, 3, some .int, 0, 1, [2096, 2094, 129, 2095])
def md_339 : si_M := (11, yX11_setOfAll, cX11_setOfAll, 3, some .int, 0, 0, [2104, 2103, 129, 115])
def md_340 : si_M := (11, yX11_count, cX11_count, 2, some .int, 0, 1, [2100, 2098, 129, 2099])
def md_341 : si_M := (13, yJ9_floorDiv_7cf53, cJ9_floorDiv_7cf53, 3, some .int, 1, 2, [1071, 1070, 131])
def md_342 : si_M := (13, yJ9_abs_0f7a4, cJ9_abs_0f7a4, 1, some .int, 1, 1, [1193, 1192, 131])
def md_343 : si_M := (13, yJ9_max_7cf53, cJ9_max_7cf53, 2, some .int, 1, 2, [519, 518, 131])
def md_344 : si_M := (13, yJ9_min_7cf53, cJ9_min_7cf53, 2, some .int, 1, 2, [522, 521, 131])
def md_345 : si_M := (13, yJ9_min_f86c9, cJ9_min_f86c9, 4, some .long, 1, 2, [910, 909, 131])
def md_346 : si_M := (12, yL_law, code, 4, some .boolean, 1, 1, [])
def si_mds : List (List si_M) := [[md_0, md_1, md_2, md_3, md_4, md_5, md_6, md_7, md_8, md_9, md_10, md_11, md_12, md_13, md_14, md_15], [md_16, md_17, md_18, md_19, md_20, md_21, md_22, md_23, md_24, md_25, md_26, md_27, md_28, md_29, md_30, md_31], [md_32, md_33, md_34, md_35, md_36, md_37, md_38, md_39, md_40, md_41, md_42, md_43, md_44, md_45, md_46, md_47], [md_48, md_49, md_50, md_51, md_52, md_53, md_54, md_55, md_56, md_57, md_58, md_59, md_60, md_61, md_62, md_63], [md_64, md_65, md_66, md_67, md_68, md_69, md_70, md_71, md_72, md_73, md_74, md_75, md_76, md_77, md_78, md_79], [md_80, md_81, md_82, md_83, md_84, md_85, md_86, md_87, md_88, md_89, md_90, md_91, md_92, md_93, md_94, md_95], [md_96, md_97, md_98, md_99, md_100, md_101, md_102, md_103, md_104, md_105, md_106, md_107, md_108, md_109, md_110, md_111], [md_112, md_113, md_114, md_115, md_116, md_117, md_118, md_119, md_120, md_121, md_122, md_123, md_124, md_125, md_126, md_127], [md_128, md_129, md_130, md_131, md_132, md_133, md_134, md_135, md_136, md_137, md_138, md_139, md_140, md_141, md_142, md_143], [md_144, md_145, md_146, md_147, md_148, md_149, md_150, md_151, md_152, md_153, md_154, md_155, md_156, md_157, md_158, md_159], [md_160, md_161, md_162, md_163, md_164, md_165, md_166, md_167, md_168, md_169, md_170, md_171, md_172, md_173, md_174, md_175], [md_176, md_177, md_178, md_179, md_180, md_181, md_182, md_183, md_184, md_185, md_186, md_187, md_188, md_189, md_190, md_191], [md_192, md_193, md_194, md_195, md_196, md_197, md_198, md_199, md_200, md_201, md_202, md_203, md_204, md_205, md_206, md_207], [md_208, md_209, md_210, md_211, md_212, md_213, md_214, md_215, md_216, md_217, md_218, md_219, md_220, md_221, md_222, md_223], [md_224, md_225, md_226, md_227, md_228, md_229, md_230, md_231, md_232, md_233, md_234, md_235, md_236, md_237, md_238, md_239], [md_240, md_241, md_242, md_243, md_244, md_245, md_246, md_247, md_248, md_249, md_250, md_251, md_252, md_253, md_254, md_255], [md_256, md_257, md_258, md_259, md_260, md_261, md_262, md_263, md_264, md_265, md_266, md_267, md_268, md_269, md_270, md_271], [md_272, md_273, md_274, md_275, md_276, md_277, md_278, md_279, md_280, md_281, md_282, md_283, md_284, md_285, md_286, md_287], [md_288, md_289, md_290, md_291, md_292, md_293, md_294, md_295, md_296, md_297, md_298, md_299, md_300, md_301, md_302, md_303], [md_304, md_305, md_306, md_307, md_308, md_309, md_310, md_311, md_312, md_313, md_314, md_315, md_316, md_317, md_318, md_319], [md_320, md_321, md_322, md_323, md_324, md_325, md_326, md_327, md_328, md_329, md_330, md_331, md_332, md_333, md_334, md_335], [md_336, md_337, md_338, md_339, md_340, md_341, md_342, md_343, md_344, md_345, md_346]]
def si_cds : List (List (List (List (Option si_E)))) := [[cd_0, cd_1, cd_2, cd_3, cd_4, cd_5, cd_6, cd_7, cd_8, cd_9, cd_10, cd_11, cd_12, cd_13, cd_14, cd_15], [cd_16, cd_17, cd_18, cd_19, cd_20, cd_21, cd_22, cd_23, cd_24, cd_25, cd_26, cd_27, cd_28, cd_29, cd_30, cd_31], [cd_32, cd_33, cd_34, cd_35, cd_36, cd_37, cd_38, cd_39, cd_40, cd_41, cd_42, cd_43, cd_44, cd_45, cd_46, cd_47], [cd_48, cd_49, cd_50, cd_51, cd_52, cd_53, cd_54, cd_55, cd_56, cd_57, cd_58, cd_59, cd_60, cd_61, cd_62, cd_63], [cd_64, cd_65, cd_66, cd_67, cd_68, cd_69, cd_70, cd_71, cd_72, cd_73, cd_74, cd_75, cd_76, cd_77, cd_78, cd_79], [cd_80, cd_81, cd_82, cd_83, cd_84, cd_85, cd_86, cd_87, cd_88, cd_89, cd_90, cd_91, cd_92, cd_93, cd_94, cd_95], [cd_96, cd_97, cd_98, cd_99, cd_100, cd_101, cd_102, cd_103, cd_104, cd_105, cd_106, cd_107, cd_108, cd_109, cd_110, cd_111], [cd_112, cd_113, cd_114, cd_115, cd_116, cd_117, cd_118, cd_119, cd_120, cd_121, cd_122, cd_123, cd_124, cd_125, cd_126, cd_127], [cd_128, cd_129, cd_130, cd_131, cd_132, cd_133, cd_134, cd_135, cd_136, cd_137, cd_138, cd_139, cd_140, cd_141, cd_142, cd_143], [cd_144, cd_145, cd_146, cd_147, cd_148, cd_149, cd_150, cd_151, cd_152, cd_153, cd_154, cd_155, cd_156, cd_157, cd_158, cd_159], [cd_160, cd_161, cd_162, cd_163, cd_164, cd_165, cd_166, cd_167, cd_168, cd_169, cd_170, cd_171, cd_172, cd_173, cd_174, cd_175], [cd_176, cd_177, cd_178, cd_179, cd_180, cd_181, cd_182, cd_183, cd_184, cd_185, cd_186, cd_187, cd_188, cd_189, cd_190, cd_191], [cd_192, cd_193, cd_194, cd_195, cd_196, cd_197, cd_198, cd_199, cd_200, cd_201, cd_202, cd_203, cd_204, cd_205, cd_206, cd_207], [cd_208, cd_209, cd_210, cd_211, cd_212, cd_213, cd_214, cd_215, cd_216, cd_217, cd_218, cd_219, cd_220, cd_221, cd_222, cd_223], [cd_224, cd_225, cd_226, cd_227, cd_228, cd_229, cd_230, cd_231, cd_232, cd_233, cd_234, cd_235, cd_236, cd_237, cd_238, cd_239], [cd_240, cd_241, cd_242, cd_243, cd_244, cd_245, cd_246, cd_247, cd_248, cd_249, cd_250, cd_251, cd_252, cd_253, cd_254, cd_255], [cd_256, cd_257, cd_258, cd_259, cd_260, cd_261, cd_262, cd_263, cd_264, cd_265, cd_266, cd_267, cd_268, cd_269, cd_270, cd_271], [cd_272, cd_273, cd_274, cd_275, cd_276, cd_277, cd_278, cd_279, cd_280, cd_281, cd_282, cd_283, cd_284, cd_285, cd_286, cd_287], [cd_288, cd_289, cd_290, cd_291, cd_292, cd_293, cd_294, cd_295, cd_296, cd_297, cd_298, cd_299, cd_300, cd_301, cd_302, cd_303], [cd_304, cd_305, cd_306, cd_307, cd_308, cd_309, cd_310, cd_311, cd_312, cd_313, cd_314, cd_315, cd_316, cd_317, cd_318, cd_319], [cd_320, cd_321, cd_322, cd_323, cd_324, cd_325, cd_326, cd_327, cd_328, cd_329, cd_330, cd_331, cd_332, cd_333, cd_334, cd_335], [cd_336, cd_337, cd_338, cd_339, cd_340, cd_341, cd_342, cd_343, cd_344, cd_345, cd_346]]
def si_m (i : Nat) : Option si_M := match si_mds[i / 16]? with
  | some r => r[i % 16]?
  | none => none
def si_fetch (i pc : Nat) : Option si_E := match si_cds[i / 16]? with
  | some r => (match r[i % 16]? with
    | some cd => (match cd[pc / 32]? with
      | some x => (match x[pc % 32]? with
        | some (some e) => some e
        | _ => none)
      | none => none)
    | none => none)
  | none => none
end
section
section FastDecode
variable {b : ByteArray} {pc : Nat}
theorem fd_u1 {p : Nat} {x : UInt8} (h : b.data.toList[p]? = some x) : (ClassFile.Reader.u1 : ClassFile.Decoder Nat) b p = .ok (x.toNat, p + 1) := by
  have hl : p < b.size := by
    have := (List.getElem?_eq_some_iff.mp h).1
    simpa using this
  have hg : b[p]'hl = x := by
    have h2 := (List.getElem?_eq_some_iff.mp h).2
    rw [← h2]
    rfl
  show (dite (p < b.size) _ _ : ClassFile.Decoder Nat) b p = _
  rw [dif_pos hl]
  show Except.ok ((b[p]'hl).toNat, p + 1) = _
  rw [hg]
theorem fd_bind {α β : Type} {r : ClassFile.Decoder α} {f : α → ClassFile.Decoder β} {p q : Nat} {a : α} (h : r b p = .ok (a, q)) : (r >>= f) b p = f a b q := by
  show Except.bind (r b p) (fun v => f v.1 b v.2) = _
  rw [h]
  rfl
theorem fd_u2 {p : Nat} {x y : UInt8} (h : b.data.toList[p]? = some x) (h2 : b.data.toList[p + 1]? = some y) : (ClassFile.Reader.u2 : ClassFile.Decoder Nat) b p = .ok (x.toNat * 256 + y.toNat, p + 2) := by
  show ((ClassFile.Reader.u1 : ClassFile.Decoder Nat) >>= fun hi => (ClassFile.Reader.u1 : ClassFile.Decoder Nat) >>= fun lo => Pure.pure (hi * 256 + lo)) b p = _
  rw [fd_bind (fd_u1 h), fd_bind (fd_u1 h2)]
  rfl
theorem fd_s1 {p : Nat} {x : UInt8} (h : b.data.toList[p]? = some x) : (ClassFile.Reader.s1 : ClassFile.Decoder Int) b p = .ok (ClassFile.Reader.signed 8 x.toNat, p + 1) := by
  show Except.bind ((ClassFile.Reader.u1 : ClassFile.Decoder Nat) b p) (fun v => Except.ok (ClassFile.Reader.signed 8 v.1, v.2)) = _
  rw [fd_u1 h]
  rfl
theorem fd_s2 {p : Nat} {x y : UInt8} (h : b.data.toList[p]? = some x) (h2 : b.data.toList[p + 1]? = some y) : (ClassFile.Reader.s2 : ClassFile.Decoder Int) b p = .ok (ClassFile.Reader.signed 16 (x.toNat * 256 + y.toNat), p + 2) := by
  show Except.bind ((ClassFile.Reader.u2 : ClassFile.Decoder Nat) b p) (fun v => Except.ok (ClassFile.Reader.signed 16 v.1, v.2)) = _
  rw [fd_u2 h h2]
  rfl
theorem fd_fin {I : Instr} {n : Nat} (h : ClassFile.Decoder.instr pc b pc = .ok (I, pc + n)) : decode b pc = .ok (I, n) := by
  show Except.bind (ClassFile.Decoder.instr pc b pc) (fun v => Except.ok (v.1, v.2 - pc)) = _
  rw [h]
  show Except.ok (I, pc + n - pc) = _
  rw [Nat.add_sub_cancel_left]
set_option maxRecDepth 100000 in
theorem fd_46 (h0 : b.data.toList[pc]? = some 46) : decode b pc = .ok (.iaload, 1) := by
  refine fd_fin ?_
  unfold ClassFile.Decoder.instr
  refine (fd_bind (fd_u1 h0)).trans ?_
  rfl
set_option maxRecDepth 100000 in
theorem fd_47 (h0 : b.data.toList[pc]? = some 47) : decode b pc = .ok (.laload, 1) := by
  refine fd_fin ?_
  unfold ClassFile.Decoder.instr
  refine (fd_bind (fd_u1 h0)).trans ?_
  rfl
set_option maxRecDepth 100000 in
theorem fd_51 (h0 : b.data.toList[pc]? = some 51) : decode b pc = .ok (.baload, 1) := by
  refine fd_fin ?_
  unfold ClassFile.Decoder.instr
  refine (fd_bind (fd_u1 h0)).trans ?_
  rfl
set_option maxRecDepth 100000 in
theorem fd_79 (h0 : b.data.toList[pc]? = some 79) : decode b pc = .ok (.iastore, 1) := by
  refine fd_fin ?_
  unfold ClassFile.Decoder.instr
  refine (fd_bind (fd_u1 h0)).trans ?_
  rfl
set_option maxRecDepth 100000 in
theorem fd_80 (h0 : b.data.toList[pc]? = some 80) : decode b pc = .ok (.lastore, 1) := by
  refine fd_fin ?_
  unfold ClassFile.Decoder.instr
  refine (fd_bind (fd_u1 h0)).trans ?_
  rfl
set_option maxRecDepth 100000 in
theorem fd_84 (h0 : b.data.toList[pc]? = some 84) : decode b pc = .ok (.bastore, 1) := by
  refine fd_fin ?_
  unfold ClassFile.Decoder.instr
  refine (fd_bind (fd_u1 h0)).trans ?_
  rfl
set_option maxRecDepth 100000 in
theorem fd_87 (h0 : b.data.toList[pc]? = some 87) : decode b pc = .ok (.pop, 1) := by
  refine fd_fin ?_
  unfold ClassFile.Decoder.instr
  refine (fd_bind (fd_u1 h0)).trans ?_
  rfl
set_option maxRecDepth 100000 in
theorem fd_89 (h0 : b.data.toList[pc]? = some 89) : decode b pc = .ok (.dup, 1) := by
  refine fd_fin ?_
  unfold ClassFile.Decoder.instr
  refine (fd_bind (fd_u1 h0)).trans ?_
  rfl
set_option maxRecDepth 100000 in
theorem fd_96 (h0 : b.data.toList[pc]? = some 96) : decode b pc = .ok (.iadd, 1) := by
  refine fd_fin ?_
  unfold ClassFile.Decoder.instr
  refine (fd_bind (fd_u1 h0)).trans ?_
  rfl
set_option maxRecDepth 100000 in
theorem fd_97 (h0 : b.data.toList[pc]? = some 97) : decode b pc = .ok (.ladd, 1) := by
  refine fd_fin ?_
  unfold ClassFile.Decoder.instr
  refine (fd_bind (fd_u1 h0)).trans ?_
  rfl
set_option maxRecDepth 100000 in
theorem fd_100 (h0 : b.data.toList[pc]? = some 100) : decode b pc = .ok (.isub, 1) := by
  refine fd_fin ?_
  unfold ClassFile.Decoder.instr
  refine (fd_bind (fd_u1 h0)).trans ?_
  rfl
set_option maxRecDepth 100000 in
theorem fd_104 (h0 : b.data.toList[pc]? = some 104) : decode b pc = .ok (.imul, 1) := by
  refine fd_fin ?_
  unfold ClassFile.Decoder.instr
  refine (fd_bind (fd_u1 h0)).trans ?_
  rfl
set_option maxRecDepth 100000 in
theorem fd_108 (h0 : b.data.toList[pc]? = some 108) : decode b pc = .ok (.idiv, 1) := by
  refine fd_fin ?_
  unfold ClassFile.Decoder.instr
  refine (fd_bind (fd_u1 h0)).trans ?_
  rfl
set_option maxRecDepth 100000 in
theorem fd_112 (h0 : b.data.toList[pc]? = some 112) : decode b pc = .ok (.irem, 1) := by
  refine fd_fin ?_
  unfold ClassFile.Decoder.instr
  refine (fd_bind (fd_u1 h0)).trans ?_
  rfl
set_option maxRecDepth 100000 in
theorem fd_116 (h0 : b.data.toList[pc]? = some 116) : decode b pc = .ok (.ineg, 1) := by
  refine fd_fin ?_
  unfold ClassFile.Decoder.instr
  refine (fd_bind (fd_u1 h0)).trans ?_
  rfl
set_option maxRecDepth 100000 in
theorem fd_120 (h0 : b.data.toList[pc]? = some 120) : decode b pc = .ok (.ishl, 1) := by
  refine fd_fin ?_
  unfold ClassFile.Decoder.instr
  refine (fd_bind (fd_u1 h0)).trans ?_
  rfl
set_option maxRecDepth 100000 in
theorem fd_122 (h0 : b.data.toList[pc]? = some 122) : decode b pc = .ok (.ishr, 1) := by
  refine fd_fin ?_
  unfold ClassFile.Decoder.instr
  refine (fd_bind (fd_u1 h0)).trans ?_
  rfl
set_option maxRecDepth 100000 in
theorem fd_124 (h0 : b.data.toList[pc]? = some 124) : decode b pc = .ok (.iushr, 1) := by
  refine fd_fin ?_
  unfold ClassFile.Decoder.instr
  refine (fd_bind (fd_u1 h0)).trans ?_
  rfl
set_option maxRecDepth 100000 in
theorem fd_126 (h0 : b.data.toList[pc]? = some 126) : decode b pc = .ok (.iand, 1) := by
  refine fd_fin ?_
  unfold ClassFile.Decoder.instr
  refine (fd_bind (fd_u1 h0)).trans ?_
  rfl
set_option maxRecDepth 100000 in
theorem fd_128 (h0 : b.data.toList[pc]? = some 128) : decode b pc = .ok (.ior, 1) := by
  refine fd_fin ?_
  unfold ClassFile.Decoder.instr
  refine (fd_bind (fd_u1 h0)).trans ?_
  rfl
set_option maxRecDepth 100000 in
theorem fd_130 (h0 : b.data.toList[pc]? = some 130) : decode b pc = .ok (.ixor, 1) := by
  refine fd_fin ?_
  unfold ClassFile.Decoder.instr
  refine (fd_bind (fd_u1 h0)).trans ?_
  rfl
set_option maxRecDepth 100000 in
theorem fd_133 (h0 : b.data.toList[pc]? = some 133) : decode b pc = .ok (.i2l, 1) := by
  refine fd_fin ?_
  unfold ClassFile.Decoder.instr
  refine (fd_bind (fd_u1 h0)).trans ?_
  rfl
set_option maxRecDepth 100000 in
theorem fd_136 (h0 : b.data.toList[pc]? = some 136) : decode b pc = .ok (.l2i, 1) := by
  refine fd_fin ?_
  unfold ClassFile.Decoder.instr
  refine (fd_bind (fd_u1 h0)).trans ?_
  rfl
set_option maxRecDepth 100000 in
theorem fd_145 (h0 : b.data.toList[pc]? = some 145) : decode b pc = .ok (.i2b, 1) := by
  refine fd_fin ?_
  unfold ClassFile.Decoder.instr
  refine (fd_bind (fd_u1 h0)).trans ?_
  rfl
set_option maxRecDepth 100000 in
theorem fd_146 (h0 : b.data.toList[pc]? = some 146) : decode b pc = .ok (.i2c, 1) := by
  refine fd_fin ?_
  unfold ClassFile.Decoder.instr
  refine (fd_bind (fd_u1 h0)).trans ?_
  rfl
set_option maxRecDepth 100000 in
theorem fd_148 (h0 : b.data.toList[pc]? = some 148) : decode b pc = .ok (.lcmp, 1) := by
  refine fd_fin ?_
  unfold ClassFile.Decoder.instr
  refine (fd_bind (fd_u1 h0)).trans ?_
  rfl
set_option maxRecDepth 100000 in
theorem fd_172 (h0 : b.data.toList[pc]? = some 172) : decode b pc = .ok (.ireturn, 1) := by
  refine fd_fin ?_
  unfold ClassFile.Decoder.instr
  refine (fd_bind (fd_u1 h0)).trans ?_
  rfl
set_option maxRecDepth 100000 in
theorem fd_173 (h0 : b.data.toList[pc]? = some 173) : decode b pc = .ok (.lreturn, 1) := by
  refine fd_fin ?_
  unfold ClassFile.Decoder.instr
  refine (fd_bind (fd_u1 h0)).trans ?_
  rfl
set_option maxRecDepth 100000 in
theorem fd_177 (h0 : b.data.toList[pc]? = some 177) : decode b pc = .ok (.return_, 1) := by
  refine fd_fin ?_
  unfold ClassFile.Decoder.instr
  refine (fd_bind (fd_u1 h0)).trans ?_
  rfl
set_option maxRecDepth 100000 in
theorem fd_190 (h0 : b.data.toList[pc]? = some 190) : decode b pc = .ok (.arraylength, 1) := by
  refine fd_fin ?_
  unfold ClassFile.Decoder.instr
  refine (fd_bind (fd_u1 h0)).trans ?_
  rfl
set_option maxRecDepth 100000 in
theorem fd_2 (h0 : b.data.toList[pc]? = some 2) : decode b pc = .ok (.iconst (-1), 1) := by
  refine fd_fin ?_
  unfold ClassFile.Decoder.instr
  refine (fd_bind (fd_u1 h0)).trans ?_
  rfl
set_option maxRecDepth 100000 in
theorem fd_3 (h0 : b.data.toList[pc]? = some 3) : decode b pc = .ok (.iconst (0), 1) := by
  refine fd_fin ?_
  unfold ClassFile.Decoder.instr
  refine (fd_bind (fd_u1 h0)).trans ?_
  rfl
set_option maxRecDepth 100000 in
theorem fd_4 (h0 : b.data.toList[pc]? = some 4) : decode b pc = .ok (.iconst (1), 1) := by
  refine fd_fin ?_
  unfold ClassFile.Decoder.instr
  refine (fd_bind (fd_u1 h0)).trans ?_
  rfl
set_option maxRecDepth 100000 in
theorem fd_5 (h0 : b.data.toList[pc]? = some 5) : decode b pc = .ok (.iconst (2), 1) := by
  refine fd_fin ?_
  unfold ClassFile.Decoder.instr
  refine (fd_bind (fd_u1 h0)).trans ?_
  rfl
set_option maxRecDepth 100000 in
theorem fd_6 (h0 : b.data.toList[pc]? = some 6) : decode b pc = .ok (.iconst (3), 1) := by
  refine fd_fin ?_
  unfold ClassFile.Decoder.instr
  refine (fd_bind (fd_u1 h0)).trans ?_
  rfl
set_option maxRecDepth 100000 in
theorem fd_7 (h0 : b.data.toList[pc]? = some 7) : decode b pc = .ok (.iconst (4), 1) := by
  refine fd_fin ?_
  unfold ClassFile.Decoder.instr
  refine (fd_bind (fd_u1 h0)).trans ?_
  rfl
set_option maxRecDepth 100000 in
theorem fd_8 (h0 : b.data.toList[pc]? = some 8) : decode b pc = .ok (.iconst (5), 1) := by
  refine fd_fin ?_
  unfold ClassFile.Decoder.instr
  refine (fd_bind (fd_u1 h0)).trans ?_
  rfl
set_option maxRecDepth 100000 in
theorem fd_9 (h0 : b.data.toList[pc]? = some 9) : decode b pc = .ok (.lconst 0, 1) := by
  refine fd_fin ?_
  unfold ClassFile.Decoder.instr
  refine (fd_bind (fd_u1 h0)).trans ?_
  rfl
set_option maxRecDepth 100000 in
theorem fd_10 (h0 : b.data.toList[pc]? = some 10) : decode b pc = .ok (.lconst 1, 1) := by
  refine fd_fin ?_
  unfold ClassFile.Decoder.instr
  refine (fd_bind (fd_u1 h0)).trans ?_
  rfl
set_option maxRecDepth 100000 in
theorem fd_26 (h0 : b.data.toList[pc]? = some 26) : decode b pc = .ok (.iload_n 0, 1) := by
  refine fd_fin ?_
  unfold ClassFile.Decoder.instr
  refine (fd_bind (fd_u1 h0)).trans ?_
  rfl
set_option maxRecDepth 100000 in
theorem fd_27 (h0 : b.data.toList[pc]? = some 27) : decode b pc = .ok (.iload_n 1, 1) := by
  refine fd_fin ?_
  unfold ClassFile.Decoder.instr
  refine (fd_bind (fd_u1 h0)).trans ?_
  rfl
set_option maxRecDepth 100000 in
theorem fd_28 (h0 : b.data.toList[pc]? = some 28) : decode b pc = .ok (.iload_n 2, 1) := by
  refine fd_fin ?_
  unfold ClassFile.Decoder.instr
  refine (fd_bind (fd_u1 h0)).trans ?_
  rfl
set_option maxRecDepth 100000 in
theorem fd_29 (h0 : b.data.toList[pc]? = some 29) : decode b pc = .ok (.iload_n 3, 1) := by
  refine fd_fin ?_
  unfold ClassFile.Decoder.instr
  refine (fd_bind (fd_u1 h0)).trans ?_
  rfl
set_option maxRecDepth 100000 in
theorem fd_30 (h0 : b.data.toList[pc]? = some 30) : decode b pc = .ok (.lload_n 0, 1) := by
  refine fd_fin ?_
  unfold ClassFile.Decoder.instr
  refine (fd_bind (fd_u1 h0)).trans ?_
  rfl
set_option maxRecDepth 100000 in
theorem fd_31 (h0 : b.data.toList[pc]? = some 31) : decode b pc = .ok (.lload_n 1, 1) := by
  refine fd_fin ?_
  unfold ClassFile.Decoder.instr
  refine (fd_bind (fd_u1 h0)).trans ?_
  rfl
set_option maxRecDepth 100000 in
theorem fd_32 (h0 : b.data.toList[pc]? = some 32) : decode b pc = .ok (.lload_n 2, 1) := by
  refine fd_fin ?_
  unfold ClassFile.Decoder.instr
  refine (fd_bind (fd_u1 h0)).trans ?_
  rfl
set_option maxRecDepth 100000 in
theorem fd_33 (h0 : b.data.toList[pc]? = some 33) : decode b pc = .ok (.lload_n 3, 1) := by
  refine fd_fin ?_
  unfold ClassFile.Decoder.instr
  refine (fd_bind (fd_u1 h0)).trans ?_
  rfl
set_option maxRecDepth 100000 in
theorem fd_42 (h0 : b.data.toList[pc]? = some 42) : decode b pc = .ok (.aload_n 0, 1) := by
  refine fd_fin ?_
  unfold ClassFile.Decoder.instr
  refine (fd_bind (fd_u1 h0)).trans ?_
  rfl
set_option maxRecDepth 100000 in
theorem fd_43 (h0 : b.data.toList[pc]? = some 43) : decode b pc = .ok (.aload_n 1, 1) := by
  refine fd_fin ?_
  unfold ClassFile.Decoder.instr
  refine (fd_bind (fd_u1 h0)).trans ?_
  rfl
set_option maxRecDepth 100000 in
theorem fd_44 (h0 : b.data.toList[pc]? = some 44) : decode b pc = .ok (.aload_n 2, 1) := by
  refine fd_fin ?_
  unfold ClassFile.Decoder.instr
  refine (fd_bind (fd_u1 h0)).trans ?_
  rfl
set_option maxRecDepth 100000 in
theorem fd_45 (h0 : b.data.toList[pc]? = some 45) : decode b pc = .ok (.aload_n 3, 1) := by
  refine fd_fin ?_
  unfold ClassFile.Decoder.instr
  refine (fd_bind (fd_u1 h0)).trans ?_
  rfl
set_option maxRecDepth 100000 in
theorem fd_59 (h0 : b.data.toList[pc]? = some 59) : decode b pc = .ok (.istore_n 0, 1) := by
  refine fd_fin ?_
  unfold ClassFile.Decoder.instr
  refine (fd_bind (fd_u1 h0)).trans ?_
  rfl
set_option maxRecDepth 100000 in
theorem fd_60 (h0 : b.data.toList[pc]? = some 60) : decode b pc = .ok (.istore_n 1, 1) := by
  refine fd_fin ?_
  unfold ClassFile.Decoder.instr
  refine (fd_bind (fd_u1 h0)).trans ?_
  rfl
set_option maxRecDepth 100000 in
theorem fd_61 (h0 : b.data.toList[pc]? = some 61) : decode b pc = .ok (.istore_n 2, 1) := by
  refine fd_fin ?_
  unfold ClassFile.Decoder.instr
  refine (fd_bind (fd_u1 h0)).trans ?_
  rfl
set_option maxRecDepth 100000 in
theorem fd_62 (h0 : b.data.toList[pc]? = some 62) : decode b pc = .ok (.istore_n 3, 1) := by
  refine fd_fin ?_
  unfold ClassFile.Decoder.instr
  refine (fd_bind (fd_u1 h0)).trans ?_
  rfl
set_option maxRecDepth 100000 in
theorem fd_63 (h0 : b.data.toList[pc]? = some 63) : decode b pc = .ok (.lstore_n 0, 1) := by
  refine fd_fin ?_
  unfold ClassFile.Decoder.instr
  refine (fd_bind (fd_u1 h0)).trans ?_
  rfl
set_option maxRecDepth 100000 in
theorem fd_64 (h0 : b.data.toList[pc]? = some 64) : decode b pc = .ok (.lstore_n 1, 1) := by
  refine fd_fin ?_
  unfold ClassFile.Decoder.instr
  refine (fd_bind (fd_u1 h0)).trans ?_
  rfl
set_option maxRecDepth 100000 in
theorem fd_65 (h0 : b.data.toList[pc]? = some 65) : decode b pc = .ok (.lstore_n 2, 1) := by
  refine fd_fin ?_
  unfold ClassFile.Decoder.instr
  refine (fd_bind (fd_u1 h0)).trans ?_
  rfl
set_option maxRecDepth 100000 in
theorem fd_66 (h0 : b.data.toList[pc]? = some 66) : decode b pc = .ok (.lstore_n 3, 1) := by
  refine fd_fin ?_
  unfold ClassFile.Decoder.instr
  refine (fd_bind (fd_u1 h0)).trans ?_
  rfl
set_option maxRecDepth 100000 in
theorem fd_75 (h0 : b.data.toList[pc]? = some 75) : decode b pc = .ok (.astore_n 0, 1) := by
  refine fd_fin ?_
  unfold ClassFile.Decoder.instr
  refine (fd_bind (fd_u1 h0)).trans ?_
  rfl
set_option maxRecDepth 100000 in
theorem fd_76 (h0 : b.data.toList[pc]? = some 76) : decode b pc = .ok (.astore_n 1, 1) := by
  refine fd_fin ?_
  unfold ClassFile.Decoder.instr
  refine (fd_bind (fd_u1 h0)).trans ?_
  rfl
set_option maxRecDepth 100000 in
theorem fd_77 (h0 : b.data.toList[pc]? = some 77) : decode b pc = .ok (.astore_n 2, 1) := by
  refine fd_fin ?_
  unfold ClassFile.Decoder.instr
  refine (fd_bind (fd_u1 h0)).trans ?_
  rfl
set_option maxRecDepth 100000 in
theorem fd_78 (h0 : b.data.toList[pc]? = some 78) : decode b pc = .ok (.astore_n 3, 1) := by
  refine fd_fin ?_
  unfold ClassFile.Decoder.instr
  refine (fd_bind (fd_u1 h0)).trans ?_
  rfl
set_option maxRecDepth 100000 in
theorem fd_18 {x : UInt8} (h0 : b.data.toList[pc]? = some 18) (h1 : b.data.toList[pc + 1]? = some x) : decode b pc = .ok (.ldc x.toNat, 2) := by
  refine fd_fin ?_
  unfold ClassFile.Decoder.instr
  refine (fd_bind (fd_u1 h0)).trans ?_
  exact fd_bind (r := ClassFile.Reader.u1) (f := fun v => Pure.pure (Instr.ldc v)) (fd_u1 h1)
set_option maxRecDepth 100000 in
theorem fd_21 {x : UInt8} (h0 : b.data.toList[pc]? = some 21) (h1 : b.data.toList[pc + 1]? = some x) : decode b pc = .ok (.iload x.toNat, 2) := by
  refine fd_fin ?_
  unfold ClassFile.Decoder.instr
  refine (fd_bind (fd_u1 h0)).trans ?_
  exact fd_bind (r := ClassFile.Reader.u1) (f := fun v => Pure.pure (Instr.iload v)) (fd_u1 h1)
set_option maxRecDepth 100000 in
theorem fd_22 {x : UInt8} (h0 : b.data.toList[pc]? = some 22) (h1 : b.data.toList[pc + 1]? = some x) : decode b pc = .ok (.lload x.toNat, 2) := by
  refine fd_fin ?_
  unfold ClassFile.Decoder.instr
  refine (fd_bind (fd_u1 h0)).trans ?_
  exact fd_bind (r := ClassFile.Reader.u1) (f := fun v => Pure.pure (Instr.lload v)) (fd_u1 h1)
set_option maxRecDepth 100000 in
theorem fd_25 {x : UInt8} (h0 : b.data.toList[pc]? = some 25) (h1 : b.data.toList[pc + 1]? = some x) : decode b pc = .ok (.aload x.toNat, 2) := by
  refine fd_fin ?_
  unfold ClassFile.Decoder.instr
  refine (fd_bind (fd_u1 h0)).trans ?_
  exact fd_bind (r := ClassFile.Reader.u1) (f := fun v => Pure.pure (Instr.aload v)) (fd_u1 h1)
set_option maxRecDepth 100000 in
theorem fd_54 {x : UInt8} (h0 : b.data.toList[pc]? = some 54) (h1 : b.data.toList[pc + 1]? = some x) : decode b pc = .ok (.istore x.toNat, 2) := by
  refine fd_fin ?_
  unfold ClassFile.Decoder.instr
  refine (fd_bind (fd_u1 h0)).trans ?_
  exact fd_bind (r := ClassFile.Reader.u1) (f := fun v => Pure.pure (Instr.istore v)) (fd_u1 h1)
set_option maxRecDepth 100000 in
theorem fd_55 {x : UInt8} (h0 : b.data.toList[pc]? = some 55) (h1 : b.data.toList[pc + 1]? = some x) : decode b pc = .ok (.lstore x.toNat, 2) := by
  refine fd_fin ?_
  unfold ClassFile.Decoder.instr
  refine (fd_bind (fd_u1 h0)).trans ?_
  exact fd_bind (r := ClassFile.Reader.u1) (f := fun v => Pure.pure (Instr.lstore v)) (fd_u1 h1)
set_option maxRecDepth 100000 in
theorem fd_58 {x : UInt8} (h0 : b.data.toList[pc]? = some 58) (h1 : b.data.toList[pc + 1]? = some x) : decode b pc = .ok (.astore x.toNat, 2) := by
  refine fd_fin ?_
  unfold ClassFile.Decoder.instr
  refine (fd_bind (fd_u1 h0)).trans ?_
  exact fd_bind (r := ClassFile.Reader.u1) (f := fun v => Pure.pure (Instr.astore v)) (fd_u1 h1)
set_option maxRecDepth 100000 in
theorem fd_16 {x : UInt8} (h0 : b.data.toList[pc]? = some 16) (h1 : b.data.toList[pc + 1]? = some x) : decode b pc = .ok (.bipush (ClassFile.Reader.signed 8 x.toNat), 2) := by
  refine fd_fin ?_
  unfold ClassFile.Decoder.instr
  refine (fd_bind (fd_u1 h0)).trans ?_
  exact fd_bind (r := ClassFile.Reader.s1) (f := fun v => Pure.pure (Instr.bipush v)) (fd_s1 h1)
set_option maxRecDepth 100000 in
theorem fd_17 {x y : UInt8} (h0 : b.data.toList[pc]? = some 17) (h1 : b.data.toList[pc + 1]? = some x) (h2 : b.data.toList[pc + 1 + 1]? = some y) : decode b pc = .ok (.sipush (ClassFile.Reader.signed 16 (x.toNat * 256 + y.toNat)), 3) := by
  refine fd_fin ?_
  unfold ClassFile.Decoder.instr
  refine (fd_bind (fd_u1 h0)).trans ?_
  exact fd_bind (r := ClassFile.Reader.s2) (f := fun v => Pure.pure (Instr.sipush v)) (fd_s2 h1 h2)
set_option maxRecDepth 100000 in
theorem fd_19 {x y : UInt8} (h0 : b.data.toList[pc]? = some 19) (h1 : b.data.toList[pc + 1]? = some x) (h2 : b.data.toList[pc + 1 + 1]? = some y) : decode b pc = .ok (.ldc_w (x.toNat * 256 + y.toNat), 3) := by
  refine fd_fin ?_
  unfold ClassFile.Decoder.instr
  refine (fd_bind (fd_u1 h0)).trans ?_
  exact fd_bind (r := ClassFile.Reader.u2) (f := fun v => Pure.pure (Instr.ldc_w v)) (fd_u2 h1 h2)
set_option maxRecDepth 100000 in
theorem fd_20 {x y : UInt8} (h0 : b.data.toList[pc]? = some 20) (h1 : b.data.toList[pc + 1]? = some x) (h2 : b.data.toList[pc + 1 + 1]? = some y) : decode b pc = .ok (.ldc2_w (x.toNat * 256 + y.toNat), 3) := by
  refine fd_fin ?_
  unfold ClassFile.Decoder.instr
  refine (fd_bind (fd_u1 h0)).trans ?_
  exact fd_bind (r := ClassFile.Reader.u2) (f := fun v => Pure.pure (Instr.ldc2_w v)) (fd_u2 h1 h2)
set_option maxRecDepth 100000 in
theorem fd_180 {x y : UInt8} (h0 : b.data.toList[pc]? = some 180) (h1 : b.data.toList[pc + 1]? = some x) (h2 : b.data.toList[pc + 1 + 1]? = some y) : decode b pc = .ok (.getfield (x.toNat * 256 + y.toNat), 3) := by
  refine fd_fin ?_
  unfold ClassFile.Decoder.instr
  refine (fd_bind (fd_u1 h0)).trans ?_
  exact fd_bind (r := ClassFile.Reader.u2) (f := fun v => Pure.pure (Instr.getfield v)) (fd_u2 h1 h2)
set_option maxRecDepth 100000 in
theorem fd_181 {x y : UInt8} (h0 : b.data.toList[pc]? = some 181) (h1 : b.data.toList[pc + 1]? = some x) (h2 : b.data.toList[pc + 1 + 1]? = some y) : decode b pc = .ok (.putfield (x.toNat * 256 + y.toNat), 3) := by
  refine fd_fin ?_
  unfold ClassFile.Decoder.instr
  refine (fd_bind (fd_u1 h0)).trans ?_
  exact fd_bind (r := ClassFile.Reader.u2) (f := fun v => Pure.pure (Instr.putfield v)) (fd_u2 h1 h2)
set_option maxRecDepth 100000 in
theorem fd_182 {x y : UInt8} (h0 : b.data.toList[pc]? = some 182) (h1 : b.data.toList[pc + 1]? = some x) (h2 : b.data.toList[pc + 1 + 1]? = some y) : decode b pc = .ok (.invokevirtual (x.toNat * 256 + y.toNat), 3) := by
  refine fd_fin ?_
  unfold ClassFile.Decoder.instr
  refine (fd_bind (fd_u1 h0)).trans ?_
  exact fd_bind (r := ClassFile.Reader.u2) (f := fun v => Pure.pure (Instr.invokevirtual v)) (fd_u2 h1 h2)
set_option maxRecDepth 100000 in
theorem fd_183 {x y : UInt8} (h0 : b.data.toList[pc]? = some 183) (h1 : b.data.toList[pc + 1]? = some x) (h2 : b.data.toList[pc + 1 + 1]? = some y) : decode b pc = .ok (.invokespecial (x.toNat * 256 + y.toNat), 3) := by
  refine fd_fin ?_
  unfold ClassFile.Decoder.instr
  refine (fd_bind (fd_u1 h0)).trans ?_
  exact fd_bind (r := ClassFile.Reader.u2) (f := fun v => Pure.pure (Instr.invokespecial v)) (fd_u2 h1 h2)
set_option maxRecDepth 100000 in
theorem fd_184 {x y : UInt8} (h0 : b.data.toList[pc]? = some 184) (h1 : b.data.toList[pc + 1]? = some x) (h2 : b.data.toList[pc + 1 + 1]? = some y) : decode b pc = .ok (.invokestatic (x.toNat * 256 + y.toNat), 3) := by
  refine fd_fin ?_
  unfold ClassFile.Decoder.instr
  refine (fd_bind (fd_u1 h0)).trans ?_
  exact fd_bind (r := ClassFile.Reader.u2) (f := fun v => Pure.pure (Instr.invokestatic v)) (fd_u2 h1 h2)
set_option maxRecDepth 100000 in
theorem fd_187 {x y : UInt8} (h0 : b.data.toList[pc]? = some 187) (h1 : b.data.toList[pc + 1]? = some x) (h2 : b.data.toList[pc + 1 + 1]? = some y) : decode b pc = .ok (.new (x.toNat * 256 + y.toNat), 3) := by
  refine fd_fin ?_
  unfold ClassFile.Decoder.instr
  refine (fd_bind (fd_u1 h0)).trans ?_
  exact fd_bind (r := ClassFile.Reader.u2) (f := fun v => Pure.pure (Instr.new v)) (fd_u2 h1 h2)
set_option maxRecDepth 100000 in
theorem fd_153 {x y : UInt8} (h0 : b.data.toList[pc]? = some 153) (h1 : b.data.toList[pc + 1]? = some x) (h2 : b.data.toList[pc + 1 + 1]? = some y) : decode b pc = .ok (.ifCond .eq (ClassFile.Reader.signed 16 (x.toNat * 256 + y.toNat)), 3) := by
  refine fd_fin ?_
  unfold ClassFile.Decoder.instr
  refine (fd_bind (fd_u1 h0)).trans ?_
  exact fd_bind (r := ClassFile.Reader.s2) (f := fun v => Pure.pure (Instr.ifCond .eq v)) (fd_s2 h1 h2)
set_option maxRecDepth 100000 in
theorem fd_159 {x y : UInt8} (h0 : b.data.toList[pc]? = some 159) (h1 : b.data.toList[pc + 1]? = some x) (h2 : b.data.toList[pc + 1 + 1]? = some y) : decode b pc = .ok (.if_icmp .eq (ClassFile.Reader.signed 16 (x.toNat * 256 + y.toNat)), 3) := by
  refine fd_fin ?_
  unfold ClassFile.Decoder.instr
  refine (fd_bind (fd_u1 h0)).trans ?_
  exact fd_bind (r := ClassFile.Reader.s2) (f := fun v => Pure.pure (Instr.if_icmp .eq v)) (fd_s2 h1 h2)
set_option maxRecDepth 100000 in
theorem fd_154 {x y : UInt8} (h0 : b.data.toList[pc]? = some 154) (h1 : b.data.toList[pc + 1]? = some x) (h2 : b.data.toList[pc + 1 + 1]? = some y) : decode b pc = .ok (.ifCond .ne (ClassFile.Reader.signed 16 (x.toNat * 256 + y.toNat)), 3) := by
  refine fd_fin ?_
  unfold ClassFile.Decoder.instr
  refine (fd_bind (fd_u1 h0)).trans ?_
  exact fd_bind (r := ClassFile.Reader.s2) (f := fun v => Pure.pure (Instr.ifCond .ne v)) (fd_s2 h1 h2)
set_option maxRecDepth 100000 in
theorem fd_160 {x y : UInt8} (h0 : b.data.toList[pc]? = some 160) (h1 : b.data.toList[pc + 1]? = some x) (h2 : b.data.toList[pc + 1 + 1]? = some y) : decode b pc = .ok (.if_icmp .ne (ClassFile.Reader.signed 16 (x.toNat * 256 + y.toNat)), 3) := by
  refine fd_fin ?_
  unfold ClassFile.Decoder.instr
  refine (fd_bind (fd_u1 h0)).trans ?_
  exact fd_bind (r := ClassFile.Reader.s2) (f := fun v => Pure.pure (Instr.if_icmp .ne v)) (fd_s2 h1 h2)
set_option maxRecDepth 100000 in
theorem fd_155 {x y : UInt8} (h0 : b.data.toList[pc]? = some 155) (h1 : b.data.toList[pc + 1]? = some x) (h2 : b.data.toList[pc + 1 + 1]? = some y) : decode b pc = .ok (.ifCond .lt (ClassFile.Reader.signed 16 (x.toNat * 256 + y.toNat)), 3) := by
  refine fd_fin ?_
  unfold ClassFile.Decoder.instr
  refine (fd_bind (fd_u1 h0)).trans ?_
  exact fd_bind (r := ClassFile.Reader.s2) (f := fun v => Pure.pure (Instr.ifCond .lt v)) (fd_s2 h1 h2)
set_option maxRecDepth 100000 in
theorem fd_161 {x y : UInt8} (h0 : b.data.toList[pc]? = some 161) (h1 : b.data.toList[pc + 1]? = some x) (h2 : b.data.toList[pc + 1 + 1]? = some y) : decode b pc = .ok (.if_icmp .lt (ClassFile.Reader.signed 16 (x.toNat * 256 + y.toNat)), 3) := by
  refine fd_fin ?_
  unfold ClassFile.Decoder.instr
  refine (fd_bind (fd_u1 h0)).trans ?_
  exact fd_bind (r := ClassFile.Reader.s2) (f := fun v => Pure.pure (Instr.if_icmp .lt v)) (fd_s2 h1 h2)
set_option maxRecDepth 100000 in
theorem fd_156 {x y : UInt8} (h0 : b.data.toList[pc]? = some 156) (h1 : b.data.toList[pc + 1]? = some x) (h2 : b.data.toList[pc + 1 + 1]? = some y) : decode b pc = .ok (.ifCond .ge (ClassFile.Reader.signed 16 (x.toNat * 256 + y.toNat)), 3) := by
  refine fd_fin ?_
  unfold ClassFile.Decoder.instr
  refine (fd_bind (fd_u1 h0)).trans ?_
  exact fd_bind (r := ClassFile.Reader.s2) (f := fun v => Pure.pure (Instr.ifCond .ge v)) (fd_s2 h1 h2)
set_option maxRecDepth 100000 in
theorem fd_162 {x y : UInt8} (h0 : b.data.toList[pc]? = some 162) (h1 : b.data.toList[pc + 1]? = some x) (h2 : b.data.toList[pc + 1 + 1]? = some y) : decode b pc = .ok (.if_icmp .ge (ClassFile.Reader.signed 16 (x.toNat * 256 + y.toNat)), 3) := by
  refine fd_fin ?_
  unfold ClassFile.Decoder.instr
  refine (fd_bind (fd_u1 h0)).trans ?_
  exact fd_bind (r := ClassFile.Reader.s2) (f := fun v => Pure.pure (Instr.if_icmp .ge v)) (fd_s2 h1 h2)
set_option maxRecDepth 100000 in
theorem fd_157 {x y : UInt8} (h0 : b.data.toList[pc]? = some 157) (h1 : b.data.toList[pc + 1]? = some x) (h2 : b.data.toList[pc + 1 + 1]? = some y) : decode b pc = .ok (.ifCond .gt (ClassFile.Reader.signed 16 (x.toNat * 256 + y.toNat)), 3) := by
  refine fd_fin ?_
  unfold ClassFile.Decoder.instr
  refine (fd_bind (fd_u1 h0)).trans ?_
  exact fd_bind (r := ClassFile.Reader.s2) (f := fun v => Pure.pure (Instr.ifCond .gt v)) (fd_s2 h1 h2)
set_option maxRecDepth 100000 in
theorem fd_163 {x y : UInt8} (h0 : b.data.toList[pc]? = some 163) (h1 : b.data.toList[pc + 1]? = some x) (h2 : b.data.toList[pc + 1 + 1]? = some y) : decode b pc = .ok (.if_icmp .gt (ClassFile.Reader.signed 16 (x.toNat * 256 + y.toNat)), 3) := by
  refine fd_fin ?_
  unfold ClassFile.Decoder.instr
  refine (fd_bind (fd_u1 h0)).trans ?_
  exact fd_bind (r := ClassFile.Reader.s2) (f := fun v => Pure.pure (Instr.if_icmp .gt v)) (fd_s2 h1 h2)
set_option maxRecDepth 100000 in
theorem fd_158 {x y : UInt8} (h0 : b.data.toList[pc]? = some 158) (h1 : b.data.toList[pc + 1]? = some x) (h2 : b.data.toList[pc + 1 + 1]? = some y) : decode b pc = .ok (.ifCond .le (ClassFile.Reader.signed 16 (x.toNat * 256 + y.toNat)), 3) := by
  refine fd_fin ?_
  unfold ClassFile.Decoder.instr
  refine (fd_bind (fd_u1 h0)).trans ?_
  exact fd_bind (r := ClassFile.Reader.s2) (f := fun v => Pure.pure (Instr.ifCond .le v)) (fd_s2 h1 h2)
set_option maxRecDepth 100000 in
theorem fd_164 {x y : UInt8} (h0 : b.data.toList[pc]? = some 164) (h1 : b.data.toList[pc + 1]? = some x) (h2 : b.data.toList[pc + 1 + 1]? = some y) : decode b pc = .ok (.if_icmp .le (ClassFile.Reader.signed 16 (x.toNat * 256 + y.toNat)), 3) := by
  refine fd_fin ?_
  unfold ClassFile.Decoder.instr
  refine (fd_bind (fd_u1 h0)).trans ?_
  exact fd_bind (r := ClassFile.Reader.s2) (f := fun v => Pure.pure (Instr.if_icmp .le v)) (fd_s2 h1 h2)
set_option maxRecDepth 100000 in
theorem fd_167 {x y : UInt8} (h0 : b.data.toList[pc]? = some 167) (h1 : b.data.toList[pc + 1]? = some x) (h2 : b.data.toList[pc + 1 + 1]? = some y) : decode b pc = .ok (.goto (ClassFile.Reader.signed 16 (x.toNat * 256 + y.toNat)), 3) := by
  refine fd_fin ?_
  unfold ClassFile.Decoder.instr
  refine (fd_bind (fd_u1 h0)).trans ?_
  exact fd_bind (r := ClassFile.Reader.s2) (f := fun v => Pure.pure (Instr.goto v)) (fd_s2 h1 h2)
set_option maxRecDepth 100000 in
theorem fd_132 {x y : UInt8} (h0 : b.data.toList[pc]? = some 132) (h1 : b.data.toList[pc + 1]? = some x) (h2 : b.data.toList[pc + 1 + 1]? = some y) : decode b pc = .ok (.iinc x.toNat (ClassFile.Reader.signed 8 y.toNat), 3) := by
  refine fd_fin ?_
  unfold ClassFile.Decoder.instr
  refine (fd_bind (fd_u1 h0)).trans ?_
  refine (fd_bind (r := ClassFile.Reader.u1) (f := fun v => ClassFile.Reader.s1 >>= fun w => Pure.pure (Instr.iinc v w)) (fd_u1 h1)).trans ?_
  exact fd_bind (r := ClassFile.Reader.s1) (f := fun w => Pure.pure (Instr.iinc x.toNat w)) (fd_s1 h2)
set_option maxRecDepth 100000 in
theorem fd_188_4 (h0 : b.data.toList[pc]? = some 188) (h1 : b.data.toList[pc + 1]? = some 4) : decode b pc = .ok (.newarray .boolean, 2) := by
  refine fd_fin ?_
  unfold ClassFile.Decoder.instr
  refine (fd_bind (fd_u1 h0)).trans ?_
  show ClassFile.Decoder.newarray pc b (pc + 1) = _
  unfold ClassFile.Decoder.newarray
  exact (fd_bind (fd_u1 h1)).trans rfl
set_option maxRecDepth 100000 in
theorem fd_188_8 (h0 : b.data.toList[pc]? = some 188) (h1 : b.data.toList[pc + 1]? = some 8) : decode b pc = .ok (.newarray .byte, 2) := by
  refine fd_fin ?_
  unfold ClassFile.Decoder.instr
  refine (fd_bind (fd_u1 h0)).trans ?_
  show ClassFile.Decoder.newarray pc b (pc + 1) = _
  unfold ClassFile.Decoder.newarray
  exact (fd_bind (fd_u1 h1)).trans rfl
set_option maxRecDepth 100000 in
theorem fd_188_10 (h0 : b.data.toList[pc]? = some 188) (h1 : b.data.toList[pc + 1]? = some 10) : decode b pc = .ok (.newarray .int, 2) := by
  refine fd_fin ?_
  unfold ClassFile.Decoder.instr
  refine (fd_bind (fd_u1 h0)).trans ?_
  show ClassFile.Decoder.newarray pc b (pc + 1) = _
  unfold ClassFile.Decoder.newarray
  exact (fd_bind (fd_u1 h1)).trans rfl
set_option maxRecDepth 100000 in
theorem fd_188_11 (h0 : b.data.toList[pc]? = some 188) (h1 : b.data.toList[pc + 1]? = some 11) : decode b pc = .ok (.newarray .long, 2) := by
  refine fd_fin ?_
  unfold ClassFile.Decoder.instr
  refine (fd_bind (fd_u1 h0)).trans ?_
  show ClassFile.Decoder.newarray pc b (pc + 1) = _
  unfold ClassFile.Decoder.newarray
  exact (fd_bind (fd_u1 h1)).trans rfl
def fq (bs : List UInt8) (e : si_E) : Bool := match e.1, e.2.1, bs with
  | .iaload, 1, x :: _ => decide (x = 46)
  | .laload, 1, x :: _ => decide (x = 47)
  | .baload, 1, x :: _ => decide (x = 51)
  | .iastore, 1, x :: _ => decide (x = 79)
  | .lastore, 1, x :: _ => decide (x = 80)
  | .bastore, 1, x :: _ => decide (x = 84)
  | .pop, 1, x :: _ => decide (x = 87)
  | .dup, 1, x :: _ => decide (x = 89)
  | .iadd, 1, x :: _ => decide (x = 96)
  | .ladd, 1, x :: _ => decide (x = 97)
  | .isub, 1, x :: _ => decide (x = 100)
  | .imul, 1, x :: _ => decide (x = 104)
  | .idiv, 1, x :: _ => decide (x = 108)
  | .irem, 1, x :: _ => decide (x = 112)
  | .ineg, 1, x :: _ => decide (x = 116)
  | .ishl, 1, x :: _ => decide (x = 120)
  | .ishr, 1, x :: _ => decide (x = 122)
  | .iushr, 1, x :: _ => decide (x = 124)
  | .iand, 1, x :: _ => decide (x = 126)
  | .ior, 1, x :: _ => decide (x = 128)
  | .ixor, 1, x :: _ => decide (x = 130)
  | .i2l, 1, x :: _ => decide (x = 133)
  | .l2i, 1, x :: _ => decide (x = 136)
  | .i2b, 1, x :: _ => decide (x = 145)
  | .i2c, 1, x :: _ => decide (x = 146)
  | .lcmp, 1, x :: _ => decide (x = 148)
  | .ireturn, 1, x :: _ => decide (x = 172)
  | .lreturn, 1, x :: _ => decide (x = 173)
  | .return_, 1, x :: _ => decide (x = 177)
  | .arraylength, 1, x :: _ => decide (x = 190)
  | .iconst k, 1, x :: _ => (decide (k = -1) && decide (x = 2)) || (decide (k = 0) && decide (x = 3)) || (decide (k = 1) && decide (x = 4)) || (decide (k = 2) && decide (x = 5)) || (decide (k = 3) && decide (x = 6)) || (decide (k = 4) && decide (x = 7)) || (decide (k = 5) && decide (x = 8))
  | .lconst k, 1, x :: _ => (decide (k = 0) && decide (x = 9)) || (decide (k = 1) && decide (x = 10))
  | .iload_n k, 1, x :: _ => (decide (k = 0) && decide (x = 26)) || (decide (k = 1) && decide (x = 27)) || (decide (k = 2) && decide (x = 28)) || (decide (k = 3) && decide (x = 29))
  | .lload_n k, 1, x :: _ => (decide (k = 0) && decide (x = 30)) || (decide (k = 1) && decide (x = 31)) || (decide (k = 2) && decide (x = 32)) || (decide (k = 3) && decide (x = 33))
  | .aload_n k, 1, x :: _ => (decide (k = 0) && decide (x = 42)) || (decide (k = 1) && decide (x = 43)) || (decide (k = 2) && decide (x = 44)) || (decide (k = 3) && decide (x = 45))
  | .istore_n k, 1, x :: _ => (decide (k = 0) && decide (x = 59)) || (decide (k = 1) && decide (x = 60)) || (decide (k = 2) && decide (x = 61)) || (decide (k = 3) && decide (x = 62))
  | .lstore_n k, 1, x :: _ => (decide (k = 0) && decide (x = 63)) || (decide (k = 1) && decide (x = 64)) || (decide (k = 2) && decide (x = 65)) || (decide (k = 3) && decide (x = 66))
  | .astore_n k, 1, x :: _ => (decide (k = 0) && decide (x = 75)) || (decide (k = 1) && decide (x = 76)) || (decide (k = 2) && decide (x = 77)) || (decide (k = 3) && decide (x = 78))
  | .ldc k, 2, x :: y :: _ => decide (x = 18) && decide (k = y.toNat)
  | .iload k, 2, x :: y :: _ => decide (x = 21) && decide (k = y.toNat)
  | .lload k, 2, x :: y :: _ => decide (x = 22) && decide (k = y.toNat)
  | .aload k, 2, x :: y :: _ => decide (x = 25) && decide (k = y.toNat)
  | .istore k, 2, x :: y :: _ => decide (x = 54) && decide (k = y.toNat)
  | .lstore k, 2, x :: y :: _ => decide (x = 55) && decide (k = y.toNat)
  | .astore k, 2, x :: y :: _ => decide (x = 58) && decide (k = y.toNat)
  | .bipush k, 2, x :: y :: _ => decide (x = 16) && decide (k = ClassFile.Reader.signed 8 y.toNat)
  | .ldc_w k, 3, x :: y :: z :: _ => decide (x = 19) && decide (k = y.toNat * 256 + z.toNat)
  | .ldc2_w k, 3, x :: y :: z :: _ => decide (x = 20) && decide (k = y.toNat * 256 + z.toNat)
  | .getfield k, 3, x :: y :: z :: _ => decide (x = 180) && decide (k = y.toNat * 256 + z.toNat)
  | .putfield k, 3, x :: y :: z :: _ => decide (x = 181) && decide (k = y.toNat * 256 + z.toNat)
  | .invokevirtual k, 3, x :: y :: z :: _ => decide (x = 182) && decide (k = y.toNat * 256 + z.toNat)
  | .invokespecial k, 3, x :: y :: z :: _ => decide (x = 183) && decide (k = y.toNat * 256 + z.toNat)
  | .invokestatic k, 3, x :: y :: z :: _ => decide (x = 184) && decide (k = y.toNat * 256 + z.toNat)
  | .new k, 3, x :: y :: z :: _ => decide (x = 187) && decide (k = y.toNat * 256 + z.toNat)
  | .sipush k, 3, x :: y :: z :: _ => decide (x = 17) && decide (k = ClassFile.Reader.signed 16 (y.toNat * 256 + z.toNat))
  | .goto k, 3, x :: y :: z :: _ => decide (x = 167) && decide (k = ClassFile.Reader.signed 16 (y.toNat * 256 + z.toNat))
  | .ifCond .eq k, 3, x :: y :: z :: _ => decide (x = 153) && decide (k = ClassFile.Reader.signed 16 (y.toNat * 256 + z.toNat))
  | .ifCond .ne k, 3, x :: y :: z :: _ => decide (x = 154) && decide (k = ClassFile.Reader.signed 16 (y.toNat * 256 + z.toNat))
  | .ifCond .lt k, 3, x :: y :: z :: _ => decide (x = 155) && decide (k = ClassFile.Reader.signed 16 (y.toNat * 256 + z.toNat))
  | .ifCond .ge k, 3, x :: y :: z :: _ => decide (x = 156) && decide (k = ClassFile.Reader.signed 16 (y.toNat * 256 + z.toNat))
  | .ifCond .gt k, 3, x :: y :: z :: _ => decide (x = 157) && decide (k = ClassFile.Reader.signed 16 (y.toNat * 256 + z.toNat))
  | .ifCond .le k, 3, x :: y :: z :: _ => decide (x = 158) && decide (k = ClassFile.Reader.signed 16 (y.toNat * 256 + z.toNat))
  | .if_icmp .eq k, 3, x :: y :: z :: _ => decide (x = 159) && decide (k = ClassFile.Reader.signed 16 (y.toNat * 256 + z.toNat))
  | .if_icmp .ne k, 3, x :: y :: z :: _ => decide (x = 160) && decide (k = ClassFile.Reader.signed 16 (y.toNat * 256 + z.toNat))
  | .if_icmp .lt k, 3, x :: y :: z :: _ => decide (x = 161) && decide (k = ClassFile.Reader.signed 16 (y.toNat * 256 + z.toNat))
  | .if_icmp .ge k, 3, x :: y :: z :: _ => decide (x = 162) && decide (k = ClassFile.Reader.signed 16 (y.toNat * 256 + z.toNat))
  | .if_icmp .gt k, 3, x :: y :: z :: _ => decide (x = 163) && decide (k = ClassFile.Reader.signed 16 (y.toNat * 256 + z.toNat))
  | .if_icmp .le k, 3, x :: y :: z :: _ => decide (x = 164) && decide (k = ClassFile.Reader.signed 16 (y.toNat * 256 + z.toNat))
  | .iinc k n, 3, x :: y :: z :: _ => decide (x = 132) && decide (k = y.toNat) && decide (n = ClassFile.Reader.signed 8 z.toNat)
  | .newarray .boolean, 2, x :: y :: _ => decide (x = 188) && decide (y = 4)
  | .newarray .byte, 2, x :: y :: _ => decide (x = 188) && decide (y = 8)
  | .newarray .int, 2, x :: y :: _ => decide (x = 188) && decide (y = 10)
  | .newarray .long, 2, x :: y :: _ => decide (x = 188) && decide (y = 11)
  | _, _, _ => false
theorem fq_ok {bs : List UInt8} {e : si_E} (hb : ∀ j : Nat, b.data.toList[pc + j]? = bs[j]?) (h : fq bs e = true) : decode b pc = .ok (e.1, e.2.1) := by
  obtain ⟨i, n, a⟩ := e
  unfold fq at h
  split at h
  case h_74 => cases h
  all_goals
    rename_i e1 e2
    dsimp only at e1 e2
    subst e1
    subst e2
  all_goals dsimp only
  all_goals have h0 : ∀ {v : UInt8}, _ = v → b.data.toList[pc]? = some v := fun hv => (hb 0).trans (by rw [← hv]; rfl)
  all_goals try have h1 := (hb 1)
  all_goals try have h2 := (hb 2)
  all_goals simp only [List.getElem?_cons_succ, List.getElem?_cons_zero] at h1 h2
  · exact fd_46 (h0 (of_decide_eq_true h))
  · exact fd_47 (h0 (of_decide_eq_true h))
  · exact fd_51 (h0 (of_decide_eq_true h))
  · exact fd_79 (h0 (of_decide_eq_true h))
  · exact fd_80 (h0 (of_decide_eq_true h))
  · exact fd_84 (h0 (of_decide_eq_true h))
  · exact fd_87 (h0 (of_decide_eq_true h))
  · exact fd_89 (h0 (of_decide_eq_true h))
  · exact fd_96 (h0 (of_decide_eq_true h))
  · exact fd_97 (h0 (of_decide_eq_true h))
  · exact fd_100 (h0 (of_decide_eq_true h))
  · exact fd_104 (h0 (of_decide_eq_true h))
  · exact fd_108 (h0 (of_decide_eq_true h))
  · exact fd_112 (h0 (of_decide_eq_true h))
  · exact fd_116 (h0 (of_decide_eq_true h))
  · exact fd_120 (h0 (of_decide_eq_true h))
  · exact fd_122 (h0 (of_decide_eq_true h))
  · exact fd_124 (h0 (of_decide_eq_true h))
  · exact fd_126 (h0 (of_decide_eq_true h))
  · exact fd_128 (h0 (of_decide_eq_true h))
  · exact fd_130 (h0 (of_decide_eq_true h))
  · exact fd_133 (h0 (of_decide_eq_true h))
  · exact fd_136 (h0 (of_decide_eq_true h))
  · exact fd_145 (h0 (of_decide_eq_true h))
  · exact fd_146 (h0 (of_decide_eq_true h))
  · exact fd_148 (h0 (of_decide_eq_true h))
  · exact fd_172 (h0 (of_decide_eq_true h))
  · exact fd_173 (h0 (of_decide_eq_true h))
  · exact fd_177 (h0 (of_decide_eq_true h))
  · exact fd_190 (h0 (of_decide_eq_true h))
  · simp only [Bool.or_eq_true, Bool.and_eq_true, decide_eq_true_eq] at h
    rcases h with ((((((⟨rfl, hx⟩ | ⟨rfl, hx⟩) | ⟨rfl, hx⟩) | ⟨rfl, hx⟩) | ⟨rfl, hx⟩) | ⟨rfl, hx⟩) | ⟨rfl, hx⟩)
    · exact fd_2 (h0 hx)
    · exact fd_3 (h0 hx)
    · exact fd_4 (h0 hx)
    · exact fd_5 (h0 hx)
    · exact fd_6 (h0 hx)
    · exact fd_7 (h0 hx)
    · exact fd_8 (h0 hx)
  · simp only [Bool.or_eq_true, Bool.and_eq_true, decide_eq_true_eq] at h
    rcases h with (⟨rfl, hx⟩ | ⟨rfl, hx⟩)
    · exact fd_9 (h0 hx)
    · exact fd_10 (h0 hx)
  · simp only [Bool.or_eq_true, Bool.and_eq_true, decide_eq_true_eq] at h
    rcases h with (((⟨rfl, hx⟩ | ⟨rfl, hx⟩) | ⟨rfl, hx⟩) | ⟨rfl, hx⟩)
    · exact fd_26 (h0 hx)
    · exact fd_27 (h0 hx)
    · exact fd_28 (h0 hx)
    · exact fd_29 (h0 hx)
  · simp only [Bool.or_eq_true, Bool.and_eq_true, decide_eq_true_eq] at h
    rcases h with (((⟨rfl, hx⟩ | ⟨rfl, hx⟩) | ⟨rfl, hx⟩) | ⟨rfl, hx⟩)
    · exact fd_30 (h0 hx)
    · exact fd_31 (h0 hx)
    · exact fd_32 (h0 hx)
    · exact fd_33 (h0 hx)
  · simp only [Bool.or_eq_true, Bool.and_eq_true, decide_eq_true_eq] at h
    rcases h with (((⟨rfl, hx⟩ | ⟨rfl, hx⟩) | ⟨rfl, hx⟩) | ⟨rfl, hx⟩)
    · exact fd_42 (h0 hx)
    · exact fd_43 (h0 hx)
    · exact fd_44 (h0 hx)
    · exact fd_45 (h0 hx)
  · simp only [Bool.or_eq_true, Bool.and_eq_true, decide_eq_true_eq] at h
    rcases h with (((⟨rfl, hx⟩ | ⟨rfl, hx⟩) | ⟨rfl, hx⟩) | ⟨rfl, hx⟩)
    · exact fd_59 (h0 hx)
    · exact fd_60 (h0 hx)
    · exact fd_61 (h0 hx)
    · exact fd_62 (h0 hx)
  · simp only [Bool.or_eq_true, Bool.and_eq_true, decide_eq_true_eq] at h
    rcases h with (((⟨rfl, hx⟩ | ⟨rfl, hx⟩) | ⟨rfl, hx⟩) | ⟨rfl, hx⟩)
    · exact fd_63 (h0 hx)
    · exact fd_64 (h0 hx)
    · exact fd_65 (h0 hx)
    · exact fd_66 (h0 hx)
  · simp only [Bool.or_eq_true, Bool.and_eq_true, decide_eq_true_eq] at h
    rcases h with (((⟨rfl, hx⟩ | ⟨rfl, hx⟩) | ⟨rfl, hx⟩) | ⟨rfl, hx⟩)
    · exact fd_75 (h0 hx)
    · exact fd_76 (h0 hx)
    · exact fd_77 (h0 hx)
    · exact fd_78 (h0 hx)
  · simp only [Bool.and_eq_true, decide_eq_true_eq] at h
    rw [h.2]
    exact fd_18 (h0 h.1) h1
  · simp only [Bool.and_eq_true, decide_eq_true_eq] at h
    rw [h.2]
    exact fd_21 (h0 h.1) h1
  · simp only [Bool.and_eq_true, decide_eq_true_eq] at h
    rw [h.2]
    exact fd_22 (h0 h.1) h1
  · simp only [Bool.and_eq_true, decide_eq_true_eq] at h
    rw [h.2]
    exact fd_25 (h0 h.1) h1
  · simp only [Bool.and_eq_true, decide_eq_true_eq] at h
    rw [h.2]
    exact fd_54 (h0 h.1) h1
  · simp only [Bool.and_eq_true, decide_eq_true_eq] at h
    rw [h.2]
    exact fd_55 (h0 h.1) h1
  · simp only [Bool.and_eq_true, decide_eq_true_eq] at h
    rw [h.2]
    exact fd_58 (h0 h.1) h1
  · simp only [Bool.and_eq_true, decide_eq_true_eq] at h
    rw [h.2]
    exact fd_16 (h0 h.1) h1
  · simp only [Bool.and_eq_true, decide_eq_true_eq] at h
    rw [h.2]
    exact fd_19 (h0 h.1) h1 h2
  · simp only [Bool.and_eq_true, decide_eq_true_eq] at h
    rw [h.2]
    exact fd_20 (h0 h.1) h1 h2
  · simp only [Bool.and_eq_true, decide_eq_true_eq] at h
    rw [h.2]
    exact fd_180 (h0 h.1) h1 h2
  · simp only [Bool.and_eq_true, decide_eq_true_eq] at h
    rw [h.2]
    exact fd_181 (h0 h.1) h1 h2
  · simp only [Bool.and_eq_true, decide_eq_true_eq] at h
    rw [h.2]
    exact fd_182 (h0 h.1) h1 h2
  · simp only [Bool.and_eq_true, decide_eq_true_eq] at h
    rw [h.2]
    exact fd_183 (h0 h.1) h1 h2
  · simp only [Bool.and_eq_true, decide_eq_true_eq] at h
    rw [h.2]
    exact fd_184 (h0 h.1) h1 h2
  · simp only [Bool.and_eq_true, decide_eq_true_eq] at h
    rw [h.2]
    exact fd_187 (h0 h.1) h1 h2
  · simp only [Bool.and_eq_true, decide_eq_true_eq] at h
    rw [h.2]
    exact fd_17 (h0 h.1) h1 h2
  · simp only [Bool.and_eq_true, decide_eq_true_eq] at h
    rw [h.2]
    exact fd_167 (h0 h.1) h1 h2
  · simp only [Bool.and_eq_true, decide_eq_true_eq] at h
    rw [h.2]
    exact fd_153 (h0 h.1) h1 h2
  · simp only [Bool.and_eq_true, decide_eq_true_eq] at h
    rw [h.2]
    exact fd_154 (h0 h.1) h1 h2
  · simp only [Bool.and_eq_true, decide_eq_true_eq] at h
    rw [h.2]
    exact fd_155 (h0 h.1) h1 h2
  · simp only [Bool.and_eq_true, decide_eq_true_eq] at h
    rw [h.2]
    exact fd_156 (h0 h.1) h1 h2
  · simp only [Bool.and_eq_true, decide_eq_true_eq] at h
    rw [h.2]
    exact fd_157 (h0 h.1) h1 h2
  · simp only [Bool.and_eq_true, decide_eq_true_eq] at h
    rw [h.2]
    exact fd_158 (h0 h.1) h1 h2
  · simp only [Bool.and_eq_true, decide_eq_true_eq] at h
    rw [h.2]
    exact fd_159 (h0 h.1) h1 h2
  · simp only [Bool.and_eq_true, decide_eq_true_eq] at h
    rw [h.2]
    exact fd_160 (h0 h.1) h1 h2
  · simp only [Bool.and_eq_true, decide_eq_true_eq] at h
    rw [h.2]
    exact fd_161 (h0 h.1) h1 h2
  · simp only [Bool.and_eq_true, decide_eq_true_eq] at h
    rw [h.2]
    exact fd_162 (h0 h.1) h1 h2
  · simp only [Bool.and_eq_true, decide_eq_true_eq] at h
    rw [h.2]
    exact fd_163 (h0 h.1) h1 h2
  · simp only [Bool.and_eq_true, decide_eq_true_eq] at h
    rw [h.2]
    exact fd_164 (h0 h.1) h1 h2
  · simp only [Bool.and_eq_true, decide_eq_true_eq] at h
    rw [h.1.2, h.2]
    exact fd_132 (h0 h.1.1) h1 h2
  · simp only [Bool.and_eq_true, decide_eq_true_eq] at h
    exact fd_188_4 (h0 h.1) (h1.trans (by rw [h.2]))
  · simp only [Bool.and_eq_true, decide_eq_true_eq] at h
    exact fd_188_8 (h0 h.1) (h1.trans (by rw [h.2]))
  · simp only [Bool.and_eq_true, decide_eq_true_eq] at h
    exact fd_188_10 (h0 h.1) (h1.trans (by rw [h.2]))
  · simp only [Bool.and_eq_true, decide_eq_true_eq] at h
    exact fd_188_11 (h0 h.1) (h1.trans (by rw [h.2]))
end FastDecode
/-- the link word of a row of code stands in the tables, at its place -/
def lk_e (O : String) (e : si_E) : Bool := match e with
  | (.getfield i, _, ci, k, p) => (match si_cl[ci]? with
    | some (C, T, N) => decide (k < N) && decide ((T k).1 = C) && (decide (lw_tbl[p]? = some (.fieldLink O i C (T k).2.1 (T k).2.2.1)) || decide (lw_tbl[p]? = some (.fieldLinkNest O i C (T k).2.1 (T k).2.2.1 "HandsAlike")))
    | none => false)
  | (.putfield i, _, ci, k, p) => (match si_cl[ci]? with
    | some (C, T, N) => decide (k < N) && decide ((T k).1 = C) && (decide (lw_tbl[p]? = some (.fieldLink O i C (T k).2.1 (T k).2.2.1)) || decide (lw_tbl[p]? = some (.fieldLinkNest O i C (T k).2.1 (T k).2.2.1 "HandsAlike")))
    | none => false)
  | (.invokevirtual i, _, m, b, p) => (match b with
    | 0 => (match si_m m with
      | some y => decide (lw_tbl[p]? = some (.methodLink O i y.2.1))
      | none => false)
    | 7 => decide (lw_tbl[p]? = some (.methodLink O i yJ0_indexOf_0f7a4))
    | 8 => decide (lw_tbl[p]? = some (.methodLink O i yJ0_length_8abf5))
    | _ => false)
  | (.invokestatic i, _, m, b, p) => (match si_m m with
    | some y => (match b with
      | 0 => decide (lw_tbl[p]? = some (.methodLink O i y.2.1))
      | 1 => decide (lw_tbl[p]? = some (.methodLinkNest O i y.2.1 "HandsAlike"))
      | _ => false)
    | none => false)
  | (.invokespecial i, _, m, b, p) => (match b with
    | 9 => decide (lw_tbl[p]? = some (.methodLink O i objectInit))
    | 0 => (match si_m m with
      | some y => decide (lw_tbl[p]? = some (.methodLink O i y.2.1))
      | none => false)
    | 1 => (match si_m m with
      | some y => decide (lw_tbl[p]? = some (.methodLinkNest O i y.2.1 "HandsAlike"))
      | none => false)
    | _ => false)
  | (.ldc i, _, a, b, p) => (match b with
    | 0 => decide (lw_tbl[p]? = some (.constant O i (Int32.ofNat a)))
    | _ => (match a with
      | 1 => decide (lw_tbl[p]? = some (.stringRef O i "cavknotw"))
      | 2 => decide (lw_tbl[p]? = some (.stringRef O i "glsx"))
      | 3 => decide (lw_tbl[p]? = some (.stringRef O i "cavknotw"))
      | _ => false))
  | (.ldc_w i, _, a, b, p) => (match b with
    | 0 => decide (lw_tbl[p]? = some (.constant O i (Int32.ofNat a)))
    | _ => false)
  | (.ldc2_w i, _, a, _, p) => decide (lw_tbl[p]? = some (.constantLong O i (Int64.ofNat a)))
  | (.new i, _, ci, _, p) => (match si_cl[ci]? with
    | some (C, _, _) => decide (lw_tbl[p]? = some (.classLink O i C))
    | none => false)
  | (.newarray t, _, _, _, p) => decide (lw_tbl[p]? = some (.arrayClass (newarray.typeOf t)))
  | _ => true
def si_ieq : Instr → Instr → Bool
  | .iadd, .iadd => true
  | .isub, .isub => true
  | .imul, .imul => true
  | .iand, .iand => true
  | .ior, .ior => true
  | .ixor, .ixor => true
  | .ishl, .ishl => true
  | .ishr, .ishr => true
  | .iushr, .iushr => true
  | .idiv, .idiv => true
  | .irem, .irem => true
  | .ineg, .ineg => true
  | .i2b, .i2b => true
  | .i2c, .i2c => true
  | .i2l, .i2l => true
  | .l2i, .l2i => true
  | .ladd, .ladd => true
  | .lcmp, .lcmp => true
  | .pop, .pop => true
  | .dup, .dup => true
  | .iaload, .iaload => true
  | .iastore, .iastore => true
  | .baload, .baload => true
  | .bastore, .bastore => true
  | .laload, .laload => true
  | .lastore, .lastore => true
  | .arraylength, .arraylength => true
  | .ireturn, .ireturn => true
  | .lreturn, .lreturn => true
  | .return_, .return_ => true
  | .aload_n a, .aload_n b => decide (a = b)
  | .iload_n a, .iload_n b => decide (a = b)
  | .lload_n a, .lload_n b => decide (a = b)
  | .istore_n a, .istore_n b => decide (a = b)
  | .lstore_n a, .lstore_n b => decide (a = b)
  | .astore_n a, .astore_n b => decide (a = b)
  | .aload a, .aload b => decide (a = b)
  | .iload a, .iload b => decide (a = b)
  | .lload a, .lload b => decide (a = b)
  | .istore a, .istore b => decide (a = b)
  | .lstore a, .lstore b => decide (a = b)
  | .astore a, .astore b => decide (a = b)
  | .iconst a, .iconst b => decide (a = b)
  | .bipush a, .bipush b => decide (a = b)
  | .sipush a, .sipush b => decide (a = b)
  | .ldc a, .ldc b => decide (a = b)
  | .ldc_w a, .ldc_w b => decide (a = b)
  | .ldc2_w a, .ldc2_w b => decide (a = b)
  | .lconst a, .lconst b => decide (a = b)
  | .getfield a, .getfield b => decide (a = b)
  | .putfield a, .putfield b => decide (a = b)
  | .invokevirtual a, .invokevirtual b => decide (a = b)
  | .invokestatic a, .invokestatic b => decide (a = b)
  | .invokespecial a, .invokespecial b => decide (a = b)
  | .new a, .new b => decide (a = b)
  | .newarray a, .newarray b => decide (a = b)
  | .goto a, .goto b => decide (a = b)
  | .if_icmp a x, .if_icmp b y => decide (a = b) && decide (x = y)
  | .ifCond a x, .ifCond b y => decide (a = b) && decide (x = y)
  | .iinc a x, .iinc b y => decide (a = b) && decide (x = y)
  | .tableswitch d l h o, .tableswitch d2 l2 h2 o2 => decide (d = d2) && decide (l = l2) && decide (h = h2) && decide (o.toList = o2.toList)
  | .lookupswitch d o, .lookupswitch d2 o2 => decide (d = d2) && decide (o.toList = o2.toList)
  | _, _ => false
theorem si_ieq_eq {a b : Instr} (h : si_ieq a b = true) : a = b := by
  unfold si_ieq at h
  split at h
  all_goals first
    | rfl
    | (simp only [Bool.and_eq_true, decide_eq_true_eq] at h; obtain ⟨⟨⟨h1, h2⟩, h3⟩, h4⟩ := h; rw [h1, h2, h3, Array.toList_inj.mp h4]; done)
    | (simp only [Bool.and_eq_true, decide_eq_true_eq] at h; obtain ⟨h1, h2⟩ := h; first | rw [h1, h2] | rw [h1, Array.toList_inj.mp h2])
    | (simp only [decide_eq_true_eq] at h; rw [h])
    | exact absurd h (by decide)
/-- a row of code is what the machine decodes there, and is linked -/
def lk_r (O : String) (b : ByteArray) (pc : Nat) (bs : List UInt8) (e : si_E) : Bool := (fq bs e || (match decode b pc with
  | .ok (i, n) => si_ieq i e.1 && decide (n = e.2.1)
  | _ => false)) && lk_e O e
def lk_row (O : String) (b : ByteArray) : Nat → List UInt8 → List (Option si_E) → Bool
  | _, _, [] => true
  | pc, bs, none :: r => lk_row O b (pc + 1) bs.tail r
  | pc, bs, some e :: r => lk_r O b pc bs e && lk_row O b (pc + 1) bs.tail r
def lk_cd (O : String) (b : ByteArray) : Nat → List UInt8 → List (List (Option si_E)) → Bool
  | _, _, [] => true
  | pc, bs, x :: r => lk_row O b pc bs x && lk_cd O b (pc + 32) (bs.drop 32) r
theorem lk_r_ok {O : String} {b : ByteArray} {pc : Nat} {bs : List UInt8} {e : si_E} (hb : ∀ j : Nat, b.data.toList[pc + j]? = bs[j]?) (h : lk_r O b pc bs e = true) : decode b pc = .ok (e.1, e.2.1) ∧ lk_e O e = true := by
  unfold lk_r at h
  rw [Bool.and_eq_true, Bool.or_eq_true] at h
  refine ⟨?_, h.2⟩
  rcases h.1 with h1 | h1
  · exact fq_ok hb h1
  · split at h1
    · rename_i i n hd
      rw [Bool.and_eq_true, decide_eq_true_eq] at h1
      rw [hd, si_ieq_eq h1.1, h1.2]
    · cases h1
theorem lk_row_ok {O : String} {b : ByteArray} : ∀ (r : List (Option si_E)) (pc : Nat) (bs : List UInt8), (∀ j : Nat, b.data.toList[pc + j]? = bs[j]?) → lk_row O b pc bs r = true → ∀ (t : Nat) (e : si_E), r[t]? = some (some e) → decode b (pc + t) = .ok (e.1, e.2.1) ∧ lk_e O e = true := by
  intro r
  induction r with
  | nil => intro pc bs _ _ t e ht; cases ht
  | cons x r ih =>
    intro pc bs hb h t e ht
    have hb' : ∀ j : Nat, b.data.toList[pc + 1 + j]? = bs.tail[j]? := fun j => by
      rw [Nat.add_assoc, Nat.add_comm 1 j, hb, List.getElem?_tail]
    cases x with
    | none =>
      cases t with
      | zero => cases ht
      | succ t =>
        have := ih (pc + 1) bs.tail hb' h t e ht
        rwa [Nat.add_assoc, Nat.add_comm 1 t] at this
    | some e0 =>
      unfold lk_row at h
      rw [Bool.and_eq_true] at h
      cases t with
      | zero =>
        cases ht
        exact lk_r_ok hb h.1
      | succ t =>
        have := ih (pc + 1) bs.tail hb' h.2 t e ht
        rwa [Nat.add_assoc, Nat.add_comm 1 t] at this
theorem lk_cd_ok {O : String} {b : ByteArray} : ∀ (r : List (List (Option si_E))) (pc : Nat) (bs : List UInt8), (∀ j : Nat, b.data.toList[pc + j]? = bs[j]?) → lk_cd O b pc bs r = true → ∀ (k t : Nat) (x : List (Option si_E)) (e : si_E), r[k]? = some x → x[t]? = some (some e) → decode b (pc + 32 * k + t) = .ok (e.1, e.2.1) ∧ lk_e O e = true := by
  intro r
  induction r with
  | nil => intro pc bs _ _ k t x e hk; cases hk
  | cons y r ih =>
    intro pc bs hb h k t x e hk ht
    unfold lk_cd at h
    rw [Bool.and_eq_true] at h
    cases k with
    | zero =>
      cases hk
      exact lk_row_ok _ pc bs hb h.1 t e ht
    | succ k =>
      have hb' : ∀ j : Nat, b.data.toList[pc + 32 + j]? = (bs.drop 32)[j]? := fun j => by
        rw [Nat.add_assoc, hb, List.getElem?_drop]
      have := ih (pc + 32) (bs.drop 32) hb' h.2 k t x e hk ht
      rwa [show pc + 32 + 32 * k + t = pc + 32 * (k + 1) + t by omega] at this
/-- a method's own words stand in the tables -/
def lk_m (y : si_M) : Bool := match y with
  | (o, nm, _, mL, rt, kd, na, ps) => (match si_own[o]? with
    | some O => decide (nm.cls = O) && plainFor nm && decide (nm.cls ≠ "java/lang/invoke/MethodHandle" ∧ nm.cls ≠ "java/lang/invoke/VarHandle") && decide ((parseMethodDescriptor nm.desc).map (fun d => d.parameters.length) = some na)
        && decide (((parseMethodDescriptor nm.desc).bind fun d => d.returnType) = rt) && decide (mL ≤ 40)
    | none => false) &&
    (match ps with
    | [_, p1, p2] => decide (lw_tbl[p2]? = some (.initialized nm.cls)) && (match kd with
      | 1 => decide (lw_tbl[p1]? = some (.static nm))
      | 2 => decide (lw_tbl[p1]? = some (.instanceMethod nm)) && decide (nm.name = "<init>") && decide (rt = none)
      | _ => false)
    | [_, p1, p2, p3] => decide (lw_tbl[p2]? = some (.initialized nm.cls)) && decide (lw_tbl[p1]? = some (.instanceMethod nm)) && decide (lw_tbl[p3]? = some (.selects nm.cls nm nm)) && decide (kd = 0)
    | [] => decide (o = 12)
    | _ => false)
def cw_l (ys : List si_M) : List Cond := ys.map (fun y => Cond.code y.2.1 y.2.2.1 y.2.2.2.1 y.2.2.2.2.1)
def cw_r (ys : List si_M) : List Cond := ys.filterMap (fun y => lw_tbl[(y.2.2.2.2.2.2.2)[0]?.getD 0]?)
theorem cw_in {ys : List si_M} (h : cw_l ys = cw_r ys) : ∀ y ∈ ys, Cond.code y.2.1 y.2.2.1 y.2.2.2.1 y.2.2.2.2.1 ∈ lw_tbl := by
  intro y hy
  have h1 : Cond.code y.2.1 y.2.2.1 y.2.2.2.1 y.2.2.2.2.1 ∈ cw_l ys := List.mem_map.mpr ⟨y, hy, rfl⟩
  rw [h] at h1
  obtain ⟨z, -, hz⟩ := List.mem_filterMap.mp h1
  exact List.mem_of_getElem? hz
def lk_one (i : Nat) : Bool := match si_mds[i / 16]?, si_cds[i / 16]? with
  | some r, some c => (match r[i % 16]?, c[i % 16]? with
    | some y, some cd => lk_m y && (match si_own[y.1]? with
      | some O => lk_cd O y.2.2.1 0 y.2.2.1.data.toList cd
      | none => false)
    | _, _ => false)
  | _, _ => false
theorem lk_one_ok {i pc : Nat} {y : si_M} {e : si_E} (h : lk_one i = true) (hy : si_m i = some y) (he : si_fetch i pc = some e) : lk_m y = true ∧ ∃ O, si_own[y.1]? = some O ∧ decode y.2.2.1 pc = .ok (e.1, e.2.1) ∧ lk_e O e = true := by
  unfold lk_one at h
  unfold si_m at hy
  unfold si_fetch at he
  cases h1 : si_mds[i / 16]? with
  | none => rw [h1] at hy; cases hy
  | some r =>
    rw [h1] at hy h
    cases h2 : si_cds[i / 16]? with
    | none => rw [h2] at he; cases he
    | some c =>
      rw [h2] at he h
      dsimp only at hy he h
      rw [hy] at h
      cases h3 : c[i % 16]? with
      | none => rw [h3] at he; cases he
      | some cd =>
        rw [h3] at he h
        dsimp only at he h
        rw [Bool.and_eq_true] at h
        refine ⟨h.1, ?_⟩
        have h4 := h.2
        cases h5 : si_own[y.1]? with
        | none => rw [h5] at h4; cases h4
        | some O =>
          rw [h5] at h4
          dsimp only at h4
          cases h6 : cd[pc / 32]? with
          | none => rw [h6] at he; cases he
          | some x =>
            rw [h6] at he
            dsimp only at he
            cases h7 : x[pc % 32]? with
            | none => rw [h7] at he; cases he
            | some q =>
              rw [h7] at he
              cases q with
              | none => cases he
              | some e' =>
                cases he
                have := lk_cd_ok cd 0 _ (fun j => by rw [Nat.zero_add]) h4 (pc / 32) (pc % 32) x e h6 h7
                rw [Nat.zero_add, Nat.div_add_mod] at this
                exact ⟨O, rfl, this⟩
end
section
theorem lk_i0 : ([0, 1, 2, 3, 4, 5, 6, 7].all lk_one) = true := by decide +kernel
theorem lk_i1 : ([8, 9, 10, 11, 12, 13, 14, 15].all lk_one) = true := by decide +kernel
theorem lk_i2 : ([16, 17, 18, 19, 20, 21, 22, 23].all lk_one) = true := by decide +kernel
theorem lk_i3 : ([24, 25, 26, 27, 28, 29, 30, 31].all lk_one) = true := by decide +kernel
theorem lk_i4 : ([32, 33, 34, 35, 36, 37, 38, 39].all lk_one) = true := by decide +kernel
theorem lk_i5 : ([40, 41, 42, 43, 44, 45, 46, 47].all lk_one) = true := by decide +kernel
theorem lk_i6 : ([48, 49, 50, 51, 52, 53, 54, 55].all lk_one) = true := by decide +kernel
theorem lk_i7 : ([56, 57, 58, 59, 60, 61, 62, 63].all lk_one) = true := by decide +kernel
theorem lk_i8 : ([64, 65, 66, 67, 68, 69, 70, 71].all lk_one) = true := by decide +kernel
theorem lk_i9 : ([72, 73, 74, 75, 76, 77, 78, 79].all lk_one) = true := by decide +kernel
theorem lk_i10 : ([80, 81, 82, 83, 84, 85, 86, 87].all lk_one) = true := by decide +kernel
theorem lk_i11 : ([88, 89, 90, 91, 92, 93, 94, 95].all lk_one) = true := by decide +kernel
theorem lk_i12 : ([96, 97, 98, 99, 100, 101, 102, 103].all lk_one) = true := by decide +kernel
theorem lk_i13 : ([104, 105, 106, 107, 108, 109, 110, 111].all lk_one) = true := by decide +kernel
theorem lk_i14 : ([112, 113, 114, 115, 116, 117, 118, 119].all lk_one) = true := by decide +kernel
theorem lk_i15 : ([120, 121, 122, 123, 124, 125, 126, 127].all lk_one) = true := by decide +kernel
theorem lk_i16 : ([128, 129, 130, 131, 132, 133, 134, 135].all lk_one) = true := by decide +kernel
theorem lk_i17 : ([136, 137, 138, 139, 140, 141, 142, 143].all lk_one) = true := by decide +kernel
theorem lk_i18 : ([144, 145, 146, 147, 148, 149, 150, 151].all lk_one) = true := by decide +kernel
theorem lk_i19 : ([152, 153, 154, 155, 156, 157, 158, 159].all lk_one) = true := by decide +kernel
theorem lk_i20 : ([160, 161, 162, 163, 164, 165, 166, 167].all lk_one) = true := by decide +kernel
theorem lk_i21 : ([168, 169, 170, 171, 172, 173, 174, 175].all lk_one) = true := by decide +kernel
theorem lk_i22 : ([176, 177, 178, 179, 180, 181, 182, 183].all lk_one) = true := by decide +kernel
theorem lk_i23 : ([184, 185, 186, 187, 188, 189, 190, 191].all lk_one) = true := by decide +kernel
theorem lk_i24 : ([192, 193, 194, 195, 196, 197, 198, 199].all lk_one) = true := by decide +kernel
theorem lk_i25 : ([200, 201, 202, 203, 204, 205, 206, 207].all lk_one) = true := by decide +kernel
theorem lk_i26 : ([208, 209, 210, 211, 212, 213, 214, 215].all lk_one) = true := by decide +kernel
theorem lk_i27 : ([216, 217, 218, 219, 220, 221, 222, 223].all lk_one) = true := by decide +kernel
theorem lk_i28 : ([224, 225, 226, 227, 228, 229, 230, 231].all lk_one) = true := by decide +kernel
theorem lk_i29 : ([232, 233, 234, 235, 236, 237, 238, 239].all lk_one) = true := by decide +kernel
theorem lk_i30 : ([240, 241, 242, 243, 244, 245, 246, 247].all lk_one) = true := by decide +kernel
theorem lk_i31 : ([248, 249, 250, 251, 252, 253, 254, 255].all lk_one) = true := by decide +kernel
theorem lk_i32 : ([256, 257, 258, 259, 260, 261, 262, 263].all lk_one) = true := by decide +kernel
theorem lk_i33 : ([264, 265, 266, 267, 268, 269, 270, 271].all lk_one) = true := by decide +kernel
theorem lk_i34 : ([272, 273, 274, 275, 276, 277, 278, 279].all lk_one) = true := by decide +kernel
theorem lk_i35 : ([280, 281, 282, 283, 284, 285, 286, 287].all lk_one) = true := by decide +kernel
theorem lk_i36 : ([288, 289, 290, 291, 292, 293, 294, 295].all lk_one) = true := by decide +kernel
theorem lk_i37 : ([296, 297, 298, 299, 300, 301, 302, 303].all lk_one) = true := by decide +kernel
theorem lk_i38 : ([304, 305, 306, 307, 308, 309, 310, 311].all lk_one) = true := by decide +kernel
theorem lk_i39 : ([312, 313, 314, 315, 316, 317, 318, 319].all lk_one) = true := by decide +kernel
theorem lk_i40 : ([320, 321, 322, 323, 324, 325, 326, 327].all lk_one) = true := by decide +kernel
theorem lk_i41 : ([328, 329, 330, 331, 332, 333, 334, 335].all lk_one) = true := by decide +kernel
theorem lk_i42 : ([336, 337, 338, 339, 340, 341, 342, 343].all lk_one) = true := by decide +kernel
theorem lk_i43 : ([344, 345, 346].all lk_one) = true := by decide +kernel
end
section
set_option maxRecDepth 100000 in
theorem cw_i0 : cw_l [md_0, md_1, md_2, md_3, md_4, md_5, md_6, md_7, md_8, md_9, md_10, md_11, md_12, md_13, md_14, md_15] = cw_r [md_0, md_1, md_2, md_3, md_4, md_5, md_6, md_7, md_8, md_9, md_10, md_11, md_12, md_13, md_14, md_15] := rfl
set_option maxRecDepth 100000 in
theorem cw_i1 : cw_l [md_16, md_17, md_18, md_19, md_20, md_21, md_22, md_23, md_24, md_25, md_26, md_27, md_28, md_29, md_30, md_31] = cw_r [md_16, md_17, md_18, md_19, md_20, md_21, md_22, md_23, md_24, md_25, md_26, md_27, md_28, md_29, md_30, md_31] := rfl
set_option maxRecDepth 100000 in
theorem cw_i2 : cw_l [md_32, md_33, md_34, md_35, md_36, md_37, md_38, md_39, md_40, md_41, md_42, md_43, md_44, md_45, md_46, md_47] = cw_r [md_32, md_33, md_34, md_35, md_36, md_37, md_38, md_39, md_40, md_41, md_42, md_43, md_44, md_45, md_46, md_47] := rfl
set_option maxRecDepth 100000 in
theorem cw_i3 : cw_l [md_48, md_49, md_50, md_51, md_52, md_53, md_54, md_55, md_56, md_57, md_58, md_59, md_60, md_61, md_62, md_63] = cw_r [md_48, md_49, md_50, md_51, md_52, md_53, md_54, md_55, md_56, md_57, md_58, md_59, md_60, md_61, md_62, md_63] := rfl
set_option maxRecDepth 100000 in
theorem cw_i4 : cw_l [md_64, md_65, md_66, md_67, md_68, md_69, md_70, md_71, md_72, md_73, md_74, md_75, md_76, md_77, md_78, md_79] = cw_r [md_64, md_65, md_66, md_67, md_68, md_69, md_70, md_71, md_72, md_73, md_74, md_75, md_76, md_77, md_78, md_79] := rfl
set_option maxRecDepth 100000 in
theorem cw_i5 : cw_l [md_80, md_81, md_82, md_83, md_84, md_85, md_86, md_87, md_88, md_89, md_90, md_91, md_92, md_93, md_94, md_95] = cw_r [md_80, md_81, md_82, md_83, md_84, md_85, md_86, md_87, md_88, md_89, md_90, md_91, md_92, md_93, md_94, md_95] := rfl
set_option maxRecDepth 100000 in
theorem cw_i6 : cw_l [md_96, md_97, md_98, md_99, md_100, md_101, md_102, md_103, md_104, md_105, md_106, md_107, md_108, md_109, md_110, md_111] = cw_r [md_96, md_97, md_98, md_99, md_100, md_101, md_102, md_103, md_104, md_105, md_106, md_107, md_108, md_109, md_110, md_111] := rfl
set_option maxRecDepth 100000 in
theorem cw_i7 : cw_l [md_112, md_113, md_114, md_115, md_116, md_117, md_118, md_119, md_120, md_121, md_122, md_123, md_124, md_125, md_126, md_127] = cw_r [md_112, md_113, md_114, md_115, md_116, md_117, md_118, md_119, md_120, md_121, md_122, md_123, md_124, md_125, md_126, md_127] := rfl
set_option maxRecDepth 100000 in
theorem cw_i8 : cw_l [md_128, md_129, md_130, md_131, md_132, md_133, md_134, md_135, md_136, md_137, md_138, md_139, md_140, md_141, md_142, md_143] = cw_r [md_128, md_129, md_130, md_131, md_132, md_133, md_134, md_135, md_136, md_137, md_138, md_139, md_140, md_141, md_142, md_143] := rfl
set_option maxRecDepth 100000 in
theorem cw_i9 : cw_l [md_144, md_145, md_146, md_147, md_148, md_149, md_150, md_151, md_152, md_153, md_154, md_155, md_156, md_157, md_158, md_159] = cw_r [md_144, md_145, md_146, md_147, md_148, md_149, md_150, md_151, md_152, md_153, md_154, md_155, md_156, md_157, md_158, md_159] := rfl
set_option maxRecDepth 100000 in
theorem cw_i10 : cw_l [md_160, md_161, md_162, md_163, md_164, md_165, md_166, md_167, md_168, md_169, md_170, md_171, md_172, md_173, md_174, md_175] = cw_r [md_160, md_161, md_162, md_163, md_164, md_165, md_166, md_167, md_168, md_169, md_170, md_171, md_172, md_173, md_174, md_175] := rfl
set_option maxRecDepth 100000 in
theorem cw_i11 : cw_l [md_176, md_177, md_178, md_179, md_180, md_181, md_182, md_183, md_184, md_185, md_186, md_187, md_188, md_189, md_190, md_191] = cw_r [md_176, md_177, md_178, md_179, md_180, md_181, md_182, md_183, md_184, md_185, md_186, md_187, md_188, md_189, md_190, md_191] := rfl
set_option maxRecDepth 100000 in
theorem cw_i12 : cw_l [md_192, md_193, md_194, md_195, md_196, md_197, md_198, md_199, md_200, md_201, md_202, md_203, md_204, md_205, md_206, md_207] = cw_r [md_192, md_193, md_194, md_195, md_196, md_197, md_198, md_199, md_200, md_201, md_202, md_203, md_204, md_205, md_206, md_207] := rfl
set_option maxRecDepth 100000 in
theorem cw_i13 : cw_l [md_208, md_209, md_210, md_211, md_212, md_213, md_214, md_215, md_216, md_217, md_218, md_219, md_220, md_221, md_222, md_223] = cw_r [md_208, md_209, md_210, md_211, md_212, md_213, md_214, md_215, md_216, md_217, md_218, md_219, md_220, md_221, md_222, md_223] := rfl
set_option maxRecDepth 100000 in
theorem cw_i14 : cw_l [md_224, md_225, md_226, md_227, md_228, md_229, md_230, md_231, md_232, md_233, md_234, md_235, md_236, md_237, md_238, md_239] = cw_r [md_224, md_225, md_226, md_227, md_228, md_229, md_230, md_231, md_232, md_233, md_234, md_235, md_236, md_237, md_238, md_239] := rfl
set_option maxRecDepth 100000 in
theorem cw_i15 : cw_l [md_240, md_241, md_242, md_243, md_244, md_245, md_246, md_247, md_248, md_249, md_250, md_251, md_252, md_253, md_254, md_255] = cw_r [md_240, md_241, md_242, md_243, md_244, md_245, md_246, md_247, md_248, md_249, md_250, md_251, md_252, md_253, md_254, md_255] := rfl
set_option maxRecDepth 100000 in
theorem cw_i16 : cw_l [md_256, md_257, md_258, md_259, md_260, md_261, md_262, md_263, md_264, md_265, md_266, md_267, md_268, md_269, md_270, md_271] = cw_r [md_256, md_257, md_258, md_259, md_260, md_261, md_262, md_263, md_264, md_265, md_266, md_267, md_268, md_269, md_270, md_271] := rfl
set_option maxRecDepth 100000 in
theorem cw_i17 : cw_l [md_272, md_273, md_274, md_275, md_276, md_277, md_278, md_279, md_280, md_281, md_282, md_283, md_284, md_285, md_286, md_287] = cw_r [md_272, md_273, md_274, md_275, md_276, md_277, md_278, md_279, md_280, md_281, md_282, md_283, md_284, md_285, md_286, md_287] := rfl
set_option maxRecDepth 100000 in
theorem cw_i18 : cw_l [md_288, md_289, md_290, md_291, md_292, md_293, md_294, md_295, md_296, md_297, md_298, md_299, md_300, md_301, md_302, md_303] = cw_r [md_288, md_289, md_290, md_291, md_292, md_293, md_294, md_295, md_296, md_297, md_298, md_299, md_300, md_301, md_302, md_303] := rfl
set_option maxRecDepth 100000 in
theorem cw_i19 : cw_l [md_304, md_305, md_306, md_307, md_308, md_309, md_310, md_311, md_312, md_313, md_314, md_315, md_316, md_317, md_318, md_319] = cw_r [md_304, md_305, md_306, md_307, md_308, md_309, md_310, md_311, md_312, md_313, md_314, md_315, md_316, md_317, md_318, md_319] := rfl
set_option maxRecDepth 100000 in
theorem cw_i20 : cw_l [md_320, md_321, md_322, md_323, md_324, md_325, md_326, md_327, md_328, md_329, md_330, md_331, md_332, md_333, md_334, md_335] = cw_r [md_320, md_321, md_322, md_323, md_324, md_325, md_326, md_327, md_328, md_329, md_330, md_331, md_332, md_333, md_334, md_335] := rfl
set_option maxRecDepth 100000 in
theorem cw_i21 : cw_l [md_336, md_337, md_338, md_339, md_340, md_341, md_342, md_343, md_344, md_345] = cw_r [md_336, md_337, md_338, md_339, md_340, md_341, md_342, md_343, md_344, md_345] := rfl
end
section
/-! THE SMALL MACHINE: the methods' code run over a plain heap: cells base, base + 1 ..; a cell is an object (class, fields) or an array (type, length); contents by cell and place -/
abbrev si_S : Type := (Nat × Nat) ⊕ (FieldType × Nat)
/-- how many cells, their shapes, their contents -/
abbrev si_H : Type := Nat × (Nat → si_S) × (Nat → Nat → Value)
/-- base, the script's address, its length, its ints, the addresses of String constants -/
abbrev si_P : Type := Nat × Nat × Nat × (Nat → Int32) × (Nat → Nat)
abbrev si_L : Type := List (Nat × Value)
def si_set (c : Nat → Nat → Value) (i k : Nat) (v : Value) : Nat → Nat → Value := fun a b => if a = i then (if b = k then v else c a b) else c a b
def si_ld (k : Nat) : si_L → Option Value
  | [] => none
  | q :: r => if q.1 = k then some q.2 else si_ld k r
def si_st1 (ls : si_L) (i : Nat) (v : Value) : si_L := (i, v) :: ls.filter (fun q => !(q.1 == i) && !(q.1 + 1 == i && q.2.category == 2))
def si_st2 (ls : si_L) (i : Nat) (v : Value) : si_L := (i, v) :: ls.filter (fun q => !(q.1 == i) && (!(q.1 == i + 1) && !(q.1 + 1 == i && q.2.category == 2)))
def si_tgt (pc : Nat) (off : Int) : Option Nat := if 0 ≤ (pc : Int) + off then some ((pc : Int) + off).toNat else none
def si_c1 (k : ClassFile.Cond) (x : Int32) : Bool := match k with
  | .eq => decide (x = 0)
  | .ne => decide (¬ x = 0)
  | .lt => decide (x < 0)
  | .ge => decide (0 ≤ x)
  | .gt => decide (0 < x)
  | .le => decide (x ≤ 0)
def si_c2 (k : ClassFile.Cond) (x y : Int32) : Bool := match k with
  | .eq => decide (x = y)
  | .ne => decide (¬ x = y)
  | .lt => decide (x < y)
  | .ge => decide (y ≤ x)
  | .gt => decide (y < x)
  | .le => decide (x ≤ y)
/-- two-place operations: the upper one first -/
def si_bin (i : Instr) (y x : Value) : Option Value := match i, y, x with
  | .iadd, .int y, .int x => some (.int (x + y))
  | .isub, .int y, .int x => some (.int (x - y))
  | .imul, .int y, .int x => some (.int (x * y))
  | .iand, .int y, .int x => some (.int (x &&& y))
  | .ior, .int y, .int x => some (.int (x ||| y))
  | .ixor, .int y, .int x => some (.int (x ^^^ y))
  | .ishl, .int y, .int x => some (.int (x <<< (y &&& 31)))
  | .ishr, .int y, .int x => some (.int (x >>> (y &&& 31)))
  | .iushr, .int y, .int x => some (.int (x.toUInt32 >>> (y.toUInt32 &&& Int32.toUInt32 31)).toInt32)
  | .idiv, .int y, .int x => if y = 0 then none else some (.int (x / y))
  | .irem, .int y, .int x => if y = 0 then none else some (.int (x - x / y * y))
  | .ladd, .long y, .long x => some (.long (x + y))
  | .lcmp, .long y, .long x => some (.int (lg_cmp x y))
  | _, _, _ => none
def si_un (i : Instr) (x : Value) : Option Value := match i, x with
  | .ineg, .int x => some (.int (-x))
  | .i2b, .int x => some (.int x.toInt8.toInt32)
  | .i2c, .int x => some (.int (x.toUInt32 % 65536).toInt32)
  | .i2l, .int x => some (.long x.toInt64)
  | .l2i, .long x => some (.int x.toInt32)
  | _, _ => none
/-- constants -/
def si_con (P : si_P) (e : si_E) : Option Value := match e with
  | (.iconst n, 1, _) => some (.int (Int32.ofInt n))
  | (.bipush n, 2, _) => some (.int (Int8.ofInt n).toInt32)
  | (.sipush n, 3, _) => some (.int (Int16.ofInt n).toInt32)
  | (.lconst n, 1, _) => some (.long (Int64.ofNat (n : Nat)))
  | (.ldc _, 2, a, b, _) => if b = 0 then some (.int (Int32.ofNat a)) else some (.ref (P.2.2.2.2 a))
  | (.ldc_w _, 3, a, b, _) => if b = 0 then some (.int (Int32.ofNat a)) else none
  | (.ldc2_w _, 3, a, _) => some (.long (Int64.ofNat a))
  | _ => none
/-- loads: the local's place, and what is allowed there -/
def si_lod (e : si_E) : Option (Nat × Nat) := match e with
  | (.iload_n k, 1, _) => some (k, 0)
  | (.iload k, 2, _) => some (k, 0)
  | (.lload_n k, 1, _) => some (k, 1)
  | (.lload k, 2, _) => some (k, 1)
  | (.aload_n k, 1, _) => some (k, 2)
  | (.aload k, 2, _) => some (k, 2)
  | _ => none
def si_sto (e : si_E) : Option (Nat × Nat) := match e with
  | (.istore_n k, 1, _) => some (k, 0)
  | (.istore k, 2, _) => some (k, 0)
  | (.lstore_n k, 1, _) => some (k, 1)
  | (.lstore k, 2, _) => some (k, 1)
  | (.astore_n k, 1, _) => some (k, 2)
  | (.astore k, 2, _) => some (k, 2)
  | _ => none
def si_kd (v : Value) (k : Nat) : Bool := match v with
  | .int _ => k == 0
  | .long _ => k == 1
  | .ref _ => k == 2
  | _ => false
/-- a cell's number, if the address is one of ours -/
def si_ix (P : si_P) (h : si_H) (a : Nat) : Option Nat := if P.1 ≤ a ∧ a < P.1 + h.1 then some (a - P.1) else none
def si_in (x : Int32) (n : Nat) : Bool := decide (0 ≤ x) && decide (x.toNatClampNeg < n)
/-- a load from an array of ours -/
def si_ald (P : si_P) (h : si_H) (tys : List FieldType) (a : Nat) (x : Int32) : Option Value := match si_ix P h a with
  | some i => (match h.2.1 i with
    | .inr (ty, n) => if si_in x n = true ∧ ty ∈ tys then some (h.2.2 i x.toNatClampNeg) else none
    | _ => none)
  | none => none
def si_nar (ty : FieldType) (v : Value) : Value := match ty with
  | .byte => narrow .byte v
  | .boolean => narrow .boolean v
  | _ => v
def si_ast (P : si_P) (h : si_H) (tys : List FieldType) (a : Nat) (x : Int32) (v : Value) : Option si_H := match si_ix P h a with
  | some i => (match h.2.1 i with
    | .inr (ty, n) => if si_in x n = true ∧ ty ∈ tys then some (h.1, h.2.1, si_set h.2.2 i x.toNatClampNeg (si_nar ty v)) else none
    | _ => none)
  | none => none
def si_fty (ci k : Nat) : FieldType := match si_cl[ci]? with
  | some (_, T, _) => (parseFieldDescriptor (T k).2.2.1).getD .int
  | none => .int
def si_fin (ci k : Nat) : Bool := match si_cl[ci]? with
  | some (_, T, _) => (T k).2.2.2
  | none => true
/-- the steps that neither call, nor return, nor make -/
def si_step (P : si_P) (y : si_M) (pc : Nat) (e : si_E) (ls : si_L) (st : List Value) (h : si_H) : Option (Nat × si_L × List Value × si_H) := match e.1 with
  | .iconst _ | .bipush _ | .sipush _ | .lconst _ | .ldc _ | .ldc_w _ | .ldc2_w _ => (match si_con P e with
    | some v => some (pc + e.2.1, ls, v :: st, h)
    | none => none)
  | .iload_n _ | .iload _ | .lload_n _ | .lload _ | .aload_n _ | .aload _ => (match si_lod e with
    | some (k, t) => (match si_ld k ls with
      | some v => if si_kd v t = true then some (pc + e.2.1, ls, v :: st, h) else none
      | none => none)
    | none => none)
  | .istore_n _ | .istore _ | .lstore_n _ | .lstore _ | .astore_n _ | .astore _ => (match si_sto e, st with
    | some (k, t), v :: r => if si_kd v t = true ∧ k + v.category ≤ y.2.2.2.1 then some (pc + e.2.1, if v.category = 2 then si_st2 ls k v else si_st1 ls k v, r, h) else none
    | _, _ => none)
  | .iinc k n => if e.2.1 = 3 ∧ k < y.2.2.2.1 then (match si_ld k ls with
    | some (.int x) => some (pc + 3, si_st1 ls k (.int (x + Int32.ofInt n)), st, h)
    | _ => none) else none
  | .iadd | .isub | .imul | .iand | .ior | .ixor | .ishl | .ishr | .iushr | .idiv | .irem | .ladd | .lcmp => if e.2.1 = 1 then (match st with
    | v :: w :: r => (match si_bin e.1 v w with
      | some z => some (pc + 1, ls, z :: r, h)
      | none => none)
    | _ => none) else none
  | .ineg | .i2b | .i2c | .i2l | .l2i => if e.2.1 = 1 then (match st with
    | v :: r => (match si_un e.1 v with
      | some z => some (pc + 1, ls, z :: r, h)
      | none => none)
    | _ => none) else none
  | .pop => if e.2.1 = 1 then (match st with
    | v :: r => if v.category = 1 then some (pc + 1, ls, r, h) else none
    | _ => none) else none
  | .dup => if e.2.1 = 1 then (match st with
    | v :: r => if v.category = 1 then some (pc + 1, ls, v :: v :: r, h) else none
    | _ => none) else none
  | .ifCond k off => if e.2.1 = 3 then (match st, si_tgt pc off with
    | .int x :: r, some t => some (if si_c1 k x = true then t else pc + 3, ls, r, h)
    | _, _ => none) else none
  | .if_icmp k off => if e.2.1 = 3 then (match st, si_tgt pc off with
    | .int y :: .int x :: r, some t => some (if si_c2 k x y = true then t else pc + 3, ls, r, h)
    | _, _ => none) else none
  | .goto off => if e.2.1 = 3 then (match si_tgt pc off with
    | some t => some (t, ls, st, h)
    | none => none) else none
  | .tableswitch d lo hi offs => (match st with
    | .int x :: r => if x.toInt < lo ∨ hi < x.toInt then (match si_tgt pc d with
      | some t => some (t, ls, r, h)
      | none => none) else (match offs[(x.toInt - lo).toNat]? with
      | some off => (match si_tgt pc off with
        | some t => some (t, ls, r, h)
        | none => none)
      | none => none)
    | _ => none)
  | .lookupswitch d ps => if (ps.toList.zip (ps.toList.drop 1)).all (fun (a, next) => a.1 < next.1) = true then (match st with
    | .int x :: r => (match si_tgt pc (Op.lookupswitch.offset ps.toList d x.toInt) with
      | some t => some (t, ls, r, h)
      | none => none)
    | _ => none) else none
  | .getfield _ => if e.2.1 = 3 then (match st with
    | .ref a :: r => (match si_ix P h a with
      | some i => if h.2.1 i = .inl (e.2.2.1, ((si_cl[e.2.2.1]?).map (fun q => q.2.2)).getD 0) then some (pc + 3, ls, h.2.2 i e.2.2.2.1 :: r, h) else none
      | none => none)
    | _ => none) else none
  | .putfield _ => if e.2.1 = 3 then (match st with
    | v :: .ref a :: r => (match si_ix P h a with
      | some i => if h.2.1 i = .inl (e.2.2.1, ((si_cl[e.2.2.1]?).map (fun q => q.2.2)).getD 0) ∧ narrow (si_fty e.2.2.1 e.2.2.2.1) v = v ∧ fits (si_fty e.2.2.1 e.2.2.2.1) v = true ∧ (si_fin e.2.2.1 e.2.2.2.1 = false ∨ (y.2.2.2.2.2.1 = 2 ∧ y.1 = e.2.2.1)) then some (pc + 3, ls, r, (h.1, h.2.1, si_set h.2.2 i e.2.2.2.1 v)) else none
      | none => none)
    | _ => none) else none
  | .iaload => if e.2.1 = 1 then (match st with
    | .int x :: .ref a :: r => if a = P.2.1 then (if si_in x P.2.2.1 = true then some (pc + 1, ls, .int (P.2.2.2.1 x.toNatClampNeg) :: r, h) else none) else (match si_ald P h [.int] a x with
      | some v => some (pc + 1, ls, v :: r, h)
      | none => none)
    | _ => none) else none
  | .baload => if e.2.1 = 1 then (match st with
    | .int x :: .ref a :: r => (match si_ald P h [.byte, .boolean] a x with
      | some v => some (pc + 1, ls, v :: r, h)
      | none => none)
    | _ => none) else none
  | .laload => if e.2.1 = 1 then (match st with
    | .int x :: .ref a :: r => (match si_ald P h [.long] a x with
      | some v => some (pc + 1, ls, v :: r, h)
      | none => none)
    | _ => none) else none
  | .iastore => if e.2.1 = 1 then (match st with
    | .int v :: .int x :: .ref a :: r => (match si_ast P h [.int] a x (.int v) with
      | some h' => some (pc + 1, ls, r, h')
      | none => none)
    | _ => none) else none
  | .bastore => if e.2.1 = 1 then (match st with
    | .int v :: .int x :: .ref a :: r => (match si_ast P h [.byte, .boolean] a x (.int v) with
      | some h' => some (pc + 1, ls, r, h')
      | none => none)
    | _ => none) else none
  | .lastore => if e.2.1 = 1 then (match st with
    | .long v :: .int x :: .ref a :: r => (match si_ast P h [.long] a x (.long v) with
      | some h' => some (pc + 1, ls, r, h')
      | none => none)
    | _ => none) else none
  | .arraylength => if e.2.1 = 1 then (match st with
    | .ref a :: r => if a = P.2.1 then some (pc + 1, ls, .int (Int32.ofNat P.2.2.1) :: r, h) else (match si_ix P h a with
      | some i => (match h.2.1 i with
        | .inr (_, n) => some (pc + 1, ls, .int (Int32.ofNat n) :: r, h)
        | _ => none)
      | none => none)
    | _ => none) else none
  | _ => none
/-- what is new: an object's fields, an array's places -/
def si_dv (ty : FieldType) : Value := match ty with
  | .int | .boolean | .byte => .int 0
  | .long => .long 0
  | _ => .null
def si_make (P : si_P) (e : si_E) (st : List Value) (h : si_H) : Option (List Value × si_H) := match e.1 with
  | .new _ => if e.2.1 = 3 then (match si_cl[e.2.2.1]? with
    | some q => some (.ref (P.1 + h.1) :: st, (h.1 + 1, fun i => if i = h.1 then .inl (e.2.2.1, q.2.2) else h.2.1 i, fun i => if i = h.1 then (fun k => si_dv (si_fty e.2.2.1 k)) else h.2.2 i))
    | none => none) else none
  | .newarray t => if e.2.1 = 2 then (match st with
    | .int n :: r => if ¬ n < 0 ∧ n.toNatClampNeg ≤ 65536 ∧ newarray.typeOf t ∈ [FieldType.int, .long, .byte, .boolean] then some (.ref (P.1 + h.1) :: r, (h.1 + 1, fun i => if i = h.1 then .inr (newarray.typeOf t, n.toNatClampNeg) else h.2.1 i, fun i => if i = h.1 then (fun _ => si_dv (newarray.typeOf t)) else h.2.2 i)) else none
    | _ => none) else none
  | _ => none
def si_text (k : Nat) : List Int32 := if k = 2 then [103, 108, 115, 120] else [99, 97, 118, 107, 110, 111, 116, 119]
def si_find (c : Int32) : List Int32 → Int32 → Int32
  | [], _ => -1
  | x :: r, i => if x = c then i else si_find c r (i + 1)
def si_wide (st : List Value) : Bool := decide ((st.map fun v => v.category).sum ≤ 8)
/-- a call: whom, with what, and what stays -/
def si_call (P : si_P) (e : si_E) (st : List Value) (h : si_H) : Option (Nat × List Value × List Value) := match e.1 with
  | .invokevirtual _ => if e.2.1 = 3 ∧ e.2.2.2.1 = 0 then (match si_m e.2.2.1 with
    | some y => (match st.drop y.2.2.2.2.2.2.1 with
      | .ref a :: r => (match si_ix P h a with
        | some i => (match h.2.1 i with
          | .inl (ci, n) => if ci = y.1 ∧ y.2.2.2.2.2.1 = 0 ∧ n = ((si_cl[ci]?).map (fun q => q.2.2)).getD 0 ∧ si_wide r = true ∧ (lg_sl (.ref a :: (st.take y.2.2.2.2.2.2.1).reverse)).length ≤ y.2.2.2.1 then some (e.2.2.1, .ref a :: (st.take y.2.2.2.2.2.2.1).reverse, r) else none
          | _ => none)
        | none => none)
      | _ => none)
    | none => none) else none
  | .invokestatic _ => if e.2.1 = 3 then (match si_m e.2.2.1 with
    | some y => if y.2.2.2.2.2.2.1 ≤ st.length ∧ y.2.2.2.2.2.1 = 1 ∧ y.1 ≠ 12 ∧ si_wide (st.drop y.2.2.2.2.2.2.1) = true ∧ (lg_sl (st.take y.2.2.2.2.2.2.1).reverse).length ≤ y.2.2.2.1 then some (e.2.2.1, (st.take y.2.2.2.2.2.2.1).reverse, st.drop y.2.2.2.2.2.2.1) else none
    | none => none) else none
  | .invokespecial _ => if e.2.1 = 3 ∧ e.2.2.2.1 ≤ 1 then (match si_m e.2.2.1 with
    | some y => (match st.drop y.2.2.2.2.2.2.1 with
      | .ref a :: r => if y.2.2.2.2.2.1 = 2 ∧ y.1 ≠ 12 ∧ si_wide r = true ∧ (lg_sl (.ref a :: (st.take y.2.2.2.2.2.2.1).reverse)).length ≤ y.2.2.2.1 then some (e.2.2.1, .ref a :: (st.take y.2.2.2.2.2.2.1).reverse, r) else none
      | _ => none)
    | none => none) else none
  | _ => none
/-- the calls that are laws of their own: String.indexOf, String.length, Object.<init> -/
def si_prim (P : si_P) (e : si_E) (st : List Value) : Option (List Value) := match e.1 with
  | .invokevirtual _ => if e.2.1 = 3 then (match e.2.2.2.1, st with
    | 7, .int c :: .ref a :: r => if si_wide r = true then (if a = P.2.2.2.2 1 then some (.int (si_find c (si_text 1) 0) :: r) else if a = P.2.2.2.2 2 then some (.int (si_find c (si_text 2) 0) :: r) else none) else none
    | 8, .ref a :: r => if a = P.2.2.2.2 3 ∧ si_wide r = true then some (.int 8 :: r) else none
    | _, _ => none) else none
  | .invokespecial _ => if e.2.1 = 3 ∧ e.2.2.2.1 = 9 then (match st with
    | .ref _ :: r => if si_wide r = true then some r else none
    | _ => none) else none
  | _ => none
def si_ret (y : si_M) (e : si_E) (st : List Value) : Option (Option Value) := match e.1, st with
  | .ireturn, [.int x] => (match y.2.2.2.2.1 with
    | some ty => if e.2.1 = 1 ∧ narrow ty (.int x) = .int x then some (some (.int x)) else none
    | none => none)
  | .lreturn, [.long x] => if e.2.1 = 1 ∧ y.2.2.2.2.1 = some .long then some (some (.long x)) else none
  | .return_, [] => if e.2.1 = 1 ∧ y.2.2.2.2.1 = none then some none else none
  | _, _ => none
/-- the run of a method from a place on, of at most n steps, calls at most d deep -/
def si_run (P : si_P) : Nat → Nat → Nat → Nat → si_L → List Value → si_H → Option (Option Value × si_H)
  | 0, _, _, _, _, _, _ => none
  | n + 1, d, m, pc, ls, st, h => match si_m m, si_fetch m pc with
    | some y, some e => (match si_step P y pc e ls st h with
      | some (pc', ls', st', h') => si_run P n d m pc' ls' st' h'
      | none => (match si_ret y e st with
        | some r => some (r, h)
        | none => (match si_make P e st h with
          | some (st', h') => si_run P n d m (pc + e.2.1) ls st' h'
          | none => (match d with
            | 0 => none
            | d + 1 => (match si_call P e st h with
              | some (m', as, r) => (match si_run P n d m' 0 (lv_args 0 as) [] h with
                | some (some v, h') => si_run P n (d + 1) m (pc + 3) ls (v :: r) h'
                | some (none, h') => si_run P n (d + 1) m (pc + 3) ls r h'
                | none => none)
              | none => (match si_prim P e st with
                | some st' => if 8 ≤ d then si_run P n (d + 1) m (pc + 3) ls st' h else none
                | none => none))))))
    | _, _ => none
end
section
/-! what a state is, over the machine's heap -/
def si_nest : Cond → Bool
  | .fieldLinkNest _ _ _ _ _ _ => true
  | .methodLinkNest _ _ _ _ => true
  | _ => false
def si_gw : List Cond := lw_tbl.filter goodWord
def si_ws (y : si_M) : List Cond := Cond.code y.2.1 y.2.2.1 y.2.2.2.1 y.2.2.2.2.1 :: si_gw
theorem si_gw_in {w : Cond} (h : w ∈ lw_tbl) (hg : goodWord w = true) : w ∈ si_gw := List.mem_filter.mpr ⟨h, hg⟩
theorem si_at {p : Nat} {w : Cond} (h : lw_tbl[p]? = some w) : w ∈ lw_tbl := List.mem_of_getElem? h
def si_tys (ca : FieldType → ClassId) : List (ClassId × FieldType) := [(ca .int, .int), (ca .long, .long), (ca .byte, .byte), (ca .boolean, .boolean)]
def si_K (D : va_G) (ca : FieldType → ClassId) (s : State) : Prop := va_K D si_cl (si_tys ca) s ∧ ∀ w ∈ lw_tbl, si_nest w = true → va_Nw w s
theorem si_K.warm {D : va_G} {ca : FieldType → ClassId} {s U : State} (hW : s.WarmedH U.vm) (h : si_K D ca s) : si_K D ca U := by
  refine ⟨va_K.moved hW.alike h.1, fun w hw hn => ?_⟩
  have h1 := h.2 w hw hn
  cases w <;> first | exact va_Nw.warmF hW h1 | exact va_Nw.warmM hW h1 | exact (Bool.false_ne_true hn).elim
theorem si_K.same {D : va_G} {ca : FieldType → ClassId} {s U : State} (hv : s.vm = U.vm) (h : si_K D ca s) : si_K D ca U := by
  refine ⟨va_K.moved (by rw [hv]; exact Vm.Alike.refl _) h.1, fun w hw hn => ?_⟩
  have h1 := h.2 w hw hn
  cases w <;> first | exact va_Nw.same rfl hv h1 | exact (Bool.false_ne_true hn).elim
def si_A (P : si_P) : Nat → Prop := fun q => P.1 ≤ q
/-- what lies outside: the script, the String constants, a static -/
def si_X (P : si_P) (U : State) : Prop := va_X P.2.1 P.2.2.1 P.2.2.2.1 U U.heap ∧ P.2.1 < P.1 ∧ P.1 ≤ U.heap.size ∧ (∀ O i t, Cond.stringRef O i t ∈ lw_tbl → vk_R O i t (P.2.2.2.2 (if t = "glsx" then 2 else 1)) U) ∧ P.2.2.2.2 3 = P.2.2.2.2 1 ∧ (∃ adV : Nat → Nat, vk_S 2 [8, 4] [si_text 1, si_text 2] (fun i => P.2.2.2.2 (i + 1)) adV (si_A P) U U.heap) ∧ va_Z "java/lang/String" "COMPACT_STRINGS" "Z" (.int 1) (si_A P) U U.heap
theorem si_X.step {P : si_P} {s U : State} (hW : s.WarmedH U.vm) (hz : s.heap.size ≤ U.heap.size) (hq : ∀ q : Nat, q < s.heap.size → ¬ si_A P q → U.heap[q]? = s.heap[q]?) (h : si_X P s) : si_X P U := by
  obtain ⟨h1, h2, h3, h4, h5, ⟨adV, h6⟩, h7⟩ := h
  exact ⟨(h1.moved hW.alike).kept (hq _ (Nat.lt_of_lt_of_le h2 h3) (Nat.not_le.mpr h2)), h2, Nat.le_trans h3 hz, fun O i t ht => (h4 O i t ht).warm hW, h5, ⟨adV, (h6.moved hW.alike).kept hq⟩, (h7.moved hW.alike).kept hq⟩
theorem si_X.same {P : si_P} {s U : State} (hv : s.vm = U.vm) (hh : s.heap = U.heap) (h : si_X P s) : si_X P U := by
  obtain ⟨h1, h2, h3, h4, h5, ⟨adV, h6⟩, h7⟩ := h
  have ha : s.vm.Alike U.vm := by rw [hv]; exact Vm.Alike.refl _
  exact ⟨by rw [← hh]; exact h1.moved ha, h2, by rw [← hh]; exact h3, fun O i t ht => (h4 O i t ht).same hv.symm, h5, ⟨adV, by rw [← hh]; exact h6.moved ha⟩, by rw [← hh]; exact h7.moved ha⟩
/-- a cell -/
def si_cell (D : va_G) (ca : FieldType → ClassId) (q : Nat) (sh : si_S) (f : Nat → Value) (H : Heap) : Prop := match sh with
  | .inl o => ∃ r : vw_C, si_cl[o.1]? = some r ∧ r.2.2 = o.2 ∧ t_OB q (D.1 o.1) o.2 (D.2 o.1) H f
  | .inr a => a.1 ∈ [FieldType.int, .long, .byte, .boolean] ∧ H[q]? = some (arrV (ca a.1) a.2 f)
def si_W (D : va_G) (ca : FieldType → ClassId) (P : si_P) (h : si_H) (H : Heap) : Prop := H.size = P.1 + h.1 ∧ ∀ i : Nat, i < h.1 → si_cell D ca (P.1 + i) (h.2.1 i) (h.2.2 i) H
theorem si_cell.kept {D : va_G} {ca : FieldType → ClassId} {q : Nat} {sh : si_S} {f : Nat → Value} {H H1 : Heap} (h : si_cell D ca q sh f H) (hq : H1[q]? = H[q]?) : si_cell D ca q sh f H1 := by
  cases sh with
  | inl o =>
    obtain ⟨r, h1, h2, h3⟩ := h
    exact ⟨r, h1, h2, h3.kept hq⟩
  | inr a => exact ⟨h.1, hq.trans h.2⟩
theorem si_arr {D : va_G} {ca : FieldType → ClassId} {s : State} (hK : si_K D ca s) {ty : FieldType} (h : ty ∈ [FieldType.int, .long, .byte, .boolean]) : ArrOfT s (ca ty) ty ∧ va_RA s (ca ty) ty := by
  simp only [List.mem_cons, List.not_mem_nil, or_false] at h
  rcases h with rfl | rfl | rfl | rfl
  · exact hK.1.2 0 _ rfl
  · exact hK.1.2 1 _ rfl
  · exact hK.1.2 2 _ rfl
  · exact hK.1.2 3 _ rfl
theorem si_ix_spec {P : si_P} {h : si_H} {a i : Nat} (hi : si_ix P h a = some i) : a = P.1 + i ∧ i < h.1 := by
  unfold si_ix at hi
  split at hi
  · rename_i hc
    cases hi
    omega
  · cases hi
theorem si_in_spec {x : Int32} {n : Nat} (h : si_in x n = true) : vp_in x n := by
  unfold si_in at h
  simp only [Bool.and_eq_true, decide_eq_true_eq] at h
  intro hc
  rcases hc with hc | hc
  · exact absurd hc (Int32.not_lt.mpr h.1)
  · omega
theorem si_set_row {c : Nat → Nat → Value} {i k : Nat} {v : Value} : si_set c i k v i = updV (c i) k v := by
  funext j
  simp [si_set, updV]
theorem si_set_ne {c : Nat → Nat → Value} {i k j : Nat} {v : Value} (h : j ≠ i) : si_set c i k v j = c j := by
  funext b
  simp [si_set, h]
theorem si_W.put {D : va_G} {ca : FieldType → ClassId} {P : si_P} {h : si_H} {H H1 : Heap} {i k : Nat} {v : Value} (hW : si_W D ca P h H) (hz : H1.size = H.size) (hc : si_cell D ca (P.1 + i) (h.2.1 i) (updV (h.2.2 i) k v) H1) (ho : ∀ q : Nat, q ≠ P.1 + i → H1[q]? = H[q]?) : si_W D ca P (h.1, h.2.1, si_set h.2.2 i k v) H1 := by
  refine ⟨hz.trans hW.1, fun j hj => ?_⟩
  by_cases hji : j = i
  · subst hji
    show si_cell D ca (P.1 + j) (h.2.1 j) (si_set h.2.2 j k v j) H1
    rw [si_set_row]
    exact hc
  · show si_cell D ca (P.1 + j) (h.2.1 j) (si_set h.2.2 i k v j) H1
    rw [si_set_ne hji]
    exact (hW.2 j hj).kept (ho _ (by omega))
/-- the classes are as the tables say -/
def si_clk (ci : Nat) : Bool := match si_cl[ci]? with
  | some (C, T, N) => (u_ws C T N).all (fun w => decide (w ∈ lw_tbl) && goodWord w) && (List.range N).all (fun k => decide (parseFieldDescriptor (T k).2.2.1 = some (si_fty ci k))) && (List.range N).all (fun a => (List.range N).all (fun b => decide (a = b) || decide ((T a).2.1 ≠ (T b).2.1))) && decide (Cond.instantiable C N ∈ lw_tbl) && decide (Cond.initialized C ∈ lw_tbl) && decide (si_own[ci]? = some C) && (List.range N).all (fun k => decide (si_dv (si_fty ci k) = defaultValue (si_fty ci k)))
  | none => true
theorem si_clk0 : (List.range 6).all si_clk = true := by decide +kernel
theorem si_clk1 : ([6, 7, 8, 9, 10, 11].all si_clk) = true := by decide +kernel
theorem si_cls {ci : Nat} {C : String} {T : u_T} {N : Nat} (h : si_cl[ci]? = some (C, T, N)) : (∀ w ∈ u_ws C T N, w ∈ si_gw) ∧ (∀ k, k < N → parseFieldDescriptor (T k).2.2.1 = some (si_fty ci k)) ∧ (∀ a, a < N → ∀ b, b < N → a ≠ b → (T a).2.1 ≠ (T b).2.1) ∧ Cond.instantiable C N ∈ lw_tbl ∧ Cond.initialized C ∈ lw_tbl ∧ si_own[ci]? = some C ∧ (∀ k, k < N → si_dv (si_fty ci k) = defaultValue (si_fty ci k)) := by
  have hl : ci < 12 := (List.getElem?_eq_some_iff.mp h).1
  have hk : si_clk ci = true := by
    by_cases h6 : ci < 6
    · exact List.all_eq_true.mp si_clk0 ci (List.mem_range.mpr h6)
    · refine List.all_eq_true.mp si_clk1 ci ?_
      simp only [List.mem_cons, List.not_mem_nil, or_false]
      omega
  unfold si_clk at hk
  rw [h] at hk
  simp only [Bool.and_eq_true, decide_eq_true_eq, List.all_eq_true, Bool.or_eq_true, List.mem_range] at hk
  obtain ⟨⟨⟨⟨⟨⟨h1, h2⟩, h3⟩, h4⟩, h5⟩, h6⟩, h7⟩ := hk
  exact ⟨fun w hw => si_gw_in (h1 w hw).1 (h1 w hw).2, h2, fun a ha b hb hne => (h3 a ha b hb).resolve_left hne, h4, h5, h6, h7⟩
end
section
section SiSteps
variable {p : Program} {l : Launch} {e : Env} {R : Room} {s : State} {m : MethodId} {args : Array Value} {below : List Frame} {meth : Method} {c : Code} {H : Heap} {locs : List Loc} {cells slots : Nat} {Q : State → Prop}
variable {cc : ByteArray} {pc : Nat} {LS : Array Slot} {st : List Value} {D : va_G} {ca : FieldType → ClassId} {P : si_P} {O : String} {r : si_E} {ls : si_L} {nL : Nat} {h : si_H}
theorem si_con_W {v : Value} (hx : p.tables.exec = Jvm.exec) (hb : c.code = cc) (hown : s.vm.findClass O = some m.cls) (hts : ∀ w ∈ si_gw, w.before args s = true) (hX : si_X P s) (hd : decode cc pc = .ok (r.1, r.2.1)) (hl : lk_e O r = true) (hv : si_con P r = some v)
    (k : W p l e R s m args below meth c H locs cells slots Q (F0 m (pc + r.2.1) LS (v :: st))) : W p l e R s m args below meth c H locs cells slots Q (F0 m pc LS st) := by
  obtain ⟨i, n, a, b, q⟩ := r
  unfold si_con at hv
  split at hv
  all_goals try (rename_i heq; cases heq)
  · cases hv; exact lv_iconst hx hb hd rfl k
  · cases hv; exact lv_bipush hx hb hd rfl k
  · cases hv; exact lv_sipush hx hb hd rfl k
  · cases hv; exact lv_lconst hx hb hd rfl k
  · split at hv
    · rename_i h0
      subst h0
      cases hv
      have hw : lw_tbl[q]? = some (.constant O _ (Int32.ofNat a)) := of_decide_eq_true hl
      exact lv_ldc hx hb hown (hts _ (si_gw_in (si_at hw) rfl)) hd k
    · rename_i ix h0
      cases hv
      have hstr := hX.2.2.2.1
      have h31 := hX.2.2.2.2.1
      have key : ∃ t, lw_tbl[q]? = some (.stringRef O ix t) ∧ P.2.2.2.2 a = P.2.2.2.2 (if t = "glsx" then 2 else 1) := by
        unfold lk_e at hl
        cases b with
        | zero => exact absurd rfl h0
        | succ b =>
          dsimp only at hl
          split at hl
          · rename_i hz
            cases hz
          · split at hl
            · exact ⟨_, of_decide_eq_true hl, rfl⟩
            · exact ⟨_, of_decide_eq_true hl, rfl⟩
            · exact ⟨_, of_decide_eq_true hl, h31⟩
            · cases hl
      obtain ⟨t, hw, ha⟩ := key
      dsimp only at k ⊢
      rw [ha] at k
      exact va_ldcS hx hb hown (hstr _ _ _ (si_at hw)) hd k
  · split at hv
    · rename_i h0
      subst h0
      cases hv
      have hw : lw_tbl[q]? = some (.constant O _ (Int32.ofNat a)) := of_decide_eq_true hl
      exact lv_ldcw hx hb hown (hts _ (si_gw_in (si_at hw) rfl)) hd k
    · cases hv
  · cases hv
    have hw : lw_tbl[q]? = some (.constantLong O _ (Int64.ofNat a)) := of_decide_eq_true hl
    exact lv_ldc2 hx hb hown (hts _ (si_gw_in (si_at hw) rfl)) hd k
  · cases hv
theorem si_ld_mem {k : Nat} {v : Value} {ls : si_L} (h : si_ld k ls = some v) : (k, v) ∈ ls := by
  induction ls with
  | nil => cases h
  | cons q r ih =>
    unfold si_ld at h
    split at h
    · rename_i hq
      cases h
      rw [← hq]
      exact List.mem_cons_self
    · exact List.mem_cons_of_mem _ (ih h)
theorem si_lod_W {v : Value} {k t : Nat} (hx : p.tables.exec = Jvm.exec) (hb : c.code = cc) (hL : lv_has LS nL ls) (hd : decode cc pc = .ok (r.1, r.2.1)) (hr : si_lod r = some (k, t)) (hv : si_ld k ls = some v) (ht : si_kd v t = true)
    (kk : W p l e R s m args below meth c H locs cells slots Q (F0 m (pc + r.2.1) LS (v :: st))) : W p l e R s m args below meth c H locs cells slots Q (F0 m pc LS st) := by
  obtain ⟨i, n, a, b, q⟩ := r
  have hm := hL.2.2 _ (si_ld_mem hv)
  dsimp only at hm
  unfold si_lod at hr
  split at hr
  all_goals try (rename_i heq; cases heq)
  all_goals first
    | (cases hr; done)
    | (cases hr; cases v <;> first | (exact (Bool.false_ne_true ht).elim) | exact lv_iload_n hx hb hd rfl hm kk | exact lv_iload hx hb hd hm kk | exact lv_lload_n hx hb hd rfl hm kk | exact lv_lload hx hb hd hm kk | exact lv_aload_n hx hb hd rfl hm kk | exact lv_aload hx hb hd hm kk)
theorem si_sto_W {v : Value} {k t : Nat} (hx : p.tables.exec = Jvm.exec) (hb : c.code = cc) (hL : lv_has LS nL ls) (hd : decode cc pc = .ok (r.1, r.2.1)) (hr : si_sto r = some (k, t)) (ht : si_kd v t = true) (hk : k + v.category ≤ nL)
    (kk : ∀ LS' : Array Slot, lv_has LS' nL (if v.category = 2 then si_st2 ls k v else si_st1 ls k v) → W p l e R s m args below meth c H locs cells slots Q (F0 m (pc + r.2.1) LS' st)) : W p l e R s m args below meth c H locs cells slots Q (F0 m pc LS (v :: st)) := by
  obtain ⟨i, n, a, b, q⟩ := r
  unfold si_sto at hr
  split at hr
  all_goals try (rename_i heq; cases heq)
  all_goals first
    | (cases hr; done)
    | (cases hr; cases v <;> first
        | (exact (Bool.false_ne_true ht).elim)
        | exact lv_istore_n hx hb hd rfl hL hk rfl (fun ls' hl => kk ls' hl)
        | exact lv_istore hx hb hd hL hk rfl (fun ls' hl => kk ls' hl)
        | exact lv_lstore_n hx hb hd rfl hL hk rfl (fun ls' hl => kk ls' hl)
        | exact lv_lstore hx hb hd hL hk rfl (fun ls' hl => kk ls' hl)
        | exact lv_astore_n hx hb hd rfl hL hk rfl (fun ls' hl => kk ls' hl)
        | exact lv_astore hx hb hd hL hk rfl (fun ls' hl => kk ls' hl))
theorem si_bin_W {i : Instr} {v w z : Value} (hx : p.tables.exec = Jvm.exec) (hb : c.code = cc) (hd : decode cc pc = .ok (i, 1)) (hz : si_bin i v w = some z)
    (k : W p l e R s m args below meth c H locs cells slots Q (F0 m (pc + 1) LS (z :: st))) : W p l e R s m args below meth c H locs cells slots Q (F0 m pc LS (v :: w :: st)) := by
  unfold si_bin at hz
  split at hz
  · cases hz; exact lv_iadd hx hb hd k
  · cases hz; exact lv_isub hx hb hd k
  · cases hz; exact lv_imul hx hb hd k
  · cases hz; exact lv_iand hx hb hd k
  · cases hz; exact lv_ior hx hb hd k
  · cases hz; exact lv_ixor hx hb hd k
  · cases hz; exact lv_ishl hx hb hd k
  · cases hz; exact lv_ishr hx hb hd k
  · cases hz; exact lv_iushr hx hb hd rfl k
  · split at hz
    · cases hz
    · rename_i h0; cases hz; exact lv_idiv hx hb hd h0 k
  · split at hz
    · cases hz
    · rename_i h0; cases hz; exact lv_irem hx hb hd h0 k
  · cases hz; exact lv_ladd hx hb hd k
  · cases hz; exact W.lcmp hx hb hd k
  · cases hz
theorem si_un_W {i : Instr} {v z : Value} (hx : p.tables.exec = Jvm.exec) (hb : c.code = cc) (hd : decode cc pc = .ok (i, 1)) (hz : si_un i v = some z)
    (k : W p l e R s m args below meth c H locs cells slots Q (F0 m (pc + 1) LS (z :: st))) : W p l e R s m args below meth c H locs cells slots Q (F0 m pc LS (v :: st)) := by
  unfold si_un at hz
  split at hz
  · cases hz; exact lv_ineg hx hb hd k
  · cases hz; exact lv_i2b hx hb hd rfl k
  · cases hz; exact lv_i2c hx hb hd rfl k
  · cases hz; exact lv_i2l hx hb hd rfl k
  · cases hz; exact lv_l2i hx hb hd rfl k
  · cases hz
theorem si_tgt_spec {pc t : Nat} {off : Int} (h : si_tgt pc off = some t) : (pc : Int) + off = (t : Int) := by
  unfold si_tgt at h
  split at h
  · rename_i h0
    cases h
    exact (Int.toNat_of_nonneg h0).symm
  · cases h
theorem si_if_W {kd : ClassFile.Cond} {off : Int} {x : Int32} {t : Nat} (hx : p.tables.exec = Jvm.exec) (hb : c.code = cc) (hd : decode cc pc = .ok (.ifCond kd off, 3)) (ht : si_tgt pc off = some t)
    (k : W p l e R s m args below meth c H locs cells slots Q (F0 m (if si_c1 kd x = true then t else pc + 3) LS st)) : W p l e R s m args below meth c H locs cells slots Q (F0 m pc LS (.int x :: st)) := by
  have ht := si_tgt_spec ht
  cases kd
  · exact lv_if_eq hx hb hd ht (fun hc => by have e0 : si_c1 .eq x = true := decide_eq_true hc; rw [if_pos e0] at k; exact k) (fun hc => by have e0 : ¬ si_c1 .eq x = true := fun q => hc (of_decide_eq_true q); rw [if_neg e0] at k; exact k)
  · exact lv_if_ne hx hb hd ht (fun hc => by have e0 : si_c1 .ne x = true := decide_eq_true hc; rw [if_pos e0] at k; exact k) (fun hc => by have e0 : ¬ si_c1 .ne x = true := fun q => (of_decide_eq_true q) hc; rw [if_neg e0] at k; exact k)
  · exact lv_if_lt hx hb hd ht (fun hc => by have e0 : si_c1 .lt x = true := decide_eq_true hc; rw [if_pos e0] at k; exact k) (fun hc => by have e0 : ¬ si_c1 .lt x = true := fun q => hc (of_decide_eq_true q); rw [if_neg e0] at k; exact k)
  · exact lv_if_ge hx hb hd ht (fun hc => by have e0 : si_c1 .ge x = true := decide_eq_true hc; rw [if_pos e0] at k; exact k) (fun hc => by have e0 : ¬ si_c1 .ge x = true := fun q => hc (of_decide_eq_true q); rw [if_neg e0] at k; exact k)
  · exact lv_if_gt hx hb hd ht (fun hc => by have e0 : si_c1 .gt x = true := decide_eq_true hc; rw [if_pos e0] at k; exact k) (fun hc => by have e0 : ¬ si_c1 .gt x = true := fun q => hc (of_decide_eq_true q); rw [if_neg e0] at k; exact k)
  · exact lv_if_le hx hb hd ht (fun hc => by have e0 : si_c1 .le x = true := decide_eq_true hc; rw [if_pos e0] at k; exact k) (fun hc => by have e0 : ¬ si_c1 .le x = true := fun q => hc (of_decide_eq_true q); rw [if_neg e0] at k; exact k)
theorem si_icmp_W {kd : ClassFile.Cond} {off : Int} {x y : Int32} {t : Nat} (hx : p.tables.exec = Jvm.exec) (hb : c.code = cc) (hd : decode cc pc = .ok (.if_icmp kd off, 3)) (ht : si_tgt pc off = some t)
    (k : W p l e R s m args below meth c H locs cells slots Q (F0 m (if si_c2 kd x y = true then t else pc + 3) LS st)) : W p l e R s m args below meth c H locs cells slots Q (F0 m pc LS (.int y :: .int x :: st)) := by
  have ht := si_tgt_spec ht
  cases kd
  · exact lv_icmp_eq hx hb hd ht (fun hc => by have e0 : si_c2 .eq x y = true := decide_eq_true hc; rw [if_pos e0] at k; exact k) (fun hc => by have e0 : ¬ si_c2 .eq x y = true := fun q => hc (of_decide_eq_true q); rw [if_neg e0] at k; exact k)
  · exact lv_icmp_ne hx hb hd ht (fun hc => by have e0 : si_c2 .ne x y = true := decide_eq_true hc; rw [if_pos e0] at k; exact k) (fun hc => by have e0 : ¬ si_c2 .ne x y = true := fun q => (of_decide_eq_true q) hc; rw [if_neg e0] at k; exact k)
  · exact lv_icmp_lt hx hb hd ht (fun hc => by have e0 : si_c2 .lt x y = true := decide_eq_true hc; rw [if_pos e0] at k; exact k) (fun hc => by have e0 : ¬ si_c2 .lt x y = true := fun q => hc (of_decide_eq_true q); rw [if_neg e0] at k; exact k)
  · exact lv_icmp_ge hx hb hd ht (fun hc => by have e0 : si_c2 .ge x y = true := decide_eq_true hc; rw [if_pos e0] at k; exact k) (fun hc => by have e0 : ¬ si_c2 .ge x y = true := fun q => hc (of_decide_eq_true q); rw [if_neg e0] at k; exact k)
  · exact lv_icmp_gt hx hb hd ht (fun hc => by have e0 : si_c2 .gt x y = true := decide_eq_true hc; rw [if_pos e0] at k; exact k) (fun hc => by have e0 : ¬ si_c2 .gt x y = true := fun q => hc (of_decide_eq_true q); rw [if_neg e0] at k; exact k)
  · exact lv_icmp_le hx hb hd ht (fun hc => by have e0 : si_c2 .le x y = true := decide_eq_true hc; rw [if_pos e0] at k; exact k) (fun hc => by have e0 : ¬ si_c2 .le x y = true := fun q => hc (of_decide_eq_true q); rw [if_neg e0] at k; exact k)
theorem si_get_W {idx ci k q i n : Nat} (hx : p.tables.exec = Jvm.exec) (hb : c.code = cc) (hown : s.vm.findClass O = some m.cls) (hts : ∀ w ∈ si_gw, w.before args s = true) (hK : si_K D ca s) (hW : si_W D ca P h H) (hd : decode cc pc = .ok (.getfield idx, 3)) (hl : lk_e O (.getfield idx, 3, ci, k, q) = true) (hi : i < h.1) (hsh : h.2.1 i = .inl (ci, n))
    (kk : W p l e R s m args below meth c H locs cells slots Q (F0 m (pc + 3) LS (h.2.2 i k :: st))) : W p l e R s m args below meth c H locs cells slots Q (F0 m pc LS (.ref (P.1 + i) :: st)) := by
  have hc := hW.2 i hi
  rw [hsh] at hc
  obtain ⟨w, h1, h2, cell, q1, q2, q3, q4⟩ := hc
  obtain ⟨C, T, N⟩ := w
  dsimp only at h1 h2 q2 q4
  subst h2
  obtain ⟨hin, -⟩ := si_cls h1
  obtain ⟨hS, hfc, kC, hkC, hkind⟩ := hK.1.1 ci _ h1
  unfold lk_e at hl
  dsimp only at hl
  rw [h1] at hl
  simp only [Bool.and_eq_true, Bool.or_eq_true, decide_eq_true_eq] at hl
  obtain ⟨⟨hk, hTC⟩, hlink⟩ := hl
  obtain ⟨cf, kf, fi, f, hif, hsl⟩ := hS k hk
  have hst := (u_facts hfc hkC (u_lays hts hin hk) hif).1
  have hslot : cell.slots[f.slot]? = some (h.2.2 i k) := by rw [hsl]; exact q4 k hk
  rcases hlink with hlink | hlink
  · exact W.getf hx hb hown (hts _ (si_gw_in (si_at hlink) rfl)) (by rw [← hTC]; exact hif) hst q1 (by rw [q3]; exact fun z => by cases z) hslot rfl rfl hd kk
  · exact va_Wgetf hx hb hown (va_Nw.use rfl (hK.2 _ (si_at hlink) rfl)) (by rw [← hTC]; exact hif) hst q1 (by rw [q3]; exact fun z => by cases z) hslot rfl rfl hd kk
theorem si_put_W {idx ci k q i n : Nat} {v : Value} (hx : p.tables.exec = Jvm.exec) (hb : c.code = cc) (hown : s.vm.findClass O = some m.cls) (hts : ∀ w ∈ si_gw, w.before args s = true) (hK : si_K D ca s) (hW : si_W D ca P h H) (hS0 : va_S (si_A P) s.heap H locs) (hd : decode cc pc = .ok (.putfield idx, 3)) (hl : lk_e O (.putfield idx, 3, ci, k, q) = true) (hi : i < h.1) (hsh : h.2.1 i = .inl (ci, n))
    (hn : narrow (si_fty ci k) v = v) (hfit : fits (si_fty ci k) v = true) (hfin : si_fin ci k = false ∨ (meth.name = "<init>" ∧ si_own[ci]? = some O))
    (kk : ∀ (H1 : Heap) (locs1 : List Loc), si_W D ca P (h.1, h.2.1, si_set h.2.2 i k v) H1 → va_S (si_A P) s.heap H1 locs1 → W p l e R s m args below meth c H1 locs1 cells slots Q (F0 m (pc + 3) LS st)) : W p l e R s m args below meth c H locs cells slots Q (F0 m pc LS (v :: .ref (P.1 + i) :: st)) := by
  have hc := hW.2 i hi
  rw [hsh] at hc
  obtain ⟨w, h1, h2, cell, q1, q2, q3, q4⟩ := hc
  obtain ⟨C, T, N⟩ := w
  dsimp only at h1 h2 q2 q4
  subst h2
  obtain ⟨hin, hty, hnm, -, -, hoC, -⟩ := si_cls h1
  have hap := va_apart (own := O) hts hin (si_fty ci) hty hnm hK.1 h1
  obtain ⟨hS, hfc, kC, hkC, hkind⟩ := hK.1.1 ci _ h1
  unfold lk_e at hl
  dsimp only at hl
  rw [h1] at hl
  simp only [Bool.and_eq_true, Bool.or_eq_true, decide_eq_true_eq] at hl
  obtain ⟨⟨hk, hTC⟩, hlink⟩ := hl
  obtain ⟨cf, kf, fi, f, hif, hsl⟩ := hS k hk
  have hla := u_lays hts hin hk
  have hst := (u_facts hfc hkC hla hif).1
  have h6 := u_fits hfc hkC hkind hla hif (hty k hk) hn hfit
  have hf2 : hasFlag f.accessFlags Acc.final = false ∨ (m.cls = cf ∧ meth.name = "<init>") := by
    have hlay := hts _ (hin _ (u_in_lay hk))
    unfold u_lay at hlay
    by_cases hff : (T k).2.2.2 = true
    · rcases hfin with hfin | ⟨hfi, hfo⟩
      · unfold si_fin at hfin
        rw [h1] at hfin
        dsimp only at hfin
        rw [hff] at hfin
        cases hfin
      · rw [if_pos hff] at hlay
        obtain ⟨_, _, c', _, _, _, -, -, hf', -, -, -, hown2, -⟩ := Cond.laysFinal_spec hlay
        have e1 : c' = cf := by have := hif.symm.trans hf'; simp at this; exact this.1.symm
        rw [hTC, ← Option.some.inj (hfo.symm.trans hoC)] at hown2
        exact Or.inr ⟨by rw [← e1]; exact Option.some.inj (hown.symm.trans hown2), hfi⟩
    · rw [if_neg hff] at hlay
      exact Or.inl (u_store hfc hkC hkind hlay hif (hty k hk) hn hfit).1
  have ha : P.1 + i < H.size := (Array.getElem?_eq_some_iff.mp q1).1
  have hlt : f.slot < cell.slots.size := by rw [hsl]; exact k2_hasslot (q4 k hk)
  have key : W p l e R s m args below meth c (H.setIfInBounds (P.1 + i) (cell.setSlot f.slot v)) (locs ++ [⟨P.1 + i, f.slot⟩]) cells slots Q (F0 m (pc + 3) LS st) := by
    have e1 : (H.setIfInBounds (P.1 + i) (cell.setSlot f.slot v))[P.1 + i]? = some (cell.setSlot f.slot v) := by simp [Array.getElem?_setIfInBounds, ha]
    have e2 : (H.setIfInBounds (P.1 + i) (cell.setSlot f.slot v)).size = H.size := by simp
    have e3 : ∀ z : Nat, z ≠ P.1 + i → (H.setIfInBounds (P.1 + i) (cell.setSlot f.slot v))[z]? = H[z]? := fun z hz => by simp [Array.getElem?_setIfInBounds, Ne.symm hz]
    refine kk _ _ (hW.put e2 ?_ e3) (hS0.put e2 e3 (show P.1 ≤ P.1 + i by omega))
    rw [hsh]
    rw [hsl] at e1 ⊢
    exact ⟨(C, T, N), h1, rfl, _, e1, q2, q3, t_set q4 hap hk v⟩
  rcases hlink with hlink | hlink
  · exact W.putf hx hb hown (hts _ (si_gw_in (si_at hlink) rfl)) (by rw [← hTC]; exact hif) hst hf2 q1 (by rw [q3]; exact fun z => by cases z) hlt h6.1 (by rw [q3, q2]; exact h6.2) rfl rfl hd key
  · exact va_Wputf hx hb hown (va_Nw.use rfl (hK.2 _ (si_at hlink) rfl)) (by rw [← hTC]; exact hif) hst hf2 q1 (by rw [q3]; exact fun z => by cases z) hlt h6.1 (by rw [q3, q2]; exact h6.2) rfl rfl hd key
theorem si_ald_spec {tys : List FieldType} {a : Nat} {x : Int32} {v : Value} (h1 : si_ald P h tys a x = some v) : ∃ i ty n, a = P.1 + i ∧ i < h.1 ∧ h.2.1 i = .inr (ty, n) ∧ vp_in x n ∧ ty ∈ tys ∧ v = h.2.2 i x.toNatClampNeg := by
  unfold si_ald at h1
  split at h1
  · rename_i i hi
    obtain ⟨ha, hl⟩ := si_ix_spec hi
    split at h1
    · rename_i ty n hs
      split at h1
      · rename_i hc
        cases h1
        exact ⟨i, ty, n, ha, hl, hs, si_in_spec hc.1, hc.2, rfl⟩
      · cases h1
    · cases h1
  · cases h1
theorem si_ast_spec {tys : List FieldType} {a : Nat} {x : Int32} {v : Value} {h' : si_H} (h1 : si_ast P h tys a x v = some h') : ∃ i ty n, a = P.1 + i ∧ i < h.1 ∧ h.2.1 i = .inr (ty, n) ∧ vp_in x n ∧ ty ∈ tys ∧ h' = (h.1, h.2.1, si_set h.2.2 i x.toNatClampNeg (si_nar ty v)) := by
  unfold si_ast at h1
  split at h1
  · rename_i i hi
    obtain ⟨ha, hl⟩ := si_ix_spec hi
    split at h1
    · rename_i ty n hs
      split at h1
      · rename_i hc
        cases h1
        exact ⟨i, ty, n, ha, hl, hs, si_in_spec hc.1, hc.2, rfl⟩
      · cases h1
    · cases h1
  · cases h1
theorem si_arrcell {i n : Nat} {ty : FieldType} (hK : si_K D ca s) (hW : si_W D ca P h H) (hi : i < h.1) (hs : h.2.1 i = .inr (ty, n)) : H[P.1 + i]? = some (arrV (ca ty) n (h.2.2 i)) ∧ s.isArrayOf (arrV (ca ty) n (h.2.2 i)) ty := by
  have hc := hW.2 i hi
  rw [hs] at hc
  exact ⟨hc.2, (si_arr hK hc.1).1 _ _⟩
theorem si_astored {i n : Nat} {ty : FieldType} {x : Int32} {v : Value} {H1 : Heap} (hW : si_W D ca P h H) (hi : i < h.1) (hs : h.2.1 i = .inr (ty, n)) (e1 : H1[P.1 + i]? = some ((arrV (ca ty) n (h.2.2 i)).setSlot x.toNatClampNeg v)) (e2 : H1.size = H.size) (e3 : ∀ q : Nat, q ≠ P.1 + i → H1[q]? = H[q]?) : si_W D ca P (h.1, h.2.1, si_set h.2.2 i x.toNatClampNeg v) H1 := by
  have hc := hW.2 i hi
  rw [hs] at hc
  refine hW.put e2 ?_ e3
  rw [hs]
  exact ⟨hc.1, by rw [e1, arrV_store]⟩
theorem si_iald_W {a : Nat} {x : Int32} {v : Value} (hx : p.tables.exec = Jvm.exec) (hb : c.code = cc) (hK : si_K D ca s) (hW : si_W D ca P h H) (hd : decode cc pc = .ok (.iaload, 1)) (h1 : si_ald P h [.int] a x = some v)
    (kk : W p l e R s m args below meth c H locs cells slots Q (F0 m (pc + 1) LS (v :: st))) : W p l e R s m args below meth c H locs cells slots Q (F0 m pc LS (.int x :: .ref a :: st)) := by
  obtain ⟨i, ty, n, rfl, hi, hs, hin, hty, rfl⟩ := si_ald_spec h1
  cases List.mem_singleton.mp hty
  obtain ⟨g1, g2⟩ := si_arrcell hK hW hi hs
  exact W.iald hx hb g1 g2 (fun z => by cases z) (by rw [arrV_size]; exact hin) (arrV_read _ _ (Nat.not_le.mp fun z => hin (Or.inr z))) rfl rfl hd kk
theorem si_lald_W {a : Nat} {x : Int32} {v : Value} (hx : p.tables.exec = Jvm.exec) (hb : c.code = cc) (hK : si_K D ca s) (hW : si_W D ca P h H) (hd : decode cc pc = .ok (.laload, 1)) (h1 : si_ald P h [.long] a x = some v)
    (kk : W p l e R s m args below meth c H locs cells slots Q (F0 m (pc + 1) LS (v :: st))) : W p l e R s m args below meth c H locs cells slots Q (F0 m pc LS (.int x :: .ref a :: st)) := by
  obtain ⟨i, ty, n, rfl, hi, hs, hin, hty, rfl⟩ := si_ald_spec h1
  cases List.mem_singleton.mp hty
  obtain ⟨g1, g2⟩ := si_arrcell hK hW hi hs
  exact W.lald hx hb g1 g2 (fun z => by cases z) (by rw [arrV_size]; exact hin) (arrV_read _ _ (Nat.not_le.mp fun z => hin (Or.inr z))) rfl rfl hd kk
theorem si_bald_W {a : Nat} {x : Int32} {v : Value} (hx : p.tables.exec = Jvm.exec) (hb : c.code = cc) (hK : si_K D ca s) (hW : si_W D ca P h H) (hd : decode cc pc = .ok (.baload, 1)) (h1 : si_ald P h [.byte, .boolean] a x = some v)
    (kk : W p l e R s m args below meth c H locs cells slots Q (F0 m (pc + 1) LS (v :: st))) : W p l e R s m args below meth c H locs cells slots Q (F0 m pc LS (.int x :: .ref a :: st)) := by
  obtain ⟨i, ty, n, rfl, hi, hs, hin, hty, rfl⟩ := si_ald_spec h1
  obtain ⟨g1, g2⟩ := si_arrcell hK hW hi hs
  simp only [List.mem_cons, List.not_mem_nil, or_false] at hty
  rcases hty with rfl | rfl
  · exact W.bald hx hb g1 g2 (fun z => by cases z) (by rw [arrV_size]; exact hin) (arrV_read _ _ (Nat.not_le.mp fun z => hin (Or.inr z))) rfl rfl hd kk
  · exact W.zald hx hb g1 g2 (fun z => by cases z) (by rw [arrV_size]; exact hin) (arrV_read _ _ (Nat.not_le.mp fun z => hin (Or.inr z))) rfl rfl hd kk
theorem si_iast_W {a : Nat} {x v : Int32} {h' : si_H} (hx : p.tables.exec = Jvm.exec) (hb : c.code = cc) (hK : si_K D ca s) (hW : si_W D ca P h H) (hS0 : va_S (si_A P) s.heap H locs) (hd : decode cc pc = .ok (.iastore, 1)) (h1 : si_ast P h [.int] a x (.int v) = some h')
    (kk : ∀ (H1 : Heap) (locs1 : List Loc), si_W D ca P h' H1 → va_S (si_A P) s.heap H1 locs1 → W p l e R s m args below meth c H1 locs1 cells slots Q (F0 m (pc + 1) LS st)) : W p l e R s m args below meth c H locs cells slots Q (F0 m pc LS (.int v :: .int x :: .ref a :: st)) := by
  obtain ⟨i, ty, n, rfl, hi, hs, hin, hty, rfl⟩ := si_ast_spec h1
  cases List.mem_singleton.mp hty
  obtain ⟨g1, g2⟩ := si_arrcell hK hW hi hs
  exact W.iast hx hb g1 g2 (fun z => by cases z) (by rw [arrV_size]; exact hin) rfl rfl hd (fun H1 e1 e2 e3 => kk H1 _ (si_astored hW hi hs e1 e2 e3) (hS0.put e2 e3 (show P.1 ≤ P.1 + i by omega)))
theorem si_last_W {a : Nat} {x : Int32} {v : Int64} {h' : si_H} (hx : p.tables.exec = Jvm.exec) (hb : c.code = cc) (hK : si_K D ca s) (hW : si_W D ca P h H) (hS0 : va_S (si_A P) s.heap H locs) (hd : decode cc pc = .ok (.lastore, 1)) (h1 : si_ast P h [.long] a x (.long v) = some h')
    (kk : ∀ (H1 : Heap) (locs1 : List Loc), si_W D ca P h' H1 → va_S (si_A P) s.heap H1 locs1 → W p l e R s m args below meth c H1 locs1 cells slots Q (F0 m (pc + 1) LS st)) : W p l e R s m args below meth c H locs cells slots Q (F0 m pc LS (.long v :: .int x :: .ref a :: st)) := by
  obtain ⟨i, ty, n, rfl, hi, hs, hin, hty, rfl⟩ := si_ast_spec h1
  cases List.mem_singleton.mp hty
  obtain ⟨g1, g2⟩ := si_arrcell hK hW hi hs
  exact W.last hx hb g1 g2 (fun z => by cases z) (by rw [arrV_size]; exact hin) rfl rfl hd (fun H1 e1 e2 e3 => kk H1 _ (si_astored hW hi hs e1 e2 e3) (hS0.put e2 e3 (show P.1 ≤ P.1 + i by omega)))
theorem si_bast_W {a : Nat} {x v : Int32} {h' : si_H} (hx : p.tables.exec = Jvm.exec) (hb : c.code = cc) (hK : si_K D ca s) (hW : si_W D ca P h H) (hS0 : va_S (si_A P) s.heap H locs) (hd : decode cc pc = .ok (.bastore, 1)) (h1 : si_ast P h [.byte, .boolean] a x (.int v) = some h')
    (kk : ∀ (H1 : Heap) (locs1 : List Loc), si_W D ca P h' H1 → va_S (si_A P) s.heap H1 locs1 → W p l e R s m args below meth c H1 locs1 cells slots Q (F0 m (pc + 1) LS st)) : W p l e R s m args below meth c H locs cells slots Q (F0 m pc LS (.int v :: .int x :: .ref a :: st)) := by
  obtain ⟨i, ty, n, rfl, hi, hs, hin, hty, rfl⟩ := si_ast_spec h1
  obtain ⟨g1, g2⟩ := si_arrcell hK hW hi hs
  simp only [List.mem_cons, List.not_mem_nil, or_false] at hty
  rcases hty with rfl | rfl
  · exact W.bast hx hb g1 g2 (fun z => by cases z) (by rw [arrV_size]; exact hin) rfl rfl hd (fun H1 e1 e2 e3 => kk H1 _ (si_astored hW hi hs e1 e2 e3) (hS0.put e2 e3 (show P.1 ≤ P.1 + i by omega)))
  · exact W.zast hx hb g1 g2 (fun z => by cases z) (by rw [arrV_size]; exact hin) rfl rfl hd (fun H1 e1 e2 e3 => kk H1 _ (si_astored hW hi hs e1 e2 e3) (hS0.put e2 e3 (show P.1 ≤ P.1 + i by omega)))
end SiSteps
end
section
section SiStep
variable {p : Program} {l : Launch} {e : Env} {R : Room} {s : State} {m : MethodId} {args : Array Value} {below : List Frame} {meth : Method} {c : Code} {H : Heap} {locs : List Loc} {cells slots : Nat} {Q : State → Prop}
variable {cc : ByteArray} {pc : Nat} {LS : Array Slot} {st : List Value} {D : va_G} {ca : FieldType → ClassId} {P : si_P} {O : String} {r : si_E} {ls : si_L} {h : si_H}
set_option maxHeartbeats 4000000 in
theorem si_step_W {y : si_M} {pc' : Nat} {ls' : si_L} {st' : List Value} {h' : si_H} (hx : p.tables.exec = Jvm.exec) (hb : c.code = cc) (hown : s.vm.findClass O = some m.cls) (hoy : si_own[y.1]? = some O) (hin : y.2.2.2.2.2.1 = 2 → meth.name = "<init>") (hts : ∀ w ∈ si_gw, w.before args s = true) (hK : si_K D ca s) (hX : si_X P s) (hd : decode cc pc = .ok (r.1, r.2.1)) (hl : lk_e O r = true)
    (hW : si_W D ca P h H) (hS : va_S (si_A P) s.heap H locs) (hL : lv_has LS y.2.2.2.1 ls) (hstep : si_step P y pc r ls st h = some (pc', ls', st', h'))
    (kk : ∀ (H1 : Heap) (locs1 : List Loc) (LS1 : Array Slot), si_W D ca P h' H1 → va_S (si_A P) s.heap H1 locs1 → lv_has LS1 y.2.2.2.1 ls' → W p l e R s m args below meth c H1 locs1 cells slots Q (F0 m pc' LS1 st')) : W p l e R s m args below meth c H locs cells slots Q (F0 m pc LS st) := by
  have hXl : P.2.1 < s.heap.size := Nat.lt_of_lt_of_le hX.2.1 hX.2.2.1
  have hXA : ¬ si_A P P.2.1 := Nat.not_le.mpr hX.2.1
  obtain ⟨i, n, a, b, q⟩ := r
  unfold si_step at hstep
  dsimp only at hstep hd
  split at hstep
  all_goals first
    | (split at hstep
       · rename_i v hv
         cases hstep
         exact si_con_W hx hb hown hts hX hd hl hv (kk _ _ _ hW hS hL)
       · cases hstep
       done)
    | (split at hstep
       · rename_i k t hr
         split at hstep
         · rename_i v hv
           split at hstep
           · rename_i ht
             cases hstep
             exact si_lod_W hx hb hL hd hr hv ht (kk _ _ _ hW hS hL)
           · cases hstep
         · cases hstep
       · cases hstep
       done)
    | (split at hstep
       · rename_i k t v rs hr
         split at hstep
         · rename_i ht
           cases hstep
           exact si_sto_W hx hb hL hd hr ht.1 ht.2 (fun LS' hl' => kk _ _ _ hW hS hl')
         · cases hstep
       · cases hstep
       done)
    | (split at hstep
       · rename_i hn
         subst hn
         split at hstep
         · rename_i v w rs
           split at hstep
           · rename_i z hz
             cases hstep
             exact si_bin_W hx hb hd hz (kk _ _ _ hW hS hL)
           · cases hstep
         · cases hstep
       · cases hstep
       done)
    | (split at hstep
       · rename_i hn
         subst hn
         split at hstep
         · rename_i v rs
           split at hstep
           · rename_i z hz
             cases hstep
             exact si_un_W hx hb hd hz (kk _ _ _ hW hS hL)
           · cases hstep
         · cases hstep
       · cases hstep
       done)
    | (split at hstep
       · rename_i hn
         subst hn
         split at hstep
         · split at hstep
           · rename_i hc
             cases hstep
             first | exact lv_pop hx hb hd hc (kk _ _ _ hW hS hL) | exact lv_dup hx hb hd hc (kk _ _ _ hW hS hL)
           · cases hstep
         · cases hstep
       · cases hstep
       done)
    | (split at hstep
       · rename_i hn
         subst hn
         split at hstep
         · rename_i ht
           cases hstep
           first | exact si_if_W hx hb hd ht (kk _ _ _ hW hS hL) | exact si_icmp_W hx hb hd ht (kk _ _ _ hW hS hL) | exact lv_goto hx hb hd (si_tgt_spec ht) (kk _ _ _ hW hS hL)
         · cases hstep
       · cases hstep
       done)
    | skip
  case h_20 =>
    split at hstep
    · rename_i hn
      obtain ⟨rfl, hk⟩ := hn
      split at hstep
      · rename_i x hv
        cases hstep
        obtain ⟨j, hj⟩ := List.getElem?_of_mem (si_ld_mem hv)
        exact lv_iinc hx hb hd hL hj rfl hk rfl (fun LS' hl' => kk _ _ _ hW hS hl')
      · cases hstep
    · cases hstep
  case h_44 =>
    split at hstep
    · split at hstep
      · rename_i ho
        split at hstep
        · rename_i ht
          cases hstep
          exact lv_tableOut hx hb hd ho (si_tgt_spec ht) (kk _ _ _ hW hS hL)
        · cases hstep
      · rename_i ho
        split at hstep
        · rename_i off hoff
          split at hstep
          · rename_i ht
            cases hstep
            exact lv_tableIn hx hb hd (fun z => ho (Or.inl z)) (fun z => ho (Or.inr z)) hoff (si_tgt_spec ht) (kk _ _ _ hW hS hL)
          · cases hstep
        · cases hstep
    · cases hstep
  case h_45 =>
    split at hstep
    · rename_i hp
      split at hstep
      · split at hstep
        · rename_i ht
          cases hstep
          exact lv_lookup hx hb hd hp rfl (si_tgt_spec ht) (kk _ _ _ hW hS hL)
        · cases hstep
      · cases hstep
    · cases hstep
  case h_46 =>
    split at hstep
    · rename_i hn
      subst hn
      split at hstep
      · split at hstep
        · rename_i j hj
          split at hstep
          · rename_i hsh
            cases hstep
            obtain ⟨rfl, hlt⟩ := si_ix_spec hj
            exact si_get_W hx hb hown hts hK hW hd hl hlt hsh (kk _ _ _ hW hS hL)
          · cases hstep
        · cases hstep
      · cases hstep
    · cases hstep
  case h_47 =>
    split at hstep
    · rename_i hn
      subst hn
      split at hstep
      · split at hstep
        · rename_i j hj
          split at hstep
          · rename_i hsh
            obtain ⟨hsh, hnar, hfit, hfin⟩ := hsh
            cases hstep
            obtain ⟨rfl, hlt⟩ := si_ix_spec hj
            exact si_put_W hx hb hown hts hK hW hS hd hl hlt hsh hnar hfit (hfin.imp id (fun z => ⟨hin z.1, by rw [← z.2]; exact hoy⟩)) (fun H1 locs1 h1 h2 => kk _ _ _ h1 h2 hL)
          · cases hstep
        · cases hstep
      · cases hstep
    · cases hstep
  case h_48 =>
    split at hstep
    · rename_i hn
      subst hn
      split at hstep
      · split at hstep
        · rename_i ha
          subst ha
          split at hstep
          · rename_i hi
            cases hstep
            exact va_sld hx hb hX.1 hXl hXA hS (si_in_spec hi) hd (kk _ _ _ hW hS hL)
          · cases hstep
        · split at hstep
          · rename_i hv
            cases hstep
            exact si_iald_W hx hb hK hW hd hv (kk _ _ _ hW hS hL)
          · cases hstep
      · cases hstep
    · cases hstep
  case h_49 =>
    split at hstep
    · rename_i hn
      subst hn
      split at hstep
      · split at hstep
        · rename_i hv
          cases hstep
          exact si_bald_W hx hb hK hW hd hv (kk _ _ _ hW hS hL)
        · cases hstep
      · cases hstep
    · cases hstep
  case h_50 =>
    split at hstep
    · rename_i hn
      subst hn
      split at hstep
      · split at hstep
        · rename_i hv
          cases hstep
          exact si_lald_W hx hb hK hW hd hv (kk _ _ _ hW hS hL)
        · cases hstep
      · cases hstep
    · cases hstep
  case h_51 =>
    split at hstep
    · rename_i hn
      subst hn
      split at hstep
      · split at hstep
        · rename_i hv
          cases hstep
          exact si_iast_W hx hb hK hW hS hd hv (fun H1 locs1 h1 h2 => kk _ _ _ h1 h2 hL)
        · cases hstep
      · cases hstep
    · cases hstep
  case h_52 =>
    split at hstep
    · rename_i hn
      subst hn
      split at hstep
      · split at hstep
        · rename_i hv
          cases hstep
          exact si_bast_W hx hb hK hW hS hd hv (fun H1 locs1 h1 h2 => kk _ _ _ h1 h2 hL)
        · cases hstep
      · cases hstep
    · cases hstep
  case h_53 =>
    split at hstep
    · rename_i hn
      subst hn
      split at hstep
      · split at hstep
        · rename_i hv
          cases hstep
          exact si_last_W hx hb hK hW hS hd hv (fun H1 locs1 h1 h2 => kk _ _ _ h1 h2 hL)
        · cases hstep
      · cases hstep
    · cases hstep
  case h_54 =>
    split at hstep
    · rename_i hn
      subst hn
      split at hstep
      · split at hstep
        · rename_i ha
          subst ha
          cases hstep
          exact va_slen hx hb hX.1 hXl hXA hS hd (kk _ _ _ hW hS hL)
        · split at hstep
          · rename_i j hj
            obtain ⟨rfl, hlt⟩ := si_ix_spec hj
            split at hstep
            · rename_i ty nn hs
              cases hstep
              obtain ⟨g1, g2⟩ := si_arrcell hK hW hlt hs
              exact W.alen hx hb g1 g2 (by rw [arrV_size] <;> rfl) rfl rfl hd (kk _ _ _ hW hS hL)
            · cases hstep
          · cases hstep
      · cases hstep
    · cases hstep
  case h_55 => cases hstep
end SiStep
end
section
/-! what the checks give; making; calling -/
theorem lk_all {i : Nat} (h : i < 347) : lk_one i = true := by
  have key : ∀ j, j < 44 → ∀ k, k < 8 → 8 * j + k < 347 → lk_one (8 * j + k) = true := by
    intro j hj k hk hl
    match j, hj with
    | 0, _ => exact List.all_eq_true.mp lk_i0 _ (by simp only [List.mem_cons, List.not_mem_nil, or_false]; omega)
    | 1, _ => exact List.all_eq_true.mp lk_i1 _ (by simp only [List.mem_cons, List.not_mem_nil, or_false]; omega)
    | 2, _ => exact List.all_eq_true.mp lk_i2 _ (by simp only [List.mem_cons, List.not_mem_nil, or_false]; omega)
    | 3, _ => exact List.all_eq_true.mp lk_i3 _ (by simp only [List.mem_cons, List.not_mem_nil, or_false]; omega)
    | 4, _ => exact List.all_eq_true.mp lk_i4 _ (by simp only [List.mem_cons, List.not_mem_nil, or_false]; omega)
    | 5, _ => exact List.all_eq_true.mp lk_i5 _ (by simp only [List.mem_cons, List.not_mem_nil, or_false]; omega)
    | 6, _ => exact List.all_eq_true.mp lk_i6 _ (by simp only [List.mem_cons, List.not_mem_nil, or_false]; omega)
    | 7, _ => exact List.all_eq_true.mp lk_i7 _ (by simp only [List.mem_cons, List.not_mem_nil, or_false]; omega)
    | 8, _ => exact List.all_eq_true.mp lk_i8 _ (by simp only [List.mem_cons, List.not_mem_nil, or_false]; omega)
    | 9, _ => exact List.all_eq_true.mp lk_i9 _ (by simp only [List.mem_cons, List.not_mem_nil, or_false]; omega)
    | 10, _ => exact List.all_eq_true.mp lk_i10 _ (by simp only [List.mem_cons, List.not_mem_nil, or_false]; omega)
    | 11, _ => exact List.all_eq_true.mp lk_i11 _ (by simp only [List.mem_cons, List.not_mem_nil, or_false]; omega)
    | 12, _ => exact List.all_eq_true.mp lk_i12 _ (by simp only [List.mem_cons, List.not_mem_nil, or_false]; omega)
    | 13, _ => exact List.all_eq_true.mp lk_i13 _ (by simp only [List.mem_cons, List.not_mem_nil, or_false]; omega)
    | 14, _ => exact List.all_eq_true.mp lk_i14 _ (by simp only [List.mem_cons, List.not_mem_nil, or_false]; omega)
    | 15, _ => exact List.all_eq_true.mp lk_i15 _ (by simp only [List.mem_cons, List.not_mem_nil, or_false]; omega)
    | 16, _ => exact List.all_eq_true.mp lk_i16 _ (by simp only [List.mem_cons, List.not_mem_nil, or_false]; omega)
    | 17, _ => exact List.all_eq_true.mp lk_i17 _ (by simp only [List.mem_cons, List.not_mem_nil, or_false]; omega)
    | 18, _ => exact List.all_eq_true.mp lk_i18 _ (by simp only [List.mem_cons, List.not_mem_nil, or_false]; omega)
    | 19, _ => exact List.all_eq_true.mp lk_i19 _ (by simp only [List.mem_cons, List.not_mem_nil, or_false]; omega)
    | 20, _ => exact List.all_eq_true.mp lk_i20 _ (by simp only [List.mem_cons, List.not_mem_nil, or_false]; omega)
    | 21, _ => exact List.all_eq_true.mp lk_i21 _ (by simp only [List.mem_cons, List.not_mem_nil, or_false]; omega)
    | 22, _ => exact List.all_eq_true.mp lk_i22 _ (by simp only [List.mem_cons, List.not_mem_nil, or_false]; omega)
    | 23, _ => exact List.all_eq_true.mp lk_i23 _ (by simp only [List.mem_cons, List.not_mem_nil, or_false]; omega)
    | 24, _ => exact List.all_eq_true.mp lk_i24 _ (by simp only [List.mem_cons, List.not_mem_nil, or_false]; omega)
    | 25, _ => exact List.all_eq_true.mp lk_i25 _ (by simp only [List.mem_cons, List.not_mem_nil, or_false]; omega)
    | 26, _ => exact List.all_eq_true.mp lk_i26 _ (by simp only [List.mem_cons, List.not_mem_nil, or_false]; omega)
    | 27, _ => exact List.all_eq_true.mp lk_i27 _ (by simp only [List.mem_cons, List.not_mem_nil, or_false]; omega)
    | 28, _ => exact List.all_eq_true.mp lk_i28 _ (by simp only [List.mem_cons, List.not_mem_nil, or_false]; omega)
    | 29, _ => exact List.all_eq_true.mp lk_i29 _ (by simp only [List.mem_cons, List.not_mem_nil, or_false]; omega)
    | 30, _ => exact List.all_eq_true.mp lk_i30 _ (by simp only [List.mem_cons, List.not_mem_nil, or_false]; omega)
    | 31, _ => exact List.all_eq_true.mp lk_i31 _ (by simp only [List.mem_cons, List.not_mem_nil, or_false]; omega)
    | 32, _ => exact List.all_eq_true.mp lk_i32 _ (by simp only [List.mem_cons, List.not_mem_nil, or_false]; omega)
    | 33, _ => exact List.all_eq_true.mp lk_i33 _ (by simp only [List.mem_cons, List.not_mem_nil, or_false]; omega)
    | 34, _ => exact List.all_eq_true.mp lk_i34 _ (by simp only [List.mem_cons, List.not_mem_nil, or_false]; omega)
    | 35, _ => exact List.all_eq_true.mp lk_i35 _ (by simp only [List.mem_cons, List.not_mem_nil, or_false]; omega)
    | 36, _ => exact List.all_eq_true.mp lk_i36 _ (by simp only [List.mem_cons, List.not_mem_nil, or_false]; omega)
    | 37, _ => exact List.all_eq_true.mp lk_i37 _ (by simp only [List.mem_cons, List.not_mem_nil, or_false]; omega)
    | 38, _ => exact List.all_eq_true.mp lk_i38 _ (by simp only [List.mem_cons, List.not_mem_nil, or_false]; omega)
    | 39, _ => exact List.all_eq_true.mp lk_i39 _ (by simp only [List.mem_cons, List.not_mem_nil, or_false]; omega)
    | 40, _ => exact List.all_eq_true.mp lk_i40 _ (by simp only [List.mem_cons, List.not_mem_nil, or_false]; omega)
    | 41, _ => exact List.all_eq_true.mp lk_i41 _ (by simp only [List.mem_cons, List.not_mem_nil, or_false]; omega)
    | 42, _ => exact List.all_eq_true.mp lk_i42 _ (by simp only [List.mem_cons, List.not_mem_nil, or_false]; omega)
    | 43, _ => exact List.all_eq_true.mp lk_i43 _ (by simp only [List.mem_cons, List.not_mem_nil, or_false]; omega)
    | j + 44, hj => exact absurd hj (by omega)
  have := key (i / 8) (by omega) (i % 8) (by omega) (by omega)
  rwa [Nat.div_add_mod] at this
theorem si_m_lt {i : Nat} {y : si_M} (h : si_m i = some y) : i < 347 := by
  unfold si_m at h
  cases h1 : si_mds[i / 16]? with
  | none => rw [h1] at h; cases h
  | some r =>
    rw [h1] at h
    dsimp only at h
    have h2 : i / 16 < 22 := (List.getElem?_eq_some_iff.mp h1).1
    have h3 : i % 16 < r.length := (List.getElem?_eq_some_iff.mp h).1
    by_cases h4 : i / 16 = 21
    · rw [h4] at h1
      have h5 : r.length = 11 := by
        have := congrArg (Option.map List.length) h1
        exact (Option.some.inj this).symm
      omega
    · omega
theorem cw_all {i : Nat} {y : si_M} (h : si_m i = some y) (hi : i < 346) : Cond.code y.2.1 y.2.2.1 y.2.2.2.1 y.2.2.2.2.1 ∈ lw_tbl := by
  unfold si_m at h
  cases h1 : si_mds[i / 16]? with
  | none => rw [h1] at h; cases h
  | some r =>
    rw [h1] at h
    dsimp only at h
    have h2 : i / 16 < 22 := (List.getElem?_eq_some_iff.mp h1).1
    have hm := List.mem_of_getElem? h
    generalize hj : i / 16 = j at h1 h2
    match j, h2 with
    | 0, _ => cases h1; exact cw_in cw_i0 y hm
    | 1, _ => cases h1; exact cw_in cw_i1 y hm
    | 2, _ => cases h1; exact cw_in cw_i2 y hm
    | 3, _ => cases h1; exact cw_in cw_i3 y hm
    | 4, _ => cases h1; exact cw_in cw_i4 y hm
    | 5, _ => cases h1; exact cw_in cw_i5 y hm
    | 6, _ => cases h1; exact cw_in cw_i6 y hm
    | 7, _ => cases h1; exact cw_in cw_i7 y hm
    | 8, _ => cases h1; exact cw_in cw_i8 y hm
    | 9, _ => cases h1; exact cw_in cw_i9 y hm
    | 10, _ => cases h1; exact cw_in cw_i10 y hm
    | 11, _ => cases h1; exact cw_in cw_i11 y hm
    | 12, _ => cases h1; exact cw_in cw_i12 y hm
    | 13, _ => cases h1; exact cw_in cw_i13 y hm
    | 14, _ => cases h1; exact cw_in cw_i14 y hm
    | 15, _ => cases h1; exact cw_in cw_i15 y hm
    | 16, _ => cases h1; exact cw_in cw_i16 y hm
    | 17, _ => cases h1; exact cw_in cw_i17 y hm
    | 18, _ => cases h1; exact cw_in cw_i18 y hm
    | 19, _ => cases h1; exact cw_in cw_i19 y hm
    | 20, _ => cases h1; exact cw_in cw_i20 y hm
    | 21, _ =>
      cases h1
      refine cw_in cw_i21 y ?_
      have h3 : i % 16 < 10 := by omega
      have h4 : [md_336, md_337, md_338, md_339, md_340, md_341, md_342, md_343, md_344, md_345][i % 16]? = some y := by
        rw [← h]
        exact (List.getElem?_append_left (l₂ := [md_346]) (by exact h3)).symm
      exact List.mem_of_getElem? h4
/-- a method's words -/
theorem si_mw {i : Nat} {y : si_M} (h : si_m i = some y) (h12 : y.1 ≠ 12) : Cond.code y.2.1 y.2.2.1 y.2.2.2.1 y.2.2.2.2.1 ∈ lw_tbl ∧ Cond.initialized y.2.1.cls ∈ lw_tbl ∧ si_own[y.1]? = some y.2.1.cls ∧ plainFor y.2.1 = true ∧ (y.2.1.cls ≠ "java/lang/invoke/MethodHandle" ∧ y.2.1.cls ≠ "java/lang/invoke/VarHandle") ∧ (parseMethodDescriptor y.2.1.desc).map (fun d => d.parameters.length) = some y.2.2.2.2.2.2.1 ∧ y.2.2.2.1 ≤ 40 ∧ (y.2.2.2.2.2.1 = 1 → Cond.static y.2.1 ∈ lw_tbl) ∧ (y.2.2.2.2.2.1 = 2 → Cond.instanceMethod y.2.1 ∈ lw_tbl ∧ y.2.1.name = "<init>" ∧ y.2.2.2.2.1 = none) ∧ (y.2.2.2.2.2.1 = 0 → Cond.instanceMethod y.2.1 ∈ lw_tbl ∧ Cond.selects y.2.1.cls y.2.1 y.2.1 ∈ lw_tbl) := by
  have hl := si_m_lt h
  have hi : i < 346 := by
    rcases Nat.lt_or_ge i 346 with q | q
    · exact q
    · have : i = 346 := by omega
      subst this
      cases h
      exact absurd rfl h12
  refine ⟨cw_all h hi, ?_⟩
  have h1 := lk_all hl
  have h2 : lk_m y = true := by
    unfold lk_one at h1
    unfold si_m at h
    cases h3 : si_mds[i / 16]? with
    | none => rw [h3] at h; cases h
    | some r =>
      rw [h3] at h h1
      cases h4 : si_cds[i / 16]? with
      | none => rw [h4] at h1; cases h1
      | some c =>
        rw [h4] at h1
        dsimp only at h h1
        rw [h] at h1
        cases h5 : c[i % 16]? with
        | none => rw [h5] at h1; cases h1
        | some cd =>
          rw [h5] at h1
          dsimp only at h1
          rw [Bool.and_eq_true] at h1
          exact h1.1
  obtain ⟨o, nm, b, mL, rt, kd, na, ps⟩ := y
  unfold lk_m at h2
  dsimp only at h2 h12 ⊢
  rw [Bool.and_eq_true] at h2
  obtain ⟨h3, h4⟩ := h2
  cases h5 : si_own[o]? with
  | none => rw [h5] at h3; cases h3
  | some O =>
    rw [h5] at h3
    simp only [Bool.and_eq_true, decide_eq_true_eq] at h3
    obtain ⟨⟨⟨⟨⟨a1, a2⟩, a3⟩, a4⟩, a5⟩, a6⟩ := h3
    subst a1
    split at h4
    · rename_i p0 p1 p2
      simp only [Bool.and_eq_true, decide_eq_true_eq] at h4
      obtain ⟨b1, b2⟩ := h4
      refine ⟨si_at b1, rfl, a2, a3, a4, a6, ?_⟩
      split at b2
      · exact ⟨fun _ => si_at (of_decide_eq_true b2), fun z => (by cases z), fun z => (by cases z)⟩
      · simp only [Bool.and_eq_true, decide_eq_true_eq] at b2
        exact ⟨fun z => (by cases z), fun _ => ⟨si_at b2.1.1, b2.1.2, b2.2⟩, fun z => (by cases z)⟩
      · cases b2
    · rename_i p0 p1 p2 p3
      simp only [Bool.and_eq_true, decide_eq_true_eq] at h4
      obtain ⟨⟨⟨b1, b2⟩, b3⟩, b4⟩ := h4
      subst b4
      exact ⟨si_at b1, rfl, a2, a3, a4, a6, fun z => (by cases z), fun z => (by cases z), fun _ => ⟨si_at b2, si_at b3⟩⟩
    · exact absurd (of_decide_eq_true h4) h12
    · cases h4
theorem si_link {i pc : Nat} {y : si_M} {r : si_E} {O : String} (hy : si_m i = some y) (hr : si_fetch i pc = some r) (hO : si_own[y.1]? = some O) : decode y.2.2.1 pc = .ok (r.1, r.2.1) ∧ lk_e O r = true := by
  obtain ⟨-, O', h1, h2⟩ := lk_one_ok (lk_all (si_m_lt hy)) hy hr
  cases hO.symm.trans h1
  exact h2
theorem si_good {y : si_M} (h : Cond.code y.2.1 y.2.2.1 y.2.2.2.1 y.2.2.2.2.1 ∈ lw_tbl) : GoodIn si_gw (si_ws y) := by
  intro w hw
  rcases List.mem_cons.mp hw with rfl | hw
  · exact ⟨si_gw_in h rfl, good_of_word rfl⟩
  · exact ⟨hw, good_of_word (List.mem_filter.mp hw).2⟩
def si_size (sh : si_S) : Nat := match sh with
  | .inl o => o.2
  | .inr a => a.2
def si_szN (sh : Nat → si_S) : Nat → Nat
  | 0 => 0
  | n + 1 => si_szN sh n + si_size (sh n)
def si_sz (h : si_H) : Nat := si_szN h.2.1 h.1
theorem si_szN_eq {f g : Nat → si_S} : ∀ {n : Nat}, (∀ i, i < n → f i = g i) → si_szN f n = si_szN g n
  | 0, _ => rfl
  | n + 1, h => by
    show si_szN f n + si_size (f n) = si_szN g n + si_size (g n)
    rw [si_szN_eq (fun i hi => h i (by omega)), h n (by omega)]
theorem si_szN_le {f : Nat → si_S} {a : Nat} : ∀ {n : Nat}, a ≤ n → si_szN f a ≤ si_szN f n
  | 0, h => by rw [Nat.le_zero.mp h]; exact Nat.le_refl _
  | n + 1, h => by
    rcases Nat.lt_or_ge a (n + 1) with q | q
    · exact Nat.le_trans (si_szN_le (n := n) (by omega)) (Nat.le_add_right _ _)
    · rw [show a = n + 1 by omega]; exact Nat.le_refl _
/-- the heap only grows, shapes stay -/
def si_gr (h h' : si_H) : Prop := h.1 ≤ h'.1 ∧ ∀ i, i < h.1 → h'.2.1 i = h.2.1 i
theorem si_gr.rf {h : si_H} : si_gr h h := ⟨Nat.le_refl _, fun _ _ => rfl⟩
theorem si_gr.tr {a b c : si_H} (h1 : si_gr a b) (h2 : si_gr b c) : si_gr a c := ⟨Nat.le_trans h1.1 h2.1, fun i hi => (h2.2 i (Nat.lt_of_lt_of_le hi h1.1)).trans (h1.2 i hi)⟩
theorem si_gr.sz {a b : si_H} (h : si_gr a b) : si_sz a ≤ si_sz b := by
  unfold si_sz
  rw [← si_szN_eq (f := b.2.1) (g := a.2.1) h.2]
  exact si_szN_le h.1
end
section
section SiSim
variable {p : Program} {l : Launch} {e : Env} {R : Room} {s : State} {m : MethodId} {args : Array Value} {below : List Frame} {meth : Method} {c : Code} {H : Heap} {locs : List Loc} {cells slots : Nat} {Q : State → Prop}
variable {cc : ByteArray} {pc : Nat} {LS : Array Slot} {st : List Value} {D : va_G} {ca : FieldType → ClassId} {P : si_P} {O : String} {r : si_E} {ls : si_L} {h : si_H}
theorem si_make_gr {st' : List Value} {h' : si_H} (hm : si_make P r st h = some (st', h')) : si_gr h h' ∧ h'.1 = h.1 + 1 := by
  unfold si_make at hm
  split at hm
  · split at hm
    · split at hm
      · cases hm
        exact ⟨⟨Nat.le_succ _, fun i hi => if_neg (by omega)⟩, rfl⟩
      · cases hm
    · cases hm
  · split at hm
    · split at hm
      · split at hm
        · cases hm
          exact ⟨⟨Nat.le_succ _, fun i hi => if_neg (by omega)⟩, rfl⟩
        · cases hm
      · cases hm
    · cases hm
  · cases hm
theorem si_W.push {h' : si_H} {H1 : Heap} (hW : si_W D ca P h H) (h1 : h'.1 = h.1 + 1) (hs : ∀ i, i < h.1 → h'.2.1 i = h.2.1 i) (hc : ∀ i, i < h.1 → h'.2.2 i = h.2.2 i) (hn : si_cell D ca (P.1 + h.1) (h'.2.1 h.1) (h'.2.2 h.1) H1) (hz : H1.size = H.size + 1) (ho : ∀ q : Nat, q < H.size → H1[q]? = H[q]?) : si_W D ca P h' H1 := by
  refine ⟨by rw [hz, hW.1, h1]; omega, fun i hi => ?_⟩
  rcases Nat.lt_or_ge i h.1 with q | q
  · rw [hs i q, hc i q]
    exact (hW.2 i q).kept (ho _ (by rw [hW.1]; omega))
  · rw [show i = h.1 by omega]
    exact hn
theorem si_make_W {st' : List Value} {h' : si_H} (hx : p.tables.exec = Jvm.exec) (hb : c.code = cc) (hown : s.vm.findClass O = some m.cls) (hts : ∀ w ∈ si_gw, w.before args s = true) (hK : si_K D ca s) (hd : decode cc pc = .ok (r.1, r.2.1)) (hl : lk_e O r = true)
    (hW : si_W D ca P h H) (hS : va_S (si_A P) s.heap H locs) (hm : si_make P r st h = some (st', h')) (hcells : cells + 1 ≤ R.cells) (hslots : slots + (si_sz h' - si_sz h) ≤ R.slots)
    (kk : ∀ H1 : Heap, si_W D ca P h' H1 → va_S (si_A P) s.heap H1 locs → W p l e R s m args below meth c H1 locs (cells + 1) (slots + (si_sz h' - si_sz h)) Q (F0 m (pc + r.2.1) LS st')) : W p l e R s m args below meth c H locs cells slots Q (F0 m pc LS st) := by
  obtain ⟨hgr, hN⟩ := si_make_gr hm
  have hsz : si_sz h' - si_sz h = si_size (h'.2.1 h.1) := by
    have e1 : si_sz h' = si_sz h + si_size (h'.2.1 h.1) := by
      unfold si_sz
      rw [hN]
      show si_szN h'.2.1 h.1 + _ = _
      rw [si_szN_eq hgr.2]
    omega
  rw [hsz] at hslots kk
  have hSp : ∀ H1 : Heap, H1.size = H.size + 1 → (∀ q : Nat, q < H.size → H1[q]? = H[q]?) → va_S (si_A P) s.heap H1 locs := fun H1 z o => ⟨Nat.le_trans hS.1 (by omega), fun q h1 h2 => (o q (Nat.lt_of_lt_of_le h1 hS.1)).trans (hS.2.1 q h1 h2), hS.2.2⟩
  obtain ⟨i, n, a, b, q⟩ := r
  unfold si_make at hm
  dsimp only at hm hd
  split at hm
  · rename_i idx
    split at hm
    · rename_i hn
      subst hn
      split at hm
      · rename_i w hw
        cases hm
        obtain ⟨C, T, N⟩ := w
        obtain ⟨hin, hty, -, hinst, hini, -, hdv⟩ := si_cls hw
        have hKn := hK.1.1 a _ hw
        unfold lk_e at hl
        dsimp only at hl
        rw [hw] at hl
        have hcl : lw_tbl[q]? = some (.classLink O idx C) := of_decide_eq_true hl
        have hsN : si_size (if h.1 = h.1 then (.inl (a, N) : si_S) else h.2.1 h.1) = N := by rw [if_pos rfl]; rfl
        dsimp only at hslots kk
        rw [hsN] at hslots kk
        refine W.newcK hx hb hown (hts _ (si_gw_in (si_at hcl) rfl)) (hts _ (si_gw_in hinst rfl)) (hts _ (si_gw_in hini rfl)) rfl hd hcells hslots hKn.2.1 hW.1 fun H1 kC hkC e1 z1 o1 => ?_
        have z2 : H1.size = H.size + 1 := by rw [hW.1]; exact z1
        have o2 : ∀ q : Nat, q < H.size → H1[q]? = H[q]? := fun q hq => o1 q (by rw [← hW.1]; exact hq)
        refine kk H1 (hW.push rfl (fun i hi => if_neg (by omega)) (fun i hi => if_neg (by omega)) ?_ z2 o2) (hSp H1 z2 o2)
        show si_cell D ca (P.1 + h.1) (if h.1 = h.1 then _ else _) (if h.1 = h.1 then _ else _) H1
        rw [if_pos rfl, if_pos rfl]
        exact ⟨_, hw, rfl, (u_born (si_fty a) hts hin hKn hkC e1 hty).to (fun k hk => (hdv k hk).symm)⟩
      · cases hm
    · cases hm
  · rename_i t
    split at hm
    · rename_i hn
      subst hn
      split at hm
      · rename_i x rs
        split at hm
        · rename_i hc
          obtain ⟨hc1, hc2, hc3⟩ := hc
          cases hm
          have har : lw_tbl[q]? = some (.arrayClass (newarray.typeOf t)) := of_decide_eq_true hl
          have hsN : si_size (if h.1 = h.1 then (.inr (newarray.typeOf t, x.toNatClampNeg) : si_S) else h.2.1 h.1) = x.toNatClampNeg := by rw [if_pos rfl]; rfl
          dsimp only at hslots kk
          rw [hsN] at hslots kk
          have hby : x.toNatClampNeg * componentBytes (newarray.typeOf t) ≤ 536870912 := by
            have : componentBytes (newarray.typeOf t) ≤ 8 := by cases t <;> decide
            exact Nat.le_trans (Nat.mul_le_mul hc2 this) (by decide)
          refine va_newaK hx hb (hts _ (si_gw_in (si_at har) rfl)) rfl hd rfl hc1 rfl hby hcells hslots hW.1 fun H1 cA e1 z1 o1 hAr hNm => ?_
          have z2 : H1.size = H.size + 1 := by rw [hW.1]; exact z1
          have o2 : ∀ q : Nat, q < H.size → H1[q]? = H[q]? := fun q hq => o1 q (by rw [← hW.1]; exact hq)
          have hcA : cA = ca (newarray.typeOf t) := by
            have hra := (si_arr hK hc3).2
            have : s.vm.findClass ("[" ++ (newarray.typeOf t).toString) = some (ca (newarray.typeOf t)) := by cases t <;> exact hra
            exact Option.some.inj (hNm.symm.trans this)
          subst hcA
          refine kk H1 (hW.push rfl (fun i hi => if_neg (by omega)) (fun i hi => if_neg (by omega)) ?_ z2 o2) (hSp H1 z2 o2)
          show si_cell D ca (P.1 + h.1) (if h.1 = h.1 then _ else _) (if h.1 = h.1 then _ else _) H1
          rw [if_pos rfl, if_pos rfl]
          refine ⟨hc3, ?_⟩
          have hdv : si_dv (newarray.typeOf t) = defaultValue (newarray.typeOf t) := by
            simp only [List.mem_cons, List.not_mem_nil, or_false] at hc3
            rcases hc3 with z | z | z | z <;> (rw [z]; rfl)
          rw [hdv]
          exact e1
        · cases hm
      · cases hm
    · cases hm
  · cases hm
theorem si_ret_W {y : si_M} {rv : Option Value} {Qc : Array Value → State → Outcome → State → Prop} {free : Addr → Prop} (hx : p.tables.exec = Jvm.exec) (hb : c.code = cc) (hr : meth.sig.returnType = y.2.2.2.2.1) (hlocks : meth.locks = false) (hd : decode cc pc = .ok (r.1, r.2.1)) (h1 : si_ret y r st = some rv)
    (hq : ∀ t : State, t.heap = H → s.WarmedH t.vm → Qc args s (.returned rv) t) (hf : ∀ q ∈ locs, free q.base) : W p l e R s m args below meth c H locs cells slots (MQ below Qc args s cells slots free) (F0 m pc LS st) := by
  obtain ⟨i, n, a⟩ := r
  unfold si_ret at h1
  dsimp only at h1 hd
  split at h1
  · split at h1
    · rename_i ty hty
      split at h1
      · rename_i hc
        obtain ⟨rfl, hn⟩ := hc
        cases h1
        exact W.zret hx hb (hr.trans hty) hn hq hf hd hlocks
      · cases h1
    · cases h1
  · split at h1
    · rename_i hc
      obtain ⟨rfl, hn⟩ := hc
      cases h1
      exact W.lret hx hb (hr.trans hn) hq hf hd hlocks
    · cases h1
  · split at h1
    · rename_i hc
      obtain ⟨rfl, hn⟩ := hc
      cases h1
      exact W.vret hx hb (hr.trans hn) hq hf hd hlocks
    · cases h1
  · cases h1
/-- what a call leaves -/
def si_Q (D : va_G) (ca : FieldType → ClassId) (P : si_P) (rv : Option Value) (h' : si_H) : Array Value → State → Outcome → State → Prop := fun _ st oc t => oc = .returned rv ∧ si_W D ca P h' t.heap ∧ va_F (si_A P) st t
def si_Pc (D : va_G) (ca : FieldType → ClassId) (P : si_P) (as : List Value) (h : si_H) : Array Value → State → Prop := va_Pc as (fun U => si_W D ca P h U.heap ∧ si_K D ca U ∧ si_X P U)
theorem si_callG {rv : Option Value} {h' : si_H} {mc ms : Nat} {st0 rest : List Value} {a : Array Value} (hr : va_Run p l e R s m args below meth c H locs cells slots mc ms (F0 m pc LS st0) rest (si_Q D ca P rv h' a) (si_A P)) (hS : va_S (si_A P) s.heap H locs)
    (kk : ∀ (H1 : Heap) (locs1 : List Loc), si_W D ca P h' H1 → va_S (si_A P) s.heap H1 locs1 → W p l e R s m args below meth c H1 locs1 (cells + mc) (slots + ms) Q (F0 m (pc + 3) LS (rv.toList ++ rest))) : W p l e R s m args below meth c H locs cells slots Q (F0 m pc LS st0) := by
  intro T hT X
  obtain ⟨v, st₀, t, T', L, h0, X', hL, e1, e2, ⟨hv, hw, hz, hk⟩, st⟩ := hr T hT X
  cases hv
  rw [h0] at hz hk
  obtain ⟨t2, a1, b1⟩ := kk T'.heap (locs ++ L) (by rw [e1]; exact hw)
    ⟨Nat.le_trans hS.1 (by rw [e1]; exact hz), fun q h1 h2 => by rw [e1, hk q (Nat.lt_of_lt_of_le h1 hS.1) h2]; exact hS.2.1 q h1 h2, fun q hq => by
      rcases List.mem_append.mp hq with h | h
      · exact hS.2.2 q h
      · exact hL q h⟩ T' rfl X'
  exact ⟨t2, st t2 a1, b1⟩
theorem si_blind {as : List Value} : FrameBlind (si_Pc D ca P as h) := fun a U g mk q => ⟨q.1, q.2.1, si_K.same (s := U) (U := U.calling g mk a) rfl q.2.2.1, si_X.same (s := U) (U := U.calling g mk a) rfl rfl q.2.2.2⟩
theorem si_pre {as : List Value} (hK : si_K D ca s) (hX : si_X P s) (hW : si_W D ca P h H) (hS : va_S (si_A P) s.heap H locs) : ∀ U : State, U.heap = H → s.WarmedH U.vm → si_Pc D ca P as h as.toArray U := fun U hU hW' => ⟨rfl, by rw [hU]; exact hW, hK.warm hW', hX.step hW' (by rw [hU]; exact hS.1) (fun q h1 h2 => by rw [hU]; exact hS.2.1 q h1 h2)⟩
end SiSim
/-- a stretch of a method, over the machine: from where it stands to its return -/
def si_G (l : Launch) (D : va_G) (ca : FieldType → ClassId) (P : si_P) (d mi pc : Nat) (ls : si_L) (st : List Value) (h : si_H) (rv : Option Value) (h' : si_H) : Prop :=
  ∀ (y : si_M) (O : String) (p : Program) (e : Env) (R : Room) (s : State) (m : MethodId) (args : Array Value) (below : List Frame) (meth : Method) (c : Code), si_m mi = some y → si_own[y.1]? = some O → p.tables.exec = Jvm.exec → c.code = y.2.2.1 → c.maxLocals = y.2.2.2.1 → s.vm.findClass O = some m.cls → (y.2.2.2.2.2.1 = 2 → meth.name = "<init>") → (∀ w ∈ si_gw, w.before args s = true) → si_K D ca s → si_X P s → d ≤ R.frames → 60 * d ≤ R.locals →
  ∀ (H : Heap) (locs : List Loc) (cells slots : Nat) (LS : Array Slot) (Q : State → Prop), si_W D ca P h H → va_S (si_A P) s.heap H locs → lv_has LS y.2.2.2.1 ls → cells + (h'.1 - h.1) ≤ R.cells → slots + (si_sz h' - si_sz h) ≤ R.slots →
  (∀ (pc' : Nat) (r' : si_E) (st' : List Value) (H' : Heap) (locs' : List Loc) (LS' : Array Slot), decode y.2.2.1 pc' = .ok (r'.1, r'.2.1) → si_ret y r' st' = some rv → si_W D ca P h' H' → va_S (si_A P) s.heap H' locs' → W p l e R s m args below meth c H' locs' (cells + (h'.1 - h.1)) (slots + (si_sz h' - si_sz h)) Q (F0 m pc' LS' st')) →
  W p l e R s m args below meth c H locs cells slots Q (F0 m pc LS st)
theorem si_met {l : Launch} {D : va_G} {ca : FieldType → ClassId} {P : si_P} {d mi : Nat} {as : List Value} {h h' : si_H} {rv : Option Value} {y : si_M} (hG : si_G l D ca P d mi 0 (lv_args 0 as) [] h rv h') (hy : si_m mi = some y) (h12 : y.1 ≠ 12) (hlen : (lg_sl as).length ≤ y.2.2.2.1) :
    Met l y.2.1 (si_ws y) { frames := d, cells := h'.1 - h.1, slots := si_sz h' - si_sz h, locals := 60 * d } (si_Pc D ca P as h) (si_Q D ca P rv h') (h'.1 - h.1) (si_sz h' - si_sz h) (si_A P) := by
  obtain ⟨hcw, hini, hoy, hpl, hno, hpd, hmL, hst, hsp, hvi⟩ := si_mw hy h12
  refine va_MetF (cc := y.2.2.1) (maxL := y.2.2.2.1) (ret := y.2.2.2.2.1) hpl rfl ?_
  intro p e s m args below meth c s₁ B hml hv
  obtain ⟨rfl, hW, hK, hX⟩ := hv
  have hts0 := atoms_spec (ws := si_ws y) B.pre
  rw [lg_entry_eq]
  refine hG y y.2.1.cls p e _ s m _ below meth c hy hoy B.exec B.bytes hml (findClass_of_methodNamed B.named) (fun hk => ((name_of_methodNamed B.named B.method).1).trans (hsp hk).2.1) (fun w hw => hts0 w (List.mem_cons_of_mem _ hw)) hK hX (Nat.le_refl _) (Nat.le_refl _) s.heap [] 0 0 _ _ hW va_S.rf (lv_entry as hlen) (by rw [Nat.zero_add]; exact Nat.le_refl _) (by rw [Nat.zero_add]; exact Nat.le_refl _) ?_
  intro pc' r' st' H' locs' LS' hd hr hW' hS'
  rw [Nat.zero_add, Nat.zero_add]
  exact si_ret_W B.exec B.bytes B.returns B.notSynchronized hd hr (fun t ht _ => ⟨rfl, by rw [ht]; exact hW', hS'.F ht⟩) hS'.2.2
end
section
theorem si_oi1 : Cond.instanceMethod objectInit ∈ lw_tbl := List.mem_of_getElem? (i := 141) (by decide +kernel)
theorem si_oi2 : Cond.code objectInit ⟨#[0xb1]⟩ 1 none ∈ lw_tbl := List.mem_of_getElem? (i := 142) (by decide +kernel)
theorem si_step_gr {P : si_P} {y : si_M} {pc pc' : Nat} {r : si_E} {ls ls' : si_L} {st st' : List Value} {h h' : si_H} (hs : si_step P y pc r ls st h = some (pc', ls', st', h')) : h'.1 = h.1 ∧ h'.2.1 = h.2.1 := by
  unfold si_step at hs
  split at hs
  all_goals
    repeat' split at hs
  all_goals first
    | (cases hs; done)
    | (cases hs; exact ⟨rfl, rfl⟩)
    | (rename_i hv; cases hs; obtain ⟨_, _, _, _, _, _, _, _, rfl⟩ := si_ast_spec hv; exact ⟨rfl, rfl⟩)
/-- the JDK's own: String.indexOf of the two constants, the length of one -/
def si_J (l : Launch) (D : va_G) (ca : FieldType → ClassId) (P : si_P) : Prop :=
  ∀ (p : Program) (e : Env) (R : Room) (s : State) (m : MethodId) (args : Array Value) (below : List Frame) (meth : Method) (c : Code) (O : String) (H : Heap) (locs : List Loc) (cells slots : Nat) (Q : State → Prop) (pc : Nat) (LS : Array Slot) (rest : List Value) (idx : Nat),
  p.tables.exec = Jvm.exec → c.maxLocals = LS.size → s.vm.findClass O = some m.cls → (∀ w ∈ si_gw, w.before args s = true) → si_X P s → va_S (si_A P) s.heap H locs → 8 ≤ R.frames → 480 ≤ R.locals → cells ≤ R.cells → slots ≤ R.slots → (rest.map fun v => v.category).sum ≤ 8 → decode c.code pc = .ok (.invokevirtual idx, 3) →
  (∀ (ch : Int32) (k : Nat), Cond.methodLink O idx yJ0_indexOf_0f7a4 ∈ lw_tbl → k = 1 ∨ k = 2 → (∀ locs1 : List Loc, va_S (si_A P) s.heap H locs1 → W p l e R s m args below meth c H locs1 cells slots Q (F0 m (pc + 3) LS (.int (si_find ch (si_text k) 0) :: rest))) → W p l e R s m args below meth c H locs cells slots Q (F0 m pc LS (.int ch :: .ref (P.2.2.2.2 k) :: rest))) ∧
  (Cond.methodLink O idx yJ0_length_8abf5 ∈ lw_tbl → (∀ locs1 : List Loc, va_S (si_A P) s.heap H locs1 → W p l e R s m args below meth c H locs1 cells slots Q (F0 m (pc + 3) LS (.int 8 :: rest))) → W p l e R s m args below meth c H locs cells slots Q (F0 m pc LS (.ref (P.2.2.2.2 3) :: rest)))
theorem si_prim_W {l : Launch} {D : va_G} {ca : FieldType → ClassId} {P : si_P} (hJ : si_J l D ca P) {p : Program} {e : Env} {R : Room} {s : State} {m : MethodId} {args : Array Value} {below : List Frame} {meth : Method} {c : Code} {O : String} {H : Heap} {locs : List Loc} {cells slots : Nat} {Q : State → Prop} {pc : Nat} {LS : Array Slot} {st st' : List Value} {r : si_E}
    (hx : p.tables.exec = Jvm.exec) (hml : c.maxLocals = LS.size) (hown : s.vm.findClass O = some m.cls) (hts : ∀ w ∈ si_gw, w.before args s = true) (hX : si_X P s) (hS : va_S (si_A P) s.heap H locs) (hRf : 8 ≤ R.frames) (hRl : 480 ≤ R.locals) (hc1 : cells ≤ R.cells) (hc2 : slots ≤ R.slots) (hd : decode c.code pc = .ok (r.1, r.2.1)) (hl : lk_e O r = true) (h1 : si_prim P r st = some st')
    (kk : ∀ locs1 : List Loc, va_S (si_A P) s.heap H locs1 → W p l e R s m args below meth c H locs1 cells slots Q (F0 m (pc + 3) LS st')) : W p l e R s m args below meth c H locs cells slots Q (F0 m pc LS st) := by
  obtain ⟨i, n, a, b, q⟩ := r
  unfold si_prim at h1
  dsimp only at h1 hd
  split at h1
  · rename_i idx
    split at h1
    · rename_i hn
      subst hn
      split at h1
      · split at h1
        · rename_i hw
          have hw := of_decide_eq_true hw
          have hlk : lw_tbl[q]? = some (.methodLink O idx yJ0_indexOf_0f7a4) := of_decide_eq_true hl
          split at h1
          · rename_i ha
            subst ha
            cases h1
            exact (hJ p e R s m args below meth c O H locs cells slots Q pc LS _ idx hx hml hown hts hX hS hRf hRl hc1 hc2 hw hd).1 _ 1 (si_at hlk) (Or.inl rfl) kk
          · split at h1
            · rename_i ha
              subst ha
              cases h1
              exact (hJ p e R s m args below meth c O H locs cells slots Q pc LS _ idx hx hml hown hts hX hS hRf hRl hc1 hc2 hw hd).1 _ 2 (si_at hlk) (Or.inr rfl) kk
            · cases h1
        · cases h1
      · split at h1
        · rename_i hw
          obtain ⟨ha, hw⟩ := hw
          subst ha
          have hw := of_decide_eq_true hw
          have hlk : lw_tbl[q]? = some (.methodLink O idx yJ0_length_8abf5) := of_decide_eq_true hl
          cases h1
          exact (hJ p e R s m args below meth c O H locs cells slots Q pc LS _ idx hx hml hown hts hX hS hRf hRl hc1 hc2 hw hd).2 (si_at hlk) kk
        · cases h1
      · cases h1
    · cases h1
  · rename_i idx
    split at h1
    · rename_i hn
      obtain ⟨rfl, rfl⟩ := hn
      split at h1
      · split at h1
        · rename_i hw
          have hw := of_decide_eq_true hw
          cases h1
          have hlk : lw_tbl[q]? = some (.methodLink O idx objectInit) := of_decide_eq_true hl
          refine W.objInit hx rfl hown (hts _ (si_gw_in (si_at hlk) rfl)) (hts _ (si_gw_in si_oi1 rfl)) (hts _ (si_gw_in si_oi2 rfl)) rfl hml.symm rfl hd (by omega) (by show 2 * 0 + _ + 12 ≤ _; omega) (kk locs hS)
        · cases h1
      · cases h1
    · cases h1
  · cases h1
end
section
theorem si_call_W {l : Launch} {D : va_G} {ca : FieldType → ClassId} {P : si_P} {d m' : Nat} {as rest : List Value} {h h1 : si_H} {rv : Option Value} {p : Program} {e : Env} {R : Room} {s : State} {m : MethodId} {args : Array Value} {below : List Frame} {meth : Method} {c : Code} {O : String} {H : Heap} {locs : List Loc} {cells slots nL : Nat} {Q : State → Prop} {pc : Nat} {LS : Array Slot} {st : List Value} {r : si_E}
    (hG : si_G l D ca P d m' 0 (lv_args 0 as) [] h rv h1) (hx : p.tables.exec = Jvm.exec) (hml : c.maxLocals = nL) (hls : LS.size = nL) (hown : s.vm.findClass O = some m.cls) (hts : ∀ w ∈ si_gw, w.before args s = true) (hK : si_K D ca s) (hX : si_X P s) (hW : si_W D ca P h H) (hS : va_S (si_A P) s.heap H locs) (hRf : d + 1 ≤ R.frames) (hRl : 60 * (d + 1) ≤ R.locals) (hc1 : cells + (h1.1 - h.1) ≤ R.cells) (hc2 : slots + (si_sz h1 - si_sz h) ≤ R.slots)
    (hd : decode c.code pc = .ok (r.1, r.2.1)) (hl : lk_e O r = true) (hc : si_call P r st h = some (m', as, rest))
    (kk : ∀ (H1 : Heap) (locs1 : List Loc), si_W D ca P h1 H1 → va_S (si_A P) s.heap H1 locs1 → W p l e R s m args below meth c H1 locs1 (cells + (h1.1 - h.1)) (slots + (si_sz h1 - si_sz h)) Q (F0 m (pc + 3) LS (rv.toList ++ rest))) : W p l e R s m args below meth c H locs cells slots Q (F0 m pc LS st) := by
  obtain ⟨i, n, a, b, q⟩ := r
  have hn0 : ∀ k : Nat, 8 + (k + 11) + 60 * d ≤ 60 * (d + 1) ↔ k ≤ 41 := fun k => by omega
  unfold si_call at hc
  dsimp only at hc hd
  split at hc
  · rename_i idx
    split at hc
    · rename_i hn
      obtain ⟨rfl, rfl⟩ := hn
      split at hc
      · rename_i y hy
        split at hc
        · rename_i o rs hdr
          split at hc
          · rename_i j hj
            obtain ⟨rfl, hlt⟩ := si_ix_spec hj
            split at hc
            · rename_i ci nf hsh
              split at hc
              · rename_i hcc
                obtain ⟨rfl, hk0, hnf, hwd, hlen⟩ := hcc
                cases hc
                have hcell := hW.2 j hlt
                rw [hsh] at hcell
                obtain ⟨w, g1, g2, cell, q1, q2, q3, q4⟩ := hcell
                obtain ⟨C, T, N⟩ := w
                obtain ⟨-, -, -, -, -, hoC, -⟩ := si_cls g1
                have h12 : y.1 ≠ 12 := by
                  have := (List.getElem?_eq_some_iff.mp g1).1
                  have h2 : y.1 < 12 := this
                  omega
                obtain ⟨hcw, hini, hoy, hpl, hno, hpd, hmL, hst, hsp, hvi⟩ := si_mw hy h12
                have hlink : lw_tbl[q]? = some (.methodLink O idx y.2.1) := by
                  unfold lk_e at hl
                  dsimp only at hl
                  rw [hy] at hl
                  exact of_decide_eq_true hl
                have hCy : C = y.2.1.cls := Option.some.inj (hoC.symm.trans hoy)
                have hM := si_met hG hy h12 hlen
                refine si_callG (va_runV (n := y.2.2.2.2.2.2.1) (C := y.2.1.cls) (As := (st.take y.2.2.2.2.2.2.1).reverse) (rest := rest) (index := idx) (own := O) ⟨hx, rfl, hml, hown, hts⟩ hM ⟨callB_of _ hts (si_good hcw) rfl rfl rfl (hts _ (si_gw_in hini rfl)) (hts _ (si_gw_in (si_at hlink) rfl)) ⟨hno.1, hno.2, hpd⟩ ⟨hRf, Nat.le_trans ((hn0 _).mpr (by omega)) hRl⟩, hts _ (si_gw_in (hvi hk0).1 rfl), hts _ (si_gw_in (hvi hk0).2 rfl)⟩ ⟨si_blind, ⟨cell, q1, by rw [q3]; rfl, ?_⟩, si_pre hK hX hW hS⟩ rfl ?_ hls ?_ (lv_room (of_decide_eq_true hwd)) hd ⟨hc1, hc2⟩) hS kk
                · rw [← hCy, q2]
                  exact (hK.1.1 y.1 _ g1).2.1
                · rw [List.length_reverse, List.length_take]
                  have : (st.drop y.2.2.2.2.2.2.1).length = (Value.ref (P.1 + j) :: rest).length := by rw [hdr]
                  rw [List.length_drop, List.length_cons] at this
                  omega
                · show st = _
                  rw [List.reverse_reverse, ← hdr, List.take_append_drop]
              · cases hc
            · cases hc
          · cases hc
        · cases hc
      · cases hc
    · cases hc
  · rename_i idx
    split at hc
    · rename_i hn
      subst hn
      split at hc
      · rename_i y hy
        split at hc
        · rename_i hcc
          obtain ⟨hle, hk1, h12, hwd, hlen⟩ := hcc
          cases hc
          obtain ⟨hcw, hini, hoy, hpl, hno, hpd, hmL, hst, hsp, hvi⟩ := si_mw hy h12
          have hM := si_met hG hy h12 hlen
          have hAl : (st.take y.2.2.2.2.2.2.1).reverse.length = y.2.2.2.2.2.2.1 := by
            rw [List.length_reverse, List.length_take]
            omega
          have hstk : st = (st.take y.2.2.2.2.2.2.1).reverse.reverse ++ st.drop y.2.2.2.2.2.2.1 := by rw [List.reverse_reverse, List.take_append_drop]
          have hlink : lw_tbl[q]? = some (.methodLink O idx y.2.1) ∨ lw_tbl[q]? = some (.methodLinkNest O idx y.2.1 "HandsAlike") := by
            unfold lk_e at hl
            dsimp only at hl
            rw [hy] at hl
            dsimp only at hl
            split at hl
            · exact Or.inl (of_decide_eq_true hl)
            · exact Or.inr (of_decide_eq_true hl)
            · cases hl
          rcases hlink with hlink | hlink
          · exact si_callG (va_runS (n := y.2.2.2.2.2.2.1) (As := (st.take y.2.2.2.2.2.2.1).reverse) (rest := st.drop y.2.2.2.2.2.2.1) (index := idx) (own := O) ⟨hx, rfl, hml, hown, hts⟩ hM ⟨callB_of _ hts (si_good hcw) rfl rfl rfl (hts _ (si_gw_in hini rfl)) (hts _ (si_gw_in (si_at hlink) rfl)) ⟨hno.1, hno.2, hpd⟩ ⟨hRf, Nat.le_trans ((hn0 _).mpr (by omega)) hRl⟩, hts _ (si_gw_in (hst hk1) rfl)⟩ ⟨si_blind, si_pre hK hX hW hS⟩ rfl hAl hls hstk (lv_room (of_decide_eq_true hwd)) hd ⟨hc1, hc2⟩) hS kk
          · exact si_callG (va_runSN (n := y.2.2.2.2.2.2.1) (As := (st.take y.2.2.2.2.2.2.1).reverse) (rest := st.drop y.2.2.2.2.2.2.1) (index := idx) (own := O) ⟨hx, rfl, hml, hown, hts⟩ hM ⟨va_cnB _ hts (si_good hcw) rfl rfl rfl (hK.2 _ (si_at hlink) rfl) (hts _ (si_gw_in hini rfl)) ⟨hno.1, hno.2, hpd⟩ ⟨hRf, Nat.le_trans ((hn0 _).mpr (by omega)) hRl⟩, hts _ (si_gw_in (hst hk1) rfl), trivial⟩ ⟨si_blind, si_pre hK hX hW hS⟩ rfl hAl hls hstk (lv_room (of_decide_eq_true hwd)) hd ⟨hc1, hc2⟩) hS kk
        · cases hc
      · cases hc
    · cases hc
  · rename_i idx
    split at hc
    · rename_i hn
      obtain ⟨rfl, hb1⟩ := hn
      split at hc
      · rename_i y hy
        split at hc
        · rename_i o rs hdr
          split at hc
          · rename_i hcc
            obtain ⟨hk2, h12, hwd, hlen⟩ := hcc
            cases hc
            obtain ⟨hcw, hini, hoy, hpl, hno, hpd, hmL, hst, hsp, hvi⟩ := si_mw hy h12
            obtain ⟨hs1, hs2, hs3⟩ := hsp hk2
            have hM := si_met hG hy h12 hlen
            have hAl : (st.take y.2.2.2.2.2.2.1).reverse.length = y.2.2.2.2.2.2.1 := by
              rw [List.length_reverse, List.length_take]
              have : (st.drop y.2.2.2.2.2.2.1).length = (Value.ref o :: rest).length := by rw [hdr]
              rw [List.length_drop, List.length_cons] at this
              omega
            have hstk : st = (st.take y.2.2.2.2.2.2.1).reverse.reverse ++ Value.ref o :: rest := by rw [List.reverse_reverse, ← hdr, List.take_append_drop]
            have hlink : lw_tbl[q]? = some (.methodLink O idx y.2.1) ∨ lw_tbl[q]? = some (.methodLinkNest O idx y.2.1 "HandsAlike") := by
              unfold lk_e at hl
              dsimp only at hl
              split at hl
              · omega
              · rw [hy] at hl
                exact Or.inl (of_decide_eq_true hl)
              · rw [hy] at hl
                exact Or.inr (of_decide_eq_true hl)
              · cases hl
            have hG2 := si_good hcw
            rcases hlink with hlink | hlink
            · refine si_callG (va_runI (n := y.2.2.2.2.2.2.1) (As := (st.take y.2.2.2.2.2.2.1).reverse) (rest := rest) (index := idx) (own := O) (bytes := y.2.2.1) (maxL := y.2.2.2.1) ⟨hx, rfl, hml, hown, hts⟩ hM ⟨?_, hs2, hts _ (si_gw_in hs1 rfl)⟩ ⟨si_blind, si_pre hK hX hW hS⟩ rfl hAl hls hstk (lv_room (of_decide_eq_true hwd)) hd ⟨hc1, hc2⟩) hS kk
              rw [← hs3]
              exact callB_of _ hts hG2 rfl rfl rfl (hts _ (si_gw_in hini rfl)) (hts _ (si_gw_in (si_at hlink) rfl)) ⟨hno.1, hno.2, hpd⟩ ⟨hRf, Nat.le_trans ((hn0 _).mpr (by omega)) hRl⟩
            · refine si_callG (va_runIN (host := "HandsAlike") (n := y.2.2.2.2.2.2.1) (As := (st.take y.2.2.2.2.2.2.1).reverse) (rest := rest) (index := idx) (own := O) (bytes := y.2.2.1) (maxL := y.2.2.2.1) ⟨hx, rfl, hml, hown, hts⟩ hM ⟨?_, hs2, hts _ (si_gw_in hs1 rfl)⟩ ⟨si_blind, si_pre hK hX hW hS⟩ rfl hAl hls hstk (lv_room (of_decide_eq_true hwd)) hd ⟨hc1, hc2⟩) hS kk
              rw [← hs3]
              exact va_cnB _ hts hG2 rfl rfl rfl (hK.2 _ (si_at hlink) rfl) (hts _ (si_gw_in hini rfl)) ⟨hno.1, hno.2, hpd⟩ ⟨hRf, Nat.le_trans ((hn0 _).mpr (by omega)) hRl⟩
          · cases hc
        · cases hc
      · cases hc
    · cases hc
  · cases hc
/-- THE SMALL MACHINE'S RUN IS THE MACHINE'S -/
theorem si_main {l : Launch} {D : va_G} {ca : FieldType → ClassId} {P : si_P} (hJ : si_J l D ca P) : ∀ (n d mi pc : Nat) (ls : si_L) (st : List Value) (h : si_H) (rv : Option Value) (h' : si_H), si_run P n d mi pc ls st h = some (rv, h') → si_gr h h' ∧ si_G l D ca P d mi pc ls st h rv h' := by
  intro n
  induction n with
  | zero =>
    intro d mi pc ls st h rv h' hr
    cases hr
  | succ n ih =>
    intro d mi pc ls st h rv h' hr
    unfold si_run at hr
    split at hr
    · rename_i y r hy hf
      split at hr
      · rename_i pc1 ls1 st1 h1 hstep
        obtain ⟨e1, e2⟩ := si_step_gr hstep
        obtain ⟨i1, i2⟩ := ih d mi pc1 ls1 st1 h1 rv h' hr
        have hsz : si_sz h1 = si_sz h := by unfold si_sz; rw [e1, e2]
        refine ⟨⟨by rw [← e1]; exact i1.1, fun i hi => (i1.2 i (by rw [e1]; exact hi)).trans (by rw [e2])⟩, ?_⟩
        intro y' O p e R s m args below meth c hy' hO hx hb hml hown hin hts hK hX hRf hRl H locs cells slots LS Q hW hS hL hc1 hc2 kk
        cases hy.symm.trans hy'
        obtain ⟨hd, hl⟩ := si_link hy hf hO
        refine si_step_W hx hb hown hO hin hts hK hX hd hl hW hS hL hstep (fun H1 locs1 LS1 hW1 hS1 hL1 => ?_)
        refine i2 y O p e R s m args below meth c hy hO hx hb hml hown hin hts hK hX hRf hRl H1 locs1 cells slots LS1 Q hW1 hS1 hL1 (by rw [e1]; exact hc1) (by rw [hsz]; exact hc2) ?_
        rw [e1, hsz]
        exact kk
      · split at hr
        · rename_i rr hret
          cases hr
          refine ⟨si_gr.rf, ?_⟩
          intro y' O p e R s m args below meth c hy' hO hx hb hml hown hin hts hK hX hRf hRl H locs cells slots LS Q hW hS hL hc1 hc2 kk
          cases hy.symm.trans hy'
          obtain ⟨hd, hl⟩ := si_link hy hf hO
          have := kk pc r st H locs LS hd hret hW hS
          rwa [Nat.sub_self, Nat.sub_self, Nat.add_zero, Nat.add_zero] at this
        · split at hr
          · rename_i st1 h1 hmk
            obtain ⟨g1, g2⟩ := si_make_gr hmk
            obtain ⟨i1, i2⟩ := ih d mi (pc + r.2.1) ls st1 h1 rv h' hr
            refine ⟨g1.tr i1, ?_⟩
            intro y' O p e R s m args below meth c hy' hO hx hb hml hown hin hts hK hX hRf hRl H locs cells slots LS Q hW hS hL hc1 hc2 kk
            cases hy.symm.trans hy'
            obtain ⟨hd, hl⟩ := si_link hy hf hO
            have z1 := g1.sz
            have z2 := i1.sz
            have z3 := i1.1
            have n1 : cells + (h'.1 - h.1) = cells + 1 + (h'.1 - h1.1) := by omega
            have n2 : slots + (si_sz h' - si_sz h) = slots + (si_sz h1 - si_sz h) + (si_sz h' - si_sz h1) := by omega
            refine si_make_W hx hb hown hts hK hd hl hW hS hmk (by omega) (by omega) (fun H1 hW1 hS1 => ?_)
            refine i2 y O p e R s m args below meth c hy hO hx hb hml hown hin hts hK hX hRf hRl H1 locs (cells + 1) (slots + (si_sz h1 - si_sz h)) LS Q hW1 hS1 hL (by omega) (by omega) ?_
            rw [← n1, ← n2]
            exact kk
          · split at hr
            · cases hr
            · rename_i d'
              split at hr
              · rename_i m' as rest hcall
                have fin : ∀ (r1 : Option Value) (h1 : si_H), si_run P n d' m' 0 (lv_args 0 as) [] h = some (r1, h1) → si_run P n (d' + 1) mi (pc + 3) ls (r1.toList ++ rest) h1 = some (rv, h') → si_gr h h' ∧ si_G l D ca P (d' + 1) mi pc ls st h rv h' := by
                  intro r1 h1 hr1 hr2
                  obtain ⟨j1, j2⟩ := ih d' m' 0 (lv_args 0 as) [] h r1 h1 hr1
                  obtain ⟨i1, i2⟩ := ih (d' + 1) mi (pc + 3) ls (r1.toList ++ rest) h1 rv h' hr2
                  refine ⟨j1.tr i1, ?_⟩
                  intro y' O p e R s m args below meth c hy' hO hx hb hml hown hin hts hK hX hRf hRl H locs cells slots LS Q hW hS hL hc1 hc2 kk
                  cases hy.symm.trans hy'
                  obtain ⟨hd, hl⟩ := si_link hy hf hO
                  rw [← hb] at hd
                  have z1 := j1.sz
                  have z2 := i1.sz
                  have z3 := i1.1
                  have z4 := j1.1
                  have n1 : cells + (h'.1 - h.1) = cells + (h1.1 - h.1) + (h'.1 - h1.1) := by omega
                  have n2 : slots + (si_sz h' - si_sz h) = slots + (si_sz h1 - si_sz h) + (si_sz h' - si_sz h1) := by omega
                  refine si_call_W j2 hx hml hL.1 hown hts hK hX hW hS hRf hRl (by omega) (by omega) hd hl hcall (fun H1 locs1 hW1 hS1 => ?_)
                  refine i2 y O p e R s m args below meth c hy hO hx hb hml hown hin hts hK hX hRf hRl H1 locs1 _ _ LS Q hW1 hS1 hL (by omega) (by omega) ?_
                  rw [← n1, ← n2]
                  exact kk
                split at hr
                · rename_i v h1 hr1
                  exact fin (some v) h1 hr1 hr
                · rename_i h1 hr1
                  exact fin none h1 hr1 hr
                · cases hr
              · split at hr
                · rename_i st1 hprim
                  split at hr
                  · rename_i h8
                    obtain ⟨i1, i2⟩ := ih (d' + 1) mi (pc + 3) ls st1 h rv h' hr
                    refine ⟨i1, ?_⟩
                    intro y' O p e R s m args below meth c hy' hO hx hb hml hown hin hts hK hX hRf hRl H locs cells slots LS Q hW hS hL hc1 hc2 kk
                    cases hy.symm.trans hy'
                    obtain ⟨hd, hl⟩ := si_link hy hf hO
                    rw [← hb] at hd
                    refine si_prim_W hJ hx (hml.trans hL.1.symm) hown hts hX hS (by omega) (by omega) (by omega) (by omega) hd hl hprim (fun locs1 hS1 => ?_)
                    exact i2 y O p e R s m args below meth c hy hO hx hb hml hown hin hts hK hX hRf hRl H locs1 cells slots LS Q hW hS1 hL hc1 hc2 kk
                  · cases hr
                · cases hr
    · cases hr
end
section
/-! THE JDK's OWN: String.length, String.indexOf, of the constants -/
theorem jc_J0_length_8abf5 : Cond.code yJ0_length_8abf5 cJ0_length_8abf5 1 (some .int) ∈ lw_tbl := List.mem_of_getElem? (i := 305) (by decide +kernel)
theorem ji_J0_length_8abf5 : Cond.instanceMethod yJ0_length_8abf5 ∈ lw_tbl := List.mem_of_getElem? (i := 303) (by decide +kernel)
theorem js_J0_length_8abf5 : Cond.selects RJ0 yJ0_length_8abf5 yJ0_length_8abf5 ∈ lw_tbl := List.mem_of_getElem? (i := 304) (by decide +kernel)
theorem jc_J0_indexOf_0f7a4 : Cond.code yJ0_indexOf_0f7a4 cJ0_indexOf_0f7a4 2 (some .int) ∈ lw_tbl := List.mem_of_getElem? (i := 501) (by decide +kernel)
theorem ji_J0_indexOf_0f7a4 : Cond.instanceMethod yJ0_indexOf_0f7a4 ∈ lw_tbl := List.mem_of_getElem? (i := 499) (by decide +kernel)
theorem js_J0_indexOf_0f7a4 : Cond.selects RJ0 yJ0_indexOf_0f7a4 yJ0_indexOf_0f7a4 ∈ lw_tbl := List.mem_of_getElem? (i := 500) (by decide +kernel)
theorem jc_J0_indexOf_7cf53 : Cond.code yJ0_indexOf_7cf53 cJ0_indexOf_7cf53 3 (some .int) ∈ lw_tbl := List.mem_of_getElem? (i := 505) (by decide +kernel)
theorem ji_J0_indexOf_7cf53 : Cond.instanceMethod yJ0_indexOf_7cf53 ∈ lw_tbl := List.mem_of_getElem? (i := 503) (by decide +kernel)
theorem js_J0_indexOf_7cf53 : Cond.selects RJ0 yJ0_indexOf_7cf53 yJ0_indexOf_7cf53 ∈ lw_tbl := List.mem_of_getElem? (i := 504) (by decide +kernel)
theorem jc_J0_coder_7d493 : Cond.code yJ0_coder_7d493 cJ0_coder_7d493 1 (some .byte) ∈ lw_tbl := List.mem_of_getElem? (i := 309) (by decide +kernel)
theorem ji_J0_coder_7d493 : Cond.instanceMethod yJ0_coder_7d493 ∈ lw_tbl := List.mem_of_getElem? (i := 307) (by decide +kernel)
theorem js_J0_coder_7d493 : Cond.selects RJ0 yJ0_coder_7d493 yJ0_coder_7d493 ∈ lw_tbl := List.mem_of_getElem? (i := 308) (by decide +kernel)
theorem jc_J0_isLatin1_aae02 : Cond.code yJ0_isLatin1_aae02 cJ0_isLatin1_aae02 1 (some .boolean) ∈ lw_tbl := List.mem_of_getElem? (i := 509) (by decide +kernel)
theorem ji_J0_isLatin1_aae02 : Cond.instanceMethod yJ0_isLatin1_aae02 ∈ lw_tbl := List.mem_of_getElem? (i := 507) (by decide +kernel)
theorem js_J0_isLatin1_aae02 : Cond.selects RJ0 yJ0_isLatin1_aae02 yJ0_isLatin1_aae02 ∈ lw_tbl := List.mem_of_getElem? (i := 508) (by decide +kernel)
theorem jc_J1_canEncode_9a6ad : Cond.code yJ1_canEncode_9a6ad cJ1_canEncode_9a6ad 1 (some .boolean) ∈ lw_tbl := List.mem_of_getElem? (i := 516) (by decide +kernel)
theorem jt_J1_canEncode_9a6ad : Cond.static yJ1_canEncode_9a6ad ∈ lw_tbl := List.mem_of_getElem? (i := 515) (by decide +kernel)
theorem jc_J1_indexOf_4cfef : Cond.code yJ1_indexOf_4cfef cJ1_indexOf_4cfef 4 (some .int) ∈ lw_tbl := List.mem_of_getElem? (i := 513) (by decide +kernel)
theorem jt_J1_indexOf_4cfef : Cond.static yJ1_indexOf_4cfef ∈ lw_tbl := List.mem_of_getElem? (i := 512) (by decide +kernel)
theorem jc_J1_indexOfChar_4cfef : Cond.code yJ1_indexOfChar_4cfef cJ1_indexOfChar_4cfef 6 (some .int) ∈ lw_tbl := List.mem_of_getElem? (i := 525) (by decide +kernel)
theorem jt_J1_indexOfChar_4cfef : Cond.static yJ1_indexOfChar_4cfef ∈ lw_tbl := List.mem_of_getElem? (i := 524) (by decide +kernel)
theorem jl_335 : Cond.methodLink RJ0 335 yJ0_coder_7d493 ∈ lw_tbl := List.mem_of_getElem? (i := 306) (by decide +kernel)
theorem jl_492 : Cond.methodLink RJ0 492 yJ0_isLatin1_aae02 ∈ lw_tbl := List.mem_of_getElem? (i := 506) (by decide +kernel)
theorem jl_505 : Cond.methodLink RJ0 505 yJ0_length_8abf5 ∈ lw_tbl := List.mem_of_getElem? (i := 510) (by decide +kernel)
theorem jl_633 : Cond.methodLink RJ0 633 yJ0_indexOf_7cf53 ∈ lw_tbl := List.mem_of_getElem? (i := 502) (by decide +kernel)
theorem jl_637 : Cond.methodLink RJ0 637 yJ1_indexOf_4cfef ∈ lw_tbl := List.mem_of_getElem? (i := 511) (by decide +kernel)
theorem jl_88 : Cond.methodLink RJ1 88 yJ1_canEncode_9a6ad ∈ lw_tbl := List.mem_of_getElem? (i := 514) (by decide +kernel)
theorem jl_92 : Cond.methodLink RJ1 92 Lib.Math.max.name ∈ lw_tbl := List.mem_of_getElem? (i := 517) (by decide +kernel)
theorem jl_38 : Cond.methodLink RJ1 38 Lib.Math.min.name ∈ lw_tbl := List.mem_of_getElem? (i := 520) (by decide +kernel)
theorem jl_95 : Cond.methodLink RJ1 95 yJ1_indexOfChar_4cfef ∈ lw_tbl := List.mem_of_getElem? (i := 523) (by decide +kernel)
theorem jf_38 : Cond.fieldLink RJ0 38 "java/lang/String" "COMPACT_STRINGS" "Z" ∈ lw_tbl := List.mem_of_getElem? (i := 310) (by decide +kernel)
theorem jf_9 : Cond.fieldLink RJ0 9 "java/lang/String" "value" "[B" ∈ lw_tbl := List.mem_of_getElem? (i := 2105) (by decide +kernel)
theorem jf_15 : Cond.fieldLink RJ0 15 "java/lang/String" "coder" "B" ∈ lw_tbl := List.mem_of_getElem? (i := 2106) (by decide +kernel)
theorem jn_S : Cond.initialized RJ0 ∈ lw_tbl := List.mem_of_getElem? (i := 126) (by decide +kernel)
theorem jn_L : Cond.initialized RJ1 ∈ lw_tbl := List.mem_of_getElem? (i := 130) (by decide +kernel)
theorem jn_M : Cond.initialized "java/lang/Math" ∈ lw_tbl := List.mem_of_getElem? (i := 131) (by decide +kernel)
theorem jc_Mmax : Cond.code Lib.Math.max.name Lib.Math.max.code 2 (some .int) ∈ lw_tbl := List.mem_of_getElem? (i := 519) (by decide +kernel)
theorem jt_Mmax : Cond.static Lib.Math.max.name ∈ lw_tbl := List.mem_of_getElem? (i := 518) (by decide +kernel)
theorem jc_Mmin : Cond.code Lib.Math.min.name Lib.Math.min.code 2 (some .int) ∈ lw_tbl := List.mem_of_getElem? (i := 522) (by decide +kernel)
theorem jt_Mmin : Cond.static Lib.Math.min.name ∈ lw_tbl := List.mem_of_getElem? (i := 521) (by decide +kernel)
theorem dJ0_length_8abf5_0 : decode cJ0_length_8abf5 0 = .ok (.aload_n 0, 1) := by decide +kernel
theorem dJ0_length_8abf5_1 : decode cJ0_length_8abf5 1 = .ok (.getfield 9, 3) := by decide +kernel
theorem dJ0_length_8abf5_4 : decode cJ0_length_8abf5 4 = .ok (.arraylength, 1) := by decide +kernel
theorem dJ0_length_8abf5_5 : decode cJ0_length_8abf5 5 = .ok (.aload_n 0, 1) := by decide +kernel
theorem dJ0_length_8abf5_6 : decode cJ0_length_8abf5 6 = .ok (.invokevirtual 335, 3) := by decide +kernel
theorem dJ0_length_8abf5_9 : decode cJ0_length_8abf5 9 = .ok (.ishr, 1) := by decide +kernel
theorem dJ0_length_8abf5_10 : decode cJ0_length_8abf5 10 = .ok (.ireturn, 1) := by decide +kernel
theorem dJ0_indexOf_0f7a4_0 : decode cJ0_indexOf_0f7a4 0 = .ok (.aload_n 0, 1) := by decide +kernel
theorem dJ0_indexOf_0f7a4_1 : decode cJ0_indexOf_0f7a4 1 = .ok (.iload_n 1, 1) := by decide +kernel
theorem dJ0_indexOf_0f7a4_2 : decode cJ0_indexOf_0f7a4 2 = .ok (.iconst 0, 1) := by decide +kernel
theorem dJ0_indexOf_0f7a4_3 : decode cJ0_indexOf_0f7a4 3 = .ok (.invokevirtual 633, 3) := by decide +kernel
theorem dJ0_indexOf_0f7a4_6 : decode cJ0_indexOf_0f7a4 6 = .ok (.ireturn, 1) := by decide +kernel
theorem dJ0_indexOf_7cf53_0 : decode cJ0_indexOf_7cf53 0 = .ok (.aload_n 0, 1) := by decide +kernel
theorem dJ0_indexOf_7cf53_1 : decode cJ0_indexOf_7cf53 1 = .ok (.invokevirtual 492, 3) := by decide +kernel
theorem dJ0_indexOf_7cf53_4 : decode cJ0_indexOf_7cf53 4 = .ok (.ifCond .eq 19, 3) := by decide +kernel
theorem dJ0_indexOf_7cf53_7 : decode cJ0_indexOf_7cf53 7 = .ok (.aload_n 0, 1) := by decide +kernel
theorem dJ0_indexOf_7cf53_8 : decode cJ0_indexOf_7cf53 8 = .ok (.getfield 9, 3) := by decide +kernel
theorem dJ0_indexOf_7cf53_11 : decode cJ0_indexOf_7cf53 11 = .ok (.iload_n 1, 1) := by decide +kernel
theorem dJ0_indexOf_7cf53_12 : decode cJ0_indexOf_7cf53 12 = .ok (.iload_n 2, 1) := by decide +kernel
theorem dJ0_indexOf_7cf53_13 : decode cJ0_indexOf_7cf53 13 = .ok (.aload_n 0, 1) := by decide +kernel
theorem dJ0_indexOf_7cf53_14 : decode cJ0_indexOf_7cf53 14 = .ok (.invokevirtual 505, 3) := by decide +kernel
theorem dJ0_indexOf_7cf53_17 : decode cJ0_indexOf_7cf53 17 = .ok (.invokestatic 637, 3) := by decide +kernel
theorem dJ0_indexOf_7cf53_20 : decode cJ0_indexOf_7cf53 20 = .ok (.goto 16, 3) := by decide +kernel
theorem dJ0_indexOf_7cf53_23 : decode cJ0_indexOf_7cf53 23 = .ok (.aload_n 0, 1) := by decide +kernel
theorem dJ0_indexOf_7cf53_24 : decode cJ0_indexOf_7cf53 24 = .ok (.getfield 9, 3) := by decide +kernel
theorem dJ0_indexOf_7cf53_27 : decode cJ0_indexOf_7cf53 27 = .ok (.iload_n 1, 1) := by decide +kernel
theorem dJ0_indexOf_7cf53_28 : decode cJ0_indexOf_7cf53 28 = .ok (.iload_n 2, 1) := by decide +kernel
theorem dJ0_indexOf_7cf53_29 : decode cJ0_indexOf_7cf53 29 = .ok (.aload_n 0, 1) := by decide +kernel
theorem dJ0_indexOf_7cf53_30 : decode cJ0_indexOf_7cf53 30 = .ok (.invokevirtual 505, 3) := by decide +kernel
theorem dJ0_indexOf_7cf53_33 : decode cJ0_indexOf_7cf53 33 = .ok (.invokestatic 640, 3) := by decide +kernel
theorem dJ0_indexOf_7cf53_36 : decode cJ0_indexOf_7cf53 36 = .ok (.ireturn, 1) := by decide +kernel
theorem dJ0_coder_7d493_0 : decode cJ0_coder_7d493 0 = .ok (.getstatic 38, 3) := by decide +kernel
theorem dJ0_coder_7d493_3 : decode cJ0_coder_7d493 3 = .ok (.ifCond .eq 10, 3) := by decide +kernel
theorem dJ0_coder_7d493_6 : decode cJ0_coder_7d493 6 = .ok (.aload_n 0, 1) := by decide +kernel
theorem dJ0_coder_7d493_7 : decode cJ0_coder_7d493 7 = .ok (.getfield 15, 3) := by decide +kernel
theorem dJ0_coder_7d493_10 : decode cJ0_coder_7d493 10 = .ok (.goto 4, 3) := by decide +kernel
theorem dJ0_coder_7d493_13 : decode cJ0_coder_7d493 13 = .ok (.iconst 1, 1) := by decide +kernel
theorem dJ0_coder_7d493_14 : decode cJ0_coder_7d493 14 = .ok (.ireturn, 1) := by decide +kernel
theorem dJ0_isLatin1_aae02_0 : decode cJ0_isLatin1_aae02 0 = .ok (.getstatic 38, 3) := by decide +kernel
theorem dJ0_isLatin1_aae02_3 : decode cJ0_isLatin1_aae02 3 = .ok (.ifCond .eq 14, 3) := by decide +kernel
theorem dJ0_isLatin1_aae02_6 : decode cJ0_isLatin1_aae02 6 = .ok (.aload_n 0, 1) := by decide +kernel
theorem dJ0_isLatin1_aae02_7 : decode cJ0_isLatin1_aae02 7 = .ok (.getfield 15, 3) := by decide +kernel
theorem dJ0_isLatin1_aae02_10 : decode cJ0_isLatin1_aae02 10 = .ok (.ifCond .ne 7, 3) := by decide +kernel
theorem dJ0_isLatin1_aae02_13 : decode cJ0_isLatin1_aae02 13 = .ok (.iconst 1, 1) := by decide +kernel
theorem dJ0_isLatin1_aae02_14 : decode cJ0_isLatin1_aae02 14 = .ok (.goto 4, 3) := by decide +kernel
theorem dJ0_isLatin1_aae02_17 : decode cJ0_isLatin1_aae02 17 = .ok (.iconst 0, 1) := by decide +kernel
theorem dJ0_isLatin1_aae02_18 : decode cJ0_isLatin1_aae02 18 = .ok (.ireturn, 1) := by decide +kernel
theorem dJ1_canEncode_9a6ad_0 : decode cJ1_canEncode_9a6ad 0 = .ok (.iload_n 0, 1) := by decide +kernel
theorem dJ1_canEncode_9a6ad_1 : decode cJ1_canEncode_9a6ad 1 = .ok (.ifCond .lt 14, 3) := by decide +kernel
theorem dJ1_canEncode_9a6ad_4 : decode cJ1_canEncode_9a6ad 4 = .ok (.iload_n 0, 1) := by decide +kernel
theorem dJ1_canEncode_9a6ad_5 : decode cJ1_canEncode_9a6ad 5 = .ok (.sipush 255, 3) := by decide +kernel
theorem dJ1_canEncode_9a6ad_8 : decode cJ1_canEncode_9a6ad 8 = .ok (.if_icmp .gt 7, 3) := by decide +kernel
theorem dJ1_canEncode_9a6ad_11 : decode cJ1_canEncode_9a6ad 11 = .ok (.iconst 1, 1) := by decide +kernel
theorem dJ1_canEncode_9a6ad_12 : decode cJ1_canEncode_9a6ad 12 = .ok (.goto 4, 3) := by decide +kernel
theorem dJ1_canEncode_9a6ad_15 : decode cJ1_canEncode_9a6ad 15 = .ok (.iconst 0, 1) := by decide +kernel
theorem dJ1_canEncode_9a6ad_16 : decode cJ1_canEncode_9a6ad 16 = .ok (.ireturn, 1) := by decide +kernel
theorem dJ1_indexOf_4cfef_0 : decode cJ1_indexOf_4cfef 0 = .ok (.iload_n 1, 1) := by decide +kernel
theorem dJ1_indexOf_4cfef_1 : decode cJ1_indexOf_4cfef 1 = .ok (.invokestatic 88, 3) := by decide +kernel
theorem dJ1_indexOf_4cfef_4 : decode cJ1_indexOf_4cfef 4 = .ok (.ifCond .ne 5, 3) := by decide +kernel
theorem dJ1_indexOf_4cfef_7 : decode cJ1_indexOf_4cfef 7 = .ok (.iconst (-1), 1) := by decide +kernel
theorem dJ1_indexOf_4cfef_8 : decode cJ1_indexOf_4cfef 8 = .ok (.ireturn, 1) := by decide +kernel
theorem dJ1_indexOf_4cfef_9 : decode cJ1_indexOf_4cfef 9 = .ok (.iload_n 2, 1) := by decide +kernel
theorem dJ1_indexOf_4cfef_10 : decode cJ1_indexOf_4cfef 10 = .ok (.iconst 0, 1) := by decide +kernel
theorem dJ1_indexOf_4cfef_11 : decode cJ1_indexOf_4cfef 11 = .ok (.invokestatic 92, 3) := by decide +kernel
theorem dJ1_indexOf_4cfef_14 : decode cJ1_indexOf_4cfef 14 = .ok (.istore_n 2, 1) := by decide +kernel
theorem dJ1_indexOf_4cfef_15 : decode cJ1_indexOf_4cfef 15 = .ok (.iload_n 3, 1) := by decide +kernel
theorem dJ1_indexOf_4cfef_16 : decode cJ1_indexOf_4cfef 16 = .ok (.aload_n 0, 1) := by decide +kernel
theorem dJ1_indexOf_4cfef_17 : decode cJ1_indexOf_4cfef 17 = .ok (.arraylength, 1) := by decide +kernel
theorem dJ1_indexOf_4cfef_18 : decode cJ1_indexOf_4cfef 18 = .ok (.invokestatic 38, 3) := by decide +kernel
theorem dJ1_indexOf_4cfef_21 : decode cJ1_indexOf_4cfef 21 = .ok (.istore_n 3, 1) := by decide +kernel
theorem dJ1_indexOf_4cfef_22 : decode cJ1_indexOf_4cfef 22 = .ok (.iload_n 2, 1) := by decide +kernel
theorem dJ1_indexOf_4cfef_23 : decode cJ1_indexOf_4cfef 23 = .ok (.iload_n 3, 1) := by decide +kernel
theorem dJ1_indexOf_4cfef_24 : decode cJ1_indexOf_4cfef 24 = .ok (.if_icmp .lt 5, 3) := by decide +kernel
theorem dJ1_indexOf_4cfef_27 : decode cJ1_indexOf_4cfef 27 = .ok (.iconst (-1), 1) := by decide +kernel
theorem dJ1_indexOf_4cfef_28 : decode cJ1_indexOf_4cfef 28 = .ok (.ireturn, 1) := by decide +kernel
theorem dJ1_indexOf_4cfef_29 : decode cJ1_indexOf_4cfef 29 = .ok (.aload_n 0, 1) := by decide +kernel
theorem dJ1_indexOf_4cfef_30 : decode cJ1_indexOf_4cfef 30 = .ok (.iload_n 1, 1) := by decide +kernel
theorem dJ1_indexOf_4cfef_31 : decode cJ1_indexOf_4cfef 31 = .ok (.iload_n 2, 1) := by decide +kernel
theorem dJ1_indexOf_4cfef_32 : decode cJ1_indexOf_4cfef 32 = .ok (.iload_n 3, 1) := by decide +kernel
theorem dJ1_indexOf_4cfef_33 : decode cJ1_indexOf_4cfef 33 = .ok (.invokestatic 95, 3) := by decide +kernel
theorem dJ1_indexOf_4cfef_36 : decode cJ1_indexOf_4cfef 36 = .ok (.ireturn, 1) := by decide +kernel
theorem dJ1_indexOfChar_4cfef_0 : decode cJ1_indexOfChar_4cfef 0 = .ok (.iload_n 1, 1) := by decide +kernel
theorem dJ1_indexOfChar_4cfef_1 : decode cJ1_indexOfChar_4cfef 1 = .ok (.i2b, 1) := by decide +kernel
theorem dJ1_indexOfChar_4cfef_2 : decode cJ1_indexOfChar_4cfef 2 = .ok (.istore 4, 2) := by decide +kernel
theorem dJ1_indexOfChar_4cfef_4 : decode cJ1_indexOfChar_4cfef 4 = .ok (.iload_n 2, 1) := by decide +kernel
theorem dJ1_indexOfChar_4cfef_5 : decode cJ1_indexOfChar_4cfef 5 = .ok (.istore 5, 2) := by decide +kernel
theorem dJ1_indexOfChar_4cfef_7 : decode cJ1_indexOfChar_4cfef 7 = .ok (.iload 5, 2) := by decide +kernel
theorem dJ1_indexOfChar_4cfef_9 : decode cJ1_indexOfChar_4cfef 9 = .ok (.iload_n 3, 1) := by decide +kernel
theorem dJ1_indexOfChar_4cfef_10 : decode cJ1_indexOfChar_4cfef 10 = .ok (.if_icmp .ge 21, 3) := by decide +kernel
theorem dJ1_indexOfChar_4cfef_13 : decode cJ1_indexOfChar_4cfef 13 = .ok (.aload_n 0, 1) := by decide +kernel
theorem dJ1_indexOfChar_4cfef_14 : decode cJ1_indexOfChar_4cfef 14 = .ok (.iload 5, 2) := by decide +kernel
theorem dJ1_indexOfChar_4cfef_16 : decode cJ1_indexOfChar_4cfef 16 = .ok (.baload, 1) := by decide +kernel
theorem dJ1_indexOfChar_4cfef_17 : decode cJ1_indexOfChar_4cfef 17 = .ok (.iload 4, 2) := by decide +kernel
theorem dJ1_indexOfChar_4cfef_19 : decode cJ1_indexOfChar_4cfef 19 = .ok (.if_icmp .ne 6, 3) := by decide +kernel
theorem dJ1_indexOfChar_4cfef_22 : decode cJ1_indexOfChar_4cfef 22 = .ok (.iload 5, 2) := by decide +kernel
theorem dJ1_indexOfChar_4cfef_24 : decode cJ1_indexOfChar_4cfef 24 = .ok (.ireturn, 1) := by decide +kernel
theorem dJ1_indexOfChar_4cfef_25 : decode cJ1_indexOfChar_4cfef 25 = .ok (.iinc 5 1, 3) := by decide +kernel
theorem dJ1_indexOfChar_4cfef_28 : decode cJ1_indexOfChar_4cfef 28 = .ok (.goto (-21), 3) := by decide +kernel
theorem dJ1_indexOfChar_4cfef_31 : decode cJ1_indexOfChar_4cfef 31 = .ok (.iconst (-1), 1) := by decide +kernel
theorem dJ1_indexOfChar_4cfef_32 : decode cJ1_indexOfChar_4cfef 32 = .ok (.ireturn, 1) := by decide +kernel
def jd_ws (y : MethodName) (cc : ByteArray) (n : Nat) (r : Option FieldType) : List Cond := Cond.code y cc n r :: si_gw
theorem jd_good {y : MethodName} {cc : ByteArray} {n : Nat} {r : Option FieldType} (h : Cond.code y cc n r ∈ lw_tbl) : GoodIn si_gw (jd_ws y cc n r) := by
  intro w hw
  rcases List.mem_cons.mp hw with rfl | hw
  · exact ⟨si_gw_in h rfl, good_of_word rfl⟩
  · exact ⟨hw, good_of_word (List.mem_filter.mp hw).2⟩
/-- a constant: its object, its bytes -/
def jd_X (A : Nat → Prop) (a t k : Nat) (U : State) (H : Heap) : Prop := va_Z "java/lang/String" "COMPACT_STRINGS" "Z" (.int 1) A U H ∧ va_O "java/lang/String" a A U H ∧ va_OF "java/lang/String" "coder" "B" (.int 0) a A U H ∧ va_OF "java/lang/String" "value" "[B" (.ref t) a A U H ∧ va_T .byte t (si_text k).length (fun j => .int ((si_text k).getD j 0)) A U H
theorem jd_X.moved {A : Nat → Prop} {a t k : Nat} {u U : State} {H : Heap} (hvm : u.vm.Alike U.vm) (h : jd_X A a t k u H) : jd_X A a t k U H := ⟨h.1.moved hvm, h.2.1.moved hvm, h.2.2.1.moved hvm, h.2.2.2.1.moved hvm, h.2.2.2.2.moved hvm⟩
theorem jd_X.kept {A : Nat → Prop} {a t k : Nat} {U : State} {H H1 : Heap} (h : jd_X A a t k U H) (hq : ∀ a : Nat, a < H.size → ¬ A a → H1[a]? = H[a]?) : jd_X A a t k U H1 := ⟨h.1.kept hq, h.2.1.kept hq, h.2.2.1.kept hq, h.2.2.2.1.kept hq, h.2.2.2.2.kept hq⟩
def jd_P (A : Nat → Prop) (a t k : Nat) (as : List Value) : Array Value → State → Prop := va_Pc as (fun U => jd_X A a t k U U.heap)
def jd_Q (r : Int32) : Array Value → State → Outcome → State → Prop := fun _ st oc t => oc = .returned (some (.int r)) ∧ t.heap = st.heap
def jd_M (l : Launch) (A : Nat → Prop) (a t k : Nat) (y : MethodName) (cc : ByteArray) (n : Nat) (rt : FieldType) (d : Nat) (as : List Value) (r : Int32) : Prop :=
  Met l y (jd_ws y cc n (some rt)) { frames := d, cells := 0, slots := 0, locals := 60 * d } (jd_P A a t k as) (jd_Q r) 0 0 A
theorem jd_blind {A : Nat → Prop} {a t k : Nat} {as : List Value} : FrameBlind (jd_P A a t k as) := fun b U g mk q => ⟨q.1, (show jd_X A a t k (U.calling g mk b) U.heap from jd_X.moved (u := U) (U := U.calling g mk b) (by exact Vm.Alike.refl _) q.2)⟩
section JD
variable {p : Program} {l : Launch} {e : Env} {R : Room} {s : State} {m : MethodId} {args : Array Value} {below : List Frame} {meth : Method} {c : Code} {H : Heap} {locs : List Loc} {cells slots : Nat} {Q : State → Prop}
variable {pc : Nat} {LS : Array Slot} {rest : List Value} {A : Nat → Prop} {a t k : Nat}
theorem jd_pre {as : List Value} (hX : jd_X A a t k s s.heap) (hS : va_S A s.heap H locs) : ∀ U : State, U.heap = H → s.WarmedH U.vm → jd_P A a t k as as.toArray U := fun U hU hW => ⟨rfl, by
  show jd_X A a t k U U.heap
  rw [hU]
  exact (hX.moved hW.alike).kept hS.2.1⟩
theorem jd_callG {r : Int32} {st0 : List Value} {b : Array Value} (hr : va_Run p l e R s m args below meth c H locs cells slots 0 0 (F0 m pc LS st0) rest (jd_Q r b) A) (hS : va_S A s.heap H locs)
    (kk : ∀ locs1 : List Loc, va_S A s.heap H locs1 → W p l e R s m args below meth c H locs1 cells slots Q (F0 m (pc + 3) LS (.int r :: rest))) : W p l e R s m args below meth c H locs cells slots Q (F0 m pc LS st0) := by
  intro T hT X
  obtain ⟨v, st₀, t, T', L, h0, X', hL, e1, e2, ⟨hv, hh⟩, st⟩ := hr T hT X
  cases hv
  have eH : T'.heap = H := by rw [e1, hh, h0]
  obtain ⟨t2, a1, b1⟩ := kk (locs ++ L) ⟨hS.1, hS.2.1, fun q hq => by
    rcases List.mem_append.mp hq with h | h
    · exact hS.2.2 q h
    · exact hL q h⟩ T' eH X'
  exact ⟨t2, st t2 a1, b1⟩
theorem jd_callS {d mL nL idx : Nat} {O : String} {y : MethodName} {cc : ByteArray} {rt : FieldType} {As : List Value} {r : Int32} (hM : jd_M l A a t k y cc mL rt d As r) (hx : p.tables.exec = Jvm.exec) (hml : c.maxLocals = nL) (hls : LS.size = nL) (hown : s.vm.findClass O = some m.cls) (hts : ∀ w ∈ si_gw, w.before args s = true) (hX : jd_X A a t k s s.heap) (hS : va_S A s.heap H locs) (hRf : d + 1 ≤ R.frames) (hRl : 60 * (d + 1) ≤ R.locals) (hc1 : cells ≤ R.cells) (hc2 : slots ≤ R.slots)
    (hcw : Cond.code y cc mL (some rt) ∈ lw_tbl) (hini : Cond.initialized y.cls ∈ lw_tbl) (hst : Cond.static y ∈ lw_tbl) (hlink : Cond.methodLink O idx y ∈ lw_tbl) (hno : y.cls ≠ "java/lang/invoke/MethodHandle" ∧ y.cls ≠ "java/lang/invoke/VarHandle") (hpd : (parseMethodDescriptor y.desc).map (fun d => d.parameters.length) = some As.length) (hmL : mL ≤ 41) (hwd : (rest.map fun v => v.category).sum ≤ 8) (hd : decode c.code pc = .ok (.invokestatic idx, 3))
    (kk : ∀ locs1 : List Loc, va_S A s.heap H locs1 → W p l e R s m args below meth c H locs1 cells slots Q (F0 m (pc + 3) LS (.int r :: rest))) : W p l e R s m args below meth c H locs cells slots Q (F0 m pc LS (As.reverse ++ rest)) :=
  jd_callG (va_runS (n := As.length) (As := As) (rest := rest) (index := idx) (own := O) ⟨hx, rfl, hml, hown, hts⟩ hM ⟨callB_of _ hts (jd_good hcw) rfl rfl rfl (hts _ (si_gw_in hini rfl)) (hts _ (si_gw_in hlink rfl)) ⟨hno.1, hno.2, hpd⟩ ⟨hRf, by show 8 + (mL + 11) + 60 * d ≤ R.locals; omega⟩, hts _ (si_gw_in hst rfl)⟩ ⟨jd_blind, jd_pre hX hS⟩ rfl rfl hls rfl (lv_room hwd) hd ⟨hc1, hc2⟩) hS kk
theorem jd_callV {d mL nL idx : Nat} {O : String} {y : MethodName} {cc : ByteArray} {rt : FieldType} {As : List Value} {r : Int32} (hM : jd_M l A a t k y cc mL rt d (.ref a :: As) r) (hx : p.tables.exec = Jvm.exec) (hml : c.maxLocals = nL) (hls : LS.size = nL) (hown : s.vm.findClass O = some m.cls) (hts : ∀ w ∈ si_gw, w.before args s = true) (hX : jd_X A a t k s s.heap) (hS : va_S A s.heap H locs) (hRf : d + 1 ≤ R.frames) (hRl : 60 * (d + 1) ≤ R.locals) (hc1 : cells ≤ R.cells) (hc2 : slots ≤ R.slots)
    (hy : y.cls = "java/lang/String") (hcw : Cond.code y cc mL (some rt) ∈ lw_tbl) (hini : Cond.initialized y.cls ∈ lw_tbl) (hst : Cond.instanceMethod y ∈ lw_tbl) (hsel : Cond.selects "java/lang/String" y y ∈ lw_tbl) (hlink : Cond.methodLink O idx y ∈ lw_tbl) (hpd : (parseMethodDescriptor y.desc).map (fun d => d.parameters.length) = some As.length) (hmL : mL ≤ 41) (hwd : (rest.map fun v => v.category).sum ≤ 8) (hd : decode c.code pc = .ok (.invokevirtual idx, 3))
    (kk : ∀ locs1 : List Loc, va_S A s.heap H locs1 → W p l e R s m args below meth c H locs1 cells slots Q (F0 m (pc + 3) LS (.int r :: rest))) : W p l e R s m args below meth c H locs cells slots Q (F0 m pc LS (As.reverse ++ .ref a :: rest)) := by
  have hr : ∃ cell : Cell, H[a]? = some cell ∧ cell.vm.isStatics = false ∧ s.vm.findClass "java/lang/String" = some cell.cls := by
    obtain ⟨cell, h1, h2, h3, -⟩ := hX.2.1.kept hS.2.1
    exact ⟨cell, h1, h2, h3⟩
  exact jd_callG (va_runV (n := As.length) (C := "java/lang/String") (As := As) (rest := rest) (index := idx) (own := O) ⟨hx, rfl, hml, hown, hts⟩ hM ⟨callB_of _ hts (jd_good hcw) rfl rfl rfl (hts _ (si_gw_in hini rfl)) (hts _ (si_gw_in hlink rfl)) ⟨by rw [hy]; decide, by rw [hy]; decide, hpd⟩ ⟨hRf, by show 8 + (mL + 11) + 60 * d ≤ R.locals; omega⟩, hts _ (si_gw_in hst rfl), hts _ (si_gw_in hsel rfl)⟩ ⟨jd_blind, hr, jd_pre hX hS⟩ rfl rfl hls rfl (lv_room hwd) hd ⟨hc1, hc2⟩) hS kk
theorem jd_ret {cc : ByteArray} {rt : FieldType} {r : Int32} (hx : p.tables.exec = Jvm.exec) (hb : c.code = cc) (hr : meth.sig.returnType = some rt) (hlocks : meth.locks = false) (hn : narrow rt (.int r) = .int r) (hd : decode cc pc = .ok (.ireturn, 1)) (hS : va_S A s.heap s.heap locs) : W p l e R s m args below meth c s.heap locs 0 0 (MQ below (jd_Q r) args s 0 0 A) (F0 m pc LS [.int r]) := W.zret hx hb hr hn (fun t ht _ => ⟨rfl, ht⟩) hS.2.2 hd hlocks
end JD
theorem jd_enter {l : Launch} {A : Nat → Prop} {a t k : Nat} {y : MethodName} {cc : ByteArray} {n : Nat} {rt : FieldType} {d : Nat} {as : List Value} {r : Int32} (hy : plainFor y = true) (hlen : (lg_sl as).length ≤ n)
    (body : ∀ (p : Program) (e : Env) (R : Room) (s : State) (m : MethodId) (args : Array Value) (below : List Frame) (meth : Method) (c : Code), p.tables.exec = Jvm.exec → c.code = cc → meth.sig.returnType = some rt → meth.locks = false → c.maxLocals = n → s.vm.findClass y.cls = some m.cls → (∀ w ∈ si_gw, w.before args s = true) → jd_X A a t k s s.heap → d ≤ R.frames → 60 * d ≤ R.locals → ∀ LS : Array Slot, lv_has LS n (lv_args 0 as) → va_S A s.heap s.heap [] → W p l e R s m args below meth c s.heap [] 0 0 (MQ below (jd_Q r) args s 0 0 A) (F0 m 0 LS [])) : jd_M l A a t k y cc n rt d as r := by
  refine va_MetF (cc := cc) (maxL := n) (ret := some rt) hy rfl ?_
  intro p e s m args below meth c s₁ B hml hv
  obtain ⟨rfl, hX⟩ := hv
  have hts0 := atoms_spec (ws := jd_ws y cc n (some rt)) B.pre
  rw [lg_entry_eq]
  exact body p e _ s m _ below meth c B.exec B.bytes B.returns B.notSynchronized hml (findClass_of_methodNamed B.named) (fun w hw => hts0 w (List.mem_cons_of_mem _ hw)) hX (Nat.le_refl _) (Nat.le_refl _) _ (lv_entry as hlen) va_S.rf
/-! the methods -/
theorem jd_coder (l : Launch) (A : Nat → Prop) (a t k : Nat) : jd_M l A a t k yJ0_coder_7d493 cJ0_coder_7d493 1 .byte 0 [.ref a] 0 := by
  refine jd_enter (by decide) (Nat.le_of_ble_eq_true rfl) ?_
  intro p e R s m args below meth c hx hb hr hlk hml hown hts hX hRf hRl LS hl hS
  have hl : lv_has LS 1 [(0, .ref a)] := hl
  refine va_gets (ref := "java/lang/String") (own := RJ0) hx hb hX.1 hS hown (hts _ (si_gw_in jf_38 rfl)) (fun x h => h) dJ0_coder_7d493_0 ?_
  refine lv_if_eq (tgt := 13) hx hb dJ0_coder_7d493_3 (by decide) (fun h => absurd h (by decide)) (fun _ => ?_)
  refine lv_aload_n hx hb dJ0_coder_7d493_6 rfl (lv_at hl 0 rfl) ?_
  refine vk_getf (ref := "java/lang/String") (own := RJ0) hx hb hX.2.2.1 hS hown (hts _ (si_gw_in jf_15 rfl)) (fun x h => h) dJ0_coder_7d493_7 ?_
  refine lv_goto (tgt := 14) hx hb dJ0_coder_7d493_10 (by decide) ?_
  exact jd_ret hx hb hr hlk (by decide) dJ0_coder_7d493_14 hS
theorem jd_isLatin1 (l : Launch) (A : Nat → Prop) (a t k : Nat) : jd_M l A a t k yJ0_isLatin1_aae02 cJ0_isLatin1_aae02 1 .boolean 0 [.ref a] 1 := by
  refine jd_enter (by decide) (Nat.le_of_ble_eq_true rfl) ?_
  intro p e R s m args below meth c hx hb hr hlk hml hown hts hX hRf hRl LS hl hS
  have hl : lv_has LS 1 [(0, .ref a)] := hl
  refine va_gets (ref := "java/lang/String") (own := RJ0) hx hb hX.1 hS hown (hts _ (si_gw_in jf_38 rfl)) (fun x h => h) dJ0_isLatin1_aae02_0 ?_
  refine lv_if_eq (tgt := 17) hx hb dJ0_isLatin1_aae02_3 (by decide) (fun h => absurd h (by decide)) (fun _ => ?_)
  refine lv_aload_n hx hb dJ0_isLatin1_aae02_6 rfl (lv_at hl 0 rfl) ?_
  refine vk_getf (ref := "java/lang/String") (own := RJ0) hx hb hX.2.2.1 hS hown (hts _ (si_gw_in jf_15 rfl)) (fun x h => h) dJ0_isLatin1_aae02_7 ?_
  refine lv_if_ne (tgt := 17) hx hb dJ0_isLatin1_aae02_10 (by decide) (fun h => absurd rfl h) (fun _ => ?_)
  refine lv_iconst hx hb dJ0_isLatin1_aae02_13 (v := 1) (by decide) ?_
  refine lv_goto (tgt := 18) hx hb dJ0_isLatin1_aae02_14 (by decide) ?_
  exact jd_ret hx hb hr hlk (by decide) dJ0_isLatin1_aae02_18 hS
theorem jd_len {k : Nat} : (si_text k).length = if k = 2 then 4 else 8 := by
  unfold si_text
  split <;> rfl
theorem jd_shr {k : Nat} : Int32.ofNat (si_text k).length >>> ((0 : Int32) &&& 31) = Int32.ofNat (si_text k).length := by
  rw [jd_len]
  split <;> decide
theorem jd_length (l : Launch) (A : Nat → Prop) (a t k : Nat) : jd_M l A a t k yJ0_length_8abf5 cJ0_length_8abf5 1 .int 1 [.ref a] (Int32.ofNat (si_text k).length) := by
  refine jd_enter (by decide) (Nat.le_of_ble_eq_true rfl) ?_
  intro p e R s m args below meth c hx hb hr hlk hml hown hts hX hRf hRl LS hl hS
  have hl : lv_has LS 1 [(0, .ref a)] := hl
  refine lv_aload_n hx hb dJ0_length_8abf5_0 rfl (lv_at hl 0 rfl) ?_
  refine vk_getf (ref := "java/lang/String") (own := RJ0) hx hb hX.2.2.2.1 hS hown (hts _ (si_gw_in jf_9 rfl)) (fun x h => h) dJ0_length_8abf5_1 ?_
  refine va_tlen hx hb hX.2.2.2.2 hS rfl dJ0_length_8abf5_4 ?_
  refine lv_aload_n hx hb dJ0_length_8abf5_5 rfl (lv_at hl 0 rfl) ?_
  refine jd_callV (As := []) (O := RJ0) (jd_coder l A a t k) hx hml hl.1 hown hts hX hS (by omega) (by omega) (Nat.zero_le _) (Nat.zero_le _) rfl jc_J0_coder_7d493 jn_S ji_J0_coder_7d493 js_J0_coder_7d493 jl_335 (by show _ = some 0; decide) (by decide) (Nat.le_of_ble_eq_true rfl) (by rw [hb]; exact dJ0_length_8abf5_6) (fun locs1 hS1 => ?_)
  refine lv_ishr hx hb dJ0_length_8abf5_9 ?_
  rw [jd_shr]
  exact jd_ret hx hb hr hlk rfl dJ0_length_8abf5_10 hS1
theorem jd_canEncode (l : Launch) (A : Nat → Prop) (a t k : Nat) (ch : Int32) : jd_M l A a t k yJ1_canEncode_9a6ad cJ1_canEncode_9a6ad 1 .boolean 0 [.int ch] (if ch < 0 ∨ 255 < ch then 0 else 1) := by
  refine jd_enter (by decide) (Nat.le_of_ble_eq_true rfl) ?_
  intro p e R s m args below meth c hx hb hr hlk hml hown hts hX hRf hRl LS hl hS
  have hl : lv_has LS 1 [(0, .int ch)] := hl
  refine lv_iload_n hx hb dJ1_canEncode_9a6ad_0 rfl (lv_at hl 0 rfl) ?_
  refine lv_if_lt (tgt := 15) hx hb dJ1_canEncode_9a6ad_1 (by decide) (fun h => ?_) (fun h => ?_)
  · refine lv_iconst hx hb dJ1_canEncode_9a6ad_15 (v := 0) (by decide) ?_
    rw [if_pos (Or.inl h)]
    exact jd_ret hx hb hr hlk (by decide) dJ1_canEncode_9a6ad_16 hS
  · refine lv_iload_n hx hb dJ1_canEncode_9a6ad_4 rfl (lv_at hl 0 rfl) ?_
    refine lv_sipush hx hb dJ1_canEncode_9a6ad_5 (v := 255) (by decide) ?_
    refine lv_icmp_gt (tgt := 15) hx hb dJ1_canEncode_9a6ad_8 (by decide) (fun h2 => ?_) (fun h2 => ?_)
    · refine lv_iconst hx hb dJ1_canEncode_9a6ad_15 (v := 0) (by decide) ?_
      rw [if_pos (Or.inr h2)]
      exact jd_ret hx hb hr hlk (by decide) dJ1_canEncode_9a6ad_16 hS
    · refine lv_iconst hx hb dJ1_canEncode_9a6ad_11 (v := 1) (by decide) ?_
      refine lv_goto (tgt := 16) hx hb dJ1_canEncode_9a6ad_12 (by decide) ?_
      rw [if_neg (by rintro (h3 | h3); exact h h3; exact h2 h3)]
      exact jd_ret hx hb hr hlk (by decide) dJ1_canEncode_9a6ad_16 hS
theorem jd_i1 : ∀ i, i < 9 → ((Int32.ofNat i).toNatClampNeg = i ∧ ¬ Int32.ofNat i < 0 ∧ Int32.ofNat i + Int32.ofInt 1 = Int32.ofNat (i + 1)) := by decide
theorem jd_i2 : ∀ n, n < 9 → ∀ i, i < 9 → (Int32.ofNat n ≤ Int32.ofNat i → n ≤ i) ∧ (n ≤ i → Int32.ofNat n ≤ Int32.ofNat i) := by decide
theorem jd_i3 : ∀ n, n < 256 → ∀ x ∈ [(103 : Int32), 108, 115, 120, 99, 97, 118, 107, 110, 111, 116, 119], ((Int32.ofNat n).toInt8.toInt32 = x → x = Int32.ofNat n) ∧ (x = Int32.ofNat n → (Int32.ofNat n).toInt8.toInt32 = x) := by decide +kernel
theorem jd_mem {k : Nat} {x : Int32} (h : x ∈ si_text k) : x ∈ [(103 : Int32), 108, 115, 120, 99, 97, 118, 107, 110, 111, 116, 119] := by
  unfold si_text at h
  split at h <;> simp only [List.mem_cons, List.not_mem_nil, or_false] at h ⊢
  · rcases h with h | h | h | h <;> simp [h]
  · rcases h with h | h | h | h | h | h | h | h <;> simp [h]
theorem jd_ch {ch : Int32} (h : ¬ (ch < 0 ∨ 255 < ch)) : ∃ n, n < 256 ∧ ch = Int32.ofNat n := by
  have h0 : ¬ ch < 0 := fun z => h (Or.inl z)
  have h1 : ¬ 255 < ch := fun z => h (Or.inr z)
  have a0 : (0 : Int) ≤ ch.toInt := by
    have := Int32.le_iff_toInt_le.mp (Int32.not_lt.mp h0)
    simpa using this
  have a1 : ch.toInt ≤ 255 := by
    have := Int32.le_iff_toInt_le.mp (Int32.not_lt.mp h1)
    simpa using this
  refine ⟨ch.toInt.toNat, by omega, Int32.toInt_inj.mp ?_⟩
  rw [Int32.toInt_ofNat_of_lt (by omega)]
  omega
theorem jd_out {ch : Int32} (h : ch < 0 ∨ 255 < ch) : ∀ (x : List Int32), (∀ b ∈ x, b ∈ [(103 : Int32), 108, 115, 120, 99, 97, 118, 107, 110, 111, 116, 119]) → ∀ i : Int32, si_find ch x i = -1 := by
  intro x
  induction x with
  | nil => intro _ i; rfl
  | cons b r ih =>
    intro hb i
    have hn : b ≠ ch := by
      rintro rfl
      have h1 : ∀ z ∈ [(103 : Int32), 108, 115, 120, 99, 97, 118, 107, 110, 111, 116, 119], ¬ (z < 0 ∨ 255 < z) := by decide
      exact h1 b (hb b List.mem_cons_self) h
    unfold si_find
    rw [if_neg hn]
    exact ih (fun z hz => hb z (List.mem_cons_of_mem _ hz)) (i + 1)
theorem jd_le8 {k : Nat} : (si_text k).length ≤ 8 ∧ 4 ≤ (si_text k).length := by
  rw [jd_len]
  split <;> decide
theorem jd_indexOfChar (l : Launch) (A : Nat → Prop) (a t k n : Nat) (hn : n < 256) : jd_M l A a t k yJ1_indexOfChar_4cfef cJ1_indexOfChar_4cfef 6 .int 0 [.ref t, .int (Int32.ofNat n), .int 0, .int (Int32.ofNat (si_text k).length)] (si_find (Int32.ofNat n) (si_text k) 0) := by
  refine jd_enter (by decide) (Nat.le_of_ble_eq_true rfl) ?_
  intro p e R s m args below meth c hx hb hr hlk hml hown hts hX hRf hRl LS hl hS
  have hl : lv_has LS 6 [(0, .ref t), (1, .int (Int32.ofNat n)), (2, .int 0), (3, .int (Int32.ofNat (si_text k).length))] := hl
  obtain ⟨hk8, hk4⟩ := jd_le8 (k := k)
  refine lv_iload_n hx hb dJ1_indexOfChar_4cfef_0 rfl (lv_at hl 1 rfl) ?_
  refine lv_i2b hx hb dJ1_indexOfChar_4cfef_1 rfl ?_
  refine lv_istore hx hb dJ1_indexOfChar_4cfef_2 hl (by decide) rfl (fun LS1 hl1 => ?_)
  have hl1 : lv_has LS1 6 [(4, .int (Int32.ofNat n).toInt8.toInt32), (0, .ref t), (1, .int (Int32.ofNat n)), (2, .int 0), (3, .int (Int32.ofNat (si_text k).length))] := hl1
  refine lv_iload_n hx hb dJ1_indexOfChar_4cfef_4 rfl (lv_at hl1 3 rfl) ?_
  refine lv_istore hx hb dJ1_indexOfChar_4cfef_5 hl1 (by decide) rfl (fun LS2 hl2 => ?_)
  have hl2 : lv_has LS2 6 [(5, .int (Int32.ofNat 0)), (4, .int (Int32.ofNat n).toInt8.toInt32), (0, .ref t), (1, .int (Int32.ofNat n)), (2, .int 0), (3, .int (Int32.ofNat (si_text k).length))] := hl2
  have key : ∀ (x : List Int32) (i : Nat) (LS : Array Slot), i ≤ (si_text k).length → (si_text k).drop i = x → lv_has LS 6 [(5, .int (Int32.ofNat i)), (4, .int (Int32.ofNat n).toInt8.toInt32), (0, .ref t), (1, .int (Int32.ofNat n)), (2, .int 0), (3, .int (Int32.ofNat (si_text k).length))] → W p l e R s m args below meth c s.heap [] 0 0 (MQ below (jd_Q (si_find (Int32.ofNat n) x (Int32.ofNat i))) args s 0 0 A) (F0 m 7 LS []) := by
    intro x
    induction x with
    | nil =>
      intro i LS hi hd hl
      have hi2 : (si_text k).length ≤ i := List.drop_eq_nil_iff.mp hd
      refine lv_iload hx hb dJ1_indexOfChar_4cfef_7 (lv_at hl 0 rfl) ?_
      refine lv_iload_n hx hb dJ1_indexOfChar_4cfef_9 rfl (lv_at hl 5 rfl) ?_
      refine lv_icmp_ge (tgt := 31) hx hb dJ1_indexOfChar_4cfef_10 (by decide) (fun _ => ?_) (fun h => absurd ((jd_i2 _ (by omega) _ (by omega)).2 hi2) h)
      refine lv_iconst hx hb dJ1_indexOfChar_4cfef_31 (v := -1) (by decide) ?_
      exact jd_ret hx hb hr hlk rfl dJ1_indexOfChar_4cfef_32 hS
    | cons b r ih =>
      intro i LS hi hd hl
      have hi2 : i < (si_text k).length := by
        rcases Nat.lt_or_ge i (si_text k).length with h | h
        · exact h
        · rw [List.drop_eq_nil_iff.mpr h] at hd
          cases hd
      have hdc := List.drop_eq_getElem_cons hi2
      rw [hd] at hdc
      obtain ⟨e1, e2⟩ := List.cons.inj hdc
      have hbm : b ∈ si_text k := by rw [e1]; exact List.getElem_mem hi2
      obtain ⟨c1, c2, c3⟩ := jd_i1 i (by omega)
      refine lv_iload hx hb dJ1_indexOfChar_4cfef_7 (lv_at hl 0 rfl) ?_
      refine lv_iload_n hx hb dJ1_indexOfChar_4cfef_9 rfl (lv_at hl 5 rfl) ?_
      refine lv_icmp_ge (tgt := 31) hx hb dJ1_indexOfChar_4cfef_10 (by decide) (fun h => absurd ((jd_i2 _ (by omega) _ (by omega)).1 h) (by omega)) (fun _ => ?_)
      refine lv_aload_n hx hb dJ1_indexOfChar_4cfef_13 rfl (lv_at hl 2 rfl) ?_
      refine lv_iload hx hb dJ1_indexOfChar_4cfef_14 (lv_at hl 0 rfl) ?_
      refine va_tb (v := .int b) hx hb hX.2.2.2.2 hS (by rintro (h | h); exact c2 h; rw [c1] at h; omega) (by
        rw [c1, List.getD_eq_getElem?_getD, List.getElem?_eq_getElem hi2, ← e1]
        rfl) dJ1_indexOfChar_4cfef_16 ?_
      refine lv_iload hx hb dJ1_indexOfChar_4cfef_17 (lv_at hl 1 rfl) ?_
      refine lv_icmp_ne (tgt := 25) hx hb dJ1_indexOfChar_4cfef_19 (by decide) (fun h => ?_) (fun h => ?_)
      · have hne : ¬ b = Int32.ofNat n := fun z => h ((jd_i3 n hn b (jd_mem hbm)).2 z).symm
        refine lv_iinc (k := 0) (v := Int32.ofNat (i + 1)) hx hb dJ1_indexOfChar_4cfef_25 hl rfl c3 (by decide) rfl (fun LS3 hl3 => ?_)
        refine lv_goto (tgt := 7) hx hb dJ1_indexOfChar_4cfef_28 (by decide) ?_
        have := ih (i + 1) LS3 (by omega) e2.symm hl3
        unfold si_find
        rw [if_neg hne]
        have c4 : Int32.ofNat i + 1 = Int32.ofNat (i + 1) := c3
        rw [c4]
        exact this
      · have heq : b = Int32.ofNat n := (jd_i3 n hn b (jd_mem hbm)).1 h.symm
        refine lv_iload hx hb dJ1_indexOfChar_4cfef_22 (lv_at hl 0 rfl) ?_
        unfold si_find
        rw [if_pos heq]
        exact jd_ret hx hb hr hlk rfl dJ1_indexOfChar_4cfef_24 hS
  exact key (si_text k) 0 LS2 (Nat.zero_le _) rfl hl2
theorem jd_min {k : Nat} : (if Int32.ofNat (si_text k).length < Int32.ofNat (si_text k).length then Int32.ofNat (si_text k).length else Int32.ofNat (si_text k).length) = Int32.ofNat (si_text k).length := ite_self _
theorem jd_pos {k : Nat} : (0 : Int32) < Int32.ofNat (si_text k).length := by
  rw [jd_len]
  split <;> decide
theorem jd_indexOf1 (l : Launch) (A : Nat → Prop) (a t k : Nat) (ch : Int32) : jd_M l A a t k yJ1_indexOf_4cfef cJ1_indexOf_4cfef 4 .int 1 [.ref t, .int ch, .int 0, .int (Int32.ofNat (si_text k).length)] (si_find ch (si_text k) 0) := by
  refine jd_enter (by decide) (Nat.le_of_ble_eq_true rfl) ?_
  intro p e R s m args below meth c hx hb hr hlk hml hown hts hX hRf hRl LS hl hS
  have hl : lv_has LS 4 [(0, .ref t), (1, .int ch), (2, .int 0), (3, .int (Int32.ofNat (si_text k).length))] := hl
  refine lv_iload_n hx hb dJ1_indexOf_4cfef_0 rfl (lv_at hl 1 rfl) ?_
  refine jd_callS (As := [.int ch]) (rest := []) (O := RJ1) (jd_canEncode l A a t k ch) hx hml hl.1 hown hts hX hS (by omega) (by omega) (Nat.zero_le _) (Nat.zero_le _) jc_J1_canEncode_9a6ad jn_L jt_J1_canEncode_9a6ad jl_88 ⟨by decide, by decide⟩ (by show _ = some 1; decide) (by decide) (Nat.le_of_ble_eq_true rfl) (by rw [hb]; exact dJ1_indexOf_4cfef_1) (fun locs1 hS1 => ?_)
  by_cases hc : ch < 0 ∨ 255 < ch
  · rw [if_pos hc]
    refine lv_if_ne (tgt := 9) hx hb dJ1_indexOf_4cfef_4 (by decide) (fun h => absurd rfl h) (fun _ => ?_)
    refine lv_iconst hx hb dJ1_indexOf_4cfef_7 (v := -1) (by decide) ?_
    rw [jd_out hc (si_text k) (fun b hb => jd_mem hb)]
    exact jd_ret hx hb hr hlk rfl dJ1_indexOf_4cfef_8 hS1
  · rw [if_neg hc]
    obtain ⟨n, hn, rfl⟩ := jd_ch hc
    refine lv_if_ne (tgt := 9) hx hb dJ1_indexOf_4cfef_4 (by decide) (fun _ => ?_) (fun h => absurd h (by decide))
    refine lv_iload_n hx hb dJ1_indexOf_4cfef_9 rfl (lv_at hl 2 rfl) ?_
    refine lv_iconst hx hb dJ1_indexOf_4cfef_10 (v := 0) (by decide) ?_
    refine va_mmax (own := RJ1) hx hb (hml.trans hl.1.symm) hown (hts _ (si_gw_in jl_92 rfl)) (hts _ (si_gw_in jt_Mmax rfl)) (hts _ (si_gw_in jn_M rfl)) (hts _ (si_gw_in jc_Mmax rfl)) (by omega) (by show 0 + 13 ≤ _; omega) (Nat.zero_le _) (Nat.zero_le _) dJ1_indexOf_4cfef_11 ?_
    refine lv_istore_n hx hb dJ1_indexOf_4cfef_14 rfl hl (by decide) rfl (fun LS1 hl1 => ?_)
    have hl1 : lv_has LS1 4 [(2, .int 0), (0, .ref t), (1, .int (Int32.ofNat n)), (3, .int (Int32.ofNat (si_text k).length))] := hl1
    refine lv_iload_n hx hb dJ1_indexOf_4cfef_15 rfl (lv_at hl1 3 rfl) ?_
    refine lv_aload_n hx hb dJ1_indexOf_4cfef_16 rfl (lv_at hl1 1 rfl) ?_
    refine va_tlen hx hb hX.2.2.2.2 hS1 rfl dJ1_indexOf_4cfef_17 ?_
    refine va_mmin (own := RJ1) hx hb (hml.trans hl1.1.symm) hown (hts _ (si_gw_in jl_38 rfl)) (hts _ (si_gw_in jt_Mmin rfl)) (hts _ (si_gw_in jn_M rfl)) (hts _ (si_gw_in jc_Mmin rfl)) (by omega) (by show 0 + 13 ≤ _; omega) (Nat.zero_le _) (Nat.zero_le _) dJ1_indexOf_4cfef_18 ?_
    rw [jd_min]
    refine lv_istore_n hx hb dJ1_indexOf_4cfef_21 rfl hl1 (by decide) rfl (fun LS2 hl2 => ?_)
    have hl2 : lv_has LS2 4 [(3, .int (Int32.ofNat (si_text k).length)), (2, .int 0), (0, .ref t), (1, .int (Int32.ofNat n))] := hl2
    refine lv_iload_n hx hb dJ1_indexOf_4cfef_22 rfl (lv_at hl2 1 rfl) ?_
    refine lv_iload_n hx hb dJ1_indexOf_4cfef_23 rfl (lv_at hl2 0 rfl) ?_
    refine lv_icmp_lt (tgt := 29) hx hb dJ1_indexOf_4cfef_24 (by decide) (fun _ => ?_) (fun h => absurd jd_pos h)
    refine lv_aload_n hx hb dJ1_indexOf_4cfef_29 rfl (lv_at hl2 2 rfl) ?_
    refine lv_iload_n hx hb dJ1_indexOf_4cfef_30 rfl (lv_at hl2 3 rfl) ?_
    refine lv_iload_n hx hb dJ1_indexOf_4cfef_31 rfl (lv_at hl2 1 rfl) ?_
    refine lv_iload_n hx hb dJ1_indexOf_4cfef_32 rfl (lv_at hl2 0 rfl) ?_
    refine jd_callS (As := [.ref t, .int (Int32.ofNat n), .int 0, .int (Int32.ofNat (si_text k).length)]) (rest := []) (O := RJ1) (jd_indexOfChar l A a t k n hn) hx hml hl2.1 hown hts hX hS1 (by omega) (by omega) (Nat.zero_le _) (Nat.zero_le _) jc_J1_indexOfChar_4cfef jn_L jt_J1_indexOfChar_4cfef jl_95 ⟨by decide, by decide⟩ (by show _ = some 4; decide) (by decide) (Nat.le_of_ble_eq_true rfl) (by rw [hb]; exact dJ1_indexOf_4cfef_33) (fun locs2 hS2 => ?_)
    exact jd_ret hx hb hr hlk rfl dJ1_indexOf_4cfef_36 hS2
theorem jd_indexOf2 (l : Launch) (A : Nat → Prop) (a t k : Nat) (ch : Int32) : jd_M l A a t k yJ0_indexOf_7cf53 cJ0_indexOf_7cf53 3 .int 2 [.ref a, .int ch, .int 0] (si_find ch (si_text k) 0) := by
  refine jd_enter (by decide) (Nat.le_of_ble_eq_true rfl) ?_
  intro p e R s m args below meth c hx hb hr hlk hml hown hts hX hRf hRl LS hl hS
  have hl : lv_has LS 3 [(0, .ref a), (1, .int ch), (2, .int 0)] := hl
  refine lv_aload_n hx hb dJ0_indexOf_7cf53_0 rfl (lv_at hl 0 rfl) ?_
  refine jd_callV (As := []) (rest := []) (O := RJ0) (jd_isLatin1 l A a t k) hx hml hl.1 hown hts hX hS (by omega) (by omega) (Nat.zero_le _) (Nat.zero_le _) rfl jc_J0_isLatin1_aae02 jn_S ji_J0_isLatin1_aae02 js_J0_isLatin1_aae02 jl_492 (by show _ = some 0; decide) (by decide) (Nat.le_of_ble_eq_true rfl) (by rw [hb]; exact dJ0_indexOf_7cf53_1) (fun locs1 hS1 => ?_)
  refine lv_if_eq (tgt := 23) hx hb dJ0_indexOf_7cf53_4 (by decide) (fun h => absurd h (by decide)) (fun _ => ?_)
  refine lv_aload_n hx hb dJ0_indexOf_7cf53_7 rfl (lv_at hl 0 rfl) ?_
  refine vk_getf (ref := "java/lang/String") (own := RJ0) hx hb hX.2.2.2.1 hS1 hown (hts _ (si_gw_in jf_9 rfl)) (fun x h => h) dJ0_indexOf_7cf53_8 ?_
  refine lv_iload_n hx hb dJ0_indexOf_7cf53_11 rfl (lv_at hl 1 rfl) ?_
  refine lv_iload_n hx hb dJ0_indexOf_7cf53_12 rfl (lv_at hl 2 rfl) ?_
  refine lv_aload_n hx hb dJ0_indexOf_7cf53_13 rfl (lv_at hl 0 rfl) ?_
  refine jd_callV (As := []) (rest := [.int 0, .int ch, .ref t]) (O := RJ0) (jd_length l A a t k) hx hml hl.1 hown hts hX hS1 (by omega) (by omega) (Nat.zero_le _) (Nat.zero_le _) rfl jc_J0_length_8abf5 jn_S ji_J0_length_8abf5 js_J0_length_8abf5 jl_505 (by show _ = some 0; decide) (by decide) (Nat.le_of_ble_eq_true rfl) (by rw [hb]; exact dJ0_indexOf_7cf53_14) (fun locs2 hS2 => ?_)
  refine jd_callS (As := [.ref t, .int ch, .int 0, .int (Int32.ofNat (si_text k).length)]) (rest := []) (O := RJ0) (jd_indexOf1 l A a t k ch) hx hml hl.1 hown hts hX hS2 (by omega) (by omega) (Nat.zero_le _) (Nat.zero_le _) jc_J1_indexOf_4cfef jn_L jt_J1_indexOf_4cfef jl_637 ⟨by decide, by decide⟩ (by show _ = some 4; decide) (by decide) (Nat.le_of_ble_eq_true rfl) (by rw [hb]; exact dJ0_indexOf_7cf53_17) (fun locs3 hS3 => ?_)
  refine lv_goto (tgt := 36) hx hb dJ0_indexOf_7cf53_20 (by decide) ?_
  exact jd_ret hx hb hr hlk rfl dJ0_indexOf_7cf53_36 hS3
theorem jd_indexOf (l : Launch) (A : Nat → Prop) (a t k : Nat) (ch : Int32) : jd_M l A a t k yJ0_indexOf_0f7a4 cJ0_indexOf_0f7a4 2 .int 3 [.ref a, .int ch] (si_find ch (si_text k) 0) := by
  refine jd_enter (by decide) (Nat.le_of_ble_eq_true rfl) ?_
  intro p e R s m args below meth c hx hb hr hlk hml hown hts hX hRf hRl LS hl hS
  have hl : lv_has LS 2 [(0, .ref a), (1, .int ch)] := hl
  refine lv_aload_n hx hb dJ0_indexOf_0f7a4_0 rfl (lv_at hl 0 rfl) ?_
  refine lv_iload_n hx hb dJ0_indexOf_0f7a4_1 rfl (lv_at hl 1 rfl) ?_
  refine lv_iconst hx hb dJ0_indexOf_0f7a4_2 (v := 0) (by decide) ?_
  refine jd_callV (As := [.int ch, .int 0]) (rest := []) (O := RJ0) (jd_indexOf2 l A a t k ch) hx hml hl.1 hown hts hX hS (by omega) (by omega) (Nat.zero_le _) (Nat.zero_le _) rfl jc_J0_indexOf_7cf53 jn_S ji_J0_indexOf_7cf53 js_J0_indexOf_7cf53 jl_633 (by show _ = some 2; decide) (by decide) (Nat.le_of_ble_eq_true rfl) (by rw [hb]; exact dJ0_indexOf_0f7a4_3) (fun locs1 hS1 => ?_)
  exact jd_ret hx hb hr hlk rfl dJ0_indexOf_0f7a4_6 hS1
theorem jd_of {P : si_P} {s : State} (hX : si_X P s) {k : Nat} (hk : k = 1 ∨ k = 2) : ∃ t : Nat, jd_X (si_A P) (P.2.2.2.2 k) t k s s.heap := by
  obtain ⟨h1, h2, h3, h4, h5, ⟨adV, h6⟩, h7⟩ := hX
  rcases hk with rfl | rfl
  · obtain ⟨a1, a2, a3, a4⟩ := h6.1 0 (by decide)
    exact ⟨adV 0, h7, a1, a2, a3, a4⟩
  · obtain ⟨a1, a2, a3, a4⟩ := h6.1 1 (by decide)
    exact ⟨adV 1, h7, a1, a2, a3, a4⟩
theorem si_J_ok (l : Launch) (D : va_G) (ca : FieldType → ClassId) (P : si_P) : si_J l D ca P := by
  intro p e R s m args below meth c O H locs cells slots Q pc LS rest idx hx hml hown hts hX hS hRf hRl hc1 hc2 hwd hd
  refine ⟨fun ch k hlk hk kk => ?_, fun hlk kk => ?_⟩
  · obtain ⟨t, hT⟩ := jd_of hX hk
    exact jd_callV (As := [.int ch]) (rest := rest) (O := O) (jd_indexOf l (si_A P) (P.2.2.2.2 k) t k ch) hx hml rfl hown hts hT hS (by omega) (by omega) hc1 hc2 rfl jc_J0_indexOf_0f7a4 jn_S ji_J0_indexOf_0f7a4 js_J0_indexOf_0f7a4 hlk (by show _ = some 1; decide) (by decide) hwd hd kk
  · obtain ⟨t, hT⟩ := jd_of hX (k := 1) (Or.inl rfl)
    have h3 : P.2.2.2.2 3 = P.2.2.2.2 1 := hX.2.2.2.2.1
    rw [h3]
    exact jd_callV (As := []) (rest := rest) (O := O) (jd_length l (si_A P) (P.2.2.2.2 1) t 1) hx hml rfl hown hts hT hS (by omega) (by omega) hc1 hc2 rfl jc_J0_length_8abf5 jn_S ji_J0_length_8abf5 js_J0_length_8abf5 hlk (by show _ = some 0; decide) (by decide) hwd hd kk
end
