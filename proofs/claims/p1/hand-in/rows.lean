section
-- ===== PART A: goes FIRST, ahead of the names: the tables' words, and 'selects' of the private methods out of them =====
/-- a private method of a class that the tables say can be made, by its rows of tables_1 -/
def lw_okq (q : MethodName × Nat) : Prop := (q.1.cls ≠ "java/lang/invoke/MethodHandle" ∧ q.1.cls ≠ "java/lang/invoke/VarHandle") ∧ Cond.instantiable q.1.cls q.2 ∈ tables_1 ∧ Cond.privateMethod q.1 ∈ tables_1 ∧ Cond.instanceMethod q.1 ∈ tables_1
theorem lw_p0 : lw_okq (⟨"WardrobeRow$Tape", "readRun", "()V"⟩, 11) := ⟨⟨by decide +kernel, by decide +kernel⟩, List.mem_of_getElem? (i := 35) (by decide +kernel), List.mem_of_getElem? (i := 553) (by decide +kernel), List.mem_of_getElem? (i := 554) (by decide +kernel)⟩
theorem lw_p1 : lw_okq (⟨"WardrobeRow$Tape", "keywordBy", "(J)I"⟩, 11) := ⟨⟨by decide +kernel, by decide +kernel⟩, List.mem_of_getElem? (i := 35) (by decide +kernel), List.mem_of_getElem? (i := 557) (by decide +kernel), List.mem_of_getElem? (i := 558) (by decide +kernel)⟩
theorem lw_p2 : lw_okq (⟨"WardrobeRow$Tape", "readSign", "(I)V"⟩, 11) := ⟨⟨by decide +kernel, by decide +kernel⟩, List.mem_of_getElem? (i := 35) (by decide +kernel), List.mem_of_getElem? (i := 561) (by decide +kernel), List.mem_of_getElem? (i := 562) (by decide +kernel)⟩
theorem lw_p3 : lw_okq (⟨"WardrobeRow$TerraceReader", "readFact", "(LWardrobeRow$Tape;)Z"⟩, 2) := ⟨⟨by decide +kernel, by decide +kernel⟩, List.mem_of_getElem? (i := 301) (by decide +kernel), List.mem_of_getElem? (i := 565) (by decide +kernel), List.mem_of_getElem? (i := 566) (by decide +kernel)⟩
theorem lw_p4 : lw_okq (⟨"WardrobeRow$TerraceReader", "readNewName", "(LWardrobeRow$Tape;I)Z"⟩, 2) := ⟨⟨by decide +kernel, by decide +kernel⟩, List.mem_of_getElem? (i := 301) (by decide +kernel), List.mem_of_getElem? (i := 573) (by decide +kernel), List.mem_of_getElem? (i := 574) (by decide +kernel)⟩
theorem lw_p5 : lw_okq (⟨"WardrobeRow$Terrace", "namesOf", "(I)[J"⟩, 10) := ⟨⟨by decide +kernel, by decide +kernel⟩, List.mem_of_getElem? (i := 143) (by decide +kernel), List.mem_of_getElem? (i := 588) (by decide +kernel), List.mem_of_getElem? (i := 589) (by decide +kernel)⟩
theorem lw_p6 : lw_okq (⟨"WardrobeRow$TerraceReader", "readHouseAndOwner", "(LWardrobeRow$Tape;I)Z"⟩, 2) := ⟨⟨by decide +kernel, by decide +kernel⟩, List.mem_of_getElem? (i := 301) (by decide +kernel), List.mem_of_getElem? (i := 612) (by decide +kernel), List.mem_of_getElem? (i := 613) (by decide +kernel)⟩
theorem lw_p7 : lw_okq (⟨"WardrobeRow$TerraceReader", "readPassage", "(LWardrobeRow$Tape;Z)Z"⟩, 2) := ⟨⟨by decide +kernel, by decide +kernel⟩, List.mem_of_getElem? (i := 301) (by decide +kernel), List.mem_of_getElem? (i := 623) (by decide +kernel), List.mem_of_getElem? (i := 624) (by decide +kernel)⟩
theorem lw_p8 : lw_okq (⟨"WardrobeRow$TerraceReader", "readPlace", "(LWardrobeRow$Tape;)Z"⟩, 2) := ⟨⟨by decide +kernel, by decide +kernel⟩, List.mem_of_getElem? (i := 301) (by decide +kernel), List.mem_of_getElem? (i := 645) (by decide +kernel), List.mem_of_getElem? (i := 646) (by decide +kernel)⟩
theorem lw_p9 : lw_okq (⟨"WardrobeRow$TerraceReader", "readLeave", "(LWardrobeRow$Tape;)Z"⟩, 2) := ⟨⟨by decide +kernel, by decide +kernel⟩, List.mem_of_getElem? (i := 301) (by decide +kernel), List.mem_of_getElem? (i := 649) (by decide +kernel), List.mem_of_getElem? (i := 650) (by decide +kernel)⟩
theorem lw_p10 : lw_okq (⟨"WardrobeRow$TerraceReader", "readHeir", "(LWardrobeRow$Tape;)Z"⟩, 2) := ⟨⟨by decide +kernel, by decide +kernel⟩, List.mem_of_getElem? (i := 301) (by decide +kernel), List.mem_of_getElem? (i := 655) (by decide +kernel), List.mem_of_getElem? (i := 656) (by decide +kernel)⟩
theorem lw_p11 : lw_okq (⟨"WardrobeRow$TerraceReader", "readLiking", "(LWardrobeRow$Tape;)Z"⟩, 2) := ⟨⟨by decide +kernel, by decide +kernel⟩, List.mem_of_getElem? (i := 301) (by decide +kernel), List.mem_of_getElem? (i := 659) (by decide +kernel), List.mem_of_getElem? (i := 660) (by decide +kernel)⟩
theorem lw_p12 : lw_okq (⟨"WardrobeRow", "isOwner", "(I)Z"⟩, 17) := ⟨⟨by decide +kernel, by decide +kernel⟩, List.mem_of_getElem? (i := 27) (by decide +kernel), List.mem_of_getElem? (i := 711) (by decide +kernel), List.mem_of_getElem? (i := 712) (by decide +kernel)⟩
theorem lw_p13 : lw_okq (⟨"WardrobeRow", "isPassage", "(I)Z"⟩, 17) := ⟨⟨by decide +kernel, by decide +kernel⟩, List.mem_of_getElem? (i := 27) (by decide +kernel), List.mem_of_getElem? (i := 735) (by decide +kernel), List.mem_of_getElem? (i := 736) (by decide +kernel)⟩
theorem lw_p14 : lw_okq (⟨"WardrobeRow", "isRoom", "(I)Z"⟩, 17) := ⟨⟨by decide +kernel, by decide +kernel⟩, List.mem_of_getElem? (i := 27) (by decide +kernel), List.mem_of_getElem? (i := 762) (by decide +kernel), List.mem_of_getElem? (i := 763) (by decide +kernel)⟩
theorem lw_p15 : lw_okq (⟨"WardrobeRow$Past", "newest", "()LWardrobeRow$Deeds;"⟩, 3) := ⟨⟨by decide +kernel, by decide +kernel⟩, List.mem_of_getElem? (i := 259) (by decide +kernel), List.mem_of_getElem? (i := 770) (by decide +kernel), List.mem_of_getElem? (i := 771) (by decide +kernel)⟩
def lw_privs_1 : List (MethodName × Nat) := [(⟨"WardrobeRow$Tape", "readRun", "()V"⟩, 11), (⟨"WardrobeRow$Tape", "keywordBy", "(J)I"⟩, 11), (⟨"WardrobeRow$Tape", "readSign", "(I)V"⟩, 11), (⟨"WardrobeRow$TerraceReader", "readFact", "(LWardrobeRow$Tape;)Z"⟩, 2), (⟨"WardrobeRow$TerraceReader", "readNewName", "(LWardrobeRow$Tape;I)Z"⟩, 2), (⟨"WardrobeRow$Terrace", "namesOf", "(I)[J"⟩, 10), (⟨"WardrobeRow$TerraceReader", "readHouseAndOwner", "(LWardrobeRow$Tape;I)Z"⟩, 2), (⟨"WardrobeRow$TerraceReader", "readPassage", "(LWardrobeRow$Tape;Z)Z"⟩, 2), (⟨"WardrobeRow$TerraceReader", "readPlace", "(LWardrobeRow$Tape;)Z"⟩, 2), (⟨"WardrobeRow$TerraceReader", "readLeave", "(LWardrobeRow$Tape;)Z"⟩, 2), (⟨"WardrobeRow$TerraceReader", "readHeir", "(LWardrobeRow$Tape;)Z"⟩, 2), (⟨"WardrobeRow$TerraceReader", "readLiking", "(LWardrobeRow$Tape;)Z"⟩, 2), (⟨"WardrobeRow", "isOwner", "(I)Z"⟩, 17), (⟨"WardrobeRow", "isPassage", "(I)Z"⟩, 17), (⟨"WardrobeRow", "isRoom", "(I)Z"⟩, 17), (⟨"WardrobeRow$Past", "newest", "()LWardrobeRow$Deeds;"⟩, 3)]
theorem lw_r1 : ∀ q ∈ lw_privs_1, lw_okq q := List.forall_mem_cons.mpr ⟨lw_p0, List.forall_mem_cons.mpr ⟨lw_p1, List.forall_mem_cons.mpr ⟨lw_p2, List.forall_mem_cons.mpr ⟨lw_p3, List.forall_mem_cons.mpr ⟨lw_p4, List.forall_mem_cons.mpr ⟨lw_p5, List.forall_mem_cons.mpr ⟨lw_p6, List.forall_mem_cons.mpr ⟨lw_p7, List.forall_mem_cons.mpr ⟨lw_p8, List.forall_mem_cons.mpr ⟨lw_p9, List.forall_mem_cons.mpr ⟨lw_p10, List.forall_mem_cons.mpr ⟨lw_p11, List.forall_mem_cons.mpr ⟨lw_p12, List.forall_mem_cons.mpr ⟨lw_p13, List.forall_mem_cons.mpr ⟨lw_p14, List.forall_mem_cons.mpr ⟨lw_p15, fun _ h => absurd h List.not_mem_nil⟩⟩⟩⟩⟩⟩⟩⟩⟩⟩⟩⟩⟩⟩⟩⟩
theorem lw_p16 : lw_okq (⟨"WardrobeRow", "keptIfDone", "(I)I"⟩, 17) := ⟨⟨by decide +kernel, by decide +kernel⟩, List.mem_of_getElem? (i := 27) (by decide +kernel), List.mem_of_getElem? (i := 789) (by decide +kernel), List.mem_of_getElem? (i := 790) (by decide +kernel)⟩
theorem lw_p17 : lw_okq (⟨"WardrobeRow", "areTwoOwners", "(II)Z"⟩, 17) := ⟨⟨by decide +kernel, by decide +kernel⟩, List.mem_of_getElem? (i := 27) (by decide +kernel), List.mem_of_getElem? (i := 805) (by decide +kernel), List.mem_of_getElem? (i := 806) (by decide +kernel)⟩
theorem lw_p18 : lw_okq (⟨"WardrobeRow$Draws", "doDrawn", "(LWardrobeRow$Terrace;LWardrobeRow$Deeds;I)V"⟩, 1) := ⟨⟨by decide +kernel, by decide +kernel⟩, List.mem_of_getElem? (i := 439) (by decide +kernel), List.mem_of_getElem? (i := 888) (by decide +kernel), List.mem_of_getElem? (i := 889) (by decide +kernel)⟩
theorem lw_p19 : lw_okq (⟨"WardrobeRow$Draws", "draw", "(I)I"⟩, 1) := ⟨⟨by decide +kernel, by decide +kernel⟩, List.mem_of_getElem? (i := 439) (by decide +kernel), List.mem_of_getElem? (i := 892) (by decide +kernel), List.mem_of_getElem? (i := 893) (by decide +kernel)⟩
theorem lw_p20 : lw_okq (⟨"WardrobeRow$Ways", "layersTill", "(LWardrobeRow$Terrace;IIII)I"⟩, 6) := ⟨⟨by decide +kernel, by decide +kernel⟩, List.mem_of_getElem? (i := 362) (by decide +kernel), List.mem_of_getElem? (i := 925) (by decide +kernel), List.mem_of_getElem? (i := 926) (by decide +kernel)⟩
theorem lw_p21 : lw_okq (⟨"WardrobeRow$Ways", "leastPath", "(II)V"⟩, 6) := ⟨⟨by decide +kernel, by decide +kernel⟩, List.mem_of_getElem? (i := 362) (by decide +kernel), List.mem_of_getElem? (i := 929) (by decide +kernel), List.mem_of_getElem? (i := 930) (by decide +kernel)⟩
theorem lw_p22 : lw_okq (⟨"WardrobeRow", "isRowOfRooms", "()Z"⟩, 17) := ⟨⟨by decide +kernel, by decide +kernel⟩, List.mem_of_getElem? (i := 27) (by decide +kernel), List.mem_of_getElem? (i := 980) (by decide +kernel), List.mem_of_getElem? (i := 981) (by decide +kernel)⟩
theorem lw_p23 : lw_okq (⟨"WardrobeRow", "whoCanHaveWalked", "()I"⟩, 17) := ⟨⟨by decide +kernel, by decide +kernel⟩, List.mem_of_getElem? (i := 27) (by decide +kernel), List.mem_of_getElem? (i := 985) (by decide +kernel), List.mem_of_getElem? (i := 986) (by decide +kernel)⟩
theorem lw_p24 : lw_okq (⟨"WardrobeRow", "canHaveWalked", "(I)Z"⟩, 17) := ⟨⟨by decide +kernel, by decide +kernel⟩, List.mem_of_getElem? (i := 27) (by decide +kernel), List.mem_of_getElem? (i := 989) (by decide +kernel), List.mem_of_getElem? (i := 990) (by decide +kernel)⟩
theorem lw_p25 : lw_okq (⟨"WardrobeRow$Fires", "findsWay", "(LWardrobeRow$Terrace;LWardrobeRow$Deeds;I)Z"⟩, 2) := ⟨⟨by decide +kernel, by decide +kernel⟩, List.mem_of_getElem? (i := 390) (by decide +kernel), List.mem_of_getElem? (i := 1023) (by decide +kernel), List.mem_of_getElem? (i := 1024) (by decide +kernel)⟩
theorem lw_p26 : lw_okq (⟨"WardrobeRow$Fires", "takeWay", "(LWardrobeRow$Terrace;II)V"⟩, 2) := ⟨⟨by decide +kernel, by decide +kernel⟩, List.mem_of_getElem? (i := 390) (by decide +kernel), List.mem_of_getElem? (i := 1028) (by decide +kernel), List.mem_of_getElem? (i := 1029) (by decide +kernel)⟩
theorem lw_p27 : lw_okq (⟨"WardrobeRow$Market", "gather", "(LWardrobeRow$Terrace;LWardrobeRow$Deeds;)V"⟩, 8) := ⟨⟨by decide +kernel, by decide +kernel⟩, List.mem_of_getElem? (i := 403) (by decide +kernel), List.mem_of_getElem? (i := 1041) (by decide +kernel), List.mem_of_getElem? (i := 1042) (by decide +kernel)⟩
theorem lw_p28 : lw_okq (⟨"WardrobeRow$Market", "likedMost", "(LWardrobeRow$Terrace;II)I"⟩, 8) := ⟨⟨by decide +kernel, by decide +kernel⟩, List.mem_of_getElem? (i := 403) (by decide +kernel), List.mem_of_getElem? (i := 1049) (by decide +kernel), List.mem_of_getElem? (i := 1050) (by decide +kernel)⟩
theorem lw_p29 : lw_okq (⟨"WardrobeRow$Market", "closeRings", "()V"⟩, 8) := ⟨⟨by decide +kernel, by decide +kernel⟩, List.mem_of_getElem? (i := 403) (by decide +kernel), List.mem_of_getElem? (i := 1054) (by decide +kernel), List.mem_of_getElem? (i := 1055) (by decide +kernel)⟩
theorem lw_p30 : lw_okq (⟨"WardrobeRow$Market", "ringOf", "(I)I"⟩, 8) := ⟨⟨by decide +kernel, by decide +kernel⟩, List.mem_of_getElem? (i := 403) (by decide +kernel), List.mem_of_getElem? (i := 1058) (by decide +kernel), List.mem_of_getElem? (i := 1059) (by decide +kernel)⟩
theorem lw_p31 : lw_okq (⟨"WardrobeRow$Market", "choose", "(LWardrobeRow$Terrace;LWardrobeRow$Deeds;)V"⟩, 8) := ⟨⟨by decide +kernel, by decide +kernel⟩, List.mem_of_getElem? (i := 403) (by decide +kernel), List.mem_of_getElem? (i := 1076) (by decide +kernel), List.mem_of_getElem? (i := 1077) (by decide +kernel)⟩
def lw_privs_2 : List (MethodName × Nat) := [(⟨"WardrobeRow", "keptIfDone", "(I)I"⟩, 17), (⟨"WardrobeRow", "areTwoOwners", "(II)Z"⟩, 17), (⟨"WardrobeRow$Draws", "doDrawn", "(LWardrobeRow$Terrace;LWardrobeRow$Deeds;I)V"⟩, 1), (⟨"WardrobeRow$Draws", "draw", "(I)I"⟩, 1), (⟨"WardrobeRow$Ways", "layersTill", "(LWardrobeRow$Terrace;IIII)I"⟩, 6), (⟨"WardrobeRow$Ways", "leastPath", "(II)V"⟩, 6), (⟨"WardrobeRow", "isRowOfRooms", "()Z"⟩, 17), (⟨"WardrobeRow", "whoCanHaveWalked", "()I"⟩, 17), (⟨"WardrobeRow", "canHaveWalked", "(I)Z"⟩, 17), (⟨"WardrobeRow$Fires", "findsWay", "(LWardrobeRow$Terrace;LWardrobeRow$Deeds;I)Z"⟩, 2), (⟨"WardrobeRow$Fires", "takeWay", "(LWardrobeRow$Terrace;II)V"⟩, 2), (⟨"WardrobeRow$Market", "gather", "(LWardrobeRow$Terrace;LWardrobeRow$Deeds;)V"⟩, 8), (⟨"WardrobeRow$Market", "likedMost", "(LWardrobeRow$Terrace;II)I"⟩, 8), (⟨"WardrobeRow$Market", "closeRings", "()V"⟩, 8), (⟨"WardrobeRow$Market", "ringOf", "(I)I"⟩, 8), (⟨"WardrobeRow$Market", "choose", "(LWardrobeRow$Terrace;LWardrobeRow$Deeds;)V"⟩, 8)]
theorem lw_r2 : ∀ q ∈ lw_privs_2, lw_okq q := List.forall_mem_cons.mpr ⟨lw_p16, List.forall_mem_cons.mpr ⟨lw_p17, List.forall_mem_cons.mpr ⟨lw_p18, List.forall_mem_cons.mpr ⟨lw_p19, List.forall_mem_cons.mpr ⟨lw_p20, List.forall_mem_cons.mpr ⟨lw_p21, List.forall_mem_cons.mpr ⟨lw_p22, List.forall_mem_cons.mpr ⟨lw_p23, List.forall_mem_cons.mpr ⟨lw_p24, List.forall_mem_cons.mpr ⟨lw_p25, List.forall_mem_cons.mpr ⟨lw_p26, List.forall_mem_cons.mpr ⟨lw_p27, List.forall_mem_cons.mpr ⟨lw_p28, List.forall_mem_cons.mpr ⟨lw_p29, List.forall_mem_cons.mpr ⟨lw_p30, List.forall_mem_cons.mpr ⟨lw_p31, fun _ h => absurd h List.not_mem_nil⟩⟩⟩⟩⟩⟩⟩⟩⟩⟩⟩⟩⟩⟩⟩⟩
theorem lw_p32 : lw_okq (⟨"WardrobeRow$Market", "bestBuy", "(LWardrobeRow$Terrace;II)I"⟩, 8) := ⟨⟨by decide +kernel, by decide +kernel⟩, List.mem_of_getElem? (i := 403) (by decide +kernel), List.mem_of_getElem? (i := 1080) (by decide +kernel), List.mem_of_getElem? (i := 1081) (by decide +kernel)⟩
theorem lw_p33 : lw_okq (⟨"WardrobeRow$Market", "raisePrices", "()Z"⟩, 8) := ⟨⟨by decide +kernel, by decide +kernel⟩, List.mem_of_getElem? (i := 403) (by decide +kernel), List.mem_of_getElem? (i := 1084) (by decide +kernel), List.mem_of_getElem? (i := 1085) (by decide +kernel)⟩
theorem lw_p34 : lw_okq (⟨"WardrobeRow", "roomsAfterDeaths", "(I)I"⟩, 17) := ⟨⟨by decide +kernel, by decide +kernel⟩, List.mem_of_getElem? (i := 27) (by decide +kernel), List.mem_of_getElem? (i := 1100) (by decide +kernel), List.mem_of_getElem? (i := 1101) (by decide +kernel)⟩
theorem lw_p35 : lw_okq (⟨"WardrobeRow", "hostsIn", "(I)I"⟩, 17) := ⟨⟨by decide +kernel, by decide +kernel⟩, List.mem_of_getElem? (i := 27) (by decide +kernel), List.mem_of_getElem? (i := 1113) (by decide +kernel), List.mem_of_getElem? (i := 1114) (by decide +kernel)⟩
theorem lw_p36 : lw_okq (⟨"WardrobeRow", "isLetByAll", "(II)Z"⟩, 17) := ⟨⟨by decide +kernel, by decide +kernel⟩, List.mem_of_getElem? (i := 27) (by decide +kernel), List.mem_of_getElem? (i := 1117) (by decide +kernel), List.mem_of_getElem? (i := 1118) (by decide +kernel)⟩
theorem lw_p37 : lw_okq (⟨"WardrobeRow", "isMixed", "(I)Z"⟩, 17) := ⟨⟨by decide +kernel, by decide +kernel⟩, List.mem_of_getElem? (i := 27) (by decide +kernel), List.mem_of_getElem? (i := 1129) (by decide +kernel), List.mem_of_getElem? (i := 1130) (by decide +kernel)⟩
theorem lw_p38 : lw_okq (⟨"WardrobeRow$Book", "readLine", "(LWardrobeRow$Tape;LWardrobeRow$Terrace;)Z"⟩, 10) := ⟨⟨by decide +kernel, by decide +kernel⟩, List.mem_of_getElem? (i := 320) (by decide +kernel), List.mem_of_getElem? (i := 1142) (by decide +kernel), List.mem_of_getElem? (i := 1143) (by decide +kernel)⟩
theorem lw_p39 : lw_okq (⟨"WardrobeRow$Book", "readEvent", "(LWardrobeRow$Tape;LWardrobeRow$Terrace;)Z"⟩, 10) := ⟨⟨by decide +kernel, by decide +kernel⟩, List.mem_of_getElem? (i := 320) (by decide +kernel), List.mem_of_getElem? (i := 1153) (by decide +kernel), List.mem_of_getElem? (i := 1154) (by decide +kernel)⟩
theorem lw_p40 : lw_okq (⟨"WardrobeRow$Book", "takeObject", "(LWardrobeRow$Tape;I)Z"⟩, 10) := ⟨⟨by decide +kernel, by decide +kernel⟩, List.mem_of_getElem? (i := 320) (by decide +kernel), List.mem_of_getElem? (i := 1157) (by decide +kernel), List.mem_of_getElem? (i := 1158) (by decide +kernel)⟩
theorem lw_p41 : lw_okq (⟨"WardrobeRow$Book", "readDeed", "(LWardrobeRow$Tape;LWardrobeRow$Terrace;)Z"⟩, 10) := ⟨⟨by decide +kernel, by decide +kernel⟩, List.mem_of_getElem? (i := 320) (by decide +kernel), List.mem_of_getElem? (i := 1162) (by decide +kernel), List.mem_of_getElem? (i := 1163) (by decide +kernel)⟩
theorem lw_p42 : lw_okq (⟨"WardrobeRow$Book", "takeBuyer", "(LWardrobeRow$Tape;I)Z"⟩, 10) := ⟨⟨by decide +kernel, by decide +kernel⟩, List.mem_of_getElem? (i := 320) (by decide +kernel), List.mem_of_getElem? (i := 1166) (by decide +kernel), List.mem_of_getElem? (i := 1167) (by decide +kernel)⟩
theorem lw_p43 : lw_okq (⟨"WardrobeRow$Book", "doneOrWhy", "(LWardrobeRow$Terrace;LWardrobeRow$Deeds;I)I"⟩, 10) := ⟨⟨by decide +kernel, by decide +kernel⟩, List.mem_of_getElem? (i := 320) (by decide +kernel), List.mem_of_getElem? (i := 1175) (by decide +kernel), List.mem_of_getElem? (i := 1176) (by decide +kernel)⟩
theorem lw_p44 : lw_okq (⟨"WardrobeRow$Sentence", "readCond", "(LWardrobeRow$Tape;LWardrobeRow$Terrace;I)Z"⟩, 5) := ⟨⟨by decide +kernel, by decide +kernel⟩, List.mem_of_getElem? (i := 278) (by decide +kernel), List.mem_of_getElem? (i := 1204) (by decide +kernel), List.mem_of_getElem? (i := 1205) (by decide +kernel)⟩
theorem lw_p45 : lw_okq (⟨"WardrobeRow$Sentence", "readOne", "(LWardrobeRow$Tape;LWardrobeRow$Terrace;I)Z"⟩, 5) := ⟨⟨by decide +kernel, by decide +kernel⟩, List.mem_of_getElem? (i := 278) (by decide +kernel), List.mem_of_getElem? (i := 1208) (by decide +kernel), List.mem_of_getElem? (i := 1209) (by decide +kernel)⟩
theorem lw_p46 : lw_okq (⟨"WardrobeRow$Sentence", "addWord", "(II)V"⟩, 5) := ⟨⟨by decide +kernel, by decide +kernel⟩, List.mem_of_getElem? (i := 278) (by decide +kernel), List.mem_of_getElem? (i := 1217) (by decide +kernel), List.mem_of_getElem? (i := 1218) (by decide +kernel)⟩
theorem lw_p47 : lw_okq (⟨"WardrobeRow$Sentence", "readName", "(LWardrobeRow$Tape;II)Z"⟩, 5) := ⟨⟨by decide +kernel, by decide +kernel⟩, List.mem_of_getElem? (i := 278) (by decide +kernel), List.mem_of_getElem? (i := 1222) (by decide +kernel), List.mem_of_getElem? (i := 1223) (by decide +kernel)⟩
def lw_privs_3 : List (MethodName × Nat) := [(⟨"WardrobeRow$Market", "bestBuy", "(LWardrobeRow$Terrace;II)I"⟩, 8), (⟨"WardrobeRow$Market", "raisePrices", "()Z"⟩, 8), (⟨"WardrobeRow", "roomsAfterDeaths", "(I)I"⟩, 17), (⟨"WardrobeRow", "hostsIn", "(I)I"⟩, 17), (⟨"WardrobeRow", "isLetByAll", "(II)Z"⟩, 17), (⟨"WardrobeRow", "isMixed", "(I)Z"⟩, 17), (⟨"WardrobeRow$Book", "readLine", "(LWardrobeRow$Tape;LWardrobeRow$Terrace;)Z"⟩, 10), (⟨"WardrobeRow$Book", "readEvent", "(LWardrobeRow$Tape;LWardrobeRow$Terrace;)Z"⟩, 10), (⟨"WardrobeRow$Book", "takeObject", "(LWardrobeRow$Tape;I)Z"⟩, 10), (⟨"WardrobeRow$Book", "readDeed", "(LWardrobeRow$Tape;LWardrobeRow$Terrace;)Z"⟩, 10), (⟨"WardrobeRow$Book", "takeBuyer", "(LWardrobeRow$Tape;I)Z"⟩, 10), (⟨"WardrobeRow$Book", "doneOrWhy", "(LWardrobeRow$Terrace;LWardrobeRow$Deeds;I)I"⟩, 10), (⟨"WardrobeRow$Sentence", "readCond", "(LWardrobeRow$Tape;LWardrobeRow$Terrace;I)Z"⟩, 5), (⟨"WardrobeRow$Sentence", "readOne", "(LWardrobeRow$Tape;LWardrobeRow$Terrace;I)Z"⟩, 5), (⟨"WardrobeRow$Sentence", "addWord", "(II)V"⟩, 5), (⟨"WardrobeRow$Sentence", "readName", "(LWardrobeRow$Tape;II)Z"⟩, 5)]
theorem lw_r3 : ∀ q ∈ lw_privs_3, lw_okq q := List.forall_mem_cons.mpr ⟨lw_p32, List.forall_mem_cons.mpr ⟨lw_p33, List.forall_mem_cons.mpr ⟨lw_p34, List.forall_mem_cons.mpr ⟨lw_p35, List.forall_mem_cons.mpr ⟨lw_p36, List.forall_mem_cons.mpr ⟨lw_p37, List.forall_mem_cons.mpr ⟨lw_p38, List.forall_mem_cons.mpr ⟨lw_p39, List.forall_mem_cons.mpr ⟨lw_p40, List.forall_mem_cons.mpr ⟨lw_p41, List.forall_mem_cons.mpr ⟨lw_p42, List.forall_mem_cons.mpr ⟨lw_p43, List.forall_mem_cons.mpr ⟨lw_p44, List.forall_mem_cons.mpr ⟨lw_p45, List.forall_mem_cons.mpr ⟨lw_p46, List.forall_mem_cons.mpr ⟨lw_p47, fun _ h => absurd h List.not_mem_nil⟩⟩⟩⟩⟩⟩⟩⟩⟩⟩⟩⟩⟩⟩⟩⟩
theorem lw_p48 : lw_okq (⟨"WardrobeRow$Sentence", "readMeasure", "(LWardrobeRow$Tape;I)Z"⟩, 5) := ⟨⟨by decide +kernel, by decide +kernel⟩, List.mem_of_getElem? (i := 278) (by decide +kernel), List.mem_of_getElem? (i := 1226) (by decide +kernel), List.mem_of_getElem? (i := 1227) (by decide +kernel)⟩
theorem lw_p49 : lw_okq (⟨"java/lang/Throwable", "fillInStackTrace", "(I)Ljava/lang/Throwable;"⟩, 6) := ⟨⟨by decide +kernel, by decide +kernel⟩, List.mem_of_getElem? (i := 1330) (by decide +kernel), List.mem_of_getElem? (i := 1328) (by decide +kernel), List.mem_of_getElem? (i := 1329) (by decide +kernel)⟩
theorem lw_p50 : lw_okq (⟨"WardrobeRowModel", "four", "(I)V"⟩, 55) := ⟨⟨by decide +kernel, by decide +kernel⟩, List.mem_of_getElem? (i := 1371) (by decide +kernel), List.mem_of_getElem? (i := 1369) (by decide +kernel), List.mem_of_getElem? (i := 1370) (by decide +kernel)⟩
theorem lw_p51 : lw_okq (⟨"WardrobeRowModel", "taken", "(I)V"⟩, 55) := ⟨⟨by decide +kernel, by decide +kernel⟩, List.mem_of_getElem? (i := 1371) (by decide +kernel), List.mem_of_getElem? (i := 1584) (by decide +kernel), List.mem_of_getElem? (i := 1585) (by decide +kernel)⟩
theorem lw_p52 : lw_okq (⟨"WardrobeRowModel", "skip", "()V"⟩, 55) := ⟨⟨by decide +kernel, by decide +kernel⟩, List.mem_of_getElem? (i := 1371) (by decide +kernel), List.mem_of_getElem? (i := 1588) (by decide +kernel), List.mem_of_getElem? (i := 1589) (by decide +kernel)⟩
theorem lw_p53 : lw_okq (⟨"WardrobeRowModel", "peek", "()I"⟩, 55) := ⟨⟨by decide +kernel, by decide +kernel⟩, List.mem_of_getElem? (i := 1371) (by decide +kernel), List.mem_of_getElem? (i := 1592) (by decide +kernel), List.mem_of_getElem? (i := 1593) (by decide +kernel)⟩
theorem lw_p54 : lw_okq (⟨"WardrobeRowModel", "line", "()Z"⟩, 55) := ⟨⟨by decide +kernel, by decide +kernel⟩, List.mem_of_getElem? (i := 1371) (by decide +kernel), List.mem_of_getElem? (i := 1602) (by decide +kernel), List.mem_of_getElem? (i := 1603) (by decide +kernel)⟩
theorem lw_p55 : lw_okq (⟨"WardrobeRowModel", "isWord", "(J)Z"⟩, 55) := ⟨⟨by decide +kernel, by decide +kernel⟩, List.mem_of_getElem? (i := 1371) (by decide +kernel), List.mem_of_getElem? (i := 1606) (by decide +kernel), List.mem_of_getElem? (i := 1607) (by decide +kernel)⟩
theorem lw_p56 : lw_okq (⟨"WardrobeRowModel", "bad", "(I)Z"⟩, 55) := ⟨⟨by decide +kernel, by decide +kernel⟩, List.mem_of_getElem? (i := 1371) (by decide +kernel), List.mem_of_getElem? (i := 1610) (by decide +kernel), List.mem_of_getElem? (i := 1611) (by decide +kernel)⟩
theorem lw_p57 : lw_okq (⟨"WardrobeRowModel", "fresh", "(I)Z"⟩, 55) := ⟨⟨by decide +kernel, by decide +kernel⟩, List.mem_of_getElem? (i := 1371) (by decide +kernel), List.mem_of_getElem? (i := 1614) (by decide +kernel), List.mem_of_getElem? (i := 1615) (by decide +kernel)⟩
theorem lw_p58 : lw_okq (⟨"WardrobeRowModel", "isName", "()Z"⟩, 55) := ⟨⟨by decide +kernel, by decide +kernel⟩, List.mem_of_getElem? (i := 1371) (by decide +kernel), List.mem_of_getElem? (i := 1618) (by decide +kernel), List.mem_of_getElem? (i := 1619) (by decide +kernel)⟩
theorem lw_p59 : lw_okq (⟨"WardrobeRowModel", "find", "(II)I"⟩, 55) := ⟨⟨by decide +kernel, by decide +kernel⟩, List.mem_of_getElem? (i := 1371) (by decide +kernel), List.mem_of_getElem? (i := 1622) (by decide +kernel), List.mem_of_getElem? (i := 1623) (by decide +kernel)⟩
theorem lw_p60 : lw_okq (⟨"WardrobeRowModel", "takesName", "(II)Z"⟩, 55) := ⟨⟨by decide +kernel, by decide +kernel⟩, List.mem_of_getElem? (i := 1371) (by decide +kernel), List.mem_of_getElem? (i := 1626) (by decide +kernel), List.mem_of_getElem? (i := 1627) (by decide +kernel)⟩
theorem lw_p61 : lw_okq (⟨"WardrobeRowModel", "looksAt", "(II)Z"⟩, 55) := ⟨⟨by decide +kernel, by decide +kernel⟩, List.mem_of_getElem? (i := 1371) (by decide +kernel), List.mem_of_getElem? (i := 1630) (by decide +kernel), List.mem_of_getElem? (i := 1631) (by decide +kernel)⟩
theorem lw_p62 : lw_okq (⟨"WardrobeRowModel", "readPassage", "(I)Z"⟩, 55) := ⟨⟨by decide +kernel, by decide +kernel⟩, List.mem_of_getElem? (i := 1371) (by decide +kernel), List.mem_of_getElem? (i := 1634) (by decide +kernel), List.mem_of_getElem? (i := 1635) (by decide +kernel)⟩
theorem lw_p63 : lw_okq (⟨"WardrobeRowModel", "readOwner", "(II)Z"⟩, 55) := ⟨⟨by decide +kernel, by decide +kernel⟩, List.mem_of_getElem? (i := 1371) (by decide +kernel), List.mem_of_getElem? (i := 1638) (by decide +kernel), List.mem_of_getElem? (i := 1639) (by decide +kernel)⟩
def lw_privs_4 : List (MethodName × Nat) := [(⟨"WardrobeRow$Sentence", "readMeasure", "(LWardrobeRow$Tape;I)Z"⟩, 5), (⟨"java/lang/Throwable", "fillInStackTrace", "(I)Ljava/lang/Throwable;"⟩, 6), (⟨"WardrobeRowModel", "four", "(I)V"⟩, 55), (⟨"WardrobeRowModel", "taken", "(I)V"⟩, 55), (⟨"WardrobeRowModel", "skip", "()V"⟩, 55), (⟨"WardrobeRowModel", "peek", "()I"⟩, 55), (⟨"WardrobeRowModel", "line", "()Z"⟩, 55), (⟨"WardrobeRowModel", "isWord", "(J)Z"⟩, 55), (⟨"WardrobeRowModel", "bad", "(I)Z"⟩, 55), (⟨"WardrobeRowModel", "fresh", "(I)Z"⟩, 55), (⟨"WardrobeRowModel", "isName", "()Z"⟩, 55), (⟨"WardrobeRowModel", "find", "(II)I"⟩, 55), (⟨"WardrobeRowModel", "takesName", "(II)Z"⟩, 55), (⟨"WardrobeRowModel", "looksAt", "(II)Z"⟩, 55), (⟨"WardrobeRowModel", "readPassage", "(I)Z"⟩, 55), (⟨"WardrobeRowModel", "readOwner", "(II)Z"⟩, 55)]
theorem lw_r4 : ∀ q ∈ lw_privs_4, lw_okq q := List.forall_mem_cons.mpr ⟨lw_p48, List.forall_mem_cons.mpr ⟨lw_p49, List.forall_mem_cons.mpr ⟨lw_p50, List.forall_mem_cons.mpr ⟨lw_p51, List.forall_mem_cons.mpr ⟨lw_p52, List.forall_mem_cons.mpr ⟨lw_p53, List.forall_mem_cons.mpr ⟨lw_p54, List.forall_mem_cons.mpr ⟨lw_p55, List.forall_mem_cons.mpr ⟨lw_p56, List.forall_mem_cons.mpr ⟨lw_p57, List.forall_mem_cons.mpr ⟨lw_p58, List.forall_mem_cons.mpr ⟨lw_p59, List.forall_mem_cons.mpr ⟨lw_p60, List.forall_mem_cons.mpr ⟨lw_p61, List.forall_mem_cons.mpr ⟨lw_p62, List.forall_mem_cons.mpr ⟨lw_p63, fun _ h => absurd h List.not_mem_nil⟩⟩⟩⟩⟩⟩⟩⟩⟩⟩⟩⟩⟩⟩⟩⟩
theorem lw_p64 : lw_okq (⟨"WardrobeRowModel", "readRoom", "(II)Z"⟩, 55) := ⟨⟨by decide +kernel, by decide +kernel⟩, List.mem_of_getElem? (i := 1371) (by decide +kernel), List.mem_of_getElem? (i := 1645) (by decide +kernel), List.mem_of_getElem? (i := 1646) (by decide +kernel)⟩
theorem lw_p65 : lw_okq (⟨"WardrobeRowModel", "takes", "(II)Z"⟩, 55) := ⟨⟨by decide +kernel, by decide +kernel⟩, List.mem_of_getElem? (i := 1371) (by decide +kernel), List.mem_of_getElem? (i := 1649) (by decide +kernel), List.mem_of_getElem? (i := 1650) (by decide +kernel)⟩
theorem lw_p66 : lw_okq (⟨"WardrobeRowModel", "sign", "(I)Z"⟩, 55) := ⟨⟨by decide +kernel, by decide +kernel⟩, List.mem_of_getElem? (i := 1371) (by decide +kernel), List.mem_of_getElem? (i := 1656) (by decide +kernel), List.mem_of_getElem? (i := 1657) (by decide +kernel)⟩
theorem lw_p67 : lw_okq (⟨"WardrobeRowModel", "isSign", "(I)Z"⟩, 55) := ⟨⟨by decide +kernel, by decide +kernel⟩, List.mem_of_getElem? (i := 1371) (by decide +kernel), List.mem_of_getElem? (i := 1660) (by decide +kernel), List.mem_of_getElem? (i := 1661) (by decide +kernel)⟩
theorem lw_p68 : lw_okq (⟨"WardrobeRowModel", "isRoom", "(I)Z"⟩, 55) := ⟨⟨by decide +kernel, by decide +kernel⟩, List.mem_of_getElem? (i := 1371) (by decide +kernel), List.mem_of_getElem? (i := 1672) (by decide +kernel), List.mem_of_getElem? (i := 1673) (by decide +kernel)⟩
theorem lw_p69 : lw_okq (⟨"WardrobeRowModel", "throwsIf", "(Z)Z"⟩, 55) := ⟨⟨by decide +kernel, by decide +kernel⟩, List.mem_of_getElem? (i := 1371) (by decide +kernel), List.mem_of_getElem? (i := 1676) (by decide +kernel), List.mem_of_getElem? (i := 1677) (by decide +kernel)⟩
theorem lw_p70 : lw_okq (⟨"WardrobeRowModel", "isBurnt", "(I)Z"⟩, 55) := ⟨⟨by decide +kernel, by decide +kernel⟩, List.mem_of_getElem? (i := 1371) (by decide +kernel), List.mem_of_getElem? (i := 1680) (by decide +kernel), List.mem_of_getElem? (i := 1681) (by decide +kernel)⟩
theorem lw_p71 : lw_okq (⟨"WardrobeRowModel", "peopleIn", "(I)I"⟩, 55) := ⟨⟨by decide +kernel, by decide +kernel⟩, List.mem_of_getElem? (i := 1371) (by decide +kernel), List.mem_of_getElem? (i := 1684) (by decide +kernel), List.mem_of_getElem? (i := 1685) (by decide +kernel)⟩
theorem lw_p72 : lw_okq (⟨"WardrobeRowModel", "passagesOf", "(I)I"⟩, 55) := ⟨⟨by decide +kernel, by decide +kernel⟩, List.mem_of_getElem? (i := 1371) (by decide +kernel), List.mem_of_getElem? (i := 1688) (by decide +kernel), List.mem_of_getElem? (i := 1689) (by decide +kernel)⟩
theorem lw_p73 : lw_okq (⟨"WardrobeRowModel", "isOwner", "(I)Z"⟩, 55) := ⟨⟨by decide +kernel, by decide +kernel⟩, List.mem_of_getElem? (i := 1371) (by decide +kernel), List.mem_of_getElem? (i := 1696) (by decide +kernel), List.mem_of_getElem? (i := 1697) (by decide +kernel)⟩
theorem lw_p74 : lw_okq (⟨"WardrobeRowModel", "isDead", "(I)Z"⟩, 55) := ⟨⟨by decide +kernel, by decide +kernel⟩, List.mem_of_getElem? (i := 1371) (by decide +kernel), List.mem_of_getElem? (i := 1700) (by decide +kernel), List.mem_of_getElem? (i := 1701) (by decide +kernel)⟩
theorem lw_p75 : lw_okq (⟨"WardrobeRowModel", "roomsOf", "(I)I"⟩, 55) := ⟨⟨by decide +kernel, by decide +kernel⟩, List.mem_of_getElem? (i := 1371) (by decide +kernel), List.mem_of_getElem? (i := 1704) (by decide +kernel), List.mem_of_getElem? (i := 1705) (by decide +kernel)⟩
theorem lw_p76 : lw_okq (⟨"WardrobeRowModel", "isPassage", "(I)Z"⟩, 55) := ⟨⟨by decide +kernel, by decide +kernel⟩, List.mem_of_getElem? (i := 1371) (by decide +kernel), List.mem_of_getElem? (i := 1712) (by decide +kernel), List.mem_of_getElem? (i := 1713) (by decide +kernel)⟩
theorem lw_p77 : lw_okq (⟨"WardrobeRowModel", "whyGo", "(II)I"⟩, 55) := ⟨⟨by decide +kernel, by decide +kernel⟩, List.mem_of_getElem? (i := 1371) (by decide +kernel), List.mem_of_getElem? (i := 1724) (by decide +kernel), List.mem_of_getElem? (i := 1725) (by decide +kernel)⟩
theorem lw_p78 : lw_okq (⟨"WardrobeRowModel", "besides", "(I)I"⟩, 55) := ⟨⟨by decide +kernel, by decide +kernel⟩, List.mem_of_getElem? (i := 1371) (by decide +kernel), List.mem_of_getElem? (i := 1728) (by decide +kernel), List.mem_of_getElem? (i := 1729) (by decide +kernel)⟩
theorem lw_p79 : lw_okq (⟨"WardrobeRowModel", "hasLeave", "(II)Z"⟩, 55) := ⟨⟨by decide +kernel, by decide +kernel⟩, List.mem_of_getElem? (i := 1371) (by decide +kernel), List.mem_of_getElem? (i := 1732) (by decide +kernel), List.mem_of_getElem? (i := 1733) (by decide +kernel)⟩
def lw_privs_5 : List (MethodName × Nat) := [(⟨"WardrobeRowModel", "readRoom", "(II)Z"⟩, 55), (⟨"WardrobeRowModel", "takes", "(II)Z"⟩, 55), (⟨"WardrobeRowModel", "sign", "(I)Z"⟩, 55), (⟨"WardrobeRowModel", "isSign", "(I)Z"⟩, 55), (⟨"WardrobeRowModel", "isRoom", "(I)Z"⟩, 55), (⟨"WardrobeRowModel", "throwsIf", "(Z)Z"⟩, 55), (⟨"WardrobeRowModel", "isBurnt", "(I)Z"⟩, 55), (⟨"WardrobeRowModel", "peopleIn", "(I)I"⟩, 55), (⟨"WardrobeRowModel", "passagesOf", "(I)I"⟩, 55), (⟨"WardrobeRowModel", "isOwner", "(I)Z"⟩, 55), (⟨"WardrobeRowModel", "isDead", "(I)Z"⟩, 55), (⟨"WardrobeRowModel", "roomsOf", "(I)I"⟩, 55), (⟨"WardrobeRowModel", "isPassage", "(I)Z"⟩, 55), (⟨"WardrobeRowModel", "whyGo", "(II)I"⟩, 55), (⟨"WardrobeRowModel", "besides", "(I)I"⟩, 55), (⟨"WardrobeRowModel", "hasLeave", "(II)Z"⟩, 55)]
theorem lw_r5 : ∀ q ∈ lw_privs_5, lw_okq q := List.forall_mem_cons.mpr ⟨lw_p64, List.forall_mem_cons.mpr ⟨lw_p65, List.forall_mem_cons.mpr ⟨lw_p66, List.forall_mem_cons.mpr ⟨lw_p67, List.forall_mem_cons.mpr ⟨lw_p68, List.forall_mem_cons.mpr ⟨lw_p69, List.forall_mem_cons.mpr ⟨lw_p70, List.forall_mem_cons.mpr ⟨lw_p71, List.forall_mem_cons.mpr ⟨lw_p72, List.forall_mem_cons.mpr ⟨lw_p73, List.forall_mem_cons.mpr ⟨lw_p74, List.forall_mem_cons.mpr ⟨lw_p75, List.forall_mem_cons.mpr ⟨lw_p76, List.forall_mem_cons.mpr ⟨lw_p77, List.forall_mem_cons.mpr ⟨lw_p78, List.forall_mem_cons.mpr ⟨lw_p79, fun _ h => absurd h List.not_mem_nil⟩⟩⟩⟩⟩⟩⟩⟩⟩⟩⟩⟩⟩⟩⟩⟩
theorem lw_p80 : lw_okq (⟨"WardrobeRowModel", "keep", "()V"⟩, 55) := ⟨⟨by decide +kernel, by decide +kernel⟩, List.mem_of_getElem? (i := 1371) (by decide +kernel), List.mem_of_getElem? (i := 1736) (by decide +kernel), List.mem_of_getElem? (i := 1737) (by decide +kernel)⟩
theorem lw_p81 : lw_okq (⟨"WardrobeRowModel", "goes", "(II)V"⟩, 55) := ⟨⟨by decide +kernel, by decide +kernel⟩, List.mem_of_getElem? (i := 1371) (by decide +kernel), List.mem_of_getElem? (i := 1740) (by decide +kernel), List.mem_of_getElem? (i := 1741) (by decide +kernel)⟩
theorem lw_p82 : lw_okq (⟨"WardrobeRowModel", "areTwo", "(II)Z"⟩, 55) := ⟨⟨by decide +kernel, by decide +kernel⟩, List.mem_of_getElem? (i := 1371) (by decide +kernel), List.mem_of_getElem? (i := 1752) (by decide +kernel), List.mem_of_getElem? (i := 1753) (by decide +kernel)⟩
theorem lw_p83 : lw_okq (⟨"WardrobeRowModel", "whySell", "(III)I"⟩, 55) := ⟨⟨by decide +kernel, by decide +kernel⟩, List.mem_of_getElem? (i := 1371) (by decide +kernel), List.mem_of_getElem? (i := 1756) (by decide +kernel), List.mem_of_getElem? (i := 1757) (by decide +kernel)⟩
theorem lw_p84 : lw_okq (⟨"WardrobeRowModel", "sells", "(II)V"⟩, 55) := ⟨⟨by decide +kernel, by decide +kernel⟩, List.mem_of_getElem? (i := 1371) (by decide +kernel), List.mem_of_getElem? (i := 1760) (by decide +kernel), List.mem_of_getElem? (i := 1761) (by decide +kernel)⟩
theorem lw_p85 : lw_okq (⟨"WardrobeRowModel", "whyLet", "(III)I"⟩, 55) := ⟨⟨by decide +kernel, by decide +kernel⟩, List.mem_of_getElem? (i := 1371) (by decide +kernel), List.mem_of_getElem? (i := 1768) (by decide +kernel), List.mem_of_getElem? (i := 1769) (by decide +kernel)⟩
theorem lw_p86 : lw_okq (⟨"WardrobeRowModel", "whyWill", "(II)I"⟩, 55) := ⟨⟨by decide +kernel, by decide +kernel⟩, List.mem_of_getElem? (i := 1371) (by decide +kernel), List.mem_of_getElem? (i := 1776) (by decide +kernel), List.mem_of_getElem? (i := 1777) (by decide +kernel)⟩
theorem lw_p87 : lw_okq (⟨"WardrobeRowModel", "dies", "(I)V"⟩, 55) := ⟨⟨by decide +kernel, by decide +kernel⟩, List.mem_of_getElem? (i := 1371) (by decide +kernel), List.mem_of_getElem? (i := 1784) (by decide +kernel), List.mem_of_getElem? (i := 1785) (by decide +kernel)⟩
theorem lw_p88 : lw_okq (⟨"WardrobeRowModel", "heirOf", "(I)I"⟩, 55) := ⟨⟨by decide +kernel, by decide +kernel⟩, List.mem_of_getElem? (i := 1371) (by decide +kernel), List.mem_of_getElem? (i := 1788) (by decide +kernel), List.mem_of_getElem? (i := 1789) (by decide +kernel)⟩
theorem lw_p89 : lw_okq (⟨"WardrobeRowModel", "whyShut", "(II)I"⟩, 55) := ⟨⟨by decide +kernel, by decide +kernel⟩, List.mem_of_getElem? (i := 1371) (by decide +kernel), List.mem_of_getElem? (i := 1796) (by decide +kernel), List.mem_of_getElem? (i := 1797) (by decide +kernel)⟩
theorem lw_p90 : lw_okq (⟨"WardrobeRowModel", "burns", "(I)V"⟩, 55) := ⟨⟨by decide +kernel, by decide +kernel⟩, List.mem_of_getElem? (i := 1371) (by decide +kernel), List.mem_of_getElem? (i := 1804) (by decide +kernel), List.mem_of_getElem? (i := 1805) (by decide +kernel)⟩
theorem lw_p91 : lw_okq (⟨"WardrobeRowModel", "areMinutes", "(I)Z"⟩, 55) := ⟨⟨by decide +kernel, by decide +kernel⟩, List.mem_of_getElem? (i := 1371) (by decide +kernel), List.mem_of_getElem? (i := 1812) (by decide +kernel), List.mem_of_getElem? (i := 1813) (by decide +kernel)⟩
theorem lw_p92 : lw_okq (⟨"WardrobeRowModel", "minute", "()V"⟩, 55) := ⟨⟨by decide +kernel, by decide +kernel⟩, List.mem_of_getElem? (i := 1371) (by decide +kernel), List.mem_of_getElem? (i := 1816) (by decide +kernel), List.mem_of_getElem? (i := 1817) (by decide +kernel)⟩
theorem lw_p93 : lw_okq (⟨"WardrobeRowModel", "catching", "()I"⟩, 55) := ⟨⟨by decide +kernel, by decide +kernel⟩, List.mem_of_getElem? (i := 1371) (by decide +kernel), List.mem_of_getElem? (i := 1820) (by decide +kernel), List.mem_of_getElem? (i := 1821) (by decide +kernel)⟩
theorem lw_p94 : lw_okq (⟨"WardrobeRowModel", "wayOf", "(II)I"⟩, 55) := ⟨⟨by decide +kernel, by decide +kernel⟩, List.mem_of_getElem? (i := 1371) (by decide +kernel), List.mem_of_getElem? (i := 1832) (by decide +kernel), List.mem_of_getElem? (i := 1833) (by decide +kernel)⟩
theorem lw_p95 : lw_okq (⟨"WardrobeRowModel", "canEnter", "(II)Z"⟩, 55) := ⟨⟨by decide +kernel, by decide +kernel⟩, List.mem_of_getElem? (i := 1371) (by decide +kernel), List.mem_of_getElem? (i := 1836) (by decide +kernel), List.mem_of_getElem? (i := 1837) (by decide +kernel)⟩
def lw_privs_6 : List (MethodName × Nat) := [(⟨"WardrobeRowModel", "keep", "()V"⟩, 55), (⟨"WardrobeRowModel", "goes", "(II)V"⟩, 55), (⟨"WardrobeRowModel", "areTwo", "(II)Z"⟩, 55), (⟨"WardrobeRowModel", "whySell", "(III)I"⟩, 55), (⟨"WardrobeRowModel", "sells", "(II)V"⟩, 55), (⟨"WardrobeRowModel", "whyLet", "(III)I"⟩, 55), (⟨"WardrobeRowModel", "whyWill", "(II)I"⟩, 55), (⟨"WardrobeRowModel", "dies", "(I)V"⟩, 55), (⟨"WardrobeRowModel", "heirOf", "(I)I"⟩, 55), (⟨"WardrobeRowModel", "whyShut", "(II)I"⟩, 55), (⟨"WardrobeRowModel", "burns", "(I)V"⟩, 55), (⟨"WardrobeRowModel", "areMinutes", "(I)Z"⟩, 55), (⟨"WardrobeRowModel", "minute", "()V"⟩, 55), (⟨"WardrobeRowModel", "catching", "()I"⟩, 55), (⟨"WardrobeRowModel", "wayOf", "(II)I"⟩, 55), (⟨"WardrobeRowModel", "canEnter", "(II)Z"⟩, 55)]
theorem lw_r6 : ∀ q ∈ lw_privs_6, lw_okq q := List.forall_mem_cons.mpr ⟨lw_p80, List.forall_mem_cons.mpr ⟨lw_p81, List.forall_mem_cons.mpr ⟨lw_p82, List.forall_mem_cons.mpr ⟨lw_p83, List.forall_mem_cons.mpr ⟨lw_p84, List.forall_mem_cons.mpr ⟨lw_p85, List.forall_mem_cons.mpr ⟨lw_p86, List.forall_mem_cons.mpr ⟨lw_p87, List.forall_mem_cons.mpr ⟨lw_p88, List.forall_mem_cons.mpr ⟨lw_p89, List.forall_mem_cons.mpr ⟨lw_p90, List.forall_mem_cons.mpr ⟨lw_p91, List.forall_mem_cons.mpr ⟨lw_p92, List.forall_mem_cons.mpr ⟨lw_p93, List.forall_mem_cons.mpr ⟨lw_p94, List.forall_mem_cons.mpr ⟨lw_p95, fun _ h => absurd h List.not_mem_nil⟩⟩⟩⟩⟩⟩⟩⟩⟩⟩⟩⟩⟩⟩⟩⟩
theorem lw_p96 : lw_okq (⟨"WardrobeRowModel", "spreads", "(II)V"⟩, 55) := ⟨⟨by decide +kernel, by decide +kernel⟩, List.mem_of_getElem? (i := 1371) (by decide +kernel), List.mem_of_getElem? (i := 1840) (by decide +kernel), List.mem_of_getElem? (i := 1841) (by decide +kernel)⟩
theorem lw_p97 : lw_okq (⟨"WardrobeRowModel", "tries", "()V"⟩, 55) := ⟨⟨by decide +kernel, by decide +kernel⟩, List.mem_of_getElem? (i := 1371) (by decide +kernel), List.mem_of_getElem? (i := 1856) (by decide +kernel), List.mem_of_getElem? (i := 1857) (by decide +kernel)⟩
theorem lw_p98 : lw_okq (⟨"WardrobeRowModel", "back", "()V"⟩, 55) := ⟨⟨by decide +kernel, by decide +kernel⟩, List.mem_of_getElem? (i := 1371) (by decide +kernel), List.mem_of_getElem? (i := 1863) (by decide +kernel), List.mem_of_getElem? (i := 1864) (by decide +kernel)⟩
theorem lw_p99 : lw_okq (⟨"WardrobeRowModel", "burntIn", "(I)I"⟩, 55) := ⟨⟨by decide +kernel, by decide +kernel⟩, List.mem_of_getElem? (i := 1371) (by decide +kernel), List.mem_of_getElem? (i := 1879) (by decide +kernel), List.mem_of_getElem? (i := 1880) (by decide +kernel)⟩
theorem lw_p100 : lw_okq (⟨"WardrobeRowModel", "comesTo", "(I)Z"⟩, 55) := ⟨⟨by decide +kernel, by decide +kernel⟩, List.mem_of_getElem? (i := 1371) (by decide +kernel), List.mem_of_getElem? (i := 1891) (by decide +kernel), List.mem_of_getElem? (i := 1892) (by decide +kernel)⟩
theorem lw_p101 : lw_okq (⟨"WardrobeRowModel", "exchanges", "()V"⟩, 55) := ⟨⟨by decide +kernel, by decide +kernel⟩, List.mem_of_getElem? (i := 1371) (by decide +kernel), List.mem_of_getElem? (i := 1899) (by decide +kernel), List.mem_of_getElem? (i := 1900) (by decide +kernel)⟩
theorem lw_p102 : lw_okq (⟨"WardrobeRowModel", "pointsTo", "(II)I"⟩, 55) := ⟨⟨by decide +kernel, by decide +kernel⟩, List.mem_of_getElem? (i := 1371) (by decide +kernel), List.mem_of_getElem? (i := 1903) (by decide +kernel), List.mem_of_getElem? (i := 1904) (by decide +kernel)⟩
theorem lw_p103 : lw_okq (⟨"WardrobeRowModel", "likingOf", "(II)I"⟩, 55) := ⟨⟨by decide +kernel, by decide +kernel⟩, List.mem_of_getElem? (i := 1371) (by decide +kernel), List.mem_of_getElem? (i := 1907) (by decide +kernel), List.mem_of_getElem? (i := 1908) (by decide +kernel)⟩
theorem lw_p104 : lw_okq (⟨"WardrobeRowModel", "wantOf", "(I)I"⟩, 55) := ⟨⟨by decide +kernel, by decide +kernel⟩, List.mem_of_getElem? (i := 1371) (by decide +kernel), List.mem_of_getElem? (i := 1919) (by decide +kernel), List.mem_of_getElem? (i := 1920) (by decide +kernel)⟩
theorem lw_p105 : lw_okq (⟨"WardrobeRowModel", "octet", "(I)I"⟩, 55) := ⟨⟨by decide +kernel, by decide +kernel⟩, List.mem_of_getElem? (i := 1371) (by decide +kernel), List.mem_of_getElem? (i := 1935) (by decide +kernel), List.mem_of_getElem? (i := 1936) (by decide +kernel)⟩
theorem lw_p106 : lw_okq (⟨"WardrobeRowModel", "ownersIn", "(I)I"⟩, 55) := ⟨⟨by decide +kernel, by decide +kernel⟩, List.mem_of_getElem? (i := 1371) (by decide +kernel), List.mem_of_getElem? (i := 1951) (by decide +kernel), List.mem_of_getElem? (i := 1952) (by decide +kernel)⟩
theorem lw_p107 : lw_okq (⟨"WardrobeRowModel", "years", "(II)V"⟩, 55) := ⟨⟨by decide +kernel, by decide +kernel⟩, List.mem_of_getElem? (i := 1371) (by decide +kernel), List.mem_of_getElem? (i := 1963) (by decide +kernel), List.mem_of_getElem? (i := 1964) (by decide +kernel)⟩
theorem lw_p108 : lw_okq (⟨"WardrobeRowModel", "draws", "(I)V"⟩, 55) := ⟨⟨by decide +kernel, by decide +kernel⟩, List.mem_of_getElem? (i := 1371) (by decide +kernel), List.mem_of_getElem? (i := 1967) (by decide +kernel), List.mem_of_getElem? (i := 1968) (by decide +kernel)⟩
theorem lw_p109 : lw_okq (⟨"WardrobeRowModel", "draw", "(I)I"⟩, 55) := ⟨⟨by decide +kernel, by decide +kernel⟩, List.mem_of_getElem? (i := 1371) (by decide +kernel), List.mem_of_getElem? (i := 1971) (by decide +kernel), List.mem_of_getElem? (i := 1972) (by decide +kernel)⟩
theorem lw_p110 : lw_okq (⟨"WardrobeRowModel", "bookLine", "()Z"⟩, 55) := ⟨⟨by decide +kernel, by decide +kernel⟩, List.mem_of_getElem? (i := 1371) (by decide +kernel), List.mem_of_getElem? (i := 1984) (by decide +kernel), List.mem_of_getElem? (i := 1985) (by decide +kernel)⟩
theorem lw_p111 : lw_okq (⟨"WardrobeRowModel", "putsName", "(III)Z"⟩, 55) := ⟨⟨by decide +kernel, by decide +kernel⟩, List.mem_of_getElem? (i := 1371) (by decide +kernel), List.mem_of_getElem? (i := 1988) (by decide +kernel), List.mem_of_getElem? (i := 1989) (by decide +kernel)⟩
def lw_privs_7 : List (MethodName × Nat) := [(⟨"WardrobeRowModel", "spreads", "(II)V"⟩, 55), (⟨"WardrobeRowModel", "tries", "()V"⟩, 55), (⟨"WardrobeRowModel", "back", "()V"⟩, 55), (⟨"WardrobeRowModel", "burntIn", "(I)I"⟩, 55), (⟨"WardrobeRowModel", "comesTo", "(I)Z"⟩, 55), (⟨"WardrobeRowModel", "exchanges", "()V"⟩, 55), (⟨"WardrobeRowModel", "pointsTo", "(II)I"⟩, 55), (⟨"WardrobeRowModel", "likingOf", "(II)I"⟩, 55), (⟨"WardrobeRowModel", "wantOf", "(I)I"⟩, 55), (⟨"WardrobeRowModel", "octet", "(I)I"⟩, 55), (⟨"WardrobeRowModel", "ownersIn", "(I)I"⟩, 55), (⟨"WardrobeRowModel", "years", "(II)V"⟩, 55), (⟨"WardrobeRowModel", "draws", "(I)V"⟩, 55), (⟨"WardrobeRowModel", "draw", "(I)I"⟩, 55), (⟨"WardrobeRowModel", "bookLine", "()Z"⟩, 55), (⟨"WardrobeRowModel", "putsName", "(III)Z"⟩, 55)]
theorem lw_r7 : ∀ q ∈ lw_privs_7, lw_okq q := List.forall_mem_cons.mpr ⟨lw_p96, List.forall_mem_cons.mpr ⟨lw_p97, List.forall_mem_cons.mpr ⟨lw_p98, List.forall_mem_cons.mpr ⟨lw_p99, List.forall_mem_cons.mpr ⟨lw_p100, List.forall_mem_cons.mpr ⟨lw_p101, List.forall_mem_cons.mpr ⟨lw_p102, List.forall_mem_cons.mpr ⟨lw_p103, List.forall_mem_cons.mpr ⟨lw_p104, List.forall_mem_cons.mpr ⟨lw_p105, List.forall_mem_cons.mpr ⟨lw_p106, List.forall_mem_cons.mpr ⟨lw_p107, List.forall_mem_cons.mpr ⟨lw_p108, List.forall_mem_cons.mpr ⟨lw_p109, List.forall_mem_cons.mpr ⟨lw_p110, List.forall_mem_cons.mpr ⟨lw_p111, fun _ h => absurd h List.not_mem_nil⟩⟩⟩⟩⟩⟩⟩⟩⟩⟩⟩⟩⟩⟩⟩⟩
theorem lw_p112 : lw_okq (⟨"WardrobeRowModel", "whyLine", "(IIII)I"⟩, 55) := ⟨⟨by decide +kernel, by decide +kernel⟩, List.mem_of_getElem? (i := 1371) (by decide +kernel), List.mem_of_getElem? (i := 1992) (by decide +kernel), List.mem_of_getElem? (i := 1993) (by decide +kernel)⟩
theorem lw_p113 : lw_okq (⟨"WardrobeRowModel", "lives", "(IIII)V"⟩, 55) := ⟨⟨by decide +kernel, by decide +kernel⟩, List.mem_of_getElem? (i := 1371) (by decide +kernel), List.mem_of_getElem? (i := 1996) (by decide +kernel), List.mem_of_getElem? (i := 1997) (by decide +kernel)⟩
theorem lw_p114 : lw_okq (⟨"WardrobeRowModel", "nots", "()V"⟩, 55) := ⟨⟨by decide +kernel, by decide +kernel⟩, List.mem_of_getElem? (i := 1371) (by decide +kernel), List.mem_of_getElem? (i := 2008) (by decide +kernel), List.mem_of_getElem? (i := 2009) (by decide +kernel)⟩
theorem lw_p115 : lw_okq (⟨"WardrobeRowModel", "code", "(III)V"⟩, 55) := ⟨⟨by decide +kernel, by decide +kernel⟩, List.mem_of_getElem? (i := 1371) (by decide +kernel), List.mem_of_getElem? (i := 2012) (by decide +kernel), List.mem_of_getElem? (i := 2013) (by decide +kernel)⟩
theorem lw_p116 : lw_okq (⟨"WardrobeRowModel", "joins", "(I)V"⟩, 55) := ⟨⟨by decide +kernel, by decide +kernel⟩, List.mem_of_getElem? (i := 1371) (by decide +kernel), List.mem_of_getElem? (i := 2016) (by decide +kernel), List.mem_of_getElem? (i := 2017) (by decide +kernel)⟩
theorem lw_p117 : lw_okq (⟨"WardrobeRowModel", "behind", "()Z"⟩, 55) := ⟨⟨by decide +kernel, by decide +kernel⟩, List.mem_of_getElem? (i := 1371) (by decide +kernel), List.mem_of_getElem? (i := 2020) (by decide +kernel), List.mem_of_getElem? (i := 2021) (by decide +kernel)⟩
theorem lw_p118 : lw_okq (⟨"WardrobeRowModel", "operand", "()Z"⟩, 55) := ⟨⟨by decide +kernel, by decide +kernel⟩, List.mem_of_getElem? (i := 1371) (by decide +kernel), List.mem_of_getElem? (i := 2024) (by decide +kernel), List.mem_of_getElem? (i := 2025) (by decide +kernel)⟩
theorem lw_p119 : lw_okq (⟨"WardrobeRowModel", "leafOf", "()I"⟩, 55) := ⟨⟨by decide +kernel, by decide +kernel⟩, List.mem_of_getElem? (i := 1371) (by decide +kernel), List.mem_of_getElem? (i := 2028) (by decide +kernel), List.mem_of_getElem? (i := 2029) (by decide +kernel)⟩
theorem lw_p120 : lw_okq (⟨"WardrobeRowModel", "isSaid", "(I)Z"⟩, 55) := ⟨⟨by decide +kernel, by decide +kernel⟩, List.mem_of_getElem? (i := 1371) (by decide +kernel), List.mem_of_getElem? (i := 2036) (by decide +kernel), List.mem_of_getElem? (i := 2037) (by decide +kernel)⟩
theorem lw_p121 : lw_okq (⟨"WardrobeRowModel", "isLeaf", "(IIII)Z"⟩, 55) := ⟨⟨by decide +kernel, by decide +kernel⟩, List.mem_of_getElem? (i := 1371) (by decide +kernel), List.mem_of_getElem? (i := 2040) (by decide +kernel), List.mem_of_getElem? (i := 2041) (by decide +kernel)⟩
theorem lw_p122 : lw_okq (⟨"WardrobeRowModel", "worthOf", "(I)I"⟩, 55) := ⟨⟨by decide +kernel, by decide +kernel⟩, List.mem_of_getElem? (i := 1371) (by decide +kernel), List.mem_of_getElem? (i := 2044) (by decide +kernel), List.mem_of_getElem? (i := 2045) (by decide +kernel)⟩
def lw_privs_8 : List (MethodName × Nat) := [(⟨"WardrobeRowModel", "whyLine", "(IIII)I"⟩, 55), (⟨"WardrobeRowModel", "lives", "(IIII)V"⟩, 55), (⟨"WardrobeRowModel", "nots", "()V"⟩, 55), (⟨"WardrobeRowModel", "code", "(III)V"⟩, 55), (⟨"WardrobeRowModel", "joins", "(I)V"⟩, 55), (⟨"WardrobeRowModel", "behind", "()Z"⟩, 55), (⟨"WardrobeRowModel", "operand", "()Z"⟩, 55), (⟨"WardrobeRowModel", "leafOf", "()I"⟩, 55), (⟨"WardrobeRowModel", "isSaid", "(I)Z"⟩, 55), (⟨"WardrobeRowModel", "isLeaf", "(IIII)Z"⟩, 55), (⟨"WardrobeRowModel", "worthOf", "(I)I"⟩, 55)]
theorem lw_r8 : ∀ q ∈ lw_privs_8, lw_okq q := List.forall_mem_cons.mpr ⟨lw_p112, List.forall_mem_cons.mpr ⟨lw_p113, List.forall_mem_cons.mpr ⟨lw_p114, List.forall_mem_cons.mpr ⟨lw_p115, List.forall_mem_cons.mpr ⟨lw_p116, List.forall_mem_cons.mpr ⟨lw_p117, List.forall_mem_cons.mpr ⟨lw_p118, List.forall_mem_cons.mpr ⟨lw_p119, List.forall_mem_cons.mpr ⟨lw_p120, List.forall_mem_cons.mpr ⟨lw_p121, List.forall_mem_cons.mpr ⟨lw_p122, fun _ h => absurd h List.not_mem_nil⟩⟩⟩⟩⟩⟩⟩⟩⟩⟩⟩
def lw_privs : List (MethodName × Nat) := lw_privs_1 ++ (lw_privs_2 ++ (lw_privs_3 ++ (lw_privs_4 ++ (lw_privs_5 ++ (lw_privs_6 ++ (lw_privs_7 ++ (lw_privs_8)))))))
def lw_tbl : List Cond := k2_sels lw_privs ++ tables_1
theorem lw_privs_ok : ∀ q ∈ lw_privs, lw_okq q := by
  show ∀ q ∈ lw_privs_1 ++ (lw_privs_2 ++ (lw_privs_3 ++ (lw_privs_4 ++ (lw_privs_5 ++ (lw_privs_6 ++ (lw_privs_7 ++ (lw_privs_8))))))), lw_okq q
  exact List.forall_mem_append.mpr ⟨lw_r1, List.forall_mem_append.mpr ⟨lw_r2, List.forall_mem_append.mpr ⟨lw_r3, List.forall_mem_append.mpr ⟨lw_r4, List.forall_mem_append.mpr ⟨lw_r5, List.forall_mem_append.mpr ⟨lw_r6, List.forall_mem_append.mpr ⟨lw_r7, lw_r8⟩⟩⟩⟩⟩⟩⟩
-- ===== end of PART A; then your names; then what follows =====
end
section
noncomputable section
/-! THE WALKER, its pure part: a walk over bytecode with values that are known ints, ints of the script, references by the number of the object, or unknown; every branch that may be taken is walked; the answer says whether every end satisfies k. -/
/-- a value: an int (as it stands in 32 bits), the script's int of that number, the object of that number, or: 0 some int, 1 null, 2 some long, 3 the script -/
abbrev eV : Type := Nat ⊕ (Nat ⊕ (Nat ⊕ Nat))
/-- an object (its class, its fields), an array (kind, length, what is in it), an array of longs (its length) -/
abbrev eO : Type := (Nat × List eV) ⊕ ((Nat × Nat × List (List eV)) ⊕ Nat)
abbrev eH : Type := List (List (Option eO))
/-- what is known of the script's ints: from, to, shifted by 2^31 -/
abbrev eC : Type := List (Nat × Nat)
abbrev eI : Type := Nat × Instr × Nat
/-- a method: its class, cells, slots, frames, words of locals, kind (0: returns nothing, 1: int, 2: boolean, 3: long, 4: reference; 10: a constructor; 20: the law), code -/
abbrev eM : Type := Nat × Nat × Nat × Nat × Nat × Nat × List eI
abbrev eK : Type := Option eV → eH → Nat → eC → Bool
abbrev eR : Type := eM → Nat → List eI → List (Nat × eV) → List eV → eH → Nat → Nat → Nat → eC → eK → Bool
abbrev eHd : Type := eR → eM → Nat → List eI → List (Nat × eV) → List eV → eH → Nat → Nat → Nat → eC → eK → Bool
def ef {α : Type} (n : Nat) (k : Nat → α) : α := Nat.rec (k 0) (fun m _ => k (Nat.succ m)) n
theorem ef_eq {α : Type} (n : Nat) (k : Nat → α) : ef n k = k n := by cases n <;> rfl
def eg {α : Type} (l : List α) : Nat → Option α := List.rec (fun _ => none) (fun a _ ih n => Nat.rec (some a) (fun m _ => ih m) n) l
theorem eg_eq {α : Type} (l : List α) : ∀ n : Nat, eg l n = l[n]? := by
  induction l with
  | nil => intro n; rfl
  | cons a t ih => intro n; cases n with
    | zero => rfl
    | succ m => rw [List.getElem?_cons_succ, ← ih m]; rfl
def es {α β : Type} (x : α) (l : List α) : Nat → (List α → β) → β := List.rec (fun _ k => k []) (fun a t ih n k => Nat.rec (k (x :: t)) (fun m _ => ih m (fun t2 => k (a :: t2))) n) l
theorem es_eq {α β : Type} (x : α) (l : List α) : ∀ (n : Nat) (k : List α → β), es x l n k = k (l.set n x) := by
  induction l with
  | nil => intro n k; rfl
  | cons a t ih => intro n k; cases n with
    | zero => rfl
    | succ m => exact ih m (fun t2 => k (a :: t2))
def er {α : Type} (n : Nat) (x : α) : List α := Nat.rec [] (fun _ ih => x :: ih) n
theorem er_eq {α : Type} (n : Nat) (x : α) : er n x = List.replicate n x := by
  induction n with
  | zero => rfl
  | succ m ih => rw [List.replicate_succ, ← ih]; rfl
/-- two levels: of rows of b -/
def tg {α : Type} (b : Nat) (l : List (List α)) (i : Nat) : Option α := match eg l (i / b) with
  | some r => eg r (i % b)
  | none => none
def ts {α : Type} (b : Nat) (x : α) (l : List (List α)) (i : Nat) (k : List (List α) → Bool) : Bool := match eg l (i / b) with
  | some r => (match eg r (i % b) with
    | some _ => es x r (i % b) (fun r2 => es r2 l (i / b) k)
    | none => false)
  | none => false
theorem ts_ok {α : Type} {b : Nat} (hb : 0 < b) {x : α} {l : List (List α)} {i : Nat} {k : List (List α) → Bool} (h : ts b x l i k = true) : ∃ l2, k l2 = true ∧ (∃ y, tg b l i = some y) ∧ ∀ j, tg b l2 j = if j = i then some x else tg b l j := by
  unfold ts at h
  rw [eg_eq] at h
  cases hr : l[i / b]? with
  | none => rw [hr] at h; cases h
  | some r =>
    rw [hr] at h
    dsimp only at h
    rw [eg_eq] at h
    cases hy : r[i % b]? with
    | none => rw [hy] at h; cases h
    | some y =>
      rw [hy] at h
      dsimp only at h
      rw [es_eq, es_eq] at h
      refine ⟨_, h, ⟨y, by unfold tg; rw [eg_eq, hr]; dsimp only; rw [eg_eq, hy]⟩, fun j => ?_⟩
      have h1 : i / b < l.length := (List.getElem?_eq_some_iff.mp hr).1
      have h2 : i % b < r.length := (List.getElem?_eq_some_iff.mp hy).1
      unfold tg
      rw [eg_eq, eg_eq]
      by_cases hj : j / b = i / b
      · rw [hj, List.getElem?_set_self h1, hr]
        dsimp only
        rw [eg_eq, eg_eq]
        by_cases hm : j % b = i % b
        · have : j = i := by rw [← Nat.div_add_mod j b, ← Nat.div_add_mod i b, hj, hm]
          rw [if_pos this, hm, List.getElem?_set_self h2]
        · have : ¬ j = i := fun q => hm (by rw [q])
          rw [if_neg this, List.getElem?_set_ne (fun q => hm q.symm)]
      · have : ¬ j = i := fun q => hj (by rw [q])
        rw [if_neg this, List.getElem?_set_ne (fun q => hj q.symm)]
def hg (hp : eH) (o : Nat) : Option eO := match tg 16 hp o with
  | some x => x
  | none => none
theorem hs_ok {x : eO} {hp : eH} {o : Nat} {k : eH → Bool} (h : ts 16 (some x) hp o k = true) : ∃ hp2, k hp2 = true ∧ ∀ j, hg hp2 j = if j = o then some x else hg hp j := by
  obtain ⟨l2, h1, -, h3⟩ := ts_ok (by decide) h
  refine ⟨l2, h1, fun j => ?_⟩
  unfold hg
  rw [h3 j]
  by_cases hj : j = o
  · rw [if_pos hj, if_pos hj]
  · rw [if_neg hj, if_neg hj]
/-- values -/
def eT : eV := .inr (.inr (.inr 0))
def eN : eV := .inr (.inr (.inr 1))
def eL : eV := .inr (.inr (.inr 2))
def ecat (v : eV) : Nat := match v with
  | .inr (.inr (.inr 2)) => 2
  | _ => 1
def eS : eV := .inr (.inr (.inr 3))
def eint (v : eV) : Bool := match v with
  | .inl _ => true
  | .inr (.inl _) => true
  | .inr (.inr (.inr 0)) => true
  | _ => false
def ebi (a : Nat) : Nat := (a + 2147483648) % 4294967296
def evar (v : eV) (cs : eC) (k : eV → Bool) : Bool := match v with
  | .inr (.inl j) => (match eg cs j with
    | some q => bif Nat.beq q.1 q.2 then ef (ebi q.1) (fun n => k (.inl n)) else k v
    | none => false)
  | _ => k v
def e2 (f : Nat → Nat → Nat) (x y : eV) (k : eV → Bool) : Bool := match x with
  | .inl a => (match y with
    | .inl b => ef (f a b) (fun n => k (.inl n))
    | _ => bif eint y then k eT else false)
  | _ => bif eint x then (bif eint y then k eT else false) else false
def eadd (x y : eV) (k : eV → Bool) : Bool := match x with
  | .inl 0 => bif eint y then k y else false
  | _ => e2 (fun a b => (a + b) % 4294967296) x y k
def esub (x y : eV) (k : eV → Bool) : Bool := match x with
  | .inr (.inl 6) => (match y with
    | .inl 6 => k (.inr (.inl 7))
    | _ => bif eint y then k eT else false)
  | _ => e2 (fun a b => (a + (4294967296 - b % 4294967296)) % 4294967296) x y k
/-- .. and the script's int 0 with 63: the number 8 -/
def eand (x y : eV) (k : eV → Bool) : Bool := match x with
  | .inr (.inl 0) => (match y with
    | .inl 63 => k (.inr (.inl 8))
    | _ => bif eint y then k eT else false)
  | _ => e2 (fun a b => Nat.land a b) x y k
def fshr (a b : Nat) : Nat := bif Nat.ble 2147483648 a then 4294967295 - (4294967295 - a) >>> (b % 32) else a >>> (b % 32)
def eshr (x y : eV) (k : eV → Bool) : Bool := match x with
  | .inl 0 => bif eint y then k (.inl 0) else false
  | .inl (a + 1) => (match y with
    | .inl b => bif Nat.ble 4294967296 (a + 1) then false else ef (fshr (a + 1) b) (fun n => k (.inl n))
    | _ => bif eint y then k eT else false)
  | _ => e2 (fun a _ => a) x y k
def erem (x y : eV) (k : eV → Bool) : Bool := match x with
  | .inl a => (match y with
    | .inl b => bif Nat.blt a 2147483648 && (Nat.blt 0 b && Nat.blt b 2147483648) then ef (a % b) (fun n => k (.inl n)) else false
    | _ => false)
  | _ => false
/-- conditions -/
def edec (c : ClassFile.Cond) (p q : Nat) : Bool := match c with
  | .eq => Nat.beq p q
  | .ne => bif Nat.beq p q then false else true
  | .lt => Nat.blt p q
  | .ge => Nat.ble q p
  | .gt => Nat.blt q p
  | .le => Nat.ble p q
def eneg (c : ClassFile.Cond) : ClassFile.Cond := match c with
  | .eq => .ne
  | .ne => .eq
  | .lt => .ge
  | .ge => .lt
  | .gt => .le
  | .le => .gt
def eflip (c : ClassFile.Cond) : ClassFile.Cond := match c with
  | .eq => .eq
  | .ne => .ne
  | .lt => .gt
  | .ge => .le
  | .gt => .lt
  | .le => .ge
/-- the script's int j, known to lie between lo and hi (both shifted) -/
def ein (lo hi : Nat) (cs : eC) (j : Nat) (k : eC → Bool) : Bool := ef lo (fun a => ef hi (fun b => bif Nat.ble a b then es (a, b) cs j k else true))
def erf (c : ClassFile.Cond) (j b : Nat) (cs : eC) (k : eC → Bool) : Bool := match eg cs j with
  | some q => (match c with
    | .lt => bif Nat.beq b 0 then true else ein q.1 (Nat.min q.2 (b - 1)) cs j k
    | .le => ein q.1 (Nat.min q.2 b) cs j k
    | .gt => ein (Nat.max q.1 (b + 1)) q.2 cs j k
    | .ge => ein (Nat.max q.1 b) q.2 cs j k
    | .eq => ein (Nat.max q.1 b) (Nat.min q.2 b) cs j k
    | .ne => (bif Nat.beq b 0 then true else ein q.1 (Nat.min q.2 (b - 1)) cs j k) && ein (Nat.max q.1 (b + 1)) q.2 cs j k)
  | none => false
def ecmp (c : ClassFile.Cond) (x y : eV) (cs : eC) (kt kf : eC → Bool) : Bool := match x with
  | .inl a => (match y with
    | .inl b => bif edec c (ebi a) (ebi b) then kt cs else kf cs
    | .inr (.inl j) => erf (eflip c) j (ebi a) cs kt && erf (eneg (eflip c)) j (ebi a) cs kf
    | _ => bif eint y then kt cs && kf cs else false)
  | .inr (.inl j) => (match y with
    | .inl b => erf c j (ebi b) cs kt && erf (eneg c) j (ebi b) cs kf
    | _ => bif eint y then kt cs && kf cs else false)
  | _ => bif eint x then (bif eint y then kt cs && kf cs else false) else false
/-- locals -/
def el (ls : List (Nat × eV)) (j : Nat) : Option eV := List.rec none (fun q _ ih => bif Nat.beq q.1 j then some q.2 else ih) ls
def elp (j : Nat) (q : Nat × eV) : Bool := !(q.1 == j) && !(q.1 + 1 == j && ecat q.2 == 2)
def elf (j : Nat) (ls : List (Nat × eV)) : (List (Nat × eV) → Bool) → Bool := List.rec (fun k => k []) (fun q _ ih k => bif Nat.beq q.1 j then ih k else (bif elp j q then ih (fun t => k (q :: t)) else ih k)) ls
/-- the code from there on -/
def ej (cd : List eI) (t : Nat) : Option (List eI) := List.rec none (fun q r ih => bif Nat.beq q.1 t then some (q :: r) else ih) cd
def eargs (vs : List eV) : Nat → List (Nat × eV) := List.rec (fun _ => []) (fun v _ ih i => (i, v) :: ih (i + ecat v)) vs
def ecats (vs : List eV) : Nat := List.rec 0 (fun v _ ih => ecat v + ih) vs
/-- the first n of the stack, turned round, and the rest -/
def etake (n : Nat) : List eV → List eV → (List eV → List eV → Bool) → Bool := Nat.rec (fun st acc k => k acc st) (fun _ ih st acc k => match st with
  | v :: r => ih r (v :: acc) k
  | [] => false) n
abbrev eFL : Type := Nat → Nat → Option (Nat × Nat × Nat)
abbrev eBk : Type := eH → Nat → Nat → Nat → eC → List (Nat × eV) → List eV → Bool
section EW
variable (FL : eFL) (CL : eFL) (MT : Nat → Option (eM × Nat)) (NW : Nat → Nat → Option (Nat × Nat × List eV)) (NA : Nat → Nat → Option Nat) (KI : Nat → Nat → Option Nat) (KL : Nat → Nat → Option Nat) (SP : Nat → eM → eH → List eV → Option (eV × Nat × Nat)) (BK : eBk)
def hBad : eHd := fun _ _ _ _ _ _ _ _ _ _ _ _ => false
def eref (v : eV) : Bool := match v with
  | .inr (.inr (.inl _)) => true
  | _ => false
def escr (v : eV) : Bool := match v with
  | .inr (.inr (.inr (_ + 3))) => true
  | _ => false
def hLoad (len j : Nat) : eHd := fun ih mi pc cd ls st hp nx ce sl cs k => match el ls j with
  | some v => bif eint v then evar v cs (fun v => ih mi (pc + len) cd ls (v :: st) hp nx ce sl cs k) else false
  | none => false
def hLoadr (len j : Nat) : eHd := fun ih mi pc cd ls st hp nx ce sl cs k => match el ls j with
  | some v => bif eref v || escr v then ih mi (pc + len) cd ls (v :: st) hp nx ce sl cs k else false
  | none => false
def hStore (len j : Nat) (ref : Bool) : eHd := fun ih mi pc cd ls st hp nx ce sl cs k => match st with
  | v :: r => bif (bif ref then eref v else eint v) then elf j ls (fun t => ih mi (pc + len) cd ((j, v) :: t) r hp nx ce sl cs k) else false
  | [] => false
def hPush (len : Nat) (n : Nat) : eHd := fun ih mi pc cd ls st hp nx ce sl cs k => ih mi (pc + len) cd ls (.inl n :: st) hp nx ce sl cs k
def hLong (idx : Nat) : eHd := fun ih mi pc cd ls st hp nx ce sl cs k => match KL mi.1 idx with
  | some _ => ih mi (pc + 3) cd ls (eL :: st) hp nx ce sl cs k
  | none => false
def eun (n : Int) : Nat := (n % 4294967296).toNat
def hInc (j : Nat) (n : Int) : eHd := fun ih mi pc cd ls st hp nx ce sl cs k => match el ls j with
  | some v => eadd (.inl (eun n)) v (fun w => elf j ls (fun t => ih mi (pc + 3) cd ((j, w) :: t) st hp nx ce sl cs k))
  | none => false
def hBin (f : eV → eV → (eV → Bool) → Bool) : eHd := fun ih mi pc cd ls st hp nx ce sl cs k => match st with
  | y :: x :: r => f x y (fun v => ih mi (pc + 1) cd ls (v :: r) hp nx ce sl cs k)
  | _ => false
def hI2b : eHd := fun ih mi pc cd ls st hp nx ce sl cs k => match st with
  | x :: r => bif eint x then ih mi (pc + 1) cd ls (eT :: r) hp nx ce sl cs k else false
  | _ => false
def hDup : eHd := fun ih mi pc cd ls st hp nx ce sl cs k => match st with
  | x :: r => bif Nat.beq (ecat x) 1 then ih mi (pc + 1) cd ls (x :: x :: r) hp nx ce sl cs k else false
  | _ => false
def hDup2 : eHd := fun ih mi pc cd ls st hp nx ce sl cs k => match st with
  | y :: x :: r => bif Nat.beq (ecat y) 1 && Nat.beq (ecat x) 1 then ih mi (pc + 1) cd ls (y :: x :: y :: x :: r) hp nx ce sl cs k else false
  | _ => false
def hPop : eHd := fun ih mi pc cd ls st hp nx ce sl cs k => match st with
  | x :: r => bif Nat.beq (ecat x) 1 then ih mi (pc + 1) cd ls r hp nx ce sl cs k else false
  | _ => false
def eJmp (ih : eR) (mi : eM) (pc : Nat) (off : Int) (ls : List (Nat × eV)) (st : List eV) (hp : eH) (nx ce sl : Nat) (cs : eC) (k : eK) : Bool := match (pc : Int) + off with
  | .ofNat t => (match ej mi.2.2.2.2.2.2 t with
    | some cd => ef t (fun t => ih mi t cd ls st hp nx ce sl cs k)
    | none => false)
  | .negSucc _ => false
def hGoto (off : Int) : eHd := fun ih mi pc _ ls st hp nx ce sl cs k => eJmp ih mi pc off ls st hp nx ce sl cs k
def hIf (c : ClassFile.Cond) (off : Int) : eHd := fun ih mi pc cd ls st hp nx ce sl cs k => match st with
  | x :: r => ecmp c x (.inl 0) cs (fun cs => eJmp ih mi pc off ls r hp nx ce sl cs k) (fun cs => ih mi (pc + 3) cd ls r hp nx ce sl cs k)
  | _ => false
def hIcmp (c : ClassFile.Cond) (off : Int) : eHd := fun ih mi pc cd ls st hp nx ce sl cs k => match st with
  | y :: x :: r => ecmp c x y cs (fun cs => eJmp ih mi pc off ls r hp nx ce sl cs k) (fun cs => ih mi (pc + 3) cd ls r hp nx ce sl cs k)
  | _ => false
def esg (n : Nat) : Int := if n % 4294967296 < 2147483648 then ((n % 4294967296 : Nat) : Int) else ((n % 4294967296 : Nat) : Int) - 4294967296
/-- each case of a switch over the script's int j: that it is b, b + 1 .. -/
def esw (j : Nat) (cs : eC) (go : Int → eC → Bool) (offs : List Int) : Nat → Bool := List.rec (fun _ => true) (fun off _ ih b => erf .eq j b cs (go off) && ih (b + 1)) offs
def hSwitch (d lo hi : Int) (offs : Array Int) : eHd := fun ih mi pc _ ls st hp nx ce sl cs k => match st with
  | .inl n :: r => if esg n < lo ∨ hi < esg n then eJmp ih mi pc d ls r hp nx ce sl cs k else (match offs.toList[(esg n - lo).toNat]? with
    | some off => eJmp ih mi pc off ls r hp nx ce sl cs k
    | none => false)
  | .inr (.inl j) :: r => bif decide (-2147483648 ≤ lo ∧ lo ≤ hi ∧ hi < 2147483648 ∧ (hi - lo).toNat + 1 = offs.toList.length) then
      (esw j cs (fun off cs => eJmp ih mi pc off ls r hp nx ce sl cs k) offs.toList (lo + 2147483648).toNat
      && (erf .lt j (lo + 2147483648).toNat cs (fun cs => eJmp ih mi pc d ls r hp nx ce sl cs k) && erf .gt j (hi + 2147483648).toNat cs (fun cs => eJmp ih mi pc d ls r hp nx ce sl cs k))) else false
  | v :: r => bif Nat.beq mi.2.2.2.2.2.1 20 && eint v then BK hp nx ce sl cs ls r else false
  | _ => false
def hGet (idx : Nat) : eHd := fun ih mi pc cd ls st hp nx ce sl cs k => match st with
  | .inr (.inr (.inl o)) :: r => (match FL mi.1 idx with
    | some q => (match hg hp o with
      | some (.inl ob) => bif Nat.beq ob.1 q.1 then (match eg ob.2 q.2.1 with
        | some v => ih mi (pc + 3) cd ls (v :: r) hp nx ce sl cs k
        | none => false) else false
      | _ => false)
    | none => false)
  | _ => false
/-- may the value stand in a field of the kind (0: int, 1: boolean, 2: reference, 3: long; 10 more: final; 20 more: final, of another class) -/
def efit (t : Nat) (v : eV) : Bool := match v with
  | .inl n => Nat.beq (t % 10) 0 || (Nat.beq (t % 10) 1 && Nat.ble n 1)
  | .inr (.inl _) => Nat.beq (t % 10) 0
  | .inr (.inr (.inl _)) => Nat.beq (t % 10) 2
  | .inr (.inr (.inr 0)) => Nat.beq (t % 10) 0
  | .inr (.inr (.inr 1)) => Nat.beq (t % 10) 2
  | .inr (.inr (.inr 2)) => Nat.beq (t % 10) 3
  | _ => false
def hPut (idx : Nat) : eHd := fun ih mi pc cd ls st hp nx ce sl cs k => match st with
  | v :: .inr (.inr (.inl o)) :: r => (match FL mi.1 idx with
    | some q => (match hg hp o with
      | some (.inl ob) => bif Nat.beq ob.1 q.1 && (efit q.2.2 v && ((Nat.blt q.2.2 10 || Nat.beq mi.2.2.2.2.2.1 10) && Nat.blt q.2.2 20)) then
          (match eg ob.2 q.2.1 with
          | some _ => es v ob.2 q.2.1 (fun fs => ts 16 (some (.inl (ob.1, fs))) hp o (fun hp => ih mi (pc + 3) cd ls r hp nx ce sl cs k))
          | none => false) else false
      | _ => false)
    | none => false)
  | _ => false
def hNew (idx : Nat) : eHd := fun ih mi pc cd ls st hp nx ce sl cs k => match NW mi.1 idx with
  | some q => bif Nat.ble (ce + 1) mi.2.1 && Nat.ble (sl + q.2.1) mi.2.2.1 then
      ts 16 (some (.inl (q.1, q.2.2))) hp nx (fun hp => ef (nx + 1) (fun nx1 => ef (ce + 1) (fun ce => ef (sl + q.2.1) (fun sl => ih mi (pc + 3) cd ls (.inr (.inr (.inl nx)) :: st) hp nx1 ce sl cs k)))) else false
  | none => false
def hNewa (t : ArrayType) : eHd := fun ih mi pc cd ls st hp nx ce sl cs k => match st with
  | .inl n :: r => bif Nat.ble (ce + 1) mi.2.1 && (Nat.ble (sl + n) mi.2.2.1 && Nat.ble n 100000) then
      (match (match t with
        | .int => (some (.inr (.inl (0, n, er (n / 32 + 1) (er 32 (.inl 0))))) : Option eO)
        | .byte => some (.inr (.inl (1, n, er (n / 32 + 1) (er 32 (.inl 0)))))
        | .boolean => some (.inr (.inl (2, n, er (n / 32 + 1) (er 32 (.inl 0)))))
        | .long => some (.inr (.inr n))
        | _ => none) with
      | some ob => ts 16 (some ob) hp nx (fun hp => ef (nx + 1) (fun nx1 => ef (ce + 1) (fun ce => ef (sl + n) (fun sl => ih mi (pc + 2) cd ls (.inr (.inr (.inl nx)) :: r) hp nx1 ce sl cs k))))
      | none => false) else false
  | _ => false
def hNewq (idx : Nat) : eHd := fun ih mi pc cd ls st hp nx ce sl cs k => match st with
  | .inl n :: r => (match NA mi.1 idx with
    | some q => bif Nat.ble (ce + 1) mi.2.1 && (Nat.ble (sl + n) mi.2.2.1 && Nat.ble n 100000) then
        ts 16 (some (.inr (.inl (3 + q, n, er (n / 32 + 1) (er 32 eN))))) hp nx (fun hp => ef (nx + 1) (fun nx1 => ef (ce + 1) (fun ce => ef (sl + n) (fun sl => ih mi (pc + 3) cd ls (.inr (.inr (.inl nx)) :: r) hp nx1 ce sl cs k)))) else false
    | none => false)
  | _ => false
def hAlen : eHd := fun ih mi pc cd ls st hp nx ce sl cs k => match st with
  | .inr (.inr (.inl o)) :: r => (match hg hp o with
    | some (.inr (.inl ob)) => ih mi (pc + 1) cd ls (.inl ob.2.1 :: r) hp nx ce sl cs k
    | some (.inr (.inr n)) => ih mi (pc + 1) cd ls (.inl n :: r) hp nx ce sl cs k
    | _ => false)
  | .inr (.inr (.inr (_ + 3))) :: r => bif Nat.beq mi.2.2.2.2.2.1 20 then ih mi (pc + 1) cd ls (.inr (.inl 6) :: r) hp nx ce sl cs k else false
  | _ => false
/-- each place of an array that the script's int j may name, from place i on, n of them -/
def eix (j : Nat) (cs : eC) (go : Nat → eC → Bool) (n : Nat) : Nat → Bool := Nat.rec (fun _ => true) (fun _ ih i => erf .eq j (i + 2147483648) cs (go i) && ih (i + 1)) n
def hAld (kind : Nat → Bool) : eHd := fun ih mi pc cd ls st hp nx ce sl cs k => match st with
  | .inl i :: .inr (.inr (.inl o)) :: r => (match hg hp o with
    | some (.inr (.inl ob)) => bif kind ob.1 && (Nat.blt i ob.2.1 && Nat.ble ob.2.1 100000) then (match tg 32 ob.2.2 i with
      | some v => ih mi (pc + 1) cd ls (v :: r) hp nx ce sl cs k
      | none => false) else false
    | _ => false)
  | .inr (.inl j) :: .inr (.inr (.inl o)) :: r => (match hg hp o with
    | some (.inr (.inl ob)) => bif kind ob.1 && Nat.ble ob.2.1 10000 then
        (erf .lt j 2147483648 cs (fun _ => false) && (erf .ge j (ob.2.1 + 2147483648) cs (fun _ => false)
        && eix j cs (fun i cs => match tg 32 ob.2.2 i with
          | some v => ih mi (pc + 1) cd ls (v :: r) hp nx ce sl cs k
          | none => false) ob.2.1 0)) else false
    | _ => false)
  | .inl i :: .inr (.inr (.inr (_ + 3))) :: r => bif Nat.beq mi.2.2.2.2.2.1 20 && (Nat.blt i 6 && kind 0) then (match eg cs 7 with
    | some q => bif Nat.ble 2147483648 q.1 then evar (.inr (.inl i)) cs (fun v => ih mi (pc + 1) cd ls (v :: r) hp nx ce sl cs k) else false
    | none => false) else false
  | _ => false
def hLald : eHd := fun ih mi pc cd ls st hp nx ce sl cs k => match st with
  | .inl i :: .inr (.inr (.inl o)) :: r => (match hg hp o with
    | some (.inr (.inr n)) => bif Nat.blt i n && Nat.ble n 100000 then ih mi (pc + 1) cd ls (eL :: r) hp nx ce sl cs k else false
    | _ => false)
  | _ => false
def hLast : eHd := fun ih mi pc cd ls st hp nx ce sl cs k => match st with
  | v :: .inl i :: .inr (.inr (.inl o)) :: r => (match hg hp o with
    | some (.inr (.inr n)) => bif Nat.beq (ecat v) 2 && (Nat.blt i n && Nat.ble n 100000) then ih mi (pc + 1) cd ls r hp nx ce sl cs k else false
    | _ => false)
  | _ => false
/-- kind 0: ints are kept as they are; bytes and booleans as unknown -/
def hIast (byte : Bool) : eHd := fun ih mi pc cd ls st hp nx ce sl cs k => match st with
  | v :: .inl i :: .inr (.inr (.inl o)) :: r => (match hg hp o with
    | some (.inr (.inl ob)) => bif (bif byte then Nat.beq ob.1 1 || Nat.beq ob.1 2 else Nat.beq ob.1 0) && (eint v && (Nat.blt i ob.2.1 && Nat.ble ob.2.1 100000)) then
        ts 32 (bif byte then eT else v) ob.2.2 i (fun ch => ts 16 (some (.inr (.inl (ob.1, ob.2.1, ch)))) hp o (fun hp => ih mi (pc + 1) cd ls r hp nx ce sl cs k)) else false
    | _ => false)
  | _ => false
def hAast : eHd := fun ih mi pc cd ls st hp nx ce sl cs k => match st with
  | .inr (.inr (.inl q)) :: .inl i :: .inr (.inr (.inl o)) :: r => (match hg hp o with
    | some (.inr (.inl ob)) => (match hg hp q with
      | some (.inl oq) => bif Nat.beq ob.1 (3 + oq.1) && (Nat.blt i ob.2.1 && Nat.ble ob.2.1 100000) then
          ts 32 (.inr (.inr (.inl q))) ob.2.2 i (fun ch => ts 16 (some (.inr (.inl (ob.1, ob.2.1, ch)))) hp o (fun hp => ih mi (pc + 1) cd ls r hp nx ce sl cs k)) else false
      | _ => false)
    | _ => false)
  | _ => false
def hRet (kd : Nat) : eHd := fun _ mi _ _ _ st hp nx ce sl cs k => match st with
  | [v] => bif Nat.ble ce mi.2.1 && Nat.ble sl mi.2.2.1 && (match v with
      | .inl n => Nat.beq kd 1 && (Nat.beq mi.2.2.2.2.2.1 1 || ((Nat.beq mi.2.2.2.2.2.1 2 || Nat.beq mi.2.2.2.2.2.1 20) && Nat.ble n 1))
      | .inr (.inl _) => Nat.beq kd 1 && Nat.beq mi.2.2.2.2.2.1 1
      | .inr (.inr (.inl _)) => Nat.beq kd 4 && Nat.beq mi.2.2.2.2.2.1 4
      | .inr (.inr (.inr 0)) => Nat.beq kd 1 && Nat.beq mi.2.2.2.2.2.1 1
      | _ => false) then k (some v) hp nx cs else false
  | _ => false
def hRetv : eHd := fun _ mi _ _ _ st hp nx ce sl cs k => match st with
  | [] => bif Nat.ble ce mi.2.1 && Nat.ble sl mi.2.2.1 && (Nat.beq mi.2.2.2.2.2.1 0 || Nat.beq mi.2.2.2.2.2.1 10) then k none hp nx cs else false
  | _ => false
def hLdc (len idx : Nat) : eHd := fun ih mi pc cd ls st hp nx ce sl cs k => match KI mi.1 idx with
  | some n => ih mi (pc + len) cd ls (.inl n :: st) hp nx ce sl cs k
  | none => false
/-- the object's class -/
def ecl (hp : eH) (v : eV) : Option Nat := match v with
  | .inr (.inr (.inl o)) => (match hg hp o with
    | some (.inl ob) => some ob.1
    | _ => none)
  | _ => none
def eroom (mi m2 : eM) (maxL ce sl : Nat) (as r : List eV) : Bool := Nat.ble (m2.2.2.2.1 + 1) mi.2.2.2.1 && (Nat.ble (8 + (maxL + 11) + m2.2.2.2.2.1) mi.2.2.2.2.1 && (Nat.ble (ce + m2.2.1) mi.2.1 && (Nat.ble (sl + m2.2.2.1) mi.2.2.1 && (Nat.ble (ecats r) 8 && Nat.ble (ecats as) maxL))))
/-- what the receiver must be: kinds 0, 3: there is none; 1, 4: an object of the method's class; 2, 5: an object, the method a constructor -/
def erecv (kd : Nat) (m2 : eM) (hp : eH) (as : List eV) : Bool := match kd with
  | 0 => bif Nat.ble 10 m2.2.2.2.2.2.1 then false else true
  | 3 => bif Nat.ble 10 m2.2.2.2.2.2.1 then false else true
  | 1 => bif Nat.ble 10 m2.2.2.2.2.2.1 then false else (match as with
    | v :: _ => (match ecl hp v with
      | some c => Nat.beq c m2.1
      | none => false)
    | [] => false)
  | 4 => bif Nat.ble 10 m2.2.2.2.2.2.1 then false else (match as with
    | v :: _ => (match ecl hp v with
      | some c => Nat.beq c m2.1
      | none => false)
    | [] => false)
  | 2 => Nat.beq m2.2.2.2.2.2.1 10 && (match as with
    | v :: _ => eref v
    | [] => false)
  | 5 => Nat.beq m2.2.2.2.2.2.1 10 && (match as with
    | v :: _ => eref v
    | [] => false)
  | _ => false
def eCall (kd mno n : Nat) : eHd := fun ih mi pc cd ls st hp nx ce sl cs k => match MT mno with
  | some q => etake n st [] (fun as r => bif eroom mi q.1 q.2 ce sl as r && erecv kd q.1 hp as then
      ih q.1 0 q.1.2.2.2.2.2.2 (eargs as 0) [] hp nx 0 0 cs (fun ret hp nx cs => ef (ce + q.1.2.1) (fun ce => ef (sl + q.1.2.2.1) (fun sl => match ret with
        | some v => ih mi (pc + 3) cd ls (v :: r) hp nx ce sl cs k
        | none => ih mi (pc + 3) cd ls r hp nx ce sl cs k))) else false)
  | none => false
def eObj : eHd := fun ih mi pc cd ls st hp nx ce sl cs k => match st with
  | v :: r => bif eref v && (Nat.ble 1 mi.2.2.2.1 && Nat.ble (ecats r + 12) mi.2.2.2.2.1) then ih mi (pc + 3) cd ls r hp nx ce sl cs k else false
  | [] => false
def eCopy : eHd := fun ih mi pc cd ls st hp nx ce sl cs k => match st with
  | .inl n :: .inl 0 :: .inr (.inr (.inl b)) :: .inl 0 :: .inr (.inr (.inl a)) :: r => bif Nat.ble 1 mi.2.2.2.1 && (Nat.ble (ecats r + 100) mi.2.2.2.2.1 && Nat.ble n 100000) then
      (match hg hp a with
      | some (.inr (.inl oa)) => (match hg hp b with
        | some (.inr (.inl ob)) => bif Nat.beq oa.1 0 && (Nat.beq ob.1 0 && (Nat.beq oa.2.1 n && Nat.beq ob.2.1 n)) then ts 16 (some (.inr (.inl (0, n, oa.2.2)))) hp b (fun hp => ih mi (pc + 3) cd ls r hp nx ce sl cs k) else false
        | _ => false)
      | some (.inr (.inr na)) => (match hg hp b with
        | some (.inr (.inr nb)) => bif Nat.ble n na && Nat.ble n nb then ih mi (pc + 3) cd ls r hp nx ce sl cs k else false
        | _ => false)
      | _ => false) else false
  | _ => false
def eSpec (sn n : Nat) : eHd := fun ih mi pc cd ls st hp nx ce sl cs k => etake n st [] (fun as r => match SP sn mi hp as with
  | some q => bif Nat.ble (ce + q.2.1) mi.2.1 && (Nat.ble (sl + q.2.2) mi.2.2.1 && Nat.ble (ecats r) 8) then ef (ce + q.2.1) (fun ce => ef (sl + q.2.2) (fun sl => ih mi (pc + 3) cd ls (q.1 :: r) hp nx ce sl cs k)) else false
  | none => false)
/-- the law's room(x, p0, p1, out), which throws where the row's isRoom (the method of the table) answers 0 -/
def eThc (mi : eM) (hp : eH) (ce sl : Nat) (as r : List eV) : Bool := match as with
  | [x, p0, p1, o] => (match ecl hp x with
    | some c => Nat.beq c 11
    | none => false) && (eint p0 && (eint p1 && (eref o && (Nat.ble 30 mi.2.2.2.1 && (Nat.ble 500 mi.2.2.2.2.1 && (Nat.ble (ce + 1) mi.2.1 && (Nat.ble (sl + 6) mi.2.2.1 && Nat.ble (ecats r) 8)))))))
  | _ => false
def eThk (ih : eR) (q : eM × Nat) (as : List eV) (hp : eH) (nx : Nat) (cs : eC) (K : eK) : Bool := match as with
  | x :: p0 :: _ => ih q.1 0 q.1.2.2.2.2.2.2 (eargs [x, p0] 0) [] hp nx 0 0 cs (fun ret hp nx cs => match ret with
    | some (.inl 0) => K (some (.inl 1)) hp nx cs
    | _ => false)
  | _ => false
def eThr (mno : Nat) : eHd := fun ih mi pc cd ls st hp nx ce sl cs k => match MT mno with
  | some q => etake 4 st [] (fun as r => bif eThc mi hp ce sl as r then
      eThk ih q as hp nx cs (fun ret hp nx cs => ef (ce + 1) (fun ce => ef (sl + 6) (fun sl => match ret with
        | some v => ih mi (pc + 3) cd ls (v :: r) hp nx ce sl cs k
        | none => ih mi (pc + 3) cd ls r hp nx ce sl cs k))) else false)
  | none => false
/-- op 0: invokestatic, 1: invokevirtual, 2: invokespecial -/
def hCall (op idx : Nat) : eHd := match op with
  | 0 => fun ih mi pc cd ls st hp nx ce sl cs k => (match CL mi.1 idx with
    | some (0, mno, n) => eCall MT 0 mno n ih mi pc cd ls st hp nx ce sl cs k
    | some (3, mno, n) => eCall MT 3 mno n ih mi pc cd ls st hp nx ce sl cs k
    | some (7, _, _) => eCopy ih mi pc cd ls st hp nx ce sl cs k
    | some (8, mno, n) => eSpec SP mno n ih mi pc cd ls st hp nx ce sl cs k
    | some (9, mno, _) => eThr MT mno ih mi pc cd ls st hp nx ce sl cs k
    | _ => false)
  | 1 => fun ih mi pc cd ls st hp nx ce sl cs k => (match CL mi.1 idx with
    | some (1, mno, n) => eCall MT 1 mno n ih mi pc cd ls st hp nx ce sl cs k
    | some (4, mno, n) => eCall MT 4 mno n ih mi pc cd ls st hp nx ce sl cs k
    | _ => false)
  | _ => fun ih mi pc cd ls st hp nx ce sl cs k => (match CL mi.1 idx with
    | some (2, mno, n) => eCall MT 2 mno n ih mi pc cd ls st hp nx ce sl cs k
    | some (5, mno, n) => eCall MT 5 mno n ih mi pc cd ls st hp nx ce sl cs k
    | some (6, _, _) => eObj ih mi pc cd ls st hp nx ce sl cs k
    | _ => false)
def ekI (n : Nat) : Bool := Nat.beq n 0
def ekB (n : Nat) : Bool := Nat.beq n 1 || Nat.beq n 2
def ekR (n : Nat) : Bool := Nat.ble 3 n
/-- the instruction's handler -/
def eD (i : Instr) (len : Nat) : eHd := match i with
  | .iload j => hLoad len j
  | .iload_n j => hLoad len j.val
  | .aload j => hLoadr len j
  | .aload_n j => hLoadr len j.val
  | .istore j => hStore len j false
  | .istore_n j => hStore len j.val false
  | .astore j => hStore len j true
  | .astore_n j => hStore len j.val true
  | .iconst n => hPush len (eun n)
  | .bipush n => hPush len (eun n)
  | .sipush n => hPush len (eun n)
  | .ldc_w idx => hLdc KI len idx
  | .ldc idx => hLdc KI len idx
  | .ldc2_w idx => hLong KL idx
  | .iinc j n => hInc j n
  | .iadd => hBin eadd
  | .isub => hBin esub
  | .imul => hBin (e2 (fun a b => (a * b) % 4294967296))
  | .iand => hBin eand
  | .ior => hBin (e2 (fun a b => Nat.lor a b))
  | .ixor => hBin (e2 (fun a b => Nat.xor a b))
  | .ishl => hBin (e2 (fun a b => (a <<< (b % 32)) % 4294967296))
  | .iushr => hBin (e2 (fun a b => (a % 4294967296) >>> (b % 32)))
  | .ishr => hBin eshr
  | .irem => hBin erem
  | .i2b => hI2b
  | .dup => hDup
  | .dup2 => hDup2
  | .pop => hPop
  | .goto off => hGoto off
  | .ifCond c off => hIf c off
  | .if_icmp c off => hIcmp c off
  | .tableswitch d lo hi offs => hSwitch BK d lo hi offs
  | .getfield idx => hGet FL idx
  | .putfield idx => hPut FL idx
  | .new idx => hNew NW idx
  | .newarray t => hNewa t
  | .anewarray idx => hNewq NA idx
  | .arraylength => hAlen
  | .iaload => hAld ekI
  | .baload => hAld ekB
  | .aaload => hAld ekR
  | .laload => hLald
  | .lastore => hLast
  | .iastore => hIast false
  | .bastore => hIast true
  | .aastore => hAast
  | .ireturn => hRet 1
  | .areturn => hRet 4
  | .return_ => hRetv
  | .invokestatic idx => hCall CL MT SP 0 idx
  | .invokevirtual idx => hCall CL MT SP 1 idx
  | .invokespecial idx => hCall CL MT SP 2 idx
  | _ => hBad
def eRun (n : Nat) : eR := Nat.rec (fun _ _ _ _ _ _ _ _ _ _ _ => false) (fun _ ih mi pc cd ls st hp nx ce sl cs k => match cd with
  | q :: r => bif Nat.beq q.1 pc then eD FL CL MT NW NA KI KL SP BK q.2.1 q.2.2 ih mi q.1 r ls st hp nx ce sl cs k else false
  | [] => false) n
end EW
end
end
section
/-! THE WALKER, what its words mean: the machine's values, locals and cells that a walker's state stands for. -/
def eRl (ρ : Nat → Int32) (b : Nat) (ad : List Nat) (v : eV) (x : Value) : Prop := match v with
  | .inl n => x = .int (Int32.ofNat n)
  | .inr (.inl j) => x = .int (ρ j)
  | .inr (.inr (.inl o)) => ∃ a, ad[o]? = some a ∧ x = .ref a
  | .inr (.inr (.inr 0)) => ∃ z : Int32, x = .int z
  | .inr (.inr (.inr 1)) => x = .null
  | .inr (.inr (.inr 2)) => ∃ z : Int64, x = .long z
  | .inr (.inr (.inr (_ + 3))) => x = .ref b
theorem eRl_int {ρ : Nat → Int32} {b : Nat} {ad : List Nat} {v : eV} {x : Value} (h : eRl ρ b ad v x) (hi : eint v = true) : ∃ z : Int32, x = .int z := by
  rcases v with n | j | o | n
  · exact ⟨_, h⟩
  · exact ⟨_, h⟩
  · cases hi
  · match n, h, hi with
    | 0, h, _ => exact h
    | 1, _, hi => cases hi
    | 2, _, hi => cases hi
    | _ + 3, _, hi => cases hi
theorem eRl_ref {ρ : Nat → Int32} {b : Nat} {ad : List Nat} {v : eV} {x : Value} (h : eRl ρ b ad v x) (hi : eref v = true) : ∃ (o a : Nat), v = .inr (.inr (.inl o)) ∧ ad[o]? = some a ∧ x = .ref a := by
  rcases v with n | j | o | n
  · cases hi
  · cases hi
  · obtain ⟨a, h1, h2⟩ := h
    exact ⟨o, a, rfl, h1, h2⟩
  · match n, hi with
    | 0, hi => cases hi
    | _ + 1, hi => cases hi
theorem eRl_cat {ρ : Nat → Int32} {b : Nat} {ad : List Nat} {v : eV} {x : Value} (h : eRl ρ b ad v x) : x.category = ecat v := by
  rcases v with n | j | o | n
  · have h : x = .int (Int32.ofNat n) := h
    rw [h]; rfl
  · have h : x = .int (ρ j) := h
    rw [h]; rfl
  · obtain ⟨a, -, h⟩ := h
    rw [h]; rfl
  · match n, h with
    | 0, ⟨z, h⟩ => rw [h]; rfl
    | 1, h =>
      have h : x = .null := h
      rw [h]; rfl
    | 2, ⟨z, h⟩ => rw [h]; rfl
    | _ + 3, h =>
      have h : x = .ref b := h
      rw [h]; rfl
theorem eRl_more {ρ : Nat → Int32} {b : Nat} {ad ad2 : List Nat} (hm : ∀ (o a : Nat), ad[o]? = some a → ad2[o]? = some a) {v : eV} {x : Value} (h : eRl ρ b ad v x) : eRl ρ b ad2 v x := by
  rcases v with n | j | o | n
  · exact h
  · exact h
  · obtain ⟨a, h1, h2⟩ := h
    exact ⟨a, hm o a h1, h2⟩
  · match n, h with
    | 0, h => exact h
    | 1, h => exact h
    | 2, h => exact h
    | _ + 3, h => exact h
theorem eRl_any {ρ : Nat → Int32} {b : Nat} {ad : List Nat} (z : Int32) : eRl ρ b ad eT (.int z) := ⟨z, rfl⟩
def eRs (ρ : Nat → Int32) (b : Nat) (ad : List Nat) : List eV → List Value → Prop
  | [], [] => True
  | v :: vs, x :: xs => eRl ρ b ad v x ∧ eRs ρ b ad vs xs
  | _, _ => False
theorem eRs_cons {ρ : Nat → Int32} {b : Nat} {ad : List Nat} {v : eV} {vs : List eV} {xs : List Value} (h : eRs ρ b ad (v :: vs) xs) : ∃ (x : Value) (t : List Value), xs = x :: t ∧ eRl ρ b ad v x ∧ eRs ρ b ad vs t := by
  cases xs with
  | nil => exact absurd h id
  | cons x t => exact ⟨x, t, rfl, h.1, h.2⟩
theorem eRs_nil {ρ : Nat → Int32} {b : Nat} {ad : List Nat} {xs : List Value} (h : eRs ρ b ad [] xs) : xs = [] := by
  cases xs with
  | nil => rfl
  | cons x t => exact absurd h id
theorem eRs_more {ρ : Nat → Int32} {b : Nat} {ad ad2 : List Nat} (hm : ∀ (o a : Nat), ad[o]? = some a → ad2[o]? = some a) : ∀ {vs : List eV} {xs : List Value}, eRs ρ b ad vs xs → eRs ρ b ad2 vs xs
  | [], [], _ => trivial
  | _ :: _, _ :: _, h => ⟨eRl_more hm h.1, eRs_more hm h.2⟩
  | [], _ :: _, h => absurd h id
  | _ :: _, [], h => absurd h id
theorem eRs_get {ρ : Nat → Int32} {b : Nat} {ad : List Nat} : ∀ {vs : List eV} {xs : List Value} {k : Nat} {v : eV}, eRs ρ b ad vs xs → vs[k]? = some v → ∃ x, xs[k]? = some x ∧ eRl ρ b ad v x
  | [], [], _, _, _, h => by simp at h
  | v0 :: vs, x0 :: xs, 0, v, h, hk => by
    rw [List.getElem?_cons_zero] at hk
    cases hk
    exact ⟨x0, List.getElem?_cons_zero, h.1⟩
  | v0 :: vs, x0 :: xs, k + 1, v, h, hk => by
    rw [List.getElem?_cons_succ] at hk
    rw [List.getElem?_cons_succ]
    exact eRs_get h.2 hk
  | [], _ :: _, _, _, h, _ => absurd h id
  | _ :: _, [], _, _, h, _ => absurd h id
theorem eRs_set {ρ : Nat → Int32} {b : Nat} {ad : List Nat} {v : eV} {x : Value} (hr : eRl ρ b ad v x) : ∀ {vs : List eV} {xs : List Value} {k : Nat}, eRs ρ b ad vs xs → eRs ρ b ad (vs.set k v) (xs.set k x)
  | [], [], _, _ => trivial
  | _ :: _, _ :: _, 0, h => ⟨hr, h.2⟩
  | _ :: _, _ :: _, _ + 1, h => ⟨h.1, eRs_set hr h.2⟩
  | [], _ :: _, _, h => absurd h id
  | _ :: _, [], _, h => absurd h id
theorem eRs_len {ρ : Nat → Int32} {b : Nat} {ad : List Nat} : ∀ {vs : List eV} {xs : List Value}, eRs ρ b ad vs xs → vs.length = xs.length
  | [], [], _ => rfl
  | _ :: _, _ :: _, h => by rw [List.length_cons, List.length_cons, eRs_len h.2]
  | [], _ :: _, h => absurd h id
  | _ :: _, [], h => absurd h id
theorem eRs_cats {ρ : Nat → Int32} {b : Nat} {ad : List Nat} : ∀ {vs : List eV} {xs : List Value}, eRs ρ b ad vs xs → (xs.map fun v => v.category).sum = ecats vs
  | [], [], _ => rfl
  | v :: vs, x :: xs, h => by
    rw [List.map_cons, List.sum_cons, eRs_cats h.2, eRl_cat h.1]
    rfl
  | [], _ :: _, h => absurd h id
  | _ :: _, [], h => absurd h id
/-- locals -/
def eLs (ρ : Nat → Int32) (b : Nat) (ad : List Nat) : List (Nat × eV) → List (Nat × Value) → Prop
  | [], [] => True
  | q :: vs, x :: xs => (q.1 = x.1 ∧ eRl ρ b ad q.2 x.2) ∧ eLs ρ b ad vs xs
  | _, _ => False
theorem eLs_more {ρ : Nat → Int32} {b : Nat} {ad ad2 : List Nat} (hm : ∀ (o a : Nat), ad[o]? = some a → ad2[o]? = some a) : ∀ {vs : List (Nat × eV)} {xs : List (Nat × Value)}, eLs ρ b ad vs xs → eLs ρ b ad2 vs xs
  | [], [], _ => trivial
  | _ :: _, _ :: _, h => ⟨⟨h.1.1, eRl_more hm h.1.2⟩, eLs_more hm h.2⟩
  | [], _ :: _, h => absurd h id
  | _ :: _, [], h => absurd h id
theorem el_ok {ρ : Nat → Int32} {b : Nat} {ad : List Nat} {j : Nat} {v : eV} : ∀ {ls : List (Nat × eV)} {lv : List (Nat × Value)}, eLs ρ b ad ls lv → el ls j = some v → ∃ (k : Nat) (x : Value), lv[k]? = some (j, x) ∧ eRl ρ b ad v x
  | [], [], _, h => by cases h
  | q :: ls, x :: lv, h, he => by
    have he : (bif Nat.beq q.1 j then some q.2 else el ls j) = some v := he
    cases hb : Nat.beq q.1 j with
    | true =>
      rw [hb] at he
      have he : some q.2 = some v := he
      cases he
      refine ⟨0, x.2, ?_, h.1.2⟩
      rw [List.getElem?_cons_zero, ← Nat.eq_of_beq_eq_true hb, h.1.1]
    | false =>
      rw [hb] at he
      obtain ⟨k, y, h1, h2⟩ := el_ok h.2 he
      exact ⟨k + 1, y, by rw [List.getElem?_cons_succ]; exact h1, h2⟩
  | [], _ :: _, h, _ => absurd h id
  | _ :: _, [], h, _ => absurd h id
theorem elf_ok {ρ : Nat → Int32} {b : Nat} {ad : List Nat} {j : Nat} : ∀ {ls : List (Nat × eV)} {lv : List (Nat × Value)} {k : List (Nat × eV) → Bool}, eLs ρ b ad ls lv → elf j ls k = true → ∃ t, k t = true ∧ eLs ρ b ad t (lv.filter (fun q => !(q.1 == j) && !(q.1 + 1 == j && q.2.category == 2)))
  | [], [], k, _, h => ⟨[], h, trivial⟩
  | q :: ls, x :: lv, k, h, he => by
    have he : (bif Nat.beq q.1 j then elf j ls k else (bif elp j q then elf j ls (fun t => k (q :: t)) else elf j ls k)) = true := he
    have hp : (!(x.1 == j) && !(x.1 + 1 == j && x.2.category == 2)) = elp j q := by unfold elp; rw [h.1.1, eRl_cat h.1.2]
    rw [List.filter_cons, hp]
    cases hb : Nat.beq q.1 j with
    | true =>
      rw [hb] at he
      have h0 : elp j q = false := by unfold elp; rw [Nat.eq_of_beq_eq_true hb]; simp
      rw [h0]
      exact elf_ok h.2 he
    | false =>
      rw [hb] at he
      cases h0 : elp j q with
      | true =>
        rw [h0] at he
        obtain ⟨t, h1, h2⟩ := elf_ok h.2 he
        exact ⟨q :: t, h1, h.1, h2⟩
      | false =>
        rw [h0] at he
        exact elf_ok h.2 he
  | [], _ :: _, _, h, _ => absurd h id
  | _ :: _, [], _, h, _ => absurd h id
theorem eargs_ok {ρ : Nat → Int32} {b : Nat} {ad : List Nat} : ∀ {vs : List eV} {xs : List Value} (i : Nat), eRs ρ b ad vs xs → eLs ρ b ad (eargs vs i) (lv_args i xs)
  | [], [], _, _ => trivial
  | v :: vs, x :: xs, i, h => by
    refine ⟨⟨rfl, h.1⟩, ?_⟩
    have hc := eRl_cat h.1
    have e : (if x.category = 2 then i + 2 else i + 1) = i + ecat v := by
      rcases lv_cat x with q | q
      · rw [if_neg (by omega), ← hc, q]
      · rw [if_pos q, ← hc, q]
    show eLs ρ b ad (eargs vs (i + ecat v)) (lv_args (if x.category = 2 then i + 2 else i + 1) xs)
    rw [e]
    exact eargs_ok _ h.2
  | [], _ :: _, _, h => absurd h id
  | _ :: _, [], _, h => absurd h id
/-- an object's cell -/
def ekt (kd : Nat) : FieldType := match kd with
  | 0 => .int
  | 1 => .byte
  | _ => .boolean
def eOb (ρ : Nat → Int32) (b : Nat) (cl : List vw_C) (ad : List Nat) (tys : List (ClassId × FieldType)) (x : eO) (e : va_E) : Prop := match x with
  | .inl ob => ∃ fs, e = .inr (ob.1, fs) ∧ eRs ρ b ad ob.2 fs
  | .inr (.inl ob) => (ob.1 < 3 ∧ ∃ (cA : ClassId) (f : Nat → Int32) (t0 : Nat), e = .inl (cA, ob.2.1, .inl f) ∧ tys[t0]? = some (cA, ekt ob.1) ∧ ∀ j, j < ob.2.1 → ∃ v, tg 32 ob.2.2 j = some v ∧ eRl ρ b ad v (.int (f j)))
    ∨ ∃ (ci : Nat) (r : vw_C) (cA : ClassId) (f : Nat → Option Nat) (t0 : Nat), ob.1 = 3 + ci ∧ cl[ci]? = some r ∧ e = .inl (cA, ob.2.1, .inr (.inr (.inr (.inr f)))) ∧ tys[t0]? = some (cA, .object r.1) ∧ ∀ j, j < ob.2.1 → ∃ v, tg 32 ob.2.2 j = some v ∧ eRl ρ b ad v (va_rf (f j))
  | .inr (.inr n) => ∃ (cA : ClassId) (f : Nat → Int64) (t0 : Nat), e = .inl (cA, n, .inr (.inl f)) ∧ tys[t0]? = some (cA, .long)
theorem eOb_more {ρ : Nat → Int32} {b : Nat} {cl : List vw_C} {ad ad2 : List Nat} {tys tys2 : List (ClassId × FieldType)} (hm : ∀ (o a : Nat), ad[o]? = some a → ad2[o]? = some a) (ht : ∀ (t : Nat) (q : ClassId × FieldType), tys[t]? = some q → tys2[t]? = some q) {x : eO} {e : va_E} (h : eOb ρ b cl ad tys x e) : eOb ρ b cl ad2 tys2 x e := by
  rcases x with ob | ob | n
  · obtain ⟨fs, h1, h2⟩ := h
    exact ⟨fs, h1, eRs_more hm h2⟩
  · rcases h with ⟨h0, cA, f, t0, h1, h2, h3⟩ | ⟨ci, r, cA, f, t0, h0, h4, h1, h2, h3⟩
    · exact Or.inl ⟨h0, cA, f, t0, h1, ht _ _ h2, fun j hj => by obtain ⟨v, q1, q2⟩ := h3 j hj; exact ⟨v, q1, eRl_more hm q2⟩⟩
    · exact Or.inr ⟨ci, r, cA, f, t0, h0, h4, h1, ht _ _ h2, fun j hj => by obtain ⟨v, q1, q2⟩ := h3 j hj; exact ⟨v, q1, eRl_more hm q2⟩⟩
  · obtain ⟨cA, f, t0, h1, h2⟩ := h
    exact ⟨cA, f, t0, h1, ht _ _ h2⟩
def ead (ws : va_W) : List Nat := ws.map (fun q => q.1)
theorem ead_at {ws : va_W} {o a : Nat} : (ead ws)[o]? = some a ↔ ∃ e, ws[o]? = some (a, e) := by
  unfold ead
  rw [List.getElem?_map]
  constructor
  · intro h
    cases hq : ws[o]? with
    | none => rw [hq] at h; cases h
    | some q =>
      rw [hq] at h
      have h : q.1 = a := Option.some.inj h
      exact ⟨q.2, by rw [← h]⟩
  · rintro ⟨e, h⟩
    rw [h]; rfl
theorem ead_set {ws : va_W} {o a : Nat} {e0 e : va_E} (h : ws[o]? = some (a, e0)) : ead (ws.set o (a, e)) = ead ws := by
  apply List.ext_getElem?
  intro k
  unfold ead
  rw [List.getElem?_map, List.getElem?_map]
  have hl : o < ws.length := (List.getElem?_eq_some_iff.mp h).1
  by_cases hk : o = k
  · subst hk
    rw [List.getElem?_set_self hl, h]; rfl
  · rw [List.getElem?_set_ne hk]
theorem ead_app {ws : va_W} {q : Nat × va_E} {o a : Nat} (h : (ead ws)[o]? = some a) : (ead (ws ++ [q]))[o]? = some a := by
  obtain ⟨e, h⟩ := ead_at.mp h
  have hl : o < ws.length := (List.getElem?_eq_some_iff.mp h).1
  exact ead_at.mpr ⟨e, by rw [List.getElem?_append_left hl]; exact h⟩
def eMt (ρ : Nat → Int32) (b : Nat) (cl : List vw_C) (hp : eH) (nx : Nat) (ws : va_W) (tys : List (ClassId × FieldType)) : Prop := ws.length = nx ∧ ∀ (o : Nat) (q : Nat × va_E), ws[o]? = some q → ∃ x, hg hp o = some x ∧ eOb ρ b cl (ead ws) tys x q.2
/-- a cell is written -/
theorem eMt_set {ρ : Nat → Int32} {b : Nat} {cl : List vw_C} {hp hp2 : eH} {nx : Nat} {ws : va_W} {tys : List (ClassId × FieldType)} {o a : Nat} {e0 e : va_E} {x : eO} (h : eMt ρ b cl hp nx ws tys) (hw : ws[o]? = some (a, e0)) (hh : ∀ j, hg hp2 j = if j = o then some x else hg hp j) (hx : eOb ρ b cl (ead ws) tys x e) : eMt ρ b cl hp2 nx (ws.set o (a, e)) tys := by
  refine ⟨by rw [List.length_set]; exact h.1, fun j q hq => ?_⟩
  have hl : o < ws.length := (List.getElem?_eq_some_iff.mp hw).1
  rw [ead_set hw, hh j]
  by_cases hj : j = o
  · subst hj
    rw [List.getElem?_set_self hl] at hq
    cases hq
    exact ⟨x, if_pos rfl, hx⟩
  · rw [List.getElem?_set_ne (fun q => hj q.symm)] at hq
    rw [if_neg hj]
    exact h.2 j q hq
/-- a cell is made -/
theorem eMt_push {ρ : Nat → Int32} {b : Nat} {cl : List vw_C} {hp hp2 : eH} {nx : Nat} {ws : va_W} {tys tys2 : List (ClassId × FieldType)} {q0 : Nat} {e : va_E} {x : eO} (h : eMt ρ b cl hp nx ws tys) (ht : ∀ (t : Nat) (q : ClassId × FieldType), tys[t]? = some q → tys2[t]? = some q) (hh : ∀ j, hg hp2 j = if j = nx then some x else hg hp j) (hx : eOb ρ b cl (ead (ws ++ [(q0, e)])) tys2 x e) : eMt ρ b cl hp2 (nx + 1) (ws ++ [(q0, e)]) tys2 := by
  refine ⟨by rw [List.length_append, h.1]; rfl, fun j q hq => ?_⟩
  rw [hh j]
  by_cases hj : j = nx
  · rw [if_pos hj]
    rw [hj, ← h.1, List.getElem?_append_right (Nat.le_refl _), Nat.sub_self] at hq
    cases hq
    exact ⟨x, rfl, hx⟩
  · rw [if_neg hj]
    have hl : j < (ws ++ [(q0, e)]).length := (List.getElem?_eq_some_iff.mp hq).1
    rw [List.length_append, h.1] at hl
    have hl : j < ws.length := by rw [h.1]; simp at hl; omega
    rw [List.getElem?_append_left hl] at hq
    obtain ⟨y, h1, h2⟩ := h.2 j q hq
    exact ⟨y, h1, eOb_more (fun _ _ z => ead_app z) ht h2⟩
theorem eMt_at {ρ : Nat → Int32} {b : Nat} {cl : List vw_C} {hp : eH} {nx : Nat} {ws : va_W} {tys : List (ClassId × FieldType)} {o a : Nat} {x : eO} (h : eMt ρ b cl hp nx ws tys) (ha : (ead ws)[o]? = some a) (hx : hg hp o = some x) : ∃ e, ws[o]? = some (a, e) ∧ eOb ρ b cl (ead ws) tys x e := by
  obtain ⟨e, he⟩ := ead_at.mp ha
  obtain ⟨y, h1, h2⟩ := h.2 o _ he
  rw [hx] at h1
  cases h1
  exact ⟨e, he, h2⟩
end
section
/-! THE WALKER, its numbers. -/
def ebz (x : Int32) : Nat := (x.toInt + 2147483648).toNat
theorem ebz_int (x : Int32) : (ebz x : Int) = x.toInt + 2147483648 := by
  have h := x.le_toInt
  unfold ebz
  omega
theorem ebz_inj {x y : Int32} : x = y ↔ ebz x = ebz y := by
  rw [← Int32.toInt_inj]
  have h1 := ebz_int x
  have h2 := ebz_int y
  omega
theorem ebz_lt {x y : Int32} : x < y ↔ ebz x < ebz y := by
  rw [Int32.lt_iff_toInt_lt]
  have h1 := ebz_int x
  have h2 := ebz_int y
  omega
theorem ebz_le {x y : Int32} : x ≤ y ↔ ebz x ≤ ebz y := by
  rw [Int32.le_iff_toInt_le]
  have h1 := ebz_int x
  have h2 := ebz_int y
  omega
theorem ebz_top (x : Int32) : ebz x < 4294967296 := by
  have h := x.toInt_lt
  have h1 := ebz_int x
  omega
theorem e_toInt (n : Nat) : (Int32.ofNat n).toInt = (n : Int).bmod 4294967296 := by
  rw [Int32.toInt_ofNat']
theorem ebz_nat (n : Nat) : ebz (Int32.ofNat n) = ebi n := by
  have h1 := ebz_int (Int32.ofNat n)
  rw [e_toInt, Int.bmod_def] at h1
  unfold ebi
  have h2 : ((n : Int) % 4294967296) = ((n % 4294967296 : Nat) : Int) := by omega
  split at h1 <;> omega
theorem e_mod (n : Nat) : Int32.ofNat (n % 4294967296) = Int32.ofNat n := by
  rw [ebz_inj, ebz_nat, ebz_nat]
  unfold ebi
  omega
theorem e_ebi {x : Int32} {n : Nat} (h : ebz x = n) : x = Int32.ofNat (ebi n) := by
  rw [ebz_inj, ebz_nat, ← h]
  have := ebz_top x
  unfold ebi
  omega
theorem e_un (n : Int) : Int32.ofInt n = Int32.ofNat (eun n) := by
  rw [← Int32.toInt_inj, Int32.toInt_ofInt, e_toInt]
  unfold eun
  show n.bmod 4294967296 = _
  have h : ((n % 4294967296).toNat : Int) = n % 4294967296 := by omega
  rw [h]
  exact (@Int.emod_bmod n 4294967296).symm
theorem e_bv (n : Nat) : (Int32.ofNat n).toBitVec = BitVec.ofNat 32 n := rfl
theorem e_and (a b : Nat) : Int32.ofNat a &&& Int32.ofNat b = Int32.ofNat (Nat.land a b) := by
  apply Int32.toBitVec.inj
  apply BitVec.eq_of_toNat_eq
  show (BitVec.ofNat 32 a &&& BitVec.ofNat 32 b).toNat = (BitVec.ofNat 32 (a &&& b)).toNat
  rw [BitVec.toNat_and, BitVec.toNat_ofNat, BitVec.toNat_ofNat, BitVec.toNat_ofNat, Nat.and_mod_two_pow]
theorem e_or (a b : Nat) : Int32.ofNat a ||| Int32.ofNat b = Int32.ofNat (Nat.lor a b) := by
  apply Int32.toBitVec.inj
  apply BitVec.eq_of_toNat_eq
  show (BitVec.ofNat 32 a ||| BitVec.ofNat 32 b).toNat = (BitVec.ofNat 32 (a ||| b)).toNat
  rw [BitVec.toNat_or, BitVec.toNat_ofNat, BitVec.toNat_ofNat, BitVec.toNat_ofNat, Nat.or_mod_two_pow]
theorem e_xor (a b : Nat) : Int32.ofNat a ^^^ Int32.ofNat b = Int32.ofNat (Nat.xor a b) := by
  apply Int32.toBitVec.inj
  apply BitVec.eq_of_toNat_eq
  show (BitVec.ofNat 32 a ^^^ BitVec.ofNat 32 b).toNat = (BitVec.ofNat 32 (a ^^^ b)).toNat
  rw [BitVec.toNat_xor, BitVec.toNat_ofNat, BitVec.toNat_ofNat, BitVec.toNat_ofNat, Nat.xor_mod_two_pow]
theorem e_add (a b : Nat) : Int32.ofNat a + Int32.ofNat b = Int32.ofNat ((a + b) % 4294967296) := by
  rw [e_mod, Int32.ofNat_add]
theorem e_mul (a b : Nat) : Int32.ofNat a * Int32.ofNat b = Int32.ofNat ((a * b) % 4294967296) := by
  rw [e_mod, Int32.ofNat_mul]
theorem e_sub (a b : Nat) : Int32.ofNat a - Int32.ofNat b = Int32.ofNat ((a + (4294967296 - b % 4294967296)) % 4294967296) := by
  rw [e_mod, Int32.ofNat_add, Int32.ofNat_sub _ _ (by omega), e_mod]
  have h0 : Int32.ofNat 4294967296 = 0 := by decide
  rw [h0]
  simp [Int32.sub_eq_add_neg]
theorem e_31 (b : Nat) : Int32.ofNat b &&& 31 = Int32.ofNat (b % 32) := by
  have h := e_and b 31
  have h2 : Nat.land b 31 = b % 32 := Nat.and_two_pow_sub_one_eq_mod b 5
  rw [h2] at h
  exact h
theorem e_sm : ∀ k, k < 32 → ((Int32.ofNat k).toBitVec.smod 32).toNat = k := by decide
theorem e_tn (n : Nat) : (Int32.ofNat n).toBitVec.toNat = n % 4294967296 := by rw [e_bv, BitVec.toNat_ofNat]
theorem e_bvn {x : Int32} {n : Nat} (h : x.toBitVec.toNat = n % 4294967296) : x = Int32.ofNat n := by
  apply Int32.toBitVec.inj
  apply BitVec.eq_of_toNat_eq
  rw [h, e_tn]
theorem e_shl (a b : Nat) : Int32.ofNat a <<< (Int32.ofNat b &&& 31) = Int32.ofNat ((a <<< (b % 32)) % 4294967296) := by
  rw [e_31, e_mod]
  apply e_bvn
  rw [pk_shl _ _ (b % 32) (e_sm _ (Nat.mod_lt _ (by decide))), e_tn, Nat.shiftLeft_eq, show (2 : Nat) ^ 32 = 4294967296 from rfl, Nat.mod_mul_mod]
theorem e_shr (a b : Nat) (ha : a < 4294967296) : Int32.ofNat a >>> (Int32.ofNat b &&& 31) = Int32.ofNat (fshr a b) := by
  rw [e_31, ← Int32.toInt_inj, pk_shr _ _ (b % 32) (e_sm _ (Nat.mod_lt _ (by decide))), e_toInt, e_toInt]
  by_cases h : 2147483648 ≤ a
  · have hb : Nat.ble 2147483648 a = true := Nat.ble_eq_true_of_le h
    have e1 : (a : Int).bmod 4294967296 = Int.negSucc (4294967295 - a) := by
      rw [Int.bmod_def, Int.negSucc_eq]
      split <;> omega
    have hm : (4294967295 - a) >>> (b % 32) ≤ 4294967295 - a := Nat.shiftRight_le _ _
    have e2 : fshr a b = 4294967295 - (4294967295 - a) >>> (b % 32) := by unfold fshr; rw [hb]; rfl
    rw [e1, e2]
    show Int.negSucc ((4294967295 - a) >>> (b % 32)) = _
    generalize (4294967295 - a) >>> (b % 32) = m2 at hm
    rw [Int.bmod_def, Int.negSucc_eq]
    split <;> omega
  · have hb : Nat.ble 2147483648 a = false := by
      cases hz : Nat.ble 2147483648 a with
      | false => rfl
      | true => exact absurd (Nat.le_of_ble_eq_true hz) h
    have e1 : (a : Int).bmod 4294967296 = Int.ofNat a := by
      rw [Int.bmod_def]
      show _ = (a : Int)
      split <;> omega
    have hm : a >>> (b % 32) ≤ a := Nat.shiftRight_le _ _
    have e2 : fshr a b = a >>> (b % 32) := by unfold fshr; rw [hb]; rfl
    rw [e1, e2]
    show Int.ofNat (a >>> (b % 32)) = _
    generalize a >>> (b % 32) = m2 at hm
    rw [Int.bmod_def]
    show (m2 : Int) = _
    split <;> omega
theorem e_um : ∀ k, k < 32 → (((Int32.ofNat k).toUInt32).toBitVec % 32).toNat = k := by decide
theorem e_ushr (a b : Nat) : ((Int32.ofNat a).toUInt32 >>> ((Int32.ofNat b).toUInt32 &&& Int32.toUInt32 31)).toInt32 = Int32.ofNat ((a % 4294967296) >>> (b % 32)) := by
  have h1 : (Int32.ofNat b).toUInt32 &&& Int32.toUInt32 31 = (Int32.ofNat (b % 32)).toUInt32 := by
    rw [← e_31]; rfl
  apply e_bvn
  rw [pk_ushr _ _ (b % 32) (by rw [h1]; exact e_um _ (Nat.mod_lt _ (by decide))), e_tn, Nat.shiftRight_eq_div_pow]
  have h2 : a % 4294967296 / 2 ^ (b % 32) ≤ a % 4294967296 := Nat.div_le_self _ _
  rw [Nat.mod_eq_of_lt (a := a % 4294967296 / 2 ^ (b % 32)) (by omega)]
theorem e_rem (a b : Nat) (ha : a < 2147483648) (hb0 : 0 < b) (hb : b < 2147483648) : Int32.ofNat a - Int32.ofNat a / Int32.ofNat b * Int32.ofNat b = Int32.ofNat (a % b) := pk_rem (a := a) (d := b) ha hb0 hb
/-- conditions -/
def eCd (c : ClassFile.Cond) (x y : Int32) : Prop := match c with
  | .eq => x = y
  | .ne => ¬ x = y
  | .lt => x < y
  | .ge => y ≤ x
  | .gt => y < x
  | .le => x ≤ y
theorem edec_ok (c : ClassFile.Cond) (x y : Int32) : edec c (ebz x) (ebz y) = true ↔ eCd c x y := by
  cases c <;> simp only [edec, eCd]
  · rw [ebz_inj]; exact ⟨fun h => Nat.eq_of_beq_eq_true h, fun h => by rw [h]; exact Nat.beq_refl _⟩
  · rw [ebz_inj]
    cases h : Nat.beq (ebz x) (ebz y) with
    | true => simp [Nat.eq_of_beq_eq_true h]
    | false => simp [Nat.ne_of_beq_eq_false h]
  · rw [ebz_lt]; exact ⟨fun h => Nat.le_of_ble_eq_true h, fun h => Nat.ble_eq_true_of_le h⟩
  · rw [ebz_le]; exact ⟨fun h => Nat.le_of_ble_eq_true h, fun h => Nat.ble_eq_true_of_le h⟩
  · rw [ebz_lt]; exact ⟨fun h => Nat.le_of_ble_eq_true h, fun h => Nat.ble_eq_true_of_le h⟩
  · rw [ebz_le]; exact ⟨fun h => Nat.le_of_ble_eq_true h, fun h => Nat.ble_eq_true_of_le h⟩
theorem eneg_ok (c : ClassFile.Cond) (x y : Int32) : eCd (eneg c) x y ↔ ¬ eCd c x y := by
  cases c <;> simp only [eneg, eCd]
  · exact Decidable.not_not.symm
  · rw [ebz_lt, ebz_le]; omega
  · rw [ebz_lt, ebz_le]; omega
  · rw [ebz_lt, ebz_le]; omega
  · rw [ebz_lt, ebz_le]; omega
theorem eflip_ok (c : ClassFile.Cond) (x y : Int32) : eCd (eflip c) x y ↔ eCd c y x := by
  cases c <;> simp only [eflip, eCd]
  · exact ⟨fun h => h.symm, fun h => h.symm⟩
  · exact ⟨fun h q => h q.symm, fun h q => h q.symm⟩
def eSat (ρ : Nat → Int32) (cs : eC) : Prop := ∀ (j : Nat) (q : Nat × Nat), cs[j]? = some q → q.1 ≤ ebz (ρ j) ∧ ebz (ρ j) ≤ q.2
theorem ein_ok {ρ : Nat → Int32} {cs : eC} {lo hi j : Nat} {k : eC → Bool} (hs : eSat ρ cs) (h : ein lo hi cs j k = true) (h1 : lo ≤ ebz (ρ j)) (h2 : ebz (ρ j) ≤ hi) : ∃ cs2, k cs2 = true ∧ eSat ρ cs2 := by
  unfold ein at h
  rw [ef_eq, ef_eq] at h
  have hb : Nat.ble lo hi = true := Nat.ble_eq_true_of_le (Nat.le_trans h1 h2)
  rw [hb] at h
  have h : es (lo, hi) cs j k = true := h
  rw [es_eq] at h
  refine ⟨_, h, fun i q hq => ?_⟩
  by_cases hi2 : j = i
  · subst hi2
    have hl : j < cs.length := by
      have := (List.getElem?_eq_some_iff.mp hq).1
      rwa [List.length_set] at this
    rw [List.getElem?_set_self hl] at hq
    cases hq
    exact ⟨h1, h2⟩
  · rw [List.getElem?_set_ne hi2] at hq
    exact hs i q hq
theorem erf_ok {ρ : Nat → Int32} {cs : eC} {c : ClassFile.Cond} {j b : Nat} {k : eC → Bool} (hs : eSat ρ cs) (h : erf c j b cs k = true) {y : Int32} (hy : ebz y = b) (hc : eCd c (ρ j) y) : ∃ cs2, k cs2 = true ∧ eSat ρ cs2 := by
  unfold erf at h
  rw [eg_eq] at h
  cases hq : cs[j]? with
  | none => rw [hq] at h; cases h
  | some q =>
    rw [hq] at h
    obtain ⟨q1, q2⟩ := hs j q hq
    have m1 : ∀ a b : Nat, Nat.min a b = min a b := fun _ _ => rfl
    have m2 : ∀ a b : Nat, Nat.max a b = max a b := fun _ _ => rfl
    cases c with
    | eq =>
      have hc : ρ j = y := hc
      have e := ebz_inj.mp hc
      exact ein_ok hs h (by rw [m2]; omega) (by rw [m1]; omega)
    | ne =>
      have hc : ¬ ρ j = y := hc
      have e : ¬ ebz (ρ j) = ebz y := fun z => hc (ebz_inj.mpr z)
      have h : ((bif Nat.beq b 0 then true else ein q.1 (Nat.min q.2 (b - 1)) cs j k) && ein (Nat.max q.1 (b + 1)) q.2 cs j k) = true := h
      rw [Bool.and_eq_true] at h
      rcases Nat.lt_or_gt_of_ne e with z | z
      · have hb : Nat.beq b 0 = false := by
          cases hz : Nat.beq b 0 with
          | false => rfl
          | true => have := Nat.eq_of_beq_eq_true hz; omega
        have h1 := h.1
        rw [hb] at h1
        exact ein_ok hs h1 (by omega) (by rw [m1]; omega)
      · exact ein_ok hs h.2 (by rw [m2]; omega) (by omega)
    | lt =>
      have hc : ρ j < y := hc
      have e := ebz_lt.mp hc
      have h : (bif Nat.beq b 0 then true else ein q.1 (Nat.min q.2 (b - 1)) cs j k) = true := h
      have hb : Nat.beq b 0 = false := by
        cases hz : Nat.beq b 0 with
        | false => rfl
        | true => have := Nat.eq_of_beq_eq_true hz; omega
      rw [hb] at h
      exact ein_ok hs h (by omega) (by rw [m1]; omega)
    | ge =>
      have hc : y ≤ ρ j := hc
      have e := ebz_le.mp hc
      exact ein_ok hs h (by rw [m2]; omega) (by omega)
    | gt =>
      have hc : y < ρ j := hc
      have e := ebz_lt.mp hc
      exact ein_ok hs h (by rw [m2]; omega) (by omega)
    | le =>
      have hc : ρ j ≤ y := hc
      have e := ebz_le.mp hc
      exact ein_ok hs h (by omega) (by rw [m1]; omega)
end
section
/-! THE WALKER, its small steps. -/
section EOP
variable {ρ : Nat → Int32} {b : Nat} {ad : List Nat} {cs : eC}
theorem e_cond {c : Bool} {β : Type} {x y z : β} (h : (bif c then x else y) = z) (hn : ¬ y = z) : c = true ∧ x = z := by
  cases c with
  | true => exact ⟨rfl, h⟩
  | false => exact absurd h hn
theorem e_ff : ¬ (false = true) := Bool.false_ne_true
theorem evar_ok {v : eV} {x : Value} {k : eV → Bool} (hs : eSat ρ cs) (hr : eRl ρ b ad v x) (h : evar v cs k = true) : ∃ w, k w = true ∧ eRl ρ b ad w x := by
  rcases v with n | j | o | n
  · exact ⟨_, h, hr⟩
  · unfold evar at h
    dsimp only at h
    rw [eg_eq] at h
    cases hq : cs[j]? with
    | none => rw [hq] at h; cases h
    | some q =>
      rw [hq] at h
      dsimp only at h
      cases hb : Nat.beq q.1 q.2 with
      | false => rw [hb] at h; exact ⟨_, h, hr⟩
      | true =>
        rw [hb, cond_true, ef_eq] at h
        refine ⟨_, h, ?_⟩
        obtain ⟨h1, h2⟩ := hs j q hq
        have e := Nat.eq_of_beq_eq_true hb
        have hx : x = .int (ρ j) := hr
        show x = .int _
        rw [hx, e_ebi (x := ρ j) (n := q.1) (by omega)]
  · exact ⟨_, h, hr⟩
  · exact ⟨_, h, hr⟩
theorem e2_ok {f : Nat → Nat → Nat} {op : Int32 → Int32 → Int32} (hop : ∀ a c, op (Int32.ofNat a) (Int32.ofNat c) = Int32.ofNat (f a c)) {x y : eV} {X Y : Value} {k : eV → Bool} (hx : eRl ρ b ad x X) (hy : eRl ρ b ad y Y) (h : e2 f x y k = true) : ∃ z1 z2 w, X = .int z1 ∧ Y = .int z2 ∧ k w = true ∧ eRl ρ b ad w (.int (op z1 z2)) := by
  have other : ∀ {x : eV}, eRl ρ b ad x X → (bif eint x then (bif eint y then k eT else false) else false) = true → ∃ z1 z2 w, X = .int z1 ∧ Y = .int z2 ∧ k w = true ∧ eRl ρ b ad w (.int (op z1 z2)) := by
    intro x hx h
    obtain ⟨h1, h⟩ := e_cond h e_ff
    obtain ⟨h2, h⟩ := e_cond h e_ff
    obtain ⟨z1, e1⟩ := eRl_int hx h1
    obtain ⟨z2, e2⟩ := eRl_int hy h2
    exact ⟨z1, z2, eT, e1, e2, h, eRl_any _⟩
  rcases x with n | j | o | n
  · rcases y with m | j | o | m
    · have h : ef (f n m) (fun n => k (.inl n)) = true := h
      rw [ef_eq] at h
      have hx : X = .int (Int32.ofNat n) := hx
      have hy : Y = .int (Int32.ofNat m) := hy
      exact ⟨_, _, _, hx, hy, h, by show Value.int _ = _; rw [hop]⟩
    · exact other hx h
    · exact other hx h
    · exact other hx h
  · exact other hx h
  · exact other hx h
  · exact other hx h
theorem eadd_ok {x y : eV} {X Y : Value} {k : eV → Bool} (hx : eRl ρ b ad x X) (hy : eRl ρ b ad y Y) (h : eadd x y k = true) : ∃ z1 z2 w, X = .int z1 ∧ Y = .int z2 ∧ k w = true ∧ eRl ρ b ad w (.int (z1 + z2)) := by
  unfold eadd at h
  split at h
  · obtain ⟨h1, h⟩ := e_cond h e_ff
    obtain ⟨z2, e2⟩ := eRl_int hy h1
    have hx : X = .int (Int32.ofNat 0) := hx
    refine ⟨_, z2, y, hx, e2, h, ?_⟩
    have e0 : Int32.ofNat 0 + z2 = z2 := by
      rw [show Int32.ofNat 0 = 0 from rfl, Int32.zero_add]
    rw [e0, ← e2]
    exact hy
  · exact e2_ok (op := fun a c => a + c) e_add hx hy h
theorem esub_ok (hρ : ρ 7 = ρ 6 - 6) {x y : eV} {X Y : Value} {k : eV → Bool} (hx : eRl ρ b ad x X) (hy : eRl ρ b ad y Y) (h : esub x y k = true) : ∃ z1 z2 w, X = .int z1 ∧ Y = .int z2 ∧ k w = true ∧ eRl ρ b ad w (.int (z1 - z2)) := by
  unfold esub at h
  split at h
  · have hx : X = .int (ρ 6) := hx
    split at h
    · have hy : Y = .int (Int32.ofNat 6) := hy
      refine ⟨_, _, _, hx, hy, h, ?_⟩
      show Value.int _ = .int (ρ 7)
      rw [hρ]; rfl
    · obtain ⟨h1, h⟩ := e_cond h e_ff
      obtain ⟨z2, e2⟩ := eRl_int hy h1
      exact ⟨_, z2, eT, hx, e2, h, eRl_any _⟩
  · exact e2_ok (op := fun a c => a - c) e_sub hx hy h
theorem eand_ok (hρ : ρ 8 = ρ 0 &&& 63) {x y : eV} {X Y : Value} {k : eV → Bool} (hx : eRl ρ b ad x X) (hy : eRl ρ b ad y Y) (h : eand x y k = true) : ∃ z1 z2 w, X = .int z1 ∧ Y = .int z2 ∧ k w = true ∧ eRl ρ b ad w (.int (z1 &&& z2)) := by
  unfold eand at h
  split at h
  · have hx : X = .int (ρ 0) := hx
    split at h
    · have hy : Y = .int (Int32.ofNat 63) := hy
      refine ⟨_, _, _, hx, hy, h, ?_⟩
      show Value.int _ = .int (ρ 8)
      rw [hρ]; rfl
    · obtain ⟨h1, h⟩ := e_cond h e_ff
      obtain ⟨z2, e2⟩ := eRl_int hy h1
      exact ⟨_, z2, eT, hx, e2, h, eRl_any _⟩
  · exact e2_ok (op := fun a c => a &&& c) e_and hx hy h
theorem eshr_ok {x y : eV} {X Y : Value} {k : eV → Bool} (hx : eRl ρ b ad x X) (hy : eRl ρ b ad y Y) (h : eshr x y k = true) : ∃ z1 z2 w, X = .int z1 ∧ Y = .int z2 ∧ k w = true ∧ eRl ρ b ad w (.int (z1 >>> (z2 &&& 31))) := by
  unfold eshr at h
  split at h
  · obtain ⟨h1, h⟩ := e_cond h e_ff
    obtain ⟨z2, e2⟩ := eRl_int hy h1
    have hx : X = .int (Int32.ofNat 0) := hx
    refine ⟨_, z2, _, hx, e2, h, ?_⟩
    show Value.int _ = .int _
    congr 1
    apply Int32.toBitVec.inj
    show BitVec.sshiftRight' _ _ = _
    simp
  · have hx : X = .int (Int32.ofNat _) := hx
    split at h
    · have hy : Y = .int (Int32.ofNat _) := hy
      cases hb : Nat.ble 4294967296 (_ + 1) with
      | true => rw [hb] at h; cases h
      | false =>
        rw [hb, cond_false, ef_eq] at h
        refine ⟨_, _, _, hx, hy, h, ?_⟩
        show Value.int _ = .int _
        rw [e_shr]
        exact Nat.lt_of_not_le fun q => by rw [Nat.ble_eq_true_of_le q] at hb; cases hb
    · obtain ⟨h1, h⟩ := e_cond h e_ff
      obtain ⟨z2, e2⟩ := eRl_int hy h1
      exact ⟨_, z2, eT, hx, e2, h, eRl_any _⟩
  · have other : ∀ {x : eV}, eRl ρ b ad x X → (bif eint x then (bif eint y then k eT else false) else false) = true → ∃ z1 z2 w, X = .int z1 ∧ Y = .int z2 ∧ k w = true ∧ eRl ρ b ad w (.int (z1 >>> (z2 &&& 31))) := by
      intro x hx h
      obtain ⟨h1, h⟩ := e_cond h e_ff
      obtain ⟨h2, h⟩ := e_cond h e_ff
      obtain ⟨z1, e1⟩ := eRl_int hx h1
      obtain ⟨z2, e2⟩ := eRl_int hy h2
      exact ⟨z1, z2, eT, e1, e2, h, eRl_any _⟩
    rename_i hn1 hn2
    rcases x with n | j | o | n
    · cases n with
      | zero => exact absurd rfl (hn1)
      | succ n => exact absurd rfl (hn2 n)
    · exact other hx h
    · exact other hx h
    · exact other hx h
theorem erem_ok {x y : eV} {X Y : Value} {k : eV → Bool} (hx : eRl ρ b ad x X) (hy : eRl ρ b ad y Y) (h : erem x y k = true) : ∃ z1 z2 w, X = .int z1 ∧ Y = .int z2 ∧ k w = true ∧ eRl ρ b ad w (.int (z1 - z1 / z2 * z2)) ∧ ¬ z2 = 0 := by
  unfold erem at h
  split at h
  · have hx : X = .int (Int32.ofNat _) := hx
    split at h
    · have hy : Y = .int (Int32.ofNat _) := hy
      obtain ⟨h1, h⟩ := e_cond h e_ff
      rw [ef_eq] at h
      simp only [Bool.and_eq_true] at h1
      have a1 := Nat.le_of_ble_eq_true h1.1
      have a2 := Nat.le_of_ble_eq_true h1.2.1
      have a3 := Nat.le_of_ble_eq_true h1.2.2
      refine ⟨_, _, _, hx, hy, h, ?_, ?_⟩
      · show Value.int _ = .int _
        rw [e_rem _ _ (by omega) (by omega) (by omega)]
      · intro q
        have := ebz_inj.mp q
        rw [ebz_nat, show ebz 0 = 2147483648 from rfl] at this
        unfold ebi at this
        omega
    · cases h
  · cases h
theorem ecmp_ok {c : ClassFile.Cond} {x y : eV} {X Y : Value} {kt kf : eC → Bool} (hs : eSat ρ cs) (hx : eRl ρ b ad x X) (hy : eRl ρ b ad y Y) (h : ecmp c x y cs kt kf = true) : ∃ z1 z2, X = .int z1 ∧ Y = .int z2 ∧ (eCd c z1 z2 → ∃ cs2, kt cs2 = true ∧ eSat ρ cs2) ∧ (¬ eCd c z1 z2 → ∃ cs2, kf cs2 = true ∧ eSat ρ cs2) := by
  have other : ∀ {x y : eV}, eRl ρ b ad x X → eRl ρ b ad y Y → eint x = true → (bif eint y then kt cs && kf cs else false) = true → ∃ z1 z2, X = .int z1 ∧ Y = .int z2 ∧ (eCd c z1 z2 → ∃ cs2, kt cs2 = true ∧ eSat ρ cs2) ∧ (¬ eCd c z1 z2 → ∃ cs2, kf cs2 = true ∧ eSat ρ cs2) := by
    intro x y hx hy h1 h
    obtain ⟨h2, h⟩ := e_cond h e_ff
    obtain ⟨z1, e1⟩ := eRl_int hx h1
    obtain ⟨z2, e2⟩ := eRl_int hy h2
    rw [Bool.and_eq_true] at h
    exact ⟨z1, z2, e1, e2, fun _ => ⟨cs, h.1, hs⟩, fun _ => ⟨cs, h.2, hs⟩⟩
  rcases x with n | j | o | n
  · rcases y with m | j | o | m
    · have h : (bif edec c (ebi n) (ebi m) then kt cs else kf cs) = true := h
      have hx : X = .int (Int32.ofNat n) := hx
      have hy : Y = .int (Int32.ofNat m) := hy
      have hd := edec_ok c (Int32.ofNat n) (Int32.ofNat m)
      rw [ebz_nat, ebz_nat] at hd
      refine ⟨_, _, hx, hy, fun q => ?_, fun q => ?_⟩
      · rw [hd.mpr q] at h; exact ⟨cs, h, hs⟩
      · cases hb : edec c (ebi n) (ebi m) with
        | true => exact absurd (hd.mp hb) q
        | false => rw [hb] at h; exact ⟨cs, h, hs⟩
    · have h : (erf (eflip c) j (ebi n) cs kt && erf (eneg (eflip c)) j (ebi n) cs kf) = true := h
      rw [Bool.and_eq_true] at h
      have hx : X = .int (Int32.ofNat n) := hx
      have hy : Y = .int (ρ j) := hy
      refine ⟨_, _, hx, hy, fun q => ?_, fun q => ?_⟩
      · exact erf_ok hs h.1 (ebz_nat n) ((eflip_ok _ _ _).mpr q)
      · exact erf_ok hs h.2 (ebz_nat n) ((eneg_ok _ _ _).mpr (fun z => q ((eflip_ok _ _ _).mp z)))
    · exact other hx hy rfl h
    · exact other hx hy rfl h
  · rcases y with m | j2 | o | m
    · have h : (erf c j (ebi m) cs kt && erf (eneg c) j (ebi m) cs kf) = true := h
      rw [Bool.and_eq_true] at h
      have hx : X = .int (ρ j) := hx
      have hy : Y = .int (Int32.ofNat m) := hy
      refine ⟨_, _, hx, hy, fun q => ?_, fun q => ?_⟩
      · exact erf_ok hs h.1 (ebz_nat m) q
      · exact erf_ok hs h.2 (ebz_nat m) ((eneg_ok _ _ _).mpr q)
    · exact other hx hy rfl h
    · exact other hx hy rfl h
    · exact other hx hy rfl h
  · cases h
  · have h : (bif eint (.inr (.inr (.inr n)) : eV) then (bif eint y then kt cs && kf cs else false) else false) = true := h
    obtain ⟨h1, h⟩ := e_cond h e_ff
    exact other hx hy h1 h
theorem etake_ok : ∀ (n : Nat) {st acc : List eV} {xs accx : List Value} {k : List eV → List eV → Bool}, eRs ρ b ad st xs → eRs ρ b ad acc accx → etake n st acc k = true → ∃ (as r : List eV) (asx rx : List Value), k as r = true ∧ eRs ρ b ad as asx ∧ eRs ρ b ad r rx ∧ (accx.reverse ++ xs) = asx.reverse ++ rx ∧ asx.length = accx.length + n
  | 0, st, acc, xs, accx, k, h1, h2, h => ⟨acc, st, accx, xs, h, h2, h1, rfl, rfl⟩
  | n + 1, st, acc, xs, accx, k, h1, h2, h => by
    cases st with
    | nil => cases h
    | cons v r =>
      obtain ⟨x, t, rfl, hv, hr⟩ := eRs_cons h1
      have h : etake n r (v :: acc) k = true := h
      have h3 : eRs ρ b ad (v :: acc) (x :: accx) := ⟨hv, h2⟩
      obtain ⟨as, r2, asx, rx, q1, q2, q3, q4, q5⟩ := etake_ok n hr h3 h
      refine ⟨as, r2, asx, rx, q1, q2, q3, ?_, ?_⟩
      · rw [← q4, List.reverse_cons, List.append_assoc]; rfl
      · rw [q5, List.length_cons]; omega
theorem ej_ok {t : Nat} {sf : List eI} : ∀ {cd : List eI}, ej cd t = some sf → (∀ q ∈ sf, q ∈ cd)
  | [], h => by cases h
  | q :: cd, h => by
    have h : (bif Nat.beq q.1 t then some (q :: cd) else ej cd t) = some sf := h
    cases hb : Nat.beq q.1 t with
    | true =>
      rw [hb] at h
      have h : some (q :: cd) = some sf := h
      cases h
      exact fun _ z => z
    | false =>
      rw [hb] at h
      exact fun x z => List.mem_cons_of_mem _ (ej_ok h x z)
theorem esw_ok {j : Nat} {go : Int → eC → Bool} (hs : eSat ρ cs) : ∀ {offs : List Int} {b0 : Nat}, esw j cs go offs b0 = true → ∀ (i : Nat) (off : Int), offs[i]? = some off → ebz (ρ j) = b0 + i → ∃ cs2, go off cs2 = true ∧ eSat ρ cs2
  | [], _, _, i, off, h, _ => by simp at h
  | o :: offs, b0, h, i, off, ho, he => by
    have h : (erf .eq j b0 cs (go o) && esw j cs go offs (b0 + 1)) = true := h
    rw [Bool.and_eq_true] at h
    cases i with
    | zero =>
      rw [List.getElem?_cons_zero] at ho
      cases ho
      exact erf_ok hs h.1 (y := ρ j) he rfl
    | succ i =>
      rw [List.getElem?_cons_succ] at ho
      exact esw_ok hs h.2 i off ho (by omega)
theorem eix_ok {j : Nat} {go : Nat → eC → Bool} (hs : eSat ρ cs) : ∀ (n : Nat) {i : Nat}, eix j cs go n i = true → ∀ d, d < n → ebz (ρ j) = i + d + 2147483648 → ∃ cs2, go (i + d) cs2 = true ∧ eSat ρ cs2
  | 0, _, _, d, h, _ => by omega
  | n + 1, i, h, d, hd, he => by
    have h : (erf .eq j (i + 2147483648) cs (go i) && eix j cs go n (i + 1)) = true := h
    rw [Bool.and_eq_true] at h
    cases d with
    | zero => exact erf_ok hs h.1 (y := ρ j) (by omega) rfl
    | succ d =>
      have := eix_ok hs n h.2 d (by omega) (by omega)
      rwa [show i + 1 + d = i + (d + 1) by omega] at this
end EOP
end
section
/-! THE WALKER IS RIGHT: where it says true, the machine comes to the end. First what 'right' is. -/
/-- a local that is written is one of the method's, and a branch goes to a place of the code -/
def est (pc : Nat) (i : Instr) (n : Nat) : Bool := match i with
  | .if_icmp _ off => decide (0 ≤ (pc : Int) + off)
  | .ifCond _ off => decide (0 ≤ (pc : Int) + off)
  | .istore j => Nat.blt j n
  | .istore_n j => Nat.blt j.val n
  | .astore j => Nat.blt j n
  | .astore_n j => Nat.blt j.val n
  | .iinc j _ => Nat.blt j n
  | _ => true
/-- an instruction of its usual length -/
def elen (i : Instr) (len : Nat) : Bool := match i with
  | .iload _ => Nat.beq len 2
  | .iload_n _ => Nat.beq len 1
  | .aload _ => Nat.beq len 2
  | .aload_n _ => Nat.beq len 1
  | .istore _ => Nat.beq len 2
  | .istore_n _ => Nat.beq len 1
  | .astore _ => Nat.beq len 2
  | .astore_n _ => Nat.beq len 1
  | .iconst _ => Nat.beq len 1
  | .bipush n => Nat.beq len 2 && decide (-128 ≤ n ∧ n < 128)
  | .sipush n => Nat.beq len 3 && decide (-32768 ≤ n ∧ n < 32768)
  | .ldc _ => Nat.beq len 2
  | .ldc_w _ => Nat.beq len 3
  | .ldc2_w _ => Nat.beq len 3
  | .iinc _ _ => Nat.beq len 3
  | .goto _ => Nat.beq len 3
  | .ifCond _ _ => Nat.beq len 3
  | .if_icmp _ _ => Nat.beq len 3
  | .tableswitch _ _ _ _ => true
  | .getfield _ => Nat.beq len 3
  | .putfield _ => Nat.beq len 3
  | .new _ => Nat.beq len 3
  | .newarray _ => Nat.beq len 2
  | .anewarray _ => Nat.beq len 3
  | .invokestatic _ => Nat.beq len 3
  | .invokevirtual _ => Nat.beq len 3
  | .invokespecial _ => Nat.beq len 3
  | _ => Nat.beq len 1
def eDk (cc : ByteArray) (nL : Nat) (q : eI) : Prop := decode cc q.1 = .ok (q.2.1, q.2.2) ∧ est q.1 q.2.1 nL = true ∧ elen q.2.1 q.2.2 = true
section EDEF
variable (ρ : Nat → Int32) (b base : Nat) (D : va_G) (cl : List vw_C) (Tb : List Cond) (NF : State → Prop) (l : Launch) (CN : Nat → String)
def eWd (s : State) (H : Heap) (locs : List Loc) (hp : eH) (nx : Nat) (ws : va_W) (tys : List (ClassId × FieldType)) : Prop := va_K D cl tys s ∧ va_P D cl ws H ∧ va_D (fun q => base ≤ q) ws ∧ va_S (fun q => base ≤ q) s.heap H locs ∧ eMt ρ b cl hp nx ws tys
def eScr (s : State) : Prop := ∃ (L : Nat) (xs : Nat → Int32), va_X b L xs s s.heap ∧ b < s.heap.size ∧ b < base ∧ L ≤ 6 ∧ ρ 6 = Int32.ofNat L ∧ ∀ j, j < L → ρ j = xs j
def eCx (p : Program) (R : Room) (s : State) (m : MethodId) (args : Array Value) (meth : Method) (c : Code) (mi : eM) (cc : ByteArray) (nL : Nat) : Prop :=
  p.tables.exec = Jvm.exec ∧ c.code = cc ∧ c.maxLocals = nL ∧ s.vm.findClass (CN mi.1) = some m.cls ∧ (∀ w ∈ Tb, w.before args s = true) ∧ NF s ∧ base ≤ s.heap.size
  ∧ (R.cells = mi.2.1 ∧ R.slots = mi.2.2.1 ∧ R.frames = mi.2.2.2.1 ∧ R.locals = mi.2.2.2.2.1) ∧ (∀ q ∈ mi.2.2.2.2.2.2, eDk cc nL q) ∧ (mi.2.2.2.2.2.1 = 10 → meth.name = "<init>") ∧ (mi.2.2.2.2.2.1 = 20 → eScr ρ b base s)
def eRet (ad : List Nat) (kd : Nat) (ret : Option eV) (i : Instr) (stA : List Value) : Prop := match ret with
  | none => (kd = 0 ∨ kd = 10) ∧ i = .return_ ∧ stA = []
  | some v => ∃ x, stA = [x] ∧ eRl ρ b ad v x ∧ ((i = .ireturn ∧ eint v = true ∧ (kd = 1 ∨ ((kd = 2 ∨ kd = 20) ∧ ∃ n, v = .inl n ∧ n ≤ 1))) ∨ (i = .areturn ∧ kd = 4 ∧ eref v = true))
def eRH (p : Program) (e : Env) (R : Room) (s : State) (m : MethodId) (args : Array Value) (below : List Frame) (meth : Method) (c : Code) (Q : State → Prop) (mi : eM) (cc : ByteArray) (ad0 : List Nat) (k : eK) : Prop :=
  ∀ (ret : Option eV) (hp : eH) (nx : Nat) (cs : eC), k ret hp nx cs = true → eSat ρ cs → ∀ (H : Heap) (locs : List Loc) (ws : va_W) (tys : List (ClassId × FieldType)), eWd ρ b base D cl s H locs hp nx ws tys → (∀ (o a : Nat), ad0[o]? = some a → (ead ws)[o]? = some a) →
    ∀ (i : Instr) (pc : Nat) (lsA : Array Slot) (stA : List Value), eRet ρ b (ead ws) mi.2.2.2.2.2.1 ret i stA → decode cc pc = .ok (i, 1) → ∀ (ce sl : Nat), ce ≤ mi.2.1 → sl ≤ mi.2.2.1 → W p l e R s m args below meth c H locs ce sl Q (F0 m pc lsA stA)
def eGl (mi : eM) (pc : Nat) (cd : List eI) (ls : List (Nat × eV)) (st : List eV) (hp : eH) (nx ce sl : Nat) (cs : eC) (k : eK) : Prop :=
  ∀ (p : Program) (e : Env) (R : Room) (s : State) (m : MethodId) (args : Array Value) (below : List Frame) (meth : Method) (c : Code) (Q : State → Prop) (cc : ByteArray) (nL : Nat) (ad0 : List Nat),
    eCx ρ b base Tb NF CN p R s m args meth c mi cc nL → eRH ρ b base D cl l p e R s m args below meth c Q mi cc ad0 k →
    ∀ (H : Heap) (locs : List Loc) (ws : va_W) (tys : List (ClassId × FieldType)) (lsA : Array Slot) (lv : List (Nat × Value)) (stA : List Value),
      (∀ q ∈ cd, eDk cc nL q) → eSat ρ cs → eWd ρ b base D cl s H locs hp nx ws tys → (∀ (o a : Nat), ad0[o]? = some a → (ead ws)[o]? = some a) → lv_has lsA nL lv → eLs ρ b (ead ws) ls lv → eRs ρ b (ead ws) st stA →
      W p l e R s m args below meth c H locs ce sl Q (F0 m pc lsA stA)
def eSn (ih : eR) : Prop := ∀ (mi : eM) (pc : Nat) (cd : List eI) (ls : List (Nat × eV)) (st : List eV) (hp : eH) (nx ce sl : Nat) (cs : eC) (k : eK), ih mi pc cd ls st hp nx ce sl cs k = true → eGl ρ b base D cl Tb NF l CN mi pc cd ls st hp nx ce sl cs k
/-- a handler that is right for its instruction -/
def eStp (h : eHd) (i : Instr) (len : Nat) : Prop := ∀ (ih : eR), eSn ρ b base D cl Tb NF l CN ih → ∀ (mi : eM) (pc : Nat) (cd : List eI) (ls : List (Nat × eV)) (st : List eV) (hp : eH) (nx ce sl : Nat) (cs : eC) (k : eK), h ih mi pc cd ls st hp nx ce sl cs k = true →
  ∀ (p : Program) (e : Env) (R : Room) (s : State) (m : MethodId) (args : Array Value) (below : List Frame) (meth : Method) (c : Code) (Q : State → Prop) (cc : ByteArray) (nL : Nat) (ad0 : List Nat),
    eCx ρ b base Tb NF CN p R s m args meth c mi cc nL → eRH ρ b base D cl l p e R s m args below meth c Q mi cc ad0 k →
    ∀ (H : Heap) (locs : List Loc) (ws : va_W) (tys : List (ClassId × FieldType)) (lsA : Array Slot) (lv : List (Nat × Value)) (stA : List Value),
      eDk cc nL (pc, i, len) → (∀ q ∈ cd, eDk cc nL q) → eSat ρ cs → eWd ρ b base D cl s H locs hp nx ws tys → (∀ (o a : Nat), ad0[o]? = some a → (ead ws)[o]? = some a) → lv_has lsA nL lv → eLs ρ b (ead ws) ls lv → eRs ρ b (ead ws) st stA →
      W p l e R s m args below meth c H locs ce sl Q (F0 m pc lsA stA)
end EDEF
section ES1
variable {ρ : Nat → Int32} {b base : Nat} {D : va_G} {cl : List vw_C} {Tb : List Cond} {NF : State → Prop} {l : Launch} {CN : Nat → String}
/-- from the walker's next state to the machine's -/
theorem eNx {ih : eR} (IH : eSn ρ b base D cl Tb NF l CN ih) {mi : eM} {pc : Nat} {cd : List eI} {ls : List (Nat × eV)} {st : List eV} {hp : eH} {nx ce sl : Nat} {cs : eC} {k : eK} (h : ih mi pc cd ls st hp nx ce sl cs k = true)
    {p : Program} {e : Env} {R : Room} {s : State} {m : MethodId} {args : Array Value} {below : List Frame} {meth : Method} {c : Code} {Q : State → Prop} {cc : ByteArray} {nL : Nat} {ad0 : List Nat}
    (X : eCx ρ b base Tb NF CN p R s m args meth c mi cc nL) (hR : eRH ρ b base D cl l p e R s m args below meth c Q mi cc ad0 k)
    {H : Heap} {locs : List Loc} {ws : va_W} {tys : List (ClassId × FieldType)} {lsA : Array Slot} {lv : List (Nat × Value)} {stA : List Value}
    (hcd : ∀ q ∈ cd, eDk cc nL q) (hs : eSat ρ cs) (hw : eWd ρ b base D cl s H locs hp nx ws tys) (had : ∀ (o a : Nat), ad0[o]? = some a → (ead ws)[o]? = some a) (hl : lv_has lsA nL lv) (hls : eLs ρ b (ead ws) ls lv) (hst : eRs ρ b (ead ws) st stA) :
    W p l e R s m args below meth c H locs ce sl Q (F0 m pc lsA stA) := IH mi pc cd ls st hp nx ce sl cs k h p e R s m args below meth c Q cc nL ad0 X hR H locs ws tys lsA lv stA hcd hs hw had hl hls hst
theorem s_Load {j len : Nat} {i : Instr} (hi : (i = .iload j ∧ len = 2) ∨ ∃ f : Fin 4, f.val = j ∧ i = .iload_n f ∧ len = 1) : eStp ρ b base D cl Tb NF l CN (hLoad len j) i len := by
  intro ih IH mi pc cd ls st hp nx ce sl cs k h p e R s m args below meth c Q cc nL ad0 X hR H locs ws tys lsA lv stA hd hcd hs hw had hl hls hst
  unfold hLoad at h
  cases hv : el ls j with
  | none => rw [hv] at h; cases h
  | some v =>
    rw [hv] at h
    obtain ⟨h1, h⟩ := e_cond h e_ff
    obtain ⟨kx, x, hk, hr⟩ := el_ok hls hv
    obtain ⟨w, hw1, hw2⟩ := evar_ok hs hr h
    obtain ⟨z, rfl⟩ := eRl_int hr h1
    have hst2 : eRs ρ b (ead ws) (w :: st) (.int z :: stA) := ⟨hw2, hst⟩
    rcases hi with ⟨rfl, rfl⟩ | ⟨f, hf, rfl, rfl⟩
    · exact lv_iload X.1 X.2.1 hd.1 (lv_at hl kx hk) (eNx IH hw1 X hR hcd hs hw had hl hls hst2)
    · exact lv_iload_n X.1 X.2.1 hd.1 hf (lv_at hl kx hk) (eNx IH hw1 X hR hcd hs hw had hl hls hst2)
theorem s_Loadr {j len : Nat} {i : Instr} (hi : (i = .aload j ∧ len = 2) ∨ ∃ f : Fin 4, f.val = j ∧ i = .aload_n f ∧ len = 1) : eStp ρ b base D cl Tb NF l CN (hLoadr len j) i len := by
  intro ih IH mi pc cd ls st hp nx ce sl cs k h p e R s m args below meth c Q cc nL ad0 X hR H locs ws tys lsA lv stA hd hcd hs hw had hl hls hst
  unfold hLoadr at h
  cases hv : el ls j with
  | none => rw [hv] at h; cases h
  | some v =>
    rw [hv] at h
    obtain ⟨h1, h⟩ := e_cond h e_ff
    obtain ⟨kx, x, hk, hr⟩ := el_ok hls hv
    have hx : ∃ a, x = .ref a := by
      rw [Bool.or_eq_true] at h1
      rcases h1 with h1 | h1
      · obtain ⟨o, a, -, -, q⟩ := eRl_ref hr h1
        exact ⟨a, q⟩
      · rcases v with n | j | o | n
        · cases h1
        · cases h1
        · cases h1
        · match n, h1, hr with
          | 0, h1, _ => cases h1
          | 1, h1, _ => cases h1
          | 2, h1, _ => cases h1
          | _ + 3, _, hr => exact ⟨b, hr⟩
    obtain ⟨a, rfl⟩ := hx
    have hst2 : eRs ρ b (ead ws) (v :: st) (.ref a :: stA) := ⟨hr, hst⟩
    rcases hi with ⟨rfl, rfl⟩ | ⟨f, hf, rfl, rfl⟩
    · exact lv_aload X.1 X.2.1 hd.1 (lv_at hl kx hk) (eNx IH h X hR hcd hs hw had hl hls hst2)
    · exact lv_aload_n X.1 X.2.1 hd.1 hf (lv_at hl kx hk) (eNx IH h X hR hcd hs hw had hl hls hst2)
theorem s_Store {j len : Nat} {i : Instr} (hi : (i = .istore j ∧ len = 2) ∨ ∃ f : Fin 4, f.val = j ∧ i = .istore_n f ∧ len = 1) : eStp ρ b base D cl Tb NF l CN (hStore len j false) i len := by
  intro ih IH mi pc cd ls st hp nx ce sl cs k h p e R s m args below meth c Q cc nL ad0 X hR H locs ws tys lsA lv stA hd hcd hs hw had hl hls hst
  cases st with
  | nil => cases h
  | cons v r =>
    obtain ⟨h1, h⟩ := e_cond h e_ff
    have h1 : eint v = true := h1
    obtain ⟨x, t, rfl, hv, hr⟩ := eRs_cons hst
    obtain ⟨z, rfl⟩ := eRl_int hv h1
    obtain ⟨t2, h2, h3⟩ := elf_ok hls h
    rcases hi with ⟨rfl, rfl⟩ | ⟨f, hf, rfl, rfl⟩
    · exact lv_istore X.1 X.2.1 hd.1 hl (Nat.le_of_ble_eq_true hd.2.1) rfl (fun lsB hlB => eNx IH h2 X hR hcd hs hw had hlB ⟨⟨rfl, hv⟩, h3⟩ hr)
    · subst hf
      exact lv_istore_n X.1 X.2.1 hd.1 rfl hl (Nat.le_of_ble_eq_true hd.2.1) rfl (fun lsB hlB => eNx IH h2 X hR hcd hs hw had hlB ⟨⟨rfl, hv⟩, h3⟩ hr)
theorem s_Storer {j len : Nat} {i : Instr} (hi : (i = .astore j ∧ len = 2) ∨ ∃ f : Fin 4, f.val = j ∧ i = .astore_n f ∧ len = 1) : eStp ρ b base D cl Tb NF l CN (hStore len j true) i len := by
  intro ih IH mi pc cd ls st hp nx ce sl cs k h p e R s m args below meth c Q cc nL ad0 X hR H locs ws tys lsA lv stA hd hcd hs hw had hl hls hst
  cases st with
  | nil => cases h
  | cons v r =>
    obtain ⟨h1, h⟩ := e_cond h e_ff
    have h1 : eref v = true := h1
    obtain ⟨x, t, rfl, hv, hr⟩ := eRs_cons hst
    obtain ⟨o, a, hvo, hoa, rfl⟩ := eRl_ref hv h1
    obtain ⟨t2, h2, h3⟩ := elf_ok hls h
    rcases hi with ⟨rfl, rfl⟩ | ⟨f, hf, rfl, rfl⟩
    · exact lv_astore X.1 X.2.1 hd.1 hl (Nat.le_of_ble_eq_true hd.2.1) rfl (fun lsB hlB => eNx IH h2 X hR hcd hs hw had hlB ⟨⟨rfl, hv⟩, h3⟩ hr)
    · subst hf
      exact lv_astore_n X.1 X.2.1 hd.1 rfl hl (Nat.le_of_ble_eq_true hd.2.1) rfl (fun lsB hlB => eNx IH h2 X hR hcd hs hw had hlB ⟨⟨rfl, hv⟩, h3⟩ hr)
theorem s_iconst {n : Int} : eStp ρ b base D cl Tb NF l CN (hPush 1 (eun n)) (.iconst n) 1 := by
  intro ih IH mi pc cd ls st hp nx ce sl cs k h p e R s m args below meth c Q cc nL ad0 X hR H locs ws tys lsA lv stA hd hcd hs hw had hl hls hst
  have hst2 : eRs ρ b (ead ws) (.inl (eun n) :: st) (.int (Int32.ofNat (eun n)) :: stA) := ⟨rfl, hst⟩
  exact lv_iconst X.1 X.2.1 hd.1 (e_un n) (eNx IH h X hR hcd hs hw had hl hls hst2)
theorem s_bipush {n : Int} (hn : -128 ≤ n ∧ n < 128) : eStp ρ b base D cl Tb NF l CN (hPush 2 (eun n)) (.bipush n) 2 := by
  intro ih IH mi pc cd ls st hp nx ce sl cs k h p e R s m args below meth c Q cc nL ad0 X hR H locs ws tys lsA lv stA hd hcd hs hw had hl hls hst
  have hst2 : eRs ρ b (ead ws) (.inl (eun n) :: st) (.int (Int32.ofNat (eun n)) :: stA) := ⟨rfl, hst⟩
  have e1 : (Int8.ofInt n).toInt32 = Int32.ofNat (eun n) := by
    rw [← e_un, ← Int32.toInt_inj, Int8.toInt_toInt32, Int8.toInt_ofInt_of_le (by omega) (by omega), Int32.toInt_ofInt_of_le (by omega) (by omega)]
  exact lv_bipush X.1 X.2.1 hd.1 e1 (eNx IH h X hR hcd hs hw had hl hls hst2)
theorem s_sipush {n : Int} (hn : -32768 ≤ n ∧ n < 32768) : eStp ρ b base D cl Tb NF l CN (hPush 3 (eun n)) (.sipush n) 3 := by
  intro ih IH mi pc cd ls st hp nx ce sl cs k h p e R s m args below meth c Q cc nL ad0 X hR H locs ws tys lsA lv stA hd hcd hs hw had hl hls hst
  have hst2 : eRs ρ b (ead ws) (.inl (eun n) :: st) (.int (Int32.ofNat (eun n)) :: stA) := ⟨rfl, hst⟩
  have e1 : (Int16.ofInt n).toInt32 = Int32.ofNat (eun n) := by
    rw [← e_un, ← Int32.toInt_inj, Int16.toInt_toInt32, Int16.toInt_ofInt_of_le (by omega) (by omega), Int32.toInt_ofInt_of_le (by omega) (by omega)]
  exact lv_sipush X.1 X.2.1 hd.1 e1 (eNx IH h X hR hcd hs hw had hl hls hst2)
theorem s_iinc {j : Nat} {n : Int} : eStp ρ b base D cl Tb NF l CN (hInc j n) (.iinc j n) 3 := by
  intro ih IH mi pc cd ls st hp nx ce sl cs k h p e R s m args below meth c Q cc nL ad0 X hR H locs ws tys lsA lv stA hd hcd hs hw had hl hls hst
  unfold hInc at h
  cases hv : el ls j with
  | none => rw [hv] at h; cases h
  | some v =>
    rw [hv] at h
    obtain ⟨kx, x, hk, hr⟩ := el_ok hls hv
    have hc0 : eRl ρ b (ead ws) (.inl (eun n)) (.int (Int32.ofNat (eun n))) := rfl
    obtain ⟨z1, z2, w, e1, e2, h1, h2⟩ := eadd_ok hc0 hr h
    cases e1
    subst e2
    obtain ⟨t2, h3, h4⟩ := elf_ok hls h1
    exact lv_iinc X.1 X.2.1 hd.1 hl hk (by rw [e_un, Int32.add_comm]) (Nat.le_of_ble_eq_true hd.2.1) rfl (fun lsB hlB => eNx IH h3 X hR hcd hs hw had hlB ⟨⟨rfl, h2⟩, h4⟩ hst)
/-- an instruction that makes one int of two -/
theorem s_Bin {i : Instr} {g : eV → eV → (eV → Bool) → Bool} {op : Int32 → Int32 → Int32}
    (hg : ∀ (ad : List Nat) (x y : eV) (X Y : Value) (k : eV → Bool), eRl ρ b ad x X → eRl ρ b ad y Y → g x y k = true → ∃ z1 z2 w, X = .int z1 ∧ Y = .int z2 ∧ k w = true ∧ eRl ρ b ad w (.int (op z1 z2)))
    (hrow : ∀ {p : Program} {e : Env} {R : Room} {s : State} {m : MethodId} {args : Array Value} {below : List Frame} {meth : Method} {c : Code} {Q : State → Prop} {cc : ByteArray} {H : Heap} {locs : List Loc} {ce sl pc : Nat} {lsA : Array Slot} {rest : List Value} {z1 z2 : Int32}, p.tables.exec = Jvm.exec → c.code = cc → decode cc pc = .ok (i, 1) → W p l e R s m args below meth c H locs ce sl Q (F0 m (pc + 1) lsA (.int (op z1 z2) :: rest)) → W p l e R s m args below meth c H locs ce sl Q (F0 m pc lsA (.int z2 :: .int z1 :: rest))) :
    eStp ρ b base D cl Tb NF l CN (hBin g) i 1 := by
  intro ih IH mi pc cd ls st hp nx ce sl cs k h p e R s m args below meth c Q cc nL ad0 X hR H locs ws tys lsA lv stA hd hcd hs hw had hl hls hst
  match st, h, hst with
  | y :: x :: r, h, hst =>
    obtain ⟨yA, t0, rfl, hy, hst0⟩ := eRs_cons hst
    obtain ⟨xA, t, rfl, hx, hst1⟩ := eRs_cons hst0
    have h : g x y (fun v => ih mi (pc + 1) cd ls (v :: r) hp nx ce sl cs k) = true := h
    obtain ⟨z1, z2, w, rfl, rfl, h1, h2⟩ := hg _ _ _ _ _ _ hx hy h
    have hst2 : eRs ρ b (ead ws) (w :: r) (.int (op z1 z2) :: t) := ⟨h2, hst1⟩
    exact hrow X.1 X.2.1 hd.1 (eNx IH h1 X hR hcd hs hw had hl hls hst2)
  | [_], h, _ => cases h
  | [], h, _ => cases h
theorem s_irem : eStp ρ b base D cl Tb NF l CN (hBin erem) .irem 1 := by
  intro ih IH mi pc cd ls st hp nx ce sl cs k h p e R s m args below meth c Q cc nL ad0 X hR H locs ws tys lsA lv stA hd hcd hs hw had hl hls hst
  match st, h, hst with
  | y :: x :: r, h, hst =>
    obtain ⟨yA, t0, rfl, hy, hst0⟩ := eRs_cons hst
    obtain ⟨xA, t, rfl, hx, hst1⟩ := eRs_cons hst0
    have h : erem x y (fun v => ih mi (pc + 1) cd ls (v :: r) hp nx ce sl cs k) = true := h
    obtain ⟨z1, z2, w, rfl, rfl, h1, h2, h3⟩ := erem_ok hx hy h
    have hst2 : eRs ρ b (ead ws) (w :: r) (.int (z1 - z1 / z2 * z2) :: t) := ⟨h2, hst1⟩
    exact lv_irem X.1 X.2.1 hd.1 h3 (eNx IH h1 X hR hcd hs hw had hl hls hst2)
  | [_], h, _ => cases h
  | [], h, _ => cases h
theorem s_i2b : eStp ρ b base D cl Tb NF l CN hI2b .i2b 1 := by
  intro ih IH mi pc cd ls st hp nx ce sl cs k h p e R s m args below meth c Q cc nL ad0 X hR H locs ws tys lsA lv stA hd hcd hs hw had hl hls hst
  cases st with
  | nil => cases h
  | cons x r =>
    obtain ⟨h1, h⟩ := e_cond h e_ff
    obtain ⟨xA, t, rfl, hx, hst1⟩ := eRs_cons hst
    obtain ⟨z, rfl⟩ := eRl_int hx h1
    have hst2 : eRs ρ b (ead ws) (eT :: r) (.int z.toInt8.toInt32 :: t) := ⟨eRl_any _, hst1⟩
    exact lv_i2b X.1 X.2.1 hd.1 rfl (eNx IH h X hR hcd hs hw had hl hls hst2)
theorem s_dup : eStp ρ b base D cl Tb NF l CN hDup .dup 1 := by
  intro ih IH mi pc cd ls st hp nx ce sl cs k h p e R s m args below meth c Q cc nL ad0 X hR H locs ws tys lsA lv stA hd hcd hs hw had hl hls hst
  cases st with
  | nil => cases h
  | cons x r =>
    obtain ⟨h1, h⟩ := e_cond h e_ff
    obtain ⟨xA, t, rfl, hx, hst1⟩ := eRs_cons hst
    have hst2 : eRs ρ b (ead ws) (x :: x :: r) (xA :: xA :: t) := ⟨hx, hx, hst1⟩
    exact lv_dup X.1 X.2.1 hd.1 (by rw [eRl_cat hx]; exact Nat.eq_of_beq_eq_true h1) (eNx IH h X hR hcd hs hw had hl hls hst2)
theorem s_pop : eStp ρ b base D cl Tb NF l CN hPop .pop 1 := by
  intro ih IH mi pc cd ls st hp nx ce sl cs k h p e R s m args below meth c Q cc nL ad0 X hR H locs ws tys lsA lv stA hd hcd hs hw had hl hls hst
  cases st with
  | nil => cases h
  | cons x r =>
    obtain ⟨h1, h⟩ := e_cond h e_ff
    obtain ⟨xA, t, rfl, hx, hst1⟩ := eRs_cons hst
    exact lv_pop X.1 X.2.1 hd.1 (by rw [eRl_cat hx]; exact Nat.eq_of_beq_eq_true h1) (eNx IH h X hR hcd hs hw had hl hls hst1)
theorem s_dup2 : eStp ρ b base D cl Tb NF l CN hDup2 .dup2 1 := by
  intro ih IH mi pc cd ls st hp nx ce sl cs k h p e R s m args below meth c Q cc nL ad0 X hR H locs ws tys lsA lv stA hd hcd hs hw had hl hls hst
  match st, h, hst with
  | y :: x :: r, h, hst =>
    obtain ⟨h1, h⟩ := e_cond h e_ff
    rw [Bool.and_eq_true] at h1
    obtain ⟨yA, t0, rfl, hy, hst0⟩ := eRs_cons hst
    obtain ⟨xA, t, rfl, hx, hst1⟩ := eRs_cons hst0
    have hst2 : eRs ρ b (ead ws) (y :: x :: y :: x :: r) (yA :: xA :: yA :: xA :: t) := ⟨hy, hx, hy, hx, hst1⟩
    exact lv_dup2_11 X.1 X.2.1 hd.1 (by rw [eRl_cat hy]; exact Nat.eq_of_beq_eq_true h1.1) (by rw [eRl_cat hx]; exact Nat.eq_of_beq_eq_true h1.2) (eNx IH h X hR hcd hs hw had hl hls hst2)
  | [_], h, _ => cases h
  | [], h, _ => cases h
end ES1
end
section
section ES2
variable {ρ : Nat → Int32} {b base : Nat} {D : va_G} {cl : List vw_C} {Tb : List Cond} {NF : State → Prop} {l : Launch} {CN : Nat → String}
theorem eJm {ih : eR} (IH : eSn ρ b base D cl Tb NF l CN ih) {mi : eM} {pc : Nat} {off : Int} {ls : List (Nat × eV)} {st : List eV} {hp : eH} {nx ce sl : Nat} {cs : eC} {k : eK} (h : eJmp ih mi pc off ls st hp nx ce sl cs k = true)
    {p : Program} {e : Env} {R : Room} {s : State} {m : MethodId} {args : Array Value} {below : List Frame} {meth : Method} {c : Code} {Q : State → Prop} {cc : ByteArray} {nL : Nat} {ad0 : List Nat}
    (X : eCx ρ b base Tb NF CN p R s m args meth c mi cc nL) (hR : eRH ρ b base D cl l p e R s m args below meth c Q mi cc ad0 k)
    {H : Heap} {locs : List Loc} {ws : va_W} {tys : List (ClassId × FieldType)} {lsA : Array Slot} {lv : List (Nat × Value)} {stA : List Value}
    (hs : eSat ρ cs) (hw : eWd ρ b base D cl s H locs hp nx ws tys) (had : ∀ (o a : Nat), ad0[o]? = some a → (ead ws)[o]? = some a) (hl : lv_has lsA nL lv) (hls : eLs ρ b (ead ws) ls lv) (hst : eRs ρ b (ead ws) st stA) :
    ∃ t : Nat, (pc : Int) + off = (t : Int) ∧ W p l e R s m args below meth c H locs ce sl Q (F0 m t lsA stA) := by
  unfold eJmp at h
  split at h
  · rename_i t ht
    split at h
    · rename_i cd hcd
      rw [ef_eq] at h
      exact ⟨t, ht, eNx IH h X hR (fun q hq => X.2.2.2.2.2.2.2.2.1 q (ej_ok hcd q hq)) hs hw had hl hls hst⟩
    · cases h
  · cases h
theorem s_goto {off : Int} : eStp ρ b base D cl Tb NF l CN (hGoto off) (.goto off) 3 := by
  intro ih IH mi pc cd ls st hp nx ce sl cs k h p e R s m args below meth c Q cc nL ad0 X hR H locs ws tys lsA lv stA hd hcd hs hw had hl hls hst
  obtain ⟨t, ht, hW⟩ := eJm IH h X hR hs hw had hl hls hst
  exact lv_goto X.1 X.2.1 hd.1 ht hW
/-- a branch, by what it asks -/
theorem e_icmp {p : Program} {e : Env} {R : Room} {s : State} {m : MethodId} {args : Array Value} {below : List Frame} {meth : Method} {c : Code} {Q : State → Prop} {cc : ByteArray} {H : Heap} {locs : List Loc} {ce sl pc : Nat} {lsA : Array Slot} {rest : List Value} {x y : Int32} {off : Int} (cd : ClassFile.Cond) (hx : p.tables.exec = Jvm.exec) (hb : c.code = cc) (hd : decode cc pc = .ok (.if_icmp cd off, 3)) (hn : 0 ≤ (pc : Int) + off)
    (kt : eCd cd x y → ∃ t : Nat, (pc : Int) + off = (t : Int) ∧ W p l e R s m args below meth c H locs ce sl Q (F0 m t lsA rest)) (kf : ¬ eCd cd x y → W p l e R s m args below meth c H locs ce sl Q (F0 m (pc + 3) lsA rest)) : W p l e R s m args below meth c H locs ce sl Q (F0 m pc lsA (.int y :: .int x :: rest)) := by
  have ht : (pc : Int) + off = (((pc : Int) + off).toNat : Int) := (Int.toNat_of_nonneg hn).symm
  have kt2 : eCd cd x y → W p l e R s m args below meth c H locs ce sl Q (F0 m ((pc : Int) + off).toNat lsA rest) := fun q => by
    obtain ⟨t, h1, h2⟩ := kt q
    rw [show ((pc : Int) + off).toNat = t by omega]
    exact h2
  cases cd with
  | eq => exact lv_icmp_eq hx hb hd ht kt2 kf
  | ne => exact lv_icmp_ne hx hb hd ht kt2 (fun q => kf (fun z => z q))
  | lt => exact lv_icmp_lt hx hb hd ht kt2 kf
  | ge => exact lv_icmp_ge hx hb hd ht kt2 kf
  | gt => exact lv_icmp_gt hx hb hd ht kt2 kf
  | le => exact lv_icmp_le hx hb hd ht kt2 kf
theorem e_ifc {p : Program} {e : Env} {R : Room} {s : State} {m : MethodId} {args : Array Value} {below : List Frame} {meth : Method} {c : Code} {Q : State → Prop} {cc : ByteArray} {H : Heap} {locs : List Loc} {ce sl pc : Nat} {lsA : Array Slot} {rest : List Value} {x : Int32} {off : Int} (cd : ClassFile.Cond) (hx : p.tables.exec = Jvm.exec) (hb : c.code = cc) (hd : decode cc pc = .ok (.ifCond cd off, 3)) (hn : 0 ≤ (pc : Int) + off)
    (kt : eCd cd x 0 → ∃ t : Nat, (pc : Int) + off = (t : Int) ∧ W p l e R s m args below meth c H locs ce sl Q (F0 m t lsA rest)) (kf : ¬ eCd cd x 0 → W p l e R s m args below meth c H locs ce sl Q (F0 m (pc + 3) lsA rest)) : W p l e R s m args below meth c H locs ce sl Q (F0 m pc lsA (.int x :: rest)) := by
  have ht : (pc : Int) + off = (((pc : Int) + off).toNat : Int) := (Int.toNat_of_nonneg hn).symm
  have kt2 : eCd cd x 0 → W p l e R s m args below meth c H locs ce sl Q (F0 m ((pc : Int) + off).toNat lsA rest) := fun q => by
    obtain ⟨t, h1, h2⟩ := kt q
    rw [show ((pc : Int) + off).toNat = t by omega]
    exact h2
  cases cd with
  | eq => exact lv_if_eq hx hb hd ht kt2 kf
  | ne => exact lv_if_ne hx hb hd ht kt2 (fun q => kf (fun z => z q))
  | lt => exact lv_if_lt hx hb hd ht kt2 kf
  | ge => exact lv_if_ge hx hb hd ht kt2 kf
  | gt => exact lv_if_gt hx hb hd ht kt2 kf
  | le => exact lv_if_le hx hb hd ht kt2 kf
theorem s_icmp {cd : ClassFile.Cond} {off : Int} : eStp ρ b base D cl Tb NF l CN (hIcmp cd off) (.if_icmp cd off) 3 := by
  intro ih IH mi pc cd1 ls st hp nx ce sl cs k h p e R s m args below meth c Q cc nL ad0 X hR H locs ws tys lsA lv stA hd hcd hs hw had hl hls hst
  match st, h, hst with
  | y :: x :: r, h, hst =>
    obtain ⟨yA, t0, rfl, hy, hst0⟩ := eRs_cons hst
    obtain ⟨xA, t, rfl, hx, hst1⟩ := eRs_cons hst0
    have h : ecmp cd x y cs (fun cs => eJmp ih mi pc off ls r hp nx ce sl cs k) (fun cs => ih mi (pc + 3) cd1 ls r hp nx ce sl cs k) = true := h
    obtain ⟨z1, z2, rfl, rfl, h1, h2⟩ := ecmp_ok hs hx hy h
    refine e_icmp cd X.1 X.2.1 hd.1 (of_decide_eq_true hd.2.1) (fun q => ?_) (fun q => ?_)
    · obtain ⟨cs2, h3, h4⟩ := h1 q
      exact eJm IH h3 X hR h4 hw had hl hls hst1
    · obtain ⟨cs2, h3, h4⟩ := h2 q
      exact eNx IH h3 X hR hcd h4 hw had hl hls hst1
  | [_], h, _ => cases h
  | [], h, _ => cases h
theorem s_ifc {cd : ClassFile.Cond} {off : Int} : eStp ρ b base D cl Tb NF l CN (hIf cd off) (.ifCond cd off) 3 := by
  intro ih IH mi pc cd1 ls st hp nx ce sl cs k h p e R s m args below meth c Q cc nL ad0 X hR H locs ws tys lsA lv stA hd hcd hs hw had hl hls hst
  cases st with
  | nil => cases h
  | cons x r =>
    obtain ⟨xA, t, rfl, hx, hst1⟩ := eRs_cons hst
    have h : ecmp cd x (.inl 0) cs (fun cs => eJmp ih mi pc off ls r hp nx ce sl cs k) (fun cs => ih mi (pc + 3) cd1 ls r hp nx ce sl cs k) = true := h
    have h0 : eRl ρ b (ead ws) (.inl 0) (.int (Int32.ofNat 0)) := rfl
    obtain ⟨z1, z2, rfl, h6, h1, h2⟩ := ecmp_ok hs hx h0 h
    cases h6
    refine e_ifc cd X.1 X.2.1 hd.1 (of_decide_eq_true hd.2.1) (fun q => ?_) (fun q => ?_)
    · obtain ⟨cs2, h3, h4⟩ := h1 q
      exact eJm IH h3 X hR h4 hw had hl hls hst1
    · obtain ⟨cs2, h3, h4⟩ := h2 q
      exact eNx IH h3 X hR hcd h4 hw had hl hls hst1
theorem e_sg (n : Nat) : (Int32.ofNat n).toInt = esg n := by
  rw [e_toInt, Int.bmod_def]
  unfold esg
  split <;> split <;> omega
theorem s_switch {BK : eBk} {d lo hi : Int} {offs : Array Int} {len : Nat}
    (hBK : ∀ (mi : eM) (pc : Nat) (ls : List (Nat × eV)) (st : List eV) (hp : eH) (nx ce sl : Nat) (cs : eC) (k : eK), mi.2.2.2.2.2.1 = 20 → BK hp nx ce sl cs ls st = true → ∀ (p : Program) (e : Env) (R : Room) (s : State) (m : MethodId) (args : Array Value) (below : List Frame) (meth : Method) (c : Code) (Q : State → Prop) (cc : ByteArray) (nL : Nat) (ad0 : List Nat),
      eCx ρ b base Tb NF CN p R s m args meth c mi cc nL → eRH ρ b base D cl l p e R s m args below meth c Q mi cc ad0 k → ∀ (H : Heap) (locs : List Loc) (ws : va_W) (tys : List (ClassId × FieldType)) (lsA : Array Slot) (lv : List (Nat × Value)) (stA : List Value) (z : Int32),
      eDk cc nL (pc, .tableswitch d lo hi offs, len) → eSat ρ cs → eWd ρ b base D cl s H locs hp nx ws tys → (∀ (o a : Nat), ad0[o]? = some a → (ead ws)[o]? = some a) → lv_has lsA nL lv → eLs ρ b (ead ws) ls lv → eRs ρ b (ead ws) st stA → W p l e R s m args below meth c H locs ce sl Q (F0 m pc lsA (.int z :: stA))) :
    eStp ρ b base D cl Tb NF l CN (hSwitch BK d lo hi offs) (.tableswitch d lo hi offs) len := by
  intro ih IH mi pc cd1 ls st hp nx ce sl cs k h p e R s m args below meth c Q cc nL ad0 X hR H locs ws tys lsA lv stA hd hcd hs hw had hl hls hst
  have inn : ∀ {z : Int32} {t : List Value} {off : Int}, ¬ (z.toInt < lo ∨ hi < z.toInt) → offs.toList[(z.toInt - lo).toNat]? = some off → (∃ t0 : Nat, (pc : Int) + off = (t0 : Int) ∧ W p l e R s m args below meth c H locs ce sl Q (F0 m t0 lsA t)) → W p l e R s m args below meth c H locs ce sl Q (F0 m pc lsA (.int z :: t)) := by
    intro z t off h1 h2 h3
    obtain ⟨t0, h4, h5⟩ := h3
    exact lv_tableIn X.1 X.2.1 hd.1 (fun q => h1 (Or.inl q)) (fun q => h1 (Or.inr q)) (by rw [← Array.getElem?_toList]; exact h2) h4 h5
  have oth : ∀ {v : eV} {r : List eV} {x : Value} {t : List Value}, eRl ρ b (ead ws) v x → eRs ρ b (ead ws) r t → (bif Nat.beq mi.2.2.2.2.2.1 20 && eint v then BK hp nx ce sl cs ls r else false) = true → W p l e R s m args below meth c H locs ce sl Q (F0 m pc lsA (x :: t)) := by
    intro v r x t hv hr h
    obtain ⟨h1, h⟩ := e_cond h e_ff
    rw [Bool.and_eq_true] at h1
    obtain ⟨z, rfl⟩ := eRl_int hv h1.2
    exact hBK mi pc ls r hp nx ce sl cs k (Nat.eq_of_beq_eq_true h1.1) h p e R s m args below meth c Q cc nL ad0 X hR H locs ws tys lsA lv t z hd hs hw had hl hls hr
  match st, h, hst with
  | .inl n :: r, h, hst =>
    obtain ⟨xA, t, rfl, hx, hst1⟩ := eRs_cons hst
    have hx : xA = .int (Int32.ofNat n) := hx
    subst hx
    have h : (if esg n < lo ∨ hi < esg n then eJmp ih mi pc d ls r hp nx ce sl cs k else (match offs.toList[(esg n - lo).toNat]? with
      | some off => eJmp ih mi pc off ls r hp nx ce sl cs k
      | none => false)) = true := h
    by_cases hc : esg n < lo ∨ hi < esg n
    · rw [if_pos hc] at h
      obtain ⟨t0, h4, h5⟩ := eJm IH h X hR hs hw had hl hls hst1
      exact lv_tableOut X.1 X.2.1 hd.1 (by rw [e_sg]; exact hc) h4 h5
    · rw [if_neg hc] at h
      cases ho : offs.toList[(esg n - lo).toNat]? with
      | none => rw [ho] at h; cases h
      | some off =>
        rw [ho] at h
        exact inn (by rw [e_sg]; exact hc) (by rw [e_sg]; exact ho) (eJm IH h X hR hs hw had hl hls hst1)
  | .inr (.inl j) :: r, h, hst =>
    obtain ⟨xA, t, rfl, hx, hst1⟩ := eRs_cons hst
    have hx : xA = .int (ρ j) := hx
    subst hx
    obtain ⟨h0, h⟩ := e_cond h e_ff
    have h0 := of_decide_eq_true h0
    rw [Bool.and_eq_true, Bool.and_eq_true] at h
    obtain ⟨ha, hb2, hc2⟩ := h
    have hz := ebz_int (ρ j)
    by_cases hc : (ρ j).toInt < lo ∨ hi < (ρ j).toInt
    · have hj : ∃ cs2, eJmp ih mi pc d ls r hp nx ce sl cs2 k = true ∧ eSat ρ cs2 := by
        rcases hc with q | q
        · refine erf_ok hs hb2 (y := Int32.ofInt lo) ?_ ?_
          · have := ebz_int (Int32.ofInt lo)
            rw [Int32.toInt_ofInt_of_le (by omega) (by omega)] at this
            omega
          · show ρ j < Int32.ofInt lo
            rw [Int32.lt_iff_toInt_lt, Int32.toInt_ofInt_of_le (by omega) (by omega)]
            exact q
        · refine erf_ok hs hc2 (y := Int32.ofInt hi) ?_ ?_
          · have := ebz_int (Int32.ofInt hi)
            rw [Int32.toInt_ofInt_of_le (by omega) (by omega)] at this
            omega
          · show Int32.ofInt hi < ρ j
            rw [Int32.lt_iff_toInt_lt, Int32.toInt_ofInt_of_le (by omega) (by omega)]
            exact q
      obtain ⟨cs2, h3, h4⟩ := hj
      obtain ⟨t0, h5, h6⟩ := eJm IH h3 X hR h4 hw had hl hls hst1
      exact lv_tableOut X.1 X.2.1 hd.1 hc h5 h6
    · have hlt : ((ρ j).toInt - lo).toNat < offs.toList.length := by omega
      have ho : offs.toList[((ρ j).toInt - lo).toNat]? = some offs.toList[((ρ j).toInt - lo).toNat] := List.getElem?_eq_getElem hlt
      obtain ⟨cs2, h3, h4⟩ := esw_ok hs ha _ _ ho (by omega)
      exact inn hc ho (eJm IH h3 X hR h4 hw had hl hls hst1)
  | .inr (.inr (.inl o)) :: r, h, hst =>
    obtain ⟨xA, t, rfl, hx, hst1⟩ := eRs_cons hst
    exact oth hx hst1 h
  | .inr (.inr (.inr n)) :: r, h, hst =>
    obtain ⟨xA, t, rfl, hx, hst1⟩ := eRs_cons hst
    exact oth hx hst1 h
  | [], h, _ => cases h
end ES2
end
section
section ED3
variable (cl : List vw_C) (Tb : List Cond) (NF : State → Prop) (CN : Nat → String)
def eFk (t : Nat) (ty : FieldType) : Prop := (t = 0 ∧ ty = .int) ∨ (t = 1 ∧ ty = .boolean) ∨ (t = 2 ∧ ((∃ n, ty = .object n) ∨ ∃ u, ty = .array u)) ∨ (t = 3 ∧ ty = .long)
def eFOK (FL : eFL) : Prop := ∀ (o idx : Nat) (q : Nat × Nat × Nat), FL o idx = some q → ∃ (T : u_T) (N : Nat) (ty : Nat → FieldType), cl[q.1]? = some (CN q.1, T, N) ∧ (∀ w ∈ u_ws (CN q.1) T N, w ∈ Tb) ∧ (∀ k, k < N → parseFieldDescriptor (T k).2.2.1 = some (ty k)) ∧ (∀ a, a < N → ∀ c, c < N → a ≠ c → (T a).2.1 ≠ (T c).2.1)
  ∧ q.2.1 < N ∧ Cond.fieldLink (CN o) idx (T q.2.1).1 (T q.2.1).2.1 (T q.2.1).2.2.1 ∈ Tb ∧ (T q.2.1).2.2.2 = Nat.ble 10 q.2.2 ∧ (Nat.ble 10 q.2.2 = true → Nat.blt q.2.2 20 = true → (T q.2.1).1 = CN o) ∧ eFk (q.2.2 % 10) (ty q.2.1)
def eNOK (NW : Nat → Nat → Option (Nat × Nat × List eV)) : Prop := ∀ (o idx : Nat) (q : Nat × Nat × List eV), NW o idx = some q → ∃ (T : u_T) (ty : Nat → FieldType) (fs : List Value), cl[q.1]? = some (CN q.1, T, q.2.1) ∧ (∀ w ∈ u_ws (CN q.1) T q.2.1, w ∈ Tb) ∧ (∀ k, k < q.2.1 → parseFieldDescriptor (T k).2.2.1 = some (ty k))
  ∧ Cond.classLink (CN o) idx (CN q.1) ∈ Tb ∧ Cond.instantiable (CN q.1) q.2.1 ∈ Tb ∧ Cond.initialized (CN q.1) ∈ Tb ∧ (∀ j, j < q.2.1 → defaultValue (ty j) = vp_V fs j) ∧ ∀ (ρ : Nat → Int32) (b : Nat) (ad : List Nat), eRs ρ b ad q.2.2 fs
def eAOK (NA : Nat → Nat → Option Nat) : Prop := ∀ (o idx q : Nat), NA o idx = some q → ∃ r : vw_C, cl[q]? = some r ∧ Cond.classLink (CN o) idx r.1 ∈ Tb ∧ ∀ s : State, NF s → va_AO r.1 s
def eKOK (KI : Nat → Nat → Option Nat) : Prop := ∀ (o idx n : Nat), KI o idx = some n → Cond.constant (CN o) idx (Int32.ofNat n) ∈ Tb
def eJOK (KL : Nat → Nat → Option Nat) : Prop := ∀ (o idx n : Nat), KL o idx = some n → ∃ v : Int64, Cond.constantLong (CN o) idx v ∈ Tb
def eACk : Prop := Cond.arrayClass .int ∈ Tb ∧ Cond.arrayClass .byte ∈ Tb ∧ Cond.arrayClass .boolean ∈ Tb ∧ Cond.arrayClass .long ∈ Tb
end ED3
theorem efit_ok {ρ : Nat → Int32} {b : Nat} {ad : List Nat} {t : Nat} {ty : FieldType} {v : eV} {x : Value} (h : efit t v = true) (hk : eFk (t % 10) ty) (hr : eRl ρ b ad v x) : narrow ty x = x ∧ fits ty x = true := by
  generalize hu : t % 10 = u at hk
  rcases v with n | j | o | n
  · have hr : x = .int (Int32.ofNat n) := hr
    subst hr
    have h : (Nat.beq (t % 10) 0 || (Nat.beq (t % 10) 1 && Nat.ble n 1)) = true := h
    rw [hu, Bool.or_eq_true, Bool.and_eq_true] at h
    rcases h with h | ⟨h1, h2⟩
    · have := Nat.eq_of_beq_eq_true h
      rcases hk with ⟨-, rfl⟩ | ⟨h2, -⟩ | ⟨h2, -⟩ | ⟨h2, -⟩
      · exact ⟨rfl, rfl⟩
      all_goals omega
    · have := Nat.eq_of_beq_eq_true h1
      have h3 := Nat.le_of_ble_eq_true h2
      rcases hk with ⟨h2, -⟩ | ⟨-, rfl⟩ | ⟨h2, -⟩ | ⟨h2, -⟩
      · omega
      · rcases (show n = 0 ∨ n = 1 by omega) with rfl | rfl
        · exact ⟨rfl, rfl⟩
        · exact ⟨rfl, rfl⟩
      all_goals omega
  · have hr : x = .int (ρ j) := hr
    subst hr
    have h : Nat.beq (t % 10) 0 = true := h
    rw [hu] at h
    have := Nat.eq_of_beq_eq_true h
    rcases hk with ⟨-, rfl⟩ | ⟨h2, -⟩ | ⟨h2, -⟩ | ⟨h2, -⟩
    · exact ⟨rfl, rfl⟩
    all_goals omega
  · obtain ⟨a, -, rfl⟩ := hr
    have h : Nat.beq (t % 10) 2 = true := h
    rw [hu] at h
    have := Nat.eq_of_beq_eq_true h
    rcases hk with ⟨h2, -⟩ | ⟨h2, -⟩ | ⟨-, ⟨n, rfl⟩ | ⟨u, rfl⟩⟩ | ⟨h2, -⟩
    · omega
    · omega
    · exact ⟨rfl, rfl⟩
    · exact ⟨rfl, rfl⟩
    · omega
  · match n, h, hr with
    | 0, h, ⟨z, hz⟩ =>
      subst hz
      have h : Nat.beq (t % 10) 0 = true := h
      rw [hu] at h
      have := Nat.eq_of_beq_eq_true h
      rcases hk with ⟨-, rfl⟩ | ⟨h2, -⟩ | ⟨h2, -⟩ | ⟨h2, -⟩
      · exact ⟨rfl, rfl⟩
      all_goals omega
    | 1, h, hr =>
      have hr : x = .null := hr
      subst hr
      have h : Nat.beq (t % 10) 2 = true := h
      rw [hu] at h
      have := Nat.eq_of_beq_eq_true h
      rcases hk with ⟨h2, -⟩ | ⟨h2, -⟩ | ⟨-, ⟨n, rfl⟩ | ⟨u, rfl⟩⟩ | ⟨h2, -⟩
      · omega
      · omega
      · exact ⟨rfl, rfl⟩
      · exact ⟨rfl, rfl⟩
      · omega
    | 2, h, ⟨z, hz⟩ =>
      subst hz
      have h : Nat.beq (t % 10) 3 = true := h
      rw [hu] at h
      have := Nat.eq_of_beq_eq_true h
      rcases hk with ⟨h2, -⟩ | ⟨h2, -⟩ | ⟨h2, -⟩ | ⟨-, rfl⟩
      · omega
      · omega
      · omega
      · exact ⟨rfl, rfl⟩
    | _ + 3, h, _ => cases h
section ES3
variable {ρ : Nat → Int32} {b base : Nat} {D : va_G} {cl : List vw_C} {Tb : List Cond} {NF : State → Prop} {l : Launch} {CN : Nat → String}
theorem s_ldc {KI : Nat → Nat → Option Nat} (hK : eKOK Tb CN KI) {idx len : Nat} {i : Instr} (hi : (i = .ldc idx ∧ len = 2) ∨ (i = .ldc_w idx ∧ len = 3)) : eStp ρ b base D cl Tb NF l CN (hLdc KI len idx) i len := by
  intro ih IH mi pc cd ls st hp nx ce sl cs k h p e R s m args below meth c Q cc nL ad0 X hR H locs ws tys lsA lv stA hd hcd hs hw had hl hls hst
  unfold hLdc at h
  cases hv : KI mi.1 idx with
  | none => rw [hv] at h; cases h
  | some n =>
    rw [hv] at h
    have hst2 : eRs ρ b (ead ws) (.inl n :: st) (.int (Int32.ofNat n) :: stA) := ⟨rfl, hst⟩
    have hc := X.2.2.2.2.1 _ (hK _ _ _ hv)
    rcases hi with ⟨rfl, rfl⟩ | ⟨rfl, rfl⟩
    · exact lv_ldc X.1 X.2.1 X.2.2.2.1 hc hd.1 (eNx IH h X hR hcd hs hw had hl hls hst2)
    · exact lv_ldcw X.1 X.2.1 X.2.2.2.1 hc hd.1 (eNx IH h X hR hcd hs hw had hl hls hst2)
theorem s_ldc2 {KL : Nat → Nat → Option Nat} (hK : eJOK Tb CN KL) {idx : Nat} : eStp ρ b base D cl Tb NF l CN (hLong KL idx) (.ldc2_w idx) 3 := by
  intro ih IH mi pc cd ls st hp nx ce sl cs k h p e R s m args below meth c Q cc nL ad0 X hR H locs ws tys lsA lv stA hd hcd hs hw had hl hls hst
  unfold hLong at h
  cases hv : KL mi.1 idx with
  | none => rw [hv] at h; cases h
  | some n =>
    rw [hv] at h
    obtain ⟨v, hc⟩ := hK _ _ _ hv
    have hst2 : eRs ρ b (ead ws) (eL :: st) (.long v :: stA) := ⟨⟨v, rfl⟩, hst⟩
    exact lv_ldc2 X.1 X.2.1 X.2.2.2.1 (X.2.2.2.2.1 _ hc) hd.1 (eNx IH h X hR hcd hs hw had hl hls hst2)
theorem s_get {FL : eFL} (hF : eFOK cl Tb CN FL) {idx : Nat} : eStp ρ b base D cl Tb NF l CN (hGet FL idx) (.getfield idx) 3 := by
  intro ih IH mi pc cd ls st hp nx ce sl cs k h p e R s m args below meth c Q cc nL ad0 X hR H locs ws tys lsA lv stA hd hcd hs hw had hl hls hst
  unfold hGet at h
  split at h
  · rename_i o r
    obtain ⟨xA, t, rfl, ⟨a, ha, rfl⟩, hst1⟩ := eRs_cons hst
    split at h
    · rename_i q hq
      split at h
      · rename_i ob hob
        obtain ⟨h1, h⟩ := e_cond h e_ff
        have h1 := Nat.eq_of_beq_eq_true h1
        rw [eg_eq] at h
        split at h
        · rename_i v hv
          obtain ⟨ee, he, fs, rfl, hfs⟩ := eMt_at hw.2.2.2.2 ha hob
          obtain ⟨x, hx1, hx2⟩ := eRs_get hfs hv
          obtain ⟨T, N, ty, f1, f2, f3, f4, f5, f6, f7, f8, f9⟩ := hF _ _ _ hq
          have hst2 : eRs ρ b (ead ws) (v :: r) (x :: t) := ⟨hx2, hst1⟩
          exact va_get X.1 X.2.1 X.2.2.2.2.1 f2 X.2.2.2.1 hw.1 hw.2.1 o he (by rw [h1]; exact f1) q.2.1 f5 (X.2.2.2.2.1 _ f6) (fun _ z => z) hx1 hd.1 (eNx IH h X hR hcd hs hw had hl hls hst2)
        · cases h
      · cases h
    · cases h
  · cases h
theorem s_put {FL : eFL} (hF : eFOK cl Tb CN FL) {idx : Nat} : eStp ρ b base D cl Tb NF l CN (hPut FL idx) (.putfield idx) 3 := by
  intro ih IH mi pc cd ls st hp nx ce sl cs k h p e R s m args below meth c Q cc nL ad0 X hR H locs ws tys lsA lv stA hd hcd hs hw had hl hls hst
  unfold hPut at h
  split at h
  · rename_i v o r
    obtain ⟨vA, t0, rfl, hv, hst0⟩ := eRs_cons hst
    obtain ⟨xA, t, rfl, ⟨a, ha, rfl⟩, hst1⟩ := eRs_cons hst0
    split at h
    · rename_i q hq
      split at h
      · rename_i ob hob
        obtain ⟨h1, h⟩ := e_cond h e_ff
        rw [Bool.and_eq_true, Bool.and_eq_true, Bool.and_eq_true] at h1
        obtain ⟨h1, h2, h3, h20⟩ := h1
        have h1 := Nat.eq_of_beq_eq_true h1
        rw [eg_eq] at h
        split at h
        · rename_i v0 hv0
          rw [es_eq] at h
          obtain ⟨hp2, h4, h5⟩ := hs_ok h
          obtain ⟨ee, he, fs, rfl, hfs⟩ := eMt_at hw.2.2.2.2 ha hob
          obtain ⟨T, N, ty, f1, f2, f3, f4, f5, f6, f7, f8, f9⟩ := hF _ _ _ hq
          obtain ⟨g1, g2⟩ := efit_ok h2 f9 hv
          have hlen : q.2.1 < fs.length := by
            rw [← eRs_len hfs]
            exact (List.getElem?_eq_some_iff.mp hv0).1
          have fin : ∀ (H1 : Heap) (locs1 : List Loc), va_P D cl (ws.set o (a, .inr (ob.1, fs.set q.2.1 vA))) H1 → va_D (fun q => base ≤ q) (ws.set o (a, .inr (ob.1, fs.set q.2.1 vA))) → va_S (fun q => base ≤ q) s.heap H1 locs1 → W p l e R s m args below meth c H1 locs1 ce sl Q (F0 m (pc + 3) lsA t) := by
            intro H1 locs1 q1 q2 q3
            have hm : eMt ρ b cl hp2 nx (ws.set o (a, .inr (ob.1, fs.set q.2.1 vA))) tys := eMt_set hw.2.2.2.2 he h5 ⟨_, rfl, eRs_set hv hfs⟩
            exact eNx IH h4 X hR hcd hs ⟨hw.1, q1, q2, q3, hm⟩ (by rw [ead_set he]; exact had) hl (by rw [ead_set he]; exact hls) (by rw [ead_set he]; exact hst1)
          cases hfin : Nat.ble 10 q.2.2 with
          | false => exact va_put (ty := ty q.2.1) X.1 X.2.1 X.2.2.2.2.1 f2 ty f3 f4 X.2.2.2.1 hw.1 hw.2.1 hw.2.2.1 hw.2.2.2.1 o he (by rw [h1]; exact f1) q.2.1 f5 (X.2.2.2.2.1 _ f6) (fun _ z => z) (by rw [f7, hfin]) (f3 _ f5) g1 g2 hlen hd.1 fin
          | true =>
            have h10 : mi.2.2.2.2.2.1 = 10 := by
              rw [Bool.or_eq_true] at h3
              rcases h3 with h3 | h3
              · have a1 := Nat.le_of_ble_eq_true h3
                have a2 := Nat.le_of_ble_eq_true hfin
                omega
              · exact Nat.eq_of_beq_eq_true h3
            exact va_putF (ty := ty q.2.1) X.1 X.2.1 X.2.2.2.2.1 f2 ty f3 f4 X.2.2.2.1 hw.1 hw.2.1 hw.2.2.1 hw.2.2.2.1 o he (by rw [h1]; exact f1) q.2.1 f5 (X.2.2.2.2.1 _ f6) (fun _ z => z) (by rw [f7, hfin]) (X.2.2.2.2.2.2.2.2.2.1 h10) (f8 hfin h20) (f3 _ f5) g1 g2 hlen hd.1 fin
        · cases h
      · cases h
    · cases h
  · cases h
theorem e_hA {p : Program} {R : Room} {s : State} {m : MethodId} {args : Array Value} {meth : Method} {c : Code} {mi : eM} {cc : ByteArray} {nL : Nat} (X : eCx ρ b base Tb NF CN p R s m args meth c mi cc nL) : ∀ q : Nat, s.heap.size ≤ q → base ≤ q := fun _ h => Nat.le_trans X.2.2.2.2.2.2.1 h
theorem s_new {NW : Nat → Nat → Option (Nat × Nat × List eV)} (hN : eNOK cl Tb CN NW) {idx : Nat} : eStp ρ b base D cl Tb NF l CN (hNew NW idx) (.new idx) 3 := by
  intro ih IH mi pc cd ls st hp nx ce sl cs k h p e R s m args below meth c Q cc nL ad0 X hR H locs ws tys lsA lv stA hd hcd hs hw had hl hls hst
  unfold hNew at h
  split at h
  · rename_i q hq
    obtain ⟨h1, h⟩ := e_cond h e_ff
    rw [Bool.and_eq_true] at h1
    have a1 := Nat.le_of_ble_eq_true h1.1
    have a2 := Nat.le_of_ble_eq_true h1.2
    obtain ⟨hp2, h4, h5⟩ := hs_ok h
    rw [ef_eq, ef_eq, ef_eq] at h4
    obtain ⟨T, ty, fs, f1, f2, f3, f4, f5, f6, f7, f8⟩ := hN _ _ _ hq
    have hRc := X.2.2.2.2.2.2.2.1
    refine va_new (fs := fs) X.1 X.2.1 X.2.2.2.2.1 f2 ty f3 X.2.2.2.1 (X.2.2.2.2.1 _ f4) (X.2.2.2.2.1 _ f5) (X.2.2.2.2.1 _ f6) hw.1 hw.2.1 hw.2.2.1 hw.2.2.2.1 (e_hA X) f1 f7 (by rw [hRc.1]; exact a1) (by rw [hRc.2.1]; exact a2) hd.1 (fun qa H1 q1 q2 q3 => ?_)
    have hm : eMt ρ b cl hp2 (nx + 1) (ws ++ [(qa, .inr (q.1, fs))]) tys := eMt_push hw.2.2.2.2 (fun _ _ z => z) h5 ⟨_, rfl, f8 ρ b _⟩
    have hst2 : eRs ρ b (ead (ws ++ [(qa, .inr (q.1, fs))])) (.inr (.inr (.inl nx)) :: st) (.ref qa :: stA) := ⟨⟨qa, ead_at.mpr ⟨_, by rw [← hw.2.2.2.2.1, List.getElem?_append_right (Nat.le_refl _), Nat.sub_self]; rfl⟩, rfl⟩, eRs_more (fun _ _ z => ead_app z) hst⟩
    exact eNx IH h4 X hR hcd hs ⟨hw.1, q1, q2, q3, hm⟩ (fun o a z => ead_app (had o a z)) hl (eLs_more (fun _ _ z => ead_app z) hls) hst2
  · cases h
end ES3
end
section
theorem tg_er {α : Type} {n j : Nat} (z : α) (h : j < n) : tg 32 (er (n / 32 + 1) (er 32 z)) j = some z := by
  unfold tg
  rw [eg_eq, er_eq, er_eq, List.getElem?_replicate, if_pos (by omega)]
  dsimp only
  rw [eg_eq, List.getElem?_replicate, if_pos (by omega)]
theorem e_pos {n : Nat} (h : n ≤ 100000) : ¬ Int32.ofNat n < 0 := nI_pos (n := n) (by omega)
theorem e_cl {n : Nat} (h : n ≤ 100000) : (Int32.ofNat n).toNatClampNeg = n := nI_clamp (n := n) (by omega)
theorem e_in {i n : Nat} (h : i < n) (hn : n ≤ 100000) : vp_in (Int32.ofNat i) n := nI_in (c := i) (N := n) h (by omega)
theorem e_app {tys : List (ClassId × FieldType)} {x : ClassId × FieldType} : ∀ (t : Nat) (q : ClassId × FieldType), tys[t]? = some q → (tys ++ [x])[t]? = some q := fun t q h => by
  rw [List.getElem?_append_left (List.getElem?_eq_some_iff.mp h).1]; exact h
theorem e_last {tys : List (ClassId × FieldType)} {x : ClassId × FieldType} : (tys ++ [x])[tys.length]? = some x := by
  rw [List.getElem?_append_right (Nat.le_refl _), Nat.sub_self]; rfl
section ES4
variable {ρ : Nat → Int32} {b base : Nat} {D : va_G} {cl : List vw_C} {Tb : List Cond} {NF : State → Prop} {l : Launch} {CN : Nat → String}
/-- behind the making of an array -/
theorem e_made {ih : eR} (IH : eSn ρ b base D cl Tb NF l CN ih) {mi : eM} {pc : Nat} {cd : List eI} {ls : List (Nat × eV)} {r : List eV} {hp hp2 : eH} {nx ce sl : Nat} {cs : eC} {k : eK} (h : ih mi pc cd ls (.inr (.inr (.inl nx)) :: r) hp2 (nx + 1) ce sl cs k = true)
    {p : Program} {e : Env} {R : Room} {s : State} {m : MethodId} {args : Array Value} {below : List Frame} {meth : Method} {c : Code} {Q : State → Prop} {cc : ByteArray} {nL : Nat} {ad0 : List Nat}
    (X : eCx ρ b base Tb NF CN p R s m args meth c mi cc nL) (hR : eRH ρ b base D cl l p e R s m args below meth c Q mi cc ad0 k)
    {H H1 : Heap} {locs : List Loc} {ws : va_W} {tys : List (ClassId × FieldType)} {lsA : Array Slot} {lv : List (Nat × Value)} {t : List Value} {qa : Nat} {cA : ClassId} {ty : FieldType} {a0 : vp_A} {x : eO}
    (hcd : ∀ q ∈ cd, eDk cc nL q) (hs : eSat ρ cs) (hw : eWd ρ b base D cl s H locs hp nx ws tys) (had : ∀ (o a : Nat), ad0[o]? = some a → (ead ws)[o]? = some a) (hl : lv_has lsA nL lv) (hls : eLs ρ b (ead ws) ls lv) (hst : eRs ρ b (ead ws) r t)
    (h5 : ∀ j, hg hp2 j = if j = nx then some x else hg hp j) (hx : ∀ ad : List Nat, eOb ρ b cl ad (tys ++ [(cA, ty)]) x (.inl (cA, a0))) (q0 : va_K D cl (tys ++ [(cA, ty)]) s) (q1 : va_P D cl (ws ++ [(qa, .inl (cA, a0))]) H1) (q2 : va_D (fun q => base ≤ q) (ws ++ [(qa, .inl (cA, a0))])) (q3 : va_S (fun q => base ≤ q) s.heap H1 locs) :
    W p l e R s m args below meth c H1 locs ce sl Q (F0 m pc lsA (.ref qa :: t)) := by
  have hm : eMt ρ b cl hp2 (nx + 1) (ws ++ [(qa, .inl (cA, a0))]) (tys ++ [(cA, ty)]) := eMt_push hw.2.2.2.2 e_app h5 (hx _)
  have hst2 : eRs ρ b (ead (ws ++ [(qa, .inl (cA, a0))])) (.inr (.inr (.inl nx)) :: r) (.ref qa :: t) := ⟨⟨qa, ead_at.mpr ⟨_, by rw [← hw.2.2.2.2.1, List.getElem?_append_right (Nat.le_refl _), Nat.sub_self]; rfl⟩, rfl⟩, eRs_more (fun _ _ z => ead_app z) hst⟩
  exact eNx IH h X hR hcd hs ⟨q0, q1, q2, q3, hm⟩ (fun o a z => ead_app (had o a z)) hl (eLs_more (fun _ _ z => ead_app z) hls) hst2
theorem s_newa (hA : eACk Tb) {ty : ArrayType} : eStp ρ b base D cl Tb NF l CN (hNewa ty) (.newarray ty) 2 := by
  intro ih IH mi pc cd ls st hp nx ce sl cs k h p e R s m args below meth c Q cc nL ad0 X hR H locs ws tys lsA lv stA hd hcd hs hw had hl hls hst
  unfold hNewa at h
  split at h
  · rename_i n r
    obtain ⟨xA, t, rfl, hx, hst1⟩ := eRs_cons hst
    have hx : xA = .int (Int32.ofNat n) := hx
    subst hx
    obtain ⟨h1, h⟩ := e_cond h e_ff
    rw [Bool.and_eq_true, Bool.and_eq_true] at h1
    have a1 := Nat.le_of_ble_eq_true h1.1
    have a2 := Nat.le_of_ble_eq_true h1.2.1
    have a3 := Nat.le_of_ble_eq_true h1.2.2
    have hRc := X.2.2.2.2.2.2.2.1
    have b1 : ce + 1 ≤ R.cells := by rw [hRc.1]; exact a1
    have b2 : sl + n ≤ R.slots := by rw [hRc.2.1]; exact a2
    split at h
    · rename_i ob hob
      obtain ⟨hp2, h4, h5⟩ := hs_ok h
      rw [ef_eq, ef_eq, ef_eq] at h4
      cases ty with
      | int =>
        cases hob
        exact va_newa (atype := .int) (ty := .int) (a0 := (n, .inl (fun _ => 0))) X.1 X.2.1 (X.2.2.2.2.1 _ hA.1) rfl hw.1 hw.2.1 hw.2.2.1 hw.2.2.2.1 (e_hA X) (fun _ => rfl) (e_pos a3) (e_cl a3) (by show n * 4 ≤ _; omega) b1 b2 hd.1 (fun qa cA H1 q0 q1 q2 q3 => e_made IH h4 X hR hcd hs hw had hl hls hst1 h5 (fun ad => Or.inl ⟨Nat.zero_lt_succ _, cA, _, _, rfl, e_last, fun j hj => ⟨_, tg_er _ hj, rfl⟩⟩) q0 q1 q2 q3)
      | byte =>
        cases hob
        exact va_newa (atype := .byte) (ty := .byte) (a0 := (n, .inl (fun _ => 0))) X.1 X.2.1 (X.2.2.2.2.1 _ hA.2.1) rfl hw.1 hw.2.1 hw.2.2.1 hw.2.2.2.1 (e_hA X) (fun _ => rfl) (e_pos a3) (e_cl a3) (by show n * 1 ≤ _; omega) b1 b2 hd.1 (fun qa cA H1 q0 q1 q2 q3 => e_made IH h4 X hR hcd hs hw had hl hls hst1 h5 (fun ad => Or.inl ⟨(by decide : 1 < 3), cA, _, _, rfl, e_last, fun j hj => ⟨_, tg_er _ hj, rfl⟩⟩) q0 q1 q2 q3)
      | boolean =>
        cases hob
        exact va_newa (atype := .boolean) (ty := .boolean) (a0 := (n, .inl (fun _ => 0))) X.1 X.2.1 (X.2.2.2.2.1 _ hA.2.2.1) rfl hw.1 hw.2.1 hw.2.2.1 hw.2.2.2.1 (e_hA X) (fun _ => rfl) (e_pos a3) (e_cl a3) (by show n * 1 ≤ _; omega) b1 b2 hd.1 (fun qa cA H1 q0 q1 q2 q3 => e_made IH h4 X hR hcd hs hw had hl hls hst1 h5 (fun ad => Or.inl ⟨(by decide : 2 < 3), cA, _, _, rfl, e_last, fun j hj => ⟨_, tg_er _ hj, rfl⟩⟩) q0 q1 q2 q3)
      | long =>
        cases hob
        exact va_newa (atype := .long) (ty := .long) (a0 := (n, .inr (.inl (fun _ => 0)))) X.1 X.2.1 (X.2.2.2.2.1 _ hA.2.2.2) rfl hw.1 hw.2.1 hw.2.2.1 hw.2.2.2.1 (e_hA X) (fun _ => rfl) (e_pos a3) (e_cl a3) (by show n * 8 ≤ _; omega) b1 b2 hd.1 (fun qa cA H1 q0 q1 q2 q3 => e_made IH h4 X hR hcd hs hw had hl hls hst1 h5 (fun ad => ⟨cA, _, _, rfl, e_last⟩) q0 q1 q2 q3)
      | _ => cases hob
    · cases h
  · cases h
theorem s_newq {NA : Nat → Nat → Option Nat} (hN : eAOK cl Tb NF CN NA) {idx : Nat} : eStp ρ b base D cl Tb NF l CN (hNewq NA idx) (.anewarray idx) 3 := by
  intro ih IH mi pc cd ls st hp nx ce sl cs k h p e R s m args below meth c Q cc nL ad0 X hR H locs ws tys lsA lv stA hd hcd hs hw had hl hls hst
  unfold hNewq at h
  split at h
  · rename_i n r
    obtain ⟨xA, t, rfl, hx, hst1⟩ := eRs_cons hst
    have hx : xA = .int (Int32.ofNat n) := hx
    subst hx
    split at h
    · rename_i q hq
      obtain ⟨h1, h⟩ := e_cond h e_ff
      rw [Bool.and_eq_true, Bool.and_eq_true] at h1
      have a1 := Nat.le_of_ble_eq_true h1.1
      have a2 := Nat.le_of_ble_eq_true h1.2.1
      have a3 := Nat.le_of_ble_eq_true h1.2.2
      have hRc := X.2.2.2.2.2.2.2.1
      have b1 : ce + 1 ≤ R.cells := by rw [hRc.1]; exact a1
      have b2 : sl + n ≤ R.slots := by rw [hRc.2.1]; exact a2
      obtain ⟨hp2, h4, h5⟩ := hs_ok h
      rw [ef_eq, ef_eq, ef_eq] at h4
      obtain ⟨rr, f1, f2, f3⟩ := hN _ _ _ hq
      exact va_newq X.1 X.2.1 X.2.2.2.1 (X.2.2.2.2.1 _ f2) (f3 _ X.2.2.2.2.2.1) hw.1 hw.2.1 hw.2.2.1 hw.2.2.2.1 (e_hA X) (e_pos a3) (e_cl a3) (by omega) b1 b2 hd.1 (fun qa cA H1 q0 q1 q2 q3 => e_made IH h4 X hR hcd hs hw had hl hls hst1 h5 (fun ad => Or.inr ⟨q, rr, cA, (fun _ => none), tys.length, rfl, f1, rfl, e_last, fun j hj => ⟨eN, tg_er _ hj, (rfl : va_rf none = Value.null)⟩⟩) q0 q1 q2 q3)
    · cases h
  · cases h
theorem s_alen : eStp ρ b base D cl Tb NF l CN hAlen .arraylength 1 := by
  intro ih IH mi pc cd ls st hp nx ce sl cs k h p e R s m args below meth c Q cc nL ad0 X hR H locs ws tys lsA lv stA hd hcd hs hw had hl hls hst
  unfold hAlen at h
  split at h
  · rename_i o r
    obtain ⟨xA, t, rfl, ⟨a, ha, rfl⟩, hst1⟩ := eRs_cons hst
    split at h
    · rename_i ob hob
      obtain ⟨ee, he, hx⟩ := eMt_at hw.2.2.2.2 ha hob
      have hst2 : eRs ρ b (ead ws) (.inl ob.2.1 :: r) (.int (Int32.ofNat ob.2.1) :: t) := ⟨rfl, hst1⟩
      rcases hx with ⟨-, cA, f, t0, rfl, ht, -⟩ | ⟨ci, rr, cA, f, t0, -, -, rfl, ht, -⟩
      · exact va_alen X.1 X.2.1 hw.1 hw.2.1 o t0 he ht rfl hd.1 (eNx IH h X hR hcd hs hw had hl hls hst2)
      · exact va_alen X.1 X.2.1 hw.1 hw.2.1 o t0 he ht rfl hd.1 (eNx IH h X hR hcd hs hw had hl hls hst2)
    · rename_i n hob
      obtain ⟨ee, he, cA, f, t0, rfl, ht⟩ := eMt_at hw.2.2.2.2 ha hob
      have hst2 : eRs ρ b (ead ws) (.inl n :: r) (.int (Int32.ofNat n) :: t) := ⟨rfl, hst1⟩
      exact va_alen X.1 X.2.1 hw.1 hw.2.1 o t0 he ht rfl hd.1 (eNx IH h X hR hcd hs hw had hl hls hst2)
    · cases h
  · rename_i n r
    obtain ⟨xA, t, rfl, hx, hst1⟩ := eRs_cons hst
    have hx : xA = .ref b := hx
    subst hx
    obtain ⟨h1, h⟩ := e_cond h e_ff
    obtain ⟨L, xs, g1, g2, g3, g4, g5, g6⟩ := X.2.2.2.2.2.2.2.2.2.2 (Nat.eq_of_beq_eq_true h1)
    have hst2 : eRs ρ b (ead ws) (.inr (.inl 6) :: r) (.int (Int32.ofNat L) :: t) := ⟨by show Value.int _ = .int (ρ 6); rw [g5], hst1⟩
    exact va_slen X.1 X.2.1 g1 g2 (by omega) hw.2.2.2.1 hd.1 (eNx IH h X hR hcd hs hw had hl hls hst2)
  · cases h
end ES4
end
section
theorem e_tcn {x : Int32} {d : Nat} (h : ebz x = d + 2147483648) : x.toNatClampNeg = d := by
  have h1 := ebz_int x
  show x.toInt.toNat = d
  omega
section ES5
variable {ρ : Nat → Int32} {b base : Nat} {D : va_G} {cl : List vw_C} {Tb : List Cond} {NF : State → Prop} {l : Launch} {CN : Nat → String}
theorem s_ald {kind : Nat → Bool} {i : Instr}
    (ld : ∀ {p : Program} {e : Env} {R : Room} {s : State} {m : MethodId} {args : Array Value} {below : List Frame} {meth : Method} {c : Code} {Q : State → Prop} {cc : ByteArray} {H : Heap} {locs : List Loc} {ce sl pc : Nat} {lsA : Array Slot} {rest : List Value} {ws : va_W} {tys : List (ClassId × FieldType)} {o a : Nat} {ob : Nat × Nat × List (List eV)} {ee : va_E} {idx : Int32},
      p.tables.exec = Jvm.exec → c.code = cc → va_K D cl tys s → va_P D cl ws H → ws[o]? = some (a, ee) → eOb ρ b cl (ead ws) tys (.inr (.inl ob)) ee → kind ob.1 = true → vp_in idx ob.2.1 → decode cc pc = .ok (i, 1) →
      ∃ v x, tg 32 ob.2.2 idx.toNatClampNeg = some v ∧ eRl ρ b (ead ws) v x ∧ (W p l e R s m args below meth c H locs ce sl Q (F0 m (pc + 1) lsA (x :: rest)) → W p l e R s m args below meth c H locs ce sl Q (F0 m pc lsA (.int idx :: .ref a :: rest))))
    (hsc : kind 0 = true → i = .iaload) (hρ : ρ 7 = ρ 6 - 6) : eStp ρ b base D cl Tb NF l CN (hAld kind) i 1 := by
  intro ih IH mi pc cd ls st hp nx ce sl cs k h p e R s m args below meth c Q cc nL ad0 X hR H locs ws tys lsA lv stA hd hcd hs hw had hl hls hst
  unfold hAld at h
  split at h
  · rename_i i0 o r
    obtain ⟨iA, t0, rfl, hi, hst0⟩ := eRs_cons hst
    obtain ⟨xA, t, rfl, ⟨a, ha, rfl⟩, hst1⟩ := eRs_cons hst0
    have hi : iA = .int (Int32.ofNat i0) := hi
    subst hi
    split at h
    · rename_i ob hob
      obtain ⟨h1, h⟩ := e_cond h e_ff
      rw [Bool.and_eq_true, Bool.and_eq_true] at h1
      have a1 := Nat.le_of_ble_eq_true h1.2.1
      have a2 := Nat.le_of_ble_eq_true h1.2.2
      obtain ⟨ee, he, hx⟩ := eMt_at hw.2.2.2.2 ha hob
      obtain ⟨v, x, f1, f2, f3⟩ := ld (e := e) (R := R) (m := m) (args := args) (below := below) (meth := meth) (Q := Q) (locs := locs) (ce := ce) (sl := sl) (lsA := lsA) (rest := t) X.1 X.2.1 hw.1 hw.2.1 he hx h1.1 (e_in (i := i0) a1 a2) hd.1
      rw [e_cl (by omega)] at f1
      rw [f1] at h
      have hst2 : eRs ρ b (ead ws) (v :: r) (x :: t) := ⟨f2, hst1⟩
      exact f3 (eNx IH h X hR hcd hs hw had hl hls hst2)
    · cases h
  · rename_i j o r
    obtain ⟨iA, t0, rfl, hi, hst0⟩ := eRs_cons hst
    obtain ⟨xA, t, rfl, ⟨a, ha, rfl⟩, hst1⟩ := eRs_cons hst0
    have hi : iA = .int (ρ j) := hi
    subst hi
    split at h
    · rename_i ob hob
      obtain ⟨h1, h⟩ := e_cond h e_ff
      rw [Bool.and_eq_true] at h1
      have a2 := Nat.le_of_ble_eq_true h1.2
      rw [Bool.and_eq_true, Bool.and_eq_true] at h
      obtain ⟨g1, g2, g3⟩ := h
      have z1 : ¬ ρ j < 0 := fun q => by
        obtain ⟨_, z, -⟩ := erf_ok hs g1 (y := 0) rfl q
        cases z
      have z2 : ¬ Int32.ofNat ob.2.1 ≤ ρ j := fun q => by
        obtain ⟨_, z, -⟩ := erf_ok hs g2 (y := Int32.ofNat ob.2.1) (by rw [ebz_nat]; unfold ebi; omega) q
        cases z
      have w1 : ¬ ebz (ρ j) < 2147483648 := fun q => z1 (ebz_lt.mpr q)
      have w2 : ¬ ob.2.1 + 2147483648 ≤ ebz (ρ j) := fun q => z2 (ebz_le.mpr (by rw [ebz_nat]; unfold ebi; omega))
      obtain ⟨d, hdd⟩ : ∃ d, ebz (ρ j) = d + 2147483648 := ⟨ebz (ρ j) - 2147483648, by omega⟩
      obtain ⟨ee, he, hx⟩ := eMt_at hw.2.2.2.2 ha hob
      have hin : vp_in (ρ j) ob.2.1 := by
        rw [vp_in_iff]
        have := ebz_int (ρ j)
        omega
      obtain ⟨v, x, f1, f2, f3⟩ := ld (e := e) (R := R) (m := m) (args := args) (below := below) (meth := meth) (Q := Q) (locs := locs) (ce := ce) (sl := sl) (lsA := lsA) (rest := t) X.1 X.2.1 hw.1 hw.2.1 he hx h1.1 hin hd.1
      rw [e_tcn hdd] at f1
      obtain ⟨cs2, h3, h4⟩ := eix_ok hs _ g3 d (by omega) (by omega)
      rw [Nat.zero_add, f1] at h3
      have hst2 : eRs ρ b (ead ws) (v :: r) (x :: t) := ⟨f2, hst1⟩
      exact f3 (eNx IH h3 X hR hcd h4 hw had hl hls hst2)
    · cases h
  · rename_i i0 nn r
    obtain ⟨iA, t0, rfl, hi, hst0⟩ := eRs_cons hst
    obtain ⟨xA, t, rfl, hx, hst1⟩ := eRs_cons hst0
    have hi : iA = .int (Int32.ofNat i0) := hi
    have hx : xA = .ref b := hx
    subst hi
    subst hx
    obtain ⟨h1, h⟩ := e_cond h e_ff
    rw [Bool.and_eq_true, Bool.and_eq_true] at h1
    have hii := hsc h1.2.2
    subst hii
    have a1 := Nat.le_of_ble_eq_true h1.2.1
    obtain ⟨L, xs, g1, g2, g3, g4, g5, g6⟩ := X.2.2.2.2.2.2.2.2.2.2 (Nat.eq_of_beq_eq_true h1.1)
    rw [eg_eq] at h
    split at h
    · rename_i q hq
      obtain ⟨h2, h⟩ := e_cond h e_ff
      have a2 := Nat.le_of_ble_eq_true h2
      have hL : L = 6 := by
        have := (hs 7 q hq).1
        have h7 := ebz_int (ρ 7)
        rw [hρ, g5] at h7
        have e1 : (Int32.ofNat L - 6 : Int32).toInt = (L : Int) - 6 := by
          have hh : ∀ n, n ≤ 6 → (Int32.ofNat n - 6 : Int32).toInt = (n : Int) - 6 := by decide
          exact hh L g4
        rw [e1] at h7
        rw [hρ, g5] at this
        omega
      have hr : eRl ρ b (ead ws) (.inr (.inl i0)) (.int (xs i0)) := by
        show Value.int _ = .int (ρ i0)
        rw [g6 i0 (by omega)]
      obtain ⟨w, hw1, hw2⟩ := evar_ok hs hr h
      have hst2 : eRs ρ b (ead ws) (w :: r) (.int (xs (Int32.ofNat i0).toNatClampNeg) :: t) := by
        rw [e_cl (n := i0) (by omega)]
        exact ⟨hw2, hst1⟩
      exact va_sld X.1 X.2.1 g1 g2 (by omega) hw.2.2.2.1 (e_in (i := i0) (by omega) (by omega)) hd.1 (eNx IH hw1 X hR hcd hs hw had hl hls hst2)
    · cases h
  · cases h
theorem s_iald (hρ : ρ 7 = ρ 6 - 6) : eStp ρ b base D cl Tb NF l CN (hAld ekI) .iaload 1 := by
  refine s_ald ?_ (fun _ => rfl) hρ
  intro p e R s m args below meth c Q cc H locs ce sl pc lsA rest ws tys o a ob ee idx hx hb hK hP he hob hk hin hd
  have hk := Nat.eq_of_beq_eq_true hk
  rcases hob with ⟨-, cA, f, t0, rfl, ht, hc⟩ | ⟨ci, rr, cA, f, t0, h0, -⟩
  · rw [hk] at ht
    obtain ⟨v, q1, q2⟩ := hc _ (Nat.not_le.mp fun q => hin (Or.inr q))
    exact ⟨v, _, q1, q2, fun hW => va_iald hx hb hK hP o t0 he ht hin hd hW⟩
  · omega
theorem s_bald (hρ : ρ 7 = ρ 6 - 6) : eStp ρ b base D cl Tb NF l CN (hAld ekB) .baload 1 := by
  refine s_ald ?_ (fun h => by cases h) hρ
  intro p e R s m args below meth c Q cc H locs ce sl pc lsA rest ws tys o a ob ee idx hx hb hK hP he hob hk hin hd
  have hk : (Nat.beq ob.1 1 || Nat.beq ob.1 2) = true := hk
  rw [Bool.or_eq_true] at hk
  rcases hob with ⟨-, cA, f, t0, rfl, ht, hc⟩ | ⟨ci, rr, cA, f, t0, h0, -⟩
  · obtain ⟨v, q1, q2⟩ := hc _ (Nat.not_le.mp fun q => hin (Or.inr q))
    rcases hk with hk | hk
    · rw [Nat.eq_of_beq_eq_true hk] at ht
      exact ⟨v, _, q1, q2, fun hW => va_bald hx hb hK hP o t0 he ht hin hd hW⟩
    · rw [Nat.eq_of_beq_eq_true hk] at ht
      exact ⟨v, _, q1, q2, fun hW => va_zald hx hb hK hP o t0 he ht hin hd hW⟩
  · rcases hk with hk | hk
    · have := Nat.eq_of_beq_eq_true hk; omega
    · have := Nat.eq_of_beq_eq_true hk; omega
theorem s_aald (hρ : ρ 7 = ρ 6 - 6) : eStp ρ b base D cl Tb NF l CN (hAld ekR) .aaload 1 := by
  refine s_ald ?_ (fun h => by cases h) hρ
  intro p e R s m args below meth c Q cc H locs ce sl pc lsA rest ws tys o a ob ee idx hx hb hK hP he hob hk hin hd
  have hk := Nat.le_of_ble_eq_true hk
  rcases hob with ⟨h0, -⟩ | ⟨ci, rr, cA, f, t0, h0, hcl, rfl, ht, hc⟩
  · omega
  · obtain ⟨v, q1, q2⟩ := hc _ (Nat.not_le.mp fun q => hin (Or.inr q))
    exact ⟨v, _, q1, q2, fun hW => va_aldq hx hb hK hP o t0 he ht hin hd hW⟩
theorem s_lald : eStp ρ b base D cl Tb NF l CN hLald .laload 1 := by
  intro ih IH mi pc cd ls st hp nx ce sl cs k h p e R s m args below meth c Q cc nL ad0 X hR H locs ws tys lsA lv stA hd hcd hs hw had hl hls hst
  unfold hLald at h
  split at h
  · rename_i i0 o r
    obtain ⟨iA, t0, rfl, hi, hst0⟩ := eRs_cons hst
    obtain ⟨xA, t, rfl, ⟨a, ha, rfl⟩, hst1⟩ := eRs_cons hst0
    have hi : iA = .int (Int32.ofNat i0) := hi
    subst hi
    split at h
    · rename_i n hob
      obtain ⟨h1, h⟩ := e_cond h e_ff
      rw [Bool.and_eq_true] at h1
      have a1 := Nat.le_of_ble_eq_true h1.1
      have a2 := Nat.le_of_ble_eq_true h1.2
      obtain ⟨ee, he, cA, f, t0, rfl, ht⟩ := eMt_at hw.2.2.2.2 ha hob
      have hst2 : eRs ρ b (ead ws) (eL :: r) (.long (f (Int32.ofNat i0).toNatClampNeg) :: t) := ⟨⟨_, rfl⟩, hst1⟩
      exact va_lald X.1 X.2.1 hw.1 hw.2.1 o t0 he ht (e_in (i := i0) a1 a2) hd.1 (eNx IH h X hR hcd hs hw had hl hls hst2)
    · cases h
  · cases h
theorem s_last : eStp ρ b base D cl Tb NF l CN hLast .lastore 1 := by
  intro ih IH mi pc cd ls st hp nx ce sl cs k h p e R s m args below meth c Q cc nL ad0 X hR H locs ws tys lsA lv stA hd hcd hs hw had hl hls hst
  unfold hLast at h
  split at h
  · rename_i v i0 o r
    obtain ⟨vA, t1, rfl, hv, hstv⟩ := eRs_cons hst
    obtain ⟨iA, t0, rfl, hi, hst0⟩ := eRs_cons hstv
    obtain ⟨xA, t, rfl, ⟨a, ha, rfl⟩, hst1⟩ := eRs_cons hst0
    have hi : iA = .int (Int32.ofNat i0) := hi
    subst hi
    split at h
    · rename_i n hob
      obtain ⟨h1, h⟩ := e_cond h e_ff
      rw [Bool.and_eq_true, Bool.and_eq_true] at h1
      have a1 := Nat.le_of_ble_eq_true h1.2.1
      have a2 := Nat.le_of_ble_eq_true h1.2.2
      have hz : ∃ z : Int64, vA = .long z := by
        have hc := Nat.eq_of_beq_eq_true h1.1
        rcases v with n | j | o | n
        · cases hc
        · cases hc
        · cases hc
        · match n, hc, hv with
          | 0, hc, _ => cases hc
          | 1, hc, _ => cases hc
          | 2, _, hv => exact hv
          | _ + 3, hc, _ => cases hc
      obtain ⟨z, rfl⟩ := hz
      obtain ⟨ee, he, cA, f, t0, rfl, ht⟩ := eMt_at hw.2.2.2.2 ha hob
      refine va_last X.1 X.2.1 hw.1 hw.2.1 hw.2.2.1 hw.2.2.2.1 o t0 he ht (e_in (i := i0) a1 a2) hd.1 (fun H1 locs1 q1 q2 q3 => ?_)
      have hm : eMt ρ b cl hp nx (ws.set o (a, .inl (cA, n, .inr (.inl (vp_updL f (Int32.ofNat i0).toNatClampNeg z))))) tys := eMt_set (x := .inr (.inr n)) hw.2.2.2.2 he (fun j => by
        by_cases hj : j = o
        · rw [if_pos hj, hj]; exact hob
        · rw [if_neg hj]) ⟨cA, _, t0, rfl, ht⟩
      exact eNx IH h X hR hcd hs ⟨hw.1, q1, q2, q3, hm⟩ (by rw [ead_set he]; exact had) hl (by rw [ead_set he]; exact hls) (by rw [ead_set he]; exact hst1)
    · cases h
  · cases h
theorem s_iast : eStp ρ b base D cl Tb NF l CN (hIast false) .iastore 1 := by
  intro ih IH mi pc cd ls st hp nx ce sl cs k h p e R s m args below meth c Q cc nL ad0 X hR H locs ws tys lsA lv stA hd hcd hs hw had hl hls hst
  unfold hIast at h
  split at h
  · rename_i v i0 o r
    obtain ⟨vA, t1, rfl, hv, hstv⟩ := eRs_cons hst
    obtain ⟨iA, t0, rfl, hi, hst0⟩ := eRs_cons hstv
    obtain ⟨xA, t, rfl, ⟨a, ha, rfl⟩, hst1⟩ := eRs_cons hst0
    have hi : iA = .int (Int32.ofNat i0) := hi
    subst hi
    split at h
    · rename_i ob hob
      obtain ⟨h1, h⟩ := e_cond h e_ff
      rw [Bool.and_eq_true, Bool.and_eq_true, Bool.and_eq_true] at h1
      obtain ⟨h0, h2, h3, h4⟩ := h1
      have h0 : ob.1 = 0 := Nat.eq_of_beq_eq_true h0
      have a1 := Nat.le_of_ble_eq_true h3
      have a2 := Nat.le_of_ble_eq_true h4
      obtain ⟨z, rfl⟩ := eRl_int hv h2
      obtain ⟨ch, h5, -, h6⟩ := ts_ok (by decide) h
      obtain ⟨hp2, h7, h8⟩ := hs_ok h5
      obtain ⟨ee, he, hx⟩ := eMt_at hw.2.2.2.2 ha hob
      rcases hx with ⟨hlt, cA, f, t0, rfl, ht, hc⟩ | ⟨ci, rr, cA, f, t0, hh, -⟩
      · have ht0 : tys[t0]? = some (cA, .int) := by rw [ht, h0]; rfl
        refine va_iast X.1 X.2.1 hw.1 hw.2.1 hw.2.2.1 hw.2.2.2.1 o t0 he ht0 (e_in (i := i0) a1 a2) hd.1 (fun H1 locs1 q1 q2 q3 => ?_)
        have hm := eMt_set (e := .inl (cA, ob.2.1, .inl (upd f (Int32.ofNat i0).toNatClampNeg z))) hw.2.2.2.2 he h8 (Or.inl ⟨hlt, cA, _, t0, rfl, ht, fun j hj => by
          rw [h6 j, e_cl (n := i0) (by omega)]
          by_cases hji : j = i0
          · rw [if_pos hji]
            refine ⟨_, rfl, ?_⟩
            rw [show upd f i0 z j = z from if_pos hji]
            exact hv
          · rw [if_neg hji]
            obtain ⟨w, w1, w2⟩ := hc j hj
            refine ⟨w, w1, ?_⟩
            rw [show upd f i0 z j = f j from if_neg hji]
            exact w2⟩)
        exact eNx IH h7 X hR hcd hs ⟨hw.1, q1, q2, q3, hm⟩ (by rw [ead_set he]; exact had) hl (by rw [ead_set he]; exact hls) (by rw [ead_set he]; exact hst1)
      · omega
    · cases h
  · cases h
theorem s_bast : eStp ρ b base D cl Tb NF l CN (hIast true) .bastore 1 := by
  intro ih IH mi pc cd ls st hp nx ce sl cs k h p e R s m args below meth c Q cc nL ad0 X hR H locs ws tys lsA lv stA hd hcd hs hw had hl hls hst
  unfold hIast at h
  split at h
  · rename_i v i0 o r
    obtain ⟨vA, t1, rfl, hv, hstv⟩ := eRs_cons hst
    obtain ⟨iA, t0, rfl, hi, hst0⟩ := eRs_cons hstv
    obtain ⟨xA, t, rfl, ⟨a, ha, rfl⟩, hst1⟩ := eRs_cons hst0
    have hi : iA = .int (Int32.ofNat i0) := hi
    subst hi
    split at h
    · rename_i ob hob
      obtain ⟨h1, h⟩ := e_cond h e_ff
      rw [Bool.and_eq_true, Bool.and_eq_true, Bool.and_eq_true] at h1
      obtain ⟨h0, h2, h3, h4⟩ := h1
      have h0 : (Nat.beq ob.1 1 || Nat.beq ob.1 2) = true := h0
      rw [Bool.or_eq_true] at h0
      have a1 := Nat.le_of_ble_eq_true h3
      have a2 := Nat.le_of_ble_eq_true h4
      obtain ⟨z, rfl⟩ := eRl_int hv h2
      obtain ⟨ch, h5, -, h6⟩ := ts_ok (by decide) h
      obtain ⟨hp2, h7, h8⟩ := hs_ok h5
      obtain ⟨ee, he, hx⟩ := eMt_at hw.2.2.2.2 ha hob
      rcases hx with ⟨hlt, cA, f, t0, rfl, ht, hc⟩ | ⟨ci, rr, cA, f, t0, hh, -⟩
      · have fin : ∀ (y : Int32) (H1 : Heap) (locs1 : List Loc), va_P D cl (ws.set o (a, .inl (cA, ob.2.1, .inl (upd f (Int32.ofNat i0).toNatClampNeg y)))) H1 → va_D (fun q => base ≤ q) (ws.set o (a, .inl (cA, ob.2.1, .inl (upd f (Int32.ofNat i0).toNatClampNeg y)))) → va_S (fun q => base ≤ q) s.heap H1 locs1 → W p l e R s m args below meth c H1 locs1 ce sl Q (F0 m (pc + 1) lsA t) := by
          intro y H1 locs1 q1 q2 q3
          have hm := eMt_set (e := .inl (cA, ob.2.1, .inl (upd f (Int32.ofNat i0).toNatClampNeg y))) hw.2.2.2.2 he h8 (Or.inl ⟨hlt, cA, _, t0, rfl, ht, fun j hj => by
            rw [h6 j, e_cl (n := i0) (by omega)]
            by_cases hji : j = i0
            · rw [if_pos hji]
              exact ⟨_, rfl, eRl_any _⟩
            · rw [if_neg hji]
              obtain ⟨w, w1, w2⟩ := hc j hj
              refine ⟨w, w1, ?_⟩
              rw [show upd f i0 y j = f j from if_neg hji]
              exact w2⟩)
          exact eNx IH h7 X hR hcd hs ⟨hw.1, q1, q2, q3, hm⟩ (by rw [ead_set he]; exact had) hl (by rw [ead_set he]; exact hls) (by rw [ead_set he]; exact hst1)
        rcases h0 with h0 | h0
        · have ht0 : tys[t0]? = some (cA, .byte) := by rw [ht, Nat.eq_of_beq_eq_true h0]; rfl
          exact va_bast X.1 X.2.1 hw.1 hw.2.1 hw.2.2.1 hw.2.2.2.1 o t0 he ht0 (e_in (i := i0) a1 a2) hd.1 (fin _)
        · have ht0 : tys[t0]? = some (cA, .boolean) := by rw [ht, Nat.eq_of_beq_eq_true h0]; rfl
          exact va_zast X.1 X.2.1 hw.1 hw.2.1 hw.2.2.1 hw.2.2.2.1 o t0 he ht0 (e_in (i := i0) a1 a2) hd.1 (fin _)
      · rcases h0 with h0 | h0
        · have := Nat.eq_of_beq_eq_true h0; omega
        · have := Nat.eq_of_beq_eq_true h0; omega
    · cases h
  · cases h
theorem s_aast : eStp ρ b base D cl Tb NF l CN hAast .aastore 1 := by
  intro ih IH mi pc cd ls st hp nx ce sl cs k h p e R s m args below meth c Q cc nL ad0 X hR H locs ws tys lsA lv stA hd hcd hs hw had hl hls hst
  unfold hAast at h
  split at h
  · rename_i q i0 o r
    obtain ⟨vA, t1, rfl, ⟨va, hva, rfl⟩, hstv⟩ := eRs_cons hst
    obtain ⟨iA, t0, rfl, hi, hst0⟩ := eRs_cons hstv
    obtain ⟨xA, t, rfl, ⟨a, ha, rfl⟩, hst1⟩ := eRs_cons hst0
    have hi : iA = .int (Int32.ofNat i0) := hi
    subst hi
    split at h
    · rename_i ob hob
      split at h
      · rename_i oq hoq
        obtain ⟨h1, h⟩ := e_cond h e_ff
        rw [Bool.and_eq_true, Bool.and_eq_true] at h1
        obtain ⟨h0, h3, h4⟩ := h1
        have h0 := Nat.eq_of_beq_eq_true h0
        have a1 := Nat.le_of_ble_eq_true h3
        have a2 := Nat.le_of_ble_eq_true h4
        obtain ⟨ch, h5, -, h6⟩ := ts_ok (by decide) h
        obtain ⟨hp2, h7, h8⟩ := hs_ok h5
        obtain ⟨eq, heq, fs, rfl, -⟩ := eMt_at hw.2.2.2.2 hva hoq
        obtain ⟨ee, he, hx⟩ := eMt_at hw.2.2.2.2 ha hob
        rcases hx with ⟨hlt, -⟩ | ⟨ci, rr, cA, f, t0, hh, hcl, rfl, ht, hc⟩
        · omega
        · have hci : ci = oq.1 := by omega
          subst hci
          refine va_astq X.1 X.2.1 hw.1 hw.2.1 hw.2.2.1 hw.2.2.2.1 o t0 q oq.1 he ht heq hcl (e_in (i := i0) a1 a2) hd.1 (fun H1 locs1 q1 q2 q3 => ?_)
          have hm := eMt_set (e := .inl (cA, ob.2.1, .inr (.inr (.inr (.inr (va_up f (Int32.ofNat i0).toNatClampNeg (some va))))))) hw.2.2.2.2 he h8 (Or.inr ⟨oq.1, rr, cA, _, t0, hh, hcl, rfl, ht, fun j hj => by
            rw [h6 j, e_cl (n := i0) (by omega)]
            by_cases hji : j = i0
            · rw [if_pos hji]
              refine ⟨_, rfl, va, hva, ?_⟩
              rw [show va_up f i0 (some va) j = some va from if_pos hji]
              rfl
            · rw [if_neg hji]
              obtain ⟨w, w1, w2⟩ := hc j hj
              refine ⟨w, w1, ?_⟩
              rw [show va_up f i0 (some va) j = f j from if_neg hji]
              exact w2⟩)
          exact eNx IH h7 X hR hcd hs ⟨hw.1, q1, q2, q3, hm⟩ (by rw [ead_set he]; exact had) hl (by rw [ead_set he]; exact hls) (by rw [ead_set he]; exact hst1)
      · cases h
    · cases h
  · cases h
theorem s_ret {kd : Nat} {i : Instr} (hi : (kd = 1 ∧ i = .ireturn) ∨ (kd = 4 ∧ i = .areturn)) : eStp ρ b base D cl Tb NF l CN (hRet kd) i 1 := by
  intro ih IH mi pc cd ls st hp nx ce sl cs k h p e R s m args below meth c Q cc nL ad0 X hR H locs ws tys lsA lv stA hd hcd hs hw had hl hls hst
  unfold hRet at h
  split at h
  · rename_i v
    obtain ⟨vA, t, rfl, hv, hst1⟩ := eRs_cons hst
    have ht := eRs_nil hst1
    subst ht
    obtain ⟨h1, h⟩ := e_cond h e_ff
    rw [Bool.and_eq_true, Bool.and_eq_true] at h1
    obtain ⟨⟨h2, h3⟩, h4⟩ := h1
    refine hR (some v) hp nx cs h hs H locs ws tys hw had i pc lsA [vA] ⟨vA, rfl, hv, ?_⟩ hd.1 ce sl (Nat.le_of_ble_eq_true h2) (Nat.le_of_ble_eq_true h3)
    rcases v with n | j | o | n
    · have h4 : (Nat.beq kd 1 && (Nat.beq mi.2.2.2.2.2.1 1 || ((Nat.beq mi.2.2.2.2.2.1 2 || Nat.beq mi.2.2.2.2.2.1 20) && Nat.ble n 1))) = true := h4
      rw [Bool.and_eq_true, Bool.or_eq_true, Bool.and_eq_true, Bool.or_eq_true] at h4
      have k1 := Nat.eq_of_beq_eq_true h4.1
      rcases hi with ⟨-, rfl⟩ | ⟨k2, -⟩
      · refine Or.inl ⟨rfl, rfl, ?_⟩
        rcases h4.2 with q | ⟨q | q, q2⟩
        · exact Or.inl (Nat.eq_of_beq_eq_true q)
        · exact Or.inr ⟨Or.inl (Nat.eq_of_beq_eq_true q), n, rfl, Nat.le_of_ble_eq_true q2⟩
        · exact Or.inr ⟨Or.inr (Nat.eq_of_beq_eq_true q), n, rfl, Nat.le_of_ble_eq_true q2⟩
      · omega
    · have h4 : (Nat.beq kd 1 && Nat.beq mi.2.2.2.2.2.1 1) = true := h4
      rw [Bool.and_eq_true] at h4
      have k1 := Nat.eq_of_beq_eq_true h4.1
      rcases hi with ⟨-, rfl⟩ | ⟨k2, -⟩
      · exact Or.inl ⟨rfl, rfl, Or.inl (Nat.eq_of_beq_eq_true h4.2)⟩
      · omega
    · have h4 : (Nat.beq kd 4 && Nat.beq mi.2.2.2.2.2.1 4) = true := h4
      rw [Bool.and_eq_true] at h4
      have k1 := Nat.eq_of_beq_eq_true h4.1
      rcases hi with ⟨k2, -⟩ | ⟨-, rfl⟩
      · omega
      · exact Or.inr ⟨rfl, Nat.eq_of_beq_eq_true h4.2, rfl⟩
    · match n, h4 with
      | 0, h4 =>
        have h4 : (Nat.beq kd 1 && Nat.beq mi.2.2.2.2.2.1 1) = true := h4
        rw [Bool.and_eq_true] at h4
        have k1 := Nat.eq_of_beq_eq_true h4.1
        rcases hi with ⟨-, rfl⟩ | ⟨k2, -⟩
        · exact Or.inl ⟨rfl, rfl, Or.inl (Nat.eq_of_beq_eq_true h4.2)⟩
        · omega
      | _ + 1, h4 => cases h4
  · cases h
theorem s_retv : eStp ρ b base D cl Tb NF l CN hRetv .return_ 1 := by
  intro ih IH mi pc cd ls st hp nx ce sl cs k h p e R s m args below meth c Q cc nL ad0 X hR H locs ws tys lsA lv stA hd hcd hs hw had hl hls hst
  unfold hRetv at h
  split at h
  · have ht := eRs_nil hst
    subst ht
    obtain ⟨h1, h⟩ := e_cond h e_ff
    rw [Bool.and_eq_true, Bool.and_eq_true, Bool.or_eq_true] at h1
    obtain ⟨⟨h2, h3⟩, h4⟩ := h1
    refine hR none hp nx cs h hs H locs ws tys hw had _ pc lsA [] ⟨?_, rfl, rfl⟩ hd.1 ce sl (Nat.le_of_ble_eq_true h2) (Nat.le_of_ble_eq_true h3)
    rcases h4 with q | q
    · exact Or.inl (Nat.eq_of_beq_eq_true q)
    · exact Or.inr (Nat.eq_of_beq_eq_true q)
  · cases h
end ES5
end
section
theorem lg_len : ∀ vs : List Value, (lg_sl vs).length = (vs.map fun v => v.category).sum
  | [] => rfl
  | v :: vs => by
    have h := lg_len vs
    unfold lg_sl at h ⊢
    rw [List.flatMap_cons, List.length_append, h, List.map_cons, List.sum_cons]
    rcases lv_cat v with q | q
    · rw [q]; rfl
    · rw [q]; rfl
def eRk (kd : Nat) (ret : Option FieldType) : Prop := (kd = 0 ∧ ret = none) ∨ (kd = 10 ∧ ret = none) ∨ (kd = 1 ∧ ret = some .int) ∨ (kd = 2 ∧ ret = some .boolean) ∨ (kd = 4 ∧ ∃ rt, ret = some rt ∧ ((∃ n, rt = .object n) ∨ ∃ t, rt = .array t))
def eMok (Tb : List Cond) (CN : Nat → String) (q : eM × Nat) (y : MethodName) (cc : ByteArray) (ret : Option FieldType) : Prop :=
  Cond.code y cc q.2 ret ∈ Tb ∧ Cond.initialized y.cls ∈ Tb ∧ plainFor y = true ∧ y.cls = CN q.1.1 ∧ (y.cls ≠ "java/lang/invoke/MethodHandle" ∧ y.cls ≠ "java/lang/invoke/VarHandle") ∧ (∀ t ∈ q.1.2.2.2.2.2.2, eDk cc q.2 t) ∧ (q.1.2.2.2.2.2.1 = 10 → y.name = "<init>") ∧ eRk q.1.2.2.2.2.2.1 ret
def eNFw (base : Nat) (NF : State → Prop) : Prop := (∀ (s U : State), NF s → s.WarmedH U.vm → s.heap.size ≤ U.heap.size → (∀ q : Nat, q < s.heap.size → ¬ base ≤ q → U.heap[q]? = s.heap[q]?) → NF U) ∧ ∀ (s U : State), NF s → s.vm = U.vm → s.heap = U.heap → NF U
def eRoom (mi : eM) : Room := { frames := mi.2.2.2.1, cells := mi.2.1, slots := mi.2.2.1, locals := mi.2.2.2.2.1 }
theorem e_ofWF {l : Launch} {y : MethodName} {ws ws' : List Cond} {rm : Room} {Pc : Array Value → State → Prop} {Qc : Array Value → State → Outcome → State → Prop} {mc ms : Nat} {free : Addr → Prop} {cc : ByteArray} {maxL : Nat} {ret : Option FieldType}
    (hy : plainFor y = true) (hw : ws = Cond.code y cc maxL ret :: ws')
    (body : ∀ p e s m args below meth c s₁, BodyLoose p l y (headSpec ws rm) cc maxL ret e s m args below meth c s₁ → c.maxLocals = maxL → Pc args s →
      W p l e (headSpec ws rm).room s m args below meth c s.heap [] 0 0 (MQ below Qc args s mc ms free) (entryFrame m args maxL)) : Met l y ws rm Pc Qc mc ms free := by
  refine MetFree.of_bodySF (code := cc) (maxLocals := maxL) (ret := ret) hy ?_ ?_
  · intro args s m h hn
    obtain ⟨meth, c, h1, h2, h3, h4, h5, h6, -, -⟩ := Cond.code_spec hn (atoms_spec (ws := ws) h _ (by rw [hw]; exact List.mem_cons_self))
    exact ⟨meth, c, h1, h2, h3, h4, h5, h6⟩
  · intro p e s m args below meth c s₁ B hml hP _
    have hh0 : s₁.heap = s.heap := by rw [B.state]; rfl
    obtain ⟨t, a1, o, b1, b2, b3⟩ := body p e s m args below meth c s₁ B hml hP s₁ hh0 (Stand.of_body B)
    exact ⟨t, o, a1, b1, b2, ⟨b3.1, b3.2⟩⟩
section ES6
variable {ρ : Nat → Int32} {b base : Nat} {D : va_G} {cl : List vw_C} {Tb : List Cond} {NF : State → Prop} {l : Launch} {CN : Nat → String}
def ePc (base : Nat) (D : va_G) (cl : List vw_C) (NF : State → Prop) (ws : va_W) (tys : List (ClassId × FieldType)) (asx : List Value) : Array Value → State → Prop := fun v U => v = asx.toArray ∧ NF U ∧ base ≤ U.heap.size ∧ va_K D cl tys U ∧ va_P D cl ws U.heap ∧ va_D (fun q => base ≤ q) ws
def eQc (ρ : Nat → Int32) (b base : Nat) (D : va_G) (cl : List vw_C) (ws : va_W) (k : eK) : Array Value → State → Outcome → State → Prop := fun _ st o t =>
  (∃ (ret : Option eV) (hp2 : eH) (nx2 : Nat) (cs2 : eC) (ws2 : va_W) (tys2 : List (ClassId × FieldType)), k ret hp2 nx2 cs2 = true ∧ eSat ρ cs2 ∧ (∀ (o a : Nat), (ead ws)[o]? = some a → (ead ws2)[o]? = some a) ∧ va_K D cl tys2 t ∧ va_P D cl ws2 t.heap ∧ va_D (fun q => base ≤ q) ws2 ∧ eMt ρ b cl hp2 nx2 ws2 tys2
    ∧ ((ret = none ∧ o = .returned none) ∨ ∃ v x, ret = some v ∧ eRl ρ b (ead ws2) v x ∧ o = .returned (some x))) ∧ va_F (fun q => base ≤ q) st t
theorem e_met {ih : eR} (IH : eSn ρ b base D cl Tb NF l CN ih) {q : eM × Nat} {y : MethodName} {cc : ByteArray} {ret : Option FieldType} (ok : eMok Tb CN q y cc ret) {as : List eV} {hp : eH} {nx : Nat} {cs : eC} {k : eK} (h : ih q.1 0 q.1.2.2.2.2.2.2 (eargs as 0) [] hp nx 0 0 cs k = true) (hc : ecats as ≤ q.2) (hs : eSat ρ cs)
    {ws : va_W} {tys : List (ClassId × FieldType)} {asx : List Value} (hm : eMt ρ b cl hp nx ws tys) (has : eRs ρ b (ead ws) as asx) :
    Met l y (Cond.code y cc q.2 ret :: Tb) (eRoom q.1) (ePc base D cl NF ws tys asx) (eQc ρ b base D cl ws k) q.1.2.1 q.1.2.2.1 (fun a => base ≤ a) := by
  obtain ⟨o1, o2, o3, o4, o5, o6, o7, o8⟩ := ok
  refine e_ofWF (cc := cc) (maxL := q.2) (ret := ret) o3 rfl ?_
  intro p e s m args below meth c s₁ B hml hv
  obtain ⟨rfl, hnf, hbase, hK, hP, hD⟩ := hv
  have hx := B.exec
  have hb := B.bytes
  have hr := B.returns
  have hts := atoms_spec (ws := Cond.code y cc q.2 ret :: Tb) B.pre
  have hown : s.vm.findClass y.cls = some m.cls := findClass_of_methodNamed B.named
  have hlocks := B.notSynchronized
  have hnm : meth.name = y.name := (name_of_methodNamed B.named B.method).1
  have X : eCx ρ b base Tb NF CN p (headSpec (Cond.code y cc q.2 ret :: Tb) (eRoom q.1)).room s m asx.toArray meth c q.1 cc q.2 :=
    ⟨hx, hb, hml, by rw [← o4]; exact hown, fun w hw => hts w (List.mem_cons_of_mem _ hw), hnf, hbase, ⟨rfl, rfl, rfl, rfl⟩, o6, fun z => hnm.trans (o7 z), fun z => by
      exfalso
      rcases o8 with ⟨z2, -⟩ | ⟨z2, -⟩ | ⟨z2, -⟩ | ⟨z2, -⟩ | ⟨z2, -⟩ <;> omega⟩
  have hl := lv_entry asx (n := q.2) (by rw [lg_len, eRs_cats has]; exact hc)
  rw [lg_entry_eq]
  generalize (lg_sl asx ++ List.replicate (q.2 - (lg_sl asx).length) Slot.unset).toArray = lsA at hl ⊢
  refine eNx IH h X (ad0 := ead ws) ?_ (H := s.heap) (locs := []) (ws := ws) (tys := tys) (lv := lv_args 0 asx) (stA := []) o6 hs ⟨hK, hP, hD, va_S.rf, hm⟩ (fun _ _ z => z) hl (eargs_ok 0 has) trivial
  intro rv hp2 nx2 cs2 hk hs2 H locs ws2 tys2 hw2 had i pc lsB stA hret hdec ce sl hce hsl
  refine W.widen hce hsl ?_
  have hq : ∀ (o : Option Value), ((rv = none ∧ o = none) ∨ ∃ v x, rv = some v ∧ eRl ρ b (ead ws2) v x ∧ o = some x) → ∀ t : State, t.heap = H → s.WarmedH t.vm → eQc ρ b base D cl ws k asx.toArray s (.returned o) t := by
    intro o ho t ht hW
    refine ⟨⟨rv, hp2, nx2, cs2, ws2, tys2, hk, hs2, had, va_K.moved hW.alike hw2.1, by rw [ht]; exact hw2.2.1, hw2.2.2.1, hw2.2.2.2.2, ?_⟩, hw2.2.2.2.1.F ht⟩
    rcases ho with ⟨z1, rfl⟩ | ⟨v, x, z1, z2, rfl⟩
    · exact Or.inl ⟨z1, rfl⟩
    · exact Or.inr ⟨v, x, z1, z2, rfl⟩
  have hf : ∀ z ∈ locs, base ≤ z.base := hw2.2.2.2.1.2.2
  cases rv with
  | none =>
    obtain ⟨hkd, rfl, rfl⟩ := hret
    have hr0 : ret = none := by
      rcases o8 with ⟨z2, z3⟩ | ⟨z2, z3⟩ | ⟨z2, -⟩ | ⟨z2, -⟩ | ⟨z2, -⟩
      · exact z3
      · exact z3
      all_goals omega
    exact W.vret hx hb (by rw [hr, hr0]) (hq none (Or.inl ⟨rfl, rfl⟩)) hf hdec
  | some v =>
    obtain ⟨x, rfl, hvx, hkind⟩ := hret
    have hqq := hq (some x) (Or.inr ⟨v, x, rfl, hvx, rfl⟩)
    rcases hkind with ⟨rfl, hint, hk1⟩ | ⟨rfl, hk4, href⟩
    · obtain ⟨z, rfl⟩ := eRl_int hvx hint
      rcases hk1 with hk1 | ⟨hk1, n, rfl, hn⟩
      · have hr0 : ret = some .int := by
          rcases o8 with ⟨z2, z3⟩ | ⟨z2, z3⟩ | ⟨z2, z3⟩ | ⟨z2, -⟩ | ⟨z2, -⟩
          · omega
          · omega
          · exact z3
          all_goals omega
        exact W.iret hx hb (by rw [hr, hr0]) hqq hf hdec
      · have hr0 : ret = some .boolean := by
          rcases o8 with ⟨z2, z3⟩ | ⟨z2, z3⟩ | ⟨z2, z3⟩ | ⟨z2, z3⟩ | ⟨z2, -⟩
          · omega
          · omega
          · omega
          · exact z3
          · omega
        have hz : Value.int z = .int (Int32.ofNat n) := hvx
        have hz : z = Int32.ofNat n := by injection hz
        exact W.zret (ty := .boolean) hx hb (by rw [hr, hr0]) (by
          rcases (show n = 0 ∨ n = 1 by omega) with rfl | rfl
          · rw [hz]; rfl
          · rw [hz]; rfl) hqq hf hdec
    · obtain ⟨o, a, -, -, rfl⟩ := eRl_ref hvx href
      obtain ⟨rt, hr0, hrt⟩ : ∃ rt, ret = some rt ∧ ((∃ n, rt = .object n) ∨ ∃ t, rt = .array t) := by
        rcases o8 with ⟨z2, z3⟩ | ⟨z2, z3⟩ | ⟨z2, z3⟩ | ⟨z2, z3⟩ | ⟨z2, z3⟩
        · omega
        · omega
        · omega
        · omega
        · exact z3
      exact W.aret hx hb (by rw [hr, hr0]) hrt (Or.inr ⟨a, rfl⟩) hqq hf hdec
/-- behind a call -/
theorem e_back {ih : eR} (IH : eSn ρ b base D cl Tb NF l CN ih) {mi : eM} {pc : Nat} {cd : List eI} {ls : List (Nat × eV)} {r : List eV} {hp : eH} {nx ce sl mc ms : Nat} {k : eK}
    {p : Program} {e : Env} {R : Room} {s : State} {m : MethodId} {args : Array Value} {below : List Frame} {meth : Method} {c : Code} {Q : State → Prop} {cc : ByteArray} {nL : Nat} {ad0 : List Nat}
    (X : eCx ρ b base Tb NF CN p R s m args meth c mi cc nL) (hR : eRH ρ b base D cl l p e R s m args below meth c Q mi cc ad0 k)
    {H : Heap} {locs : List Loc} {ws : va_W} {tys : List (ClassId × FieldType)} {lsA : Array Slot} {lv : List (Nat × Value)} {st0 rx : List Value} {a : Array Value}
    (hcd : ∀ q ∈ cd, eDk cc nL q) (hw : eWd ρ b base D cl s H locs hp nx ws tys) (had : ∀ (o a : Nat), ad0[o]? = some a → (ead ws)[o]? = some a) (hl : lv_has lsA nL lv) (hls : eLs ρ b (ead ws) ls lv) (hst : eRs ρ b (ead ws) r rx)
    (hr : va_Run p l e R s m args below meth c H locs ce sl mc ms (F0 m pc lsA st0) rx (eQc ρ b base D cl ws (fun ret hp nx cs => ef (ce + mc) (fun ce => ef (sl + ms) (fun sl => match ret with
        | some v => ih mi (pc + 3) cd ls (v :: r) hp nx ce sl cs k
        | none => ih mi (pc + 3) cd ls r hp nx ce sl cs k))) a) (fun x => base ≤ x)) :
    W p l e R s m args below meth c H locs ce sl Q (F0 m pc lsA st0) := by
  intro T hT XT
  obtain ⟨v, st₀, t, T', L, h0, X', hL, e1, e2, ⟨⟨ret, hp2, nx2, cs2, ws2, tys2, hk, hs2, hext, hK2, hP2, hD2, hm2, hret⟩, hz, hkp⟩, st⟩ := hr T hT XT
  rw [h0] at hz hkp
  have hS := hw.2.2.2.1
  have hw2 : eWd ρ b base D cl s T'.heap (locs ++ L) hp2 nx2 ws2 tys2 := by
    refine ⟨va_K.moved (by rw [← e2]; exact X'.warmed.alike.symm) hK2, by rw [e1]; exact hP2, hD2, ⟨Nat.le_trans hS.1 (by rw [e1]; exact hz), fun q h1 h2 => ?_, fun q hq => ?_⟩, hm2⟩
    · rw [e1, hkp q (Nat.lt_of_lt_of_le h1 hS.1) h2]
      exact hS.2.1 q h1 h2
    · rcases List.mem_append.mp hq with z | z
      · exact hS.2.2 q z
      · exact hL q z
  have had2 : ∀ (o a : Nat), ad0[o]? = some a → (ead ws2)[o]? = some a := fun o a z => hext o a (had o a z)
  have K : W p l e R s m args below meth c T'.heap (locs ++ L) (ce + mc) (sl + ms) Q (F0 m (pc + 3) lsA (v.toList ++ rx)) := by
    rcases hret with ⟨rfl, ho⟩ | ⟨v2, x, rfl, hvx, ho⟩
    · cases ho
      have hk3 : ef (ce + mc) (fun ce => ef (sl + ms) (fun sl => ih mi (pc + 3) cd ls r hp2 nx2 ce sl cs2 k)) = true := hk
      rw [ef_eq, ef_eq] at hk3
      exact eNx IH hk3 X hR hcd hs2 hw2 had2 hl (eLs_more hext hls) (eRs_more hext hst)
    · cases ho
      have hst2 : eRs ρ b (ead ws2) (v2 :: r) (x :: rx) := ⟨hvx, eRs_more hext hst⟩
      have hk3 : ef (ce + mc) (fun ce => ef (sl + ms) (fun sl => ih mi (pc + 3) cd ls (v2 :: r) hp2 nx2 ce sl cs2 k)) = true := hk
      rw [ef_eq, ef_eq] at hk3
      exact eNx IH hk3 X hR hcd hs2 hw2 had2 hl (eLs_more hext hls) hst2
  obtain ⟨t2, a1, b1⟩ := K T' rfl X'
  exact ⟨t2, st t2 a1, b1⟩
end ES6
end
section
/-- what a call's row of the table must be -/
def eLk (Tb : List Cond) (NF : State → Prop) (CN : Nat → String) (o idx kd n : Nat) (y : MethodName) : Prop :=
  (parseMethodDescriptor y.desc).map (fun d => d.parameters.length) = some (bif Nat.beq kd 0 || Nat.beq kd 3 then n else n - 1) ∧
  ((kd = 0 ∧ Cond.methodLink (CN o) idx y ∈ Tb ∧ Cond.static y ∈ Tb) ∨ (kd = 1 ∧ Cond.methodLink (CN o) idx y ∈ Tb ∧ Cond.instanceMethod y ∈ Tb ∧ Cond.selects y.cls y y ∈ Tb) ∨ (kd = 2 ∧ Cond.methodLink (CN o) idx y ∈ Tb ∧ Cond.instanceMethod y ∈ Tb ∧ y.name = "<init>")
  ∨ (kd = 3 ∧ (∃ host, ∀ s : State, NF s → va_Nw (.methodLinkNest (CN o) idx y host) s) ∧ Cond.static y ∈ Tb) ∨ (kd = 4 ∧ (∃ host, ∀ s : State, NF s → va_Nw (.methodLinkNest (CN o) idx y host) s) ∧ Cond.instanceMethod y ∈ Tb ∧ Cond.selects y.cls y y ∈ Tb) ∨ (kd = 5 ∧ (∃ host, ∀ s : State, NF s → va_Nw (.methodLinkNest (CN o) idx y host) s) ∧ Cond.instanceMethod y ∈ Tb ∧ y.name = "<init>"))
def eCok (cl : List vw_C) (Tb : List Cond) (NF : State → Prop) (CN : Nat → String) (CL : eFL) (MT : Nat → Option (eM × Nat)) : Prop := ∀ (o idx kd mno n : Nat), CL o idx = some (kd, mno, n) → kd ≤ 5 → ∀ q, MT mno = some q → ∃ (y : MethodName) (cc : ByteArray) (ret : Option FieldType), eMok Tb CN q y cc ret ∧ eLk Tb NF CN o idx kd n y ∧ ((kd = 1 ∨ kd = 4) → ∃ T N, cl[q.1.1]? = some (CN q.1.1, T, N))
def eOok (Tb : List Cond) (CN : Nat → String) (CL : eFL) : Prop := (∀ (o idx x n : Nat), CL o idx = some (6, x, n) → Cond.methodLink (CN o) idx objectInit ∈ Tb) ∧ Cond.instanceMethod objectInit ∈ Tb ∧ Cond.code objectInit ⟨#[0xb1]⟩ 1 none ∈ Tb
  ∧ (∀ (o idx x n : Nat), CL o idx = some (7, x, n) → Cond.methodLink (CN o) idx arraycopyName ∈ Tb) ∧ Cond.native arraycopyName ∈ Tb ∧ Cond.static arraycopyName ∈ Tb ∧ Cond.initialized "java/lang/System" ∈ Tb
section ES7
variable {ρ : Nat → Int32} {b base : Nat} {D : va_G} {cl : List vw_C} {Tb : List Cond} {NF : State → Prop} {l : Launch} {CN : Nat → String}
theorem e_goodIn (hTg : ∀ w ∈ Tb, goodWord w = true) {ws : List Cond} (h : ∀ w ∈ ws, w ∈ Tb) : GoodIn Tb ws := fun w hw => ⟨h w hw, good_of_word (hTg w (h w hw))⟩
theorem e_blind (hN : eNFw base NF) {ws : va_W} {tys : List (ClassId × FieldType)} {asx : List Value} : FrameBlind (ePc base D cl NF ws tys asx) := fun a U g mk q => by
  obtain ⟨q1, q2, q3, q4, q5, q6⟩ := q
  exact ⟨q1, hN.2 U _ q2 rfl rfl, q3, va_K.moved (u := U) (U := U.calling g mk a) (Vm.Alike.refl U.vm) q4, q5, q6⟩
theorem e_pre (hN : eNFw base NF) {p : Program} {R : Room} {s : State} {m : MethodId} {args : Array Value} {meth : Method} {c : Code} {mi : eM} {cc : ByteArray} {nL : Nat} (X : eCx ρ b base Tb NF CN p R s m args meth c mi cc nL)
    {H : Heap} {locs : List Loc} {hp : eH} {nx : Nat} {ws : va_W} {tys : List (ClassId × FieldType)} (hw : eWd ρ b base D cl s H locs hp nx ws tys) {asx : List Value} : ∀ U : State, U.heap = H → s.WarmedH U.vm → ePc base D cl NF ws tys asx asx.toArray U := fun U hU hW => by
  refine ⟨rfl, hN.1 s U X.2.2.2.2.2.1 hW (by rw [hU]; exact hw.2.2.2.1.1) (by rw [hU]; exact hw.2.2.2.1.2.1), ?_, va_K.moved hW.alike hw.1, by rw [hU]; exact hw.2.1, hw.2.2.1⟩
  rw [hU]
  exact Nat.le_trans X.2.2.2.2.2.2.1 hw.2.2.2.1.1
theorem s_call (hTg : ∀ w ∈ Tb, goodWord w = true) (hN : eNFw base NF) {CL : eFL} {MT : Nat → Option (eM × Nat)} (hC : eCok cl Tb NF CN CL MT) {op idx kd mno n : Nat} {i : Instr}
    (hop : (op = 0 ∧ i = .invokestatic idx ∧ (kd = 0 ∨ kd = 3)) ∨ (op = 1 ∧ i = .invokevirtual idx ∧ (kd = 1 ∨ kd = 4)) ∨ (op = 2 ∧ i = .invokespecial idx ∧ (kd = 2 ∨ kd = 5)))
    {ih : eR} (IH : eSn ρ b base D cl Tb NF l CN ih) {mi : eM} {pc : Nat} {cd : List eI} {ls : List (Nat × eV)} {st : List eV} {hp : eH} {nx ce sl : Nat} {cs : eC} {k : eK} (hcl : CL mi.1 idx = some (kd, mno, n)) (h : eCall MT kd mno n ih mi pc cd ls st hp nx ce sl cs k = true)
    {p : Program} {e : Env} {R : Room} {s : State} {m : MethodId} {args : Array Value} {below : List Frame} {meth : Method} {c : Code} {Q : State → Prop} {cc : ByteArray} {nL : Nat} {ad0 : List Nat}
    (X : eCx ρ b base Tb NF CN p R s m args meth c mi cc nL) (hR : eRH ρ b base D cl l p e R s m args below meth c Q mi cc ad0 k)
    {H : Heap} {locs : List Loc} {ws : va_W} {tys : List (ClassId × FieldType)} {lsA : Array Slot} {lv : List (Nat × Value)} {stA : List Value}
    (hd : eDk cc nL (pc, i, 3)) (hcd : ∀ q ∈ cd, eDk cc nL q) (hs : eSat ρ cs) (hw : eWd ρ b base D cl s H locs hp nx ws tys) (had : ∀ (o a : Nat), ad0[o]? = some a → (ead ws)[o]? = some a) (hl : lv_has lsA nL lv) (hls : eLs ρ b (ead ws) ls lv) (hst : eRs ρ b (ead ws) st stA) :
    W p l e R s m args below meth c H locs ce sl Q (F0 m pc lsA stA) := by
  unfold eCall at h
  cases hq : MT mno with
  | none => rw [hq] at h; cases h
  | some q =>
    rw [hq] at h
    obtain ⟨as, r, asx, rx, h1, has, hr, hsp, hlen⟩ := etake_ok (acc := []) (accx := []) n hst trivial h
    rw [List.reverse_nil, List.nil_append] at hsp
    rw [List.length_nil, Nat.zero_add] at hlen
    obtain ⟨h2, h3⟩ := e_cond h1 e_ff
    rw [Bool.and_eq_true] at h2
    obtain ⟨hroom, hrecv⟩ := h2
    unfold eroom at hroom
    simp only [Bool.and_eq_true] at hroom
    obtain ⟨r1, r2, r3, r4, r5, r6⟩ := hroom
    have r1 := Nat.le_of_ble_eq_true r1
    have r2 := Nat.le_of_ble_eq_true r2
    have r3 := Nat.le_of_ble_eq_true r3
    have r4 := Nat.le_of_ble_eq_true r4
    have r5 := Nat.le_of_ble_eq_true r5
    have r6 := Nat.le_of_ble_eq_true r6
    have hk5 : kd ≤ 5 := by rcases hop with ⟨-, -, z | z⟩ | ⟨-, -, z | z⟩ | ⟨-, -, z | z⟩ <;> omega
    obtain ⟨y, cc2, ret, ok, ⟨hpar, hlk⟩, hcls⟩ := hC _ _ _ _ _ hcl hk5 q hq
    have hM := e_met IH ok h3 r6 hs hw.2.2.2.2 has
    obtain ⟨o1, o2, o3, o4, o5, o6, o7, o8⟩ := ok
    have hRc := X.2.2.2.2.2.2.2.1
    have hts := X.2.2.2.2.1
    have hG : GoodIn Tb (Cond.code y cc2 q.2 ret :: Tb) := e_goodIn hTg (fun w z => (List.mem_cons.mp z).elim (fun z => by rw [z]; exact o1) (fun z => z))
    have S : CallFix p m c cc nL s args Tb (CN mi.1) := ⟨X.1, X.2.1, X.2.2.1, X.2.2.2.1, hts⟩
    have hRR : (eRoom q.1).frames + 1 ≤ R.frames ∧ 8 + (q.2 + 11) + (eRoom q.1).locals ≤ R.locals := ⟨by rw [hRc.2.2.1]; exact r1, by rw [hRc.2.2.2]; exact r2⟩
    have hff : ce + q.1.2.1 ≤ R.cells ∧ sl + q.1.2.2.1 ≤ R.slots := ⟨by rw [hRc.1]; exact r3, by rw [hRc.2.1]; exact r4⟩
    have hcat : (rx.map fun v => v.category).sum ≤ 8 := by rw [eRs_cats hr]; exact r5
    have hWw : ∀ st1 : List Value, 2 * (F0 m pc lsA st1).monitorRoom + (rx.map fun v => v.category).sum ≤ 8 := fun st1 => lv_room hcat
    refine e_back IH X hR hcd hw had hl hls hr (mc := q.1.2.1) (ms := q.1.2.2.1) (a := asx.toArray) ?_
    rcases hlk with ⟨rfl, l1, l2⟩ | ⟨rfl, l1, l2, l3⟩ | ⟨rfl, l1, l2, l3⟩ | ⟨rfl, ⟨host, l1⟩, l2⟩ | ⟨rfl, ⟨host, l1⟩, l2, l3⟩ | ⟨rfl, ⟨host, l1⟩, l2, l3⟩
    · rcases hop with ⟨-, rfl, -⟩ | ⟨-, -, z | z⟩ | ⟨-, -, z | z⟩
      · exact va_runS (n := n) S hM ⟨callB_of n hts hG rfl rfl rfl (hts _ o2) (hts _ l1) ⟨o5.1, o5.2, hpar⟩ hRR, hts _ l2⟩ ⟨e_blind hN, e_pre hN X hw⟩ rfl hlen hl.1 hsp (hWw _) hd.1 hff
      all_goals omega
    · rcases hop with ⟨-, -, z | z⟩ | ⟨-, rfl, -⟩ | ⟨-, -, z | z⟩
      · omega
      · omega
      · cases as with
        | nil => rw [erecv] at hrecv; simp at hrecv
        | cons v as2 =>
          obtain ⟨x, asx2, rfl, hv, has2⟩ := eRs_cons has
          have hrecv : (bif Nat.ble 10 q.1.2.2.2.2.2.1 then false else (match ecl hp v with
            | some c => Nat.beq c q.1.1
            | none => false)) = true := hrecv
          have hrv : ∃ (o a : Nat) (fs : List Value), x = .ref a ∧ ws[o]? = some (a, (.inr (q.1.1, fs) : va_E)) := by
            cases hz : Nat.ble 10 q.1.2.2.2.2.2.1 with
            | true => rw [hz] at hrecv; cases hrecv
            | false =>
              rw [hz, cond_false] at hrecv
              rcases v with n | j | o | n
              · cases hrecv
              · cases hrecv
              · obtain ⟨a, ha, rfl⟩ := hv
                unfold ecl at hrecv
                dsimp only at hrecv
                cases hob : hg hp o with
                | none => rw [hob] at hrecv; cases hrecv
                | some ob =>
                  rw [hob] at hrecv
                  rcases ob with ob | ob
                  · have he := Nat.eq_of_beq_eq_true hrecv
                    obtain ⟨ee, h8, fs, rfl, -⟩ := eMt_at hw.2.2.2.2 ha hob
                    exact ⟨o, a, fs, rfl, by rw [h8, he]⟩
                  · cases hrecv
              · cases hrecv
          obtain ⟨o, a, fs, rfl, he⟩ := hrv
          obtain ⟨T, N, hcl2⟩ := hcls (Or.inl rfl)
          have hln : asx2.length = n - 1 := by rw [List.length_cons] at hlen; omega
          have hsp2 : stA = asx2.reverse ++ .ref a :: rx := by rw [hsp, List.reverse_cons, List.append_assoc]; rfl
          exact va_runV (n := n - 1) (C := CN q.1.1) S hM ⟨callB_of (n - 1) hts hG rfl rfl rfl (hts _ o2) (hts _ l1) ⟨o5.1, o5.2, hpar⟩ hRR, hts _ l2, by rw [← o4]; exact hts _ l3⟩ ⟨e_blind hN, va_recv hw.1 hw.2.1 hcl2 he, e_pre hN X hw⟩ rfl hln hl.1 hsp2 (hWw _) hd.1 hff
      · omega
      · omega
    · rcases hop with ⟨-, -, z | z⟩ | ⟨-, -, z | z⟩ | ⟨-, rfl, -⟩
      · omega
      · omega
      · omega
      · omega
      · cases as with
        | nil => rw [erecv] at hrecv; simp at hrecv
        | cons v as2 =>
          obtain ⟨x, asx2, rfl, hv, has2⟩ := eRs_cons has
          have hrecv : (Nat.beq q.1.2.2.2.2.2.1 10 && eref v) = true := hrecv
          rw [Bool.and_eq_true] at hrecv
          have hk10 := Nat.eq_of_beq_eq_true hrecv.1
          obtain ⟨o, a, -, -, rfl⟩ := eRl_ref hv hrecv.2
          have hln : asx2.length = n - 1 := by rw [List.length_cons] at hlen; omega
          have hsp2 : stA = asx2.reverse ++ .ref a :: rx := by rw [hsp, List.reverse_cons, List.append_assoc]; rfl
          have hr0 : ret = none := by
            rcases o8 with ⟨z2, z3⟩ | ⟨z2, z3⟩ | ⟨z2, z3⟩ | ⟨z2, z3⟩ | ⟨z2, z3⟩
            · exact z3
            · exact z3
            all_goals omega
          subst hr0
          exact va_runI (n := n - 1) S hM ⟨callB_of (n - 1) hts hG rfl rfl rfl (hts _ o2) (hts _ l1) ⟨o5.1, o5.2, hpar⟩ hRR, l3, hts _ l2⟩ ⟨e_blind hN, e_pre hN X hw⟩ rfl hln hl.1 hsp2 (hWw _) hd.1 hff
    · rcases hop with ⟨-, rfl, -⟩ | ⟨-, -, z | z⟩ | ⟨-, -, z | z⟩
      · exact va_runSN (n := n) S hM ⟨va_cnB n hts hG rfl rfl rfl (l1 s X.2.2.2.2.2.1) (hts _ o2) ⟨o5.1, o5.2, hpar⟩ hRR, hts _ l2, trivial⟩ ⟨e_blind hN, e_pre hN X hw⟩ rfl hlen hl.1 hsp (hWw _) hd.1 hff
      all_goals omega
    · rcases hop with ⟨-, -, z | z⟩ | ⟨-, rfl, -⟩ | ⟨-, -, z | z⟩
      · omega
      · omega
      · cases as with
        | nil => rw [erecv] at hrecv; simp at hrecv
        | cons v as2 =>
          obtain ⟨x, asx2, rfl, hv, has2⟩ := eRs_cons has
          have hrecv : (bif Nat.ble 10 q.1.2.2.2.2.2.1 then false else (match ecl hp v with
            | some c => Nat.beq c q.1.1
            | none => false)) = true := hrecv
          have hrv : ∃ (o a : Nat) (fs : List Value), x = .ref a ∧ ws[o]? = some (a, (.inr (q.1.1, fs) : va_E)) := by
            cases hz : Nat.ble 10 q.1.2.2.2.2.2.1 with
            | true => rw [hz] at hrecv; cases hrecv
            | false =>
              rw [hz, cond_false] at hrecv
              rcases v with n | j | o | n
              · cases hrecv
              · cases hrecv
              · obtain ⟨a, ha, rfl⟩ := hv
                unfold ecl at hrecv
                dsimp only at hrecv
                cases hob : hg hp o with
                | none => rw [hob] at hrecv; cases hrecv
                | some ob =>
                  rw [hob] at hrecv
                  rcases ob with ob | ob
                  · have he := Nat.eq_of_beq_eq_true hrecv
                    obtain ⟨ee, h8, fs, rfl, -⟩ := eMt_at hw.2.2.2.2 ha hob
                    exact ⟨o, a, fs, rfl, by rw [h8, he]⟩
                  · cases hrecv
              · cases hrecv
          obtain ⟨o, a, fs, rfl, he⟩ := hrv
          obtain ⟨T, N, hcl2⟩ := hcls (Or.inr rfl)
          have hln : asx2.length = n - 1 := by rw [List.length_cons] at hlen; omega
          have hsp2 : stA = asx2.reverse ++ .ref a :: rx := by rw [hsp, List.reverse_cons, List.append_assoc]; rfl
          exact va_runVN (n := n - 1) (C := CN q.1.1) S hM ⟨va_cnB (n - 1) hts hG rfl rfl rfl (l1 s X.2.2.2.2.2.1) (hts _ o2) ⟨o5.1, o5.2, hpar⟩ hRR, hts _ l2, by rw [← o4]; exact hts _ l3⟩ ⟨e_blind hN, va_recv hw.1 hw.2.1 hcl2 he, e_pre hN X hw⟩ rfl hln hl.1 hsp2 (hWw _) hd.1 hff
      · omega
      · omega
    · rcases hop with ⟨-, -, z | z⟩ | ⟨-, -, z | z⟩ | ⟨-, rfl, -⟩
      · omega
      · omega
      · omega
      · omega
      · cases as with
        | nil => rw [erecv] at hrecv; simp at hrecv
        | cons v as2 =>
          obtain ⟨x, asx2, rfl, hv, has2⟩ := eRs_cons has
          have hrecv : (Nat.beq q.1.2.2.2.2.2.1 10 && eref v) = true := hrecv
          rw [Bool.and_eq_true] at hrecv
          have hk10 := Nat.eq_of_beq_eq_true hrecv.1
          obtain ⟨o, a, -, -, rfl⟩ := eRl_ref hv hrecv.2
          have hln : asx2.length = n - 1 := by rw [List.length_cons] at hlen; omega
          have hsp2 : stA = asx2.reverse ++ .ref a :: rx := by rw [hsp, List.reverse_cons, List.append_assoc]; rfl
          have hr0 : ret = none := by
            rcases o8 with ⟨z2, z3⟩ | ⟨z2, z3⟩ | ⟨z2, z3⟩ | ⟨z2, z3⟩ | ⟨z2, z3⟩
            · exact z3
            · exact z3
            all_goals omega
          subst hr0
          exact va_runIN (n := n - 1) S hM ⟨va_cnB (n - 1) hts hG rfl rfl rfl (l1 s X.2.2.2.2.2.1) (hts _ o2) ⟨o5.1, o5.2, hpar⟩ hRR, l3, hts _ l2⟩ ⟨e_blind hN, e_pre hN X hw⟩ rfl hln hl.1 hsp2 (hWw _) hd.1 hff
end ES7
end
section
theorem e_nfw : nativeFrameWords "java/lang/System" "arraycopy" 5 + 11 ≤ 100 := by decide +kernel
/-- what a call with a contract of its own must do -/
def eSok (ρ : Nat → Int32) (b base : Nat) (D : va_G) (cl : List vw_C) (Tb : List Cond) (NF : State → Prop) (l : Launch) (CN : Nat → String) (CL : eFL) (SP : Nat → eM → eH → List eV → Option (eV × Nat × Nat)) : Prop := ∀ (mi : eM) (idx sn n : Nat), CL mi.1 idx = some (8, sn, n) → ∀ (hp : eH) (as : List eV) (q : eV × Nat × Nat), SP sn mi hp as = some q →
  ∀ (p : Program) (e : Env) (R : Room) (s : State) (m : MethodId) (args : Array Value) (below : List Frame) (meth : Method) (c : Code) (Q : State → Prop) (cc : ByteArray) (nL : Nat), eCx ρ b base Tb NF CN p R s m args meth c mi cc nL →
  ∀ (H : Heap) (locs : List Loc) (nx : Nat) (ws : va_W) (tys : List (ClassId × FieldType)) (lsA : Array Slot) (lv : List (Nat × Value)) (asx rx : List Value) (pc ce sl : Nat), eDk cc nL (pc, .invokestatic idx, 3) → eWd ρ b base D cl s H locs hp nx ws tys → lv_has lsA nL lv → eRs ρ b (ead ws) as asx → asx.length = n → (rx.map fun v => v.category).sum ≤ 8 → ce + q.2.1 ≤ mi.2.1 → sl + q.2.2 ≤ mi.2.2.1 →
    (∀ (H1 : Heap) (locs1 : List Loc) (x : Value), eWd ρ b base D cl s H1 locs1 hp nx ws tys → eRl ρ b (ead ws) q.1 x → W p l e R s m args below meth c H1 locs1 (ce + q.2.1) (sl + q.2.2) Q (F0 m (pc + 3) lsA (x :: rx))) →
    W p l e R s m args below meth c H locs ce sl Q (F0 m pc lsA (asx.reverse ++ rx))
section ES8
variable {ρ : Nat → Int32} {b base : Nat} {D : va_G} {cl : List vw_C} {Tb : List Cond} {NF : State → Prop} {l : Launch} {CN : Nat → String}
theorem s_obj {CL : eFL} (hO : eOok Tb CN CL) {idx x n : Nat}
    {ih : eR} (IH : eSn ρ b base D cl Tb NF l CN ih) {mi : eM} {pc : Nat} {cd : List eI} {ls : List (Nat × eV)} {st : List eV} {hp : eH} {nx ce sl : Nat} {cs : eC} {k : eK} (hcl : CL mi.1 idx = some (6, x, n)) (h : eObj ih mi pc cd ls st hp nx ce sl cs k = true)
    {p : Program} {e : Env} {R : Room} {s : State} {m : MethodId} {args : Array Value} {below : List Frame} {meth : Method} {c : Code} {Q : State → Prop} {cc : ByteArray} {nL : Nat} {ad0 : List Nat}
    (X : eCx ρ b base Tb NF CN p R s m args meth c mi cc nL) (hR : eRH ρ b base D cl l p e R s m args below meth c Q mi cc ad0 k)
    {H : Heap} {locs : List Loc} {ws : va_W} {tys : List (ClassId × FieldType)} {lsA : Array Slot} {lv : List (Nat × Value)} {stA : List Value}
    (hd : eDk cc nL (pc, .invokespecial idx, 3)) (hcd : ∀ q ∈ cd, eDk cc nL q) (hs : eSat ρ cs) (hw : eWd ρ b base D cl s H locs hp nx ws tys) (had : ∀ (o a : Nat), ad0[o]? = some a → (ead ws)[o]? = some a) (hl : lv_has lsA nL lv) (hls : eLs ρ b (ead ws) ls lv) (hst : eRs ρ b (ead ws) st stA) :
    W p l e R s m args below meth c H locs ce sl Q (F0 m pc lsA stA) := by
  cases st with
  | nil => cases h
  | cons v r =>
    obtain ⟨h1, h⟩ := e_cond h e_ff
    rw [Bool.and_eq_true, Bool.and_eq_true] at h1
    obtain ⟨xA, t, rfl, hv, hst1⟩ := eRs_cons hst
    obtain ⟨o, a, -, -, rfl⟩ := eRl_ref hv h1.1
    have a1 := Nat.le_of_ble_eq_true h1.2.1
    have a2 := Nat.le_of_ble_eq_true h1.2.2
    have hRc := X.2.2.2.2.2.2.2.1
    have hts := X.2.2.2.2.1
    refine W.objInit (g := F0 m pc lsA (.ref a :: t)) X.1 X.2.1 X.2.2.2.1 (hts _ (hO.1 _ _ _ _ hcl)) (hts _ hO.2.1) (hts _ hO.2.2.1) rfl (by rw [X.2.2.1]; exact hl.1) rfl hd.1 (by rw [hRc.2.2.1]; exact a1) (by rw [eRs_cats hst1, hRc.2.2.2]; show 2 * 0 + _ + 12 ≤ _; omega) ?_
    exact eNx IH h X hR hcd hs hw had hl hls hst1
theorem s_copy {CL : eFL} (hO : eOok Tb CN CL) {idx x n : Nat}
    {ih : eR} (IH : eSn ρ b base D cl Tb NF l CN ih) {mi : eM} {pc : Nat} {cd : List eI} {ls : List (Nat × eV)} {st : List eV} {hp : eH} {nx ce sl : Nat} {cs : eC} {k : eK} (hcl : CL mi.1 idx = some (7, x, n)) (h : eCopy ih mi pc cd ls st hp nx ce sl cs k = true)
    {p : Program} {e : Env} {R : Room} {s : State} {m : MethodId} {args : Array Value} {below : List Frame} {meth : Method} {c : Code} {Q : State → Prop} {cc : ByteArray} {nL : Nat} {ad0 : List Nat}
    (X : eCx ρ b base Tb NF CN p R s m args meth c mi cc nL) (hR : eRH ρ b base D cl l p e R s m args below meth c Q mi cc ad0 k)
    {H : Heap} {locs : List Loc} {ws : va_W} {tys : List (ClassId × FieldType)} {lsA : Array Slot} {lv : List (Nat × Value)} {stA : List Value}
    (hd : eDk cc nL (pc, .invokestatic idx, 3)) (hcd : ∀ q ∈ cd, eDk cc nL q) (hs : eSat ρ cs) (hw : eWd ρ b base D cl s H locs hp nx ws tys) (had : ∀ (o a : Nat), ad0[o]? = some a → (ead ws)[o]? = some a) (hl : lv_has lsA nL lv) (hls : eLs ρ b (ead ws) ls lv) (hst : eRs ρ b (ead ws) st stA) :
    W p l e R s m args below meth c H locs ce sl Q (F0 m pc lsA stA) := by
  unfold eCopy at h
  split at h
  · rename_i n0 bb aa r
    obtain ⟨nA, t1, rfl, hn, hst1⟩ := eRs_cons hst
    obtain ⟨dA, t2, rfl, hdp, hst2⟩ := eRs_cons hst1
    obtain ⟨bA, t3, rfl, ⟨ab, hab, rfl⟩, hst3⟩ := eRs_cons hst2
    obtain ⟨sA, t4, rfl, hsp, hst4⟩ := eRs_cons hst3
    obtain ⟨aA, t, rfl, ⟨aaa, haa, rfl⟩, hst5⟩ := eRs_cons hst4
    have hn : nA = .int (Int32.ofNat n0) := hn
    have hdp : dA = .int (Int32.ofNat 0) := hdp
    have hsp : sA = .int (Int32.ofNat 0) := hsp
    subst hn; subst hdp; subst hsp
    obtain ⟨h1, h⟩ := e_cond h e_ff
    rw [Bool.and_eq_true, Bool.and_eq_true] at h1
    have a1 := Nat.le_of_ble_eq_true h1.1
    have a2 := Nat.le_of_ble_eq_true h1.2.1
    have a3 := Nat.le_of_ble_eq_true h1.2.2
    have hRc := X.2.2.2.2.2.2.2.1
    have hts := X.2.2.2.2.1
    have b1 : 1 ≤ R.frames := by rw [hRc.2.2.1]; exact a1
    have b2 : (t.map fun v => v.category).sum + (nativeFrameWords "java/lang/System" "arraycopy" 5 + 11) ≤ R.locals := by
      rw [eRs_cats hst5, hRc.2.2.2]
      have := e_nfw
      omega
    have c0 : (Int32.ofNat 0).toNatClampNeg = 0 := rfl
    have cn : (Int32.ofNat n0).toNatClampNeg = n0 := e_cl a3
    split at h
    · rename_i oa hoa
      split at h
      · rename_i ob hob
        obtain ⟨h2, h⟩ := e_cond h e_ff
        rw [Bool.and_eq_true, Bool.and_eq_true, Bool.and_eq_true] at h2
        have e1 := Nat.eq_of_beq_eq_true h2.1
        have e2 := Nat.eq_of_beq_eq_true h2.2.1
        have e3 := Nat.eq_of_beq_eq_true h2.2.2.1
        have e4 := Nat.eq_of_beq_eq_true h2.2.2.2
        obtain ⟨hp2, h7, h8⟩ := hs_ok h
        obtain ⟨ea, hea, hxa⟩ := eMt_at hw.2.2.2.2 haa hoa
        obtain ⟨eb, heb, hxb⟩ := eMt_at hw.2.2.2.2 hab hob
        rcases hxa with ⟨-, cA, f, ta, rfl, hta, hca⟩ | ⟨ci, rr, cA, f, t0, hh, -⟩
        · rcases hxb with ⟨-, cB, g, tb, rfl, htb, hcb⟩ | ⟨ci, rr, cB, g, t0, hh, -⟩
          · rw [e1] at hta
            rw [e2] at htb
            refine va_copyi (ty := .int) (sp := Int32.ofNat 0) (dp := Int32.ofNat 0) (n := Int32.ofNat n0) X.1 X.2.1 (by rw [X.2.2.1]; exact hl.1.symm) X.2.2.2.1 (hts _ (hO.2.2.2.1 _ _ _ _ hcl)) (hts _ hO.2.2.2.2.1) (hts _ hO.2.2.2.2.2.1) (hts _ hO.2.2.2.2.2.2) hw.1 hw.2.1 hw.2.2.1 hw.2.2.2.1 aa bb ta tb hea heb hta htb rfl (e_pos (by omega)) (e_pos (by omega)) (e_pos a3) (by rw [c0, cn]; omega) (by rw [c0, cn]; omega) (fun _ _ => rfl) b1 b2 hd.1 (fun H1 locs1 q1 q2 q3 => ?_)
            rw [c0, cn] at q1 q2
            have hm := eMt_set (e := .inl (cB, ob.2.1, .inl (va_cpy f g 0 0 n0))) hw.2.2.2.2 heb h8 (Or.inl ⟨Nat.zero_lt_succ _, cB, _, tb, by rw [e4], htb, fun j hj => by
              obtain ⟨w, w1, w2⟩ := hca j (by rw [e3]; exact hj)
              refine ⟨w, w1, ?_⟩
              rw [pk_cpy_in (Nat.zero_le _) (by rw [Nat.zero_add]; exact hj), Nat.sub_zero, Nat.zero_add]
              exact w2⟩)
            exact eNx IH h7 X hR hcd hs ⟨hw.1, q1, q2, q3, hm⟩ (by rw [ead_set heb]; exact had) hl (by rw [ead_set heb]; exact hls) (by rw [ead_set heb]; exact hst5)
          · omega
        · omega
      · cases h
    · rename_i na hoa
      split at h
      · rename_i nb hob
        obtain ⟨h2, h⟩ := e_cond h e_ff
        rw [Bool.and_eq_true] at h2
        have e1 := Nat.le_of_ble_eq_true h2.1
        have e2 := Nat.le_of_ble_eq_true h2.2
        obtain ⟨ea, hea, cA, f, ta, rfl, hta⟩ := eMt_at hw.2.2.2.2 haa hoa
        obtain ⟨eb, heb, cB, g, tb, rfl, htb⟩ := eMt_at hw.2.2.2.2 hab hob
        refine va_copyl (ty := .long) (sp := Int32.ofNat 0) (dp := Int32.ofNat 0) (n := Int32.ofNat n0) X.1 X.2.1 (by rw [X.2.2.1]; exact hl.1.symm) X.2.2.2.1 (hts _ (hO.2.2.2.1 _ _ _ _ hcl)) (hts _ hO.2.2.2.2.1) (hts _ hO.2.2.2.2.2.1) (hts _ hO.2.2.2.2.2.2) hw.1 hw.2.1 hw.2.2.1 hw.2.2.2.1 aa bb ta tb hea heb hta htb rfl (e_pos (by omega)) (e_pos (by omega)) (e_pos a3) (by rw [c0, cn]; omega) (by rw [c0, cn]; omega) (fun _ _ => rfl) b1 b2 hd.1 (fun H1 locs1 q1 q2 q3 => ?_)
        have hm := eMt_set (x := .inr (.inr nb)) (e := .inl (cB, nb, .inr (.inl (va_cpy f g (Int32.ofNat 0).toNatClampNeg (Int32.ofNat 0).toNatClampNeg (Int32.ofNat n0).toNatClampNeg)))) hw.2.2.2.2 heb (hp2 := hp) (fun j => by
          by_cases hj : j = bb
          · rw [if_pos hj, hj]; exact hob
          · rw [if_neg hj]) ⟨cB, _, tb, rfl, htb⟩
        exact eNx IH h X hR hcd hs ⟨hw.1, q1, q2, q3, hm⟩ (by rw [ead_set heb]; exact had) hl (by rw [ead_set heb]; exact hls) (by rw [ead_set heb]; exact hst5)
      · cases h
    · cases h
  · cases h
theorem s_spec {CL : eFL} {SP : Nat → eM → eH → List eV → Option (eV × Nat × Nat)} (hS : eSok ρ b base D cl Tb NF l CN CL SP) {idx sn n : Nat}
    {ih : eR} (IH : eSn ρ b base D cl Tb NF l CN ih) {mi : eM} {pc : Nat} {cd : List eI} {ls : List (Nat × eV)} {st : List eV} {hp : eH} {nx ce sl : Nat} {cs : eC} {k : eK} (hcl : CL mi.1 idx = some (8, sn, n)) (h : eSpec SP sn n ih mi pc cd ls st hp nx ce sl cs k = true)
    {p : Program} {e : Env} {R : Room} {s : State} {m : MethodId} {args : Array Value} {below : List Frame} {meth : Method} {c : Code} {Q : State → Prop} {cc : ByteArray} {nL : Nat} {ad0 : List Nat}
    (X : eCx ρ b base Tb NF CN p R s m args meth c mi cc nL) (hR : eRH ρ b base D cl l p e R s m args below meth c Q mi cc ad0 k)
    {H : Heap} {locs : List Loc} {ws : va_W} {tys : List (ClassId × FieldType)} {lsA : Array Slot} {lv : List (Nat × Value)} {stA : List Value}
    (hd : eDk cc nL (pc, .invokestatic idx, 3)) (hcd : ∀ q ∈ cd, eDk cc nL q) (hs : eSat ρ cs) (hw : eWd ρ b base D cl s H locs hp nx ws tys) (had : ∀ (o a : Nat), ad0[o]? = some a → (ead ws)[o]? = some a) (hl : lv_has lsA nL lv) (hls : eLs ρ b (ead ws) ls lv) (hst : eRs ρ b (ead ws) st stA) :
    W p l e R s m args below meth c H locs ce sl Q (F0 m pc lsA stA) := by
  obtain ⟨as, r, asx, rx, h1, has, hr, hsp, hlen⟩ := etake_ok (acc := []) (accx := []) n hst trivial h
  rw [List.reverse_nil, List.nil_append] at hsp
  rw [List.length_nil, Nat.zero_add] at hlen
  cases hq : SP sn mi hp as with
  | none => rw [hq] at h1; cases h1
  | some q =>
    rw [hq] at h1
    obtain ⟨h2, h3⟩ := e_cond h1 e_ff
    rw [Bool.and_eq_true, Bool.and_eq_true] at h2
    rw [ef_eq, ef_eq] at h3
    rw [hsp]
    refine hS mi idx sn n hcl hp as q hq p e R s m args below meth c Q cc nL X H locs nx ws tys lsA lv asx rx pc ce sl hd hw hl has hlen (by rw [eRs_cats hr]; exact Nat.le_of_ble_eq_true h2.2.2) (Nat.le_of_ble_eq_true h2.1) (Nat.le_of_ble_eq_true h2.2.1) (fun H1 locs1 x hw1 hx => ?_)
    have hst2 : eRs ρ b (ead ws) (q.1 :: r) (x :: rx) := ⟨hx, hr⟩
    exact eNx IH h3 X hR hcd hs hw1 had hl hls hst2
end ES8
end
section
/-- what the law's room(..) must do -/
def eTok (ρ : Nat → Int32) (b base : Nat) (D : va_G) (cl : List vw_C) (Tb : List Cond) (NF : State → Prop) (l : Launch) (CN : Nat → String) (CL : eFL) (MT : Nat → Option (eM × Nat)) : Prop := ∀ (ih : eR), eSn ρ b base D cl Tb NF l CN ih → ∀ (mi : eM) (idx mno n : Nat), CL mi.1 idx = some (9, mno, n) → ∀ q, MT mno = some q → ∀ (hp : eH) (as r : List eV) (nx ce sl : Nat) (cs : eC) (K : eK), eThc mi hp ce sl as r = true → eThk ih q as hp nx cs K = true →
  ∀ (p : Program) (e : Env) (R : Room) (s : State) (m : MethodId) (args : Array Value) (below : List Frame) (meth : Method) (c : Code) (cc : ByteArray) (nL : Nat), eCx ρ b base Tb NF CN p R s m args meth c mi cc nL →
  ∀ (H : Heap) (locs : List Loc) (ws : va_W) (tys : List (ClassId × FieldType)) (lsA : Array Slot) (lv : List (Nat × Value)) (asx rx : List Value) (pc : Nat), eDk cc nL (pc, .invokestatic idx, 3) → eSat ρ cs → eWd ρ b base D cl s H locs hp nx ws tys → lv_has lsA nL lv → eRs ρ b (ead ws) as asx → eRs ρ b (ead ws) r rx → asx.length = 4 →
    va_Run p l e R s m args below meth c H locs ce sl 1 6 (F0 m pc lsA (asx.reverse ++ rx)) rx (eQc ρ b base D cl ws K asx.toArray) (fun x => base ≤ x)
section ES8b
variable {ρ : Nat → Int32} {b base : Nat} {D : va_G} {cl : List vw_C} {Tb : List Cond} {NF : State → Prop} {l : Launch} {CN : Nat → String}
theorem s_thr {CL : eFL} {MT : Nat → Option (eM × Nat)} (hT : eTok ρ b base D cl Tb NF l CN CL MT) {idx mno n : Nat}
    {ih : eR} (IH : eSn ρ b base D cl Tb NF l CN ih) {mi : eM} {pc : Nat} {cd : List eI} {ls : List (Nat × eV)} {st : List eV} {hp : eH} {nx ce sl : Nat} {cs : eC} {k : eK} (hcl : CL mi.1 idx = some (9, mno, n)) (h : eThr MT mno ih mi pc cd ls st hp nx ce sl cs k = true)
    {p : Program} {e : Env} {R : Room} {s : State} {m : MethodId} {args : Array Value} {below : List Frame} {meth : Method} {c : Code} {Q : State → Prop} {cc : ByteArray} {nL : Nat} {ad0 : List Nat}
    (X : eCx ρ b base Tb NF CN p R s m args meth c mi cc nL) (hR : eRH ρ b base D cl l p e R s m args below meth c Q mi cc ad0 k)
    {H : Heap} {locs : List Loc} {ws : va_W} {tys : List (ClassId × FieldType)} {lsA : Array Slot} {lv : List (Nat × Value)} {stA : List Value}
    (hd : eDk cc nL (pc, .invokestatic idx, 3)) (hcd : ∀ q ∈ cd, eDk cc nL q) (hs : eSat ρ cs) (hw : eWd ρ b base D cl s H locs hp nx ws tys) (had : ∀ (o a : Nat), ad0[o]? = some a → (ead ws)[o]? = some a) (hl : lv_has lsA nL lv) (hls : eLs ρ b (ead ws) ls lv) (hst : eRs ρ b (ead ws) st stA) :
    W p l e R s m args below meth c H locs ce sl Q (F0 m pc lsA stA) := by
  unfold eThr at h
  cases hq : MT mno with
  | none => rw [hq] at h; cases h
  | some q =>
    rw [hq] at h
    obtain ⟨as, r, asx, rx, h1, has, hr, hsp, hlen⟩ := etake_ok (acc := []) (accx := []) 4 hst trivial h
    rw [List.reverse_nil, List.nil_append] at hsp
    rw [List.length_nil, Nat.zero_add] at hlen
    obtain ⟨h2, h3⟩ := e_cond h1 e_ff
    rw [hsp]
    exact e_back IH X hR hcd hw had hl hls hr (mc := 1) (ms := 6) (a := asx.toArray) (hT ih IH mi idx mno n hcl q hq hp as r nx ce sl cs _ h2 h3 p e R s m args below meth c cc nL X H locs ws tys lsA lv asx rx pc hd hs hw hl has hr hlen)
end ES8b
/-- what must hold where the law's switch is come to -/
def eBok (ρ : Nat → Int32) (b base : Nat) (D : va_G) (cl : List vw_C) (Tb : List Cond) (NF : State → Prop) (l : Launch) (CN : Nat → String) (BK : eBk) : Prop := ∀ (d lo hi : Int) (offs : Array Int) (len : Nat) (mi : eM) (pc : Nat) (ls : List (Nat × eV)) (st : List eV) (hp : eH) (nx ce sl : Nat) (cs : eC) (k : eK), mi.2.2.2.2.2.1 = 20 → BK hp nx ce sl cs ls st = true → ∀ (p : Program) (e : Env) (R : Room) (s : State) (m : MethodId) (args : Array Value) (below : List Frame) (meth : Method) (c : Code) (Q : State → Prop) (cc : ByteArray) (nL : Nat) (ad0 : List Nat),
  eCx ρ b base Tb NF CN p R s m args meth c mi cc nL → eRH ρ b base D cl l p e R s m args below meth c Q mi cc ad0 k → ∀ (H : Heap) (locs : List Loc) (ws : va_W) (tys : List (ClassId × FieldType)) (lsA : Array Slot) (lv : List (Nat × Value)) (stA : List Value) (z : Int32),
  eDk cc nL (pc, .tableswitch d lo hi offs, len) → eSat ρ cs → eWd ρ b base D cl s H locs hp nx ws tys → (∀ (o a : Nat), ad0[o]? = some a → (ead ws)[o]? = some a) → lv_has lsA nL lv → eLs ρ b (ead ws) ls lv → eRs ρ b (ead ws) st stA → W p l e R s m args below meth c H locs ce sl Q (F0 m pc lsA (.int z :: stA))
/-- the tables are right -/
def eVal (ρ : Nat → Int32) (b base : Nat) (D : va_G) (cl : List vw_C) (Tb : List Cond) (NF : State → Prop) (l : Launch) (CN : Nat → String) (FL : eFL) (CL : eFL) (MT : Nat → Option (eM × Nat)) (NW : Nat → Nat → Option (Nat × Nat × List eV)) (NA : Nat → Nat → Option Nat) (KI KL : Nat → Nat → Option Nat) (SP : Nat → eM → eH → List eV → Option (eV × Nat × Nat)) : Prop :=
  (ρ 7 = ρ 6 - 6 ∧ ρ 8 = ρ 0 &&& 63) ∧ (∀ w ∈ Tb, goodWord w = true) ∧ eNFw base NF ∧ eFOK cl Tb CN FL ∧ eNOK cl Tb CN NW ∧ eAOK cl Tb NF CN NA ∧ eKOK Tb CN KI ∧ eJOK Tb CN KL ∧ eACk Tb ∧ eCok cl Tb NF CN CL MT ∧ eOok Tb CN CL ∧ eSok ρ b base D cl Tb NF l CN CL SP ∧ eTok ρ b base D cl Tb NF l CN CL MT
section ES9
variable {ρ : Nat → Int32} {b base : Nat} {D : va_G} {cl : List vw_C} {Tb : List Cond} {NF : State → Prop} {l : Launch} {CN : Nat → String} {FL : eFL} {CL : eFL} {MT : Nat → Option (eM × Nat)} {NW : Nat → Nat → Option (Nat × Nat × List eV)} {NA : Nat → Nat → Option Nat} {KI KL : Nat → Nat → Option Nat} {SP : Nat → eM → eH → List eV → Option (eV × Nat × Nat)} {BK : eBk}
theorem s_D (V : eVal ρ b base D cl Tb NF l CN FL CL MT NW NA KI KL SP) (hB : eBok ρ b base D cl Tb NF l CN BK) (i : Instr) (len : Nat) : eStp ρ b base D cl Tb NF l CN (eD FL CL MT NW NA KI KL SP BK i len) i len := by
  obtain ⟨⟨hρ, hρ8⟩, hTg, hNF, vF, vN, vA, vK, vJ, vC, vL, vO, vS, vT⟩ := V
  intro ih IH mi pc cd ls st hp nx ce sl cs k h p e R s m args below meth c Q cc nL ad0 X hR H locs ws tys lsA lv stA hd hcd hs hw had hl hls hst
  have go : ∀ {hh : eHd}, eStp ρ b base D cl Tb NF l CN hh i len → hh ih mi pc cd ls st hp nx ce sl cs k = true → W p l e R s m args below meth c H locs ce sl Q (F0 m pc lsA stA) := fun g h => g ih IH mi pc cd ls st hp nx ce sl cs k h p e R s m args below meth c Q cc nL ad0 X hR H locs ws tys lsA lv stA hd hcd hs hw had hl hls hst
  have hlen : elen i len = true := hd.2.2
  cases i with
  | iload j => have q := Nat.eq_of_beq_eq_true hlen; subst q; exact go (s_Load (Or.inl ⟨rfl, rfl⟩)) h
  | iload_n j => have q := Nat.eq_of_beq_eq_true hlen; subst q; exact go (s_Load (Or.inr ⟨j, rfl, rfl, rfl⟩)) h
  | aload j => have q := Nat.eq_of_beq_eq_true hlen; subst q; exact go (s_Loadr (Or.inl ⟨rfl, rfl⟩)) h
  | aload_n j => have q := Nat.eq_of_beq_eq_true hlen; subst q; exact go (s_Loadr (Or.inr ⟨j, rfl, rfl, rfl⟩)) h
  | istore j => have q := Nat.eq_of_beq_eq_true hlen; subst q; exact go (s_Store (Or.inl ⟨rfl, rfl⟩)) h
  | istore_n j => have q := Nat.eq_of_beq_eq_true hlen; subst q; exact go (s_Store (Or.inr ⟨j, rfl, rfl, rfl⟩)) h
  | astore j => have q := Nat.eq_of_beq_eq_true hlen; subst q; exact go (s_Storer (Or.inl ⟨rfl, rfl⟩)) h
  | astore_n j => have q := Nat.eq_of_beq_eq_true hlen; subst q; exact go (s_Storer (Or.inr ⟨j, rfl, rfl, rfl⟩)) h
  | iconst n => have q := Nat.eq_of_beq_eq_true hlen; subst q; exact go s_iconst h
  | bipush n =>
    have hlen : (Nat.beq len 2 && decide (-128 ≤ n ∧ n < 128)) = true := hlen
    rw [Bool.and_eq_true] at hlen
    have q := Nat.eq_of_beq_eq_true hlen.1
    subst q
    exact go (s_bipush (of_decide_eq_true hlen.2)) h
  | sipush n =>
    have hlen : (Nat.beq len 3 && decide (-32768 ≤ n ∧ n < 32768)) = true := hlen
    rw [Bool.and_eq_true] at hlen
    have q := Nat.eq_of_beq_eq_true hlen.1
    subst q
    exact go (s_sipush (of_decide_eq_true hlen.2)) h
  | ldc idx => have q := Nat.eq_of_beq_eq_true hlen; subst q; exact go (s_ldc vK (Or.inl ⟨rfl, rfl⟩)) h
  | ldc_w idx => have q := Nat.eq_of_beq_eq_true hlen; subst q; exact go (s_ldc vK (Or.inr ⟨rfl, rfl⟩)) h
  | ldc2_w idx => have q := Nat.eq_of_beq_eq_true hlen; subst q; exact go (s_ldc2 vJ) h
  | iinc j n => have q := Nat.eq_of_beq_eq_true hlen; subst q; exact go s_iinc h
  | iadd => have q := Nat.eq_of_beq_eq_true hlen; subst q; exact go (s_Bin (op := fun a c => a + c) (fun _ _ _ _ _ _ hx hy hk => eadd_ok hx hy hk) (fun hx hb hd hW => lv_iadd hx hb hd hW)) h
  | isub => have q := Nat.eq_of_beq_eq_true hlen; subst q; exact go (s_Bin (op := fun a c => a - c) (fun _ _ _ _ _ _ hx hy hk => esub_ok hρ hx hy hk) (fun hx hb hd hW => lv_isub hx hb hd hW)) h
  | imul => have q := Nat.eq_of_beq_eq_true hlen; subst q; exact go (s_Bin (op := fun a c => a * c) (fun _ _ _ _ _ _ hx hy hk => e2_ok (op := fun a c => a * c) e_mul hx hy hk) (fun hx hb hd hW => lv_imul hx hb hd hW)) h
  | iand => have q := Nat.eq_of_beq_eq_true hlen; subst q; exact go (s_Bin (op := fun a c => a &&& c) (fun _ _ _ _ _ _ hx hy hk => eand_ok hρ8 hx hy hk) (fun hx hb hd hW => lv_iand hx hb hd hW)) h
  | ior => have q := Nat.eq_of_beq_eq_true hlen; subst q; exact go (s_Bin (op := fun a c => a ||| c) (fun _ _ _ _ _ _ hx hy hk => e2_ok (op := fun a c => a ||| c) e_or hx hy hk) (fun hx hb hd hW => lv_ior hx hb hd hW)) h
  | ixor => have q := Nat.eq_of_beq_eq_true hlen; subst q; exact go (s_Bin (op := fun a c => a ^^^ c) (fun _ _ _ _ _ _ hx hy hk => e2_ok (op := fun a c => a ^^^ c) e_xor hx hy hk) (fun hx hb hd hW => lv_ixor hx hb hd hW)) h
  | ishl => have q := Nat.eq_of_beq_eq_true hlen; subst q; exact go (s_Bin (op := fun a c => a <<< (c &&& 31)) (fun _ _ _ _ _ _ hx hy hk => e2_ok (op := fun a c => a <<< (c &&& 31)) e_shl hx hy hk) (fun hx hb hd hW => lv_ishl hx hb hd hW)) h
  | iushr => have q := Nat.eq_of_beq_eq_true hlen; subst q; exact go (s_Bin (op := fun a c => (a.toUInt32 >>> (c.toUInt32 &&& Int32.toUInt32 31)).toInt32) (fun _ _ _ _ _ _ hx hy hk => e2_ok (op := fun a c => (a.toUInt32 >>> (c.toUInt32 &&& Int32.toUInt32 31)).toInt32) e_ushr hx hy hk) (fun hx hb hd hW => lv_iushr hx hb hd rfl hW)) h
  | ishr => have q := Nat.eq_of_beq_eq_true hlen; subst q; exact go (s_Bin (op := fun a c => a >>> (c &&& 31)) (fun _ _ _ _ _ _ hx hy hk => eshr_ok hx hy hk) (fun hx hb hd hW => lv_ishr hx hb hd hW)) h
  | irem => have q := Nat.eq_of_beq_eq_true hlen; subst q; exact go s_irem h
  | i2b => have q := Nat.eq_of_beq_eq_true hlen; subst q; exact go s_i2b h
  | dup => have q := Nat.eq_of_beq_eq_true hlen; subst q; exact go s_dup h
  | dup2 => have q := Nat.eq_of_beq_eq_true hlen; subst q; exact go s_dup2 h
  | pop => have q := Nat.eq_of_beq_eq_true hlen; subst q; exact go s_pop h
  | goto off => have q := Nat.eq_of_beq_eq_true hlen; subst q; exact go s_goto h
  | ifCond cd off => have q := Nat.eq_of_beq_eq_true hlen; subst q; exact go s_ifc h
  | if_icmp cd off => have q := Nat.eq_of_beq_eq_true hlen; subst q; exact go s_icmp h
  | tableswitch d lo hi offs => exact go (s_switch (hB d lo hi offs len)) h
  | getfield idx => have q := Nat.eq_of_beq_eq_true hlen; subst q; exact go (s_get vF) h
  | putfield idx => have q := Nat.eq_of_beq_eq_true hlen; subst q; exact go (s_put vF) h
  | new idx => have q := Nat.eq_of_beq_eq_true hlen; subst q; exact go (s_new vN) h
  | newarray t => have q := Nat.eq_of_beq_eq_true hlen; subst q; exact go (s_newa vC) h
  | anewarray idx => have q := Nat.eq_of_beq_eq_true hlen; subst q; exact go (s_newq vA) h
  | arraylength => have q := Nat.eq_of_beq_eq_true hlen; subst q; exact go s_alen h
  | iaload => have q := Nat.eq_of_beq_eq_true hlen; subst q; exact go (s_iald hρ) h
  | baload => have q := Nat.eq_of_beq_eq_true hlen; subst q; exact go (s_bald hρ) h
  | aaload => have q := Nat.eq_of_beq_eq_true hlen; subst q; exact go (s_aald hρ) h
  | laload => have q := Nat.eq_of_beq_eq_true hlen; subst q; exact go s_lald h
  | lastore => have q := Nat.eq_of_beq_eq_true hlen; subst q; exact go s_last h
  | iastore => have q := Nat.eq_of_beq_eq_true hlen; subst q; exact go s_iast h
  | bastore => have q := Nat.eq_of_beq_eq_true hlen; subst q; exact go s_bast h
  | aastore => have q := Nat.eq_of_beq_eq_true hlen; subst q; exact go s_aast h
  | ireturn => have q := Nat.eq_of_beq_eq_true hlen; subst q; exact go (s_ret (Or.inl ⟨rfl, rfl⟩)) h
  | areturn => have q := Nat.eq_of_beq_eq_true hlen; subst q; exact go (s_ret (Or.inr ⟨rfl, rfl⟩)) h
  | return_ => have q := Nat.eq_of_beq_eq_true hlen; subst q; exact go s_retv h
  | invokestatic idx =>
    have q := Nat.eq_of_beq_eq_true hlen
    subst q
    have h : (match CL mi.1 idx with
      | some (0, mno, n) => eCall MT 0 mno n ih mi pc cd ls st hp nx ce sl cs k
      | some (3, mno, n) => eCall MT 3 mno n ih mi pc cd ls st hp nx ce sl cs k
      | some (7, _, _) => eCopy ih mi pc cd ls st hp nx ce sl cs k
      | some (8, mno, n) => eSpec SP mno n ih mi pc cd ls st hp nx ce sl cs k
      | some (9, mno, _) => eThr MT mno ih mi pc cd ls st hp nx ce sl cs k
      | _ => false) = true := h
    split at h
    · rename_i mno n hcl
      exact s_call hTg hNF vL (Or.inl ⟨rfl, rfl, Or.inl rfl⟩) IH hcl h X hR hd hcd hs hw had hl hls hst
    · rename_i mno n hcl
      exact s_call hTg hNF vL (Or.inl ⟨rfl, rfl, Or.inr rfl⟩) IH hcl h X hR hd hcd hs hw had hl hls hst
    · rename_i x n hcl
      exact s_copy vO IH hcl h X hR hd hcd hs hw had hl hls hst
    · rename_i sn n hcl
      exact s_spec vS IH hcl h X hR hd hcd hs hw had hl hls hst
    · rename_i mno n hcl
      exact s_thr vT IH hcl h X hR hd hcd hs hw had hl hls hst
    · cases h
  | invokevirtual idx =>
    have q := Nat.eq_of_beq_eq_true hlen
    subst q
    have h : (match CL mi.1 idx with
      | some (1, mno, n) => eCall MT 1 mno n ih mi pc cd ls st hp nx ce sl cs k
      | some (4, mno, n) => eCall MT 4 mno n ih mi pc cd ls st hp nx ce sl cs k
      | _ => false) = true := h
    split at h
    · rename_i mno n hcl
      exact s_call hTg hNF vL (Or.inr (Or.inl ⟨rfl, rfl, Or.inl rfl⟩)) IH hcl h X hR hd hcd hs hw had hl hls hst
    · rename_i mno n hcl
      exact s_call hTg hNF vL (Or.inr (Or.inl ⟨rfl, rfl, Or.inr rfl⟩)) IH hcl h X hR hd hcd hs hw had hl hls hst
    · cases h
  | invokespecial idx =>
    have q := Nat.eq_of_beq_eq_true hlen
    subst q
    have h : (match CL mi.1 idx with
      | some (2, mno, n) => eCall MT 2 mno n ih mi pc cd ls st hp nx ce sl cs k
      | some (5, mno, n) => eCall MT 5 mno n ih mi pc cd ls st hp nx ce sl cs k
      | some (6, _, _) => eObj ih mi pc cd ls st hp nx ce sl cs k
      | _ => false) = true := h
    split at h
    · rename_i mno n hcl
      exact s_call hTg hNF vL (Or.inr (Or.inr ⟨rfl, rfl, Or.inl rfl⟩)) IH hcl h X hR hd hcd hs hw had hl hls hst
    · rename_i mno n hcl
      exact s_call hTg hNF vL (Or.inr (Or.inr ⟨rfl, rfl, Or.inr rfl⟩)) IH hcl h X hR hd hcd hs hw had hl hls hst
    · rename_i x n hcl
      exact s_obj vO IH hcl h X hR hd hcd hs hw had hl hls hst
    · cases h
  | _ => exact absurd (show false = true from h) Bool.false_ne_true
/-- THE WALKER IS RIGHT -/
theorem e_sound (V : eVal ρ b base D cl Tb NF l CN FL CL MT NW NA KI KL SP) (hB : eBok ρ b base D cl Tb NF l CN BK) : ∀ n, eSn ρ b base D cl Tb NF l CN (eRun FL CL MT NW NA KI KL SP BK n)
  | 0 => fun mi pc cd ls st hp nx ce sl cs k h => absurd (show false = true from h) Bool.false_ne_true
  | n + 1 => fun mi pc cd ls st hp nx ce sl cs k h => by
    have IH := e_sound V hB n
    intro p e R s m args below meth c Q cc nL ad0 X hR H locs ws tys lsA lv stA hcd hs hw had hl hls hst
    cases cd with
    | nil => exact absurd (show false = true from h) Bool.false_ne_true
    | cons q r =>
      have h : (bif Nat.beq q.1 pc then eD FL CL MT NW NA KI KL SP BK q.2.1 q.2.2 (eRun FL CL MT NW NA KI KL SP BK n) mi q.1 r ls st hp nx ce sl cs k else false) = true := h
      obtain ⟨h1, h⟩ := e_cond h e_ff
      have h1 := Nat.eq_of_beq_eq_true h1
      rw [← h1]
      exact s_D V hB q.2.1 q.2.2 _ IH mi q.1 r ls st hp nx ce sl cs k h p e R s m args below meth c Q cc nL ad0 X hR H locs ws tys lsA lv stA (hcd q List.mem_cons_self) (fun z hz => hcd z (List.mem_cons_of_mem _ hz)) hs hw had hl hls hst
end ES9
end
section
def RX0 : String := "WardrobeRow$Book"
def TX0 : u_T := fun k => match k with
  | 0 => ("WardrobeRow$Book", "verbs", "[I", true)
  | 1 => ("WardrobeRow$Book", "doers", "[I", true)
  | 2 => ("WardrobeRow$Book", "objects", "[I", true)
  | 3 => ("WardrobeRow$Book", "buyers", "[I", true)
  | 4 => ("WardrobeRow$Book", "lines", "I", false)
  | 5 => ("WardrobeRow$Book", "judged", "Z", false)
  | 6 => ("WardrobeRow$Book", "why", "I", false)
  | 7 => ("WardrobeRow$Book", "rightLines", "I", false)
  | 8 => ("WardrobeRow$Book", "minuteThen", "I", false)
  | _ => ("WardrobeRow$Book", "died", "I", false)
def tyX0 : Nat → FieldType := fun k => match k with
  | 0 => .array .int
  | 1 => .array .int
  | 2 => .array .int
  | 3 => .array .int
  | 4 => .int
  | 5 => .boolean
  | 6 => .int
  | 7 => .int
  | 8 => .int
  | _ => .int
theorem nmX0 : ∀ a, a < 10 → ∀ b, b < 10 → a ≠ b → (TX0 a).2.1 ≠ (TX0 b).2.1 := by decide +kernel
theorem tyX0_ok : ∀ k, k < 10 → parseFieldDescriptor (TX0 k).2.2.1 = some (tyX0 k) := by decide +kernel
def RX1 : String := "WardrobeRow$Deeds"
def TX1 : u_T := fun k => match k with
  | 0 => ("WardrobeRow$Deeds", "ownerOf", "[I", true)
  | 1 => ("WardrobeRow$Deeds", "roomOf", "[I", true)
  | 2 => ("WardrobeRow$Deeds", "heirOf", "[I", true)
  | 3 => ("WardrobeRow$Deeds", "letBy", "[I", true)
  | 4 => ("WardrobeRow$Deeds", "goingsOf", "[I", true)
  | 5 => ("WardrobeRow$Deeds", "burnt", "I", false)
  | 6 => ("WardrobeRow$Deeds", "dead", "I", false)
  | 7 => ("WardrobeRow$Deeds", "shutDoors", "I", false)
  | 8 => ("WardrobeRow$Deeds", "minute", "I", false)
  | _ => ("WardrobeRow$Deeds", "sales", "I", false)
def tyX1 : Nat → FieldType := fun k => match k with
  | 0 => .array .int
  | 1 => .array .int
  | 2 => .array .int
  | 3 => .array .int
  | 4 => .array .int
  | 5 => .int
  | 6 => .int
  | 7 => .int
  | 8 => .int
  | _ => .int
theorem nmX1 : ∀ a, a < 10 → ∀ b, b < 10 → a ≠ b → (TX1 a).2.1 ≠ (TX1 b).2.1 := by decide +kernel
theorem tyX1_ok : ∀ k, k < 10 → parseFieldDescriptor (TX1 k).2.2.1 = some (tyX1 k) := by decide +kernel
def RX2 : String := "WardrobeRow$Draws"
def TX2 : u_T := fun k => match k with
  | _ => ("WardrobeRow$Draws", "x", "I", false)
def tyX2 : Nat → FieldType := fun k => match k with
  | _ => .int
theorem nmX2 : ∀ a, a < 1 → ∀ b, b < 1 → a ≠ b → (TX2 a).2.1 ≠ (TX2 b).2.1 := by decide +kernel
theorem tyX2_ok : ∀ k, k < 1 → parseFieldDescriptor (TX2 k).2.2.1 = some (tyX2 k) := by decide +kernel
def RX3 : String := "WardrobeRow$Fires"
def TX3 : u_T := fun k => match k with
  | 0 => ("WardrobeRow$Fires", "flow", "[I", true)
  | _ => ("WardrobeRow$Fires", "cameBy", "[I", true)
def tyX3 : Nat → FieldType := fun k => match k with
  | 0 => .array .int
  | _ => .array .int
theorem nmX3 : ∀ a, a < 2 → ∀ b, b < 2 → a ≠ b → (TX3 a).2.1 ≠ (TX3 b).2.1 := by decide +kernel
theorem tyX3_ok : ∀ k, k < 2 → parseFieldDescriptor (TX3 k).2.2.1 = some (tyX3 k) := by decide +kernel
def RX4 : String := "WardrobeRow$Market"
def TX4 : u_T := fun k => match k with
  | 0 => ("WardrobeRow$Market", "gets", "[I", true)
  | 1 => ("WardrobeRow$Market", "ringsOfMore", "I", false)
  | 2 => ("WardrobeRow$Market", "priceOf", "[I", true)
  | 3 => ("WardrobeRow$Market", "wantedBy", "[I", true)
  | 4 => ("WardrobeRow$Market", "priced", "Z", false)
  | 5 => ("WardrobeRow$Market", "brings", "[I", true)
  | 6 => ("WardrobeRow$Market", "bringerOf", "[I", true)
  | _ => ("WardrobeRow$Market", "pointsTo", "[I", true)
def tyX4 : Nat → FieldType := fun k => match k with
  | 0 => .array .int
  | 1 => .int
  | 2 => .array .int
  | 3 => .array .int
  | 4 => .boolean
  | 5 => .array .int
  | 6 => .array .int
  | _ => .array .int
theorem nmX4 : ∀ a, a < 8 → ∀ b, b < 8 → a ≠ b → (TX4 a).2.1 ≠ (TX4 b).2.1 := by decide +kernel
theorem tyX4_ok : ∀ k, k < 8 → parseFieldDescriptor (TX4 k).2.2.1 = some (tyX4 k) := by decide +kernel
def RX5 : String := "WardrobeRow$Past"
def TX5 : u_T := fun k => match k with
  | 0 => ("WardrobeRow$Past", "rows", "[LWardrobeRow$Deeds;", true)
  | 1 => ("WardrobeRow$Past", "oldest", "I", false)
  | _ => ("WardrobeRow$Past", "kept", "I", false)
def tyX5 : Nat → FieldType := fun k => match k with
  | 0 => .array (.object "WardrobeRow$Deeds")
  | 1 => .int
  | _ => .int
theorem nmX5 : ∀ a, a < 3 → ∀ b, b < 3 → a ≠ b → (TX5 a).2.1 ≠ (TX5 b).2.1 := by decide +kernel
theorem tyX5_ok : ∀ k, k < 3 → parseFieldDescriptor (TX5 k).2.2.1 = some (tyX5 k) := by decide +kernel
def RX6 : String := "WardrobeRow$Sentence"
def TX6 : u_T := fun k => match k with
  | 0 => ("WardrobeRow$Sentence", "words", "[I", true)
  | 1 => ("WardrobeRow$Sentence", "values", "[I", true)
  | 2 => ("WardrobeRow$Sentence", "stack", "[I", true)
  | 3 => ("WardrobeRow$Sentence", "size", "I", false)
  | _ => ("WardrobeRow$Sentence", "ones", "I", false)
def tyX6 : Nat → FieldType := fun k => match k with
  | 0 => .array .int
  | 1 => .array .int
  | 2 => .array .int
  | 3 => .int
  | _ => .int
theorem nmX6 : ∀ a, a < 5 → ∀ b, b < 5 → a ≠ b → (TX6 a).2.1 ≠ (TX6 b).2.1 := by decide +kernel
theorem tyX6_ok : ∀ k, k < 5 → parseFieldDescriptor (TX6 k).2.2.1 = some (tyX6 k) := by decide +kernel
def RX7 : String := "WardrobeRow$Tape"
def TX7 : u_T := fun k => match k with
  | 0 => ("WardrobeRow$Tape", "bytes", "[B", true)
  | 1 => ("WardrobeRow$Tape", "length", "I", false)
  | 2 => ("WardrobeRow$Tape", "faultKind", "I", false)
  | 3 => ("WardrobeRow$Tape", "faultPlace", "I", false)
  | 4 => ("WardrobeRow$Tape", "kind", "I", false)
  | 5 => ("WardrobeRow$Tape", "start", "I", false)
  | 6 => ("WardrobeRow$Tape", "value", "I", false)
  | 7 => ("WardrobeRow$Tape", "code", "J", false)
  | 8 => ("WardrobeRow$Tape", "keywordCodes", "[J", true)
  | 9 => ("WardrobeRow$Tape", "limit", "I", false)
  | _ => ("WardrobeRow$Tape", "next", "I", false)
def tyX7 : Nat → FieldType := fun k => match k with
  | 0 => .array .byte
  | 1 => .int
  | 2 => .int
  | 3 => .int
  | 4 => .int
  | 5 => .int
  | 6 => .int
  | 7 => .long
  | 8 => .array .long
  | 9 => .int
  | _ => .int
theorem nmX7 : ∀ a, a < 11 → ∀ b, b < 11 → a ≠ b → (TX7 a).2.1 ≠ (TX7 b).2.1 := by decide +kernel
theorem tyX7_ok : ∀ k, k < 11 → parseFieldDescriptor (TX7 k).2.2.1 = some (tyX7 k) := by decide +kernel
def RX8 : String := "WardrobeRow$Terrace"
def TX8 : u_T := fun k => match k with
  | 0 => ("WardrobeRow$Terrace", "many", "[I", true)
  | 1 => ("WardrobeRow$Terrace", "houseNames", "[J", true)
  | 2 => ("WardrobeRow$Terrace", "ownerNames", "[J", true)
  | 3 => ("WardrobeRow$Terrace", "roomNames", "[J", true)
  | 4 => ("WardrobeRow$Terrace", "houseOf", "[I", true)
  | 5 => ("WardrobeRow$Terrace", "oneEnd", "[I", true)
  | 6 => ("WardrobeRow$Terrace", "otherEnd", "[I", true)
  | 7 => ("WardrobeRow$Terrace", "likings", "[I", true)
  | 8 => ("WardrobeRow$Terrace", "passages", "I", false)
  | _ => ("WardrobeRow$Terrace", "robes", "I", false)
def tyX8 : Nat → FieldType := fun k => match k with
  | 0 => .array .int
  | 1 => .array .long
  | 2 => .array .long
  | 3 => .array .long
  | 4 => .array .int
  | 5 => .array .int
  | 6 => .array .int
  | 7 => .array .int
  | 8 => .int
  | _ => .int
theorem nmX8 : ∀ a, a < 10 → ∀ b, b < 10 → a ≠ b → (TX8 a).2.1 ≠ (TX8 b).2.1 := by decide +kernel
theorem tyX8_ok : ∀ k, k < 10 → parseFieldDescriptor (TX8 k).2.2.1 = some (tyX8 k) := by decide +kernel
def RX9 : String := "WardrobeRow$TerraceReader"
def TX9 : u_T := fun k => match k with
  | 0 => ("WardrobeRow$TerraceReader", "told", "LWardrobeRow$Terrace;", true)
  | _ => ("WardrobeRow$TerraceReader", "first", "LWardrobeRow$Deeds;", true)
def tyX9 : Nat → FieldType := fun k => match k with
  | 0 => .object "WardrobeRow$Terrace"
  | _ => .object "WardrobeRow$Deeds"
theorem nmX9 : ∀ a, a < 2 → ∀ b, b < 2 → a ≠ b → (TX9 a).2.1 ≠ (TX9 b).2.1 := by decide +kernel
theorem tyX9_ok : ∀ k, k < 2 → parseFieldDescriptor (TX9 k).2.2.1 = some (tyX9 k) := by decide +kernel
def RX10 : String := "WardrobeRow$Ways"
def TX10 : u_T := fun k => match k with
  | 0 => ("WardrobeRow$Ways", "near", "[I", true)
  | 1 => ("WardrobeRow$Ways", "layers", "[I", true)
  | 2 => ("WardrobeRow$Ways", "path", "[I", true)
  | 3 => ("WardrobeRow$Ways", "steps", "[I", true)
  | 4 => ("WardrobeRow$Ways", "told", "I", false)
  | _ => ("WardrobeRow$Ways", "toldAsked", "I", false)
def tyX10 : Nat → FieldType := fun k => match k with
  | 0 => .array .int
  | 1 => .array .int
  | 2 => .array .int
  | 3 => .array .int
  | 4 => .int
  | _ => .int
theorem nmX10 : ∀ a, a < 6 → ∀ b, b < 6 → a ≠ b → (TX10 a).2.1 ≠ (TX10 b).2.1 := by decide +kernel
theorem tyX10_ok : ∀ k, k < 6 → parseFieldDescriptor (TX10 k).2.2.1 = some (tyX10 k) := by decide +kernel
def RX11 : String := "WardrobeRow"
def TX11 : u_T := fun k => match k with
  | 0 => ("WardrobeRow", "tape", "LWardrobeRow$Tape;", true)
  | 1 => ("WardrobeRow", "terrace", "LWardrobeRow$Terrace;", true)
  | 2 => ("WardrobeRow", "deeds", "LWardrobeRow$Deeds;", true)
  | 3 => ("WardrobeRow", "spare", "LWardrobeRow$Deeds;", true)
  | 4 => ("WardrobeRow", "past", "LWardrobeRow$Past;", true)
  | 5 => ("WardrobeRow", "sentence", "LWardrobeRow$Sentence;", true)
  | 6 => ("WardrobeRow", "readSentence", "LWardrobeRow$Sentence;", true)
  | 7 => ("WardrobeRow", "terraceReader", "LWardrobeRow$TerraceReader;", true)
  | 8 => ("WardrobeRow", "book", "LWardrobeRow$Book;", true)
  | 9 => ("WardrobeRow", "ways", "LWardrobeRow$Ways;", true)
  | 10 => ("WardrobeRow", "fires", "LWardrobeRow$Fires;", true)
  | 11 => ("WardrobeRow", "market", "LWardrobeRow$Market;", true)
  | 12 => ("WardrobeRow", "draws", "LWardrobeRow$Draws;", true)
  | 13 => ("WardrobeRow", "imageTerraces", "[LWardrobeRow$Terrace;", true)
  | 14 => ("WardrobeRow", "imageDeeds", "[LWardrobeRow$Deeds;", true)
  | 15 => ("WardrobeRow", "imageSentences", "[LWardrobeRow$Sentence;", true)
  | _ => ("WardrobeRow", "imagesKept", "I", false)
def tyX11 : Nat → FieldType := fun k => match k with
  | 0 => .object "WardrobeRow$Tape"
  | 1 => .object "WardrobeRow$Terrace"
  | 2 => .object "WardrobeRow$Deeds"
  | 3 => .object "WardrobeRow$Deeds"
  | 4 => .object "WardrobeRow$Past"
  | 5 => .object "WardrobeRow$Sentence"
  | 6 => .object "WardrobeRow$Sentence"
  | 7 => .object "WardrobeRow$TerraceReader"
  | 8 => .object "WardrobeRow$Book"
  | 9 => .object "WardrobeRow$Ways"
  | 10 => .object "WardrobeRow$Fires"
  | 11 => .object "WardrobeRow$Market"
  | 12 => .object "WardrobeRow$Draws"
  | 13 => .array (.object "WardrobeRow$Terrace")
  | 14 => .array (.object "WardrobeRow$Deeds")
  | 15 => .array (.object "WardrobeRow$Sentence")
  | _ => .int
theorem nmX11 : ∀ a, a < 17 → ∀ b, b < 17 → a ≠ b → (TX11 a).2.1 ≠ (TX11 b).2.1 := by decide +kernel
theorem tyX11_ok : ∀ k, k < 17 → parseFieldDescriptor (TX11 k).2.2.1 = some (tyX11 k) := by decide +kernel
def RX12 : String := "WardrobeRowModel"
def TX12 : u_T := fun k => match k with
  | 0 => ("WardrobeRowModel", "thrown", "I", false)
  | 1 => ("WardrobeRowModel", "tape", "[B", true)
  | 2 => ("WardrobeRowModel", "length", "I", false)
  | 3 => ("WardrobeRowModel", "size", "I", false)
  | 4 => ("WardrobeRowModel", "p", "I", false)
  | 5 => ("WardrobeRowModel", "limit", "I", false)
  | 6 => ("WardrobeRowModel", "s", "[I", true)
  | 7 => ("WardrobeRowModel", "h", "[I", true)
  | 8 => ("WardrobeRowModel", "read", "[I", true)
  | 9 => ("WardrobeRowModel", "names", "[J", true)
  | 10 => ("WardrobeRowModel", "reserved", "[J", true)
  | 11 => ("WardrobeRowModel", "token", "I", false)
  | 12 => ("WardrobeRowModel", "at", "I", false)
  | 13 => ("WardrobeRowModel", "span", "I", false)
  | 14 => ("WardrobeRowModel", "number", "I", false)
  | 15 => ("WardrobeRowModel", "fault", "I", false)
  | 16 => ("WardrobeRowModel", "faultAt", "I", false)
  | 17 => ("WardrobeRowModel", "word", "J", false)
  | 18 => ("WardrobeRowModel", "got", "I", false)
  | 19 => ("WardrobeRowModel", "lines", "I", false)
  | 20 => ("WardrobeRowModel", "undone", "[I", true)
  | 21 => ("WardrobeRowModel", "before", "[I", true)
  | 22 => ("WardrobeRowModel", "undoMany", "I", false)
  | 23 => ("WardrobeRowModel", "far", "[I", true)
  | 24 => ("WardrobeRowModel", "wayRow", "[I", true)
  | 25 => ("WardrobeRowModel", "stepRow", "[I", true)
  | 26 => ("WardrobeRowModel", "stepMany", "I", false)
  | 27 => ("WardrobeRowModel", "askedSet", "I", false)
  | 28 => ("WardrobeRowModel", "hasAsked", "Z", false)
  | 29 => ("WardrobeRowModel", "room0", "[I", true)
  | 30 => ("WardrobeRowModel", "from", "[I", true)
  | 31 => ("WardrobeRowModel", "queue", "[I", true)
  | 32 => ("WardrobeRowModel", "brought", "[I", true)
  | 33 => ("WardrobeRowModel", "has", "[I", true)
  | 34 => ("WardrobeRowModel", "points", "[I", true)
  | 35 => ("WardrobeRowModel", "ringMany", "I", false)
  | 36 => ("WardrobeRowModel", "price", "[I", true)
  | 37 => ("WardrobeRowModel", "want", "[I", true)
  | 38 => ("WardrobeRowModel", "wanted", "[I", true)
  | 39 => ("WardrobeRowModel", "priceRooms", "I", false)
  | 40 => ("WardrobeRowModel", "priceOwners", "I", false)
  | 41 => ("WardrobeRowModel", "seed", "I", false)
  | 42 => ("WardrobeRowModel", "told", "I", false)
  | 43 => ("WardrobeRowModel", "bookedAt", "[I", true)
  | 44 => ("WardrobeRowModel", "hasBooked", "Z", false)
  | 45 => ("WardrobeRowModel", "stack", "[I", true)
  | 46 => ("WardrobeRowModel", "codes", "I", false)
  | 47 => ("WardrobeRowModel", "ones", "I", false)
  | 48 => ("WardrobeRowModel", "top", "I", false)
  | 49 => ("WardrobeRowModel", "deep", "I", false)
  | 50 => ("WardrobeRowModel", "isWhole", "Z", false)
  | 51 => ("WardrobeRowModel", "truths", "[Z", true)
  | 52 => ("WardrobeRowModel", "kept", "[I", true)
  | 53 => ("WardrobeRowModel", "namesKept", "[J", true)
  | _ => ("WardrobeRowModel", "areKept", "[Z", true)
def tyX12 : Nat → FieldType := fun k => match k with
  | 0 => .int
  | 1 => .array .byte
  | 2 => .int
  | 3 => .int
  | 4 => .int
  | 5 => .int
  | 6 => .array .int
  | 7 => .array .int
  | 8 => .array .int
  | 9 => .array .long
  | 10 => .array .long
  | 11 => .int
  | 12 => .int
  | 13 => .int
  | 14 => .int
  | 15 => .int
  | 16 => .int
  | 17 => .long
  | 18 => .int
  | 19 => .int
  | 20 => .array .int
  | 21 => .array .int
  | 22 => .int
  | 23 => .array .int
  | 24 => .array .int
  | 25 => .array .int
  | 26 => .int
  | 27 => .int
  | 28 => .boolean
  | 29 => .array .int
  | 30 => .array .int
  | 31 => .array .int
  | 32 => .array .int
  | 33 => .array .int
  | 34 => .array .int
  | 35 => .int
  | 36 => .array .int
  | 37 => .array .int
  | 38 => .array .int
  | 39 => .int
  | 40 => .int
  | 41 => .int
  | 42 => .int
  | 43 => .array .int
  | 44 => .boolean
  | 45 => .array .int
  | 46 => .int
  | 47 => .int
  | 48 => .int
  | 49 => .int
  | 50 => .boolean
  | 51 => .array .boolean
  | 52 => .array .int
  | 53 => .array .long
  | _ => .array .boolean
theorem nmX12 : ∀ a, a < 55 → ∀ b, b < 55 → a ≠ b → (TX12 a).2.1 ≠ (TX12 b).2.1 := by decide +kernel
theorem tyX12_ok : ∀ k, k < 55 → parseFieldDescriptor (TX12 k).2.2.1 = some (tyX12 k) := by decide +kernel
abbrev vwCl : List vw_C := [(RX0, TX0, 10), (RX1, TX1, 10), (RX2, TX2, 1), (RX3, TX3, 2), (RX4, TX4, 8), (RX5, TX5, 3), (RX6, TX6, 5), (RX7, TX7, 11), (RX8, TX8, 10), (RX9, TX9, 2), (RX10, TX10, 6), (RX11, TX11, 17), (RX12, TX12, 55)]
def R_law : String := "WardrobeRowLaw"
/-- the classes by their numbers -/
def eCN : Nat → String := fun n => match n with
  | 0 => RX0
  | 1 => RX1
  | 2 => RX2
  | 3 => RX3
  | 4 => RX4
  | 5 => RX5
  | 6 => RX6
  | 7 => RX7
  | 8 => RX8
  | 9 => RX9
  | 10 => RX10
  | 11 => RX11
  | 12 => RX12
  | 13 => R_law
  | 14 => "java/lang/Integer"
  | 15 => "java/lang/Math"
  | _ => "java/util/Arrays"
def Tb1 : List Cond := lw_tbl.filter goodWord
theorem tb_good : ∀ w ∈ Tb1, goodWord w = true := fun _ h => (List.mem_filter.mp h).2
theorem tbT {w : Cond} (i : Nat) (h : tables_1[i]? = some w) (hg : goodWord w = true) : w ∈ Tb1 := List.mem_filter.mpr ⟨List.mem_append_right _ (List.mem_of_getElem? h), hg⟩
theorem tbS {y : MethodName} {n : Nat} (i : Nat) (h : lw_privs[i]? = some (y, n)) (hg : goodWord (.selects y.cls y y) = true) : Cond.selects y.cls y y ∈ Tb1 := List.mem_filter.mpr ⟨List.mem_append_left _ (List.mem_map.mpr ⟨(y, n), List.mem_of_getElem? h, rfl⟩), hg⟩
theorem tbU {ws : List Cond} (ps : List Nat) (h : ws = ps.filterMap (fun i => tables_1[i]?)) (hg : ws.all goodWord = true) : ∀ w ∈ ws, w ∈ Tb1 := fun w hw => by
  have h1 := List.all_eq_true.mp hg w hw
  rw [h] at hw
  obtain ⟨i, -, hi⟩ := List.mem_filterMap.mp hw
  exact tbT i hi h1
theorem inT0 : ∀ w ∈ u_ws RX0 TX0 10, w ∈ Tb1 := tbU [340, 342, 344, 346, 348, 350, 352, 354, 356, 358] (by decide +kernel) (by decide +kernel)
theorem inT1 : ∀ w ∈ u_ws RX1 TX1 10, w ∈ Tb1 := tbU [237, 239, 241, 243, 245, 247, 249, 251, 253, 255] (by decide +kernel) (by decide +kernel)
theorem inT2 : ∀ w ∈ u_ws RX2 TX2 1, w ∈ Tb1 := tbU [445] (by decide +kernel) (by decide +kernel)
theorem inT3 : ∀ w ∈ u_ws RX3 TX3 2, w ∈ Tb1 := tbU [397, 399] (by decide +kernel) (by decide +kernel)
theorem inT4 : ∀ w ∈ u_ws RX4 TX4 8, w ∈ Tb1 := tbU [421, 423, 425, 427, 429, 431, 433, 435] (by decide +kernel) (by decide +kernel)
theorem inT5 : ∀ w ∈ u_ws RX5 TX5 3, w ∈ Tb1 := tbU [270, 272, 274] (by decide +kernel) (by decide +kernel)
theorem inT6 : ∀ w ∈ u_ws RX6 TX6 5, w ∈ Tb1 := tbU [289, 291, 293, 295, 297] (by decide +kernel) (by decide +kernel)
theorem inT7 : ∀ w ∈ u_ws RX7 TX7 11, w ∈ Tb1 := tbU [117, 119, 121, 123, 125, 127, 129, 131, 133, 135, 137] (by decide +kernel) (by decide +kernel)
theorem inT8 : ∀ w ∈ u_ws RX8 TX8 10, w ∈ Tb1 := tbU [171, 173, 175, 177, 179, 181, 183, 185, 187, 189] (by decide +kernel) (by decide +kernel)
theorem inT9 : ∀ w ∈ u_ws RX9 TX9 2, w ∈ Tb1 := tbU [314, 316] (by decide +kernel) (by decide +kernel)
theorem inT10 : ∀ w ∈ u_ws RX10 TX10 6, w ∈ Tb1 := tbU [376, 378, 380, 382, 384, 386] (by decide +kernel) (by decide +kernel)
theorem inT11 : ∀ w ∈ u_ws RX11 TX11 17, w ∈ Tb1 := tbU [467, 469, 471, 473, 475, 477, 479, 481, 483, 485, 487, 489, 491, 493, 495, 497, 499] (by decide +kernel) (by decide +kernel)
theorem inT12 : ∀ w ∈ u_ws RX12 TX12 55, w ∈ Tb1 := tbU [1467, 1469, 1471, 1473, 1475, 1477, 1479, 1481, 1483, 1485, 1487, 1489, 1491, 1493, 1495, 1497, 1499, 1501, 1503, 1505, 1507, 1509, 1511, 1513, 1515, 1517, 1519, 1521, 1523, 1525, 1527, 1529, 1531, 1533, 1535, 1537, 1539, 1541, 1543, 1545, 1547, 1549, 1551, 1553, 1555, 1557, 1559, 1561, 1563, 1565, 1567, 1569, 1571, 1573, 1575] (by decide +kernel) (by decide +kernel)
end
section
abbrev cX0_init : ByteArray := prog_2_method_1_code
def yX0_init : MethodName := ⟨eCN 0, "<init>", "()V"⟩
abbrev cX0_live : ByteArray := prog_2_method_9_code
def yX0_live : MethodName := ⟨eCN 0, "live", "(LWardrobeRow$Terrace;LWardrobeRow$Deeds;)I"⟩
abbrev cX0_readText : ByteArray := prog_2_method_2_code
def yX0_readText : MethodName := ⟨eCN 0, "readText", "(LWardrobeRow$Tape;LWardrobeRow$Terrace;)Z"⟩
abbrev cX1_init : ByteArray := prog_3_method_1_code
def yX1_init : MethodName := ⟨eCN 1, "<init>", "()V"⟩
abbrev cX1_allGoings : ByteArray := prog_3_method_7_code
def yX1_allGoings : MethodName := ⟨eCN 1, "allGoings", "()I"⟩
abbrev cX1_copyFrom : ByteArray := prog_3_method_3_code
def yX1_copyFrom : MethodName := ⟨eCN 1, "copyFrom", "(LWardrobeRow$Deeds;)V"⟩
abbrev cX1_forget : ByteArray := prog_3_method_2_code
def yX1_forget : MethodName := ⟨eCN 1, "forget", "()V"⟩
abbrev cX1_passMinutes : ByteArray := prog_3_method_17_code
def yX1_passMinutes : MethodName := ⟨eCN 1, "passMinutes", "(LWardrobeRow$Terrace;I)I"⟩
abbrev cX1_roomsOf : ByteArray := prog_3_method_5_code
def yX1_roomsOf : MethodName := ⟨eCN 1, "roomsOf", "(I)I"⟩
abbrev cX2_init : ByteArray := prog_4_method_1_code
def yX2_init : MethodName := ⟨eCN 2, "<init>", "()V"⟩
abbrev cX3_init : ByteArray := prog_5_method_1_code
def yX3_init : MethodName := ⟨eCN 3, "<init>", "()V"⟩
abbrev cX3_burntIn : ByteArray := prog_5_method_2_code
def yX3_burntIn : MethodName := ⟨eCN 3, "burntIn", "(LWardrobeRow$Terrace;LWardrobeRow$Deeds;I)I"⟩
abbrev cX4_init : ByteArray := prog_6_method_1_code
def yX4_init : MethodName := ⟨eCN 4, "<init>", "()V"⟩
abbrev cX4_choose : ByteArray := prog_6_method_8_code
def yX4_choose : MethodName := ⟨eCN 4, "choose", "(LWardrobeRow$Terrace;LWardrobeRow$Deeds;)V"⟩
abbrev cX4_closeRings : ByteArray := prog_6_method_5_code
def yX4_closeRings : MethodName := ⟨eCN 4, "closeRings", "()V"⟩
abbrev cX4_findPrices : ByteArray := prog_6_method_7_code
def yX4_findPrices : MethodName := ⟨eCN 4, "findPrices", "(LWardrobeRow$Terrace;LWardrobeRow$Deeds;)I"⟩
abbrev cX4_gather : ByteArray := prog_6_method_3_code
def yX4_gather : MethodName := ⟨eCN 4, "gather", "(LWardrobeRow$Terrace;LWardrobeRow$Deeds;)V"⟩
abbrev cX4_raisePrices : ByteArray := prog_6_method_10_code
def yX4_raisePrices : MethodName := ⟨eCN 4, "raisePrices", "()Z"⟩
abbrev cX4_ringOf : ByteArray := prog_6_method_6_code
def yX4_ringOf : MethodName := ⟨eCN 4, "ringOf", "(I)I"⟩
abbrev cX4_trade : ByteArray := prog_6_method_2_code
def yX4_trade : MethodName := ⟨eCN 4, "trade", "(LWardrobeRow$Terrace;LWardrobeRow$Deeds;)V"⟩
abbrev cX5_init : ByteArray := prog_7_method_1_code
def yX5_init : MethodName := ⟨eCN 5, "<init>", "()V"⟩
abbrev cX5_confirm : ByteArray := prog_7_method_4_code
def yX5_confirm : MethodName := ⟨eCN 5, "confirm", "()V"⟩
abbrev cX5_forget : ByteArray := prog_7_method_5_code
def yX5_forget : MethodName := ⟨eCN 5, "forget", "()V"⟩
abbrev cX5_newest : ByteArray := prog_7_method_2_code
def yX5_newest : MethodName := ⟨eCN 5, "newest", "()LWardrobeRow$Deeds;"⟩
abbrev cX5_prepare : ByteArray := prog_7_method_3_code
def yX5_prepare : MethodName := ⟨eCN 5, "prepare", "(LWardrobeRow$Deeds;)V"⟩
abbrev cX5_takeBack : ByteArray := prog_7_method_6_code
def yX5_takeBack : MethodName := ⟨eCN 5, "takeBack", "(LWardrobeRow$Deeds;)I"⟩
abbrev cX6_init : ByteArray := prog_8_method_1_code
def yX6_init : MethodName := ⟨eCN 6, "<init>", "()V"⟩
abbrev cX6_copyFrom : ByteArray := prog_8_method_3_code
def yX6_copyFrom : MethodName := ⟨eCN 6, "copyFrom", "(LWardrobeRow$Sentence;)V"⟩
abbrev cX6_forget : ByteArray := prog_8_method_2_code
def yX6_forget : MethodName := ⟨eCN 6, "forget", "()V"⟩
abbrev cX6_readCond : ByteArray := prog_8_method_5_code
def yX6_readCond : MethodName := ⟨eCN 6, "readCond", "(LWardrobeRow$Tape;LWardrobeRow$Terrace;I)Z"⟩
abbrev cX6_readOne : ByteArray := prog_8_method_6_code
def yX6_readOne : MethodName := ⟨eCN 6, "readOne", "(LWardrobeRow$Tape;LWardrobeRow$Terrace;I)Z"⟩
abbrev cX6_readText : ByteArray := prog_8_method_4_code
def yX6_readText : MethodName := ⟨eCN 6, "readText", "(LWardrobeRow$Tape;LWardrobeRow$Terrace;)Z"⟩
abbrev cX7_init : ByteArray := prog_9_method_1_code
def yX7_init : MethodName := ⟨eCN 7, "<init>", "()V"⟩
abbrev cX7_advance : ByteArray := prog_9_method_7_code
def yX7_advance : MethodName := ⟨eCN 7, "advance", "()V"⟩
abbrev cX7_append : ByteArray := prog_9_method_4_code
def yX7_append : MethodName := ⟨eCN 7, "append", "(I)V"⟩
abbrev cX7_begin : ByteArray := prog_9_method_6_code
def yX7_begin : MethodName := ⟨eCN 7, "begin", "(I)V"⟩
abbrev cX7_fail : ByteArray := prog_9_method_15_code
def yX7_fail : MethodName := ⟨eCN 7, "fail", "(I)Z"⟩
abbrev cX7_isSign : ByteArray := prog_9_method_14_code
def yX7_isSign : MethodName := ⟨eCN 7, "isSign", "(I)Z"⟩
abbrev cX7_keyword : ByteArray := prog_9_method_13_code
def yX7_keyword : MethodName := ⟨eCN 7, "keyword", "()I"⟩
abbrev cX8_init : ByteArray := prog_10_method_1_code
def yX8_init : MethodName := ⟨eCN 8, "<init>", "()V"⟩
abbrev cX8_allRooms : ByteArray := prog_10_method_12_code
def yX8_allRooms : MethodName := ⟨eCN 8, "allRooms", "()I"⟩
abbrev cX8_around : ByteArray := prog_10_method_15_code
def yX8_around : MethodName := ⟨eCN 8, "around", "(II)I"⟩
abbrev cX8_copyFrom : ByteArray := prog_10_method_3_code
def yX8_copyFrom : MethodName := ⟨eCN 8, "copyFrom", "(LWardrobeRow$Terrace;)V"⟩
abbrev cX8_forget : ByteArray := prog_10_method_2_code
def yX8_forget : MethodName := ⟨eCN 8, "forget", "()V"⟩
abbrev cX8_manyOf : ByteArray := prog_10_method_4_code
def yX8_manyOf : MethodName := ⟨eCN 8, "manyOf", "(I)I"⟩
abbrev cX9_init : ByteArray := prog_11_method_1_code
def yX9_init : MethodName := ⟨eCN 9, "<init>", "()V"⟩
abbrev cX9_readText : ByteArray := prog_11_method_2_code
def yX9_readText : MethodName := ⟨eCN 9, "readText", "(LWardrobeRow$Tape;)I"⟩
abbrev cX10_init : ByteArray := prog_12_method_1_code
def yX10_init : MethodName := ⟨eCN 10, "<init>", "()V"⟩
abbrev cX11_init : ByteArray := prog_1_method_1_code
def yX11_init : MethodName := ⟨eCN 11, "<init>", "()V"⟩
abbrev cX11_areTwoOwners : ByteArray := prog_1_method_58_code
def yX11_areTwoOwners : MethodName := ⟨eCN 11, "areTwoOwners", "(II)Z"⟩
abbrev cX11_asked : ByteArray := prog_1_method_27_code
def yX11_asked : MethodName := ⟨eCN 11, "asked", "()I"⟩
abbrev cX11_asks : ByteArray := prog_1_method_26_code
def yX11_asks : MethodName := ⟨eCN 11, "asks", "(II)I"⟩
abbrev cX11_barred : ByteArray := prog_1_method_25_code
def yX11_barred : MethodName := ⟨eCN 11, "barred", "(I)I"⟩
abbrev cX11_bit : ByteArray := prog_1_method_62_code
def yX11_bit : MethodName := ⟨eCN 11, "bit", "(I)I"⟩
abbrev cX11_book : ByteArray := prog_1_method_49_code
def yX11_book : MethodName := ⟨eCN 11, "book", "(I)I"⟩
abbrev cX11_booked : ByteArray := prog_1_method_50_code
def yX11_booked : MethodName := ⟨eCN 11, "booked", "(I)I"⟩
abbrev cX11_burn : ByteArray := prog_1_method_18_code
def yX11_burn : MethodName := ⟨eCN 11, "burn", "(I)I"⟩
abbrev cX11_corridor : ByteArray := prog_1_method_41_code
def yX11_corridor : MethodName := ⟨eCN 11, "corridor", "(I)I"⟩
abbrev cX11_count : ByteArray := prog_1_method_10_code
def yX11_count : MethodName := ⟨eCN 11, "count", "(I)I"⟩
abbrev cX11_cut : ByteArray := prog_1_method_35_code
def yX11_cut : MethodName := ⟨eCN 11, "cut", "(I)I"⟩
abbrev cX11_die : ByteArray := prog_1_method_16_code
def yX11_die : MethodName := ⟨eCN 11, "die", "(I)I"⟩
abbrev cX11_drawn : ByteArray := prog_1_method_21_code
def yX11_drawn : MethodName := ⟨eCN 11, "drawn", "(II)I"⟩
abbrev cX11_end : ByteArray := prog_1_method_3_code
def yX11_end : MethodName := ⟨eCN 11, "end", "(I)Z"⟩
abbrev cX11_exchange : ByteArray := prog_1_method_36_code
def yX11_exchange : MethodName := ⟨eCN 11, "exchange", "(I)I"⟩
abbrev cX11_fault : ByteArray := prog_1_method_5_code
def yX11_fault : MethodName := ⟨eCN 11, "fault", "()I"⟩
abbrev cX11_feed : ByteArray := prog_1_method_2_code
def yX11_feed : MethodName := ⟨eCN 11, "feed", "(IIIII)I"⟩
abbrev cX11_fire : ByteArray := prog_1_method_33_code
def yX11_fire : MethodName := ⟨eCN 11, "fire", "(I)I"⟩
abbrev cX11_go : ByteArray := prog_1_method_11_code
def yX11_go : MethodName := ⟨eCN 11, "go", "(II)I"⟩
abbrev cX11_guests : ByteArray := prog_1_method_44_code
def yX11_guests : MethodName := ⟨eCN 11, "guests", "(I)I"⟩
abbrev cX11_has : ByteArray := prog_1_method_63_code
def yX11_has : MethodName := ⟨eCN 11, "has", "(II)Z"⟩
abbrev cX11_heir : ByteArray := prog_1_method_43_code
def yX11_heir : MethodName := ⟨eCN 11, "heir", "(I)I"⟩
abbrev cX11_image : ByteArray := prog_1_method_53_code
def yX11_image : MethodName := ⟨eCN 11, "image", "(I)Z"⟩
abbrev cX11_isBelow : ByteArray := prog_1_method_61_code
def yX11_isBelow : MethodName := ⟨eCN 11, "isBelow", "(II)Z"⟩
abbrev cX11_isOwner : ByteArray := prog_1_method_56_code
def yX11_isOwner : MethodName := ⟨eCN 11, "isOwner", "(I)Z"⟩
abbrev cX11_isPassage : ByteArray := prog_1_method_57_code
def yX11_isPassage : MethodName := ⟨eCN 11, "isPassage", "(I)Z"⟩
abbrev cX11_isRoom : ByteArray := prog_1_method_55_code
def yX11_isRoom : MethodName := ⟨eCN 11, "isRoom", "(I)Z"⟩
abbrev cX11_isRowOfRooms : ByteArray := prog_1_method_30_code
def yX11_isRowOfRooms : MethodName := ⟨eCN 11, "isRowOfRooms", "()Z"⟩
abbrev cX11_isSwitch : ByteArray := prog_1_method_59_code
def yX11_isSwitch : MethodName := ⟨eCN 11, "isSwitch", "(I)Z"⟩
abbrev cX11_keptIfDone : ByteArray := prog_1_method_60_code
def yX11_keptIfDone : MethodName := ⟨eCN 11, "keptIfDone", "(I)I"⟩
abbrev cX11_leave : ByteArray := prog_1_method_12_code
def yX11_leave : MethodName := ⟨eCN 11, "leave", "(I)Z"⟩
abbrev cX11_let : ByteArray := prog_1_method_14_code
def yX11_let : MethodName := ⟨eCN 11, "let", "(III)I"⟩
abbrev cX11_minutes : ByteArray := prog_1_method_19_code
def yX11_minutes : MethodName := ⟨eCN 11, "minutes", "(I)I"⟩
abbrev cX11_mixed : ByteArray := prog_1_method_47_code
def yX11_mixed : MethodName := ⟨eCN 11, "mixed", "()I"⟩
abbrev cX11_now : ByteArray := prog_1_method_9_code
def yX11_now : MethodName := ⟨eCN 11, "now", "(I)I"⟩
abbrev cX11_odds : ByteArray := prog_1_method_22_code
def yX11_odds : MethodName := ⟨eCN 11, "odds", "(III)I"⟩
abbrev cX11_owner : ByteArray := prog_1_method_7_code
def yX11_owner : MethodName := ⟨eCN 11, "owner", "(II)I"⟩
abbrev cX11_passage : ByteArray := prog_1_method_8_code
def yX11_passage : MethodName := ⟨eCN 11, "passage", "(II)I"⟩
abbrev cX11_price : ByteArray := prog_1_method_39_code
def yX11_price : MethodName := ⟨eCN 11, "price", "(I)I"⟩
abbrev cX11_prices : ByteArray := prog_1_method_38_code
def yX11_prices : MethodName := ⟨eCN 11, "prices", "()I"⟩
abbrev cX11_restore : ByteArray := prog_1_method_54_code
def yX11_restore : MethodName := ⟨eCN 11, "restore", "(I)Z"⟩
abbrev cX11_rings : ByteArray := prog_1_method_37_code
def yX11_rings : MethodName := ⟨eCN 11, "rings", "()I"⟩
abbrev cX11_said : ByteArray := prog_1_method_52_code
def yX11_said : MethodName := ⟨eCN 11, "said", "(I)I"⟩
abbrev cX11_sell : ByteArray := prog_1_method_13_code
def yX11_sell : MethodName := ⟨eCN 11, "sell", "(III)I"⟩
abbrev cX11_sentence : ByteArray := prog_1_method_51_code
def yX11_sentence : MethodName := ⟨eCN 11, "sentence", "()I"⟩
abbrev cX11_shut : ByteArray := prog_1_method_17_code
def yX11_shut : MethodName := ⟨eCN 11, "shut", "(II)I"⟩
abbrev cX11_spread : ByteArray := prog_1_method_34_code
def yX11_spread : MethodName := ⟨eCN 11, "spread", "(I)I"⟩
abbrev cX11_step : ByteArray := prog_1_method_24_code
def yX11_step : MethodName := ⟨eCN 11, "step", "(I)I"⟩
abbrev cX11_terrace : ByteArray := prog_1_method_4_code
def yX11_terrace : MethodName := ⟨eCN 11, "terrace", "()I"⟩
abbrev cX11_through : ByteArray := prog_1_method_28_code
def yX11_through : MethodName := ⟨eCN 11, "through", "(II)I"⟩
abbrev cX11_undo : ByteArray := prog_1_method_20_code
def yX11_undo : MethodName := ⟨eCN 11, "undo", "()I"⟩
abbrev cX11_walked : ByteArray := prog_1_method_29_code
def yX11_walked : MethodName := ⟨eCN 11, "walked", "()I"⟩
abbrev cX11_wants : ByteArray := prog_1_method_40_code
def yX11_wants : MethodName := ⟨eCN 11, "wants", "(I)I"⟩
abbrev cX11_way : ByteArray := prog_1_method_23_code
def yX11_way : MethodName := ⟨eCN 11, "way", "(II)I"⟩
abbrev cX11_will : ByteArray := prog_1_method_15_code
def yX11_will : MethodName := ⟨eCN 11, "will", "(II)I"⟩
abbrev cX12_init : ByteArray := prog_14_method_11_code
def yX12_init : MethodName := ⟨eCN 12, "<init>", "()V"⟩
abbrev cX12_areMinutes : ByteArray := prog_14_method_67_code
def yX12_areMinutes : MethodName := ⟨eCN 12, "areMinutes", "(I)Z"⟩
abbrev cX12_areTwo : ByteArray := prog_14_method_34_code
def yX12_areTwo : MethodName := ⟨eCN 12, "areTwo", "(II)Z"⟩
abbrev cX12_asked : ByteArray := prog_14_method_80_code
def yX12_asked : MethodName := ⟨eCN 12, "asked", "()I"⟩
abbrev cX12_asks : ByteArray := prog_14_method_79_code
def yX12_asks : MethodName := ⟨eCN 12, "asks", "(II)I"⟩
abbrev cX12_back : ByteArray := prog_14_method_72_code
def yX12_back : MethodName := ⟨eCN 12, "back", "()V"⟩
abbrev cX12_bad : ByteArray := prog_14_method_16_code
def yX12_bad : MethodName := ⟨eCN 12, "bad", "(I)Z"⟩
abbrev cX12_barred : ByteArray := prog_14_method_78_code
def yX12_barred : MethodName := ⟨eCN 12, "barred", "(I)I"⟩
abbrev cX12_book : ByteArray := prog_14_method_111_code
def yX12_book : MethodName := ⟨eCN 12, "book", "(I)I"⟩
abbrev cX12_booked : ByteArray := prog_14_method_112_code
def yX12_booked : MethodName := ⟨eCN 12, "booked", "(I)I"⟩
abbrev cX12_burn : ByteArray := prog_14_method_66_code
def yX12_burn : MethodName := ⟨eCN 12, "burn", "(I)I"⟩
abbrev cX12_burntIn : ByteArray := prog_14_method_82_code
def yX12_burntIn : MethodName := ⟨eCN 12, "burntIn", "(I)I"⟩
abbrev cX12_catching : ByteArray := prog_14_method_57_code
def yX12_catching : MethodName := ⟨eCN 12, "catching", "()I"⟩
abbrev cX12_corridor : ByteArray := prog_14_method_97_code
def yX12_corridor : MethodName := ⟨eCN 12, "corridor", "(I)I"⟩
abbrev cX12_count : ByteArray := prog_14_method_126_code
def yX12_count : MethodName := ⟨eCN 12, "count", "(I)I"⟩
abbrev cX12_cut : ByteArray := prog_14_method_86_code
def yX12_cut : MethodName := ⟨eCN 12, "cut", "(I)I"⟩
abbrev cX12_die : ByteArray := prog_14_method_64_code
def yX12_die : MethodName := ⟨eCN 12, "die", "(I)I"⟩
abbrev cX12_drawn : ByteArray := prog_14_method_105_code
def yX12_drawn : MethodName := ⟨eCN 12, "drawn", "(II)I"⟩
abbrev cX12_end : ByteArray := prog_14_method_5_code
def yX12_end : MethodName := ⟨eCN 12, "end", "(I)Z"⟩
abbrev cX12_exchange : ByteArray := prog_14_method_90_code
def yX12_exchange : MethodName := ⟨eCN 12, "exchange", "(I)I"⟩
abbrev cX12_exchanges : ByteArray := prog_14_method_89_code
def yX12_exchanges : MethodName := ⟨eCN 12, "exchanges", "()V"⟩
abbrev cX12_fault : ByteArray := prog_14_method_31_code
def yX12_fault : MethodName := ⟨eCN 12, "fault", "()I"⟩
abbrev cX12_feed : ByteArray := prog_14_method_3_code
def yX12_feed : MethodName := ⟨eCN 12, "feed", "(IIIII)I"⟩
abbrev cX12_fire : ByteArray := prog_14_method_83_code
def yX12_fire : MethodName := ⟨eCN 12, "fire", "(I)I"⟩
abbrev cX12_four : ByteArray := prog_14_method_4_code
def yX12_four : MethodName := ⟨eCN 12, "four", "(I)V"⟩
abbrev cX12_go : ByteArray := prog_14_method_59_code
def yX12_go : MethodName := ⟨eCN 12, "go", "(II)I"⟩
abbrev cX12_guests : ByteArray := prog_14_method_100_code
def yX12_guests : MethodName := ⟨eCN 12, "guests", "(I)I"⟩
abbrev cX12_heir : ByteArray := prog_14_method_98_code
def yX12_heir : MethodName := ⟨eCN 12, "heir", "(I)I"⟩
abbrev cX12_image : ByteArray := prog_14_method_124_code
def yX12_image : MethodName := ⟨eCN 12, "image", "(I)Z"⟩
abbrev cX12_isIn : ByteArray := prog_14_method_7_code
def yX12_isIn : MethodName := ⟨eCN 12, "isIn", "(III)Z"⟩
abbrev cX12_isOwner : ByteArray := prog_14_method_33_code
def yX12_isOwner : MethodName := ⟨eCN 12, "isOwner", "(I)Z"⟩
abbrev cX12_isPassage : ByteArray := prog_14_method_35_code
def yX12_isPassage : MethodName := ⟨eCN 12, "isPassage", "(I)Z"⟩
abbrev cX12_isRoom : ByteArray := prog_14_method_32_code
def yX12_isRoom : MethodName := ⟨eCN 12, "isRoom", "(I)Z"⟩
abbrev cX12_isSign : ByteArray := prog_14_method_18_code
def yX12_isSign : MethodName := ⟨eCN 12, "isSign", "(I)Z"⟩
abbrev cX12_isWord : ByteArray := prog_14_method_17_code
def yX12_isWord : MethodName := ⟨eCN 12, "isWord", "(J)Z"⟩
abbrev cX12_keep : ByteArray := prog_14_method_69_code
def yX12_keep : MethodName := ⟨eCN 12, "keep", "()V"⟩
abbrev cX12_leafOf : ByteArray := prog_14_method_116_code
def yX12_leafOf : MethodName := ⟨eCN 12, "leafOf", "()I"⟩
abbrev cX12_leave : ByteArray := prog_14_method_60_code
def yX12_leave : MethodName := ⟨eCN 12, "leave", "(I)Z"⟩
abbrev cX12_let : ByteArray := prog_14_method_62_code
def yX12_let : MethodName := ⟨eCN 12, "let", "(III)I"⟩
abbrev cX12_minute : ByteArray := prog_14_method_58_code
def yX12_minute : MethodName := ⟨eCN 12, "minute", "()V"⟩
abbrev cX12_minutes : ByteArray := prog_14_method_68_code
def yX12_minutes : MethodName := ⟨eCN 12, "minutes", "(I)I"⟩
abbrev cX12_mixed : ByteArray := prog_14_method_101_code
def yX12_mixed : MethodName := ⟨eCN 12, "mixed", "()I"⟩
abbrev cX12_now : ByteArray := prog_14_method_44_code
def yX12_now : MethodName := ⟨eCN 12, "now", "(I)I"⟩
abbrev cX12_odds : ByteArray := prog_14_method_106_code
def yX12_odds : MethodName := ⟨eCN 12, "odds", "(III)I"⟩
abbrev cX12_operand : ByteArray := prog_14_method_117_code
def yX12_operand : MethodName := ⟨eCN 12, "operand", "()Z"⟩
abbrev cX12_owner : ByteArray := prog_14_method_42_code
def yX12_owner : MethodName := ⟨eCN 12, "owner", "(II)I"⟩
abbrev cX12_passage : ByteArray := prog_14_method_43_code
def yX12_passage : MethodName := ⟨eCN 12, "passage", "(II)I"⟩
abbrev cX12_peek : ByteArray := prog_14_method_12_code
def yX12_peek : MethodName := ⟨eCN 12, "peek", "()I"⟩
abbrev cX12_price : ByteArray := prog_14_method_94_code
def yX12_price : MethodName := ⟨eCN 12, "price", "(I)I"⟩
abbrev cX12_prices : ByteArray := prog_14_method_93_code
def yX12_prices : MethodName := ⟨eCN 12, "prices", "()I"⟩
abbrev cX12_restore : ByteArray := prog_14_method_125_code
def yX12_restore : MethodName := ⟨eCN 12, "restore", "(I)Z"⟩
abbrev cX12_rings : ByteArray := prog_14_method_91_code
def yX12_rings : MethodName := ⟨eCN 12, "rings", "()I"⟩
abbrev cX12_room : ByteArray := prog_14_method_41_code
def yX12_room : MethodName := ⟨eCN 12, "room", "(II)I"⟩
abbrev cX12_roomsOf : ByteArray := prog_14_method_38_code
def yX12_roomsOf : MethodName := ⟨eCN 12, "roomsOf", "(I)I"⟩
abbrev cX12_said : ByteArray := prog_14_method_123_code
def yX12_said : MethodName := ⟨eCN 12, "said", "(I)I"⟩
abbrev cX12_sell : ByteArray := prog_14_method_61_code
def yX12_sell : MethodName := ⟨eCN 12, "sell", "(III)I"⟩
abbrev cX12_sentence : ByteArray := prog_14_method_119_code
def yX12_sentence : MethodName := ⟨eCN 12, "sentence", "()I"⟩
abbrev cX12_shut : ByteArray := prog_14_method_65_code
def yX12_shut : MethodName := ⟨eCN 12, "shut", "(II)I"⟩
abbrev cX12_skip : ByteArray := prog_14_method_15_code
def yX12_skip : MethodName := ⟨eCN 12, "skip", "()V"⟩
abbrev cX12_spread : ByteArray := prog_14_method_84_code
def yX12_spread : MethodName := ⟨eCN 12, "spread", "(I)I"⟩
abbrev cX12_step : ByteArray := prog_14_method_77_code
def yX12_step : MethodName := ⟨eCN 12, "step", "(I)I"⟩
abbrev cX12_taken : ByteArray := prog_14_method_6_code
def yX12_taken : MethodName := ⟨eCN 12, "taken", "(I)V"⟩
abbrev cX12_terrace : ByteArray := prog_14_method_30_code
def yX12_terrace : MethodName := ⟨eCN 12, "terrace", "()I"⟩
abbrev cX12_through : ByteArray := prog_14_method_81_code
def yX12_through : MethodName := ⟨eCN 12, "through", "(II)I"⟩
abbrev cX12_thrown : ByteArray := prog_14_method_1_code
def yX12_thrown : MethodName := ⟨eCN 12, "thrown", "()I"⟩
abbrev cX12_throwsIf : ByteArray := prog_14_method_2_code
def yX12_throwsIf : MethodName := ⟨eCN 12, "throwsIf", "(Z)Z"⟩
abbrev cX12_tries : ByteArray := prog_14_method_71_code
def yX12_tries : MethodName := ⟨eCN 12, "tries", "()V"⟩
abbrev cX12_undo : ByteArray := prog_14_method_70_code
def yX12_undo : MethodName := ⟨eCN 12, "undo", "()I"⟩
abbrev cX12_walked : ByteArray := prog_14_method_96_code
def yX12_walked : MethodName := ⟨eCN 12, "walked", "()I"⟩
abbrev cX12_wants : ByteArray := prog_14_method_95_code
def yX12_wants : MethodName := ⟨eCN 12, "wants", "(I)I"⟩
abbrev cX12_way : ByteArray := prog_14_method_76_code
def yX12_way : MethodName := ⟨eCN 12, "way", "(II)I"⟩
abbrev cX12_will : ByteArray := prog_14_method_63_code
def yX12_will : MethodName := ⟨eCN 12, "will", "(II)I"⟩
abbrev cL_law : ByteArray := code
def yL_law : MethodName := ⟨R_law, "law", "([I)Z"⟩
abbrev cJ6_bitCount_0f7a4 : ByteArray := prog_19_method_49_code
def yJ6_bitCount_0f7a4 : MethodName := ⟨eCN 14, "bitCount", "(I)I"⟩
abbrev cJ9_floorMod_7cf53 : ByteArray := prog_20_method_50_code
def yJ9_floorMod_7cf53 : MethodName := ⟨eCN 15, "floorMod", "(II)I"⟩
abbrev cJ9_min_7cf53 : ByteArray := prog_20_method_69_code
def yJ9_min_7cf53 : MethodName := ⟨eCN 15, "min", "(II)I"⟩
abbrev cJ7_fill_53178 : ByteArray := prog_29_method_103_code
def yJ7_fill_53178 : MethodName := ⟨eCN 16, "fill", "([II)V"⟩
def ec_0 : List eI := [(0, .aload_n 0, 1), (1, .invokespecial 3, 3), (4, .aload_n 0, 1), (5, .bipush 40, 2), (7, .newarray .int, 2), (9, .putfield 9, 3), (12, .aload_n 0, 1), (13, .bipush 40, 2), (15, .newarray .int, 2), (17, .putfield 15, 3), (20, .aload_n 0, 1), (21, .bipush 40, 2), (23, .newarray .int, 2), (25, .putfield 18, 3), (28, .aload_n 0, 1), (29, .bipush 40, 2), (31, .newarray .int, 2), (33, .putfield 21, 3), (36, .return_, 1)]
def ec_1 : List eI := [(0, .aload_n 2, 1), (1, .getfield 79, 3), (4, .istore_n 3, 1), (5, .aload_n 0, 1), (6, .iconst 0, 1), (7, .putfield 84, 3), (10, .aload_n 0, 1), (11, .iconst 0, 1), (12, .putfield 87, 3), (15, .iconst 0, 1), (16, .istore 4, 2), (18, .iload 4, 2), (20, .aload_n 0, 1), (21, .getfield 24, 3), (24, .if_icmp .ge 49, 3), (27, .aload_n 0, 1), (28, .getfield 84, 3), (31, .ifCond .ne 42, 3), (34, .aload_n 0, 1), (35, .aload_n 0, 1), (36, .aload_n 1, 1), (37, .aload_n 2, 1), (38, .iload 4, 2), (40, .invokevirtual 90, 3), (43, .putfield 84, 3), (46, .aload_n 0, 1), (47, .dup, 1), (48, .getfield 87, 3), (51, .aload_n 0, 1), (52, .getfield 84, 3), (55, .ifCond .ne 7, 3), (58, .iconst 1, 1), (59, .goto 4, 3), (62, .iconst 0, 1), (63, .iadd, 1), (64, .putfield 87, 3), (67, .iinc 4 1, 3), (70, .goto (-52), 3), (73, .aload_n 0, 1), (74, .iconst 1, 1), (75, .putfield 94, 3), (78, .aload_n 0, 1), (79, .aload_n 2, 1), (80, .getfield 98, 3), (83, .putfield 101, 3), (86, .aload_n 0, 1), (87, .aload_n 2, 1), (88, .getfield 79, 3), (91, .iload_n 3, 1), (92, .iconst (-1), 1), (93, .ixor, 1), (94, .iand, 1), (95, .putfield 104, 3), (98, .aload_n 0, 1), (99, .getfield 84, 3), (102, .ifCond .ne 7, 3), (105, .iconst (-1), 1), (106, .goto 7, 3), (109, .aload_n 0, 1), (110, .getfield 87, 3), (113, .ireturn, 1)]
def ec_2 : List eI := [(0, .aload_n 0, 1), (1, .iconst 0, 1), (2, .putfield 24, 3), (5, .aload_n 1, 1), (6, .sipush 400, 3), (9, .invokevirtual 28, 3), (12, .iconst 0, 1), (13, .istore_n 3, 1), (14, .iload_n 3, 1), (15, .bipush 40, 2), (17, .if_icmp .gt 29, 3), (20, .aload_n 1, 1), (21, .getfield 34, 3), (24, .ifCond .ne 5, 3), (27, .iconst 1, 1), (28, .ireturn, 1), (29, .aload_n 0, 1), (30, .aload_n 1, 1), (31, .aload_n 2, 1), (32, .invokevirtual 37, 3), (35, .ifCond .ne 5, 3), (38, .iconst 0, 1), (39, .ireturn, 1), (40, .iinc 3 1, 3), (43, .goto (-29), 3), (46, .iconst 0, 1), (47, .ireturn, 1)]
def ec_3 : List eI := [(0, .aload_n 0, 1), (1, .invokespecial 3, 3), (4, .aload_n 0, 1), (5, .bipush 12, 2), (7, .newarray .int, 2), (9, .putfield 9, 3), (12, .aload_n 0, 1), (13, .bipush 6, 2), (15, .newarray .int, 2), (17, .putfield 15, 3), (20, .aload_n 0, 1), (21, .bipush 6, 2), (23, .newarray .int, 2), (25, .putfield 18, 3), (28, .aload_n 0, 1), (29, .bipush 6, 2), (31, .newarray .int, 2), (33, .putfield 21, 3), (36, .aload_n 0, 1), (37, .bipush 6, 2), (39, .newarray .int, 2), (41, .putfield 24, 3), (44, .aload_n 0, 1), (45, .getfield 9, 3), (48, .iconst (-1), 1), (49, .invokestatic 27, 3), (52, .aload_n 0, 1), (53, .getfield 15, 3), (56, .iconst (-1), 1), (57, .invokestatic 27, 3), (60, .aload_n 0, 1), (61, .getfield 18, 3), (64, .iconst (-1), 1), (65, .invokestatic 27, 3), (68, .return_, 1)]
def ec_4 : List eI := [(0, .iconst 0, 1), (1, .istore_n 1, 1), (2, .iconst 0, 1), (3, .istore_n 2, 1), (4, .iload_n 2, 1), (5, .bipush 6, 2), (7, .if_icmp .ge 18, 3), (10, .iload_n 1, 1), (11, .aload_n 0, 1), (12, .getfield 24, 3), (15, .iload_n 2, 1), (16, .iaload, 1), (17, .iadd, 1), (18, .istore_n 1, 1), (19, .iinc 2 1, 3), (22, .goto (-18), 3), (25, .iload_n 1, 1), (26, .ireturn, 1)]
def ec_5 : List eI := [(0, .aload_n 1, 1), (1, .getfield 9, 3), (4, .iconst 0, 1), (5, .aload_n 0, 1), (6, .getfield 9, 3), (9, .iconst 0, 1), (10, .bipush 12, 2), (12, .invokestatic 49, 3), (15, .aload_n 1, 1), (16, .getfield 15, 3), (19, .iconst 0, 1), (20, .aload_n 0, 1), (21, .getfield 15, 3), (24, .iconst 0, 1), (25, .bipush 6, 2), (27, .invokestatic 49, 3), (30, .aload_n 1, 1), (31, .getfield 18, 3), (34, .iconst 0, 1), (35, .aload_n 0, 1), (36, .getfield 18, 3), (39, .iconst 0, 1), (40, .bipush 6, 2), (42, .invokestatic 49, 3), (45, .aload_n 1, 1), (46, .getfield 21, 3), (49, .iconst 0, 1), (50, .aload_n 0, 1), (51, .getfield 21, 3), (54, .iconst 0, 1), (55, .bipush 6, 2), (57, .invokestatic 49, 3), (60, .aload_n 1, 1), (61, .getfield 24, 3), (64, .iconst 0, 1), (65, .aload_n 0, 1), (66, .getfield 24, 3), (69, .iconst 0, 1), (70, .bipush 6, 2), (72, .invokestatic 49, 3), (75, .aload_n 0, 1), (76, .aload_n 1, 1), (77, .getfield 33, 3), (80, .putfield 33, 3), (83, .aload_n 0, 1), (84, .aload_n 1, 1), (85, .getfield 37, 3), (88, .putfield 37, 3), (91, .aload_n 0, 1), (92, .aload_n 1, 1), (93, .getfield 40, 3), (96, .putfield 40, 3), (99, .aload_n 0, 1), (100, .aload_n 1, 1), (101, .getfield 43, 3), (104, .putfield 43, 3), (107, .aload_n 0, 1), (108, .aload_n 1, 1), (109, .getfield 46, 3), (112, .putfield 46, 3), (115, .return_, 1)]
def ec_6 : List eI := [(0, .aload_n 0, 1), (1, .getfield 9, 3), (4, .iconst (-1), 1), (5, .invokestatic 27, 3), (8, .aload_n 0, 1), (9, .getfield 15, 3), (12, .iconst (-1), 1), (13, .invokestatic 27, 3), (16, .aload_n 0, 1), (17, .getfield 18, 3), (20, .iconst (-1), 1), (21, .invokestatic 27, 3), (24, .aload_n 0, 1), (25, .getfield 21, 3), (28, .iconst 0, 1), (29, .invokestatic 27, 3), (32, .aload_n 0, 1), (33, .getfield 24, 3), (36, .iconst 0, 1), (37, .invokestatic 27, 3), (40, .aload_n 0, 1), (41, .iconst 0, 1), (42, .putfield 33, 3), (45, .aload_n 0, 1), (46, .iconst 0, 1), (47, .putfield 37, 3), (50, .aload_n 0, 1), (51, .iconst 0, 1), (52, .putfield 40, 3), (55, .aload_n 0, 1), (56, .iconst 0, 1), (57, .putfield 43, 3), (60, .aload_n 0, 1), (61, .iconst 0, 1), (62, .putfield 46, 3), (65, .return_, 1)]
def ec_7 : List eI := [(0, .aload_n 0, 1), (1, .getfield 43, 3), (4, .iload_n 2, 1), (5, .iadd, 1), (6, .sipush 999, 3), (9, .if_icmp .le 5, 3), (12, .iconst 1, 1), (13, .ireturn, 1), (14, .iconst 0, 1), (15, .istore_n 3, 1), (16, .iload_n 3, 1), (17, .iload_n 2, 1), (18, .if_icmp .ge 89, 3), (21, .aload_n 0, 1), (22, .getfield 33, 3), (25, .ifCond .ne 7, 3), (28, .iconst 0, 1), (29, .goto 22, 3), (32, .aload_n 1, 1), (33, .aload_n 0, 1), (34, .getfield 33, 3), (37, .aload_n 0, 1), (38, .getfield 40, 3), (41, .invokevirtual 70, 3), (44, .aload_n 0, 1), (45, .getfield 33, 3), (48, .iconst (-1), 1), (49, .ixor, 1), (50, .iand, 1), (51, .istore 4, 2), (53, .iconst 0, 1), (54, .istore 5, 2), (56, .iload 4, 2), (58, .ifCond .eq 33, 3), (61, .iload 5, 2), (63, .bipush 12, 2), (65, .if_icmp .ge 26, 3), (68, .iload 4, 2), (70, .iload 5, 2), (72, .invokestatic 55, 3), (75, .ifCond .eq 10, 3), (78, .aload_n 0, 1), (79, .iload 5, 2), (81, .invokevirtual 88, 3), (84, .pop, 1), (85, .iinc 5 1, 3), (88, .goto (-32), 3), (91, .aload_n 0, 1), (92, .dup, 1), (93, .getfield 43, 3), (96, .iconst 1, 1), (97, .iadd, 1), (98, .putfield 43, 3), (101, .iinc 3 1, 3), (104, .goto (-88), 3), (107, .iconst 0, 1), (108, .ireturn, 1)]
def ec_8 : List eI := [(0, .iconst 0, 1), (1, .istore_n 2, 1), (2, .iconst 0, 1), (3, .istore_n 3, 1), (4, .iload_n 3, 1), (5, .bipush 12, 2), (7, .if_icmp .ge 30, 3), (10, .iload_n 2, 1), (11, .aload_n 0, 1), (12, .getfield 9, 3), (15, .iload_n 3, 1), (16, .iaload, 1), (17, .iload_n 1, 1), (18, .if_icmp .ne 10, 3), (21, .iload_n 3, 1), (22, .invokestatic 59, 3), (25, .goto 4, 3), (28, .iconst 0, 1), (29, .ior, 1), (30, .istore_n 2, 1), (31, .iinc 3 1, 3), (34, .goto (-30), 3), (37, .iload_n 2, 1), (38, .ireturn, 1)]
def ec_9 : List eI := [(0, .aload_n 0, 1), (1, .invokespecial 3, 3), (4, .return_, 1)]
def ec_10 : List eI := [(0, .aload_n 0, 1), (1, .invokespecial 3, 3), (4, .aload_n 0, 1), (5, .bipush 20, 2), (7, .newarray .int, 2), (9, .putfield 9, 3), (12, .aload_n 0, 1), (13, .bipush 12, 2), (15, .newarray .int, 2), (17, .putfield 15, 3), (20, .return_, 1)]
def ec_11 : List eI := [(0, .aload_n 2, 1), (1, .getfield 18, 3), (4, .istore 4, 2), (6, .iconst 0, 1), (7, .istore 5, 2), (9, .iload 5, 2), (11, .iload_n 3, 1), (12, .if_icmp .ge 31, 3), (15, .iload 5, 2), (17, .bipush 12, 2), (19, .if_icmp .ge 24, 3), (22, .iload 4, 2), (24, .aload_n 1, 1), (25, .iload 4, 2), (27, .aload_n 2, 1), (28, .getfield 24, 3), (31, .invokevirtual 27, 3), (34, .ior, 1), (35, .istore 4, 2), (37, .iinc 5 1, 3), (40, .goto (-31), 3), (43, .iload 4, 2), (45, .ireturn, 1)]
def ec_12 : List eI := [(0, .aload_n 0, 1), (1, .invokespecial 3, 3), (4, .aload_n 0, 1), (5, .bipush 6, 2), (7, .newarray .int, 2), (9, .putfield 9, 3), (12, .aload_n 0, 1), (13, .bipush 12, 2), (15, .newarray .int, 2), (17, .putfield 15, 3), (20, .aload_n 0, 1), (21, .bipush 6, 2), (23, .newarray .int, 2), (25, .putfield 18, 3), (28, .aload_n 0, 1), (29, .bipush 6, 2), (31, .newarray .int, 2), (33, .putfield 21, 3), (36, .aload_n 0, 1), (37, .bipush 12, 2), (39, .newarray .int, 2), (41, .putfield 24, 3), (44, .aload_n 0, 1), (45, .bipush 6, 2), (47, .newarray .int, 2), (49, .putfield 27, 3), (52, .return_, 1)]
def ec_13 : List eI := [(0, .iconst 0, 1), (1, .istore_n 3, 1), (2, .iload_n 3, 1), (3, .aload_n 1, 1), (4, .iconst 1, 1), (5, .invokevirtual 55, 3), (8, .if_icmp .ge 37, 3), (11, .aload_n 0, 1), (12, .getfield 18, 3), (15, .iload_n 3, 1), (16, .aload_n 2, 1), (17, .iload_n 3, 1), (18, .invokevirtual 66, 3), (21, .ifCond .eq 16, 3), (24, .aload_n 0, 1), (25, .aload_n 1, 1), (26, .aload_n 2, 1), (27, .getfield 70, 3), (30, .iload_n 3, 1), (31, .invokevirtual 102, 3), (34, .goto 4, 3), (37, .iconst (-1), 1), (38, .iastore, 1), (39, .iinc 3 1, 3), (42, .goto (-40), 3), (45, .return_, 1)]
def ec_14 : List eI := [(0, .iconst 0, 1), (1, .istore_n 1, 1), (2, .iconst 0, 1), (3, .istore_n 2, 1), (4, .iload_n 2, 1), (5, .bipush 6, 2), (7, .if_icmp .ge 53, 3), (10, .iload_n 1, 1), (11, .iload_n 2, 1), (12, .invokestatic 73, 3), (15, .ifCond .eq 7, 3), (18, .iconst 0, 1), (19, .goto 8, 3), (22, .aload_n 0, 1), (23, .iload_n 2, 1), (24, .invokevirtual 80, 3), (27, .istore_n 3, 1), (28, .iload_n 1, 1), (29, .iload_n 3, 1), (30, .ior, 1), (31, .istore_n 1, 1), (32, .aload_n 0, 1), (33, .dup, 1), (34, .getfield 30, 3), (37, .iload_n 3, 1), (38, .invokestatic 83, 3), (41, .iconst 1, 1), (42, .if_icmp .le 7, 3), (45, .iconst 1, 1), (46, .goto 4, 3), (49, .iconst 0, 1), (50, .iadd, 1), (51, .putfield 30, 3), (54, .iinc 2 1, 3), (57, .goto (-53), 3), (60, .iconst 0, 1), (61, .istore_n 2, 1), (62, .iload_n 2, 1), (63, .bipush 6, 2), (65, .if_icmp .ge 48, 3), (68, .iload_n 1, 1), (69, .iload_n 2, 1), (70, .invokestatic 73, 3), (73, .ifCond .eq 34, 3), (76, .aload_n 0, 1), (77, .getfield 27, 3), (80, .iload_n 2, 1), (81, .iaload, 1), (82, .bipush 6, 2), (84, .invokestatic 44, 3), (87, .ifCond .eq 20, 3), (90, .aload_n 0, 1), (91, .getfield 9, 3), (94, .iload_n 2, 1), (95, .aload_n 0, 1), (96, .getfield 21, 3), (99, .aload_n 0, 1), (100, .getfield 27, 3), (103, .iload_n 2, 1), (104, .iaload, 1), (105, .iaload, 1), (106, .iastore, 1), (107, .iinc 2 1, 3), (110, .goto (-48), 3), (113, .iconst 0, 1), (114, .istore_n 2, 1), (115, .iload_n 2, 1), (116, .bipush 6, 2), (118, .if_icmp .ge 50, 3), (121, .iload_n 1, 1), (122, .iload_n 2, 1), (123, .invokestatic 73, 3), (126, .ifCond .eq 36, 3), (129, .aload_n 0, 1), (130, .getfield 21, 3), (133, .iload_n 2, 1), (134, .iaload, 1), (135, .bipush 12, 2), (137, .invokestatic 44, 3), (140, .ifCond .eq 22, 3), (143, .aload_n 0, 1), (144, .getfield 24, 3), (147, .aload_n 0, 1), (148, .getfield 21, 3), (151, .iload_n 2, 1), (152, .iaload, 1), (153, .iconst (-1), 1), (154, .iastore, 1), (155, .aload_n 0, 1), (156, .getfield 21, 3), (159, .iload_n 2, 1), (160, .iconst (-1), 1), (161, .iastore, 1), (162, .iinc 2 1, 3), (165, .goto (-50), 3), (168, .return_, 1)]
def ec_15 : List eI := [(0, .aload_n 0, 1), (1, .iconst 1, 1), (2, .putfield 91, 3), (5, .aload_n 0, 1), (6, .getfield 15, 3), (9, .iconst 0, 1), (10, .invokestatic 34, 3), (13, .aload_n 0, 1), (14, .getfield 18, 3), (17, .iconst (-1), 1), (18, .invokestatic 34, 3), (21, .iconst 1, 1), (22, .istore_n 3, 1), (23, .iload_n 3, 1), (24, .bipush 99, 2), (26, .if_icmp .ge 24, 3), (29, .aload_n 0, 1), (30, .aload_n 1, 1), (31, .aload_n 2, 1), (32, .invokevirtual 95, 3), (35, .aload_n 0, 1), (36, .invokevirtual 98, 3), (39, .ifCond .ne 5, 3), (42, .iload_n 3, 1), (43, .ireturn, 1), (44, .iinc 3 1, 3), (47, .goto (-24), 3), (50, .aload_n 0, 1), (51, .aload_n 1, 1), (52, .aload_n 2, 1), (53, .invokevirtual 95, 3), (56, .aload_n 0, 1), (57, .invokevirtual 98, 3), (60, .pop, 1), (61, .bipush 99, 2), (63, .ireturn, 1)]
def ec_16 : List eI := [(0, .aload_n 0, 1), (1, .getfield 21, 3), (4, .iconst (-1), 1), (5, .invokestatic 34, 3), (8, .aload_n 0, 1), (9, .getfield 24, 3), (12, .iconst (-1), 1), (13, .invokestatic 34, 3), (16, .iconst 0, 1), (17, .istore_n 3, 1), (18, .iload_n 3, 1), (19, .aload_n 1, 1), (20, .iconst 2, 1), (21, .invokevirtual 55, 3), (24, .if_icmp .ge 74, 3), (27, .aload_n 2, 1), (28, .getfield 61, 3), (31, .iload_n 3, 1), (32, .iaload, 1), (33, .istore 4, 2), (35, .iload 4, 2), (37, .bipush 6, 2), (39, .invokestatic 44, 3), (42, .ifCond .eq 50, 3), (45, .aload_n 2, 1), (46, .iload 4, 2), (48, .invokevirtual 66, 3), (51, .ifCond .eq 41, 3), (54, .aload_n 0, 1), (55, .getfield 21, 3), (58, .iload 4, 2), (60, .iaload, 1), (61, .iconst (-1), 1), (62, .if_icmp .ne 30, 3), (65, .aload_n 2, 1), (66, .getfield 70, 3), (69, .iload_n 3, 1), (70, .invokestatic 73, 3), (73, .ifCond .ne 19, 3), (76, .aload_n 0, 1), (77, .getfield 21, 3), (80, .iload 4, 2), (82, .iload_n 3, 1), (83, .iastore, 1), (84, .aload_n 0, 1), (85, .getfield 24, 3), (88, .iload_n 3, 1), (89, .iload 4, 2), (91, .iastore, 1), (92, .iinc 3 1, 3), (95, .goto (-77), 3), (98, .return_, 1)]
def ec_17 : List eI := [(0, .iconst 0, 1), (1, .istore_n 1, 1), (2, .iconst 0, 1), (3, .istore_n 2, 1), (4, .iload_n 2, 1), (5, .bipush 12, 2), (7, .if_icmp .ge 63, 3), (10, .iconst 0, 1), (11, .istore_n 3, 1), (12, .iconst 0, 1), (13, .istore 4, 2), (15, .iload 4, 2), (17, .bipush 6, 2), (19, .if_icmp .ge 28, 3), (22, .iload_n 3, 1), (23, .aload_n 0, 1), (24, .getfield 18, 3), (27, .iload 4, 2), (29, .iaload, 1), (30, .iload_n 2, 1), (31, .if_icmp .ne 7, 3), (34, .iconst 1, 1), (35, .goto 4, 3), (38, .iconst 0, 1), (39, .iadd, 1), (40, .istore_n 3, 1), (41, .iinc 4 1, 3), (44, .goto (-29), 3), (47, .iload_n 3, 1), (48, .iconst 1, 1), (49, .if_icmp .le 15, 3), (52, .aload_n 0, 1), (53, .getfield 15, 3), (56, .iload_n 2, 1), (57, .dup2, 1), (58, .iaload, 1), (59, .iconst 1, 1), (60, .iadd, 1), (61, .iastore, 1), (62, .iconst 1, 1), (63, .istore_n 1, 1), (64, .iinc 2 1, 3), (67, .goto (-63), 3), (70, .iload_n 1, 1), (71, .ireturn, 1)]
def ec_18 : List eI := [(0, .iconst 0, 1), (1, .istore_n 2, 1), (2, .iload_n 1, 1), (3, .istore_n 3, 1), (4, .iconst 0, 1), (5, .istore 4, 2), (7, .iload 4, 2), (9, .bipush 6, 2), (11, .if_icmp .ge 44, 3), (14, .aload_n 0, 1), (15, .getfield 27, 3), (18, .iload_n 3, 1), (19, .iaload, 1), (20, .bipush 6, 2), (22, .invokestatic 44, 3), (25, .ifCond .eq 30, 3), (28, .iload_n 2, 1), (29, .iload_n 3, 1), (30, .invokestatic 88, 3), (33, .ior, 1), (34, .istore_n 2, 1), (35, .aload_n 0, 1), (36, .getfield 27, 3), (39, .iload_n 3, 1), (40, .iaload, 1), (41, .istore_n 3, 1), (42, .iload_n 3, 1), (43, .iload_n 1, 1), (44, .if_icmp .ne 5, 3), (47, .iload_n 2, 1), (48, .ireturn, 1), (49, .iinc 4 1, 3), (52, .goto (-45), 3), (55, .iconst 0, 1), (56, .ireturn, 1)]
def ec_19 : List eI := [(0, .aload_n 0, 1), (1, .iconst 0, 1), (2, .putfield 30, 3), (5, .aload_n 0, 1), (6, .getfield 9, 3), (9, .iconst (-1), 1), (10, .invokestatic 34, 3), (13, .aload_n 0, 1), (14, .aload_n 1, 1), (15, .aload_n 2, 1), (16, .invokevirtual 40, 3), (19, .iconst 0, 1), (20, .istore_n 3, 1), (21, .iload_n 3, 1), (22, .bipush 6, 2), (24, .if_icmp .ge 73, 3), (27, .iconst 0, 1), (28, .istore 4, 2), (30, .iload 4, 2), (32, .bipush 6, 2), (34, .if_icmp .ge 53, 3), (37, .aload_n 0, 1), (38, .getfield 21, 3), (41, .iload 4, 2), (43, .iaload, 1), (44, .istore 5, 2), (46, .aload_n 0, 1), (47, .getfield 27, 3), (50, .iload 4, 2), (52, .iload 5, 2), (54, .bipush 12, 2), (56, .invokestatic 44, 3), (59, .ifCond .eq 20, 3), (62, .aload_n 0, 1), (63, .getfield 24, 3), (66, .aload_n 0, 1), (67, .aload_n 1, 1), (68, .iload 4, 2), (70, .iload 5, 2), (72, .invokevirtual 48, 3), (75, .iaload, 1), (76, .goto 4, 3), (79, .iconst (-1), 1), (80, .iastore, 1), (81, .iinc 4 1, 3), (84, .goto (-54), 3), (87, .aload_n 0, 1), (88, .invokevirtual 52, 3), (91, .iinc 3 1, 3), (94, .goto (-73), 3), (97, .return_, 1)]
def ec_20 : List eI := [(0, .aload_n 0, 1), (1, .invokespecial 3, 3), (4, .aload_n 0, 1), (5, .bipush 9, 2), (7, .anewarray 11, 3), (10, .putfield 13, 3), (13, .iconst 0, 1), (14, .istore_n 1, 1), (15, .iload_n 1, 1), (16, .bipush 9, 2), (18, .if_icmp .ge 22, 3), (21, .aload_n 0, 1), (22, .getfield 13, 3), (25, .iload_n 1, 1), (26, .new 11, 3), (29, .dup, 1), (30, .invokespecial 17, 3), (33, .aastore, 1), (34, .iinc 1 1, 3), (37, .goto (-22), 3), (40, .return_, 1)]
def ec_21 : List eI := [(0, .aload_n 0, 1), (1, .getfield 22, 3), (4, .bipush 8, 2), (6, .if_icmp .ge 16, 3), (9, .aload_n 0, 1), (10, .dup, 1), (11, .getfield 22, 3), (14, .iconst 1, 1), (15, .iadd, 1), (16, .putfield 22, 3), (19, .goto 18, 3), (22, .aload_n 0, 1), (23, .aload_n 0, 1), (24, .getfield 18, 3), (27, .iconst 1, 1), (28, .iadd, 1), (29, .bipush 9, 2), (31, .invokestatic 25, 3), (34, .putfield 18, 3), (37, .return_, 1)]
def ec_22 : List eI := [(0, .aload_n 0, 1), (1, .iconst 0, 1), (2, .putfield 22, 3), (5, .return_, 1)]
def ec_23 : List eI := [(0, .aload_n 0, 1), (1, .getfield 13, 3), (4, .aload_n 0, 1), (5, .getfield 18, 3), (8, .aload_n 0, 1), (9, .getfield 22, 3), (12, .iadd, 1), (13, .bipush 9, 2), (15, .invokestatic 25, 3), (18, .aaload, 1), (19, .areturn, 1)]
def ec_24 : List eI := [(0, .aload_n 0, 1), (1, .invokevirtual 31, 3), (4, .aload_n 1, 1), (5, .invokevirtual 35, 3), (8, .return_, 1)]
def ec_25 : List eI := [(0, .aload_n 0, 1), (1, .getfield 22, 3), (4, .ifCond .ne 5, 3), (7, .iconst (-1), 1), (8, .ireturn, 1), (9, .aload_n 0, 1), (10, .dup, 1), (11, .getfield 22, 3), (14, .iconst 1, 1), (15, .isub, 1), (16, .putfield 22, 3), (19, .aload_n 1, 1), (20, .aload_n 0, 1), (21, .invokevirtual 31, 3), (24, .invokevirtual 35, 3), (27, .aload_n 0, 1), (28, .getfield 22, 3), (31, .ireturn, 1)]
def ec_26 : List eI := [(0, .aload_n 0, 1), (1, .invokespecial 3, 3), (4, .aload_n 0, 1), (5, .bipush 40, 2), (7, .newarray .int, 2), (9, .putfield 11, 3), (12, .aload_n 0, 1), (13, .bipush 40, 2), (15, .newarray .int, 2), (17, .putfield 15, 3), (20, .aload_n 0, 1), (21, .bipush 21, 2), (23, .newarray .int, 2), (25, .putfield 18, 3), (28, .return_, 1)]
def ec_27 : List eI := [(0, .aload_n 1, 1), (1, .getfield 11, 3), (4, .iconst 0, 1), (5, .aload_n 0, 1), (6, .getfield 11, 3), (9, .iconst 0, 1), (10, .bipush 40, 2), (12, .invokestatic 28, 3), (15, .aload_n 1, 1), (16, .getfield 15, 3), (19, .iconst 0, 1), (20, .aload_n 0, 1), (21, .getfield 15, 3), (24, .iconst 0, 1), (25, .bipush 40, 2), (27, .invokestatic 28, 3), (30, .aload_n 0, 1), (31, .aload_n 1, 1), (32, .getfield 21, 3), (35, .putfield 21, 3), (38, .aload_n 0, 1), (39, .aload_n 1, 1), (40, .getfield 25, 3), (43, .putfield 25, 3), (46, .return_, 1)]
def ec_28 : List eI := [(0, .aload_n 0, 1), (1, .iconst 0, 1), (2, .putfield 21, 3), (5, .aload_n 0, 1), (6, .iconst 0, 1), (7, .putfield 25, 3), (10, .return_, 1)]
def ec_29 : List eI := [(0, .aload_n 0, 1), (1, .aload_n 1, 1), (2, .aload_n 2, 1), (3, .iload_n 3, 1), (4, .invokevirtual 54, 3), (7, .istore 4, 2), (9, .iconst 0, 1), (10, .istore 5, 2), (12, .iconst 0, 1), (13, .istore 6, 2), (15, .iload 4, 2), (17, .ifCond .eq 93, 3), (20, .iload 6, 2), (22, .bipush 20, 2), (24, .if_icmp .gt 86, 3), (27, .aload_n 1, 1), (28, .invokevirtual 57, 3), (31, .istore 7, 2), (33, .iload 5, 2), (35, .ifCond .eq 20, 3), (38, .iload 7, 2), (40, .bipush 20, 2), (42, .if_icmp .eq 13, 3), (45, .aload_n 0, 1), (46, .bipush 19, 2), (48, .iconst 0, 1), (49, .invokevirtual 61, 3), (52, .iconst 0, 1), (53, .istore 5, 2), (55, .iload 7, 2), (57, .bipush 20, 2), (59, .if_icmp .eq 12, 3), (62, .iload 7, 2), (64, .bipush 19, 2), (66, .if_icmp .eq 5, 3), (69, .iconst 1, 1), (70, .ireturn, 1), (71, .aload_n 1, 1), (72, .invokevirtual 65, 3), (75, .aload_n 0, 1), (76, .aload_n 1, 1), (77, .aload_n 2, 1), (78, .iload_n 3, 1), (79, .invokevirtual 54, 3), (82, .istore 4, 2), (84, .iload 7, 2), (86, .bipush 20, 2), (88, .if_icmp .ne 13, 3), (91, .aload_n 0, 1), (92, .bipush 20, 2), (94, .iconst 0, 1), (95, .invokevirtual 61, 3), (98, .goto 6, 3), (101, .iconst 1, 1), (102, .istore 5, 2), (104, .iinc 6 1, 3), (107, .goto (-92), 3), (110, .iconst 0, 1), (111, .ireturn, 1)]
def ec_30 : List eI := [(0, .aload_n 1, 1), (1, .bipush 40, 2), (3, .invokevirtual 68, 3), (6, .istore 4, 2), (8, .aload_n 1, 1), (9, .invokevirtual 57, 3), (12, .istore 5, 2), (14, .iload 4, 2), (16, .ifCond .ne 23, 3), (19, .iload 5, 2), (21, .bipush 21, 2), (23, .if_icmp .lt 10, 3), (26, .iload 5, 2), (28, .bipush 29, 2), (30, .if_icmp .le 9, 3), (33, .aload_n 1, 1), (34, .iconst 1, 1), (35, .invokevirtual 50, 3), (38, .ireturn, 1), (39, .aload_n 0, 1), (40, .getfield 25, 3), (43, .bipush 20, 2), (45, .if_icmp .ge 9, 3), (48, .iload_n 3, 1), (49, .bipush 8, 2), (51, .if_icmp .le 9, 3), (54, .aload_n 1, 1), (55, .iconst 4, 1), (56, .invokevirtual 50, 3), (59, .ireturn, 1), (60, .aload_n 0, 1), (61, .dup, 1), (62, .getfield 25, 3), (65, .iconst 1, 1), (66, .iadd, 1), (67, .putfield 25, 3), (70, .aload_n 1, 1), (71, .invokevirtual 65, 3), (74, .iload 4, 2), (76, .ifCond .eq 30, 3), (79, .aload_n 0, 1), (80, .aload_n 1, 1), (81, .aload_n 2, 1), (82, .iload_n 3, 1), (83, .iconst 1, 1), (84, .iadd, 1), (85, .invokevirtual 43, 3), (88, .ifCond .eq 16, 3), (91, .aload_n 1, 1), (92, .bipush 41, 2), (94, .invokevirtual 71, 3), (97, .ifCond .eq 7, 3), (100, .iconst 1, 1), (101, .goto 4, 3), (104, .iconst 0, 1), (105, .ireturn, 1), (106, .iload 5, 2), (108, .tableswitch 94 21 25 #[36, 57, 57, 66, 80], 36), (144, .aload_n 0, 1), (145, .aload_n 1, 1), (146, .aload_n 2, 1), (147, .iload_n 3, 1), (148, .iconst 1, 1), (149, .iadd, 1), (150, .invokevirtual 54, 3), (153, .istore 6, 2), (155, .aload_n 0, 1), (156, .bipush 21, 2), (158, .iconst 0, 1), (159, .invokevirtual 61, 3), (162, .iload 6, 2), (164, .ireturn, 1), (165, .aload_n 0, 1), (166, .iload 5, 2), (168, .iconst 0, 1), (169, .invokevirtual 61, 3), (172, .iconst 1, 1), (173, .ireturn, 1), (174, .aload_n 0, 1), (175, .aload_n 1, 1), (176, .iload 5, 2), (178, .aload_n 1, 1), (179, .aload_n 2, 1), (180, .iconst 1, 1), (181, .invokevirtual 74, 3), (184, .invokevirtual 78, 3), (187, .ireturn, 1), (188, .aload_n 0, 1), (189, .aload_n 1, 1), (190, .iload 5, 2), (192, .aload_n 1, 1), (193, .aload_n 2, 1), (194, .iconst 0, 1), (195, .invokevirtual 74, 3), (198, .invokevirtual 78, 3), (201, .ireturn, 1), (202, .aload_n 0, 1), (203, .aload_n 1, 1), (204, .iload 5, 2), (206, .invokevirtual 82, 3), (209, .ireturn, 1)]
def ec_31 : List eI := [(0, .aload_n 0, 1), (1, .invokevirtual 34, 3), (4, .aload_n 1, 1), (5, .sipush 200, 3), (8, .invokevirtual 37, 3), (11, .aload_n 0, 1), (12, .aload_n 1, 1), (13, .aload_n 2, 1), (14, .iconst 1, 1), (15, .invokevirtual 43, 3), (18, .ifCond .ne 5, 3), (21, .iconst 0, 1), (22, .ireturn, 1), (23, .aload_n 1, 1), (24, .getfield 47, 3), (27, .ifCond .eq 11, 3), (30, .aload_n 1, 1), (31, .iconst 1, 1), (32, .invokevirtual 50, 3), (35, .ifCond .eq 7, 3), (38, .iconst 1, 1), (39, .goto 4, 3), (42, .iconst 0, 1), (43, .ireturn, 1)]
def ec_32 : List eI := [(0, .aload_n 0, 1), (1, .invokespecial 3, 3), (4, .aload_n 0, 1), (5, .sipush 940, 3), (8, .newarray .byte, 2), (10, .putfield 9, 3), (13, .aload_n 0, 1), (14, .bipush 30, 2), (16, .newarray .long, 2), (18, .putfield 15, 3), (21, .iconst 0, 1), (22, .istore_n 1, 1), (23, .iload_n 1, 1), (24, .bipush 30, 2), (26, .if_icmp .ge 19, 3), (29, .aload_n 0, 1), (30, .getfield 15, 3), (33, .iload_n 1, 1), (34, .iload_n 1, 1), (35, .invokestatic 19, 3), (38, .lastore, 1), (39, .iinc 1 1, 3), (42, .goto (-19), 3), (45, .return_, 1)]
def ec_33 : List eI := [(0, .aload_n 0, 1), (1, .getfield 45, 3), (4, .aload_n 0, 1), (5, .getfield 48, 3), (8, .invokestatic 63, 3), (11, .istore_n 1, 1), (12, .aload_n 0, 1), (13, .getfield 51, 3), (16, .iload_n 1, 1), (17, .if_icmp .ge 30, 3), (20, .aload_n 0, 1), (21, .aload_n 0, 1), (22, .getfield 51, 3), (25, .invokevirtual 69, 3), (28, .invokestatic 73, 3), (31, .ifCond .eq 16, 3), (34, .aload_n 0, 1), (35, .dup, 1), (36, .getfield 51, 3), (39, .iconst 1, 1), (40, .iadd, 1), (41, .putfield 51, 3), (44, .goto (-32), 3), (47, .aload_n 0, 1), (48, .iconst (-1), 1), (49, .putfield 77, 3), (52, .aload_n 0, 1), (53, .getfield 51, 3), (56, .iload_n 1, 1), (57, .if_icmp .lt 29, 3), (60, .aload_n 0, 1), (61, .iload_n 1, 1), (62, .putfield 80, 3), (65, .aload_n 0, 1), (66, .aload_n 0, 1), (67, .getfield 45, 3), (70, .aload_n 0, 1), (71, .getfield 48, 3), (74, .if_icmp .le 7, 3), (77, .iconst 1, 1), (78, .goto 4, 3), (81, .iconst 0, 1), (82, .putfield 83, 3), (85, .return_, 1), (86, .aload_n 0, 1), (87, .aload_n 0, 1), (88, .getfield 51, 3), (91, .putfield 80, 3), (94, .aload_n 0, 1), (95, .aload_n 0, 1), (96, .getfield 51, 3), (99, .invokevirtual 69, 3), (102, .invokestatic 86, 3), (105, .ifCond .eq 10, 3), (108, .aload_n 0, 1), (109, .invokevirtual 89, 3), (112, .goto 15, 3), (115, .aload_n 0, 1), (116, .aload_n 0, 1), (117, .aload_n 0, 1), (118, .getfield 51, 3), (121, .invokevirtual 69, 3), (124, .invokevirtual 92, 3), (127, .return_, 1)]
def ec_34 : List eI := [(0, .bipush 24, 2), (2, .istore_n 2, 1), (3, .iload_n 2, 1), (4, .ifCond .lt 44, 3), (7, .aload_n 0, 1), (8, .getfield 45, 3), (11, .aload_n 0, 1), (12, .getfield 9, 3), (15, .arraylength, 1), (16, .if_icmp .ge 26, 3), (19, .aload_n 0, 1), (20, .getfield 9, 3), (23, .aload_n 0, 1), (24, .getfield 45, 3), (27, .iload_n 1, 1), (28, .iload_n 2, 1), (29, .ishr, 1), (30, .i2b, 1), (31, .bastore, 1), (32, .aload_n 0, 1), (33, .dup, 1), (34, .getfield 45, 3), (37, .iconst 1, 1), (38, .iadd, 1), (39, .putfield 45, 3), (42, .iinc 2 (-8), 3), (45, .goto (-42), 3), (48, .return_, 1)]
def ec_35 : List eI := [(0, .aload_n 0, 1), (1, .iload_n 1, 1), (2, .putfield 48, 3), (5, .aload_n 0, 1), (6, .iconst 0, 1), (7, .putfield 51, 3), (10, .aload_n 0, 1), (11, .iconst 0, 1), (12, .putfield 54, 3), (15, .aload_n 0, 1), (16, .iconst 0, 1), (17, .putfield 57, 3), (20, .aload_n 0, 1), (21, .invokevirtual 60, 3), (24, .return_, 1)]
def ec_36 : List eI := [(0, .aload_n 0, 1), (1, .iload_n 1, 1), (2, .putfield 54, 3), (5, .aload_n 0, 1), (6, .aload_n 0, 1), (7, .getfield 80, 3), (10, .putfield 57, 3), (13, .iconst 0, 1), (14, .ireturn, 1)]
def ec_37 : List eI := [(0, .aload_n 0, 1), (1, .getfield 83, 3), (4, .iconst 5, 1), (5, .if_icmp .ne 15, 3), (8, .aload_n 0, 1), (9, .getfield 77, 3), (12, .iload_n 1, 1), (13, .if_icmp .ne 7, 3), (16, .iconst 1, 1), (17, .goto 4, 3), (20, .iconst 0, 1), (21, .ireturn, 1)]
def ec_38 : List eI := [(0, .aload_n 0, 1), (1, .getfield 83, 3), (4, .iconst 2, 1), (5, .if_icmp .ne 10, 3), (8, .aload_n 0, 1), (9, .getfield 77, 3), (12, .goto 4, 3), (15, .iconst (-1), 1), (16, .ireturn, 1)]
def ec_39 : List eI := [(0, .aload_n 0, 1), (1, .invokespecial 3, 3), (4, .aload_n 0, 1), (5, .iconst 3, 1), (6, .newarray .int, 2), (8, .putfield 9, 3), (11, .aload_n 0, 1), (12, .bipush 6, 2), (14, .newarray .long, 2), (16, .putfield 15, 3), (19, .aload_n 0, 1), (20, .bipush 6, 2), (22, .newarray .long, 2), (24, .putfield 19, 3), (27, .aload_n 0, 1), (28, .bipush 12, 2), (30, .newarray .long, 2), (32, .putfield 22, 3), (35, .aload_n 0, 1), (36, .bipush 12, 2), (38, .newarray .int, 2), (40, .putfield 25, 3), (43, .aload_n 0, 1), (44, .bipush 20, 2), (46, .newarray .int, 2), (48, .putfield 28, 3), (51, .aload_n 0, 1), (52, .bipush 20, 2), (54, .newarray .int, 2), (56, .putfield 31, 3), (59, .aload_n 0, 1), (60, .bipush 72, 2), (62, .newarray .int, 2), (64, .putfield 34, 3), (67, .return_, 1)]
def ec_40 : List eI := [(0, .aload_n 0, 1), (1, .iconst 2, 1), (2, .invokevirtual 64, 3), (5, .invokestatic 82, 3), (8, .iconst 1, 1), (9, .isub, 1), (10, .ireturn, 1)]
def ec_41 : List eI := [(0, .iconst 0, 1), (1, .istore_n 3, 1), (2, .iconst 0, 1), (3, .istore 4, 2), (5, .iload 4, 2), (7, .aload_n 0, 1), (8, .getfield 43, 3), (11, .if_icmp .ge 80, 3), (14, .iload_n 2, 1), (15, .iload 4, 2), (17, .invokestatic 88, 3), (20, .ifCond .ne 65, 3), (23, .iload_n 3, 1), (24, .iload_n 1, 1), (25, .aload_n 0, 1), (26, .getfield 28, 3), (29, .iload 4, 2), (31, .iaload, 1), (32, .invokestatic 88, 3), (35, .ifCond .eq 16, 3), (38, .aload_n 0, 1), (39, .getfield 31, 3), (42, .iload 4, 2), (44, .iaload, 1), (45, .invokestatic 82, 3), (48, .goto 4, 3), (51, .iconst 0, 1), (52, .ior, 1), (53, .istore_n 3, 1), (54, .iload_n 3, 1), (55, .iload_n 1, 1), (56, .aload_n 0, 1), (57, .getfield 31, 3), (60, .iload 4, 2), (62, .iaload, 1), (63, .invokestatic 88, 3), (66, .ifCond .eq 16, 3), (69, .aload_n 0, 1), (70, .getfield 28, 3), (73, .iload 4, 2), (75, .iaload, 1), (76, .invokestatic 82, 3), (79, .goto 4, 3), (82, .iconst 0, 1), (83, .ior, 1), (84, .istore_n 3, 1), (85, .iinc 4 1, 3), (88, .goto (-83), 3), (91, .iload_n 3, 1), (92, .ireturn, 1)]
def ec_42 : List eI := [(0, .aload_n 1, 1), (1, .getfield 9, 3), (4, .iconst 0, 1), (5, .aload_n 0, 1), (6, .getfield 9, 3), (9, .iconst 0, 1), (10, .iconst 3, 1), (11, .invokestatic 50, 3), (14, .aload_n 1, 1), (15, .getfield 15, 3), (18, .iconst 0, 1), (19, .aload_n 0, 1), (20, .getfield 15, 3), (23, .iconst 0, 1), (24, .bipush 6, 2), (26, .invokestatic 50, 3), (29, .aload_n 1, 1), (30, .getfield 19, 3), (33, .iconst 0, 1), (34, .aload_n 0, 1), (35, .getfield 19, 3), (38, .iconst 0, 1), (39, .bipush 6, 2), (41, .invokestatic 50, 3), (44, .aload_n 1, 1), (45, .getfield 22, 3), (48, .iconst 0, 1), (49, .aload_n 0, 1), (50, .getfield 22, 3), (53, .iconst 0, 1), (54, .bipush 12, 2), (56, .invokestatic 50, 3), (59, .aload_n 1, 1), (60, .getfield 25, 3), (63, .iconst 0, 1), (64, .aload_n 0, 1), (65, .getfield 25, 3), (68, .iconst 0, 1), (69, .bipush 12, 2), (71, .invokestatic 50, 3), (74, .aload_n 1, 1), (75, .getfield 28, 3), (78, .iconst 0, 1), (79, .aload_n 0, 1), (80, .getfield 28, 3), (83, .iconst 0, 1), (84, .bipush 20, 2), (86, .invokestatic 50, 3), (89, .aload_n 1, 1), (90, .getfield 31, 3), (93, .iconst 0, 1), (94, .aload_n 0, 1), (95, .getfield 31, 3), (98, .iconst 0, 1), (99, .bipush 20, 2), (101, .invokestatic 50, 3), (104, .aload_n 1, 1), (105, .getfield 34, 3), (108, .iconst 0, 1), (109, .aload_n 0, 1), (110, .getfield 34, 3), (113, .iconst 0, 1), (114, .bipush 72, 2), (116, .invokestatic 50, 3), (119, .aload_n 0, 1), (120, .aload_n 1, 1), (121, .getfield 43, 3), (124, .putfield 43, 3), (127, .aload_n 0, 1), (128, .aload_n 1, 1), (129, .getfield 47, 3), (132, .putfield 47, 3), (135, .return_, 1)]
def ec_43 : List eI := [(0, .aload_n 0, 1), (1, .getfield 9, 3), (4, .iconst 0, 1), (5, .invokestatic 37, 3), (8, .aload_n 0, 1), (9, .getfield 34, 3), (12, .iconst 0, 1), (13, .invokestatic 37, 3), (16, .aload_n 0, 1), (17, .iconst 0, 1), (18, .putfield 43, 3), (21, .aload_n 0, 1), (22, .iconst 0, 1), (23, .putfield 47, 3), (26, .return_, 1)]
def ec_44 : List eI := [(0, .iload_n 1, 1), (1, .iconst 3, 1), (2, .invokestatic 56, 3), (5, .ifCond .eq 12, 3), (8, .aload_n 0, 1), (9, .getfield 9, 3), (12, .iload_n 1, 1), (13, .iaload, 1), (14, .goto 4, 3), (17, .iconst 0, 1), (18, .ireturn, 1)]
def ec_45 : List eI := [(0, .aload_n 0, 1), (1, .invokespecial 3, 3), (4, .aload_n 0, 1), (5, .new 9, 3), (8, .dup, 1), (9, .invokespecial 11, 3), (12, .putfield 12, 3), (15, .aload_n 0, 1), (16, .new 18, 3), (19, .dup, 1), (20, .invokespecial 20, 3), (23, .putfield 21, 3), (26, .return_, 1)]
def ec_46 : List eI := [(0, .aload_n 0, 1), (1, .getfield 12, 3), (4, .invokevirtual 25, 3), (7, .aload_n 0, 1), (8, .getfield 21, 3), (11, .invokevirtual 28, 3), (14, .aload_n 1, 1), (15, .sipush 900, 3), (18, .invokevirtual 29, 3), (21, .iconst 0, 1), (22, .istore_n 2, 1), (23, .iload_n 2, 1), (24, .sipush 900, 3), (27, .if_icmp .gt 37, 3), (30, .aload_n 1, 1), (31, .getfield 35, 3), (34, .ifCond .ne 5, 3), (37, .iload_n 2, 1), (38, .ireturn, 1), (39, .aload_n 0, 1), (40, .aload_n 1, 1), (41, .invokevirtual 39, 3), (44, .ifCond .eq 12, 3), (47, .aload_n 1, 1), (48, .bipush 59, 2), (50, .invokevirtual 43, 3), (53, .ifCond .ne 5, 3), (56, .iconst (-1), 1), (57, .ireturn, 1), (58, .iinc 2 1, 3), (61, .goto (-38), 3), (64, .iconst (-1), 1), (65, .ireturn, 1)]
def ec_47 : List eI := [(0, .aload_n 0, 1), (1, .invokespecial 3, 3), (4, .aload_n 0, 1), (5, .bipush 12, 2), (7, .newarray .int, 2), (9, .putfield 9, 3), (12, .aload_n 0, 1), (13, .bipush 13, 2), (15, .newarray .int, 2), (17, .putfield 15, 3), (20, .aload_n 0, 1), (21, .bipush 12, 2), (23, .newarray .int, 2), (25, .putfield 18, 3), (28, .aload_n 0, 1), (29, .bipush 12, 2), (31, .newarray .int, 2), (33, .putfield 21, 3), (36, .aload_n 0, 1), (37, .iconst (-1), 1), (38, .putfield 24, 3), (41, .return_, 1)]
def ec_48 : List eI := [(0, .aload_n 0, 1), (1, .invokespecial 1, 3), (4, .aload_n 0, 1), (5, .new 7, 3), (8, .dup, 1), (9, .invokespecial 9, 3), (12, .putfield 10, 3), (15, .aload_n 0, 1), (16, .new 16, 3), (19, .dup, 1), (20, .invokespecial 18, 3), (23, .putfield 19, 3), (26, .aload_n 0, 1), (27, .new 23, 3), (30, .dup, 1), (31, .invokespecial 25, 3), (34, .putfield 26, 3), (37, .aload_n 0, 1), (38, .new 23, 3), (41, .dup, 1), (42, .invokespecial 25, 3), (45, .putfield 30, 3), (48, .aload_n 0, 1), (49, .new 33, 3), (52, .dup, 1), (53, .invokespecial 35, 3), (56, .putfield 36, 3), (59, .aload_n 0, 1), (60, .new 40, 3), (63, .dup, 1), (64, .invokespecial 42, 3), (67, .putfield 43, 3), (70, .aload_n 0, 1), (71, .new 40, 3), (74, .dup, 1), (75, .invokespecial 42, 3), (78, .putfield 47, 3), (81, .aload_n 0, 1), (82, .new 50, 3), (85, .dup, 1), (86, .invokespecial 52, 3), (89, .putfield 53, 3), (92, .aload_n 0, 1), (93, .new 57, 3), (96, .dup, 1), (97, .invokespecial 59, 3), (100, .putfield 60, 3), (103, .aload_n 0, 1), (104, .new 64, 3), (107, .dup, 1), (108, .invokespecial 66, 3), (111, .putfield 67, 3), (114, .aload_n 0, 1), (115, .new 71, 3), (118, .dup, 1), (119, .invokespecial 73, 3), (122, .putfield 74, 3), (125, .aload_n 0, 1), (126, .new 78, 3), (129, .dup, 1), (130, .invokespecial 80, 3), (133, .putfield 81, 3), (136, .aload_n 0, 1), (137, .new 85, 3), (140, .dup, 1), (141, .invokespecial 87, 3), (144, .putfield 88, 3), (147, .aload_n 0, 1), (148, .iconst 2, 1), (149, .anewarray 16, 3), (152, .putfield 92, 3), (155, .aload_n 0, 1), (156, .iconst 2, 1), (157, .anewarray 23, 3), (160, .putfield 96, 3), (163, .aload_n 0, 1), (164, .iconst 2, 1), (165, .anewarray 40, 3), (168, .putfield 100, 3), (171, .iconst 0, 1), (172, .istore_n 1, 1), (173, .iload_n 1, 1), (174, .iconst 2, 1), (175, .if_icmp .ge 48, 3), (178, .aload_n 0, 1), (179, .getfield 92, 3), (182, .iload_n 1, 1), (183, .new 16, 3), (186, .dup, 1), (187, .invokespecial 18, 3), (190, .aastore, 1), (191, .aload_n 0, 1), (192, .getfield 96, 3), (195, .iload_n 1, 1), (196, .new 23, 3), (199, .dup, 1), (200, .invokespecial 25, 3), (203, .aastore, 1), (204, .aload_n 0, 1), (205, .getfield 100, 3), (208, .iload_n 1, 1), (209, .new 40, 3), (212, .dup, 1), (213, .invokespecial 42, 3), (216, .aastore, 1), (217, .iinc 1 1, 3), (220, .goto (-47), 3), (223, .return_, 1)]
def ec_49 : List eI := [(0, .aload_n 0, 1), (1, .iload_n 1, 1), (2, .invokevirtual 171, 3), (5, .ifCond .eq 20, 3), (8, .aload_n 0, 1), (9, .iload_n 2, 1), (10, .invokevirtual 171, 3), (13, .ifCond .eq 12, 3), (16, .iload_n 1, 1), (17, .iload_n 2, 1), (18, .if_icmp .eq 7, 3), (21, .iconst 1, 1), (22, .goto 4, 3), (25, .iconst 0, 1), (26, .ireturn, 1)]
def ec_50 : List eI := [(0, .aload_n 0, 1), (1, .getfield 67, 3), (4, .getfield 306, 3), (7, .ireturn, 1)]
def ec_51 : List eI := [(0, .aload_n 0, 1), (1, .iload_n 1, 1), (2, .invokevirtual 171, 3), (5, .ifCond .eq 31, 3), (8, .aload_n 0, 1), (9, .iload_n 2, 1), (10, .invokevirtual 139, 3), (13, .ifCond .eq 23, 3), (16, .aload_n 0, 1), (17, .getfield 67, 3), (20, .aload_n 0, 1), (21, .getfield 19, 3), (24, .aload_n 0, 1), (25, .getfield 26, 3), (28, .iload_n 1, 1), (29, .iload_n 2, 1), (30, .invokevirtual 303, 3), (33, .goto 4, 3), (36, .iconst (-1), 1), (37, .ireturn, 1)]
def ec_52 : List eI := [(0, .aload_n 0, 1), (1, .iload_n 1, 1), (2, .invokevirtual 171, 3), (5, .ifCond .eq 33, 3), (8, .aload_n 0, 1), (9, .getfield 19, 3), (12, .invokevirtual 183, 3), (15, .aload_n 0, 1), (16, .getfield 67, 3), (19, .aload_n 0, 1), (20, .getfield 19, 3), (23, .aload_n 0, 1), (24, .getfield 26, 3), (27, .iload_n 1, 1), (28, .iconst 0, 1), (29, .invokevirtual 300, 3), (32, .iconst (-1), 1), (33, .ixor, 1), (34, .iand, 1), (35, .goto 4, 3), (38, .iconst (-1), 1), (39, .ireturn, 1)]
def ec_53 : List eI := [(0, .iconst 1, 1), (1, .iload_n 0, 1), (2, .ishl, 1), (3, .ireturn, 1)]
def ec_54 : List eI := [(0, .iload_n 1, 1), (1, .invokestatic 254, 3), (4, .ifCond .ne 7, 3), (7, .sipush (-1000), 3), (10, .ireturn, 1), (11, .aload_n 0, 1), (12, .getfield 60, 3), (15, .aload_n 0, 1), (16, .getfield 10, 3), (19, .aload_n 0, 1), (20, .getfield 19, 3), (23, .invokevirtual 387, 3), (26, .istore_n 2, 1), (27, .aload_n 0, 1), (28, .getfield 10, 3), (31, .iconst 0, 1), (32, .putfield 104, 3), (35, .iload_n 2, 1), (36, .ifCond .ne 14, 3), (39, .bipush (-2), 2), (41, .aload_n 0, 1), (42, .getfield 10, 3), (45, .getfield 116, 3), (48, .isub, 1), (49, .ireturn, 1), (50, .iload_n 1, 1), (51, .ifCond .ne 30, 3), (54, .aload_n 0, 1), (55, .getfield 30, 3), (58, .aload_n 0, 1), (59, .getfield 26, 3), (62, .invokevirtual 129, 3), (65, .aload_n 0, 1), (66, .getfield 60, 3), (69, .aload_n 0, 1), (70, .getfield 19, 3), (73, .aload_n 0, 1), (74, .getfield 30, 3), (77, .invokevirtual 390, 3), (80, .ireturn, 1), (81, .aload_n 0, 1), (82, .getfield 36, 3), (85, .aload_n 0, 1), (86, .getfield 26, 3), (89, .invokevirtual 234, 3), (92, .aload_n 0, 1), (93, .getfield 36, 3), (96, .invokevirtual 244, 3), (99, .aload_n 0, 1), (100, .getfield 60, 3), (103, .aload_n 0, 1), (104, .getfield 19, 3), (107, .aload_n 0, 1), (108, .getfield 26, 3), (111, .invokevirtual 390, 3), (114, .ireturn, 1)]
def ec_55 : List eI := [(0, .aload_n 0, 1), (1, .getfield 60, 3), (4, .getfield 393, 3), (7, .ifCond .ne 5, 3), (10, .iconst (-1), 1), (11, .ireturn, 1), (12, .iload_n 1, 1), (13, .tableswitch 63 0 3 #[31, 39, 47, 55], 31), (44, .aload_n 0, 1), (45, .getfield 60, 3), (48, .getfield 396, 3), (51, .ireturn, 1), (52, .aload_n 0, 1), (53, .getfield 60, 3), (56, .getfield 399, 3), (59, .ireturn, 1), (60, .aload_n 0, 1), (61, .getfield 60, 3), (64, .getfield 402, 3), (67, .ireturn, 1), (68, .aload_n 0, 1), (69, .getfield 60, 3), (72, .getfield 405, 3), (75, .ireturn, 1), (76, .iconst (-1), 1), (77, .ireturn, 1)]
def ec_56 : List eI := [(0, .aload_n 0, 1), (1, .iload_n 1, 1), (2, .invokevirtual 139, 3), (5, .ifCond .ne 5, 3), (8, .iconst (-1), 1), (9, .ireturn, 1), (10, .aload_n 0, 1), (11, .getfield 36, 3), (14, .aload_n 0, 1), (15, .getfield 26, 3), (18, .invokevirtual 234, 3), (21, .aload_n 0, 1), (22, .aload_n 0, 1), (23, .getfield 26, 3), (26, .iload_n 1, 1), (27, .invokevirtual 270, 3), (30, .invokevirtual 241, 3), (33, .ireturn, 1)]
def ec_57 : List eI := [(0, .aload_n 0, 1), (1, .getfield 10, 3), (4, .getfield 104, 3), (7, .iconst 1, 1), (8, .if_icmp .lt 19, 3), (11, .aload_n 0, 1), (12, .getfield 10, 3), (15, .getfield 104, 3), (18, .bipush 6, 2), (20, .if_icmp .gt 7, 3), (23, .iconst 1, 1), (24, .goto 4, 3), (27, .iconst 0, 1), (28, .istore_n 2, 1), (29, .iload_n 2, 1), (30, .ifCond .eq 19, 3), (33, .aload_n 0, 1), (34, .iload_n 1, 1), (35, .invokevirtual 171, 3), (38, .ifCond .eq 11, 3), (41, .aload_n 0, 1), (42, .iload_n 1, 1), (43, .invokevirtual 369, 3), (46, .goto 4, 3), (49, .iconst (-1), 1), (50, .istore_n 3, 1), (51, .aload_n 0, 1), (52, .getfield 10, 3), (55, .iconst 0, 1), (56, .putfield 104, 3), (59, .iload_n 3, 1), (60, .ireturn, 1)]
def ec_58 : List eI := [(0, .iload_n 1, 1), (1, .tableswitch 93 0 5 #[39, 48, 57, 66, 74, 85], 39), (40, .aload_n 0, 1), (41, .getfield 19, 3), (44, .iconst 0, 1), (45, .invokevirtual 223, 3), (48, .ireturn, 1), (49, .aload_n 0, 1), (50, .getfield 19, 3), (53, .iconst 1, 1), (54, .invokevirtual 223, 3), (57, .ireturn, 1), (58, .aload_n 0, 1), (59, .getfield 19, 3), (62, .iconst 2, 1), (63, .invokevirtual 223, 3), (66, .ireturn, 1), (67, .aload_n 0, 1), (68, .getfield 19, 3), (71, .getfield 226, 3), (74, .ireturn, 1), (75, .aload_n 0, 1), (76, .getfield 19, 3), (79, .getfield 205, 3), (82, .invokestatic 229, 3), (85, .ireturn, 1), (86, .aload_n 0, 1), (87, .getfield 10, 3), (90, .getfield 104, 3), (93, .ireturn, 1), (94, .iconst (-1), 1), (95, .ireturn, 1)]
def ec_59 : List eI := [(0, .aload_n 0, 1), (1, .iload_n 1, 1), (2, .invokevirtual 139, 3), (5, .ifCond .eq 22, 3), (8, .aload_n 0, 1), (9, .getfield 74, 3), (12, .aload_n 0, 1), (13, .getfield 19, 3), (16, .aload_n 0, 1), (17, .getfield 26, 3), (20, .iload_n 1, 1), (21, .invokevirtual 342, 3), (24, .goto 4, 3), (27, .iconst (-1), 1), (28, .ireturn, 1)]
def ec_60 : List eI := [(0, .aload_n 0, 1), (1, .iload_n 1, 1), (2, .invokevirtual 171, 3), (5, .ifCond .ne 5, 3), (8, .iconst (-1), 1), (9, .ireturn, 1), (10, .aload_n 0, 1), (11, .getfield 36, 3), (14, .aload_n 0, 1), (15, .getfield 26, 3), (18, .invokevirtual 234, 3), (21, .aload_n 0, 1), (22, .aload_n 0, 1), (23, .getfield 26, 3), (26, .iload_n 1, 1), (27, .invokevirtual 264, 3), (30, .invokevirtual 241, 3), (33, .ireturn, 1)]
def ec_61 : List eI := [(0, .iload_n 1, 1), (1, .iconst 1, 1), (2, .if_icmp .lt 24, 3), (5, .iload_n 1, 1), (6, .bipush 60, 2), (8, .if_icmp .gt 18, 3), (11, .aload_n 0, 1), (12, .getfield 19, 3), (15, .iconst 2, 1), (16, .invokevirtual 223, 3), (19, .ifCond .le 7, 3), (22, .iconst 1, 1), (23, .goto 4, 3), (26, .iconst 0, 1), (27, .istore_n 3, 1), (28, .iload_n 3, 1), (29, .ifCond .eq 18, 3), (32, .aload_n 0, 1), (33, .getfield 26, 3), (36, .getfield 211, 3), (39, .iload_n 1, 1), (40, .iadd, 1), (41, .sipush 999, 3), (44, .if_icmp .le 5, 3), (47, .iconst (-1), 1), (48, .ireturn, 1), (49, .aload_n 0, 1), (50, .getfield 36, 3), (53, .aload_n 0, 1), (54, .getfield 26, 3), (57, .invokevirtual 234, 3), (60, .aload_n 0, 1), (61, .getfield 88, 3), (64, .aload_n 0, 1), (65, .getfield 19, 3), (68, .aload_n 0, 1), (69, .getfield 26, 3), (72, .iload_n 1, 1), (73, .iload_n 2, 1), (74, .invokevirtual 281, 3), (77, .aload_n 0, 1), (78, .getfield 36, 3), (81, .invokevirtual 244, 3), (84, .aload_n 0, 1), (85, .getfield 26, 3), (88, .getfield 211, 3), (91, .ireturn, 1)]
def ec_62 : List eI := [(0, .iload_n 1, 1), (1, .ifCond .lt 14, 3), (4, .iload_n 1, 1), (5, .aload_n 0, 1), (6, .getfield 10, 3), (9, .getfield 104, 3), (12, .if_icmp .le 5, 3), (15, .iconst 0, 1), (16, .ireturn, 1), (17, .aload_n 0, 1), (18, .getfield 10, 3), (21, .iload_n 1, 1), (22, .putfield 104, 3), (25, .iconst 1, 1), (26, .ireturn, 1)]
def ec_63 : List eI := [(0, .aload_n 0, 1), (1, .iload_n 1, 1), (2, .invokevirtual 171, 3), (5, .ifCond .ne 5, 3), (8, .iconst (-1), 1), (9, .ireturn, 1), (10, .aload_n 0, 1), (11, .getfield 81, 3), (14, .aload_n 0, 1), (15, .getfield 19, 3), (18, .aload_n 0, 1), (19, .getfield 26, 3), (22, .invokevirtual 345, 3), (25, .aload_n 0, 1), (26, .getfield 81, 3), (29, .getfield 349, 3), (32, .iload_n 1, 1), (33, .iaload, 1), (34, .ireturn, 1)]
def ec_64 : List eI := [(0, .aload_n 0, 1), (1, .getfield 10, 3), (4, .getfield 136, 3), (7, .ireturn, 1)]
def ec_65 : List eI := [(0, .aload_n 0, 1), (1, .getfield 10, 3), (4, .getfield 104, 3), (7, .bipush 20, 2), (9, .iadd, 1), (10, .sipush 940, 3), (13, .if_icmp .le 5, 3), (16, .iconst (-1), 1), (17, .ireturn, 1), (18, .aload_n 0, 1), (19, .getfield 10, 3), (22, .iload_n 1, 1), (23, .invokevirtual 108, 3), (26, .aload_n 0, 1), (27, .getfield 10, 3), (30, .iload_n 2, 1), (31, .invokevirtual 108, 3), (34, .aload_n 0, 1), (35, .getfield 10, 3), (38, .iload_n 3, 1), (39, .invokevirtual 108, 3), (42, .aload_n 0, 1), (43, .getfield 10, 3), (46, .iload 4, 2), (48, .invokevirtual 108, 3), (51, .aload_n 0, 1), (52, .getfield 10, 3), (55, .iload 5, 2), (57, .invokevirtual 108, 3), (60, .aload_n 0, 1), (61, .getfield 10, 3), (64, .getfield 104, 3), (67, .ireturn, 1)]
def ec_66 : List eI := [(0, .aload_n 0, 1), (1, .iload_n 1, 1), (2, .invokevirtual 139, 3), (5, .ifCond .eq 22, 3), (8, .aload_n 0, 1), (9, .getfield 74, 3), (12, .aload_n 0, 1), (13, .getfield 19, 3), (16, .aload_n 0, 1), (17, .getfield 26, 3), (20, .iload_n 1, 1), (21, .invokevirtual 335, 3), (24, .goto 4, 3), (27, .iconst (-1), 1), (28, .ireturn, 1)]
def ec_67 : List eI := [(0, .aload_n 0, 1), (1, .iload_n 1, 1), (2, .invokevirtual 171, 3), (5, .ifCond .eq 11, 3), (8, .aload_n 0, 1), (9, .iload_n 2, 1), (10, .invokevirtual 139, 3), (13, .ifCond .ne 5, 3), (16, .iconst (-1), 1), (17, .ireturn, 1), (18, .aload_n 0, 1), (19, .getfield 36, 3), (22, .aload_n 0, 1), (23, .getfield 26, 3), (26, .invokevirtual 234, 3), (29, .aload_n 0, 1), (30, .aload_n 0, 1), (31, .getfield 26, 3), (34, .aload_n 0, 1), (35, .getfield 19, 3), (38, .iload_n 1, 1), (39, .iload_n 2, 1), (40, .invokevirtual 237, 3), (43, .invokevirtual 241, 3), (46, .ireturn, 1)]
def ec_68 : List eI := [(0, .iload_n 1, 1), (1, .aload_n 0, 1), (2, .getfield 19, 3), (5, .iconst 0, 1), (6, .invokevirtual 223, 3), (9, .invokestatic 294, 3), (12, .ifCond .ne 5, 3), (15, .iconst (-1), 1), (16, .ireturn, 1), (17, .aload_n 0, 1), (18, .iload_n 1, 1), (19, .invokevirtual 375, 3), (22, .istore_n 2, 1), (23, .iconst 0, 1), (24, .istore_n 3, 1), (25, .iconst 0, 1), (26, .istore 4, 2), (28, .iload 4, 2), (30, .aload_n 0, 1), (31, .getfield 19, 3), (34, .iconst 1, 1), (35, .invokevirtual 223, 3), (38, .if_icmp .ge 48, 3), (41, .aload_n 0, 1), (42, .getfield 26, 3), (45, .iload 4, 2), (47, .invokevirtual 177, 3), (50, .ifCond .eq 30, 3), (53, .iload_n 2, 1), (54, .iload 4, 2), (56, .invokestatic 160, 3), (59, .ifCond .ne 21, 3), (62, .aload_n 0, 1), (63, .iload 4, 2), (65, .iload_n 2, 1), (66, .invokevirtual 378, 3), (69, .ifCond .eq 11, 3), (72, .iload_n 3, 1), (73, .iload 4, 2), (75, .invokestatic 326, 3), (78, .ior, 1), (79, .istore_n 3, 1), (80, .iinc 4 1, 3), (83, .goto (-55), 3), (86, .iload_n 3, 1), (87, .ireturn, 1)]
def ec_69 : List eI := [(0, .iload_n 0, 1), (1, .iload_n 1, 1), (2, .ishr, 1), (3, .iconst 1, 1), (4, .iand, 1), (5, .ifCond .eq 7, 3), (8, .iconst 1, 1), (9, .goto 4, 3), (12, .iconst 0, 1), (13, .ireturn, 1)]
def ec_70 : List eI := [(0, .aload_n 0, 1), (1, .iload_n 1, 1), (2, .invokevirtual 171, 3), (5, .ifCond .eq 25, 3), (8, .aload_n 0, 1), (9, .getfield 26, 3), (12, .iload_n 1, 1), (13, .invokevirtual 177, 3), (16, .ifCond .eq 14, 3), (19, .aload_n 0, 1), (20, .getfield 26, 3), (23, .iload_n 1, 1), (24, .invokevirtual 372, 3), (27, .goto 4, 3), (30, .iconst (-1), 1), (31, .ireturn, 1)]
def ec_71 : List eI := [(0, .iload_n 1, 1), (1, .iconst 2, 1), (2, .invokestatic 294, 3), (5, .ifCond .ne 5, 3), (8, .iconst 0, 1), (9, .ireturn, 1), (10, .aload_n 0, 1), (11, .getfield 92, 3), (14, .iload_n 1, 1), (15, .aaload, 1), (16, .aload_n 0, 1), (17, .getfield 19, 3), (20, .invokevirtual 122, 3), (23, .aload_n 0, 1), (24, .getfield 96, 3), (27, .iload_n 1, 1), (28, .aaload, 1), (29, .aload_n 0, 1), (30, .getfield 26, 3), (33, .invokevirtual 129, 3), (36, .aload_n 0, 1), (37, .getfield 100, 3), (40, .iload_n 1, 1), (41, .aaload, 1), (42, .aload_n 0, 1), (43, .getfield 43, 3), (46, .invokevirtual 409, 3), (49, .aload_n 0, 1), (50, .dup, 1), (51, .getfield 418, 3), (54, .iload_n 1, 1), (55, .invokestatic 326, 3), (58, .ior, 1), (59, .putfield 418, 3), (62, .iconst 1, 1), (63, .ireturn, 1)]
def ec_72 : List eI := [(0, .iload_n 0, 1), (1, .ifCond .lt 12, 3), (4, .iload_n 0, 1), (5, .iload_n 1, 1), (6, .if_icmp .ge 7, 3), (9, .iconst 1, 1), (10, .goto 4, 3), (13, .iconst 0, 1), (14, .ireturn, 1)]
def ec_73 : List eI := [(0, .iload_n 1, 1), (1, .aload_n 0, 1), (2, .getfield 19, 3), (5, .iconst 1, 1), (6, .invokevirtual 223, 3), (9, .invokestatic 294, 3), (12, .ireturn, 1)]
def ec_74 : List eI := [(0, .iload_n 1, 1), (1, .aload_n 0, 1), (2, .getfield 19, 3), (5, .getfield 226, 3), (8, .invokestatic 294, 3), (11, .ireturn, 1)]
def ec_75 : List eI := [(0, .iload_n 1, 1), (1, .aload_n 0, 1), (2, .getfield 19, 3), (5, .iconst 2, 1), (6, .invokevirtual 223, 3), (9, .invokestatic 294, 3), (12, .ireturn, 1)]
def ec_76 : List eI := [(0, .aload_n 0, 1), (1, .getfield 10, 3), (4, .getfield 104, 3), (7, .iconst 1, 1), (8, .if_icmp .lt 19, 3), (11, .aload_n 0, 1), (12, .getfield 10, 3), (15, .getfield 104, 3), (18, .bipush 20, 2), (20, .if_icmp .gt 7, 3), (23, .iconst 1, 1), (24, .goto 4, 3), (27, .iconst 0, 1), (28, .istore_n 1, 1), (29, .iconst 0, 1), (30, .istore_n 2, 1), (31, .iload_n 1, 1), (32, .ifCond .eq 33, 3), (35, .iload_n 2, 1), (36, .aload_n 0, 1), (37, .getfield 10, 3), (40, .getfield 104, 3), (43, .if_icmp .ge 22, 3), (46, .aload_n 0, 1), (47, .aload_n 0, 1), (48, .getfield 10, 3), (51, .iload_n 2, 1), (52, .invokevirtual 320, 3), (55, .invokevirtual 139, 3), (58, .istore_n 1, 1), (59, .iinc 2 1, 3), (62, .goto (-31), 3), (65, .iload_n 1, 1), (66, .ireturn, 1)]
def ec_77 : List eI := [(0, .iload_n 0, 1), (1, .ifCond .eq 8, 3), (4, .iload_n 0, 1), (5, .iconst 1, 1), (6, .if_icmp .ne 7, 3), (9, .iconst 1, 1), (10, .goto 4, 3), (13, .iconst 0, 1), (14, .ireturn, 1)]
def ec_78 : List eI := [(0, .iload_n 1, 1), (1, .ifCond .ne 10, 3), (4, .aload_n 0, 1), (5, .getfield 36, 3), (8, .invokevirtual 244, 3), (11, .iload_n 1, 1), (12, .ireturn, 1)]
def ec_79 : List eI := [(0, .aload_n 0, 1), (1, .iload_n 1, 1), (2, .invokevirtual 171, 3), (5, .ifCond .eq 16, 3), (8, .aload_n 0, 1), (9, .getfield 26, 3), (12, .getfield 174, 3), (15, .iload_n 1, 1), (16, .iaload, 1), (17, .iconst (-1), 1), (18, .if_icmp .ne 5, 3), (21, .iconst 0, 1), (22, .ireturn, 1), (23, .aload_n 0, 1), (24, .getfield 36, 3), (27, .aload_n 0, 1), (28, .getfield 26, 3), (31, .invokevirtual 234, 3), (34, .aload_n 0, 1), (35, .getfield 26, 3), (38, .getfield 174, 3), (41, .iload_n 1, 1), (42, .iconst (-1), 1), (43, .iastore, 1), (44, .aload_n 0, 1), (45, .getfield 36, 3), (48, .invokevirtual 244, 3), (51, .iconst 1, 1), (52, .ireturn, 1)]
def ec_80 : List eI := [(0, .aload_n 0, 1), (1, .iload_n 1, 1), (2, .iload_n 2, 1), (3, .invokevirtual 247, 3), (6, .ifCond .eq 10, 3), (9, .iload_n 3, 1), (10, .invokestatic 254, 3), (13, .ifCond .ne 5, 3), (16, .iconst (-1), 1), (17, .ireturn, 1), (18, .aload_n 0, 1), (19, .getfield 36, 3), (22, .aload_n 0, 1), (23, .getfield 26, 3), (26, .invokevirtual 234, 3), (29, .aload_n 0, 1), (30, .aload_n 0, 1), (31, .getfield 26, 3), (34, .iload_n 1, 1), (35, .iload_n 2, 1), (36, .iload_n 3, 1), (37, .invokevirtual 257, 3), (40, .invokevirtual 241, 3), (43, .ireturn, 1)]
def ec_81 : List eI := [(0, .iload_n 1, 1), (1, .iconst 1, 1), (2, .if_icmp .lt 9, 3), (5, .iload_n 1, 1), (6, .bipush 60, 2), (8, .if_icmp .le 5, 3), (11, .iconst (-1), 1), (12, .ireturn, 1), (13, .aload_n 0, 1), (14, .getfield 36, 3), (17, .aload_n 0, 1), (18, .getfield 26, 3), (21, .invokevirtual 234, 3), (24, .aload_n 0, 1), (25, .aload_n 0, 1), (26, .getfield 26, 3), (29, .aload_n 0, 1), (30, .getfield 19, 3), (33, .iload_n 1, 1), (34, .invokevirtual 273, 3), (37, .invokevirtual 241, 3), (40, .istore_n 2, 1), (41, .iload_n 2, 1), (42, .ifCond .ne 13, 3), (45, .aload_n 0, 1), (46, .getfield 26, 3), (49, .getfield 211, 3), (52, .goto 4, 3), (55, .iconst (-1), 1), (56, .ireturn, 1)]
def ec_82 : List eI := [(0, .iconst 0, 1), (1, .istore_n 1, 1), (2, .iconst 0, 1), (3, .istore_n 2, 1), (4, .iload_n 2, 1), (5, .aload_n 0, 1), (6, .getfield 19, 3), (9, .iconst 0, 1), (10, .invokevirtual 223, 3), (13, .if_icmp .ge 35, 3), (16, .iload_n 1, 1), (17, .aload_n 0, 1), (18, .aload_n 0, 1), (19, .getfield 19, 3), (22, .iload_n 2, 1), (23, .invokevirtual 381, 3), (26, .invokevirtual 384, 3), (29, .ifCond .eq 10, 3), (32, .iload_n 2, 1), (33, .invokestatic 326, 3), (36, .goto 4, 3), (39, .iconst 0, 1), (40, .ior, 1), (41, .istore_n 1, 1), (42, .iinc 2 1, 3), (45, .goto (-41), 3), (48, .iload_n 1, 1), (49, .ireturn, 1)]
def ec_83 : List eI := [(0, .iload_n 1, 1), (1, .tableswitch 96 0 5 #[39, 47, 55, 63, 80, 88], 39), (40, .aload_n 0, 1), (41, .getfield 26, 3), (44, .getfield 211, 3), (47, .ireturn, 1), (48, .aload_n 0, 1), (49, .getfield 26, 3), (52, .getfield 214, 3), (55, .ireturn, 1), (56, .aload_n 0, 1), (57, .getfield 26, 3), (60, .getfield 157, 3), (63, .ireturn, 1), (64, .aload_n 0, 1), (65, .getfield 26, 3), (68, .iconst (-1), 1), (69, .invokevirtual 180, 3), (72, .aload_n 0, 1), (73, .getfield 19, 3), (76, .invokevirtual 183, 3), (79, .iand, 1), (80, .ireturn, 1), (81, .aload_n 0, 1), (82, .getfield 26, 3), (85, .getfield 217, 3), (88, .ireturn, 1), (89, .aload_n 0, 1), (90, .getfield 26, 3), (93, .invokevirtual 220, 3), (96, .ireturn, 1), (97, .iconst (-1), 1), (98, .ireturn, 1)]
def ec_84 : List eI := [(0, .aload_n 0, 1), (1, .iload_n 1, 1), (2, .invokevirtual 139, 3), (5, .ifCond .eq 18, 3), (8, .iload_n 2, 1), (9, .iconst 1, 1), (10, .if_icmp .lt 13, 3), (13, .iload_n 2, 1), (14, .bipush 40, 2), (16, .if_icmp .gt 7, 3), (19, .iconst 1, 1), (20, .goto 4, 3), (23, .iconst 0, 1), (24, .istore 4, 2), (26, .iload 4, 2), (28, .ifCond .eq 19, 3), (31, .aload_n 0, 1), (32, .getfield 26, 3), (35, .getfield 211, 3), (38, .bipush 20, 2), (40, .iadd, 1), (41, .sipush 999, 3), (44, .if_icmp .le 5, 3), (47, .iconst (-1), 1), (48, .ireturn, 1), (49, .iconst 0, 1), (50, .istore 5, 2), (52, .iconst 0, 1), (53, .istore 6, 2), (55, .iload 6, 2), (57, .iload_n 2, 1), (58, .if_icmp .ge 58, 3), (61, .aload_n 0, 1), (62, .getfield 30, 3), (65, .aload_n 0, 1), (66, .getfield 26, 3), (69, .invokevirtual 129, 3), (72, .aload_n 0, 1), (73, .getfield 88, 3), (76, .aload_n 0, 1), (77, .getfield 19, 3), (80, .aload_n 0, 1), (81, .getfield 30, 3), (84, .bipush 20, 2), (86, .iload_n 3, 1), (87, .iload 6, 2), (89, .iadd, 1), (90, .invokevirtual 281, 3), (93, .aload_n 0, 1), (94, .getfield 30, 3), (97, .getfield 157, 3), (100, .iload_n 1, 1), (101, .invokestatic 160, 3), (104, .ifCond .eq 6, 3), (107, .iinc 5 1, 3), (110, .iinc 6 1, 3), (113, .goto (-58), 3), (116, .iload 5, 2), (118, .ireturn, 1)]
def ec_85 : List eI := [(0, .aload_n 0, 1), (1, .iload_n 1, 1), (2, .invokevirtual 171, 3), (5, .ifCond .ne 5, 3), (8, .iconst (-1), 1), (9, .ireturn, 1), (10, .iload_n 2, 1), (11, .tableswitch 111 0 5 #[37, 47, 64, 81, 91, 101], 37), (48, .aload_n 0, 1), (49, .getfield 26, 3), (52, .getfield 174, 3), (55, .iload_n 1, 1), (56, .iaload, 1), (57, .ireturn, 1), (58, .aload_n 0, 1), (59, .getfield 26, 3), (62, .iload_n 1, 1), (63, .invokevirtual 177, 3), (66, .ifCond .eq 7, 3), (69, .iconst 1, 1), (70, .goto 4, 3), (73, .iconst 0, 1), (74, .ireturn, 1), (75, .aload_n 0, 1), (76, .getfield 26, 3), (79, .iload_n 1, 1), (80, .invokevirtual 180, 3), (83, .aload_n 0, 1), (84, .getfield 19, 3), (87, .invokevirtual 183, 3), (90, .iand, 1), (91, .ireturn, 1), (92, .aload_n 0, 1), (93, .getfield 26, 3), (96, .getfield 187, 3), (99, .iload_n 1, 1), (100, .iaload, 1), (101, .ireturn, 1), (102, .aload_n 0, 1), (103, .getfield 26, 3), (106, .getfield 190, 3), (109, .iload_n 1, 1), (110, .iaload, 1), (111, .ireturn, 1), (112, .aload_n 0, 1), (113, .getfield 26, 3), (116, .getfield 193, 3), (119, .iload_n 1, 1), (120, .iaload, 1), (121, .ireturn, 1), (122, .iconst (-1), 1), (123, .ireturn, 1)]
def ec_86 : List eI := [(0, .aload_n 0, 1), (1, .iload_n 1, 1), (2, .invokevirtual 196, 3), (5, .ifCond .ne 5, 3), (8, .iconst (-1), 1), (9, .ireturn, 1), (10, .iload_n 2, 1), (11, .tableswitch 89 0 3 #[29, 39, 49, 69], 29), (40, .aload_n 0, 1), (41, .getfield 19, 3), (44, .getfield 199, 3), (47, .iload_n 1, 1), (48, .iaload, 1), (49, .ireturn, 1), (50, .aload_n 0, 1), (51, .getfield 19, 3), (54, .getfield 202, 3), (57, .iload_n 1, 1), (58, .iaload, 1), (59, .ireturn, 1), (60, .aload_n 0, 1), (61, .getfield 19, 3), (64, .getfield 205, 3), (67, .iload_n 1, 1), (68, .invokestatic 160, 3), (71, .ifCond .eq 7, 3), (74, .iconst 1, 1), (75, .goto 4, 3), (78, .iconst 0, 1), (79, .ireturn, 1), (80, .aload_n 0, 1), (81, .getfield 26, 3), (84, .getfield 208, 3), (87, .iload_n 1, 1), (88, .invokestatic 160, 3), (91, .ifCond .eq 7, 3), (94, .iconst 1, 1), (95, .goto 4, 3), (98, .iconst 0, 1), (99, .ireturn, 1), (100, .iconst (-1), 1), (101, .ireturn, 1)]
def ec_87 : List eI := [(0, .aload_n 0, 1), (1, .getfield 81, 3), (4, .getfield 359, 3), (7, .ifCond .eq 23, 3), (10, .aload_n 0, 1), (11, .iload_n 1, 1), (12, .invokevirtual 139, 3), (15, .ifCond .eq 15, 3), (18, .aload_n 0, 1), (19, .getfield 81, 3), (22, .getfield 363, 3), (25, .iload_n 1, 1), (26, .iaload, 1), (27, .goto 4, 3), (30, .iconst (-1), 1), (31, .ireturn, 1)]
def ec_88 : List eI := [(0, .aload_n 0, 1), (1, .getfield 81, 3), (4, .aload_n 0, 1), (5, .getfield 19, 3), (8, .aload_n 0, 1), (9, .getfield 26, 3), (12, .invokevirtual 355, 3), (15, .ireturn, 1)]
def ec_89 : List eI := [(0, .iload_n 1, 1), (1, .iconst 2, 1), (2, .invokestatic 294, 3), (5, .ifCond .eq 14, 3), (8, .aload_n 0, 1), (9, .getfield 418, 3), (12, .iload_n 1, 1), (13, .invokestatic 160, 3), (16, .ifCond .ne 5, 3), (19, .iconst 0, 1), (20, .ireturn, 1), (21, .aload_n 0, 1), (22, .getfield 19, 3), (25, .aload_n 0, 1), (26, .getfield 92, 3), (29, .iload_n 1, 1), (30, .aaload, 1), (31, .invokevirtual 122, 3), (34, .aload_n 0, 1), (35, .getfield 26, 3), (38, .aload_n 0, 1), (39, .getfield 96, 3), (42, .iload_n 1, 1), (43, .aaload, 1), (44, .invokevirtual 129, 3), (47, .aload_n 0, 1), (48, .getfield 43, 3), (51, .aload_n 0, 1), (52, .getfield 100, 3), (55, .iload_n 1, 1), (56, .aaload, 1), (57, .invokevirtual 409, 3), (60, .aload_n 0, 1), (61, .getfield 36, 3), (64, .invokevirtual 135, 3), (67, .iconst 1, 1), (68, .ireturn, 1)]
def ec_90 : List eI := [(0, .aload_n 0, 1), (1, .getfield 81, 3), (4, .aload_n 0, 1), (5, .getfield 19, 3), (8, .aload_n 0, 1), (9, .getfield 26, 3), (12, .invokevirtual 345, 3), (15, .aload_n 0, 1), (16, .getfield 81, 3), (19, .getfield 352, 3), (22, .ireturn, 1)]
def ec_91 : List eI := [(0, .aload_n 0, 1), (1, .getfield 43, 3), (4, .getfield 412, 3), (7, .ifCond .ne 5, 3), (10, .iconst (-1), 1), (11, .ireturn, 1), (12, .aload_n 0, 1), (13, .getfield 43, 3), (16, .aload_n 0, 1), (17, .getfield 19, 3), (20, .aload_n 0, 1), (21, .getfield 26, 3), (24, .invokevirtual 415, 3), (27, .istore_n 2, 1), (28, .iload_n 1, 1), (29, .iconst (-1), 1), (30, .if_icmp .ne 8, 3), (33, .iload_n 2, 1), (34, .invokestatic 229, 3), (37, .ireturn, 1), (38, .iconst 0, 1), (39, .istore_n 3, 1), (40, .iconst 0, 1), (41, .istore 4, 2), (43, .iload 4, 2), (45, .bipush 12, 2), (47, .if_icmp .ge 29, 3), (50, .iload_n 2, 1), (51, .iload 4, 2), (53, .invokestatic 160, 3), (56, .ifCond .eq 14, 3), (59, .iload_n 3, 1), (60, .iload_n 1, 1), (61, .if_icmp .ne 6, 3), (64, .iload 4, 2), (66, .ireturn, 1), (67, .iinc 3 1, 3), (70, .iinc 4 1, 3), (73, .goto (-30), 3), (76, .iconst (-1), 1), (77, .ireturn, 1)]
def ec_92 : List eI := [(0, .aload_n 0, 1), (1, .iload_n 1, 1), (2, .iload_n 3, 1), (3, .invokevirtual 247, 3), (6, .ifCond .eq 11, 3), (9, .aload_n 0, 1), (10, .iload_n 2, 1), (11, .invokevirtual 139, 3), (14, .ifCond .ne 5, 3), (17, .iconst (-1), 1), (18, .ireturn, 1), (19, .aload_n 0, 1), (20, .getfield 36, 3), (23, .aload_n 0, 1), (24, .getfield 26, 3), (27, .invokevirtual 234, 3), (30, .aload_n 0, 1), (31, .aload_n 0, 1), (32, .getfield 26, 3), (35, .iload_n 1, 1), (36, .iload_n 2, 1), (37, .iload_n 3, 1), (38, .invokevirtual 250, 3), (41, .invokevirtual 241, 3), (44, .ireturn, 1)]
def ec_93 : List eI := [(0, .aload_n 0, 1), (1, .getfield 47, 3), (4, .aload_n 0, 1), (5, .getfield 10, 3), (8, .aload_n 0, 1), (9, .getfield 19, 3), (12, .invokevirtual 408, 3), (15, .istore_n 1, 1), (16, .aload_n 0, 1), (17, .getfield 10, 3), (20, .iconst 0, 1), (21, .putfield 104, 3), (24, .iload_n 1, 1), (25, .ifCond .ne 13, 3), (28, .iconst (-1), 1), (29, .aload_n 0, 1), (30, .getfield 10, 3), (33, .getfield 116, 3), (36, .isub, 1), (37, .ireturn, 1), (38, .aload_n 0, 1), (39, .getfield 43, 3), (42, .aload_n 0, 1), (43, .getfield 47, 3), (46, .invokevirtual 409, 3), (49, .aload_n 0, 1), (50, .getfield 43, 3), (53, .getfield 412, 3), (56, .ireturn, 1)]
def ec_94 : List eI := [(0, .aload_n 0, 1), (1, .iload_n 1, 1), (2, .invokevirtual 196, 3), (5, .ifCond .eq 10, 3), (8, .iload_n 2, 1), (9, .invokestatic 254, 3), (12, .ifCond .ne 5, 3), (15, .iconst (-1), 1), (16, .ireturn, 1), (17, .aload_n 0, 1), (18, .getfield 36, 3), (21, .aload_n 0, 1), (22, .getfield 26, 3), (25, .invokevirtual 234, 3), (28, .aload_n 0, 1), (29, .aload_n 0, 1), (30, .getfield 26, 3), (33, .aload_n 0, 1), (34, .getfield 19, 3), (37, .iload_n 1, 1), (38, .iload_n 2, 1), (39, .invokevirtual 267, 3), (42, .invokevirtual 241, 3), (45, .ireturn, 1)]
def ec_95 : List eI := [(0, .iload_n 1, 1), (1, .ifCond .lt 28, 3), (4, .iload_n 1, 1), (5, .bipush 60, 2), (7, .if_icmp .gt 22, 3), (10, .aload_n 0, 1), (11, .getfield 74, 3), (14, .aload_n 0, 1), (15, .getfield 19, 3), (18, .aload_n 0, 1), (19, .getfield 26, 3), (22, .iload_n 1, 1), (23, .invokevirtual 339, 3), (26, .goto 4, 3), (29, .iconst (-1), 1), (30, .ireturn, 1)]
def ec_96 : List eI := [(0, .iload_n 1, 1), (1, .aload_n 0, 1), (2, .getfield 67, 3), (5, .getfield 292, 3), (8, .invokestatic 294, 3), (11, .ifCond .eq 15, 3), (14, .aload_n 0, 1), (15, .getfield 67, 3), (18, .getfield 297, 3), (21, .iload_n 1, 1), (22, .iaload, 1), (23, .goto 4, 3), (26, .iconst (-1), 1), (27, .ireturn, 1)]
def ec_97 : List eI := [(0, .aload_n 0, 1), (1, .getfield 53, 3), (4, .aload_n 0, 1), (5, .getfield 10, 3), (8, .invokevirtual 112, 3), (11, .istore_n 1, 1), (12, .aload_n 0, 1), (13, .getfield 10, 3), (16, .iconst 0, 1), (17, .putfield 104, 3), (20, .iload_n 1, 1), (21, .ifCond .ge 13, 3), (24, .iconst (-1), 1), (25, .aload_n 0, 1), (26, .getfield 10, 3), (29, .getfield 116, 3), (32, .isub, 1), (33, .ireturn, 1), (34, .aload_n 0, 1), (35, .getfield 19, 3), (38, .aload_n 0, 1), (39, .getfield 53, 3), (42, .getfield 119, 3), (45, .invokevirtual 122, 3), (48, .aload_n 0, 1), (49, .getfield 26, 3), (52, .aload_n 0, 1), (53, .getfield 53, 3), (56, .getfield 126, 3), (59, .invokevirtual 129, 3), (62, .aload_n 0, 1), (63, .getfield 43, 3), (66, .invokevirtual 132, 3), (69, .aload_n 0, 1), (70, .getfield 36, 3), (73, .invokevirtual 135, 3), (76, .iload_n 1, 1), (77, .ireturn, 1)]
def ec_98 : List eI := [(0, .aload_n 0, 1), (1, .iload_n 1, 1), (2, .invokevirtual 171, 3), (5, .ifCond .eq 11, 3), (8, .aload_n 0, 1), (9, .iload_n 2, 1), (10, .invokevirtual 139, 3), (13, .ifCond .ne 5, 3), (16, .iconst (-1), 1), (17, .ireturn, 1), (18, .aload_n 0, 1), (19, .getfield 67, 3), (22, .aload_n 0, 1), (23, .getfield 19, 3), (26, .aload_n 0, 1), (27, .getfield 26, 3), (30, .iload_n 1, 1), (31, .iload_n 2, 1), (32, .invokevirtual 285, 3), (35, .istore_n 3, 1), (36, .iload_n 3, 1), (37, .ifCond .ge 7, 3), (40, .iconst (-1), 1), (41, .goto 16, 3), (44, .aload_n 0, 1), (45, .getfield 67, 3), (48, .aload_n 0, 1), (49, .getfield 26, 3), (52, .iload_n 1, 1), (53, .iload_n 3, 1), (54, .invokevirtual 309, 3), (57, .ireturn, 1)]
def ec_99 : List eI := [(0, .aload_n 0, 1), (1, .getfield 36, 3), (4, .aload_n 0, 1), (5, .getfield 26, 3), (8, .invokevirtual 277, 3), (11, .ireturn, 1)]
def ec_100 : List eI := [(0, .aload_n 0, 1), (1, .invokevirtual 313, 3), (4, .ifCond .eq 10, 3), (7, .aload_n 0, 1), (8, .invokevirtual 317, 3), (11, .goto 4, 3), (14, .iconst (-1), 1), (15, .istore_n 1, 1), (16, .aload_n 0, 1), (17, .getfield 10, 3), (20, .iconst 0, 1), (21, .putfield 104, 3), (24, .iload_n 1, 1), (25, .ireturn, 1)]
def ec_101 : List eI := [(0, .aload_n 0, 1), (1, .getfield 81, 3), (4, .getfield 359, 3), (7, .ifCond .eq 23, 3), (10, .aload_n 0, 1), (11, .iload_n 1, 1), (12, .invokevirtual 171, 3), (15, .ifCond .eq 15, 3), (18, .aload_n 0, 1), (19, .getfield 81, 3), (22, .getfield 366, 3), (25, .iload_n 1, 1), (26, .iaload, 1), (27, .goto 4, 3), (30, .iconst (-1), 1), (31, .ireturn, 1)]
def ec_102 : List eI := [(0, .aload_n 0, 1), (1, .iload_n 1, 1), (2, .invokevirtual 171, 3), (5, .ifCond .eq 11, 3), (8, .aload_n 0, 1), (9, .iload_n 2, 1), (10, .invokevirtual 139, 3), (13, .ifCond .ne 5, 3), (16, .iconst (-1), 1), (17, .ireturn, 1), (18, .aload_n 0, 1), (19, .getfield 67, 3), (22, .aload_n 0, 1), (23, .getfield 19, 3), (26, .aload_n 0, 1), (27, .getfield 26, 3), (30, .iload_n 1, 1), (31, .iload_n 2, 1), (32, .invokevirtual 285, 3), (35, .istore_n 3, 1), (36, .iload_n 3, 1), (37, .ifCond .lt 11, 3), (40, .aload_n 0, 1), (41, .getfield 67, 3), (44, .iload_n 3, 1), (45, .invokevirtual 289, 3), (48, .iload_n 3, 1), (49, .ireturn, 1)]
def ec_103 : List eI := [(0, .aload_n 0, 1), (1, .iload_n 1, 1), (2, .iload_n 2, 1), (3, .invokevirtual 247, 3), (6, .ifCond .ne 5, 3), (9, .iconst (-1), 1), (10, .ireturn, 1), (11, .aload_n 0, 1), (12, .getfield 36, 3), (15, .aload_n 0, 1), (16, .getfield 26, 3), (19, .invokevirtual 234, 3), (22, .aload_n 0, 1), (23, .aload_n 0, 1), (24, .getfield 26, 3), (27, .iload_n 1, 1), (28, .iload_n 2, 1), (29, .invokevirtual 260, 3), (32, .invokevirtual 241, 3), (35, .ireturn, 1)]
def ec_104 : List eI := [(0, .aload_n 0, 1), (1, .invokespecial 27, 3), (4, .aload_n 0, 1), (5, .sipush 940, 3), (8, .newarray .byte, 2), (10, .putfield 14, 3), (13, .aload_n 0, 1), (14, .sipush 402, 3), (17, .newarray .int, 2), (19, .putfield 33, 3), (22, .aload_n 0, 1), (23, .sipush 179, 3), (26, .newarray .int, 2), (28, .putfield 37, 3), (31, .aload_n 0, 1), (32, .sipush 160, 3), (35, .newarray .int, 2), (37, .putfield 40, 3), (40, .aload_n 0, 1), (41, .bipush 48, 2), (43, .newarray .long, 2), (45, .putfield 43, 3), (48, .aload_n 0, 1), (49, .bipush 30, 2), (51, .newarray .long, 2), (53, .putfield 47, 3), (56, .aload_n 0, 1), (57, .sipush 336, 3), (60, .newarray .int, 2), (62, .putfield 50, 3), (65, .aload_n 0, 1), (66, .bipush 42, 2), (68, .newarray .int, 2), (70, .putfield 53, 3), (73, .aload_n 0, 1), (74, .bipush 12, 2), (76, .newarray .int, 2), (78, .putfield 56, 3), (81, .aload_n 0, 1), (82, .bipush 12, 2), (84, .newarray .int, 2), (86, .putfield 59, 3), (89, .aload_n 0, 1), (90, .bipush 12, 2), (92, .newarray .int, 2), (94, .putfield 62, 3), (97, .aload_n 0, 1), (98, .sipush 144, 3), (101, .newarray .int, 2), (103, .putfield 65, 3), (106, .aload_n 0, 1), (107, .bipush 12, 2), (109, .newarray .int, 2), (111, .putfield 68, 3), (114, .aload_n 0, 1), (115, .bipush 12, 2), (117, .newarray .int, 2), (119, .putfield 71, 3), (122, .aload_n 0, 1), (123, .bipush 6, 2), (125, .newarray .int, 2), (127, .putfield 74, 3), (130, .aload_n 0, 1), (131, .bipush 6, 2), (133, .newarray .int, 2), (135, .putfield 77, 3), (138, .aload_n 0, 1), (139, .bipush 6, 2), (141, .newarray .int, 2), (143, .putfield 80, 3), (146, .aload_n 0, 1), (147, .bipush 12, 2), (149, .newarray .int, 2), (151, .putfield 83, 3), (154, .aload_n 0, 1), (155, .bipush 6, 2), (157, .newarray .int, 2), (159, .putfield 86, 3), (162, .aload_n 0, 1), (163, .bipush 12, 2), (165, .newarray .int, 2), (167, .putfield 89, 3), (170, .aload_n 0, 1), (171, .iconst (-1), 1), (172, .putfield 92, 3), (175, .aload_n 0, 1), (176, .iconst 4, 1), (177, .newarray .int, 2), (179, .putfield 95, 3), (182, .aload_n 0, 1), (183, .bipush 45, 2), (185, .newarray .int, 2), (187, .putfield 98, 3), (190, .aload_n 0, 1), (191, .bipush 45, 2), (193, .newarray .boolean, 2), (195, .putfield 101, 3), (198, .aload_n 0, 1), (199, .sipush 804, 3), (202, .newarray .int, 2), (204, .putfield 105, 3), (207, .aload_n 0, 1), (208, .bipush 48, 2), (210, .newarray .long, 2), (212, .putfield 108, 3), (215, .aload_n 0, 1), (216, .iconst 2, 1), (217, .newarray .boolean, 2), (219, .putfield 111, 3), (222, .aload_n 0, 1), (223, .getfield 47, 3), (226, .iconst 0, 1), (227, .ldc2_w 114, 3), (230, .lastore, 1), (231, .aload_n 0, 1), (232, .getfield 47, 3), (235, .iconst 1, 1), (236, .ldc2_w 116, 3), (239, .lastore, 1), (240, .aload_n 0, 1), (241, .getfield 47, 3), (244, .iconst 2, 1), (245, .ldc2_w 118, 3), (248, .lastore, 1), (249, .aload_n 0, 1), (250, .getfield 47, 3), (253, .iconst 3, 1), (254, .ldc2_w 120, 3), (257, .lastore, 1), (258, .aload_n 0, 1), (259, .getfield 47, 3), (262, .iconst 4, 1), (263, .ldc2_w 122, 3), (266, .lastore, 1), (267, .aload_n 0, 1), (268, .getfield 47, 3), (271, .iconst 5, 1), (272, .ldc2_w 124, 3), (275, .lastore, 1), (276, .aload_n 0, 1), (277, .getfield 47, 3), (280, .bipush 6, 2), (282, .ldc2_w 126, 3), (285, .lastore, 1), (286, .aload_n 0, 1), (287, .getfield 47, 3), (290, .bipush 7, 2), (292, .ldc2_w 128, 3), (295, .lastore, 1), (296, .aload_n 0, 1), (297, .getfield 47, 3), (300, .bipush 8, 2), (302, .ldc2_w 130, 3), (305, .lastore, 1), (306, .aload_n 0, 1), (307, .getfield 47, 3), (310, .bipush 9, 2), (312, .ldc2_w 132, 3), (315, .lastore, 1), (316, .aload_n 0, 1), (317, .getfield 47, 3), (320, .bipush 10, 2), (322, .ldc2_w 134, 3), (325, .lastore, 1), (326, .aload_n 0, 1), (327, .getfield 47, 3), (330, .bipush 11, 2), (332, .ldc2_w 136, 3), (335, .lastore, 1), (336, .aload_n 0, 1), (337, .getfield 47, 3), (340, .bipush 12, 2), (342, .ldc2_w 138, 3), (345, .lastore, 1), (346, .aload_n 0, 1), (347, .getfield 47, 3), (350, .bipush 13, 2), (352, .ldc2_w 140, 3), (355, .lastore, 1), (356, .aload_n 0, 1), (357, .getfield 47, 3), (360, .bipush 14, 2), (362, .ldc2_w 142, 3), (365, .lastore, 1), (366, .aload_n 0, 1), (367, .getfield 47, 3), (370, .bipush 15, 2), (372, .ldc2_w 144, 3), (375, .lastore, 1), (376, .aload_n 0, 1), (377, .getfield 47, 3), (380, .bipush 16, 2), (382, .ldc2_w 146, 3), (385, .lastore, 1), (386, .aload_n 0, 1), (387, .getfield 47, 3), (390, .bipush 17, 2), (392, .ldc2_w 148, 3), (395, .lastore, 1), (396, .aload_n 0, 1), (397, .getfield 47, 3), (400, .bipush 18, 2), (402, .ldc2_w 150, 3), (405, .lastore, 1), (406, .aload_n 0, 1), (407, .getfield 47, 3), (410, .bipush 19, 2), (412, .ldc2_w 152, 3), (415, .lastore, 1), (416, .aload_n 0, 1), (417, .getfield 47, 3), (420, .bipush 20, 2), (422, .ldc2_w 154, 3), (425, .lastore, 1), (426, .aload_n 0, 1), (427, .getfield 47, 3), (430, .bipush 21, 2), (432, .ldc2_w 156, 3), (435, .lastore, 1), (436, .aload_n 0, 1), (437, .getfield 47, 3), (440, .bipush 22, 2), (442, .ldc2_w 158, 3), (445, .lastore, 1), (446, .aload_n 0, 1), (447, .getfield 47, 3), (450, .bipush 23, 2), (452, .ldc2_w 160, 3), (455, .lastore, 1), (456, .aload_n 0, 1), (457, .getfield 47, 3), (460, .bipush 24, 2), (462, .ldc2_w 162, 3), (465, .lastore, 1), (466, .aload_n 0, 1), (467, .getfield 47, 3), (470, .bipush 25, 2), (472, .ldc2_w 164, 3), (475, .lastore, 1), (476, .aload_n 0, 1), (477, .getfield 47, 3), (480, .bipush 26, 2), (482, .ldc2_w 166, 3), (485, .lastore, 1), (486, .aload_n 0, 1), (487, .getfield 47, 3), (490, .bipush 27, 2), (492, .ldc2_w 168, 3), (495, .lastore, 1), (496, .aload_n 0, 1), (497, .getfield 47, 3), (500, .bipush 28, 2), (502, .ldc2_w 170, 3), (505, .lastore, 1), (506, .aload_n 0, 1), (507, .getfield 47, 3), (510, .bipush 29, 2), (512, .ldc2_w 172, 3), (515, .lastore, 1), (516, .return_, 1)]
def ec_105 : List eI := [(0, .iload_n 1, 1), (1, .iconst 1, 1), (2, .bipush 60, 2), (4, .invokestatic 216, 3), (7, .ifCond .eq 23, 3), (10, .aload_n 0, 1), (11, .getfield 33, 3), (14, .sipush 179, 3), (17, .iaload, 1), (18, .iload_n 1, 1), (19, .iadd, 1), (20, .sipush 999, 3), (23, .if_icmp .gt 7, 3), (26, .iconst 1, 1), (27, .goto 4, 3), (30, .iconst 0, 1), (31, .ireturn, 1)]
def ec_106 : List eI := [(0, .aload_n 0, 1), (1, .iload_n 1, 1), (2, .invokevirtual 275, 3), (5, .ifCond .eq 20, 3), (8, .aload_n 0, 1), (9, .iload_n 2, 1), (10, .invokevirtual 275, 3), (13, .ifCond .eq 12, 3), (16, .iload_n 1, 1), (17, .iload_n 2, 1), (18, .if_icmp .eq 7, 3), (21, .iconst 1, 1), (22, .goto 4, 3), (25, .iconst 0, 1), (26, .ireturn, 1)]
def ec_107 : List eI := [(0, .aload_n 0, 1), (1, .iconst 0, 1), (2, .putfield 1, 3), (5, .aload_n 0, 1), (6, .getfield 378, 3), (9, .ifCond .eq 10, 3), (12, .aload_n 0, 1), (13, .getfield 382, 3), (16, .goto 4, 3), (19, .iconst (-1), 1), (20, .ireturn, 1)]
def ec_108 : List eI := [(0, .aload_n 0, 1), (1, .iconst 0, 1), (2, .putfield 1, 3), (5, .aload_n 0, 1), (6, .iload_n 1, 1), (7, .invokevirtual 275, 3), (10, .ifCond .eq 11, 3), (13, .aload_n 0, 1), (14, .iload_n 2, 1), (15, .invokevirtual 278, 3), (18, .ifCond .ne 5, 3), (21, .iconst (-1), 1), (22, .ireturn, 1), (23, .aload_n 0, 1), (24, .invokevirtual 369, 3), (27, .iconst (-1), 1), (28, .istore_n 3, 1), (29, .iconst 0, 1), (30, .istore 4, 2), (32, .iload 4, 2), (34, .iconst 1, 1), (35, .aload_n 0, 1), (36, .getfield 33, 3), (39, .iconst 1, 1), (40, .iaload, 1), (41, .ishl, 1), (42, .if_icmp .ge 181, 3), (45, .iload 4, 2), (47, .iload_n 1, 1), (48, .invokestatic 254, 3), (51, .ifCond .ne 23, 3), (54, .iload_n 3, 1), (55, .ifCond .lt 15, 3), (58, .iload 4, 2), (60, .invokestatic 372, 3), (63, .iload_n 3, 1), (64, .invokestatic 372, 3), (67, .if_icmp .ge 7, 3), (70, .iconst 1, 1), (71, .goto 4, 3), (74, .iconst 0, 1), (75, .istore 5, 2), (77, .iconst 0, 1), (78, .istore 6, 2), (80, .iload 6, 2), (82, .aload_n 0, 1), (83, .getfield 33, 3), (86, .iconst 1, 1), (87, .iaload, 1), (88, .if_icmp .ge 58, 3), (91, .iload 5, 2), (93, .ifCond .eq 53, 3), (96, .iload 4, 2), (98, .iload 6, 2), (100, .invokestatic 254, 3), (103, .ifCond .eq 30, 3), (106, .aload_n 0, 1), (107, .getfield 33, 3), (110, .sipush 203, 3), (113, .iload 6, 2), (115, .iadd, 1), (116, .iaload, 1), (117, .iload_n 1, 1), (118, .invokestatic 254, 3), (121, .ifCond .ne 16, 3), (124, .aload_n 0, 1), (125, .iload 6, 2), (127, .invokevirtual 295, 3), (130, .ifCond .ne 7, 3), (133, .iconst 1, 1), (134, .goto 4, 3), (137, .iconst 0, 1), (138, .istore 5, 2), (140, .iinc 6 1, 3), (143, .goto (-63), 3), (146, .iload 5, 2), (148, .ifCond .ne 6, 3), (151, .goto 66, 3), (154, .iconst 0, 1), (155, .istore 6, 2), (157, .iload 6, 2), (159, .aload_n 0, 1), (160, .getfield 33, 3), (163, .iconst 1, 1), (164, .iaload, 1), (165, .if_icmp .ge 36, 3), (168, .iload 4, 2), (170, .iload 6, 2), (172, .invokestatic 254, 3), (175, .ifCond .eq 20, 3), (178, .aload_n 0, 1), (179, .getfield 33, 3), (182, .sipush 203, 3), (185, .iload 6, 2), (187, .iadd, 1), (188, .dup2, 1), (189, .iaload, 1), (190, .iconst 1, 1), (191, .iload_n 1, 1), (192, .ishl, 1), (193, .ior, 1), (194, .iastore, 1), (195, .iinc 6 1, 3), (198, .goto (-41), 3), (201, .aload_n 0, 1), (202, .iload_n 1, 1), (203, .iload_n 2, 1), (204, .invokevirtual 363, 3), (207, .ifCond .lt 6, 3), (210, .iload 4, 2), (212, .istore_n 3, 1), (213, .aload_n 0, 1), (214, .invokevirtual 375, 3), (217, .iinc 4 1, 3), (220, .goto (-188), 3), (223, .iload_n 3, 1), (224, .ifCond .ge 5, 3), (227, .iconst (-1), 1), (228, .ireturn, 1), (229, .aload_n 0, 1), (230, .iconst 1, 1), (231, .putfield 378, 3), (234, .aload_n 0, 1), (235, .iload_n 3, 1), (236, .putfield 382, 3), (239, .iload_n 3, 1), (240, .invokestatic 372, 3), (243, .ireturn, 1)]
def ec_109 : List eI := [(0, .iconst 0, 1), (1, .istore_n 1, 1), (2, .iload_n 1, 1), (3, .bipush 42, 2), (5, .if_icmp .ge 25, 3), (8, .aload_n 0, 1), (9, .getfield 33, 3), (12, .sipush 179, 3), (15, .iload_n 1, 1), (16, .iadd, 1), (17, .aload_n 0, 1), (18, .getfield 53, 3), (21, .iload_n 1, 1), (22, .iaload, 1), (23, .iastore, 1), (24, .iinc 1 1, 3), (27, .goto (-25), 3), (30, .return_, 1)]
def ec_110 : List eI := [(0, .aload_n 0, 1), (1, .iload_n 1, 1), (2, .putfield 201, 3), (5, .aload_n 0, 1), (6, .aload_n 0, 1), (7, .getfield 178, 3), (10, .putfield 204, 3), (13, .iconst 0, 1), (14, .ireturn, 1)]
def ec_111 : List eI := [(0, .aload_n 0, 1), (1, .iconst 0, 1), (2, .putfield 1, 3), (5, .aload_n 0, 1), (6, .iload_n 1, 1), (7, .invokevirtual 275, 3), (10, .ifCond .ne 5, 3), (13, .iconst (-1), 1), (14, .ireturn, 1), (15, .iconst 0, 1), (16, .istore_n 2, 1), (17, .iconst 0, 1), (18, .istore_n 3, 1), (19, .iload_n 3, 1), (20, .aload_n 0, 1), (21, .getfield 33, 3), (24, .iconst 2, 1), (25, .iaload, 1), (26, .if_icmp .ge 28, 3), (29, .iload_n 2, 1), (30, .aload_n 0, 1), (31, .iload_n 1, 1), (32, .iload_n 3, 1), (33, .invokevirtual 363, 3), (36, .ifCond .ge 9, 3), (39, .iconst 1, 1), (40, .iload_n 3, 1), (41, .ishl, 1), (42, .goto 4, 3), (45, .iconst 0, 1), (46, .ior, 1), (47, .istore_n 2, 1), (48, .iinc 3 1, 3), (51, .goto (-32), 3), (54, .iload_n 2, 1), (55, .ireturn, 1)]
def ec_112 : List eI := [(0, .aload_n 0, 1), (1, .iconst 0, 1), (2, .putfield 1, 3), (5, .iload_n 1, 1), (6, .iconst 0, 1), (7, .iconst 1, 1), (8, .invokestatic 216, 3), (11, .ifCond .ne 7, 3), (14, .sipush (-1000), 3), (17, .ireturn, 1), (18, .aload_n 0, 1), (19, .sipush 400, 3), (22, .invokevirtual 260, 3), (25, .aload_n 0, 1), (26, .iconst 0, 1), (27, .putfield 201, 3), (30, .aload_n 0, 1), (31, .iconst 0, 1), (32, .putfield 428, 3), (35, .aload_n 0, 1), (36, .invokevirtual 213, 3), (39, .aload_n 0, 1), (40, .getfield 184, 3), (43, .ifCond .eq 40, 3), (46, .aload_n 0, 1), (47, .invokevirtual 434, 3), (50, .ifCond .eq 12, 3), (53, .aload_n 0, 1), (54, .bipush 59, 2), (56, .invokevirtual 269, 3), (59, .ifCond .ne 11, 3), (62, .bipush (-2), 2), (64, .aload_n 0, 1), (65, .getfield 204, 3), (68, .isub, 1), (69, .ireturn, 1), (70, .aload_n 0, 1), (71, .dup, 1), (72, .getfield 428, 3), (75, .iconst 1, 1), (76, .iadd, 1), (77, .putfield 428, 3), (80, .goto (-41), 3), (83, .aload_n 0, 1), (84, .invokevirtual 369, 3), (87, .iconst 0, 1), (88, .istore_n 2, 1), (89, .iload_n 2, 1), (90, .iconst 4, 1), (91, .if_icmp .ge 16, 3), (94, .aload_n 0, 1), (95, .getfield 95, 3), (98, .iload_n 2, 1), (99, .iconst 0, 1), (100, .iastore, 1), (101, .iinc 2 1, 3), (104, .goto (-15), 3), (107, .aload_n 0, 1), (108, .getfield 33, 3), (111, .sipush 180, 3), (114, .iaload, 1), (115, .istore_n 2, 1), (116, .iconst (-1), 1), (117, .istore_n 3, 1), (118, .iconst 0, 1), (119, .istore 4, 2), (121, .iload 4, 2), (123, .aload_n 0, 1), (124, .getfield 428, 3), (127, .if_icmp .ge 137, 3), (130, .iload_n 3, 1), (131, .ifCond .ge 133, 3), (134, .iconst 4, 1), (135, .iload 4, 2), (137, .imul, 1), (138, .istore 5, 2), (140, .aload_n 0, 1), (141, .aload_n 0, 1), (142, .getfield 40, 3), (145, .iload 5, 2), (147, .iaload, 1), (148, .aload_n 0, 1), (149, .getfield 40, 3), (152, .iload 5, 2), (154, .iconst 1, 1), (155, .iadd, 1), (156, .iaload, 1), (157, .aload_n 0, 1), (158, .getfield 40, 3), (161, .iload 5, 2), (163, .iconst 2, 1), (164, .iadd, 1), (165, .iaload, 1), (166, .aload_n 0, 1), (167, .getfield 40, 3), (170, .iload 5, 2), (172, .iconst 3, 1), (173, .iadd, 1), (174, .iaload, 1), (175, .invokevirtual 437, 3), (178, .istore 6, 2), (180, .iload 6, 2), (182, .ifCond .le 28, 3), (185, .aload_n 0, 1), (186, .getfield 95, 3), (189, .iconst 0, 1), (190, .bipush 10, 2), (192, .aload_n 0, 1), (193, .getfield 40, 3), (196, .iload 5, 2), (198, .iaload, 1), (199, .imul, 1), (200, .iload 6, 2), (202, .iadd, 1), (203, .iastore, 1), (204, .iload 4, 2), (206, .istore_n 3, 1), (207, .goto 51, 3), (210, .aload_n 0, 1), (211, .aload_n 0, 1), (212, .getfield 40, 3), (215, .iload 5, 2), (217, .iaload, 1), (218, .aload_n 0, 1), (219, .getfield 40, 3), (222, .iload 5, 2), (224, .iconst 1, 1), (225, .iadd, 1), (226, .iaload, 1), (227, .aload_n 0, 1), (228, .getfield 40, 3), (231, .iload 5, 2), (233, .iconst 2, 1), (234, .iadd, 1), (235, .iaload, 1), (236, .aload_n 0, 1), (237, .getfield 40, 3), (240, .iload 5, 2), (242, .iconst 3, 1), (243, .iadd, 1), (244, .iaload, 1), (245, .invokevirtual 441, 3), (248, .aload_n 0, 1), (249, .getfield 95, 3), (252, .iconst 1, 1), (253, .dup2, 1), (254, .iaload, 1), (255, .iconst 1, 1), (256, .iadd, 1), (257, .iastore, 1), (258, .iinc 4 1, 3), (261, .goto (-140), 3), (264, .aload_n 0, 1), (265, .getfield 95, 3), (268, .iconst 2, 1), (269, .aload_n 0, 1), (270, .getfield 33, 3), (273, .sipush 179, 3), (276, .iaload, 1), (277, .iastore, 1), (278, .aload_n 0, 1), (279, .getfield 95, 3), (282, .iconst 3, 1), (283, .aload_n 0, 1), (284, .getfield 33, 3), (287, .sipush 180, 3), (290, .iaload, 1), (291, .iload_n 2, 1), (292, .iconst (-1), 1), (293, .ixor, 1), (294, .iand, 1), (295, .iastore, 1), (296, .aload_n 0, 1), (297, .iconst 1, 1), (298, .putfield 445, 3), (301, .iload_n 1, 1), (302, .iconst 1, 1), (303, .if_icmp .ne 56, 3), (306, .aload_n 0, 1), (307, .getfield 95, 3), (310, .iconst 1, 1), (311, .iaload, 1), (312, .ifCond .le 47, 3), (315, .aload_n 0, 1), (316, .invokevirtual 325, 3), (319, .iconst 0, 1), (320, .istore 4, 2), (322, .iload 4, 2), (324, .bipush 42, 2), (326, .if_icmp .ge 33, 3), (329, .aload_n 0, 1), (330, .getfield 50, 3), (333, .bipush 42, 2), (335, .aload_n 0, 1), (336, .getfield 272, 3), (339, .iconst 1, 1), (340, .isub, 1), (341, .imul, 1), (342, .iload 4, 2), (344, .iadd, 1), (345, .aload_n 0, 1), (346, .getfield 53, 3), (349, .iload 4, 2), (351, .iaload, 1), (352, .iastore, 1), (353, .iinc 4 1, 3), (356, .goto (-34), 3), (359, .iload_n 1, 1), (360, .ifCond .ne 7, 3), (363, .aload_n 0, 1), (364, .invokevirtual 375, 3), (367, .iload_n 3, 1), (368, .ireturn, 1)]
def ec_113 : List eI := [(0, .aload_n 0, 1), (1, .iconst 0, 1), (2, .putfield 1, 3), (5, .aload_n 0, 1), (6, .getfield 445, 3), (9, .ifCond .eq 21, 3), (12, .iload_n 1, 1), (13, .iconst 0, 1), (14, .iconst 3, 1), (15, .invokestatic 216, 3), (18, .ifCond .eq 12, 3), (21, .aload_n 0, 1), (22, .getfield 95, 3), (25, .iload_n 1, 1), (26, .iaload, 1), (27, .goto 4, 3), (30, .iconst (-1), 1), (31, .ireturn, 1)]
def ec_114 : List eI := [(0, .aload_n 0, 1), (1, .iconst 0, 1), (2, .putfield 1, 3), (5, .aload_n 0, 1), (6, .iload_n 1, 1), (7, .invokevirtual 278, 3), (10, .ifCond .ne 5, 3), (13, .iconst (-1), 1), (14, .ireturn, 1), (15, .aload_n 0, 1), (16, .iload_n 1, 1), (17, .invokevirtual 285, 3), (20, .ifCond .eq 5, 3), (23, .iconst 1, 1), (24, .ireturn, 1), (25, .aload_n 0, 1), (26, .invokevirtual 325, 3), (29, .aload_n 0, 1), (30, .iload_n 1, 1), (31, .invokevirtual 319, 3), (34, .iconst 0, 1), (35, .ireturn, 1)]
def ec_115 : List eI := [(0, .aload_n 0, 1), (1, .getfield 33, 3), (4, .sipush 181, 3), (7, .iaload, 1), (8, .istore_n 2, 1), (9, .iconst 0, 1), (10, .istore_n 3, 1), (11, .iload_n 3, 1), (12, .iload_n 1, 1), (13, .if_icmp .ge 24, 3), (16, .aload_n 0, 1), (17, .getfield 33, 3), (20, .sipush 181, 3), (23, .dup2, 1), (24, .iaload, 1), (25, .aload_n 0, 1), (26, .invokevirtual 316, 3), (29, .ior, 1), (30, .iastore, 1), (31, .iinc 3 1, 3), (34, .goto (-23), 3), (37, .aload_n 0, 1), (38, .getfield 33, 3), (41, .sipush 181, 3), (44, .iaload, 1), (45, .istore_n 3, 1), (46, .aload_n 0, 1), (47, .getfield 33, 3), (50, .sipush 181, 3), (53, .iload_n 2, 1), (54, .iastore, 1), (55, .iload_n 3, 1), (56, .ireturn, 1)]
def ec_116 : List eI := [(0, .iconst 0, 1), (1, .istore_n 1, 1), (2, .iconst 0, 1), (3, .istore_n 2, 1), (4, .iload_n 2, 1), (5, .aload_n 0, 1), (6, .getfield 33, 3), (9, .iconst 2, 1), (10, .iaload, 1), (11, .if_icmp .ge 29, 3), (14, .iload_n 1, 1), (15, .aload_n 0, 1), (16, .iload_n 2, 1), (17, .invokevirtual 285, 3), (20, .ifCond .eq 11, 3), (23, .aload_n 0, 1), (24, .iload_n 2, 1), (25, .invokevirtual 304, 3), (28, .goto 4, 3), (31, .iconst 0, 1), (32, .ior, 1), (33, .istore_n 1, 1), (34, .iinc 2 1, 3), (37, .goto (-33), 3), (40, .iload_n 1, 1), (41, .aload_n 0, 1), (42, .getfield 33, 3), (45, .sipush 181, 3), (48, .iaload, 1), (49, .iconst (-1), 1), (50, .ixor, 1), (51, .iand, 1), (52, .ireturn, 1)]
def ec_117 : List eI := [(0, .aload_n 0, 1), (1, .iconst 0, 1), (2, .putfield 1, 3), (5, .aload_n 0, 1), (6, .sipush 940, 3), (9, .invokevirtual 260, 3), (12, .aload_n 0, 1), (13, .iload_n 1, 1), (14, .invokevirtual 275, 3), (17, .ifCond .eq 16, 3), (20, .aload_n 0, 1), (21, .getfield 18, 3), (24, .iconst 1, 1), (25, .bipush 6, 2), (27, .invokestatic 216, 3), (30, .ifCond .ne 5, 3), (33, .iconst (-1), 1), (34, .ireturn, 1), (35, .iconst 1, 1), (36, .iload_n 1, 1), (37, .ishl, 1), (38, .istore_n 2, 1), (39, .iconst 0, 1), (40, .istore_n 3, 1), (41, .iload_n 3, 1), (42, .aload_n 0, 1), (43, .getfield 18, 3), (46, .if_icmp .ge 45, 3), (49, .aload_n 0, 1), (50, .aload_n 0, 1), (51, .iload_n 3, 1), (52, .invokevirtual 409, 3), (55, .invokevirtual 275, 3), (58, .ifCond .eq 15, 3), (61, .iload_n 2, 1), (62, .aload_n 0, 1), (63, .iload_n 3, 1), (64, .invokevirtual 409, 3), (67, .invokestatic 254, 3), (70, .ifCond .eq 5, 3), (73, .iconst (-1), 1), (74, .ireturn, 1), (75, .iload_n 2, 1), (76, .iconst 1, 1), (77, .aload_n 0, 1), (78, .iload_n 3, 1), (79, .invokevirtual 409, 3), (82, .ishl, 1), (83, .ior, 1), (84, .istore_n 2, 1), (85, .iinc 3 1, 3), (88, .goto (-47), 3), (91, .aload_n 0, 1), (92, .invokevirtual 369, 3), (95, .iconst 0, 1), (96, .istore_n 3, 1), (97, .iload_n 3, 1), (98, .aload_n 0, 1), (99, .getfield 18, 3), (102, .if_icmp .ge 30, 3), (105, .aload_n 0, 1), (106, .aload_n 0, 1), (107, .iload_n 3, 1), (108, .invokevirtual 409, 3), (111, .invokevirtual 295, 3), (114, .ifCond .ne 12, 3), (117, .aload_n 0, 1), (118, .aload_n 0, 1), (119, .iload_n 3, 1), (120, .invokevirtual 409, 3), (123, .invokevirtual 313, 3), (126, .iinc 3 1, 3), (129, .goto (-32), 3), (132, .aload_n 0, 1), (133, .iload_n 1, 1), (134, .invokevirtual 298, 3), (137, .istore_n 3, 1), (138, .aload_n 0, 1), (139, .invokevirtual 375, 3), (142, .iload_n 3, 1), (143, .ireturn, 1)]
def ec_118 : List eI := [(0, .aload_n 0, 1), (1, .iconst 0, 1), (2, .putfield 1, 3), (5, .iload_n 1, 1), (6, .iconst 5, 1), (7, .if_icmp .ne 10, 3), (10, .aload_n 0, 1), (11, .getfield 7, 3), (14, .goto 22, 3), (17, .iload_n 1, 1), (18, .iconst 0, 1), (19, .iconst 4, 1), (20, .invokestatic 216, 3), (23, .ifCond .eq 12, 3), (26, .aload_n 0, 1), (27, .getfield 33, 3), (30, .iload_n 1, 1), (31, .iaload, 1), (32, .goto 4, 3), (35, .iconst (-1), 1), (36, .ireturn, 1)]
def ec_119 : List eI := [(0, .aload_n 0, 1), (1, .iconst 0, 1), (2, .putfield 1, 3), (5, .aload_n 0, 1), (6, .iload_n 1, 1), (7, .invokevirtual 278, 3), (10, .ifCond .eq 11, 3), (13, .aload_n 0, 1), (14, .iload_n 1, 1), (15, .invokevirtual 285, 3), (18, .ifCond .eq 5, 3), (21, .iconst (-1), 1), (22, .ireturn, 1), (23, .iconst 0, 1), (24, .istore_n 2, 1), (25, .iload_n 2, 1), (26, .sipush 144, 3), (29, .if_icmp .ge 16, 3), (32, .aload_n 0, 1), (33, .getfield 65, 3), (36, .iload_n 2, 1), (37, .iconst 0, 1), (38, .iastore, 1), (39, .iinc 2 1, 3), (42, .goto (-17), 3), (45, .iconst 0, 1), (46, .istore_n 2, 1), (47, .iload_n 2, 1), (48, .aload_n 0, 1), (49, .getfield 33, 3), (52, .iconst 3, 1), (53, .iaload, 1), (54, .if_icmp .ge 104, 3), (57, .aload_n 0, 1), (58, .getfield 33, 3), (61, .bipush 69, 2), (63, .iload_n 2, 1), (64, .iadd, 1), (65, .iaload, 1), (66, .iconst 1, 1), (67, .if_icmp .ne 8, 3), (70, .bipush 100, 2), (72, .goto 23, 3), (75, .aload_n 0, 1), (76, .getfield 33, 3), (79, .sipush 184, 3), (82, .iaload, 1), (83, .iload_n 2, 1), (84, .invokestatic 254, 3), (87, .ifCond .eq 7, 3), (90, .iconst 0, 1), (91, .goto 4, 3), (94, .iconst 1, 1), (95, .istore_n 3, 1), (96, .aload_n 0, 1), (97, .getfield 65, 3), (100, .bipush 12, 2), (102, .aload_n 0, 1), (103, .getfield 33, 3), (106, .bipush 29, 2), (108, .iload_n 2, 1), (109, .iadd, 1), (110, .iaload, 1), (111, .imul, 1), (112, .aload_n 0, 1), (113, .getfield 33, 3), (116, .bipush 49, 2), (118, .iload_n 2, 1), (119, .iadd, 1), (120, .iaload, 1), (121, .iadd, 1), (122, .iload_n 3, 1), (123, .iastore, 1), (124, .aload_n 0, 1), (125, .getfield 65, 3), (128, .bipush 12, 2), (130, .aload_n 0, 1), (131, .getfield 33, 3), (134, .bipush 49, 2), (136, .iload_n 2, 1), (137, .iadd, 1), (138, .iaload, 1), (139, .imul, 1), (140, .aload_n 0, 1), (141, .getfield 33, 3), (144, .bipush 29, 2), (146, .iload_n 2, 1), (147, .iadd, 1), (148, .iaload, 1), (149, .iadd, 1), (150, .iload_n 3, 1), (151, .iastore, 1), (152, .iinc 2 1, 3), (155, .goto (-108), 3), (158, .iconst 0, 1), (159, .istore_n 2, 1), (160, .iload_n 2, 1), (161, .bipush 100, 2), (163, .if_icmp .ge 79, 3), (166, .aload_n 0, 1), (167, .iload_n 1, 1), (168, .invokevirtual 388, 3), (171, .ifCond .eq 71, 3), (174, .iload_n 1, 1), (175, .istore_n 3, 1), (176, .aload_n 0, 1), (177, .getfield 68, 3), (180, .iload_n 3, 1), (181, .iaload, 1), (182, .iload_n 3, 1), (183, .if_icmp .eq 53, 3), (186, .aload_n 0, 1), (187, .getfield 65, 3), (190, .bipush 12, 2), (192, .aload_n 0, 1), (193, .getfield 68, 3), (196, .iload_n 3, 1), (197, .iaload, 1), (198, .imul, 1), (199, .iload_n 3, 1), (200, .iadd, 1), (201, .dup2, 1), (202, .iaload, 1), (203, .iconst 1, 1), (204, .isub, 1), (205, .iastore, 1), (206, .aload_n 0, 1), (207, .getfield 65, 3), (210, .bipush 12, 2), (212, .iload_n 3, 1), (213, .imul, 1), (214, .aload_n 0, 1), (215, .getfield 68, 3), (218, .iload_n 3, 1), (219, .iaload, 1), (220, .iadd, 1), (221, .dup2, 1), (222, .iaload, 1), (223, .iconst 1, 1), (224, .iadd, 1), (225, .iastore, 1), (226, .aload_n 0, 1), (227, .getfield 68, 3), (230, .iload_n 3, 1), (231, .iaload, 1), (232, .istore_n 3, 1), (233, .goto (-57), 3), (236, .iinc 2 1, 3), (239, .goto (-79), 3), (242, .iload_n 2, 1), (243, .bipush 100, 2), (245, .if_icmp .ge 7, 3), (248, .iload_n 2, 1), (249, .goto 4, 3), (252, .iconst (-1), 1), (253, .ireturn, 1)]
def ec_120 : List eI := [(0, .aload_n 0, 1), (1, .iconst 0, 1), (2, .putfield 1, 3), (5, .aload_n 0, 1), (6, .iload_n 1, 1), (7, .invokevirtual 275, 3), (10, .ifCond .ne 5, 3), (13, .iconst (-1), 1), (14, .ireturn, 1), (15, .aload_n 0, 1), (16, .iload_n 1, 1), (17, .invokevirtual 295, 3), (20, .ifCond .eq 5, 3), (23, .iconst 1, 1), (24, .ireturn, 1), (25, .aload_n 0, 1), (26, .invokevirtual 325, 3), (29, .aload_n 0, 1), (30, .iload_n 1, 1), (31, .invokevirtual 313, 3), (34, .iconst 0, 1), (35, .ireturn, 1)]
def ec_121 : List eI := [(0, .aload_n 0, 1), (1, .iconst 0, 1), (2, .putfield 1, 3), (5, .aload_n 0, 1), (6, .iload_n 1, 1), (7, .invokevirtual 351, 3), (10, .ifCond .eq 12, 3), (13, .aload_n 0, 1), (14, .getfield 33, 3), (17, .iconst 2, 1), (18, .iaload, 1), (19, .ifCond .ne 5, 3), (22, .iconst (-1), 1), (23, .ireturn, 1), (24, .aload_n 0, 1), (25, .invokevirtual 325, 3), (28, .aload_n 0, 1), (29, .iload_n 1, 1), (30, .iload_n 2, 1), (31, .invokevirtual 425, 3), (34, .aload_n 0, 1), (35, .getfield 33, 3), (38, .sipush 179, 3), (41, .iaload, 1), (42, .ireturn, 1)]
def ec_122 : List eI := [(0, .aload_n 0, 1), (1, .iconst 0, 1), (2, .putfield 1, 3), (5, .iload_n 1, 1), (6, .ifCond .lt 11, 3), (9, .iload_n 1, 1), (10, .aload_n 0, 1), (11, .getfield 7, 3), (14, .if_icmp .le 5, 3), (17, .iconst 0, 1), (18, .ireturn, 1), (19, .aload_n 0, 1), (20, .iload_n 1, 1), (21, .putfield 7, 3), (24, .iconst 1, 1), (25, .ireturn, 1)]
def ec_123 : List eI := [(0, .aload_n 0, 1), (1, .iconst 0, 1), (2, .putfield 1, 3), (5, .aload_n 0, 1), (6, .iload_n 1, 1), (7, .invokevirtual 275, 3), (10, .ifCond .ne 5, 3), (13, .iconst (-1), 1), (14, .ireturn, 1), (15, .aload_n 0, 1), (16, .invokevirtual 400, 3), (19, .aload_n 0, 1), (20, .getfield 77, 3), (23, .iload_n 1, 1), (24, .iaload, 1), (25, .ireturn, 1)]
def ec_124 : List eI := [(0, .iconst 0, 1), (1, .istore_n 1, 1), (2, .aload_n 0, 1), (3, .iconst 0, 1), (4, .putfield 394, 3), (7, .iconst 0, 1), (8, .istore_n 2, 1), (9, .iload_n 2, 1), (10, .aload_n 0, 1), (11, .getfield 33, 3), (14, .iconst 1, 1), (15, .iaload, 1), (16, .if_icmp .ge 100, 3), (19, .aload_n 0, 1), (20, .getfield 77, 3), (23, .iload_n 2, 1), (24, .iconst (-1), 1), (25, .iastore, 1), (26, .aload_n 0, 1), (27, .getfield 74, 3), (30, .iload_n 2, 1), (31, .iconst (-1), 1), (32, .iastore, 1), (33, .aload_n 0, 1), (34, .getfield 33, 3), (37, .iconst 2, 1), (38, .iaload, 1), (39, .iconst 1, 1), (40, .isub, 1), (41, .istore_n 3, 1), (42, .iload_n 3, 1), (43, .ifCond .lt 48, 3), (46, .aload_n 0, 1), (47, .iload_n 2, 1), (48, .invokevirtual 295, 3), (51, .ifCond .ne 40, 3), (54, .aload_n 0, 1), (55, .getfield 33, 3), (58, .sipush 185, 3), (61, .iload_n 3, 1), (62, .iadd, 1), (63, .iaload, 1), (64, .iload_n 2, 1), (65, .iconst 1, 1), (66, .iadd, 1), (67, .if_icmp .ne 18, 3), (70, .aload_n 0, 1), (71, .iload_n 3, 1), (72, .invokevirtual 285, 3), (75, .ifCond .ne 10, 3), (78, .aload_n 0, 1), (79, .getfield 74, 3), (82, .iload_n 2, 1), (83, .iload_n 3, 1), (84, .iastore, 1), (85, .iinc 3 (-1), 3), (88, .goto (-46), 3), (91, .iload_n 1, 1), (92, .aload_n 0, 1), (93, .getfield 74, 3), (96, .iload_n 2, 1), (97, .iaload, 1), (98, .ifCond .lt 9, 3), (101, .iconst 1, 1), (102, .iload_n 2, 1), (103, .ishl, 1), (104, .goto 4, 3), (107, .iconst 0, 1), (108, .ior, 1), (109, .istore_n 1, 1), (110, .iinc 2 1, 3), (113, .goto (-104), 3), (116, .iload_n 1, 1), (117, .ifCond .eq 177, 3), (120, .iconst 0, 1), (121, .istore_n 2, 1), (122, .iconst 0, 1), (123, .istore_n 3, 1), (124, .iload_n 3, 1), (125, .aload_n 0, 1), (126, .getfield 33, 3), (129, .iconst 1, 1), (130, .iaload, 1), (131, .if_icmp .ge 29, 3), (134, .iload_n 1, 1), (135, .iload_n 3, 1), (136, .invokestatic 254, 3), (139, .ifCond .eq 15, 3), (142, .aload_n 0, 1), (143, .getfield 80, 3), (146, .iload_n 3, 1), (147, .aload_n 0, 1), (148, .iload_n 3, 1), (149, .iload_n 1, 1), (150, .invokevirtual 397, 3), (153, .iastore, 1), (154, .iinc 3 1, 3), (157, .goto (-33), 3), (160, .iconst 0, 1), (161, .istore_n 3, 1), (162, .iload_n 3, 1), (163, .aload_n 0, 1), (164, .getfield 33, 3), (167, .iconst 1, 1), (168, .iaload, 1), (169, .if_icmp .ge 116, 3), (172, .iload_n 1, 1), (173, .iload_n 3, 1), (174, .invokestatic 254, 3), (177, .ifCond .ne 6, 3), (180, .goto 99, 3), (183, .iconst 0, 1), (184, .istore 4, 2), (186, .iload_n 3, 1), (187, .istore 5, 2), (189, .iload 4, 2), (191, .iconst 1, 1), (192, .iload 5, 2), (194, .ishl, 1), (195, .ior, 1), (196, .istore 4, 2), (198, .aload_n 0, 1), (199, .getfield 80, 3), (202, .iload 5, 2), (204, .iaload, 1), (205, .istore 5, 2), (207, .iload 4, 2), (209, .iload 5, 2), (211, .invokestatic 254, 3), (214, .ifCond .eq (-25), 3), (217, .iload 5, 2), (219, .iload_n 3, 1), (220, .if_icmp .eq 6, 3), (223, .goto 56, 3), (226, .aload_n 0, 1), (227, .getfield 77, 3), (230, .iload_n 3, 1), (231, .aload_n 0, 1), (232, .getfield 74, 3), (235, .aload_n 0, 1), (236, .getfield 80, 3), (239, .iload_n 3, 1), (240, .iaload, 1), (241, .iaload, 1), (242, .iastore, 1), (243, .iload_n 2, 1), (244, .iconst 1, 1), (245, .iload_n 3, 1), (246, .ishl, 1), (247, .ior, 1), (248, .istore_n 2, 1), (249, .iload 4, 2), (251, .invokestatic 372, 3), (254, .iconst 1, 1), (255, .if_icmp .le 24, 3), (258, .iload 4, 2), (260, .iconst 1, 1), (261, .iload_n 3, 1), (262, .ishl, 1), (263, .iconst 1, 1), (264, .isub, 1), (265, .iand, 1), (266, .ifCond .ne 13, 3), (269, .aload_n 0, 1), (270, .dup, 1), (271, .getfield 394, 3), (274, .iconst 1, 1), (275, .iadd, 1), (276, .putfield 394, 3), (279, .iinc 3 1, 3), (282, .goto (-120), 3), (285, .iload_n 1, 1), (286, .iload_n 2, 1), (287, .iconst (-1), 1), (288, .ixor, 1), (289, .iand, 1), (290, .istore_n 1, 1), (291, .goto (-175), 3), (294, .return_, 1)]
def ec_125 : List eI := [(0, .aload_n 0, 1), (1, .iconst 0, 1), (2, .putfield 1, 3), (5, .aload_n 0, 1), (6, .getfield 201, 3), (9, .ireturn, 1)]
def ec_126 : List eI := [(0, .aload_n 0, 1), (1, .iconst 0, 1), (2, .putfield 1, 3), (5, .aload_n 0, 1), (6, .getfield 7, 3), (9, .bipush 20, 2), (11, .iadd, 1), (12, .sipush 940, 3), (15, .if_icmp .le 5, 3), (18, .iconst (-1), 1), (19, .ireturn, 1), (20, .aload_n 0, 1), (21, .iload_n 1, 1), (22, .invokevirtual 10, 3), (25, .aload_n 0, 1), (26, .iload_n 2, 1), (27, .invokevirtual 10, 3), (30, .aload_n 0, 1), (31, .iload_n 3, 1), (32, .invokevirtual 10, 3), (35, .aload_n 0, 1), (36, .iload 4, 2), (38, .invokevirtual 10, 3), (41, .aload_n 0, 1), (42, .iload 5, 2), (44, .invokevirtual 10, 3), (47, .aload_n 0, 1), (48, .getfield 7, 3), (51, .ireturn, 1)]
def ec_127 : List eI := [(0, .aload_n 0, 1), (1, .iconst 0, 1), (2, .putfield 1, 3), (5, .aload_n 0, 1), (6, .iload_n 1, 1), (7, .invokevirtual 278, 3), (10, .ifCond .ne 5, 3), (13, .iconst (-1), 1), (14, .ireturn, 1), (15, .iconst 0, 1), (16, .istore_n 2, 1), (17, .iload_n 2, 1), (18, .bipush 13, 2), (20, .if_icmp .ge 23, 3), (23, .aload_n 0, 1), (24, .iload_n 2, 1), (25, .invokevirtual 385, 3), (28, .iload_n 1, 1), (29, .invokestatic 254, 3), (32, .ifCond .eq 5, 3), (35, .iload_n 2, 1), (36, .ireturn, 1), (37, .iinc 2 1, 3), (40, .goto (-23), 3), (43, .iconst (-1), 1), (44, .ireturn, 1)]
def ec_128 : List eI := [(0, .bipush 24, 2), (2, .istore_n 2, 1), (3, .iload_n 2, 1), (4, .ifCond .lt 32, 3), (7, .aload_n 0, 1), (8, .getfield 14, 3), (11, .aload_n 0, 1), (12, .getfield 7, 3), (15, .iload_n 1, 1), (16, .iload_n 2, 1), (17, .ishr, 1), (18, .i2b, 1), (19, .bastore, 1), (20, .aload_n 0, 1), (21, .dup, 1), (22, .getfield 7, 3), (25, .iconst 1, 1), (26, .iadd, 1), (27, .putfield 7, 3), (30, .iinc 2 (-8), 3), (33, .goto (-30), 3), (36, .return_, 1)]
def ec_129 : List eI := [(0, .aload_n 0, 1), (1, .iconst 0, 1), (2, .putfield 1, 3), (5, .aload_n 0, 1), (6, .iload_n 1, 1), (7, .invokevirtual 275, 3), (10, .ifCond .eq 11, 3), (13, .aload_n 0, 1), (14, .iload_n 2, 1), (15, .invokevirtual 278, 3), (18, .ifCond .ne 5, 3), (21, .iconst (-1), 1), (22, .ireturn, 1), (23, .aload_n 0, 1), (24, .iload_n 1, 1), (25, .iload_n 2, 1), (26, .invokevirtual 322, 3), (29, .istore_n 3, 1), (30, .iload_n 3, 1), (31, .ifCond .le 5, 3), (34, .iload_n 3, 1), (35, .ireturn, 1), (36, .aload_n 0, 1), (37, .invokevirtual 325, 3), (40, .aload_n 0, 1), (41, .iload_n 1, 1), (42, .iload_n 2, 1), (43, .invokevirtual 328, 3), (46, .iconst 0, 1), (47, .ireturn, 1)]
def ec_130 : List eI := [(0, .aload_n 0, 1), (1, .iconst 0, 1), (2, .putfield 1, 3), (5, .iload_n 1, 1), (6, .iconst 0, 1), (7, .aload_n 0, 1), (8, .getfield 33, 3), (11, .iconst 0, 1), (12, .iaload, 1), (13, .iconst 1, 1), (14, .isub, 1), (15, .invokestatic 216, 3), (18, .ifCond .ne 5, 3), (21, .iconst (-1), 1), (22, .ireturn, 1), (23, .aload_n 0, 1), (24, .iload_n 1, 1), (25, .invokevirtual 412, 3), (28, .istore_n 2, 1), (29, .iconst 0, 1), (30, .istore_n 3, 1), (31, .iconst 0, 1), (32, .istore 4, 2), (34, .iload 4, 2), (36, .aload_n 0, 1), (37, .getfield 33, 3), (40, .iconst 1, 1), (41, .iaload, 1), (42, .if_icmp .ge 110, 3), (45, .aload_n 0, 1), (46, .iload 4, 2), (48, .invokevirtual 295, 3), (51, .ifCond .ne 16, 3), (54, .iload_n 2, 1), (55, .iload 4, 2), (57, .invokestatic 254, 3), (60, .ifCond .ne 7, 3), (63, .iconst 1, 1), (64, .goto 4, 3), (67, .iconst 0, 1), (68, .istore 5, 2), (70, .iconst 0, 1), (71, .istore 6, 2), (73, .iload 6, 2), (75, .aload_n 0, 1), (76, .getfield 33, 3), (79, .iconst 1, 1), (80, .iaload, 1), (81, .if_icmp .ge 49, 3), (84, .iload 5, 2), (86, .ifCond .eq 35, 3), (89, .iload_n 2, 1), (90, .iload 6, 2), (92, .invokestatic 254, 3), (95, .ifCond .eq 22, 3), (98, .aload_n 0, 1), (99, .getfield 33, 3), (102, .sipush 203, 3), (105, .iload 6, 2), (107, .iadd, 1), (108, .iaload, 1), (109, .iload 4, 2), (111, .invokestatic 254, 3), (114, .ifCond .eq 7, 3), (117, .iconst 1, 1), (118, .goto 4, 3), (121, .iconst 0, 1), (122, .istore 5, 2), (124, .iinc 6 1, 3), (127, .goto (-54), 3), (130, .iload_n 3, 1), (131, .iload 5, 2), (133, .ifCond .eq 10, 3), (136, .iconst 1, 1), (137, .iload 4, 2), (139, .ishl, 1), (140, .goto 4, 3), (143, .iconst 0, 1), (144, .ior, 1), (145, .istore_n 3, 1), (146, .iinc 4 1, 3), (149, .goto (-115), 3), (152, .iload_n 3, 1), (153, .ireturn, 1)]
def ec_131 : List eI := [(0, .aload_n 0, 1), (1, .iconst 0, 1), (2, .putfield 1, 3), (5, .aload_n 0, 1), (6, .iload_n 1, 1), (7, .invokevirtual 275, 3), (10, .ifCond .eq 19, 3), (13, .aload_n 0, 1), (14, .iload_n 1, 1), (15, .invokevirtual 295, 3), (18, .ifCond .ne 11, 3), (21, .aload_n 0, 1), (22, .iload_n 1, 1), (23, .invokevirtual 310, 3), (26, .goto 4, 3), (29, .iconst (-1), 1), (30, .ireturn, 1)]
def ec_132 : List eI := [(0, .aload_n 0, 1), (1, .iconst 0, 1), (2, .putfield 1, 3), (5, .iload_n 1, 1), (6, .iconst 0, 1), (7, .iconst 1, 1), (8, .invokestatic 216, 3), (11, .ifCond .ne 5, 3), (14, .iconst 0, 1), (15, .ireturn, 1), (16, .iconst 0, 1), (17, .istore_n 2, 1), (18, .iload_n 2, 1), (19, .sipush 402, 3), (22, .if_icmp .ge 27, 3), (25, .aload_n 0, 1), (26, .getfield 105, 3), (29, .sipush 402, 3), (32, .iload_n 1, 1), (33, .imul, 1), (34, .iload_n 2, 1), (35, .iadd, 1), (36, .aload_n 0, 1), (37, .getfield 33, 3), (40, .iload_n 2, 1), (41, .iaload, 1), (42, .iastore, 1), (43, .iinc 2 1, 3), (46, .goto (-28), 3), (49, .iconst 0, 1), (50, .istore_n 2, 1), (51, .iload_n 2, 1), (52, .bipush 24, 2), (54, .if_icmp .ge 26, 3), (57, .aload_n 0, 1), (58, .getfield 108, 3), (61, .bipush 24, 2), (63, .iload_n 1, 1), (64, .imul, 1), (65, .iload_n 2, 1), (66, .iadd, 1), (67, .aload_n 0, 1), (68, .getfield 43, 3), (71, .iload_n 2, 1), (72, .laload, 1), (73, .lastore, 1), (74, .iinc 2 1, 3), (77, .goto (-26), 3), (80, .aload_n 0, 1), (81, .getfield 111, 3), (84, .iload_n 1, 1), (85, .iconst 1, 1), (86, .bastore, 1), (87, .iconst 1, 1), (88, .ireturn, 1)]
def ec_133 : List eI := [(0, .iload_n 0, 1), (1, .iload_n 1, 1), (2, .if_icmp .lt 12, 3), (5, .iload_n 0, 1), (6, .iload_n 2, 1), (7, .if_icmp .gt 7, 3), (10, .iconst 1, 1), (11, .goto 4, 3), (14, .iconst 0, 1), (15, .ireturn, 1)]
def ec_134 : List eI := [(0, .iload_n 1, 1), (1, .iconst 0, 1), (2, .aload_n 0, 1), (3, .getfield 33, 3), (6, .iconst 1, 1), (7, .iaload, 1), (8, .iconst 1, 1), (9, .isub, 1), (10, .invokestatic 216, 3), (13, .ireturn, 1)]
def ec_135 : List eI := [(0, .iload_n 1, 1), (1, .iconst 0, 1), (2, .aload_n 0, 1), (3, .getfield 33, 3), (6, .iconst 3, 1), (7, .iaload, 1), (8, .iconst 1, 1), (9, .isub, 1), (10, .invokestatic 216, 3), (13, .ireturn, 1)]
def ec_136 : List eI := [(0, .iload_n 1, 1), (1, .iconst 0, 1), (2, .aload_n 0, 1), (3, .getfield 33, 3), (6, .iconst 2, 1), (7, .iaload, 1), (8, .iconst 1, 1), (9, .isub, 1), (10, .invokestatic 216, 3), (13, .ireturn, 1)]
def ec_137 : List eI := [(0, .aload_n 0, 1), (1, .getfield 184, 3), (4, .iconst 3, 1), (5, .if_icmp .ne 15, 3), (8, .aload_n 0, 1), (9, .getfield 194, 3), (12, .iload_n 1, 1), (13, .if_icmp .ne 7, 3), (16, .iconst 1, 1), (17, .goto 4, 3), (20, .iconst 0, 1), (21, .ireturn, 1)]
def ec_138 : List eI := [(0, .aload_n 0, 1), (1, .getfield 184, 3), (4, .iconst 1, 1), (5, .if_icmp .ne 16, 3), (8, .aload_n 0, 1), (9, .getfield 197, 3), (12, .lload_n 1, 1), (13, .lcmp, 1), (14, .ifCond .ne 7, 3), (17, .iconst 1, 1), (18, .goto 4, 3), (21, .iconst 0, 1), (22, .ireturn, 1)]
def ec_139 : List eI := [(0, .aload_n 0, 1), (1, .getfield 272, 3), (4, .bipush 8, 2), (6, .if_icmp .ne 39, 3), (9, .iconst 0, 1), (10, .istore_n 1, 1), (11, .iload_n 1, 1), (12, .sipush 294, 3), (15, .if_icmp .ge 24, 3), (18, .aload_n 0, 1), (19, .getfield 50, 3), (22, .iload_n 1, 1), (23, .aload_n 0, 1), (24, .getfield 50, 3), (27, .iload_n 1, 1), (28, .bipush 42, 2), (30, .iadd, 1), (31, .iaload, 1), (32, .iastore, 1), (33, .iinc 1 1, 3), (36, .goto (-25), 3), (39, .aload_n 0, 1), (40, .bipush 7, 2), (42, .putfield 272, 3), (45, .iconst 0, 1), (46, .istore_n 1, 1), (47, .iload_n 1, 1), (48, .bipush 42, 2), (50, .if_icmp .ge 33, 3), (53, .aload_n 0, 1), (54, .getfield 50, 3), (57, .bipush 42, 2), (59, .aload_n 0, 1), (60, .getfield 272, 3), (63, .imul, 1), (64, .iload_n 1, 1), (65, .iadd, 1), (66, .aload_n 0, 1), (67, .getfield 33, 3), (70, .sipush 179, 3), (73, .iload_n 1, 1), (74, .iadd, 1), (75, .iaload, 1), (76, .iastore, 1), (77, .iinc 1 1, 3), (80, .goto (-33), 3), (83, .aload_n 0, 1), (84, .dup, 1), (85, .getfield 272, 3), (88, .iconst 1, 1), (89, .iadd, 1), (90, .putfield 272, 3), (93, .return_, 1)]
def ec_140 : List eI := [(0, .aload_n 0, 1), (1, .ldc2_w 158, 3), (4, .invokevirtual 235, 3), (7, .ifCond .eq 7, 3), (10, .iconst 0, 1), (11, .goto 104, 3), (14, .aload_n 0, 1), (15, .ldc2_w 160, 3), (18, .invokevirtual 235, 3), (21, .ifCond .eq 7, 3), (24, .iconst 1, 1), (25, .goto 90, 3), (28, .aload_n 0, 1), (29, .ldc2_w 162, 3), (32, .invokevirtual 235, 3), (35, .ifCond .eq 7, 3), (38, .iconst 2, 1), (39, .goto 76, 3), (42, .aload_n 0, 1), (43, .ldc2_w 164, 3), (46, .invokevirtual 235, 3), (49, .ifCond .eq 7, 3), (52, .iconst 3, 1), (53, .goto 62, 3), (56, .aload_n 0, 1), (57, .ldc2_w 166, 3), (60, .invokevirtual 235, 3), (63, .ifCond .eq 7, 3), (66, .iconst 4, 1), (67, .goto 48, 3), (70, .aload_n 0, 1), (71, .ldc2_w 168, 3), (74, .invokevirtual 235, 3), (77, .ifCond .eq 7, 3), (80, .iconst 5, 1), (81, .goto 34, 3), (84, .aload_n 0, 1), (85, .ldc2_w 170, 3), (88, .invokevirtual 235, 3), (91, .ifCond .eq 8, 3), (94, .bipush 6, 2), (96, .goto 19, 3), (99, .aload_n 0, 1), (100, .ldc2_w 172, 3), (103, .invokevirtual 235, 3), (106, .ifCond .eq 8, 3), (109, .bipush 7, 2), (111, .goto 4, 3), (114, .iconst (-1), 1), (115, .ireturn, 1)]
def ec_141 : List eI := [(0, .aload_n 0, 1), (1, .iconst 0, 1), (2, .putfield 1, 3), (5, .aload_n 0, 1), (6, .iload_n 1, 1), (7, .invokevirtual 275, 3), (10, .ifCond .eq 16, 3), (13, .aload_n 0, 1), (14, .getfield 33, 3), (17, .sipush 197, 3), (20, .iload_n 1, 1), (21, .iadd, 1), (22, .iaload, 1), (23, .ifCond .ne 5, 3), (26, .iconst 0, 1), (27, .ireturn, 1), (28, .aload_n 0, 1), (29, .invokevirtual 325, 3), (32, .aload_n 0, 1), (33, .getfield 33, 3), (36, .sipush 197, 3), (39, .iload_n 1, 1), (40, .iadd, 1), (41, .iconst 0, 1), (42, .iastore, 1), (43, .iconst 1, 1), (44, .ireturn, 1)]
def ec_142 : List eI := [(0, .aload_n 0, 1), (1, .iconst 0, 1), (2, .putfield 1, 3), (5, .aload_n 0, 1), (6, .iload_n 1, 1), (7, .iload_n 2, 1), (8, .invokevirtual 332, 3), (11, .ifCond .eq 12, 3), (14, .iload_n 3, 1), (15, .iconst 0, 1), (16, .iconst 1, 1), (17, .invokestatic 216, 3), (20, .ifCond .ne 5, 3), (23, .iconst (-1), 1), (24, .ireturn, 1), (25, .aload_n 0, 1), (26, .iload_n 1, 1), (27, .iload_n 2, 1), (28, .iload_n 3, 1), (29, .invokevirtual 342, 3), (32, .istore 4, 2), (34, .iload 4, 2), (36, .ifCond .le 6, 3), (39, .iload 4, 2), (41, .ireturn, 1), (42, .aload_n 0, 1), (43, .invokevirtual 325, 3), (46, .aload_n 0, 1), (47, .getfield 33, 3), (50, .sipush 203, 3), (53, .iload_n 1, 1), (54, .iadd, 1), (55, .dup2, 1), (56, .iaload, 1), (57, .iconst 1, 1), (58, .iload_n 2, 1), (59, .ishl, 1), (60, .ixor, 1), (61, .iastore, 1), (62, .iconst 0, 1), (63, .ireturn, 1)]
def ec_143 : List eI := [(0, .aload_n 0, 1), (1, .invokevirtual 316, 3), (4, .istore_n 1, 1), (5, .iconst 0, 1), (6, .istore_n 2, 1), (7, .iload_n 2, 1), (8, .aload_n 0, 1), (9, .getfield 33, 3), (12, .iconst 2, 1), (13, .iaload, 1), (14, .if_icmp .ge 22, 3), (17, .iload_n 1, 1), (18, .iload_n 2, 1), (19, .invokestatic 254, 3), (22, .ifCond .eq 8, 3), (25, .aload_n 0, 1), (26, .iload_n 2, 1), (27, .invokevirtual 319, 3), (30, .iinc 2 1, 3), (33, .goto (-26), 3), (36, .aload_n 0, 1), (37, .getfield 33, 3), (40, .sipush 179, 3), (43, .dup2, 1), (44, .iaload, 1), (45, .iconst 1, 1), (46, .iadd, 1), (47, .iastore, 1), (48, .return_, 1)]
def ec_144 : List eI := [(0, .aload_n 0, 1), (1, .iconst 0, 1), (2, .putfield 1, 3), (5, .aload_n 0, 1), (6, .iload_n 1, 1), (7, .invokevirtual 351, 3), (10, .ifCond .ne 5, 3), (13, .iconst (-1), 1), (14, .ireturn, 1), (15, .aload_n 0, 1), (16, .invokevirtual 325, 3), (19, .iconst 0, 1), (20, .istore_n 2, 1), (21, .iload_n 2, 1), (22, .iload_n 1, 1), (23, .if_icmp .ge 13, 3), (26, .aload_n 0, 1), (27, .invokevirtual 354, 3), (30, .iinc 2 1, 3), (33, .goto (-12), 3), (36, .aload_n 0, 1), (37, .getfield 33, 3), (40, .sipush 179, 3), (43, .iaload, 1), (44, .ireturn, 1)]
def ec_145 : List eI := [(0, .aload_n 0, 1), (1, .iconst 0, 1), (2, .putfield 1, 3), (5, .iconst 0, 1), (6, .istore_n 1, 1), (7, .iconst 0, 1), (8, .istore_n 2, 1), (9, .iload_n 2, 1), (10, .aload_n 0, 1), (11, .getfield 33, 3), (14, .iconst 0, 1), (15, .iaload, 1), (16, .if_icmp .ge 122, 3), (19, .iconst (-1), 1), (20, .istore_n 3, 1), (21, .iconst 0, 1), (22, .istore 4, 2), (24, .iconst 0, 1), (25, .istore 5, 2), (27, .iload 5, 2), (29, .aload_n 0, 1), (30, .getfield 33, 3), (33, .iconst 2, 1), (34, .iaload, 1), (35, .if_icmp .ge 82, 3), (38, .aload_n 0, 1), (39, .getfield 33, 3), (42, .iconst 5, 1), (43, .iload 5, 2), (45, .iadd, 1), (46, .iaload, 1), (47, .iload_n 2, 1), (48, .if_icmp .eq 6, 3), (51, .goto 60, 3), (54, .iload 4, 2), (56, .ifCond .ne 45, 3), (59, .aload_n 0, 1), (60, .getfield 33, 3), (63, .sipush 185, 3), (66, .iload 5, 2), (68, .iadd, 1), (69, .iaload, 1), (70, .ifCond .eq 31, 3), (73, .iload_n 3, 1), (74, .ifCond .lt 31, 3), (77, .aload_n 0, 1), (78, .getfield 33, 3), (81, .sipush 185, 3), (84, .iload_n 3, 1), (85, .iadd, 1), (86, .iaload, 1), (87, .aload_n 0, 1), (88, .getfield 33, 3), (91, .sipush 185, 3), (94, .iload 5, 2), (96, .iadd, 1), (97, .iaload, 1), (98, .if_icmp .eq 7, 3), (101, .iconst 1, 1), (102, .goto 4, 3), (105, .iconst 0, 1), (106, .istore 4, 2), (108, .iload 5, 2), (110, .istore_n 3, 1), (111, .iinc 5 1, 3), (114, .goto (-87), 3), (117, .iload_n 1, 1), (118, .iload 4, 2), (120, .ifCond .eq 9, 3), (123, .iconst 1, 1), (124, .iload_n 2, 1), (125, .ishl, 1), (126, .goto 4, 3), (129, .iconst 0, 1), (130, .ior, 1), (131, .istore_n 1, 1), (132, .iinc 2 1, 3), (135, .goto (-126), 3), (138, .iload_n 1, 1), (139, .ireturn, 1)]
def ec_146 : List eI := [(0, .aload_n 0, 1), (1, .iconst 0, 1), (2, .putfield 1, 3), (5, .iload_n 1, 1), (6, .tableswitch 89 0 5 #[38, 47, 56, 65, 71, 80], 38), (44, .aload_n 0, 1), (45, .getfield 33, 3), (48, .sipush 179, 3), (51, .iaload, 1), (52, .ireturn, 1), (53, .aload_n 0, 1), (54, .getfield 33, 3), (57, .sipush 180, 3), (60, .iaload, 1), (61, .ireturn, 1), (62, .aload_n 0, 1), (63, .getfield 33, 3), (66, .sipush 181, 3), (69, .iaload, 1), (70, .ireturn, 1), (71, .aload_n 0, 1), (72, .iconst (-1), 1), (73, .invokevirtual 298, 3), (76, .ireturn, 1), (77, .aload_n 0, 1), (78, .getfield 33, 3), (81, .sipush 182, 3), (84, .iaload, 1), (85, .ireturn, 1), (86, .aload_n 0, 1), (87, .getfield 33, 3), (90, .sipush 183, 3), (93, .iaload, 1), (94, .ireturn, 1), (95, .iconst (-1), 1), (96, .ireturn, 1)]
def ec_147 : List eI := [(0, .aload_n 0, 1), (1, .iconst 0, 1), (2, .putfield 1, 3), (5, .aload_n 0, 1), (6, .iload_n 1, 1), (7, .invokevirtual 278, 3), (10, .ifCond .eq 30, 3), (13, .iload_n 2, 1), (14, .iconst 1, 1), (15, .bipush 40, 2), (17, .invokestatic 216, 3), (20, .ifCond .eq 20, 3), (23, .aload_n 0, 1), (24, .getfield 33, 3), (27, .sipush 179, 3), (30, .iaload, 1), (31, .bipush 20, 2), (33, .iadd, 1), (34, .sipush 999, 3), (37, .if_icmp .le 5, 3), (40, .iconst (-1), 1), (41, .ireturn, 1), (42, .aload_n 0, 1), (43, .invokevirtual 369, 3), (46, .iconst 0, 1), (47, .istore 4, 2), (49, .iconst 0, 1), (50, .istore 5, 2), (52, .iload 5, 2), (54, .iload_n 2, 1), (55, .if_icmp .ge 41, 3), (58, .aload_n 0, 1), (59, .bipush 20, 2), (61, .iload_n 3, 1), (62, .iload 5, 2), (64, .iadd, 1), (65, .invokevirtual 425, 3), (68, .iload 4, 2), (70, .aload_n 0, 1), (71, .iload_n 1, 1), (72, .invokevirtual 285, 3), (75, .ifCond .eq 7, 3), (78, .iconst 1, 1), (79, .goto 4, 3), (82, .iconst 0, 1), (83, .iadd, 1), (84, .istore 4, 2), (86, .aload_n 0, 1), (87, .invokevirtual 375, 3), (90, .iinc 5 1, 3), (93, .goto (-41), 3), (96, .iload 4, 2), (98, .ireturn, 1)]
def ec_148 : List eI := [(0, .aload_n 0, 1), (1, .ldc2_w 156, 3), (4, .invokevirtual 235, 3), (7, .istore_n 1, 1), (8, .aload_n 0, 1), (9, .bipush 40, 2), (11, .invokevirtual 207, 3), (14, .istore_n 2, 1), (15, .aload_n 0, 1), (16, .invokevirtual 461, 3), (19, .istore_n 3, 1), (20, .iload_n 1, 1), (21, .ifCond .ne 17, 3), (24, .iload_n 2, 1), (25, .ifCond .ne 13, 3), (28, .iload_n 3, 1), (29, .ifCond .ge 9, 3), (32, .aload_n 0, 1), (33, .iconst 1, 1), (34, .invokevirtual 210, 3), (37, .ireturn, 1), (38, .aload_n 0, 1), (39, .getfield 464, 3), (42, .bipush 20, 2), (44, .if_icmp .eq 12, 3), (47, .aload_n 0, 1), (48, .getfield 458, 3), (51, .bipush 8, 2), (53, .if_icmp .le 9, 3), (56, .aload_n 0, 1), (57, .iconst 4, 1), (58, .invokevirtual 210, 3), (61, .ireturn, 1), (62, .aload_n 0, 1), (63, .dup, 1), (64, .getfield 464, 3), (67, .iconst 1, 1), (68, .iadd, 1), (69, .putfield 464, 3), (72, .aload_n 0, 1), (73, .invokevirtual 213, 3), (76, .iload_n 1, 1), (77, .ifCond .ne 7, 3), (80, .iload_n 2, 1), (81, .ifCond .eq 45, 3), (84, .aload_n 0, 1), (85, .getfield 98, 3), (88, .aload_n 0, 1), (89, .getfield 451, 3), (92, .iload_n 1, 1), (93, .ifCond .eq 8, 3), (96, .bipush 20, 2), (98, .goto 5, 3), (101, .bipush 23, 2), (103, .iastore, 1), (104, .aload_n 0, 1), (105, .dup, 1), (106, .getfield 451, 3), (109, .iconst 1, 1), (110, .iadd, 1), (111, .putfield 451, 3), (114, .aload_n 0, 1), (115, .dup, 1), (116, .getfield 458, 3), (119, .iconst 1, 1), (120, .iadd, 1), (121, .putfield 458, 3), (124, .iconst 1, 1), (125, .ireturn, 1), (126, .aload_n 0, 1), (127, .iconst 1, 1), (128, .putfield 467, 3), (131, .iload_n 3, 1), (132, .iconst 2, 1), (133, .if_icmp .ge 12, 3), (136, .aload_n 0, 1), (137, .iload_n 3, 1), (138, .iconst 0, 1), (139, .iconst 0, 1), (140, .invokevirtual 454, 3), (143, .iconst 1, 1), (144, .ireturn, 1), (145, .iload_n 3, 1), (146, .iconst 4, 1), (147, .if_icmp .ge 74, 3), (150, .aload_n 0, 1), (151, .invokevirtual 223, 3), (154, .ifCond .ne 9, 3), (157, .aload_n 0, 1), (158, .iconst 1, 1), (159, .invokevirtual 210, 3), (162, .ireturn, 1), (163, .iload_n 3, 1), (164, .iconst 2, 1), (165, .if_icmp .ne 18, 3), (168, .aload_n 0, 1), (169, .bipush 6, 2), (171, .aload_n 0, 1), (172, .getfield 33, 3), (175, .iconst 1, 1), (176, .iaload, 1), (177, .invokevirtual 227, 3), (180, .goto 14, 3), (183, .aload_n 0, 1), (184, .iconst 0, 1), (185, .aload_n 0, 1), (186, .getfield 33, 3), (189, .iconst 0, 1), (190, .iaload, 1), (191, .invokevirtual 227, 3), (194, .istore 4, 2), (196, .iload 4, 2), (198, .ifCond .ge 9, 3), (201, .aload_n 0, 1), (202, .iconst 3, 1), (203, .invokevirtual 210, 3), (206, .ireturn, 1), (207, .aload_n 0, 1), (208, .iload_n 3, 1), (209, .iconst 0, 1), (210, .iload 4, 2), (212, .invokevirtual 454, 3), (215, .aload_n 0, 1), (216, .invokevirtual 213, 3), (219, .iconst 1, 1), (220, .ireturn, 1), (221, .aload_n 0, 1), (222, .getfield 184, 3), (225, .iconst 3, 1), (226, .if_icmp .ne 21, 3), (229, .aload_n 0, 1), (230, .getfield 194, 3), (233, .bipush 60, 2), (235, .if_icmp .lt 12, 3), (238, .aload_n 0, 1), (239, .getfield 194, 3), (242, .bipush 62, 2), (244, .if_icmp .le 9, 3), (247, .aload_n 0, 1), (248, .iconst 1, 1), (249, .invokevirtual 210, 3), (252, .ireturn, 1), (253, .aload_n 0, 1), (254, .getfield 194, 3), (257, .istore 4, 2), (259, .aload_n 0, 1), (260, .invokevirtual 213, 3), (263, .aload_n 0, 1), (264, .getfield 184, 3), (267, .iconst 2, 1), (268, .if_icmp .eq 9, 3), (271, .aload_n 0, 1), (272, .iconst 1, 1), (273, .invokevirtual 210, 3), (276, .ireturn, 1), (277, .aload_n 0, 1), (278, .iload_n 3, 1), (279, .iload 4, 2), (281, .aload_n 0, 1), (282, .getfield 194, 3), (285, .invokevirtual 454, 3), (288, .aload_n 0, 1), (289, .invokevirtual 213, 3), (292, .iconst 1, 1), (293, .ireturn, 1)]
def ec_149 : List eI := [(0, .aload_n 0, 1), (1, .iconst 0, 1), (2, .putfield 1, 3), (5, .aload_n 0, 1), (6, .iload_n 1, 1), (7, .invokevirtual 275, 3), (10, .ifCond .ne 5, 3), (13, .iconst (-1), 1), (14, .ireturn, 1), (15, .iload_n 2, 1), (16, .tableswitch 108 0 5 #[40, 53, 67, 73, 84, 97], 40), (56, .aload_n 0, 1), (57, .getfield 33, 3), (60, .sipush 197, 3), (63, .iload_n 1, 1), (64, .iadd, 1), (65, .iaload, 1), (66, .iconst 1, 1), (67, .isub, 1), (68, .ireturn, 1), (69, .aload_n 0, 1), (70, .iload_n 1, 1), (71, .invokevirtual 295, 3), (74, .ifCond .eq 7, 3), (77, .iconst 0, 1), (78, .goto 4, 3), (81, .iconst 1, 1), (82, .ireturn, 1), (83, .aload_n 0, 1), (84, .iload_n 1, 1), (85, .invokevirtual 298, 3), (88, .ireturn, 1), (89, .aload_n 0, 1), (90, .getfield 33, 3), (93, .sipush 203, 3), (96, .iload_n 1, 1), (97, .iadd, 1), (98, .iaload, 1), (99, .ireturn, 1), (100, .aload_n 0, 1), (101, .getfield 33, 3), (104, .sipush 209, 3), (107, .iload_n 1, 1), (108, .iadd, 1), (109, .iaload, 1), (110, .iconst 1, 1), (111, .isub, 1), (112, .ireturn, 1), (113, .aload_n 0, 1), (114, .getfield 33, 3), (117, .sipush 215, 3), (120, .iload_n 1, 1), (121, .iadd, 1), (122, .iaload, 1), (123, .ireturn, 1), (124, .iconst (-1), 1), (125, .ireturn, 1)]
def ec_150 : List eI := [(0, .aload_n 0, 1), (1, .iconst 0, 1), (2, .putfield 1, 3), (5, .aload_n 0, 1), (6, .iload_n 1, 1), (7, .invokevirtual 301, 3), (10, .ifCond .ne 5, 3), (13, .iconst (-1), 1), (14, .ireturn, 1), (15, .iload_n 2, 1), (16, .tableswitch 75 0 3 #[32, 42, 52, 62], 32), (48, .aload_n 0, 1), (49, .getfield 33, 3), (52, .bipush 29, 2), (54, .iload_n 1, 1), (55, .iadd, 1), (56, .iaload, 1), (57, .ireturn, 1), (58, .aload_n 0, 1), (59, .getfield 33, 3), (62, .bipush 49, 2), (64, .iload_n 1, 1), (65, .iadd, 1), (66, .iaload, 1), (67, .ireturn, 1), (68, .aload_n 0, 1), (69, .getfield 33, 3), (72, .bipush 69, 2), (74, .iload_n 1, 1), (75, .iadd, 1), (76, .iaload, 1), (77, .ireturn, 1), (78, .aload_n 0, 1), (79, .getfield 33, 3), (82, .sipush 184, 3), (85, .iaload, 1), (86, .iload_n 1, 1), (87, .ishr, 1), (88, .iconst 1, 1), (89, .iand, 1), (90, .ireturn, 1), (91, .iconst (-1), 1), (92, .ireturn, 1)]
def ec_151 : List eI := [(0, .aload_n 0, 1), (1, .getfield 21, 3), (4, .aload_n 0, 1), (5, .getfield 18, 3), (8, .if_icmp .ge 19, 3), (11, .aload_n 0, 1), (12, .getfield 14, 3), (15, .aload_n 0, 1), (16, .getfield 21, 3), (19, .baload, 1), (20, .sipush 255, 3), (23, .iand, 1), (24, .goto 4, 3), (27, .iconst (-1), 1), (28, .ireturn, 1)]
def ec_152 : List eI := [(0, .aload_n 0, 1), (1, .iconst 0, 1), (2, .putfield 1, 3), (5, .iload_n 1, 1), (6, .iconst 0, 1), (7, .aload_n 0, 1), (8, .getfield 92, 3), (11, .iconst 1, 1), (12, .isub, 1), (13, .invokestatic 216, 3), (16, .ifCond .eq 12, 3), (19, .aload_n 0, 1), (20, .getfield 83, 3), (23, .iload_n 1, 1), (24, .iaload, 1), (25, .goto 4, 3), (28, .iconst (-1), 1), (29, .ireturn, 1)]
def ec_153 : List eI := [(0, .aload_n 0, 1), (1, .iconst 0, 1), (2, .putfield 1, 3), (5, .iconst 0, 1), (6, .istore_n 1, 1), (7, .iload_n 1, 1), (8, .bipush 12, 2), (10, .if_icmp .ge 16, 3), (13, .aload_n 0, 1), (14, .getfield 83, 3), (17, .iload_n 1, 1), (18, .iconst 0, 1), (19, .iastore, 1), (20, .iinc 1 1, 3), (23, .goto (-16), 3), (26, .iconst 0, 1), (27, .istore_n 1, 1), (28, .iconst 1, 1), (29, .istore_n 2, 1), (30, .iload_n 2, 1), (31, .ifCond .eq 130, 3), (34, .iload_n 1, 1), (35, .bipush 99, 2), (37, .if_icmp .ge 124, 3), (40, .iconst 0, 1), (41, .istore_n 2, 1), (42, .iinc 1 1, 3), (45, .iconst 0, 1), (46, .istore_n 3, 1), (47, .iload_n 3, 1), (48, .bipush 12, 2), (50, .if_icmp .ge 16, 3), (53, .aload_n 0, 1), (54, .getfield 89, 3), (57, .iload_n 3, 1), (58, .iconst 0, 1), (59, .iastore, 1), (60, .iinc 3 1, 3), (63, .goto (-16), 3), (66, .iconst 0, 1), (67, .istore_n 3, 1), (68, .iload_n 3, 1), (69, .aload_n 0, 1), (70, .getfield 33, 3), (73, .iconst 1, 1), (74, .iaload, 1), (75, .if_icmp .ge 44, 3), (78, .aload_n 0, 1), (79, .getfield 86, 3), (82, .iload_n 3, 1), (83, .aload_n 0, 1), (84, .iload_n 3, 1), (85, .invokevirtual 403, 3), (88, .iastore, 1), (89, .aload_n 0, 1), (90, .getfield 86, 3), (93, .iload_n 3, 1), (94, .iaload, 1), (95, .ifCond .lt 18, 3), (98, .aload_n 0, 1), (99, .getfield 89, 3), (102, .aload_n 0, 1), (103, .getfield 86, 3), (106, .iload_n 3, 1), (107, .iaload, 1), (108, .dup2, 1), (109, .iaload, 1), (110, .iconst 1, 1), (111, .iadd, 1), (112, .iastore, 1), (113, .iinc 3 1, 3), (116, .goto (-48), 3), (119, .iconst 0, 1), (120, .istore_n 3, 1), (121, .iload_n 3, 1), (122, .bipush 12, 2), (124, .if_icmp .ge 34, 3), (127, .aload_n 0, 1), (128, .getfield 89, 3), (131, .iload_n 3, 1), (132, .iaload, 1), (133, .iconst 2, 1), (134, .if_icmp .ge 6, 3), (137, .goto 15, 3), (140, .aload_n 0, 1), (141, .getfield 83, 3), (144, .iload_n 3, 1), (145, .dup2, 1), (146, .iaload, 1), (147, .iconst 1, 1), (148, .iadd, 1), (149, .iastore, 1), (150, .iconst 1, 1), (151, .istore_n 2, 1), (152, .iinc 3 1, 3), (155, .goto (-34), 3), (158, .goto (-128), 3), (161, .aload_n 0, 1), (162, .aload_n 0, 1), (163, .getfield 33, 3), (166, .iconst 2, 1), (167, .iaload, 1), (168, .putfield 92, 3), (171, .aload_n 0, 1), (172, .aload_n 0, 1), (173, .getfield 33, 3), (176, .iconst 1, 1), (177, .iaload, 1), (178, .putfield 406, 3), (181, .iload_n 1, 1), (182, .ireturn, 1)]
def ec_154 : List eI := [(0, .aload_n 0, 1), (1, .iconst 0, 1), (2, .putfield 1, 3), (5, .iload_n 1, 1), (6, .iconst 0, 1), (7, .iconst 1, 1), (8, .invokestatic 216, 3), (11, .ifCond .eq 12, 3), (14, .aload_n 0, 1), (15, .getfield 111, 3), (18, .iload_n 1, 1), (19, .baload, 1), (20, .ifCond .ne 5, 3), (23, .iconst 0, 1), (24, .ireturn, 1), (25, .iconst 0, 1), (26, .istore_n 2, 1), (27, .iload_n 2, 1), (28, .sipush 402, 3), (31, .if_icmp .ge 27, 3), (34, .aload_n 0, 1), (35, .getfield 33, 3), (38, .iload_n 2, 1), (39, .aload_n 0, 1), (40, .getfield 105, 3), (43, .sipush 402, 3), (46, .iload_n 1, 1), (47, .imul, 1), (48, .iload_n 2, 1), (49, .iadd, 1), (50, .iaload, 1), (51, .iastore, 1), (52, .iinc 2 1, 3), (55, .goto (-28), 3), (58, .iconst 0, 1), (59, .istore_n 2, 1), (60, .iload_n 2, 1), (61, .bipush 24, 2), (63, .if_icmp .ge 26, 3), (66, .aload_n 0, 1), (67, .getfield 43, 3), (70, .iload_n 2, 1), (71, .aload_n 0, 1), (72, .getfield 108, 3), (75, .bipush 24, 2), (77, .iload_n 1, 1), (78, .imul, 1), (79, .iload_n 2, 1), (80, .iadd, 1), (81, .laload, 1), (82, .lastore, 1), (83, .iinc 2 1, 3), (86, .goto (-26), 3), (89, .aload_n 0, 1), (90, .iconst 0, 1), (91, .putfield 272, 3), (94, .iconst 1, 1), (95, .ireturn, 1)]
def ec_155 : List eI := [(0, .aload_n 0, 1), (1, .iconst 0, 1), (2, .putfield 1, 3), (5, .aload_n 0, 1), (6, .invokevirtual 400, 3), (9, .aload_n 0, 1), (10, .getfield 394, 3), (13, .ireturn, 1)]
def ec_156 : List eI := [(0, .aload_n 0, 1), (1, .aload_n 0, 1), (2, .iload_n 1, 1), (3, .invokevirtual 278, 3), (6, .ifCond .eq 12, 3), (9, .iload_n 2, 1), (10, .iconst 0, 1), (11, .iconst 4, 1), (12, .invokestatic 216, 3), (15, .ifCond .ne 7, 3), (18, .iconst 1, 1), (19, .goto 4, 3), (22, .iconst 0, 1), (23, .invokevirtual 281, 3), (26, .ifCond .eq 5, 3), (29, .iconst 0, 1), (30, .ireturn, 1), (31, .iload_n 2, 1), (32, .tableswitch 74 0 3 #[32, 41, 54, 68], 32), (64, .aload_n 0, 1), (65, .getfield 33, 3), (68, .iconst 5, 1), (69, .iload_n 1, 1), (70, .iadd, 1), (71, .iaload, 1), (72, .ireturn, 1), (73, .aload_n 0, 1), (74, .getfield 33, 3), (77, .sipush 185, 3), (80, .iload_n 1, 1), (81, .iadd, 1), (82, .iaload, 1), (83, .iconst 1, 1), (84, .isub, 1), (85, .ireturn, 1), (86, .aload_n 0, 1), (87, .iload_n 1, 1), (88, .invokevirtual 285, 3), (91, .ifCond .eq 7, 3), (94, .iconst 1, 1), (95, .goto 4, 3), (98, .iconst 0, 1), (99, .ireturn, 1), (100, .aload_n 0, 1), (101, .iload_n 1, 1), (102, .invokevirtual 288, 3), (105, .ireturn, 1), (106, .aload_n 0, 1), (107, .iload_n 1, 1), (108, .invokevirtual 292, 3), (111, .ireturn, 1)]
def ec_157 : List eI := [(0, .iconst 0, 1), (1, .istore_n 2, 1), (2, .iconst 0, 1), (3, .istore_n 3, 1), (4, .iload_n 3, 1), (5, .aload_n 0, 1), (6, .getfield 33, 3), (9, .iconst 2, 1), (10, .iaload, 1), (11, .if_icmp .ge 35, 3), (14, .iload_n 2, 1), (15, .aload_n 0, 1), (16, .getfield 33, 3), (19, .sipush 185, 3), (22, .iload_n 3, 1), (23, .iadd, 1), (24, .iaload, 1), (25, .iload_n 1, 1), (26, .iconst 1, 1), (27, .iadd, 1), (28, .if_icmp .ne 9, 3), (31, .iconst 1, 1), (32, .iload_n 3, 1), (33, .ishl, 1), (34, .goto 4, 3), (37, .iconst 0, 1), (38, .ior, 1), (39, .istore_n 2, 1), (40, .iinc 3 1, 3), (43, .goto (-39), 3), (46, .iload_n 2, 1), (47, .ireturn, 1)]
def ec_158 : List eI := [(0, .aload_n 0, 1), (1, .iconst 0, 1), (2, .putfield 1, 3), (5, .aload_n 0, 1), (6, .getfield 33, 3), (9, .sipush 221, 3), (12, .iaload, 1), (13, .ifCond .eq 8, 3), (16, .iload_n 1, 1), (17, .iconst (-1), 1), (18, .if_icmp .ge 5, 3), (21, .iconst (-1), 1), (22, .ireturn, 1), (23, .iconst 0, 1), (24, .istore_n 2, 1), (25, .iconst 0, 1), (26, .istore_n 3, 1), (27, .iload_n 3, 1), (28, .aload_n 0, 1), (29, .getfield 33, 3), (32, .iconst 2, 1), (33, .iaload, 1), (34, .if_icmp .ge 30, 3), (37, .aload_n 0, 1), (38, .iload_n 3, 1), (39, .invokevirtual 489, 3), (42, .ifCond .ne 6, 3), (45, .goto 13, 3), (48, .iload_n 2, 1), (49, .iload_n 1, 1), (50, .if_icmp .ne 5, 3), (53, .iload_n 3, 1), (54, .ireturn, 1), (55, .iinc 2 1, 3), (58, .iinc 3 1, 3), (61, .goto (-34), 3), (64, .iload_n 1, 1), (65, .iconst (-1), 1), (66, .if_icmp .ne 7, 3), (69, .iload_n 2, 1), (70, .goto 4, 3), (73, .iconst (-1), 1), (74, .ireturn, 1)]
def ec_159 : List eI := [(0, .aload_n 0, 1), (1, .iconst 0, 1), (2, .putfield 1, 3), (5, .aload_n 0, 1), (6, .iload_n 1, 1), (7, .iload_n 3, 1), (8, .invokevirtual 332, 3), (11, .ifCond .eq 11, 3), (14, .aload_n 0, 1), (15, .iload_n 2, 1), (16, .invokevirtual 278, 3), (19, .ifCond .ne 5, 3), (22, .iconst (-1), 1), (23, .ireturn, 1), (24, .aload_n 0, 1), (25, .iload_n 1, 1), (26, .iload_n 2, 1), (27, .iload_n 3, 1), (28, .invokevirtual 335, 3), (31, .istore 4, 2), (33, .iload 4, 2), (35, .ifCond .le 6, 3), (38, .iload 4, 2), (40, .ireturn, 1), (41, .aload_n 0, 1), (42, .invokevirtual 325, 3), (45, .aload_n 0, 1), (46, .iload_n 2, 1), (47, .iload_n 3, 1), (48, .invokevirtual 339, 3), (51, .iconst 0, 1), (52, .ireturn, 1)]
def ec_160 : List eI := [(0, .aload_n 0, 1), (1, .iconst 0, 1), (2, .putfield 1, 3), (5, .aload_n 0, 1), (6, .sipush 200, 3), (9, .invokevirtual 260, 3), (12, .aload_n 0, 1), (13, .iconst 0, 1), (14, .putfield 201, 3), (17, .aload_n 0, 1), (18, .iconst 0, 1), (19, .putfield 448, 3), (22, .aload_n 0, 1), (23, .iconst 0, 1), (24, .putfield 464, 3), (27, .aload_n 0, 1), (28, .iconst 0, 1), (29, .putfield 451, 3), (32, .aload_n 0, 1), (33, .iconst 1, 1), (34, .putfield 458, 3), (37, .aload_n 0, 1), (38, .iconst 0, 1), (39, .putfield 467, 3), (42, .aload_n 0, 1), (43, .invokevirtual 213, 3), (46, .iconst 1, 1), (47, .istore_n 1, 1), (48, .iload_n 1, 1), (49, .ifCond .eq 83, 3), (52, .aload_n 0, 1), (53, .getfield 467, 3), (56, .ifCond .eq 45, 3), (59, .aload_n 0, 1), (60, .getfield 184, 3), (63, .ifCond .ne 38, 3), (66, .aload_n 0, 1), (67, .invokevirtual 470, 3), (70, .aload_n 0, 1), (71, .bipush 22, 2), (73, .invokevirtual 473, 3), (76, .aload_n 0, 1), (77, .getfield 451, 3), (80, .ifCond .le 16, 3), (83, .aload_n 0, 1), (84, .iconst 1, 1), (85, .invokevirtual 210, 3), (88, .pop, 1), (89, .iconst (-1), 1), (90, .aload_n 0, 1), (91, .getfield 204, 3), (94, .isub, 1), (95, .ireturn, 1), (96, .iconst 0, 1), (97, .istore_n 1, 1), (98, .goto (-50), 3), (101, .aload_n 0, 1), (102, .getfield 467, 3), (105, .ifCond .eq 13, 3), (108, .aload_n 0, 1), (109, .invokevirtual 476, 3), (112, .ifCond .ne (-64), 3), (115, .goto 10, 3), (118, .aload_n 0, 1), (119, .invokevirtual 479, 3), (122, .ifCond .ne (-74), 3), (125, .iconst (-1), 1), (126, .aload_n 0, 1), (127, .getfield 204, 3), (130, .isub, 1), (131, .ireturn, 1), (132, .aload_n 0, 1), (133, .getfield 33, 3), (136, .sipush 221, 3), (139, .aload_n 0, 1), (140, .getfield 448, 3), (143, .iastore, 1), (144, .iconst 0, 1), (145, .istore_n 2, 1), (146, .iload_n 2, 1), (147, .iconst 3, 1), (148, .aload_n 0, 1), (149, .getfield 448, 3), (152, .imul, 1), (153, .if_icmp .ge 25, 3), (156, .aload_n 0, 1), (157, .getfield 33, 3), (160, .sipush 222, 3), (163, .iload_n 2, 1), (164, .iadd, 1), (165, .aload_n 0, 1), (166, .getfield 40, 3), (169, .iload_n 2, 1), (170, .iaload, 1), (171, .iastore, 1), (172, .iinc 2 1, 3), (175, .goto (-29), 3), (178, .aload_n 0, 1), (179, .getfield 464, 3), (182, .ireturn, 1)]
def ec_161 : List eI := [(0, .aload_n 0, 1), (1, .iconst 0, 1), (2, .putfield 1, 3), (5, .aload_n 0, 1), (6, .iload_n 1, 1), (7, .invokevirtual 301, 3), (10, .ifCond .eq 12, 3), (13, .iload_n 2, 1), (14, .iconst 0, 1), (15, .iconst 1, 1), (16, .invokestatic 216, 3), (19, .ifCond .ne 5, 3), (22, .iconst (-1), 1), (23, .ireturn, 1), (24, .aload_n 0, 1), (25, .iload_n 1, 1), (26, .iload_n 2, 1), (27, .invokevirtual 348, 3), (30, .istore_n 3, 1), (31, .iload_n 3, 1), (32, .ifCond .le 5, 3), (35, .iload_n 3, 1), (36, .ireturn, 1), (37, .aload_n 0, 1), (38, .invokevirtual 325, 3), (41, .aload_n 0, 1), (42, .getfield 33, 3), (45, .sipush 184, 3), (48, .dup2, 1), (49, .iaload, 1), (50, .iconst 1, 1), (51, .iload_n 1, 1), (52, .ishl, 1), (53, .ixor, 1), (54, .iastore, 1), (55, .iconst 0, 1), (56, .ireturn, 1)]
def ec_162 : List eI := [(0, .aload_n 0, 1), (1, .invokevirtual 174, 3), (4, .bipush 32, 2), (6, .if_icmp .eq 12, 3), (9, .aload_n 0, 1), (10, .invokevirtual 174, 3), (13, .bipush 10, 2), (15, .if_icmp .ne 16, 3), (18, .aload_n 0, 1), (19, .dup, 1), (20, .getfield 21, 3), (23, .iconst 1, 1), (24, .iadd, 1), (25, .putfield 21, 3), (28, .goto (-28), 3), (31, .aload_n 0, 1), (32, .aload_n 0, 1), (33, .getfield 21, 3), (36, .putfield 178, 3), (39, .aload_n 0, 1), (40, .iconst 0, 1), (41, .putfield 181, 3), (44, .aload_n 0, 1), (45, .getfield 18, 3), (48, .aload_n 0, 1), (49, .getfield 24, 3), (52, .if_icmp .le 28, 3), (55, .aload_n 0, 1), (56, .getfield 21, 3), (59, .aload_n 0, 1), (60, .getfield 24, 3), (63, .if_icmp .lt 17, 3), (66, .aload_n 0, 1), (67, .aload_n 0, 1), (68, .getfield 24, 3), (71, .putfield 178, 3), (74, .aload_n 0, 1), (75, .iconst 4, 1), (76, .putfield 184, 3), (79, .return_, 1), (80, .aload_n 0, 1), (81, .invokevirtual 174, 3), (84, .istore_n 1, 1), (85, .iload_n 1, 1), (86, .ifCond .ge 9, 3), (89, .aload_n 0, 1), (90, .iconst 0, 1), (91, .putfield 184, 3), (94, .return_, 1), (95, .iload_n 1, 1), (96, .invokestatic 187, 3), (99, .ifCond .ne 65, 3), (102, .iload_n 1, 1), (103, .invokestatic 191, 3), (106, .ifCond .ne 58, 3), (109, .aload_n 0, 1), (110, .iload_n 1, 1), (111, .bipush 59, 2), (113, .if_icmp .eq 27, 3), (116, .iload_n 1, 1), (117, .bipush 40, 2), (119, .if_icmp .eq 21, 3), (122, .iload_n 1, 1), (123, .bipush 41, 2), (125, .if_icmp .eq 15, 3), (128, .iload_n 1, 1), (129, .bipush 60, 2), (131, .if_icmp .lt 13, 3), (134, .iload_n 1, 1), (135, .bipush 62, 2), (137, .if_icmp .gt 7, 3), (140, .iconst 3, 1), (141, .goto 4, 3), (144, .iconst 4, 1), (145, .putfield 184, 3), (148, .aload_n 0, 1), (149, .iload_n 1, 1), (150, .putfield 194, 3), (153, .aload_n 0, 1), (154, .dup, 1), (155, .getfield 21, 3), (158, .iconst 1, 1), (159, .iadd, 1), (160, .putfield 21, 3), (163, .return_, 1), (164, .iload_n 1, 1), (165, .invokestatic 187, 3), (168, .istore_n 2, 1), (169, .iconst 1, 1), (170, .istore_n 3, 1), (171, .aload_n 0, 1), (172, .lconst 0, 1), (173, .putfield 197, 3), (176, .aload_n 0, 1), (177, .iconst 0, 1), (178, .putfield 194, 3), (181, .aload_n 0, 1), (182, .invokevirtual 174, 3), (185, .invokestatic 187, 3), (188, .ifCond .ne 13, 3), (191, .aload_n 0, 1), (192, .invokevirtual 174, 3), (195, .invokestatic 191, 3), (198, .ifCond .eq 100, 3), (201, .iload_n 3, 1), (202, .ifCond .eq 18, 3), (205, .aload_n 0, 1), (206, .invokevirtual 174, 3), (209, .invokestatic 187, 3), (212, .iload_n 2, 1), (213, .if_icmp .ne 7, 3), (216, .iconst 1, 1), (217, .goto 4, 3), (220, .iconst 0, 1), (221, .istore_n 3, 1), (222, .aload_n 0, 1), (223, .getfield 181, 3), (226, .bipush 7, 2), (228, .if_icmp .ge 20, 3), (231, .aload_n 0, 1), (232, .aload_n 0, 1), (233, .getfield 197, 3), (236, .bipush 8, 2), (238, .lshl, 1), (239, .aload_n 0, 1), (240, .invokevirtual 174, 3), (243, .i2l, 1), (244, .lor, 1), (245, .putfield 197, 3), (248, .aload_n 0, 1), (249, .getfield 181, 3), (252, .iconst 2, 1), (253, .if_icmp .ge 22, 3), (256, .aload_n 0, 1), (257, .bipush 10, 2), (259, .aload_n 0, 1), (260, .getfield 194, 3), (263, .imul, 1), (264, .aload_n 0, 1), (265, .invokevirtual 174, 3), (268, .iadd, 1), (269, .bipush 48, 2), (271, .isub, 1), (272, .putfield 194, 3), (275, .aload_n 0, 1), (276, .dup, 1), (277, .getfield 181, 3), (280, .iconst 1, 1), (281, .iadd, 1), (282, .putfield 181, 3), (285, .aload_n 0, 1), (286, .dup, 1), (287, .getfield 21, 3), (290, .iconst 1, 1), (291, .iadd, 1), (292, .putfield 21, 3), (295, .goto (-114), 3), (298, .aload_n 0, 1), (299, .iload_n 3, 1), (300, .ifCond .eq 20, 3), (303, .aload_n 0, 1), (304, .getfield 181, 3), (307, .iload_n 2, 1), (308, .ifCond .eq 8, 3), (311, .bipush 7, 2), (313, .goto 4, 3), (316, .iconst 2, 1), (317, .if_icmp .le 7, 3), (320, .iconst 4, 1), (321, .goto 12, 3), (324, .iload_n 2, 1), (325, .ifCond .eq 7, 3), (328, .iconst 1, 1), (329, .goto 4, 3), (332, .iconst 2, 1), (333, .putfield 184, 3), (336, .return_, 1)]
def ec_163 : List eI := [(0, .aload_n 0, 1), (1, .iconst 0, 1), (2, .putfield 1, 3), (5, .iload_n 1, 1), (6, .iconst 0, 1), (7, .bipush 60, 2), (9, .invokestatic 216, 3), (12, .ifCond .eq 11, 3), (15, .aload_n 0, 1), (16, .iload_n 1, 1), (17, .invokevirtual 385, 3), (20, .goto 4, 3), (23, .iconst (-1), 1), (24, .ireturn, 1)]
def ec_164 : List eI := [(0, .aload_n 0, 1), (1, .iconst 0, 1), (2, .putfield 1, 3), (5, .iload_n 1, 1), (6, .iconst 0, 1), (7, .aload_n 0, 1), (8, .getfield 366, 3), (11, .iconst 1, 1), (12, .isub, 1), (13, .invokestatic 216, 3), (16, .ifCond .eq 12, 3), (19, .aload_n 0, 1), (20, .getfield 62, 3), (23, .iload_n 1, 1), (24, .iaload, 1), (25, .goto 4, 3), (28, .iconst (-1), 1), (29, .ireturn, 1)]
def ec_165 : List eI := [(0, .aload_n 0, 1), (1, .aload_n 0, 1), (2, .getfield 7, 3), (5, .putfield 18, 3), (8, .aload_n 0, 1), (9, .iconst 0, 1), (10, .putfield 7, 3), (13, .aload_n 0, 1), (14, .iconst 0, 1), (15, .putfield 21, 3), (18, .aload_n 0, 1), (19, .iload_n 1, 1), (20, .putfield 24, 3), (23, .return_, 1)]
def ec_166 : List eI := [(0, .aload_n 0, 1), (1, .iconst 0, 1), (2, .putfield 1, 3), (5, .aload_n 0, 1), (6, .sipush 900, 3), (9, .invokevirtual 260, 3), (12, .aload_n 0, 1), (13, .iconst 0, 1), (14, .putfield 201, 3), (17, .aload_n 0, 1), (18, .iconst 0, 1), (19, .putfield 263, 3), (22, .iconst 0, 1), (23, .istore_n 1, 1), (24, .iload_n 1, 1), (25, .sipush 179, 3), (28, .if_icmp .ge 16, 3), (31, .aload_n 0, 1), (32, .getfield 37, 3), (35, .iload_n 1, 1), (36, .iconst 0, 1), (37, .iastore, 1), (38, .iinc 1 1, 3), (41, .goto (-17), 3), (44, .aload_n 0, 1), (45, .invokevirtual 213, 3), (48, .aload_n 0, 1), (49, .getfield 184, 3), (52, .ifCond .eq 39, 3), (55, .aload_n 0, 1), (56, .invokevirtual 266, 3), (59, .ifCond .eq 12, 3), (62, .aload_n 0, 1), (63, .bipush 59, 2), (65, .invokevirtual 269, 3), (68, .ifCond .ne 10, 3), (71, .iconst (-1), 1), (72, .aload_n 0, 1), (73, .getfield 204, 3), (76, .isub, 1), (77, .ireturn, 1), (78, .aload_n 0, 1), (79, .dup, 1), (80, .getfield 263, 3), (83, .iconst 1, 1), (84, .iadd, 1), (85, .putfield 263, 3), (88, .goto (-40), 3), (91, .iconst 0, 1), (92, .istore_n 1, 1), (93, .iload_n 1, 1), (94, .sipush 402, 3), (97, .if_icmp .ge 32, 3), (100, .aload_n 0, 1), (101, .getfield 33, 3), (104, .iload_n 1, 1), (105, .iload_n 1, 1), (106, .sipush 179, 3), (109, .if_icmp .ge 12, 3), (112, .aload_n 0, 1), (113, .getfield 37, 3), (116, .iload_n 1, 1), (117, .iaload, 1), (118, .goto 4, 3), (121, .iconst 0, 1), (122, .iastore, 1), (123, .iinc 1 1, 3), (126, .goto (-33), 3), (129, .iconst 0, 1), (130, .istore_n 1, 1), (131, .iload_n 1, 1), (132, .bipush 24, 2), (134, .if_icmp .ge 24, 3), (137, .aload_n 0, 1), (138, .getfield 43, 3), (141, .iload_n 1, 1), (142, .aload_n 0, 1), (143, .getfield 43, 3), (146, .bipush 24, 2), (148, .iload_n 1, 1), (149, .iadd, 1), (150, .laload, 1), (151, .lastore, 1), (152, .iinc 1 1, 3), (155, .goto (-24), 3), (158, .iconst 0, 1), (159, .istore_n 1, 1), (160, .iload_n 1, 1), (161, .bipush 12, 2), (163, .if_icmp .ge 28, 3), (166, .aload_n 0, 1), (167, .getfield 33, 3), (170, .sipush 185, 3), (173, .iload_n 1, 1), (174, .iadd, 1), (175, .aload_n 0, 1), (176, .getfield 33, 3), (179, .bipush 17, 2), (181, .iload_n 1, 1), (182, .iadd, 1), (183, .iaload, 1), (184, .iastore, 1), (185, .iinc 1 1, 3), (188, .goto (-28), 3), (191, .iconst 0, 1), (192, .istore_n 1, 1), (193, .iload_n 1, 1), (194, .bipush 6, 2), (196, .if_icmp .ge 66, 3), (199, .aload_n 0, 1), (200, .getfield 33, 3), (203, .sipush 197, 3), (206, .iload_n 1, 1), (207, .iadd, 1), (208, .aload_n 0, 1), (209, .getfield 33, 3), (212, .bipush 89, 2), (214, .iload_n 1, 1), (215, .iadd, 1), (216, .iaload, 1), (217, .iastore, 1), (218, .aload_n 0, 1), (219, .getfield 33, 3), (222, .sipush 203, 3), (225, .iload_n 1, 1), (226, .iadd, 1), (227, .aload_n 0, 1), (228, .getfield 33, 3), (231, .bipush 95, 2), (233, .iload_n 1, 1), (234, .iadd, 1), (235, .iaload, 1), (236, .iastore, 1), (237, .aload_n 0, 1), (238, .getfield 33, 3), (241, .sipush 209, 3), (244, .iload_n 1, 1), (245, .iadd, 1), (246, .aload_n 0, 1), (247, .getfield 33, 3), (250, .bipush 101, 2), (252, .iload_n 1, 1), (253, .iadd, 1), (254, .iaload, 1), (255, .iastore, 1), (256, .iinc 1 1, 3), (259, .goto (-66), 3), (262, .aload_n 0, 1), (263, .iconst 0, 1), (264, .putfield 272, 3), (267, .aload_n 0, 1), (268, .getfield 263, 3), (271, .ireturn, 1)]
def ec_167 : List eI := [(0, .aload_n 0, 1), (1, .iconst 0, 1), (2, .putfield 1, 3), (5, .aload_n 0, 1), (6, .iload_n 1, 1), (7, .invokevirtual 275, 3), (10, .ifCond .eq 11, 3), (13, .aload_n 0, 1), (14, .iload_n 2, 1), (15, .invokevirtual 278, 3), (18, .ifCond .ne 5, 3), (21, .iconst (-1), 1), (22, .ireturn, 1), (23, .aload_n 0, 1), (24, .iload_n 1, 1), (25, .iload_n 2, 1), (26, .invokevirtual 363, 3), (29, .istore_n 3, 1), (30, .iload_n 3, 1), (31, .ifCond .ge 5, 3), (34, .iconst (-1), 1), (35, .ireturn, 1), (36, .iconst 0, 1), (37, .istore 4, 2), (39, .iconst 0, 1), (40, .istore 5, 2), (42, .iload 5, 2), (44, .iload_n 3, 1), (45, .if_icmp .ge 53, 3), (48, .aload_n 0, 1), (49, .getfield 33, 3), (52, .sipush 185, 3), (55, .aload_n 0, 1), (56, .getfield 59, 3), (59, .iload 5, 2), (61, .iaload, 1), (62, .iadd, 1), (63, .iaload, 1), (64, .iconst 1, 1), (65, .isub, 1), (66, .istore 6, 2), (68, .iload 4, 2), (70, .iload 6, 2), (72, .ifCond .lt 9, 3), (75, .iload 6, 2), (77, .iload_n 1, 1), (78, .if_icmp .ne 7, 3), (81, .iconst 0, 1), (82, .goto 7, 3), (85, .iconst 1, 1), (86, .iload 6, 2), (88, .ishl, 1), (89, .ior, 1), (90, .istore 4, 2), (92, .iinc 5 1, 3), (95, .goto (-53), 3), (98, .iload 4, 2), (100, .ireturn, 1)]
def ec_168 : List eI := [(0, .aload_n 0, 1), (1, .getfield 1, 3), (4, .ireturn, 1)]
def ec_169 : List eI := [(0, .aload_n 0, 1), (1, .iload_n 1, 1), (2, .ifCond .eq 7, 3), (5, .iconst 1, 1), (6, .goto 4, 3), (9, .iconst 0, 1), (10, .putfield 1, 3), (13, .iload_n 1, 1), (14, .ireturn, 1)]
def ec_170 : List eI := [(0, .iconst 0, 1), (1, .istore_n 1, 1), (2, .iload_n 1, 1), (3, .bipush 42, 2), (5, .if_icmp .ge 25, 3), (8, .aload_n 0, 1), (9, .getfield 53, 3), (12, .iload_n 1, 1), (13, .aload_n 0, 1), (14, .getfield 33, 3), (17, .sipush 179, 3), (20, .iload_n 1, 1), (21, .iadd, 1), (22, .iaload, 1), (23, .iastore, 1), (24, .iinc 1 1, 3), (27, .goto (-25), 3), (30, .return_, 1)]
def ec_171 : List eI := [(0, .aload_n 0, 1), (1, .iconst 0, 1), (2, .putfield 1, 3), (5, .aload_n 0, 1), (6, .getfield 272, 3), (9, .ifCond .ne 5, 3), (12, .iconst (-1), 1), (13, .ireturn, 1), (14, .aload_n 0, 1), (15, .dup, 1), (16, .getfield 272, 3), (19, .iconst 1, 1), (20, .isub, 1), (21, .putfield 272, 3), (24, .iconst 0, 1), (25, .istore_n 1, 1), (26, .iload_n 1, 1), (27, .bipush 42, 2), (29, .if_icmp .ge 33, 3), (32, .aload_n 0, 1), (33, .getfield 33, 3), (36, .sipush 179, 3), (39, .iload_n 1, 1), (40, .iadd, 1), (41, .aload_n 0, 1), (42, .getfield 50, 3), (45, .bipush 42, 2), (47, .aload_n 0, 1), (48, .getfield 272, 3), (51, .imul, 1), (52, .iload_n 1, 1), (53, .iadd, 1), (54, .iaload, 1), (55, .iastore, 1), (56, .iinc 1 1, 3), (59, .goto (-33), 3), (62, .aload_n 0, 1), (63, .getfield 272, 3), (66, .ireturn, 1)]
def ec_172 : List eI := [(0, .aload_n 0, 1), (1, .iconst 0, 1), (2, .putfield 1, 3), (5, .aload_n 0, 1), (6, .sipush 940, 3), (9, .invokevirtual 260, 3), (12, .aload_n 0, 1), (13, .getfield 18, 3), (16, .iconst 1, 1), (17, .bipush 20, 2), (19, .invokestatic 216, 3), (22, .ifCond .ne 5, 3), (25, .iconst (-1), 1), (26, .ireturn, 1), (27, .iconst 0, 1), (28, .istore_n 1, 1), (29, .iload_n 1, 1), (30, .aload_n 0, 1), (31, .getfield 18, 3), (34, .if_icmp .ge 23, 3), (37, .aload_n 0, 1), (38, .aload_n 0, 1), (39, .iload_n 1, 1), (40, .invokevirtual 409, 3), (43, .invokevirtual 278, 3), (46, .ifCond .ne 5, 3), (49, .iconst (-1), 1), (50, .ireturn, 1), (51, .iinc 1 1, 3), (54, .goto (-25), 3), (57, .iconst 0, 1), (58, .istore_n 1, 1), (59, .iconst 0, 1), (60, .istore_n 2, 1), (61, .iload_n 2, 1), (62, .aload_n 0, 1), (63, .getfield 33, 3), (66, .iconst 1, 1), (67, .iaload, 1), (68, .if_icmp .ge 108, 3), (71, .aload_n 0, 1), (72, .iload_n 2, 1), (73, .invokevirtual 295, 3), (76, .ifCond .ne 7, 3), (79, .iconst 1, 1), (80, .goto 4, 3), (83, .iconst 0, 1), (84, .istore_n 3, 1), (85, .iconst 0, 1), (86, .istore 4, 2), (88, .iload 4, 2), (90, .aload_n 0, 1), (91, .getfield 18, 3), (94, .if_icmp .ge 62, 3), (97, .iload_n 3, 1), (98, .ifCond .eq 58, 3), (101, .aload_n 0, 1), (102, .iload_n 2, 1), (103, .aload_n 0, 1), (104, .iload 4, 2), (106, .invokevirtual 409, 3), (109, .invokevirtual 357, 3), (112, .ifCond .eq 36, 3), (115, .iload 4, 2), (117, .ifCond .eq 27, 3), (120, .aload_n 0, 1), (121, .aload_n 0, 1), (122, .iload 4, 2), (124, .iconst 1, 1), (125, .isub, 1), (126, .invokevirtual 409, 3), (129, .invokevirtual 304, 3), (132, .aload_n 0, 1), (133, .iload 4, 2), (135, .invokevirtual 409, 3), (138, .invokestatic 254, 3), (141, .ifCond .eq 7, 3), (144, .iconst 1, 1), (145, .goto 4, 3), (148, .iconst 0, 1), (149, .istore_n 3, 1), (150, .iinc 4 1, 3), (153, .goto (-65), 3), (156, .iload_n 1, 1), (157, .iload_n 3, 1), (158, .ifCond .eq 9, 3), (161, .iconst 1, 1), (162, .iload_n 2, 1), (163, .ishl, 1), (164, .goto 4, 3), (167, .iconst 0, 1), (168, .ior, 1), (169, .istore_n 1, 1), (170, .iinc 2 1, 3), (173, .goto (-112), 3), (176, .iload_n 1, 1), (177, .ireturn, 1)]
def ec_173 : List eI := [(0, .aload_n 0, 1), (1, .iconst 0, 1), (2, .putfield 1, 3), (5, .iload_n 1, 1), (6, .iconst 0, 1), (7, .aload_n 0, 1), (8, .getfield 406, 3), (11, .iconst 1, 1), (12, .isub, 1), (13, .invokestatic 216, 3), (16, .ifCond .eq 12, 3), (19, .aload_n 0, 1), (20, .getfield 86, 3), (23, .iload_n 1, 1), (24, .iaload, 1), (25, .goto 4, 3), (28, .iconst (-1), 1), (29, .ireturn, 1)]
def ec_174 : List eI := [(0, .aload_n 0, 1), (1, .iconst 0, 1), (2, .putfield 1, 3), (5, .aload_n 0, 1), (6, .iload_n 1, 1), (7, .invokevirtual 275, 3), (10, .ifCond .eq 11, 3), (13, .aload_n 0, 1), (14, .iload_n 2, 1), (15, .invokevirtual 278, 3), (18, .ifCond .ne 5, 3), (21, .iconst (-1), 1), (22, .ireturn, 1), (23, .aload_n 0, 1), (24, .iload_n 1, 1), (25, .iload_n 2, 1), (26, .invokevirtual 363, 3), (29, .istore_n 3, 1), (30, .iload_n 3, 1), (31, .ifCond .ge 5, 3), (34, .iconst (-1), 1), (35, .ireturn, 1), (36, .aload_n 0, 1), (37, .iload_n 3, 1), (38, .putfield 366, 3), (41, .iconst 0, 1), (42, .istore 4, 2), (44, .iload 4, 2), (46, .iload_n 3, 1), (47, .if_icmp .ge 23, 3), (50, .aload_n 0, 1), (51, .getfield 62, 3), (54, .iload 4, 2), (56, .aload_n 0, 1), (57, .getfield 59, 3), (60, .iload 4, 2), (62, .iaload, 1), (63, .iastore, 1), (64, .iinc 4 1, 3), (67, .goto (-23), 3), (70, .iload_n 3, 1), (71, .ireturn, 1)]
def ec_175 : List eI := [(0, .aload_n 0, 1), (1, .iconst 0, 1), (2, .putfield 1, 3), (5, .aload_n 0, 1), (6, .iload_n 1, 1), (7, .iload_n 2, 1), (8, .invokevirtual 332, 3), (11, .ifCond .ne 5, 3), (14, .iconst (-1), 1), (15, .ireturn, 1), (16, .aload_n 0, 1), (17, .iload_n 1, 1), (18, .iload_n 2, 1), (19, .invokevirtual 345, 3), (22, .istore_n 3, 1), (23, .iload_n 3, 1), (24, .ifCond .le 5, 3), (27, .iload_n 3, 1), (28, .ireturn, 1), (29, .aload_n 0, 1), (30, .invokevirtual 325, 3), (33, .aload_n 0, 1), (34, .getfield 33, 3), (37, .sipush 209, 3), (40, .iload_n 1, 1), (41, .iadd, 1), (42, .iload_n 2, 1), (43, .iconst 1, 1), (44, .iadd, 1), (45, .iastore, 1), (46, .iconst 0, 1), (47, .ireturn, 1)]
def ec_176 : List eI := [(0, .new 8, 3), (3, .dup, 1), (4, .invokespecial 15, 3), (7, .astore_n 1, 1), (8, .new 16, 3), (11, .dup, 1), (12, .invokespecial 18, 3), (15, .astore_n 2, 1), (16, .iconst 1, 1), (17, .newarray .long, 2), (19, .astore_n 3, 1), (20, .iconst 0, 1), (21, .istore 4, 2), (23, .iload 4, 2), (25, .aload_n 0, 1), (26, .arraylength, 1), (27, .bipush 6, 2), (29, .isub, 1), (30, .if_icmp .gt 1529, 3), (33, .aload_n 0, 1), (34, .iload 4, 2), (36, .iaload, 1), (37, .bipush 63, 2), (39, .iand, 1), (40, .tableswitch 1513 0 45 #[200, 273, 298, 311, 324, 392, 429, 466, 491, 528, 553, 602, 651, 688, 713, 750, 775, 800, 813, 850, 875, 900, 937, 950, 987, 1012, 1037, 1062, 1087, 1100, 1113, 1138, 1163, 1176, 1201, 1226, 1251, 1264, 1301, 1350, 1375, 1400, 1413, 1438, 1463, 1488], 200), (240, .aload_n 1, 1), (241, .aload_n 0, 1), (242, .iload 4, 2), (244, .iconst 1, 1), (245, .iadd, 1), (246, .iaload, 1), (247, .aload_n 0, 1), (248, .iload 4, 2), (250, .iconst 2, 1), (251, .iadd, 1), (252, .iaload, 1), (253, .aload_n 0, 1), (254, .iload 4, 2), (256, .iconst 3, 1), (257, .iadd, 1), (258, .iaload, 1), (259, .aload_n 0, 1), (260, .iload 4, 2), (262, .iconst 4, 1), (263, .iadd, 1), (264, .iaload, 1), (265, .aload_n 0, 1), (266, .iload 4, 2), (268, .iconst 5, 1), (269, .iadd, 1), (270, .iaload, 1), (271, .invokevirtual 19, 3), (274, .aload_n 2, 1), (275, .aload_n 0, 1), (276, .iload 4, 2), (278, .iconst 1, 1), (279, .iadd, 1), (280, .iaload, 1), (281, .aload_n 0, 1), (282, .iload 4, 2), (284, .iconst 2, 1), (285, .iadd, 1), (286, .iaload, 1), (287, .aload_n 0, 1), (288, .iload 4, 2), (290, .iconst 3, 1), (291, .iadd, 1), (292, .iaload, 1), (293, .aload_n 0, 1), (294, .iload 4, 2), (296, .iconst 4, 1), (297, .iadd, 1), (298, .iaload, 1), (299, .aload_n 0, 1), (300, .iload 4, 2), (302, .iconst 5, 1), (303, .iadd, 1), (304, .iaload, 1), (305, .invokevirtual 23, 3), (308, .if_icmp .eq 1245, 3), (311, .iconst 0, 1), (312, .ireturn, 1), (313, .aload_n 1, 1), (314, .aload_n 0, 1), (315, .iload 4, 2), (317, .iconst 1, 1), (318, .iadd, 1), (319, .iaload, 1), (320, .invokevirtual 24, 3), (323, .aload_n 2, 1), (324, .aload_n 0, 1), (325, .iload 4, 2), (327, .iconst 1, 1), (328, .iadd, 1), (329, .iaload, 1), (330, .invokevirtual 28, 3), (333, .if_icmp .eq 1220, 3), (336, .iconst 0, 1), (337, .ireturn, 1), (338, .aload_n 1, 1), (339, .invokevirtual 29, 3), (342, .aload_n 2, 1), (343, .invokevirtual 33, 3), (346, .if_icmp .eq 1207, 3), (349, .iconst 0, 1), (350, .ireturn, 1), (351, .aload_n 1, 1), (352, .invokevirtual 34, 3), (355, .aload_n 2, 1), (356, .invokevirtual 37, 3), (359, .if_icmp .eq 1194, 3), (362, .iconst 0, 1), (363, .ireturn, 1), (364, .aload_n 1, 1), (365, .aload_n 0, 1), (366, .iload 4, 2), (368, .iconst 1, 1), (369, .iadd, 1), (370, .iaload, 1), (371, .aload_n 0, 1), (372, .iload 4, 2), (374, .iconst 2, 1), (375, .iadd, 1), (376, .iaload, 1), (377, .aload_n 3, 1), (378, .invokestatic 38, 3), (381, .istore 5, 2), (383, .aload_n 2, 1), (384, .aload_n 0, 1), (385, .iload 4, 2), (387, .iconst 1, 1), (388, .iadd, 1), (389, .iaload, 1), (390, .aload_n 0, 1), (391, .iload 4, 2), (393, .iconst 2, 1), (394, .iadd, 1), (395, .iaload, 1), (396, .invokevirtual 43, 3), (399, .istore 6, 2), (401, .aload_n 2, 1), (402, .invokevirtual 44, 3), (405, .iload 5, 2), (407, .if_icmp .eq 5, 3), (410, .iconst 0, 1), (411, .ireturn, 1), (412, .iload 5, 2), (414, .ifCond .ne 15, 3), (417, .aload_n 3, 1), (418, .iconst 0, 1), (419, .laload, 1), (420, .iload 6, 2), (422, .i2l, 1), (423, .lcmp, 1), (424, .ifCond .eq 5, 3), (427, .iconst 0, 1), (428, .ireturn, 1), (429, .goto 1124, 3), (432, .aload_n 1, 1), (433, .aload_n 0, 1), (434, .iload 4, 2), (436, .iconst 1, 1), (437, .iadd, 1), (438, .iaload, 1), (439, .aload_n 0, 1), (440, .iload 4, 2), (442, .iconst 2, 1), (443, .iadd, 1), (444, .iaload, 1), (445, .invokevirtual 47, 3), (448, .aload_n 2, 1), (449, .aload_n 0, 1), (450, .iload 4, 2), (452, .iconst 1, 1), (453, .iadd, 1), (454, .iaload, 1), (455, .aload_n 0, 1), (456, .iload 4, 2), (458, .iconst 2, 1), (459, .iadd, 1), (460, .iaload, 1), (461, .invokevirtual 50, 3), (464, .if_icmp .eq 1089, 3), (467, .iconst 0, 1), (468, .ireturn, 1), (469, .aload_n 1, 1), (470, .aload_n 0, 1), (471, .iload 4, 2), (473, .iconst 1, 1), (474, .iadd, 1), (475, .iaload, 1), (476, .aload_n 0, 1), (477, .iload 4, 2), (479, .iconst 2, 1), (480, .iadd, 1), (481, .iaload, 1), (482, .invokevirtual 51, 3), (485, .aload_n 2, 1), (486, .aload_n 0, 1), (487, .iload 4, 2), (489, .iconst 1, 1), (490, .iadd, 1), (491, .iaload, 1), (492, .aload_n 0, 1), (493, .iload 4, 2), (495, .iconst 2, 1), (496, .iadd, 1), (497, .iaload, 1), (498, .invokevirtual 54, 3), (501, .if_icmp .eq 1052, 3), (504, .iconst 0, 1), (505, .ireturn, 1), (506, .aload_n 1, 1), (507, .aload_n 0, 1), (508, .iload 4, 2), (510, .iconst 1, 1), (511, .iadd, 1), (512, .iaload, 1), (513, .invokevirtual 55, 3), (516, .aload_n 2, 1), (517, .aload_n 0, 1), (518, .iload 4, 2), (520, .iconst 1, 1), (521, .iadd, 1), (522, .iaload, 1), (523, .invokevirtual 59, 3), (526, .if_icmp .eq 1027, 3), (529, .iconst 0, 1), (530, .ireturn, 1), (531, .aload_n 1, 1), (532, .aload_n 0, 1), (533, .iload 4, 2), (535, .iconst 1, 1), (536, .iadd, 1), (537, .iaload, 1), (538, .aload_n 0, 1), (539, .iload 4, 2), (541, .iconst 2, 1), (542, .iadd, 1), (543, .iaload, 1), (544, .invokevirtual 60, 3), (547, .aload_n 2, 1), (548, .aload_n 0, 1), (549, .iload 4, 2), (551, .iconst 1, 1), (552, .iadd, 1), (553, .iaload, 1), (554, .aload_n 0, 1), (555, .iload 4, 2), (557, .iconst 2, 1), (558, .iadd, 1), (559, .iaload, 1), (560, .invokevirtual 63, 3), (563, .if_icmp .eq 990, 3), (566, .iconst 0, 1), (567, .ireturn, 1), (568, .aload_n 1, 1), (569, .aload_n 0, 1), (570, .iload 4, 2), (572, .iconst 1, 1), (573, .iadd, 1), (574, .iaload, 1), (575, .invokevirtual 64, 3), (578, .aload_n 2, 1), (579, .aload_n 0, 1), (580, .iload 4, 2), (582, .iconst 1, 1), (583, .iadd, 1), (584, .iaload, 1), (585, .invokevirtual 67, 3), (588, .if_icmp .eq 965, 3), (591, .iconst 0, 1), (592, .ireturn, 1), (593, .aload_n 1, 1), (594, .aload_n 0, 1), (595, .iload 4, 2), (597, .iconst 1, 1), (598, .iadd, 1), (599, .iaload, 1), (600, .aload_n 0, 1), (601, .iload 4, 2), (603, .iconst 2, 1), (604, .iadd, 1), (605, .iaload, 1), (606, .aload_n 0, 1), (607, .iload 4, 2), (609, .iconst 3, 1), (610, .iadd, 1), (611, .iaload, 1), (612, .invokevirtual 68, 3), (615, .aload_n 2, 1), (616, .aload_n 0, 1), (617, .iload 4, 2), (619, .iconst 1, 1), (620, .iadd, 1), (621, .iaload, 1), (622, .aload_n 0, 1), (623, .iload 4, 2), (625, .iconst 2, 1), (626, .iadd, 1), (627, .iaload, 1), (628, .aload_n 0, 1), (629, .iload 4, 2), (631, .iconst 3, 1), (632, .iadd, 1), (633, .iaload, 1), (634, .invokevirtual 72, 3), (637, .if_icmp .eq 916, 3), (640, .iconst 0, 1), (641, .ireturn, 1), (642, .aload_n 1, 1), (643, .aload_n 0, 1), (644, .iload 4, 2), (646, .iconst 1, 1), (647, .iadd, 1), (648, .iaload, 1), (649, .aload_n 0, 1), (650, .iload 4, 2), (652, .iconst 2, 1), (653, .iadd, 1), (654, .iaload, 1), (655, .aload_n 0, 1), (656, .iload 4, 2), (658, .iconst 3, 1), (659, .iadd, 1), (660, .iaload, 1), (661, .invokevirtual 73, 3), (664, .aload_n 2, 1), (665, .aload_n 0, 1), (666, .iload 4, 2), (668, .iconst 1, 1), (669, .iadd, 1), (670, .iaload, 1), (671, .aload_n 0, 1), (672, .iload 4, 2), (674, .iconst 2, 1), (675, .iadd, 1), (676, .iaload, 1), (677, .aload_n 0, 1), (678, .iload 4, 2), (680, .iconst 3, 1), (681, .iadd, 1), (682, .iaload, 1), (683, .invokevirtual 76, 3), (686, .if_icmp .eq 867, 3), (689, .iconst 0, 1), (690, .ireturn, 1), (691, .aload_n 1, 1), (692, .aload_n 0, 1), (693, .iload 4, 2), (695, .iconst 1, 1), (696, .iadd, 1), (697, .iaload, 1), (698, .aload_n 0, 1), (699, .iload 4, 2), (701, .iconst 2, 1), (702, .iadd, 1), (703, .iaload, 1), (704, .invokevirtual 77, 3), (707, .aload_n 2, 1), (708, .aload_n 0, 1), (709, .iload 4, 2), (711, .iconst 1, 1), (712, .iadd, 1), (713, .iaload, 1), (714, .aload_n 0, 1), (715, .iload 4, 2), (717, .iconst 2, 1), (718, .iadd, 1), (719, .iaload, 1), (720, .invokevirtual 80, 3), (723, .if_icmp .eq 830, 3), (726, .iconst 0, 1), (727, .ireturn, 1), (728, .aload_n 1, 1), (729, .aload_n 0, 1), (730, .iload 4, 2), (732, .iconst 1, 1), (733, .iadd, 1), (734, .iaload, 1), (735, .invokevirtual 81, 3), (738, .aload_n 2, 1), (739, .aload_n 0, 1), (740, .iload 4, 2), (742, .iconst 1, 1), (743, .iadd, 1), (744, .iaload, 1), (745, .invokevirtual 84, 3), (748, .if_icmp .eq 805, 3), (751, .iconst 0, 1), (752, .ireturn, 1), (753, .aload_n 1, 1), (754, .aload_n 0, 1), (755, .iload 4, 2), (757, .iconst 1, 1), (758, .iadd, 1), (759, .iaload, 1), (760, .aload_n 0, 1), (761, .iload 4, 2), (763, .iconst 2, 1), (764, .iadd, 1), (765, .iaload, 1), (766, .invokevirtual 85, 3), (769, .aload_n 2, 1), (770, .aload_n 0, 1), (771, .iload 4, 2), (773, .iconst 1, 1), (774, .iadd, 1), (775, .iaload, 1), (776, .aload_n 0, 1), (777, .iload 4, 2), (779, .iconst 2, 1), (780, .iadd, 1), (781, .iaload, 1), (782, .invokevirtual 88, 3), (785, .if_icmp .eq 768, 3), (788, .iconst 0, 1), (789, .ireturn, 1), (790, .aload_n 1, 1), (791, .aload_n 0, 1), (792, .iload 4, 2), (794, .iconst 1, 1), (795, .iadd, 1), (796, .iaload, 1), (797, .invokevirtual 89, 3), (800, .aload_n 2, 1), (801, .aload_n 0, 1), (802, .iload 4, 2), (804, .iconst 1, 1), (805, .iadd, 1), (806, .iaload, 1), (807, .invokevirtual 92, 3), (810, .if_icmp .eq 743, 3), (813, .iconst 0, 1), (814, .ireturn, 1), (815, .aload_n 1, 1), (816, .aload_n 0, 1), (817, .iload 4, 2), (819, .iconst 1, 1), (820, .iadd, 1), (821, .iaload, 1), (822, .invokevirtual 93, 3), (825, .aload_n 2, 1), (826, .aload_n 0, 1), (827, .iload 4, 2), (829, .iconst 1, 1), (830, .iadd, 1), (831, .iaload, 1), (832, .invokevirtual 96, 3), (835, .if_icmp .eq 718, 3), (838, .iconst 0, 1), (839, .ireturn, 1), (840, .aload_n 1, 1), (841, .invokevirtual 97, 3), (844, .aload_n 2, 1), (845, .invokevirtual 100, 3), (848, .if_icmp .eq 705, 3), (851, .iconst 0, 1), (852, .ireturn, 1), (853, .aload_n 1, 1), (854, .aload_n 0, 1), (855, .iload 4, 2), (857, .iconst 1, 1), (858, .iadd, 1), (859, .iaload, 1), (860, .aload_n 0, 1), (861, .iload 4, 2), (863, .iconst 2, 1), (864, .iadd, 1), (865, .iaload, 1), (866, .invokevirtual 101, 3), (869, .aload_n 2, 1), (870, .aload_n 0, 1), (871, .iload 4, 2), (873, .iconst 1, 1), (874, .iadd, 1), (875, .iaload, 1), (876, .aload_n 0, 1), (877, .iload 4, 2), (879, .iconst 2, 1), (880, .iadd, 1), (881, .iaload, 1), (882, .invokevirtual 104, 3), (885, .if_icmp .eq 668, 3), (888, .iconst 0, 1), (889, .ireturn, 1), (890, .aload_n 1, 1), (891, .aload_n 0, 1), (892, .iload 4, 2), (894, .iconst 1, 1), (895, .iadd, 1), (896, .iaload, 1), (897, .invokevirtual 105, 3), (900, .aload_n 2, 1), (901, .aload_n 0, 1), (902, .iload 4, 2), (904, .iconst 1, 1), (905, .iadd, 1), (906, .iaload, 1), (907, .invokevirtual 108, 3), (910, .if_icmp .eq 643, 3), (913, .iconst 0, 1), (914, .ireturn, 1), (915, .aload_n 1, 1), (916, .aload_n 0, 1), (917, .iload 4, 2), (919, .iconst 1, 1), (920, .iadd, 1), (921, .iaload, 1), (922, .invokevirtual 109, 3), (925, .aload_n 2, 1), (926, .aload_n 0, 1), (927, .iload 4, 2), (929, .iconst 1, 1), (930, .iadd, 1), (931, .iaload, 1), (932, .invokevirtual 112, 3), (935, .if_icmp .eq 618, 3), (938, .iconst 0, 1), (939, .ireturn, 1), (940, .aload_n 1, 1), (941, .aload_n 0, 1), (942, .iload 4, 2), (944, .iconst 1, 1), (945, .iadd, 1), (946, .iaload, 1), (947, .aload_n 0, 1), (948, .iload 4, 2), (950, .iconst 2, 1), (951, .iadd, 1), (952, .iaload, 1), (953, .invokevirtual 113, 3), (956, .aload_n 2, 1), (957, .aload_n 0, 1), (958, .iload 4, 2), (960, .iconst 1, 1), (961, .iadd, 1), (962, .iaload, 1), (963, .aload_n 0, 1), (964, .iload 4, 2), (966, .iconst 2, 1), (967, .iadd, 1), (968, .iaload, 1), (969, .invokevirtual 116, 3), (972, .if_icmp .eq 581, 3), (975, .iconst 0, 1), (976, .ireturn, 1), (977, .aload_n 1, 1), (978, .invokevirtual 117, 3), (981, .aload_n 2, 1), (982, .invokevirtual 120, 3), (985, .if_icmp .eq 568, 3), (988, .iconst 0, 1), (989, .ireturn, 1), (990, .aload_n 1, 1), (991, .aload_n 0, 1), (992, .iload 4, 2), (994, .iconst 1, 1), (995, .iadd, 1), (996, .iaload, 1), (997, .aload_n 0, 1), (998, .iload 4, 2), (1000, .iconst 2, 1), (1001, .iadd, 1), (1002, .iaload, 1), (1003, .invokevirtual 121, 3), (1006, .aload_n 2, 1), (1007, .aload_n 0, 1), (1008, .iload 4, 2), (1010, .iconst 1, 1), (1011, .iadd, 1), (1012, .iaload, 1), (1013, .aload_n 0, 1), (1014, .iload 4, 2), (1016, .iconst 2, 1), (1017, .iadd, 1), (1018, .iaload, 1), (1019, .invokevirtual 124, 3), (1022, .if_icmp .eq 531, 3), (1025, .iconst 0, 1), (1026, .ireturn, 1), (1027, .aload_n 1, 1), (1028, .aload_n 0, 1), (1029, .iload 4, 2), (1031, .iconst 1, 1), (1032, .iadd, 1), (1033, .iaload, 1), (1034, .invokevirtual 125, 3), (1037, .aload_n 2, 1), (1038, .aload_n 0, 1), (1039, .iload 4, 2), (1041, .iconst 1, 1), (1042, .iadd, 1), (1043, .iaload, 1), (1044, .invokevirtual 128, 3), (1047, .if_icmp .eq 506, 3), (1050, .iconst 0, 1), (1051, .ireturn, 1), (1052, .aload_n 1, 1), (1053, .aload_n 0, 1), (1054, .iload 4, 2), (1056, .iconst 1, 1), (1057, .iadd, 1), (1058, .iaload, 1), (1059, .invokevirtual 129, 3), (1062, .aload_n 2, 1), (1063, .aload_n 0, 1), (1064, .iload 4, 2), (1066, .iconst 1, 1), (1067, .iadd, 1), (1068, .iaload, 1), (1069, .invokevirtual 132, 3), (1072, .if_icmp .eq 481, 3), (1075, .iconst 0, 1), (1076, .ireturn, 1), (1077, .aload_n 1, 1), (1078, .aload_n 0, 1), (1079, .iload 4, 2), (1081, .iconst 1, 1), (1082, .iadd, 1), (1083, .iaload, 1), (1084, .invokevirtual 133, 3), (1087, .aload_n 2, 1), (1088, .aload_n 0, 1), (1089, .iload 4, 2), (1091, .iconst 1, 1), (1092, .iadd, 1), (1093, .iaload, 1), (1094, .invokevirtual 136, 3), (1097, .if_icmp .eq 456, 3), (1100, .iconst 0, 1), (1101, .ireturn, 1), (1102, .aload_n 1, 1), (1103, .aload_n 0, 1), (1104, .iload 4, 2), (1106, .iconst 1, 1), (1107, .iadd, 1), (1108, .iaload, 1), (1109, .invokevirtual 137, 3), (1112, .aload_n 2, 1), (1113, .aload_n 0, 1), (1114, .iload 4, 2), (1116, .iconst 1, 1), (1117, .iadd, 1), (1118, .iaload, 1), (1119, .invokevirtual 140, 3), (1122, .if_icmp .eq 431, 3), (1125, .iconst 0, 1), (1126, .ireturn, 1), (1127, .aload_n 1, 1), (1128, .invokevirtual 141, 3), (1131, .aload_n 2, 1), (1132, .invokevirtual 144, 3), (1135, .if_icmp .eq 418, 3), (1138, .iconst 0, 1), (1139, .ireturn, 1), (1140, .aload_n 1, 1), (1141, .invokevirtual 145, 3), (1144, .aload_n 2, 1), (1145, .invokevirtual 148, 3), (1148, .if_icmp .eq 405, 3), (1151, .iconst 0, 1), (1152, .ireturn, 1), (1153, .aload_n 1, 1), (1154, .aload_n 0, 1), (1155, .iload 4, 2), (1157, .iconst 1, 1), (1158, .iadd, 1), (1159, .iaload, 1), (1160, .invokevirtual 149, 3), (1163, .aload_n 2, 1), (1164, .aload_n 0, 1), (1165, .iload 4, 2), (1167, .iconst 1, 1), (1168, .iadd, 1), (1169, .iaload, 1), (1170, .invokevirtual 152, 3), (1173, .if_icmp .eq 380, 3), (1176, .iconst 0, 1), (1177, .ireturn, 1), (1178, .aload_n 1, 1), (1179, .aload_n 0, 1), (1180, .iload 4, 2), (1182, .iconst 1, 1), (1183, .iadd, 1), (1184, .iaload, 1), (1185, .invokevirtual 153, 3), (1188, .aload_n 2, 1), (1189, .aload_n 0, 1), (1190, .iload 4, 2), (1192, .iconst 1, 1), (1193, .iadd, 1), (1194, .iaload, 1), (1195, .invokevirtual 156, 3), (1198, .if_icmp .eq 355, 3), (1201, .iconst 0, 1), (1202, .ireturn, 1), (1203, .aload_n 1, 1), (1204, .invokevirtual 157, 3), (1207, .aload_n 2, 1), (1208, .invokevirtual 160, 3), (1211, .if_icmp .eq 342, 3), (1214, .iconst 0, 1), (1215, .ireturn, 1), (1216, .aload_n 1, 1), (1217, .aload_n 0, 1), (1218, .iload 4, 2), (1220, .iconst 1, 1), (1221, .iadd, 1), (1222, .iaload, 1), (1223, .invokevirtual 161, 3), (1226, .aload_n 2, 1), (1227, .aload_n 0, 1), (1228, .iload 4, 2), (1230, .iconst 1, 1), (1231, .iadd, 1), (1232, .iaload, 1), (1233, .invokevirtual 164, 3), (1236, .if_icmp .eq 317, 3), (1239, .iconst 0, 1), (1240, .ireturn, 1), (1241, .aload_n 1, 1), (1242, .aload_n 0, 1), (1243, .iload 4, 2), (1245, .iconst 1, 1), (1246, .iadd, 1), (1247, .iaload, 1), (1248, .invokevirtual 165, 3), (1251, .aload_n 2, 1), (1252, .aload_n 0, 1), (1253, .iload 4, 2), (1255, .iconst 1, 1), (1256, .iadd, 1), (1257, .iaload, 1), (1258, .invokevirtual 168, 3), (1261, .if_icmp .eq 292, 3), (1264, .iconst 0, 1), (1265, .ireturn, 1), (1266, .aload_n 1, 1), (1267, .aload_n 0, 1), (1268, .iload 4, 2), (1270, .iconst 1, 1), (1271, .iadd, 1), (1272, .iaload, 1), (1273, .invokevirtual 169, 3), (1276, .aload_n 2, 1), (1277, .aload_n 0, 1), (1278, .iload 4, 2), (1280, .iconst 1, 1), (1281, .iadd, 1), (1282, .iaload, 1), (1283, .invokevirtual 172, 3), (1286, .if_icmp .eq 267, 3), (1289, .iconst 0, 1), (1290, .ireturn, 1), (1291, .aload_n 1, 1), (1292, .invokevirtual 173, 3), (1295, .aload_n 2, 1), (1296, .invokevirtual 176, 3), (1299, .if_icmp .eq 254, 3), (1302, .iconst 0, 1), (1303, .ireturn, 1), (1304, .aload_n 1, 1), (1305, .aload_n 0, 1), (1306, .iload 4, 2), (1308, .iconst 1, 1), (1309, .iadd, 1), (1310, .iaload, 1), (1311, .aload_n 0, 1), (1312, .iload 4, 2), (1314, .iconst 2, 1), (1315, .iadd, 1), (1316, .iaload, 1), (1317, .invokevirtual 177, 3), (1320, .aload_n 2, 1), (1321, .aload_n 0, 1), (1322, .iload 4, 2), (1324, .iconst 1, 1), (1325, .iadd, 1), (1326, .iaload, 1), (1327, .aload_n 0, 1), (1328, .iload 4, 2), (1330, .iconst 2, 1), (1331, .iadd, 1), (1332, .iaload, 1), (1333, .invokevirtual 180, 3), (1336, .if_icmp .eq 217, 3), (1339, .iconst 0, 1), (1340, .ireturn, 1), (1341, .aload_n 1, 1), (1342, .aload_n 0, 1), (1343, .iload 4, 2), (1345, .iconst 1, 1), (1346, .iadd, 1), (1347, .iaload, 1), (1348, .aload_n 0, 1), (1349, .iload 4, 2), (1351, .iconst 2, 1), (1352, .iadd, 1), (1353, .iaload, 1), (1354, .aload_n 0, 1), (1355, .iload 4, 2), (1357, .iconst 3, 1), (1358, .iadd, 1), (1359, .iaload, 1), (1360, .invokevirtual 181, 3), (1363, .aload_n 2, 1), (1364, .aload_n 0, 1), (1365, .iload 4, 2), (1367, .iconst 1, 1), (1368, .iadd, 1), (1369, .iaload, 1), (1370, .aload_n 0, 1), (1371, .iload 4, 2), (1373, .iconst 2, 1), (1374, .iadd, 1), (1375, .iaload, 1), (1376, .aload_n 0, 1), (1377, .iload 4, 2), (1379, .iconst 3, 1), (1380, .iadd, 1), (1381, .iaload, 1), (1382, .invokevirtual 184, 3), (1385, .if_icmp .eq 168, 3), (1388, .iconst 0, 1), (1389, .ireturn, 1), (1390, .aload_n 1, 1), (1391, .aload_n 0, 1), (1392, .iload 4, 2), (1394, .iconst 1, 1), (1395, .iadd, 1), (1396, .iaload, 1), (1397, .invokevirtual 185, 3), (1400, .aload_n 2, 1), (1401, .aload_n 0, 1), (1402, .iload 4, 2), (1404, .iconst 1, 1), (1405, .iadd, 1), (1406, .iaload, 1), (1407, .invokevirtual 188, 3), (1410, .if_icmp .eq 143, 3), (1413, .iconst 0, 1), (1414, .ireturn, 1), (1415, .aload_n 1, 1), (1416, .aload_n 0, 1), (1417, .iload 4, 2), (1419, .iconst 1, 1), (1420, .iadd, 1), (1421, .iaload, 1), (1422, .invokevirtual 189, 3), (1425, .aload_n 2, 1), (1426, .aload_n 0, 1), (1427, .iload 4, 2), (1429, .iconst 1, 1), (1430, .iadd, 1), (1431, .iaload, 1), (1432, .invokevirtual 192, 3), (1435, .if_icmp .eq 118, 3), (1438, .iconst 0, 1), (1439, .ireturn, 1), (1440, .aload_n 1, 1), (1441, .invokevirtual 193, 3), (1444, .aload_n 2, 1), (1445, .invokevirtual 196, 3), (1448, .if_icmp .eq 105, 3), (1451, .iconst 0, 1), (1452, .ireturn, 1), (1453, .aload_n 1, 1), (1454, .aload_n 0, 1), (1455, .iload 4, 2), (1457, .iconst 1, 1), (1458, .iadd, 1), (1459, .iaload, 1), (1460, .invokevirtual 197, 3), (1463, .aload_n 2, 1), (1464, .aload_n 0, 1), (1465, .iload 4, 2), (1467, .iconst 1, 1), (1468, .iadd, 1), (1469, .iaload, 1), (1470, .invokevirtual 200, 3), (1473, .if_icmp .eq 80, 3), (1476, .iconst 0, 1), (1477, .ireturn, 1), (1478, .aload_n 1, 1), (1479, .aload_n 0, 1), (1480, .iload 4, 2), (1482, .iconst 1, 1), (1483, .iadd, 1), (1484, .iaload, 1), (1485, .invokevirtual 201, 3), (1488, .aload_n 2, 1), (1489, .aload_n 0, 1), (1490, .iload 4, 2), (1492, .iconst 1, 1), (1493, .iadd, 1), (1494, .iaload, 1), (1495, .invokevirtual 204, 3), (1498, .if_icmp .eq 55, 3), (1501, .iconst 0, 1), (1502, .ireturn, 1), (1503, .aload_n 1, 1), (1504, .aload_n 0, 1), (1505, .iload 4, 2), (1507, .iconst 1, 1), (1508, .iadd, 1), (1509, .iaload, 1), (1510, .invokevirtual 205, 3), (1513, .aload_n 2, 1), (1514, .aload_n 0, 1), (1515, .iload 4, 2), (1517, .iconst 1, 1), (1518, .iadd, 1), (1519, .iaload, 1), (1520, .invokevirtual 208, 3), (1523, .if_icmp .eq 30, 3), (1526, .iconst 0, 1), (1527, .ireturn, 1), (1528, .aload_n 1, 1), (1529, .aload_n 0, 1), (1530, .iload 4, 2), (1532, .iconst 1, 1), (1533, .iadd, 1), (1534, .iaload, 1), (1535, .invokevirtual 209, 3), (1538, .aload_n 2, 1), (1539, .aload_n 0, 1), (1540, .iload 4, 2), (1542, .iconst 1, 1), (1543, .iadd, 1), (1544, .iaload, 1), (1545, .invokevirtual 212, 3), (1548, .if_icmp .eq 5, 3), (1551, .iconst 0, 1), (1552, .ireturn, 1), (1553, .iinc 4 6, 3), (1556, .goto (-1533), 3), (1559, .iconst 1, 1), (1560, .ireturn, 1)]
def ec_177 : List eI := [(0, .iload_n 0, 1), (1, .iload_n 0, 1), (2, .iconst 1, 1), (3, .iushr, 1), (4, .ldc_w 265, 3), (7, .iand, 1), (8, .isub, 1), (9, .istore_n 0, 1), (10, .iload_n 0, 1), (11, .ldc_w 266, 3), (14, .iand, 1), (15, .iload_n 0, 1), (16, .iconst 2, 1), (17, .iushr, 1), (18, .ldc_w 266, 3), (21, .iand, 1), (22, .iadd, 1), (23, .istore_n 0, 1), (24, .iload_n 0, 1), (25, .iload_n 0, 1), (26, .iconst 4, 1), (27, .iushr, 1), (28, .iadd, 1), (29, .ldc_w 267, 3), (32, .iand, 1), (33, .istore_n 0, 1), (34, .iload_n 0, 1), (35, .iload_n 0, 1), (36, .bipush 8, 2), (38, .iushr, 1), (39, .iadd, 1), (40, .istore_n 0, 1), (41, .iload_n 0, 1), (42, .iload_n 0, 1), (43, .bipush 16, 2), (45, .iushr, 1), (46, .iadd, 1), (47, .istore_n 0, 1), (48, .iload_n 0, 1), (49, .bipush 63, 2), (51, .iand, 1), (52, .ireturn, 1)]
def ec_178 : List eI := [(0, .iload_n 0, 1), (1, .iload_n 1, 1), (2, .irem, 1), (3, .istore_n 2, 1), (4, .iload_n 0, 1), (5, .iload_n 1, 1), (6, .ixor, 1), (7, .ifCond .ge 11, 3), (10, .iload_n 2, 1), (11, .ifCond .eq 7, 3), (14, .iload_n 2, 1), (15, .iload_n 1, 1), (16, .iadd, 1), (17, .ireturn, 1), (18, .iload_n 2, 1), (19, .ireturn, 1)]
def ec_179 : List eI := [(0, .iload_n 0, 1), (1, .iload_n 1, 1), (2, .if_icmp .gt 7, 3), (5, .iload_n 0, 1), (6, .goto 4, 3), (9, .iload_n 1, 1), (10, .ireturn, 1)]
def ec_180 : List eI := [(0, .iconst 0, 1), (1, .istore_n 2, 1), (2, .aload_n 0, 1), (3, .arraylength, 1), (4, .istore_n 3, 1), (5, .iload_n 2, 1), (6, .iload_n 3, 1), (7, .if_icmp .ge 13, 3), (10, .aload_n 0, 1), (11, .iload_n 2, 1), (12, .iload_n 1, 1), (13, .iastore, 1), (14, .iinc 2 1, 3), (17, .goto (-12), 3), (20, .return_, 1)]
def em_0 : eM := (0, 4, 160, 1, 120, 10, ec_0)
def em_1 : eM := (0, 0, 0, 1, 120, 1, ec_1)
def em_2 : eM := (0, 0, 0, 3, 162, 2, ec_2)
def em_3 : eM := (1, 5, 36, 1, 120, 10, ec_3)
def em_4 : eM := (1, 0, 0, 0, 0, 1, ec_4)
def em_5 : eM := (1, 0, 0, 1, 120, 0, ec_5)
def em_6 : eM := (1, 0, 0, 1, 120, 0, ec_6)
def em_7 : eM := (1, 0, 0, 1, 120, 1, ec_7)
def em_8 : eM := (1, 0, 0, 1, 120, 1, ec_8)
def em_9 : eM := (2, 0, 0, 1, 120, 10, ec_9)
def em_10 : eM := (3, 2, 32, 1, 120, 10, ec_10)
def em_11 : eM := (3, 0, 0, 2, 144, 1, ec_11)
def em_12 : eM := (4, 6, 48, 1, 120, 10, ec_12)
def em_13 : eM := (4, 0, 0, 2, 141, 0, ec_13)
def em_14 : eM := (4, 0, 0, 2, 144, 0, ec_14)
def em_15 : eM := (4, 0, 0, 3, 164, 1, ec_15)
def em_16 : eM := (4, 0, 0, 2, 141, 0, ec_16)
def em_17 : eM := (4, 0, 0, 0, 0, 2, ec_17)
def em_18 : eM := (4, 0, 0, 1, 120, 1, ec_18)
def em_19 : eM := (4, 0, 0, 3, 167, 0, ec_19)
def em_20 : eM := (5, 55, 423, 2, 140, 10, ec_20)
def em_21 : eM := (5, 0, 0, 1, 120, 0, ec_21)
def em_22 : eM := (5, 0, 0, 0, 0, 0, ec_22)
def em_23 : eM := (5, 0, 0, 1, 120, 4, ec_23)
def em_24 : eM := (5, 0, 0, 2, 141, 0, ec_24)
def em_25 : eM := (5, 0, 0, 1, 120, 1, ec_25)
def em_26 : eM := (6, 3, 101, 1, 120, 10, ec_26)
def em_27 : eM := (6, 0, 0, 1, 120, 0, ec_27)
def em_28 : eM := (6, 0, 0, 0, 0, 0, ec_28)
def em_29 : eM := (6, 0, 0, 2, 146, 2, ec_29)
def em_30 : eM := (6, 0, 0, 1, 120, 2, ec_30)
def em_31 : eM := (6, 0, 0, 3, 173, 2, ec_31)
def em_32 : eM := (7, 2, 970, 6, 200, 10, ec_32)
def em_33 : eM := (7, 0, 0, 1, 120, 0, ec_33)
def em_34 : eM := (7, 0, 0, 0, 0, 0, ec_34)
def em_35 : eM := (7, 0, 0, 2, 141, 0, ec_35)
def em_36 : eM := (7, 0, 0, 0, 0, 2, ec_36)
def em_37 : eM := (7, 0, 0, 0, 0, 2, ec_37)
def em_38 : eM := (7, 0, 0, 0, 0, 1, ec_38)
def em_39 : eM := (8, 8, 151, 1, 120, 10, ec_39)
def em_40 : eM := (8, 0, 0, 2, 141, 1, ec_40)
def em_41 : eM := (8, 0, 0, 1, 120, 1, ec_41)
def em_42 : eM := (8, 0, 0, 1, 120, 0, ec_42)
def em_43 : eM := (8, 0, 0, 1, 120, 0, ec_43)
def em_44 : eM := (8, 0, 0, 1, 120, 1, ec_44)
def em_45 : eM := (9, 15, 207, 2, 140, 10, ec_45)
def em_46 : eM := (9, 0, 0, 3, 162, 1, ec_46)
def em_47 : eM := (10, 4, 49, 1, 120, 10, ec_47)
def em_48 : eM := (11, 166, 3029, 7, 221, 10, ec_48)
def em_49 : eM := (11, 0, 0, 3, 162, 2, ec_49)
def em_50 : eM := (11, 0, 0, 0, 0, 1, ec_50)
def em_51 : eM := (11, 0, 0, 3, 162, 1, ec_51)
def em_52 : eM := (11, 0, 0, 3, 162, 1, ec_52)
def em_53 : eM := (11, 0, 0, 0, 0, 1, ec_53)
def em_54 : eM := (11, 0, 0, 4, 185, 1, ec_54)
def em_55 : eM := (11, 0, 0, 0, 0, 1, ec_55)
def em_56 : eM := (11, 0, 0, 3, 162, 1, ec_56)
def em_57 : eM := (11, 0, 0, 1, 120, 1, ec_57)
def em_58 : eM := (11, 0, 0, 2, 141, 1, ec_58)
def em_59 : eM := (11, 0, 0, 3, 162, 1, ec_59)
def em_60 : eM := (11, 0, 0, 3, 162, 1, ec_60)
def em_61 : eM := (11, 0, 0, 2, 141, 1, ec_61)
def em_62 : eM := (11, 0, 0, 0, 0, 2, ec_62)
def em_63 : eM := (11, 0, 0, 3, 162, 1, ec_63)
def em_64 : eM := (11, 0, 0, 0, 0, 1, ec_64)
def em_65 : eM := (11, 0, 0, 1, 120, 1, ec_65)
def em_66 : eM := (11, 0, 0, 3, 162, 1, ec_66)
def em_67 : eM := (11, 0, 0, 3, 162, 1, ec_67)
def em_68 : eM := (11, 0, 0, 2, 141, 1, ec_68)
def em_69 : eM := (11, 0, 0, 0, 0, 2, ec_69)
def em_70 : eM := (11, 0, 0, 3, 162, 1, ec_70)
def em_71 : eM := (11, 0, 0, 2, 141, 2, ec_71)
def em_72 : eM := (11, 0, 0, 0, 0, 2, ec_72)
def em_73 : eM := (11, 0, 0, 2, 141, 2, ec_73)
def em_74 : eM := (11, 0, 0, 1, 120, 2, ec_74)
def em_75 : eM := (11, 0, 0, 2, 141, 2, ec_75)
def em_76 : eM := (11, 0, 0, 1, 120, 2, ec_76)
def em_77 : eM := (11, 0, 0, 0, 0, 2, ec_77)
def em_78 : eM := (11, 0, 0, 2, 140, 1, ec_78)
def em_79 : eM := (11, 0, 0, 3, 162, 2, ec_79)
def em_80 : eM := (11, 0, 0, 4, 184, 1, ec_80)
def em_81 : eM := (11, 0, 0, 3, 162, 1, ec_81)
def em_82 : eM := (11, 0, 0, 2, 141, 1, ec_82)
def em_83 : eM := (11, 0, 0, 3, 161, 1, ec_83)
def em_84 : eM := (11, 0, 0, 3, 162, 1, ec_84)
def em_85 : eM := (11, 0, 0, 3, 162, 1, ec_85)
def em_86 : eM := (11, 0, 0, 2, 141, 1, ec_86)
def em_87 : eM := (11, 0, 0, 1, 120, 1, ec_87)
def em_88 : eM := (11, 0, 0, 4, 187, 1, ec_88)
def em_89 : eM := (11, 0, 0, 1, 120, 2, ec_89)
def em_90 : eM := (11, 0, 0, 4, 192, 1, ec_90)
def em_91 : eM := (11, 0, 0, 1, 120, 1, ec_91)
def em_92 : eM := (11, 0, 0, 4, 184, 1, ec_92)
def em_93 : eM := (11, 0, 0, 4, 195, 1, ec_93)
def em_94 : eM := (11, 0, 0, 2, 141, 1, ec_94)
def em_95 : eM := (11, 0, 0, 3, 169, 1, ec_95)
def em_96 : eM := (11, 0, 0, 1, 120, 1, ec_96)
def em_97 : eM := (11, 0, 0, 4, 184, 1, ec_97)
def em_98 : eM := (11, 0, 0, 3, 162, 1, ec_98)
def em_99 : eM := (11, 0, 0, 2, 141, 1, ec_99)
def em_100 : eM := (11, 0, 0, 2, 142, 1, ec_100)
def em_101 : eM := (11, 0, 0, 1, 120, 1, ec_101)
def em_102 : eM := (11, 0, 0, 3, 162, 1, ec_102)
def em_103 : eM := (11, 0, 0, 4, 184, 1, ec_103)
def em_104 : eM := (12, 26, 3337, 1, 120, 10, ec_104)
def em_105 : eM := (12, 0, 0, 1, 120, 2, ec_105)
def em_106 : eM := (12, 0, 0, 2, 141, 2, ec_106)
def em_107 : eM := (12, 0, 0, 0, 0, 1, ec_107)
def em_108 : eM := (12, 0, 0, 2, 141, 1, ec_108)
def em_109 : eM := (12, 0, 0, 0, 0, 0, ec_109)
def em_110 : eM := (12, 0, 0, 0, 0, 2, ec_110)
def em_111 : eM := (12, 0, 0, 2, 141, 1, ec_111)
def em_112 : eM := (12, 0, 0, 2, 143, 1, ec_112)
def em_113 : eM := (12, 0, 0, 1, 120, 1, ec_113)
def em_114 : eM := (12, 0, 0, 2, 141, 1, ec_114)
def em_115 : eM := (12, 0, 0, 2, 142, 1, ec_115)
def em_116 : eM := (12, 0, 0, 1, 120, 1, ec_116)
def em_117 : eM := (12, 0, 0, 2, 141, 1, ec_117)
def em_118 : eM := (12, 0, 0, 1, 120, 1, ec_118)
def em_119 : eM := (12, 0, 0, 2, 141, 1, ec_119)
def em_120 : eM := (12, 0, 0, 2, 141, 1, ec_120)
def em_121 : eM := (12, 0, 0, 2, 141, 1, ec_121)
def em_122 : eM := (12, 0, 0, 0, 0, 2, ec_122)
def em_123 : eM := (12, 0, 0, 2, 141, 1, ec_123)
def em_124 : eM := (12, 0, 0, 1, 120, 0, ec_124)
def em_125 : eM := (12, 0, 0, 0, 0, 1, ec_125)
def em_126 : eM := (12, 0, 0, 1, 120, 1, ec_126)
def em_127 : eM := (12, 0, 0, 2, 141, 1, ec_127)
def em_128 : eM := (12, 0, 0, 0, 0, 0, ec_128)
def em_129 : eM := (12, 0, 0, 2, 141, 1, ec_129)
def em_130 : eM := (12, 0, 0, 1, 120, 1, ec_130)
def em_131 : eM := (12, 0, 0, 2, 141, 1, ec_131)
def em_132 : eM := (12, 0, 0, 1, 120, 2, ec_132)
def em_133 : eM := (12, 0, 0, 0, 0, 2, ec_133)
def em_134 : eM := (12, 0, 0, 1, 120, 2, ec_134)
def em_135 : eM := (12, 0, 0, 1, 120, 2, ec_135)
def em_136 : eM := (12, 0, 0, 1, 120, 2, ec_136)
def em_137 : eM := (12, 0, 0, 0, 0, 2, ec_137)
def em_138 : eM := (12, 0, 0, 0, 0, 2, ec_138)
def em_139 : eM := (12, 0, 0, 0, 0, 0, ec_139)
def em_140 : eM := (12, 0, 0, 1, 120, 1, ec_140)
def em_141 : eM := (12, 0, 0, 2, 141, 2, ec_141)
def em_142 : eM := (12, 0, 0, 3, 163, 1, ec_142)
def em_143 : eM := (12, 0, 0, 2, 142, 0, ec_143)
def em_144 : eM := (12, 0, 0, 3, 164, 1, ec_144)
def em_145 : eM := (12, 0, 0, 0, 0, 1, ec_145)
def em_146 : eM := (12, 0, 0, 1, 120, 1, ec_146)
def em_147 : eM := (12, 0, 0, 2, 141, 1, ec_147)
def em_148 : eM := (12, 0, 0, 2, 140, 2, ec_148)
def em_149 : eM := (12, 0, 0, 2, 141, 1, ec_149)
def em_150 : eM := (12, 0, 0, 2, 141, 1, ec_150)
def em_151 : eM := (12, 0, 0, 0, 0, 1, ec_151)
def em_152 : eM := (12, 0, 0, 1, 120, 1, ec_152)
def em_153 : eM := (12, 0, 0, 1, 120, 1, ec_153)
def em_154 : eM := (12, 0, 0, 1, 120, 2, ec_154)
def em_155 : eM := (12, 0, 0, 2, 145, 1, ec_155)
def em_156 : eM := (12, 0, 0, 2, 141, 1, ec_156)
def em_157 : eM := (12, 0, 0, 0, 0, 1, ec_157)
def em_158 : eM := (12, 0, 0, 1, 120, 1, ec_158)
def em_159 : eM := (12, 0, 0, 3, 163, 1, ec_159)
def em_160 : eM := (12, 0, 0, 3, 164, 1, ec_160)
def em_161 : eM := (12, 0, 0, 2, 141, 1, ec_161)
def em_162 : eM := (12, 0, 0, 1, 120, 0, ec_162)
def em_163 : eM := (12, 0, 0, 3, 165, 1, ec_163)
def em_164 : eM := (12, 0, 0, 1, 120, 1, ec_164)
def em_165 : eM := (12, 0, 0, 0, 0, 0, ec_165)
def em_166 : eM := (12, 0, 0, 2, 143, 1, ec_166)
def em_167 : eM := (12, 0, 0, 2, 141, 1, ec_167)
def em_168 : eM := (12, 0, 0, 0, 0, 1, ec_168)
def em_169 : eM := (12, 0, 0, 0, 0, 2, ec_169)
def em_170 : eM := (12, 0, 0, 0, 0, 0, ec_170)
def em_171 : eM := (12, 0, 0, 0, 0, 1, ec_171)
def em_172 : eM := (12, 0, 0, 1, 120, 1, ec_172)
def em_173 : eM := (12, 0, 0, 1, 120, 1, ec_173)
def em_174 : eM := (12, 0, 0, 2, 141, 1, ec_174)
def em_175 : eM := (12, 0, 0, 3, 163, 1, ec_175)
def em_176 : eM := (13, 600002, 7302232, 2048, 84000, 20, ec_176)
def em_177 : eM := (14, 0, 0, 0, 0, 1, ec_177)
def em_178 : eM := (15, 0, 0, 0, 0, 1, ec_178)
def em_179 : eM := (15, 0, 0, 0, 0, 1, ec_179)
def em_180 : eM := (16, 0, 0, 0, 0, 0, ec_180)
def emt : List (List (eM × Nat)) := [[(em_0, 1), (em_1, 5), (em_2, 4), (em_3, 1), (em_4, 3), (em_5, 2), (em_6, 1), (em_7, 6), (em_8, 4), (em_9, 1), (em_10, 1), (em_11, 6), (em_12, 1), (em_13, 4), (em_14, 4), (em_15, 4)], [(em_16, 5), (em_17, 5), (em_18, 5), (em_19, 6), (em_20, 2), (em_21, 1), (em_22, 1), (em_23, 1), (em_24, 2), (em_25, 2), (em_26, 1), (em_27, 2), (em_28, 1), (em_29, 8), (em_30, 7), (em_31, 3)], [(em_32, 2), (em_33, 2), (em_34, 3), (em_35, 2), (em_36, 2), (em_37, 2), (em_38, 1), (em_39, 1), (em_40, 1), (em_41, 5), (em_42, 2), (em_43, 1), (em_44, 2), (em_45, 1), (em_46, 3), (em_47, 1)], [(em_48, 2), (em_49, 3), (em_50, 1), (em_51, 3), (em_52, 2), (em_53, 1), (em_54, 3), (em_55, 2), (em_56, 2), (em_57, 4), (em_58, 2), (em_59, 2), (em_60, 2), (em_61, 4), (em_62, 2), (em_63, 2)], [(em_64, 1), (em_65, 6), (em_66, 2), (em_67, 3), (em_68, 5), (em_69, 2), (em_70, 2), (em_71, 2), (em_72, 2), (em_73, 2), (em_74, 2), (em_75, 2), (em_76, 3), (em_77, 1), (em_78, 2), (em_79, 2)], [(em_80, 4), (em_81, 3), (em_82, 3), (em_83, 2), (em_84, 7), (em_85, 3), (em_86, 3), (em_87, 2), (em_88, 1), (em_89, 2), (em_90, 1), (em_91, 5), (em_92, 4), (em_93, 2), (em_94, 3), (em_95, 2)], [(em_96, 2), (em_97, 2), (em_98, 4), (em_99, 1), (em_100, 2), (em_101, 2), (em_102, 4), (em_103, 3), (em_104, 1), (em_105, 2), (em_106, 3), (em_107, 1), (em_108, 7), (em_109, 2), (em_110, 2), (em_111, 4)], [(em_112, 7), (em_113, 2), (em_114, 2), (em_115, 4), (em_116, 3), (em_117, 4), (em_118, 2), (em_119, 4), (em_120, 2), (em_121, 3), (em_122, 2), (em_123, 2), (em_124, 6), (em_125, 1), (em_126, 6), (em_127, 3)], [(em_128, 3), (em_129, 4), (em_130, 7), (em_131, 2), (em_132, 3), (em_133, 3), (em_134, 2), (em_135, 2), (em_136, 2), (em_137, 2), (em_138, 3), (em_139, 2), (em_140, 1), (em_141, 2), (em_142, 5), (em_143, 3)], [(em_144, 3), (em_145, 6), (em_146, 2), (em_147, 6), (em_148, 5), (em_149, 3), (em_150, 3), (em_151, 1), (em_152, 2), (em_153, 4), (em_154, 3), (em_155, 1), (em_156, 3), (em_157, 4), (em_158, 4), (em_159, 5)], [(em_160, 3), (em_161, 4), (em_162, 4), (em_163, 2), (em_164, 2), (em_165, 2), (em_166, 2), (em_167, 7), (em_168, 1), (em_169, 2), (em_170, 2), (em_171, 2), (em_172, 5), (em_173, 2), (em_174, 5), (em_175, 4)], [(em_176, 7), (em_177, 1), (em_178, 3), (em_179, 2), (em_180, 4)]]
noncomputable def eMT1 : Nat → Option (eM × Nat) := fun n => tg 16 emt n
def efl_0 : List (Nat × Nat × Nat × Nat) := [(9, 0, 0, 12), (15, 0, 1, 12), (18, 0, 2, 12), (21, 0, 3, 12), (24, 0, 4, 0), (34, 7, 4, 0), (79, 1, 6, 0), (84, 0, 6, 0), (87, 0, 7, 0), (94, 0, 5, 1), (98, 1, 8, 0), (101, 0, 8, 0), (104, 0, 9, 0)]
def efl_1 : List (Nat × Nat × Nat × Nat) := [(9, 1, 0, 12), (15, 1, 1, 12), (18, 1, 2, 12), (21, 1, 3, 12), (24, 1, 4, 12), (33, 1, 5, 0), (37, 1, 6, 0), (40, 1, 7, 0), (43, 1, 8, 0), (46, 1, 9, 0)]
def efl_2 : List (Nat × Nat × Nat × Nat) := []
def efl_3 : List (Nat × Nat × Nat × Nat) := [(9, 3, 0, 12), (15, 3, 1, 12), (18, 1, 5, 0), (24, 1, 7, 0)]
def efl_4 : List (Nat × Nat × Nat × Nat) := [(9, 4, 0, 12), (15, 4, 2, 12), (18, 4, 3, 12), (21, 4, 5, 12), (24, 4, 6, 12), (27, 4, 7, 12), (30, 4, 1, 0), (91, 4, 4, 1)]
def efl_5 : List (Nat × Nat × Nat × Nat) := [(13, 5, 0, 12), (18, 5, 1, 0), (22, 5, 2, 0)]
def efl_6 : List (Nat × Nat × Nat × Nat) := [(11, 6, 0, 12), (15, 6, 1, 12), (18, 6, 2, 12), (21, 6, 3, 0), (25, 6, 4, 0)]
def efl_7 : List (Nat × Nat × Nat × Nat) := [(9, 7, 0, 12), (15, 7, 8, 12), (45, 7, 1, 0), (48, 7, 9, 0), (51, 7, 10, 0), (54, 7, 2, 0), (57, 7, 3, 0), (77, 7, 6, 0), (80, 7, 5, 0), (83, 7, 4, 0)]
def efl_8 : List (Nat × Nat × Nat × Nat) := [(9, 8, 0, 12), (15, 8, 1, 12), (19, 8, 2, 12), (22, 8, 3, 12), (25, 8, 4, 12), (28, 8, 5, 12), (31, 8, 6, 12), (34, 8, 7, 12), (43, 8, 8, 0), (47, 8, 9, 0)]
def efl_9 : List (Nat × Nat × Nat × Nat) := [(12, 9, 0, 12), (21, 9, 1, 12), (35, 7, 4, 0)]
def efl_10 : List (Nat × Nat × Nat × Nat) := [(9, 10, 0, 12), (15, 10, 1, 12), (18, 10, 2, 12), (21, 10, 3, 12), (24, 10, 5, 0)]
def efl_11 : List (Nat × Nat × Nat × Nat) := [(10, 11, 0, 12), (19, 11, 1, 12), (26, 11, 2, 12), (30, 11, 3, 12), (36, 11, 4, 12), (43, 11, 5, 12), (47, 11, 6, 12), (53, 11, 7, 12), (60, 11, 8, 12), (67, 11, 9, 12), (74, 11, 10, 12), (81, 11, 11, 12), (88, 11, 12, 12), (92, 11, 13, 12), (96, 11, 14, 12), (100, 11, 15, 12), (104, 7, 1, 0), (116, 7, 3, 0), (119, 9, 0, 22), (126, 9, 1, 22), (136, 7, 2, 0), (157, 1, 5, 0), (205, 8, 9, 0), (211, 1, 8, 0), (214, 1, 6, 0), (217, 1, 9, 0), (226, 8, 8, 0), (292, 10, 4, 0), (306, 10, 5, 0), (352, 4, 1, 0), (359, 4, 4, 1), (393, 0, 5, 1), (412, 6, 4, 0), (418, 11, 16, 0)]
def efl_12 : List (Nat × Nat × Nat × Nat) := [(1, 12, 0, 0), (7, 12, 2, 0), (14, 12, 1, 12), (18, 12, 3, 0), (21, 12, 4, 0), (24, 12, 5, 0), (33, 12, 6, 12), (37, 12, 7, 12), (40, 12, 8, 12), (43, 12, 9, 12), (47, 12, 10, 12), (50, 12, 20, 12), (53, 12, 21, 12), (56, 12, 23, 12), (59, 12, 24, 12), (62, 12, 25, 12), (65, 12, 29, 12), (68, 12, 30, 12), (71, 12, 31, 12), (74, 12, 32, 12), (77, 12, 33, 12), (80, 12, 34, 12), (83, 12, 36, 12), (86, 12, 37, 12), (89, 12, 38, 12), (92, 12, 39, 0), (95, 12, 43, 12), (98, 12, 45, 12), (101, 12, 51, 12), (105, 12, 52, 12), (108, 12, 53, 12), (111, 12, 54, 12), (178, 12, 12, 0), (181, 12, 13, 0), (184, 12, 11, 0), (201, 12, 15, 0), (204, 12, 16, 0), (263, 12, 19, 0), (272, 12, 22, 0), (366, 12, 26, 0), (378, 12, 28, 1), (394, 12, 35, 0), (406, 12, 40, 0), (428, 12, 42, 0), (445, 12, 44, 1), (448, 12, 46, 0), (451, 12, 48, 0), (458, 12, 49, 0), (464, 12, 47, 0), (467, 12, 50, 1)]
def efl_13 : List (Nat × Nat × Nat × Nat) := []
def efl_14 : List (Nat × Nat × Nat × Nat) := []
def efl_15 : List (Nat × Nat × Nat × Nat) := []
def efl_16 : List (Nat × Nat × Nat × Nat) := []
def efl : List (List (Nat × Nat × Nat × Nat)) := [efl_0, efl_1, efl_2, efl_3, efl_4, efl_5, efl_6, efl_7, efl_8, efl_9, efl_10, efl_11, efl_12, efl_13, efl_14, efl_15, efl_16]
def ecl__0 : List (Nat × Nat × Nat × Nat) := [(3, 6, 0, 1), (28, 1, 35, 2)]
def ecl__1 : List (Nat × Nat × Nat × Nat) := [(3, 6, 0, 1), (27, 0, 180, 2), (49, 7, 0, 5), (59, 3, 53, 1)]
def ecl__2 : List (Nat × Nat × Nat × Nat) := [(3, 6, 0, 1)]
def ecl__3 : List (Nat × Nat × Nat × Nat) := [(3, 6, 0, 1), (27, 1, 41, 3)]
def ecl__4 : List (Nat × Nat × Nat × Nat) := [(3, 6, 0, 1), (34, 0, 180, 2), (40, 1, 16, 3), (44, 3, 72, 2), (52, 1, 14, 1), (55, 1, 44, 2), (73, 3, 69, 2), (80, 1, 18, 2), (83, 0, 177, 1), (95, 1, 13, 3), (98, 1, 17, 1)]
def ecl__5 : List (Nat × Nat × Nat × Nat) := [(3, 6, 0, 1), (17, 2, 3, 1), (25, 0, 178, 2), (31, 1, 23, 1), (35, 1, 5, 2)]
def ecl__6 : List (Nat × Nat × Nat × Nat) := [(3, 6, 0, 1), (28, 7, 0, 5), (34, 1, 28, 1), (37, 1, 35, 2), (43, 1, 29, 4), (50, 1, 36, 2), (54, 1, 30, 4), (57, 1, 38, 1), (68, 1, 37, 2)]
def ecl__7 : List (Nat × Nat × Nat × Nat) := [(3, 6, 0, 1), (19, 8, 0, 1), (60, 1, 33, 1), (63, 0, 179, 2)]
def ecl__8 : List (Nat × Nat × Nat × Nat) := [(3, 6, 0, 1), (37, 0, 180, 2), (50, 7, 0, 5), (56, 3, 72, 2), (64, 1, 44, 2), (82, 3, 53, 1)]
def ecl__9 : List (Nat × Nat × Nat × Nat) := [(3, 6, 0, 1), (11, 5, 39, 1), (20, 2, 3, 1), (25, 1, 43, 1), (28, 1, 6, 1), (29, 1, 35, 2)]
def ecl__10 : List (Nat × Nat × Nat × Nat) := [(3, 6, 0, 1)]
def ecl__11 : List (Nat × Nat × Nat × Nat) := [(1, 6, 0, 1), (9, 2, 32, 1), (18, 5, 39, 1), (25, 2, 3, 1), (35, 2, 20, 1), (42, 5, 26, 1), (52, 5, 45, 1), (59, 5, 0, 1), (66, 5, 47, 1), (73, 5, 10, 1), (80, 5, 12, 1), (87, 5, 9, 1), (108, 1, 34, 2), (112, 1, 46, 2), (122, 1, 42, 2), (129, 1, 5, 2), (132, 1, 28, 1), (135, 1, 22, 1), (139, 1, 75, 2), (160, 0, 69, 2), (171, 1, 73, 2), (180, 1, 8, 2), (183, 1, 40, 1), (196, 1, 74, 2), (220, 1, 4, 1), (223, 1, 44, 2), (229, 0, 177, 1), (234, 1, 24, 2), (241, 1, 78, 2), (244, 1, 21, 1), (247, 1, 49, 3), (254, 0, 77, 1), (273, 1, 7, 3), (277, 1, 25, 2), (294, 0, 72, 2), (313, 1, 76, 1), (326, 0, 53, 1), (339, 1, 11, 4), (345, 1, 19, 3), (355, 1, 15, 3), (387, 1, 2, 3), (390, 1, 1, 3), (408, 1, 31, 3), (409, 1, 27, 2)]
def ecl__12 : List (Nat × Nat × Nat × Nat) := [(10, 1, 128, 2), (27, 6, 0, 1), (174, 1, 151, 1), (207, 1, 137, 2), (210, 1, 110, 2), (213, 1, 162, 1), (216, 0, 133, 3), (235, 1, 138, 2), (260, 1, 165, 2), (275, 1, 134, 2), (278, 1, 136, 2), (281, 1, 169, 2), (298, 1, 157, 2), (301, 1, 135, 2), (316, 1, 116, 1), (325, 1, 139, 1), (332, 1, 106, 3), (351, 1, 105, 2), (354, 1, 143, 1), (369, 1, 170, 1), (375, 1, 109, 1), (385, 1, 115, 2), (400, 1, 124, 1), (461, 1, 140, 1), (479, 1, 148, 1)]
def ecl__13 : List (Nat × Nat × Nat × Nat) := [(15, 2, 48, 1), (18, 2, 104, 1), (19, 1, 65, 6), (23, 1, 126, 6), (24, 1, 62, 2), (28, 1, 122, 2), (29, 1, 97, 1), (33, 1, 166, 1), (34, 1, 64, 1), (37, 1, 125, 1), (38, 9, 75, 4), (43, 1, 156, 3), (44, 1, 168, 1), (47, 1, 85, 3), (50, 1, 149, 3), (51, 1, 86, 3), (54, 1, 150, 3), (55, 1, 83, 2), (59, 1, 146, 2), (60, 1, 67, 3), (63, 1, 129, 3), (64, 1, 79, 2), (67, 1, 141, 2), (68, 1, 92, 4), (72, 1, 159, 4), (73, 1, 80, 4), (76, 1, 142, 4), (77, 1, 103, 3), (80, 1, 175, 3), (81, 1, 60, 2), (84, 1, 120, 2), (85, 1, 94, 3), (88, 1, 161, 3), (89, 1, 56, 2), (92, 1, 114, 2), (93, 1, 81, 2), (96, 1, 144, 2), (97, 1, 99, 1), (100, 1, 171, 1), (101, 1, 102, 3), (104, 1, 174, 3), (105, 1, 96, 2), (108, 1, 164, 2), (109, 1, 52, 2), (112, 1, 111, 2), (113, 1, 51, 3), (116, 1, 108, 3), (117, 1, 50, 1), (120, 1, 107, 1), (121, 1, 98, 3), (124, 1, 167, 3), (125, 1, 66, 2), (128, 1, 127, 2), (129, 1, 95, 2), (132, 1, 163, 2), (133, 1, 59, 2), (136, 1, 119, 2), (137, 1, 63, 2), (140, 1, 123, 2), (141, 1, 90, 1), (144, 1, 155, 1), (145, 1, 88, 1), (148, 1, 153, 1), (149, 1, 87, 2), (152, 1, 152, 2), (153, 1, 101, 2), (156, 1, 173, 2), (157, 1, 100, 1), (160, 1, 172, 1), (161, 1, 57, 2), (164, 1, 117, 2), (165, 1, 70, 2), (168, 1, 131, 2), (169, 1, 68, 2), (172, 1, 130, 2), (173, 1, 82, 1), (176, 1, 145, 1), (177, 1, 61, 3), (180, 1, 121, 3), (181, 1, 84, 4), (184, 1, 147, 4), (185, 1, 54, 2), (188, 1, 112, 2), (189, 1, 55, 2), (192, 1, 113, 2), (193, 1, 93, 1), (196, 1, 160, 1), (197, 1, 91, 2), (200, 1, 158, 2), (201, 1, 71, 2), (204, 1, 132, 2), (205, 1, 89, 2), (208, 1, 154, 2), (209, 1, 58, 2), (212, 1, 118, 2)]
def ecl__14 : List (Nat × Nat × Nat × Nat) := []
def ecl__15 : List (Nat × Nat × Nat × Nat) := []
def ecl__16 : List (Nat × Nat × Nat × Nat) := []
def ecl_ : List (List (Nat × Nat × Nat × Nat)) := [ecl__0, ecl__1, ecl__2, ecl__3, ecl__4, ecl__5, ecl__6, ecl__7, ecl__8, ecl__9, ecl__10, ecl__11, ecl__12, ecl__13, ecl__14, ecl__15, ecl__16]
def enw_0 : List (Nat × Nat × Nat × List eV) := []
def enw_1 : List (Nat × Nat × Nat × List eV) := []
def enw_2 : List (Nat × Nat × Nat × List eV) := []
def enw_3 : List (Nat × Nat × Nat × List eV) := []
def enw_4 : List (Nat × Nat × Nat × List eV) := []
def enw_5 : List (Nat × Nat × Nat × List eV) := [(11, 1, 10, [eN, eN, eN, eN, eN, .inl 0, .inl 0, .inl 0, .inl 0, .inl 0])]
def enw_6 : List (Nat × Nat × Nat × List eV) := []
def enw_7 : List (Nat × Nat × Nat × List eV) := []
def enw_8 : List (Nat × Nat × Nat × List eV) := []
def enw_9 : List (Nat × Nat × Nat × List eV) := [(9, 8, 10, [eN, eN, eN, eN, eN, eN, eN, eN, .inl 0, .inl 0]), (18, 1, 10, [eN, eN, eN, eN, eN, .inl 0, .inl 0, .inl 0, .inl 0, .inl 0])]
def enw_10 : List (Nat × Nat × Nat × List eV) := []
def enw_11 : List (Nat × Nat × Nat × List eV) := [(7, 7, 11, [eN, .inl 0, .inl 0, .inl 0, .inl 0, .inl 0, .inl 0, eL, eN, .inl 0, .inl 0]), (16, 8, 10, [eN, eN, eN, eN, eN, eN, eN, eN, .inl 0, .inl 0]), (23, 1, 10, [eN, eN, eN, eN, eN, .inl 0, .inl 0, .inl 0, .inl 0, .inl 0]), (33, 5, 3, [eN, .inl 0, .inl 0]), (40, 6, 5, [eN, eN, eN, .inl 0, .inl 0]), (50, 9, 2, [eN, eN]), (57, 0, 10, [eN, eN, eN, eN, .inl 0, .inl 0, .inl 0, .inl 0, .inl 0, .inl 0]), (64, 10, 6, [eN, eN, eN, eN, .inl 0, .inl 0]), (71, 3, 2, [eN, eN]), (78, 4, 8, [eN, .inl 0, eN, eN, .inl 0, eN, eN, eN]), (85, 2, 1, [.inl 0])]
def enw_12 : List (Nat × Nat × Nat × List eV) := []
def enw_13 : List (Nat × Nat × Nat × List eV) := [(8, 11, 17, [eN, eN, eN, eN, eN, eN, eN, eN, eN, eN, eN, eN, eN, eN, eN, eN, .inl 0]), (16, 12, 55, [.inl 0, eN, .inl 0, .inl 0, .inl 0, .inl 0, eN, eN, eN, eN, eN, .inl 0, .inl 0, .inl 0, .inl 0, .inl 0, .inl 0, eL, .inl 0, .inl 0, eN, eN, .inl 0, eN, eN, eN, .inl 0, .inl 0, .inl 0, eN, eN, eN, eN, eN, eN, .inl 0, eN, eN, eN, .inl 0, .inl 0, .inl 0, .inl 0, eN, .inl 0, eN, .inl 0, .inl 0, .inl 0, .inl 0, .inl 0, eN, eN, eN, eN])]
def enw_14 : List (Nat × Nat × Nat × List eV) := []
def enw_15 : List (Nat × Nat × Nat × List eV) := []
def enw_16 : List (Nat × Nat × Nat × List eV) := []
def enw : List (List (Nat × Nat × Nat × List eV)) := [enw_0, enw_1, enw_2, enw_3, enw_4, enw_5, enw_6, enw_7, enw_8, enw_9, enw_10, enw_11, enw_12, enw_13, enw_14, enw_15, enw_16]
def ena_0 : List (Nat × Nat) := []
def ena_1 : List (Nat × Nat) := []
def ena_2 : List (Nat × Nat) := []
def ena_3 : List (Nat × Nat) := []
def ena_4 : List (Nat × Nat) := []
def ena_5 : List (Nat × Nat) := [(11, 1)]
def ena_6 : List (Nat × Nat) := []
def ena_7 : List (Nat × Nat) := []
def ena_8 : List (Nat × Nat) := []
def ena_9 : List (Nat × Nat) := []
def ena_10 : List (Nat × Nat) := []
def ena_11 : List (Nat × Nat) := [(16, 8), (23, 1), (40, 6)]
def ena_12 : List (Nat × Nat) := []
def ena_13 : List (Nat × Nat) := []
def ena_14 : List (Nat × Nat) := []
def ena_15 : List (Nat × Nat) := []
def ena_16 : List (Nat × Nat) := []
def ena : List (List (Nat × Nat)) := [ena_0, ena_1, ena_2, ena_3, ena_4, ena_5, ena_6, ena_7, ena_8, ena_9, ena_10, ena_11, ena_12, ena_13, ena_14, ena_15, ena_16]
def eki_0 : List (Nat × Nat) := []
def eki_1 : List (Nat × Nat) := []
def eki_2 : List (Nat × Nat) := [(15, 1103515245)]
def eki_3 : List (Nat × Nat) := []
def eki_4 : List (Nat × Nat) := []
def eki_5 : List (Nat × Nat) := []
def eki_6 : List (Nat × Nat) := []
def eki_7 : List (Nat × Nat) := []
def eki_8 : List (Nat × Nat) := []
def eki_9 : List (Nat × Nat) := []
def eki_10 : List (Nat × Nat) := []
def eki_11 : List (Nat × Nat) := []
def eki_12 : List (Nat × Nat) := [(418, 1103515245)]
def eki_13 : List (Nat × Nat) := []
def eki_14 : List (Nat × Nat) := [(265, 1431655765), (266, 858993459), (267, 252645135)]
def eki_15 : List (Nat × Nat) := []
def eki_16 : List (Nat × Nat) := []
def eki : List (List (Nat × Nat)) := [eki_0, eki_1, eki_2, eki_3, eki_4, eki_5, eki_6, eki_7, eki_8, eki_9, eki_10, eki_11, eki_12, eki_13, eki_14, eki_15, eki_16]
def ekl_0 : List (Nat × Nat) := []
def ekl_1 : List (Nat × Nat) := []
def ekl_2 : List (Nat × Nat) := []
def ekl_3 : List (Nat × Nat) := []
def ekl_4 : List (Nat × Nat) := []
def ekl_5 : List (Nat × Nat) := []
def ekl_6 : List (Nat × Nat) := []
def ekl_7 : List (Nat × Nat) := []
def ekl_8 : List (Nat × Nat) := []
def ekl_9 : List (Nat × Nat) := []
def ekl_10 : List (Nat × Nat) := []
def ekl_11 : List (Nat × Nat) := []
def ekl_12 : List (Nat × Nat) := [(114, 0), (116, 0), (118, 0), (120, 0), (122, 0), (124, 0), (126, 0), (128, 0), (130, 0), (132, 0), (134, 0), (136, 0), (138, 0), (140, 0), (142, 0), (144, 0), (146, 0), (148, 0), (150, 0), (152, 0), (154, 0), (156, 0), (158, 0), (160, 0), (162, 0), (164, 0), (166, 0), (168, 0), (170, 0), (172, 0)]
def ekl_13 : List (Nat × Nat) := []
def ekl_14 : List (Nat × Nat) := []
def ekl_15 : List (Nat × Nat) := []
def ekl_16 : List (Nat × Nat) := []
def ekl : List (List (Nat × Nat)) := [ekl_0, ekl_1, ekl_2, ekl_3, ekl_4, ekl_5, ekl_6, ekl_7, ekl_8, ekl_9, ekl_10, ekl_11, ekl_12, ekl_13, ekl_14, ekl_15, ekl_16]
noncomputable def ea {α : Type} (l : List (Nat × α)) (i : Nat) : Option α := List.rec none (fun q _ ih => bif Nat.beq q.1 i then some q.2 else ih) l
noncomputable def ea2 {α : Type} (l : List (List (Nat × α))) (o i : Nat) : Option α := match eg l o with
  | some r => ea r i
  | none => none
theorem ea_mem {α : Type} {i : Nat} {v : α} : ∀ {l : List (Nat × α)}, ea l i = some v → (i, v) ∈ l
  | [], h => by cases h
  | q :: l, h => by
    have h : (bif Nat.beq q.1 i then some q.2 else ea l i) = some v := h
    cases hb : Nat.beq q.1 i with
    | true =>
      rw [hb] at h
      have h : some q.2 = some v := h
      cases h
      rw [← Nat.eq_of_beq_eq_true hb]
      exact List.mem_cons_self
    | false =>
      rw [hb] at h
      exact List.mem_cons_of_mem _ (ea_mem h)
/-- what holds of every row of a table -/
def eAll {α : Type} (P : Nat → α → Prop) : Nat → List (List α) → Prop
  | _, [] => True
  | o, r :: rs => (∀ x ∈ r, P o x) ∧ eAll P (o + 1) rs
theorem eAll_at {α : Type} {P : Nat → α → Prop} : ∀ {l : List (List α)} {o k : Nat} {r : List α}, eAll P k l → l[o]? = some r → ∀ x ∈ r, P (k + o) x
  | [], o, _, _, _, h => by simp at h
  | r0 :: l, 0, k, r, h, hr => by
    rw [List.getElem?_cons_zero] at hr
    cases hr
    exact h.1
  | r0 :: l, o + 1, k, r, h, hr => by
    rw [List.getElem?_cons_succ] at hr
    have := eAll_at h.2 hr
    rwa [show k + 1 + o = k + (o + 1) by omega] at this
theorem ea2_all {α : Type} {l : List (List (Nat × α))} {P : Nat → Nat × α → Prop} (h : eAll P 0 l) {o i : Nat} {v : α} (hv : ea2 l o i = some v) : P o (i, v) := by
  unfold ea2 at hv
  rw [eg_eq] at hv
  split at hv
  · rename_i r hr
    have := eAll_at h hr _ (ea_mem hv)
    rwa [Nat.zero_add] at this
  · cases hv
noncomputable def eFL1 : eFL := ea2 efl
noncomputable def eCL1 : eFL := ea2 ecl_
noncomputable def eNW1 : Nat → Nat → Option (Nat × Nat × List eV) := ea2 enw
noncomputable def eNA1 : Nat → Nat → Option Nat := ea2 ena
noncomputable def eKI1 : Nat → Nat → Option Nat := ea2 eki
noncomputable def eKL1 : Nat → Nat → Option Nat := ea2 ekl
end
section
theorem ed_0 : ∀ t ∈ ec_0, decode cX0_init t.1 = .ok (t.2.1, t.2.2) := by decide +kernel
theorem ee_0 : ec_0.all (fun t => est t.1 t.2.1 1 && elen t.2.1 t.2.2) = true := by decide +kernel
theorem ed_1 : ∀ t ∈ ec_1, decode cX0_live t.1 = .ok (t.2.1, t.2.2) := by decide +kernel
theorem ee_1 : ec_1.all (fun t => est t.1 t.2.1 5 && elen t.2.1 t.2.2) = true := by decide +kernel
theorem ed_2 : ∀ t ∈ ec_2, decode cX0_readText t.1 = .ok (t.2.1, t.2.2) := by decide +kernel
theorem ee_2 : ec_2.all (fun t => est t.1 t.2.1 4 && elen t.2.1 t.2.2) = true := by decide +kernel
theorem ed_3 : ∀ t ∈ ec_3, decode cX1_init t.1 = .ok (t.2.1, t.2.2) := by decide +kernel
theorem ee_3 : ec_3.all (fun t => est t.1 t.2.1 1 && elen t.2.1 t.2.2) = true := by decide +kernel
theorem ed_4 : ∀ t ∈ ec_4, decode cX1_allGoings t.1 = .ok (t.2.1, t.2.2) := by decide +kernel
theorem ee_4 : ec_4.all (fun t => est t.1 t.2.1 3 && elen t.2.1 t.2.2) = true := by decide +kernel
theorem ed_5 : ∀ t ∈ ec_5, decode cX1_copyFrom t.1 = .ok (t.2.1, t.2.2) := by decide +kernel
theorem ee_5 : ec_5.all (fun t => est t.1 t.2.1 2 && elen t.2.1 t.2.2) = true := by decide +kernel
theorem ed_6 : ∀ t ∈ ec_6, decode cX1_forget t.1 = .ok (t.2.1, t.2.2) := by decide +kernel
theorem ee_6 : ec_6.all (fun t => est t.1 t.2.1 1 && elen t.2.1 t.2.2) = true := by decide +kernel
theorem ed_7 : ∀ t ∈ ec_7, decode cX1_passMinutes t.1 = .ok (t.2.1, t.2.2) := by decide +kernel
theorem ee_7 : ec_7.all (fun t => est t.1 t.2.1 6 && elen t.2.1 t.2.2) = true := by decide +kernel
theorem ed_8 : ∀ t ∈ ec_8, decode cX1_roomsOf t.1 = .ok (t.2.1, t.2.2) := by decide +kernel
theorem ee_8 : ec_8.all (fun t => est t.1 t.2.1 4 && elen t.2.1 t.2.2) = true := by decide +kernel
theorem ed_9 : ∀ t ∈ ec_9, decode cX2_init t.1 = .ok (t.2.1, t.2.2) := by decide +kernel
theorem ee_9 : ec_9.all (fun t => est t.1 t.2.1 1 && elen t.2.1 t.2.2) = true := by decide +kernel
theorem ed_10 : ∀ t ∈ ec_10, decode cX3_init t.1 = .ok (t.2.1, t.2.2) := by decide +kernel
theorem ee_10 : ec_10.all (fun t => est t.1 t.2.1 1 && elen t.2.1 t.2.2) = true := by decide +kernel
theorem ed_11 : ∀ t ∈ ec_11, decode cX3_burntIn t.1 = .ok (t.2.1, t.2.2) := by decide +kernel
theorem ee_11 : ec_11.all (fun t => est t.1 t.2.1 6 && elen t.2.1 t.2.2) = true := by decide +kernel
theorem ed_12 : ∀ t ∈ ec_12, decode cX4_init t.1 = .ok (t.2.1, t.2.2) := by decide +kernel
theorem ee_12 : ec_12.all (fun t => est t.1 t.2.1 1 && elen t.2.1 t.2.2) = true := by decide +kernel
theorem ed_13 : ∀ t ∈ ec_13, decode cX4_choose t.1 = .ok (t.2.1, t.2.2) := by decide +kernel
theorem ee_13 : ec_13.all (fun t => est t.1 t.2.1 4 && elen t.2.1 t.2.2) = true := by decide +kernel
theorem ed_14 : ∀ t ∈ ec_14, decode cX4_closeRings t.1 = .ok (t.2.1, t.2.2) := by decide +kernel
theorem ee_14 : ec_14.all (fun t => est t.1 t.2.1 4 && elen t.2.1 t.2.2) = true := by decide +kernel
theorem ed_15 : ∀ t ∈ ec_15, decode cX4_findPrices t.1 = .ok (t.2.1, t.2.2) := by decide +kernel
theorem ee_15 : ec_15.all (fun t => est t.1 t.2.1 4 && elen t.2.1 t.2.2) = true := by decide +kernel
theorem ed_16 : ∀ t ∈ ec_16, decode cX4_gather t.1 = .ok (t.2.1, t.2.2) := by decide +kernel
theorem ee_16 : ec_16.all (fun t => est t.1 t.2.1 5 && elen t.2.1 t.2.2) = true := by decide +kernel
theorem ed_17 : ∀ t ∈ ec_17, decode cX4_raisePrices t.1 = .ok (t.2.1, t.2.2) := by decide +kernel
theorem ee_17 : ec_17.all (fun t => est t.1 t.2.1 5 && elen t.2.1 t.2.2) = true := by decide +kernel
theorem ed_18 : ∀ t ∈ ec_18, decode cX4_ringOf t.1 = .ok (t.2.1, t.2.2) := by decide +kernel
theorem ee_18 : ec_18.all (fun t => est t.1 t.2.1 5 && elen t.2.1 t.2.2) = true := by decide +kernel
theorem ed_19 : ∀ t ∈ ec_19, decode cX4_trade t.1 = .ok (t.2.1, t.2.2) := by decide +kernel
theorem ee_19 : ec_19.all (fun t => est t.1 t.2.1 6 && elen t.2.1 t.2.2) = true := by decide +kernel
theorem ed_20 : ∀ t ∈ ec_20, decode cX5_init t.1 = .ok (t.2.1, t.2.2) := by decide +kernel
theorem ee_20 : ec_20.all (fun t => est t.1 t.2.1 2 && elen t.2.1 t.2.2) = true := by decide +kernel
theorem ed_21 : ∀ t ∈ ec_21, decode cX5_confirm t.1 = .ok (t.2.1, t.2.2) := by decide +kernel
theorem ee_21 : ec_21.all (fun t => est t.1 t.2.1 1 && elen t.2.1 t.2.2) = true := by decide +kernel
theorem ed_22 : ∀ t ∈ ec_22, decode cX5_forget t.1 = .ok (t.2.1, t.2.2) := by decide +kernel
theorem ee_22 : ec_22.all (fun t => est t.1 t.2.1 1 && elen t.2.1 t.2.2) = true := by decide +kernel
theorem ed_23 : ∀ t ∈ ec_23, decode cX5_newest t.1 = .ok (t.2.1, t.2.2) := by decide +kernel
theorem ee_23 : ec_23.all (fun t => est t.1 t.2.1 1 && elen t.2.1 t.2.2) = true := by decide +kernel
theorem ed_24 : ∀ t ∈ ec_24, decode cX5_prepare t.1 = .ok (t.2.1, t.2.2) := by decide +kernel
theorem ee_24 : ec_24.all (fun t => est t.1 t.2.1 2 && elen t.2.1 t.2.2) = true := by decide +kernel
theorem ed_25 : ∀ t ∈ ec_25, decode cX5_takeBack t.1 = .ok (t.2.1, t.2.2) := by decide +kernel
theorem ee_25 : ec_25.all (fun t => est t.1 t.2.1 2 && elen t.2.1 t.2.2) = true := by decide +kernel
theorem ed_26 : ∀ t ∈ ec_26, decode cX6_init t.1 = .ok (t.2.1, t.2.2) := by decide +kernel
theorem ee_26 : ec_26.all (fun t => est t.1 t.2.1 1 && elen t.2.1 t.2.2) = true := by decide +kernel
theorem ed_27 : ∀ t ∈ ec_27, decode cX6_copyFrom t.1 = .ok (t.2.1, t.2.2) := by decide +kernel
theorem ee_27 : ec_27.all (fun t => est t.1 t.2.1 2 && elen t.2.1 t.2.2) = true := by decide +kernel
theorem ed_28 : ∀ t ∈ ec_28, decode cX6_forget t.1 = .ok (t.2.1, t.2.2) := by decide +kernel
theorem ee_28 : ec_28.all (fun t => est t.1 t.2.1 1 && elen t.2.1 t.2.2) = true := by decide +kernel
theorem ed_29 : ∀ t ∈ ec_29, decode cX6_readCond t.1 = .ok (t.2.1, t.2.2) := by decide +kernel
theorem ee_29 : ec_29.all (fun t => est t.1 t.2.1 8 && elen t.2.1 t.2.2) = true := by decide +kernel
theorem ed_30 : ∀ t ∈ ec_30, decode cX6_readOne t.1 = .ok (t.2.1, t.2.2) := by decide +kernel
theorem ee_30 : ec_30.all (fun t => est t.1 t.2.1 7 && elen t.2.1 t.2.2) = true := by decide +kernel
theorem ed_31 : ∀ t ∈ ec_31, decode cX6_readText t.1 = .ok (t.2.1, t.2.2) := by decide +kernel
theorem ee_31 : ec_31.all (fun t => est t.1 t.2.1 3 && elen t.2.1 t.2.2) = true := by decide +kernel
theorem ed_32 : ∀ t ∈ ec_32, decode cX7_init t.1 = .ok (t.2.1, t.2.2) := by decide +kernel
theorem ee_32 : ec_32.all (fun t => est t.1 t.2.1 2 && elen t.2.1 t.2.2) = true := by decide +kernel
theorem ed_33 : ∀ t ∈ ec_33, decode cX7_advance t.1 = .ok (t.2.1, t.2.2) := by decide +kernel
theorem ee_33 : ec_33.all (fun t => est t.1 t.2.1 2 && elen t.2.1 t.2.2) = true := by decide +kernel
theorem ed_34 : ∀ t ∈ ec_34, decode cX7_append t.1 = .ok (t.2.1, t.2.2) := by decide +kernel
theorem ee_34 : ec_34.all (fun t => est t.1 t.2.1 3 && elen t.2.1 t.2.2) = true := by decide +kernel
theorem ed_35 : ∀ t ∈ ec_35, decode cX7_begin t.1 = .ok (t.2.1, t.2.2) := by decide +kernel
theorem ee_35 : ec_35.all (fun t => est t.1 t.2.1 2 && elen t.2.1 t.2.2) = true := by decide +kernel
theorem ed_36 : ∀ t ∈ ec_36, decode cX7_fail t.1 = .ok (t.2.1, t.2.2) := by decide +kernel
theorem ee_36 : ec_36.all (fun t => est t.1 t.2.1 2 && elen t.2.1 t.2.2) = true := by decide +kernel
theorem ed_37 : ∀ t ∈ ec_37, decode cX7_isSign t.1 = .ok (t.2.1, t.2.2) := by decide +kernel
theorem ee_37 : ec_37.all (fun t => est t.1 t.2.1 2 && elen t.2.1 t.2.2) = true := by decide +kernel
theorem ed_38 : ∀ t ∈ ec_38, decode cX7_keyword t.1 = .ok (t.2.1, t.2.2) := by decide +kernel
theorem ee_38 : ec_38.all (fun t => est t.1 t.2.1 1 && elen t.2.1 t.2.2) = true := by decide +kernel
theorem ed_39 : ∀ t ∈ ec_39, decode cX8_init t.1 = .ok (t.2.1, t.2.2) := by decide +kernel
theorem ee_39 : ec_39.all (fun t => est t.1 t.2.1 1 && elen t.2.1 t.2.2) = true := by decide +kernel
theorem ed_40 : ∀ t ∈ ec_40, decode cX8_allRooms t.1 = .ok (t.2.1, t.2.2) := by decide +kernel
theorem ee_40 : ec_40.all (fun t => est t.1 t.2.1 1 && elen t.2.1 t.2.2) = true := by decide +kernel
theorem ed_41 : ∀ t ∈ ec_41, decode cX8_around t.1 = .ok (t.2.1, t.2.2) := by decide +kernel
theorem ee_41 : ec_41.all (fun t => est t.1 t.2.1 5 && elen t.2.1 t.2.2) = true := by decide +kernel
theorem ed_42 : ∀ t ∈ ec_42, decode cX8_copyFrom t.1 = .ok (t.2.1, t.2.2) := by decide +kernel
theorem ee_42 : ec_42.all (fun t => est t.1 t.2.1 2 && elen t.2.1 t.2.2) = true := by decide +kernel
theorem ed_43 : ∀ t ∈ ec_43, decode cX8_forget t.1 = .ok (t.2.1, t.2.2) := by decide +kernel
theorem ee_43 : ec_43.all (fun t => est t.1 t.2.1 1 && elen t.2.1 t.2.2) = true := by decide +kernel
theorem ed_44 : ∀ t ∈ ec_44, decode cX8_manyOf t.1 = .ok (t.2.1, t.2.2) := by decide +kernel
theorem ee_44 : ec_44.all (fun t => est t.1 t.2.1 2 && elen t.2.1 t.2.2) = true := by decide +kernel
theorem ed_45 : ∀ t ∈ ec_45, decode cX9_init t.1 = .ok (t.2.1, t.2.2) := by decide +kernel
theorem ee_45 : ec_45.all (fun t => est t.1 t.2.1 1 && elen t.2.1 t.2.2) = true := by decide +kernel
theorem ed_46 : ∀ t ∈ ec_46, decode cX9_readText t.1 = .ok (t.2.1, t.2.2) := by decide +kernel
theorem ee_46 : ec_46.all (fun t => est t.1 t.2.1 3 && elen t.2.1 t.2.2) = true := by decide +kernel
theorem ed_47 : ∀ t ∈ ec_47, decode cX10_init t.1 = .ok (t.2.1, t.2.2) := by decide +kernel
theorem ee_47 : ec_47.all (fun t => est t.1 t.2.1 1 && elen t.2.1 t.2.2) = true := by decide +kernel
theorem ed_48 : ∀ t ∈ ec_48, decode cX11_init t.1 = .ok (t.2.1, t.2.2) := by decide +kernel
theorem ee_48 : ec_48.all (fun t => est t.1 t.2.1 2 && elen t.2.1 t.2.2) = true := by decide +kernel
end
section
theorem ed_49 : ∀ t ∈ ec_49, decode cX11_areTwoOwners t.1 = .ok (t.2.1, t.2.2) := by decide +kernel
theorem ee_49 : ec_49.all (fun t => est t.1 t.2.1 3 && elen t.2.1 t.2.2) = true := by decide +kernel
theorem ed_50 : ∀ t ∈ ec_50, decode cX11_asked t.1 = .ok (t.2.1, t.2.2) := by decide +kernel
theorem ee_50 : ec_50.all (fun t => est t.1 t.2.1 1 && elen t.2.1 t.2.2) = true := by decide +kernel
theorem ed_51 : ∀ t ∈ ec_51, decode cX11_asks t.1 = .ok (t.2.1, t.2.2) := by decide +kernel
theorem ee_51 : ec_51.all (fun t => est t.1 t.2.1 3 && elen t.2.1 t.2.2) = true := by decide +kernel
theorem ed_52 : ∀ t ∈ ec_52, decode cX11_barred t.1 = .ok (t.2.1, t.2.2) := by decide +kernel
theorem ee_52 : ec_52.all (fun t => est t.1 t.2.1 2 && elen t.2.1 t.2.2) = true := by decide +kernel
theorem ed_53 : ∀ t ∈ ec_53, decode cX11_bit t.1 = .ok (t.2.1, t.2.2) := by decide +kernel
theorem ee_53 : ec_53.all (fun t => est t.1 t.2.1 1 && elen t.2.1 t.2.2) = true := by decide +kernel
theorem ed_54 : ∀ t ∈ ec_54, decode cX11_book t.1 = .ok (t.2.1, t.2.2) := by decide +kernel
theorem ee_54 : ec_54.all (fun t => est t.1 t.2.1 3 && elen t.2.1 t.2.2) = true := by decide +kernel
theorem ed_55 : ∀ t ∈ ec_55, decode cX11_booked t.1 = .ok (t.2.1, t.2.2) := by decide +kernel
theorem ee_55 : ec_55.all (fun t => est t.1 t.2.1 2 && elen t.2.1 t.2.2) = true := by decide +kernel
theorem ed_56 : ∀ t ∈ ec_56, decode cX11_burn t.1 = .ok (t.2.1, t.2.2) := by decide +kernel
theorem ee_56 : ec_56.all (fun t => est t.1 t.2.1 2 && elen t.2.1 t.2.2) = true := by decide +kernel
theorem ed_57 : ∀ t ∈ ec_57, decode cX11_corridor t.1 = .ok (t.2.1, t.2.2) := by decide +kernel
theorem ee_57 : ec_57.all (fun t => est t.1 t.2.1 4 && elen t.2.1 t.2.2) = true := by decide +kernel
theorem ed_58 : ∀ t ∈ ec_58, decode cX11_count t.1 = .ok (t.2.1, t.2.2) := by decide +kernel
theorem ee_58 : ec_58.all (fun t => est t.1 t.2.1 2 && elen t.2.1 t.2.2) = true := by decide +kernel
theorem ed_59 : ∀ t ∈ ec_59, decode cX11_cut t.1 = .ok (t.2.1, t.2.2) := by decide +kernel
theorem ee_59 : ec_59.all (fun t => est t.1 t.2.1 2 && elen t.2.1 t.2.2) = true := by decide +kernel
theorem ed_60 : ∀ t ∈ ec_60, decode cX11_die t.1 = .ok (t.2.1, t.2.2) := by decide +kernel
theorem ee_60 : ec_60.all (fun t => est t.1 t.2.1 2 && elen t.2.1 t.2.2) = true := by decide +kernel
theorem ed_61 : ∀ t ∈ ec_61, decode cX11_drawn t.1 = .ok (t.2.1, t.2.2) := by decide +kernel
theorem ee_61 : ec_61.all (fun t => est t.1 t.2.1 4 && elen t.2.1 t.2.2) = true := by decide +kernel
theorem ed_62 : ∀ t ∈ ec_62, decode cX11_end t.1 = .ok (t.2.1, t.2.2) := by decide +kernel
theorem ee_62 : ec_62.all (fun t => est t.1 t.2.1 2 && elen t.2.1 t.2.2) = true := by decide +kernel
theorem ed_63 : ∀ t ∈ ec_63, decode cX11_exchange t.1 = .ok (t.2.1, t.2.2) := by decide +kernel
theorem ee_63 : ec_63.all (fun t => est t.1 t.2.1 2 && elen t.2.1 t.2.2) = true := by decide +kernel
theorem ed_64 : ∀ t ∈ ec_64, decode cX11_fault t.1 = .ok (t.2.1, t.2.2) := by decide +kernel
theorem ee_64 : ec_64.all (fun t => est t.1 t.2.1 1 && elen t.2.1 t.2.2) = true := by decide +kernel
theorem ed_65 : ∀ t ∈ ec_65, decode cX11_feed t.1 = .ok (t.2.1, t.2.2) := by decide +kernel
theorem ee_65 : ec_65.all (fun t => est t.1 t.2.1 6 && elen t.2.1 t.2.2) = true := by decide +kernel
theorem ed_66 : ∀ t ∈ ec_66, decode cX11_fire t.1 = .ok (t.2.1, t.2.2) := by decide +kernel
theorem ee_66 : ec_66.all (fun t => est t.1 t.2.1 2 && elen t.2.1 t.2.2) = true := by decide +kernel
theorem ed_67 : ∀ t ∈ ec_67, decode cX11_go t.1 = .ok (t.2.1, t.2.2) := by decide +kernel
theorem ee_67 : ec_67.all (fun t => est t.1 t.2.1 3 && elen t.2.1 t.2.2) = true := by decide +kernel
theorem ed_68 : ∀ t ∈ ec_68, decode cX11_guests t.1 = .ok (t.2.1, t.2.2) := by decide +kernel
theorem ee_68 : ec_68.all (fun t => est t.1 t.2.1 5 && elen t.2.1 t.2.2) = true := by decide +kernel
theorem ed_69 : ∀ t ∈ ec_69, decode cX11_has t.1 = .ok (t.2.1, t.2.2) := by decide +kernel
theorem ee_69 : ec_69.all (fun t => est t.1 t.2.1 2 && elen t.2.1 t.2.2) = true := by decide +kernel
theorem ed_70 : ∀ t ∈ ec_70, decode cX11_heir t.1 = .ok (t.2.1, t.2.2) := by decide +kernel
theorem ee_70 : ec_70.all (fun t => est t.1 t.2.1 2 && elen t.2.1 t.2.2) = true := by decide +kernel
theorem ed_71 : ∀ t ∈ ec_71, decode cX11_image t.1 = .ok (t.2.1, t.2.2) := by decide +kernel
theorem ee_71 : ec_71.all (fun t => est t.1 t.2.1 2 && elen t.2.1 t.2.2) = true := by decide +kernel
theorem ed_72 : ∀ t ∈ ec_72, decode cX11_isBelow t.1 = .ok (t.2.1, t.2.2) := by decide +kernel
theorem ee_72 : ec_72.all (fun t => est t.1 t.2.1 2 && elen t.2.1 t.2.2) = true := by decide +kernel
theorem ed_73 : ∀ t ∈ ec_73, decode cX11_isOwner t.1 = .ok (t.2.1, t.2.2) := by decide +kernel
theorem ee_73 : ec_73.all (fun t => est t.1 t.2.1 2 && elen t.2.1 t.2.2) = true := by decide +kernel
theorem ed_74 : ∀ t ∈ ec_74, decode cX11_isPassage t.1 = .ok (t.2.1, t.2.2) := by decide +kernel
theorem ee_74 : ec_74.all (fun t => est t.1 t.2.1 2 && elen t.2.1 t.2.2) = true := by decide +kernel
theorem ed_75 : ∀ t ∈ ec_75, decode cX11_isRoom t.1 = .ok (t.2.1, t.2.2) := by decide +kernel
theorem ee_75 : ec_75.all (fun t => est t.1 t.2.1 2 && elen t.2.1 t.2.2) = true := by decide +kernel
theorem ed_76 : ∀ t ∈ ec_76, decode cX11_isRowOfRooms t.1 = .ok (t.2.1, t.2.2) := by decide +kernel
theorem ee_76 : ec_76.all (fun t => est t.1 t.2.1 3 && elen t.2.1 t.2.2) = true := by decide +kernel
theorem ed_77 : ∀ t ∈ ec_77, decode cX11_isSwitch t.1 = .ok (t.2.1, t.2.2) := by decide +kernel
theorem ee_77 : ec_77.all (fun t => est t.1 t.2.1 1 && elen t.2.1 t.2.2) = true := by decide +kernel
theorem ed_78 : ∀ t ∈ ec_78, decode cX11_keptIfDone t.1 = .ok (t.2.1, t.2.2) := by decide +kernel
theorem ee_78 : ec_78.all (fun t => est t.1 t.2.1 2 && elen t.2.1 t.2.2) = true := by decide +kernel
theorem ed_79 : ∀ t ∈ ec_79, decode cX11_leave t.1 = .ok (t.2.1, t.2.2) := by decide +kernel
theorem ee_79 : ec_79.all (fun t => est t.1 t.2.1 2 && elen t.2.1 t.2.2) = true := by decide +kernel
theorem ed_80 : ∀ t ∈ ec_80, decode cX11_let t.1 = .ok (t.2.1, t.2.2) := by decide +kernel
theorem ee_80 : ec_80.all (fun t => est t.1 t.2.1 4 && elen t.2.1 t.2.2) = true := by decide +kernel
theorem ed_81 : ∀ t ∈ ec_81, decode cX11_minutes t.1 = .ok (t.2.1, t.2.2) := by decide +kernel
theorem ee_81 : ec_81.all (fun t => est t.1 t.2.1 3 && elen t.2.1 t.2.2) = true := by decide +kernel
theorem ed_82 : ∀ t ∈ ec_82, decode cX11_mixed t.1 = .ok (t.2.1, t.2.2) := by decide +kernel
theorem ee_82 : ec_82.all (fun t => est t.1 t.2.1 3 && elen t.2.1 t.2.2) = true := by decide +kernel
theorem ed_83 : ∀ t ∈ ec_83, decode cX11_now t.1 = .ok (t.2.1, t.2.2) := by decide +kernel
theorem ee_83 : ec_83.all (fun t => est t.1 t.2.1 2 && elen t.2.1 t.2.2) = true := by decide +kernel
theorem ed_84 : ∀ t ∈ ec_84, decode cX11_odds t.1 = .ok (t.2.1, t.2.2) := by decide +kernel
theorem ee_84 : ec_84.all (fun t => est t.1 t.2.1 7 && elen t.2.1 t.2.2) = true := by decide +kernel
theorem ed_85 : ∀ t ∈ ec_85, decode cX11_owner t.1 = .ok (t.2.1, t.2.2) := by decide +kernel
theorem ee_85 : ec_85.all (fun t => est t.1 t.2.1 3 && elen t.2.1 t.2.2) = true := by decide +kernel
theorem ed_86 : ∀ t ∈ ec_86, decode cX11_passage t.1 = .ok (t.2.1, t.2.2) := by decide +kernel
theorem ee_86 : ec_86.all (fun t => est t.1 t.2.1 3 && elen t.2.1 t.2.2) = true := by decide +kernel
theorem ed_87 : ∀ t ∈ ec_87, decode cX11_price t.1 = .ok (t.2.1, t.2.2) := by decide +kernel
theorem ee_87 : ec_87.all (fun t => est t.1 t.2.1 2 && elen t.2.1 t.2.2) = true := by decide +kernel
theorem ed_88 : ∀ t ∈ ec_88, decode cX11_prices t.1 = .ok (t.2.1, t.2.2) := by decide +kernel
theorem ee_88 : ec_88.all (fun t => est t.1 t.2.1 1 && elen t.2.1 t.2.2) = true := by decide +kernel
theorem ed_89 : ∀ t ∈ ec_89, decode cX11_restore t.1 = .ok (t.2.1, t.2.2) := by decide +kernel
theorem ee_89 : ec_89.all (fun t => est t.1 t.2.1 2 && elen t.2.1 t.2.2) = true := by decide +kernel
theorem ed_90 : ∀ t ∈ ec_90, decode cX11_rings t.1 = .ok (t.2.1, t.2.2) := by decide +kernel
theorem ee_90 : ec_90.all (fun t => est t.1 t.2.1 1 && elen t.2.1 t.2.2) = true := by decide +kernel
theorem ed_91 : ∀ t ∈ ec_91, decode cX11_said t.1 = .ok (t.2.1, t.2.2) := by decide +kernel
theorem ee_91 : ec_91.all (fun t => est t.1 t.2.1 5 && elen t.2.1 t.2.2) = true := by decide +kernel
theorem ed_92 : ∀ t ∈ ec_92, decode cX11_sell t.1 = .ok (t.2.1, t.2.2) := by decide +kernel
theorem ee_92 : ec_92.all (fun t => est t.1 t.2.1 4 && elen t.2.1 t.2.2) = true := by decide +kernel
theorem ed_93 : ∀ t ∈ ec_93, decode cX11_sentence t.1 = .ok (t.2.1, t.2.2) := by decide +kernel
theorem ee_93 : ec_93.all (fun t => est t.1 t.2.1 2 && elen t.2.1 t.2.2) = true := by decide +kernel
theorem ed_94 : ∀ t ∈ ec_94, decode cX11_shut t.1 = .ok (t.2.1, t.2.2) := by decide +kernel
theorem ee_94 : ec_94.all (fun t => est t.1 t.2.1 3 && elen t.2.1 t.2.2) = true := by decide +kernel
theorem ed_95 : ∀ t ∈ ec_95, decode cX11_spread t.1 = .ok (t.2.1, t.2.2) := by decide +kernel
theorem ee_95 : ec_95.all (fun t => est t.1 t.2.1 2 && elen t.2.1 t.2.2) = true := by decide +kernel
theorem ed_96 : ∀ t ∈ ec_96, decode cX11_step t.1 = .ok (t.2.1, t.2.2) := by decide +kernel
theorem ee_96 : ec_96.all (fun t => est t.1 t.2.1 2 && elen t.2.1 t.2.2) = true := by decide +kernel
theorem ed_97 : ∀ t ∈ ec_97, decode cX11_terrace t.1 = .ok (t.2.1, t.2.2) := by decide +kernel
theorem ee_97 : ec_97.all (fun t => est t.1 t.2.1 2 && elen t.2.1 t.2.2) = true := by decide +kernel
theorem ed_98 : ∀ t ∈ ec_98, decode cX11_through t.1 = .ok (t.2.1, t.2.2) := by decide +kernel
theorem ee_98 : ec_98.all (fun t => est t.1 t.2.1 4 && elen t.2.1 t.2.2) = true := by decide +kernel
theorem ed_99 : ∀ t ∈ ec_99, decode cX11_undo t.1 = .ok (t.2.1, t.2.2) := by decide +kernel
theorem ee_99 : ec_99.all (fun t => est t.1 t.2.1 1 && elen t.2.1 t.2.2) = true := by decide +kernel
theorem ed_100 : ∀ t ∈ ec_100, decode cX11_walked t.1 = .ok (t.2.1, t.2.2) := by decide +kernel
theorem ee_100 : ec_100.all (fun t => est t.1 t.2.1 2 && elen t.2.1 t.2.2) = true := by decide +kernel
theorem ed_101 : ∀ t ∈ ec_101, decode cX11_wants t.1 = .ok (t.2.1, t.2.2) := by decide +kernel
theorem ee_101 : ec_101.all (fun t => est t.1 t.2.1 2 && elen t.2.1 t.2.2) = true := by decide +kernel
theorem ed_102 : ∀ t ∈ ec_102, decode cX11_way t.1 = .ok (t.2.1, t.2.2) := by decide +kernel
theorem ee_102 : ec_102.all (fun t => est t.1 t.2.1 4 && elen t.2.1 t.2.2) = true := by decide +kernel
theorem ed_103 : ∀ t ∈ ec_103, decode cX11_will t.1 = .ok (t.2.1, t.2.2) := by decide +kernel
theorem ee_103 : ec_103.all (fun t => est t.1 t.2.1 3 && elen t.2.1 t.2.2) = true := by decide +kernel
def ec_104_0 : List eI := [(0, .aload_n 0, 1), (1, .invokespecial 27, 3), (4, .aload_n 0, 1), (5, .sipush 940, 3), (8, .newarray .byte, 2), (10, .putfield 14, 3), (13, .aload_n 0, 1), (14, .sipush 402, 3), (17, .newarray .int, 2), (19, .putfield 33, 3), (22, .aload_n 0, 1), (23, .sipush 179, 3), (26, .newarray .int, 2), (28, .putfield 37, 3), (31, .aload_n 0, 1), (32, .sipush 160, 3), (35, .newarray .int, 2), (37, .putfield 40, 3), (40, .aload_n 0, 1), (41, .bipush 48, 2), (43, .newarray .long, 2), (45, .putfield 43, 3), (48, .aload_n 0, 1), (49, .bipush 30, 2), (51, .newarray .long, 2), (53, .putfield 47, 3), (56, .aload_n 0, 1), (57, .sipush 336, 3), (60, .newarray .int, 2), (62, .putfield 50, 3), (65, .aload_n 0, 1), (66, .bipush 42, 2), (68, .newarray .int, 2), (70, .putfield 53, 3), (73, .aload_n 0, 1), (74, .bipush 12, 2), (76, .newarray .int, 2), (78, .putfield 56, 3), (81, .aload_n 0, 1), (82, .bipush 12, 2), (84, .newarray .int, 2), (86, .putfield 59, 3), (89, .aload_n 0, 1), (90, .bipush 12, 2), (92, .newarray .int, 2), (94, .putfield 62, 3), (97, .aload_n 0, 1), (98, .sipush 144, 3), (101, .newarray .int, 2), (103, .putfield 65, 3), (106, .aload_n 0, 1), (107, .bipush 12, 2), (109, .newarray .int, 2), (111, .putfield 68, 3), (114, .aload_n 0, 1), (115, .bipush 12, 2), (117, .newarray .int, 2), (119, .putfield 71, 3), (122, .aload_n 0, 1), (123, .bipush 6, 2), (125, .newarray .int, 2), (127, .putfield 74, 3), (130, .aload_n 0, 1), (131, .bipush 6, 2), (133, .newarray .int, 2), (135, .putfield 77, 3), (138, .aload_n 0, 1), (139, .bipush 6, 2), (141, .newarray .int, 2), (143, .putfield 80, 3), (146, .aload_n 0, 1), (147, .bipush 12, 2), (149, .newarray .int, 2), (151, .putfield 83, 3), (154, .aload_n 0, 1), (155, .bipush 6, 2), (157, .newarray .int, 2), (159, .putfield 86, 3), (162, .aload_n 0, 1), (163, .bipush 12, 2)]
theorem ed_104_0 : ∀ t ∈ ec_104_0, decode cX12_init t.1 = .ok (t.2.1, t.2.2) := by decide +kernel
def ec_104_1 : List eI := [(165, .newarray .int, 2), (167, .putfield 89, 3), (170, .aload_n 0, 1), (171, .iconst (-1), 1), (172, .putfield 92, 3), (175, .aload_n 0, 1), (176, .iconst 4, 1), (177, .newarray .int, 2), (179, .putfield 95, 3), (182, .aload_n 0, 1), (183, .bipush 45, 2), (185, .newarray .int, 2), (187, .putfield 98, 3), (190, .aload_n 0, 1), (191, .bipush 45, 2), (193, .newarray .boolean, 2), (195, .putfield 101, 3), (198, .aload_n 0, 1), (199, .sipush 804, 3), (202, .newarray .int, 2), (204, .putfield 105, 3), (207, .aload_n 0, 1), (208, .bipush 48, 2), (210, .newarray .long, 2), (212, .putfield 108, 3), (215, .aload_n 0, 1), (216, .iconst 2, 1), (217, .newarray .boolean, 2), (219, .putfield 111, 3), (222, .aload_n 0, 1), (223, .getfield 47, 3), (226, .iconst 0, 1), (227, .ldc2_w 114, 3), (230, .lastore, 1), (231, .aload_n 0, 1), (232, .getfield 47, 3), (235, .iconst 1, 1), (236, .ldc2_w 116, 3), (239, .lastore, 1), (240, .aload_n 0, 1), (241, .getfield 47, 3), (244, .iconst 2, 1), (245, .ldc2_w 118, 3), (248, .lastore, 1), (249, .aload_n 0, 1), (250, .getfield 47, 3), (253, .iconst 3, 1), (254, .ldc2_w 120, 3), (257, .lastore, 1), (258, .aload_n 0, 1), (259, .getfield 47, 3), (262, .iconst 4, 1), (263, .ldc2_w 122, 3), (266, .lastore, 1), (267, .aload_n 0, 1), (268, .getfield 47, 3), (271, .iconst 5, 1), (272, .ldc2_w 124, 3), (275, .lastore, 1), (276, .aload_n 0, 1), (277, .getfield 47, 3), (280, .bipush 6, 2), (282, .ldc2_w 126, 3), (285, .lastore, 1), (286, .aload_n 0, 1), (287, .getfield 47, 3), (290, .bipush 7, 2), (292, .ldc2_w 128, 3), (295, .lastore, 1), (296, .aload_n 0, 1), (297, .getfield 47, 3), (300, .bipush 8, 2), (302, .ldc2_w 130, 3), (305, .lastore, 1), (306, .aload_n 0, 1), (307, .getfield 47, 3), (310, .bipush 9, 2), (312, .ldc2_w 132, 3), (315, .lastore, 1), (316, .aload_n 0, 1)]
theorem ed_104_1 : ∀ t ∈ ec_104_1, decode cX12_init t.1 = .ok (t.2.1, t.2.2) := by decide +kernel
def ec_104_2 : List eI := [(317, .getfield 47, 3), (320, .bipush 10, 2), (322, .ldc2_w 134, 3), (325, .lastore, 1), (326, .aload_n 0, 1), (327, .getfield 47, 3), (330, .bipush 11, 2), (332, .ldc2_w 136, 3), (335, .lastore, 1), (336, .aload_n 0, 1), (337, .getfield 47, 3), (340, .bipush 12, 2), (342, .ldc2_w 138, 3), (345, .lastore, 1), (346, .aload_n 0, 1), (347, .getfield 47, 3), (350, .bipush 13, 2), (352, .ldc2_w 140, 3), (355, .lastore, 1), (356, .aload_n 0, 1), (357, .getfield 47, 3), (360, .bipush 14, 2), (362, .ldc2_w 142, 3), (365, .lastore, 1), (366, .aload_n 0, 1), (367, .getfield 47, 3), (370, .bipush 15, 2), (372, .ldc2_w 144, 3), (375, .lastore, 1), (376, .aload_n 0, 1), (377, .getfield 47, 3), (380, .bipush 16, 2), (382, .ldc2_w 146, 3), (385, .lastore, 1), (386, .aload_n 0, 1), (387, .getfield 47, 3), (390, .bipush 17, 2), (392, .ldc2_w 148, 3), (395, .lastore, 1), (396, .aload_n 0, 1), (397, .getfield 47, 3), (400, .bipush 18, 2), (402, .ldc2_w 150, 3), (405, .lastore, 1), (406, .aload_n 0, 1), (407, .getfield 47, 3), (410, .bipush 19, 2), (412, .ldc2_w 152, 3), (415, .lastore, 1), (416, .aload_n 0, 1), (417, .getfield 47, 3), (420, .bipush 20, 2), (422, .ldc2_w 154, 3), (425, .lastore, 1), (426, .aload_n 0, 1), (427, .getfield 47, 3), (430, .bipush 21, 2), (432, .ldc2_w 156, 3), (435, .lastore, 1), (436, .aload_n 0, 1), (437, .getfield 47, 3), (440, .bipush 22, 2), (442, .ldc2_w 158, 3), (445, .lastore, 1), (446, .aload_n 0, 1), (447, .getfield 47, 3), (450, .bipush 23, 2), (452, .ldc2_w 160, 3), (455, .lastore, 1), (456, .aload_n 0, 1), (457, .getfield 47, 3), (460, .bipush 24, 2), (462, .ldc2_w 162, 3), (465, .lastore, 1), (466, .aload_n 0, 1), (467, .getfield 47, 3), (470, .bipush 25, 2), (472, .ldc2_w 164, 3), (475, .lastore, 1), (476, .aload_n 0, 1)]
theorem ed_104_2 : ∀ t ∈ ec_104_2, decode cX12_init t.1 = .ok (t.2.1, t.2.2) := by decide +kernel
def ec_104_3 : List eI := [(477, .getfield 47, 3), (480, .bipush 26, 2), (482, .ldc2_w 166, 3), (485, .lastore, 1), (486, .aload_n 0, 1), (487, .getfield 47, 3), (490, .bipush 27, 2), (492, .ldc2_w 168, 3), (495, .lastore, 1), (496, .aload_n 0, 1), (497, .getfield 47, 3), (500, .bipush 28, 2), (502, .ldc2_w 170, 3), (505, .lastore, 1), (506, .aload_n 0, 1), (507, .getfield 47, 3), (510, .bipush 29, 2), (512, .ldc2_w 172, 3), (515, .lastore, 1), (516, .return_, 1)]
theorem ed_104_3 : ∀ t ∈ ec_104_3, decode cX12_init t.1 = .ok (t.2.1, t.2.2) := by decide +kernel
set_option maxRecDepth 100000 in
theorem ed_104 : ∀ t ∈ ec_104, decode cX12_init t.1 = .ok (t.2.1, t.2.2) := (show ∀ t ∈ ec_104_0 ++ (ec_104_1 ++ (ec_104_2 ++ (ec_104_3))), decode cX12_init t.1 = .ok (t.2.1, t.2.2) from List.forall_mem_append.mpr ⟨ed_104_0, List.forall_mem_append.mpr ⟨ed_104_1, List.forall_mem_append.mpr ⟨ed_104_2, ed_104_3⟩⟩⟩)
theorem ee_104 : ec_104.all (fun t => est t.1 t.2.1 1 && elen t.2.1 t.2.2) = true := by decide +kernel
end
section
theorem ed_105 : ∀ t ∈ ec_105, decode cX12_areMinutes t.1 = .ok (t.2.1, t.2.2) := by decide +kernel
theorem ee_105 : ec_105.all (fun t => est t.1 t.2.1 2 && elen t.2.1 t.2.2) = true := by decide +kernel
theorem ed_106 : ∀ t ∈ ec_106, decode cX12_areTwo t.1 = .ok (t.2.1, t.2.2) := by decide +kernel
theorem ee_106 : ec_106.all (fun t => est t.1 t.2.1 3 && elen t.2.1 t.2.2) = true := by decide +kernel
theorem ed_107 : ∀ t ∈ ec_107, decode cX12_asked t.1 = .ok (t.2.1, t.2.2) := by decide +kernel
theorem ee_107 : ec_107.all (fun t => est t.1 t.2.1 1 && elen t.2.1 t.2.2) = true := by decide +kernel
def ec_108_0 : List eI := [(0, .aload_n 0, 1), (1, .iconst 0, 1), (2, .putfield 1, 3), (5, .aload_n 0, 1), (6, .iload_n 1, 1), (7, .invokevirtual 275, 3), (10, .ifCond .eq 11, 3), (13, .aload_n 0, 1), (14, .iload_n 2, 1), (15, .invokevirtual 278, 3), (18, .ifCond .ne 5, 3), (21, .iconst (-1), 1), (22, .ireturn, 1), (23, .aload_n 0, 1), (24, .invokevirtual 369, 3), (27, .iconst (-1), 1), (28, .istore_n 3, 1), (29, .iconst 0, 1), (30, .istore 4, 2), (32, .iload 4, 2), (34, .iconst 1, 1), (35, .aload_n 0, 1), (36, .getfield 33, 3), (39, .iconst 1, 1), (40, .iaload, 1), (41, .ishl, 1), (42, .if_icmp .ge 181, 3), (45, .iload 4, 2), (47, .iload_n 1, 1), (48, .invokestatic 254, 3), (51, .ifCond .ne 23, 3), (54, .iload_n 3, 1), (55, .ifCond .lt 15, 3), (58, .iload 4, 2), (60, .invokestatic 372, 3), (63, .iload_n 3, 1), (64, .invokestatic 372, 3), (67, .if_icmp .ge 7, 3), (70, .iconst 1, 1), (71, .goto 4, 3), (74, .iconst 0, 1), (75, .istore 5, 2), (77, .iconst 0, 1), (78, .istore 6, 2), (80, .iload 6, 2), (82, .aload_n 0, 1), (83, .getfield 33, 3), (86, .iconst 1, 1), (87, .iaload, 1), (88, .if_icmp .ge 58, 3), (91, .iload 5, 2), (93, .ifCond .eq 53, 3), (96, .iload 4, 2), (98, .iload 6, 2), (100, .invokestatic 254, 3), (103, .ifCond .eq 30, 3), (106, .aload_n 0, 1), (107, .getfield 33, 3), (110, .sipush 203, 3), (113, .iload 6, 2), (115, .iadd, 1), (116, .iaload, 1), (117, .iload_n 1, 1), (118, .invokestatic 254, 3), (121, .ifCond .ne 16, 3), (124, .aload_n 0, 1), (125, .iload 6, 2), (127, .invokevirtual 295, 3), (130, .ifCond .ne 7, 3), (133, .iconst 1, 1), (134, .goto 4, 3), (137, .iconst 0, 1), (138, .istore 5, 2), (140, .iinc 6 1, 3), (143, .goto (-63), 3), (146, .iload 5, 2), (148, .ifCond .ne 6, 3), (151, .goto 66, 3), (154, .iconst 0, 1), (155, .istore 6, 2)]
theorem ed_108_0 : ∀ t ∈ ec_108_0, decode cX12_asks t.1 = .ok (t.2.1, t.2.2) := by decide +kernel
def ec_108_1 : List eI := [(157, .iload 6, 2), (159, .aload_n 0, 1), (160, .getfield 33, 3), (163, .iconst 1, 1), (164, .iaload, 1), (165, .if_icmp .ge 36, 3), (168, .iload 4, 2), (170, .iload 6, 2), (172, .invokestatic 254, 3), (175, .ifCond .eq 20, 3), (178, .aload_n 0, 1), (179, .getfield 33, 3), (182, .sipush 203, 3), (185, .iload 6, 2), (187, .iadd, 1), (188, .dup2, 1), (189, .iaload, 1), (190, .iconst 1, 1), (191, .iload_n 1, 1), (192, .ishl, 1), (193, .ior, 1), (194, .iastore, 1), (195, .iinc 6 1, 3), (198, .goto (-41), 3), (201, .aload_n 0, 1), (202, .iload_n 1, 1), (203, .iload_n 2, 1), (204, .invokevirtual 363, 3), (207, .ifCond .lt 6, 3), (210, .iload 4, 2), (212, .istore_n 3, 1), (213, .aload_n 0, 1), (214, .invokevirtual 375, 3), (217, .iinc 4 1, 3), (220, .goto (-188), 3), (223, .iload_n 3, 1), (224, .ifCond .ge 5, 3), (227, .iconst (-1), 1), (228, .ireturn, 1), (229, .aload_n 0, 1), (230, .iconst 1, 1), (231, .putfield 378, 3), (234, .aload_n 0, 1), (235, .iload_n 3, 1), (236, .putfield 382, 3), (239, .iload_n 3, 1), (240, .invokestatic 372, 3), (243, .ireturn, 1)]
theorem ed_108_1 : ∀ t ∈ ec_108_1, decode cX12_asks t.1 = .ok (t.2.1, t.2.2) := by decide +kernel
set_option maxRecDepth 100000 in
theorem ed_108 : ∀ t ∈ ec_108, decode cX12_asks t.1 = .ok (t.2.1, t.2.2) := (show ∀ t ∈ ec_108_0 ++ (ec_108_1), decode cX12_asks t.1 = .ok (t.2.1, t.2.2) from List.forall_mem_append.mpr ⟨ed_108_0, ed_108_1⟩)
theorem ee_108 : ec_108.all (fun t => est t.1 t.2.1 7 && elen t.2.1 t.2.2) = true := by decide +kernel
theorem ed_109 : ∀ t ∈ ec_109, decode cX12_back t.1 = .ok (t.2.1, t.2.2) := by decide +kernel
theorem ee_109 : ec_109.all (fun t => est t.1 t.2.1 2 && elen t.2.1 t.2.2) = true := by decide +kernel
theorem ed_110 : ∀ t ∈ ec_110, decode cX12_bad t.1 = .ok (t.2.1, t.2.2) := by decide +kernel
theorem ee_110 : ec_110.all (fun t => est t.1 t.2.1 2 && elen t.2.1 t.2.2) = true := by decide +kernel
theorem ed_111 : ∀ t ∈ ec_111, decode cX12_barred t.1 = .ok (t.2.1, t.2.2) := by decide +kernel
theorem ee_111 : ec_111.all (fun t => est t.1 t.2.1 4 && elen t.2.1 t.2.2) = true := by decide +kernel
def ec_112_0 : List eI := [(0, .aload_n 0, 1), (1, .iconst 0, 1), (2, .putfield 1, 3), (5, .iload_n 1, 1), (6, .iconst 0, 1), (7, .iconst 1, 1), (8, .invokestatic 216, 3), (11, .ifCond .ne 7, 3), (14, .sipush (-1000), 3), (17, .ireturn, 1), (18, .aload_n 0, 1), (19, .sipush 400, 3), (22, .invokevirtual 260, 3), (25, .aload_n 0, 1), (26, .iconst 0, 1), (27, .putfield 201, 3), (30, .aload_n 0, 1), (31, .iconst 0, 1), (32, .putfield 428, 3), (35, .aload_n 0, 1), (36, .invokevirtual 213, 3), (39, .aload_n 0, 1), (40, .getfield 184, 3), (43, .ifCond .eq 40, 3), (46, .aload_n 0, 1), (47, .invokevirtual 434, 3), (50, .ifCond .eq 12, 3), (53, .aload_n 0, 1), (54, .bipush 59, 2), (56, .invokevirtual 269, 3), (59, .ifCond .ne 11, 3), (62, .bipush (-2), 2), (64, .aload_n 0, 1), (65, .getfield 204, 3), (68, .isub, 1), (69, .ireturn, 1), (70, .aload_n 0, 1), (71, .dup, 1), (72, .getfield 428, 3), (75, .iconst 1, 1), (76, .iadd, 1), (77, .putfield 428, 3), (80, .goto (-41), 3), (83, .aload_n 0, 1), (84, .invokevirtual 369, 3), (87, .iconst 0, 1), (88, .istore_n 2, 1), (89, .iload_n 2, 1), (90, .iconst 4, 1), (91, .if_icmp .ge 16, 3), (94, .aload_n 0, 1), (95, .getfield 95, 3), (98, .iload_n 2, 1), (99, .iconst 0, 1), (100, .iastore, 1), (101, .iinc 2 1, 3), (104, .goto (-15), 3), (107, .aload_n 0, 1), (108, .getfield 33, 3), (111, .sipush 180, 3), (114, .iaload, 1), (115, .istore_n 2, 1), (116, .iconst (-1), 1), (117, .istore_n 3, 1), (118, .iconst 0, 1), (119, .istore 4, 2), (121, .iload 4, 2), (123, .aload_n 0, 1), (124, .getfield 428, 3), (127, .if_icmp .ge 137, 3), (130, .iload_n 3, 1), (131, .ifCond .ge 133, 3), (134, .iconst 4, 1), (135, .iload 4, 2), (137, .imul, 1), (138, .istore 5, 2), (140, .aload_n 0, 1), (141, .aload_n 0, 1), (142, .getfield 40, 3), (145, .iload 5, 2)]
theorem ed_112_0 : ∀ t ∈ ec_112_0, decode cX12_book t.1 = .ok (t.2.1, t.2.2) := by decide +kernel
def ec_112_1 : List eI := [(147, .iaload, 1), (148, .aload_n 0, 1), (149, .getfield 40, 3), (152, .iload 5, 2), (154, .iconst 1, 1), (155, .iadd, 1), (156, .iaload, 1), (157, .aload_n 0, 1), (158, .getfield 40, 3), (161, .iload 5, 2), (163, .iconst 2, 1), (164, .iadd, 1), (165, .iaload, 1), (166, .aload_n 0, 1), (167, .getfield 40, 3), (170, .iload 5, 2), (172, .iconst 3, 1), (173, .iadd, 1), (174, .iaload, 1), (175, .invokevirtual 437, 3), (178, .istore 6, 2), (180, .iload 6, 2), (182, .ifCond .le 28, 3), (185, .aload_n 0, 1), (186, .getfield 95, 3), (189, .iconst 0, 1), (190, .bipush 10, 2), (192, .aload_n 0, 1), (193, .getfield 40, 3), (196, .iload 5, 2), (198, .iaload, 1), (199, .imul, 1), (200, .iload 6, 2), (202, .iadd, 1), (203, .iastore, 1), (204, .iload 4, 2), (206, .istore_n 3, 1), (207, .goto 51, 3), (210, .aload_n 0, 1), (211, .aload_n 0, 1), (212, .getfield 40, 3), (215, .iload 5, 2), (217, .iaload, 1), (218, .aload_n 0, 1), (219, .getfield 40, 3), (222, .iload 5, 2), (224, .iconst 1, 1), (225, .iadd, 1), (226, .iaload, 1), (227, .aload_n 0, 1), (228, .getfield 40, 3), (231, .iload 5, 2), (233, .iconst 2, 1), (234, .iadd, 1), (235, .iaload, 1), (236, .aload_n 0, 1), (237, .getfield 40, 3), (240, .iload 5, 2), (242, .iconst 3, 1), (243, .iadd, 1), (244, .iaload, 1), (245, .invokevirtual 441, 3), (248, .aload_n 0, 1), (249, .getfield 95, 3), (252, .iconst 1, 1), (253, .dup2, 1), (254, .iaload, 1), (255, .iconst 1, 1), (256, .iadd, 1), (257, .iastore, 1), (258, .iinc 4 1, 3), (261, .goto (-140), 3), (264, .aload_n 0, 1), (265, .getfield 95, 3), (268, .iconst 2, 1), (269, .aload_n 0, 1), (270, .getfield 33, 3), (273, .sipush 179, 3), (276, .iaload, 1), (277, .iastore, 1)]
theorem ed_112_1 : ∀ t ∈ ec_112_1, decode cX12_book t.1 = .ok (t.2.1, t.2.2) := by decide +kernel
def ec_112_2 : List eI := [(278, .aload_n 0, 1), (279, .getfield 95, 3), (282, .iconst 3, 1), (283, .aload_n 0, 1), (284, .getfield 33, 3), (287, .sipush 180, 3), (290, .iaload, 1), (291, .iload_n 2, 1), (292, .iconst (-1), 1), (293, .ixor, 1), (294, .iand, 1), (295, .iastore, 1), (296, .aload_n 0, 1), (297, .iconst 1, 1), (298, .putfield 445, 3), (301, .iload_n 1, 1), (302, .iconst 1, 1), (303, .if_icmp .ne 56, 3), (306, .aload_n 0, 1), (307, .getfield 95, 3), (310, .iconst 1, 1), (311, .iaload, 1), (312, .ifCond .le 47, 3), (315, .aload_n 0, 1), (316, .invokevirtual 325, 3), (319, .iconst 0, 1), (320, .istore 4, 2), (322, .iload 4, 2), (324, .bipush 42, 2), (326, .if_icmp .ge 33, 3), (329, .aload_n 0, 1), (330, .getfield 50, 3), (333, .bipush 42, 2), (335, .aload_n 0, 1), (336, .getfield 272, 3), (339, .iconst 1, 1), (340, .isub, 1), (341, .imul, 1), (342, .iload 4, 2), (344, .iadd, 1), (345, .aload_n 0, 1), (346, .getfield 53, 3), (349, .iload 4, 2), (351, .iaload, 1), (352, .iastore, 1), (353, .iinc 4 1, 3), (356, .goto (-34), 3), (359, .iload_n 1, 1), (360, .ifCond .ne 7, 3), (363, .aload_n 0, 1), (364, .invokevirtual 375, 3), (367, .iload_n 3, 1), (368, .ireturn, 1)]
theorem ed_112_2 : ∀ t ∈ ec_112_2, decode cX12_book t.1 = .ok (t.2.1, t.2.2) := by decide +kernel
set_option maxRecDepth 100000 in
theorem ed_112 : ∀ t ∈ ec_112, decode cX12_book t.1 = .ok (t.2.1, t.2.2) := (show ∀ t ∈ ec_112_0 ++ (ec_112_1 ++ (ec_112_2)), decode cX12_book t.1 = .ok (t.2.1, t.2.2) from List.forall_mem_append.mpr ⟨ed_112_0, List.forall_mem_append.mpr ⟨ed_112_1, ed_112_2⟩⟩)
theorem ee_112 : ec_112.all (fun t => est t.1 t.2.1 7 && elen t.2.1 t.2.2) = true := by decide +kernel
theorem ed_113 : ∀ t ∈ ec_113, decode cX12_booked t.1 = .ok (t.2.1, t.2.2) := by decide +kernel
theorem ee_113 : ec_113.all (fun t => est t.1 t.2.1 2 && elen t.2.1 t.2.2) = true := by decide +kernel
theorem ed_114 : ∀ t ∈ ec_114, decode cX12_burn t.1 = .ok (t.2.1, t.2.2) := by decide +kernel
theorem ee_114 : ec_114.all (fun t => est t.1 t.2.1 2 && elen t.2.1 t.2.2) = true := by decide +kernel
theorem ed_115 : ∀ t ∈ ec_115, decode cX12_burntIn t.1 = .ok (t.2.1, t.2.2) := by decide +kernel
theorem ee_115 : ec_115.all (fun t => est t.1 t.2.1 4 && elen t.2.1 t.2.2) = true := by decide +kernel
theorem ed_116 : ∀ t ∈ ec_116, decode cX12_catching t.1 = .ok (t.2.1, t.2.2) := by decide +kernel
theorem ee_116 : ec_116.all (fun t => est t.1 t.2.1 3 && elen t.2.1 t.2.2) = true := by decide +kernel
theorem ed_117 : ∀ t ∈ ec_117, decode cX12_corridor t.1 = .ok (t.2.1, t.2.2) := by decide +kernel
theorem ee_117 : ec_117.all (fun t => est t.1 t.2.1 4 && elen t.2.1 t.2.2) = true := by decide +kernel
theorem ed_118 : ∀ t ∈ ec_118, decode cX12_count t.1 = .ok (t.2.1, t.2.2) := by decide +kernel
theorem ee_118 : ec_118.all (fun t => est t.1 t.2.1 2 && elen t.2.1 t.2.2) = true := by decide +kernel
def ec_119_0 : List eI := [(0, .aload_n 0, 1), (1, .iconst 0, 1), (2, .putfield 1, 3), (5, .aload_n 0, 1), (6, .iload_n 1, 1), (7, .invokevirtual 278, 3), (10, .ifCond .eq 11, 3), (13, .aload_n 0, 1), (14, .iload_n 1, 1), (15, .invokevirtual 285, 3), (18, .ifCond .eq 5, 3), (21, .iconst (-1), 1), (22, .ireturn, 1), (23, .iconst 0, 1), (24, .istore_n 2, 1), (25, .iload_n 2, 1), (26, .sipush 144, 3), (29, .if_icmp .ge 16, 3), (32, .aload_n 0, 1), (33, .getfield 65, 3), (36, .iload_n 2, 1), (37, .iconst 0, 1), (38, .iastore, 1), (39, .iinc 2 1, 3), (42, .goto (-17), 3), (45, .iconst 0, 1), (46, .istore_n 2, 1), (47, .iload_n 2, 1), (48, .aload_n 0, 1), (49, .getfield 33, 3), (52, .iconst 3, 1), (53, .iaload, 1), (54, .if_icmp .ge 104, 3), (57, .aload_n 0, 1), (58, .getfield 33, 3), (61, .bipush 69, 2), (63, .iload_n 2, 1), (64, .iadd, 1), (65, .iaload, 1), (66, .iconst 1, 1), (67, .if_icmp .ne 8, 3), (70, .bipush 100, 2), (72, .goto 23, 3), (75, .aload_n 0, 1), (76, .getfield 33, 3), (79, .sipush 184, 3), (82, .iaload, 1), (83, .iload_n 2, 1), (84, .invokestatic 254, 3), (87, .ifCond .eq 7, 3), (90, .iconst 0, 1), (91, .goto 4, 3), (94, .iconst 1, 1), (95, .istore_n 3, 1), (96, .aload_n 0, 1), (97, .getfield 65, 3), (100, .bipush 12, 2), (102, .aload_n 0, 1), (103, .getfield 33, 3), (106, .bipush 29, 2), (108, .iload_n 2, 1), (109, .iadd, 1), (110, .iaload, 1), (111, .imul, 1), (112, .aload_n 0, 1), (113, .getfield 33, 3), (116, .bipush 49, 2), (118, .iload_n 2, 1), (119, .iadd, 1), (120, .iaload, 1), (121, .iadd, 1), (122, .iload_n 3, 1), (123, .iastore, 1), (124, .aload_n 0, 1), (125, .getfield 65, 3), (128, .bipush 12, 2), (130, .aload_n 0, 1), (131, .getfield 33, 3), (134, .bipush 49, 2), (136, .iload_n 2, 1)]
theorem ed_119_0 : ∀ t ∈ ec_119_0, decode cX12_cut t.1 = .ok (t.2.1, t.2.2) := by decide +kernel
def ec_119_1 : List eI := [(137, .iadd, 1), (138, .iaload, 1), (139, .imul, 1), (140, .aload_n 0, 1), (141, .getfield 33, 3), (144, .bipush 29, 2), (146, .iload_n 2, 1), (147, .iadd, 1), (148, .iaload, 1), (149, .iadd, 1), (150, .iload_n 3, 1), (151, .iastore, 1), (152, .iinc 2 1, 3), (155, .goto (-108), 3), (158, .iconst 0, 1), (159, .istore_n 2, 1), (160, .iload_n 2, 1), (161, .bipush 100, 2), (163, .if_icmp .ge 79, 3), (166, .aload_n 0, 1), (167, .iload_n 1, 1), (168, .invokevirtual 388, 3), (171, .ifCond .eq 71, 3), (174, .iload_n 1, 1), (175, .istore_n 3, 1), (176, .aload_n 0, 1), (177, .getfield 68, 3), (180, .iload_n 3, 1), (181, .iaload, 1), (182, .iload_n 3, 1), (183, .if_icmp .eq 53, 3), (186, .aload_n 0, 1), (187, .getfield 65, 3), (190, .bipush 12, 2), (192, .aload_n 0, 1), (193, .getfield 68, 3), (196, .iload_n 3, 1), (197, .iaload, 1), (198, .imul, 1), (199, .iload_n 3, 1), (200, .iadd, 1), (201, .dup2, 1), (202, .iaload, 1), (203, .iconst 1, 1), (204, .isub, 1), (205, .iastore, 1), (206, .aload_n 0, 1), (207, .getfield 65, 3), (210, .bipush 12, 2), (212, .iload_n 3, 1), (213, .imul, 1), (214, .aload_n 0, 1), (215, .getfield 68, 3), (218, .iload_n 3, 1), (219, .iaload, 1), (220, .iadd, 1), (221, .dup2, 1), (222, .iaload, 1), (223, .iconst 1, 1), (224, .iadd, 1), (225, .iastore, 1), (226, .aload_n 0, 1), (227, .getfield 68, 3), (230, .iload_n 3, 1), (231, .iaload, 1), (232, .istore_n 3, 1), (233, .goto (-57), 3), (236, .iinc 2 1, 3), (239, .goto (-79), 3), (242, .iload_n 2, 1), (243, .bipush 100, 2), (245, .if_icmp .ge 7, 3), (248, .iload_n 2, 1), (249, .goto 4, 3), (252, .iconst (-1), 1), (253, .ireturn, 1)]
theorem ed_119_1 : ∀ t ∈ ec_119_1, decode cX12_cut t.1 = .ok (t.2.1, t.2.2) := by decide +kernel
set_option maxRecDepth 100000 in
theorem ed_119 : ∀ t ∈ ec_119, decode cX12_cut t.1 = .ok (t.2.1, t.2.2) := (show ∀ t ∈ ec_119_0 ++ (ec_119_1), decode cX12_cut t.1 = .ok (t.2.1, t.2.2) from List.forall_mem_append.mpr ⟨ed_119_0, ed_119_1⟩)
theorem ee_119 : ec_119.all (fun t => est t.1 t.2.1 4 && elen t.2.1 t.2.2) = true := by decide +kernel
theorem ed_120 : ∀ t ∈ ec_120, decode cX12_die t.1 = .ok (t.2.1, t.2.2) := by decide +kernel
theorem ee_120 : ec_120.all (fun t => est t.1 t.2.1 2 && elen t.2.1 t.2.2) = true := by decide +kernel
theorem ed_121 : ∀ t ∈ ec_121, decode cX12_drawn t.1 = .ok (t.2.1, t.2.2) := by decide +kernel
theorem ee_121 : ec_121.all (fun t => est t.1 t.2.1 3 && elen t.2.1 t.2.2) = true := by decide +kernel
theorem ed_122 : ∀ t ∈ ec_122, decode cX12_end t.1 = .ok (t.2.1, t.2.2) := by decide +kernel
theorem ee_122 : ec_122.all (fun t => est t.1 t.2.1 2 && elen t.2.1 t.2.2) = true := by decide +kernel
theorem ed_123 : ∀ t ∈ ec_123, decode cX12_exchange t.1 = .ok (t.2.1, t.2.2) := by decide +kernel
theorem ee_123 : ec_123.all (fun t => est t.1 t.2.1 2 && elen t.2.1 t.2.2) = true := by decide +kernel
def ec_124_0 : List eI := [(0, .iconst 0, 1), (1, .istore_n 1, 1), (2, .aload_n 0, 1), (3, .iconst 0, 1), (4, .putfield 394, 3), (7, .iconst 0, 1), (8, .istore_n 2, 1), (9, .iload_n 2, 1), (10, .aload_n 0, 1), (11, .getfield 33, 3), (14, .iconst 1, 1), (15, .iaload, 1), (16, .if_icmp .ge 100, 3), (19, .aload_n 0, 1), (20, .getfield 77, 3), (23, .iload_n 2, 1), (24, .iconst (-1), 1), (25, .iastore, 1), (26, .aload_n 0, 1), (27, .getfield 74, 3), (30, .iload_n 2, 1), (31, .iconst (-1), 1), (32, .iastore, 1), (33, .aload_n 0, 1), (34, .getfield 33, 3), (37, .iconst 2, 1), (38, .iaload, 1), (39, .iconst 1, 1), (40, .isub, 1), (41, .istore_n 3, 1), (42, .iload_n 3, 1), (43, .ifCond .lt 48, 3), (46, .aload_n 0, 1), (47, .iload_n 2, 1), (48, .invokevirtual 295, 3), (51, .ifCond .ne 40, 3), (54, .aload_n 0, 1), (55, .getfield 33, 3), (58, .sipush 185, 3), (61, .iload_n 3, 1), (62, .iadd, 1), (63, .iaload, 1), (64, .iload_n 2, 1), (65, .iconst 1, 1), (66, .iadd, 1), (67, .if_icmp .ne 18, 3), (70, .aload_n 0, 1), (71, .iload_n 3, 1), (72, .invokevirtual 285, 3), (75, .ifCond .ne 10, 3), (78, .aload_n 0, 1), (79, .getfield 74, 3), (82, .iload_n 2, 1), (83, .iload_n 3, 1), (84, .iastore, 1), (85, .iinc 3 (-1), 3), (88, .goto (-46), 3), (91, .iload_n 1, 1), (92, .aload_n 0, 1), (93, .getfield 74, 3), (96, .iload_n 2, 1), (97, .iaload, 1), (98, .ifCond .lt 9, 3), (101, .iconst 1, 1), (102, .iload_n 2, 1), (103, .ishl, 1), (104, .goto 4, 3), (107, .iconst 0, 1), (108, .ior, 1), (109, .istore_n 1, 1), (110, .iinc 2 1, 3), (113, .goto (-104), 3), (116, .iload_n 1, 1), (117, .ifCond .eq 177, 3), (120, .iconst 0, 1), (121, .istore_n 2, 1), (122, .iconst 0, 1), (123, .istore_n 3, 1), (124, .iload_n 3, 1), (125, .aload_n 0, 1)]
theorem ed_124_0 : ∀ t ∈ ec_124_0, decode cX12_exchanges t.1 = .ok (t.2.1, t.2.2) := by decide +kernel
def ec_124_1 : List eI := [(126, .getfield 33, 3), (129, .iconst 1, 1), (130, .iaload, 1), (131, .if_icmp .ge 29, 3), (134, .iload_n 1, 1), (135, .iload_n 3, 1), (136, .invokestatic 254, 3), (139, .ifCond .eq 15, 3), (142, .aload_n 0, 1), (143, .getfield 80, 3), (146, .iload_n 3, 1), (147, .aload_n 0, 1), (148, .iload_n 3, 1), (149, .iload_n 1, 1), (150, .invokevirtual 397, 3), (153, .iastore, 1), (154, .iinc 3 1, 3), (157, .goto (-33), 3), (160, .iconst 0, 1), (161, .istore_n 3, 1), (162, .iload_n 3, 1), (163, .aload_n 0, 1), (164, .getfield 33, 3), (167, .iconst 1, 1), (168, .iaload, 1), (169, .if_icmp .ge 116, 3), (172, .iload_n 1, 1), (173, .iload_n 3, 1), (174, .invokestatic 254, 3), (177, .ifCond .ne 6, 3), (180, .goto 99, 3), (183, .iconst 0, 1), (184, .istore 4, 2), (186, .iload_n 3, 1), (187, .istore 5, 2), (189, .iload 4, 2), (191, .iconst 1, 1), (192, .iload 5, 2), (194, .ishl, 1), (195, .ior, 1), (196, .istore 4, 2), (198, .aload_n 0, 1), (199, .getfield 80, 3), (202, .iload 5, 2), (204, .iaload, 1), (205, .istore 5, 2), (207, .iload 4, 2), (209, .iload 5, 2), (211, .invokestatic 254, 3), (214, .ifCond .eq (-25), 3), (217, .iload 5, 2), (219, .iload_n 3, 1), (220, .if_icmp .eq 6, 3), (223, .goto 56, 3), (226, .aload_n 0, 1), (227, .getfield 77, 3), (230, .iload_n 3, 1), (231, .aload_n 0, 1), (232, .getfield 74, 3), (235, .aload_n 0, 1), (236, .getfield 80, 3), (239, .iload_n 3, 1), (240, .iaload, 1), (241, .iaload, 1), (242, .iastore, 1), (243, .iload_n 2, 1), (244, .iconst 1, 1), (245, .iload_n 3, 1), (246, .ishl, 1), (247, .ior, 1), (248, .istore_n 2, 1), (249, .iload 4, 2), (251, .invokestatic 372, 3), (254, .iconst 1, 1), (255, .if_icmp .le 24, 3), (258, .iload 4, 2), (260, .iconst 1, 1), (261, .iload_n 3, 1), (262, .ishl, 1), (263, .iconst 1, 1)]
theorem ed_124_1 : ∀ t ∈ ec_124_1, decode cX12_exchanges t.1 = .ok (t.2.1, t.2.2) := by decide +kernel
def ec_124_2 : List eI := [(264, .isub, 1), (265, .iand, 1), (266, .ifCond .ne 13, 3), (269, .aload_n 0, 1), (270, .dup, 1), (271, .getfield 394, 3), (274, .iconst 1, 1), (275, .iadd, 1), (276, .putfield 394, 3), (279, .iinc 3 1, 3), (282, .goto (-120), 3), (285, .iload_n 1, 1), (286, .iload_n 2, 1), (287, .iconst (-1), 1), (288, .ixor, 1), (289, .iand, 1), (290, .istore_n 1, 1), (291, .goto (-175), 3), (294, .return_, 1)]
theorem ed_124_2 : ∀ t ∈ ec_124_2, decode cX12_exchanges t.1 = .ok (t.2.1, t.2.2) := by decide +kernel
set_option maxRecDepth 100000 in
theorem ed_124 : ∀ t ∈ ec_124, decode cX12_exchanges t.1 = .ok (t.2.1, t.2.2) := (show ∀ t ∈ ec_124_0 ++ (ec_124_1 ++ (ec_124_2)), decode cX12_exchanges t.1 = .ok (t.2.1, t.2.2) from List.forall_mem_append.mpr ⟨ed_124_0, List.forall_mem_append.mpr ⟨ed_124_1, ed_124_2⟩⟩)
theorem ee_124 : ec_124.all (fun t => est t.1 t.2.1 6 && elen t.2.1 t.2.2) = true := by decide +kernel
theorem ed_125 : ∀ t ∈ ec_125, decode cX12_fault t.1 = .ok (t.2.1, t.2.2) := by decide +kernel
theorem ee_125 : ec_125.all (fun t => est t.1 t.2.1 1 && elen t.2.1 t.2.2) = true := by decide +kernel
theorem ed_126 : ∀ t ∈ ec_126, decode cX12_feed t.1 = .ok (t.2.1, t.2.2) := by decide +kernel
theorem ee_126 : ec_126.all (fun t => est t.1 t.2.1 6 && elen t.2.1 t.2.2) = true := by decide +kernel
theorem ed_127 : ∀ t ∈ ec_127, decode cX12_fire t.1 = .ok (t.2.1, t.2.2) := by decide +kernel
theorem ee_127 : ec_127.all (fun t => est t.1 t.2.1 3 && elen t.2.1 t.2.2) = true := by decide +kernel
theorem ed_128 : ∀ t ∈ ec_128, decode cX12_four t.1 = .ok (t.2.1, t.2.2) := by decide +kernel
theorem ee_128 : ec_128.all (fun t => est t.1 t.2.1 3 && elen t.2.1 t.2.2) = true := by decide +kernel
theorem ed_129 : ∀ t ∈ ec_129, decode cX12_go t.1 = .ok (t.2.1, t.2.2) := by decide +kernel
theorem ee_129 : ec_129.all (fun t => est t.1 t.2.1 4 && elen t.2.1 t.2.2) = true := by decide +kernel
theorem ed_130 : ∀ t ∈ ec_130, decode cX12_guests t.1 = .ok (t.2.1, t.2.2) := by decide +kernel
theorem ee_130 : ec_130.all (fun t => est t.1 t.2.1 7 && elen t.2.1 t.2.2) = true := by decide +kernel
theorem ed_131 : ∀ t ∈ ec_131, decode cX12_heir t.1 = .ok (t.2.1, t.2.2) := by decide +kernel
theorem ee_131 : ec_131.all (fun t => est t.1 t.2.1 2 && elen t.2.1 t.2.2) = true := by decide +kernel
theorem ed_132 : ∀ t ∈ ec_132, decode cX12_image t.1 = .ok (t.2.1, t.2.2) := by decide +kernel
theorem ee_132 : ec_132.all (fun t => est t.1 t.2.1 3 && elen t.2.1 t.2.2) = true := by decide +kernel
theorem ed_133 : ∀ t ∈ ec_133, decode cX12_isIn t.1 = .ok (t.2.1, t.2.2) := by decide +kernel
theorem ee_133 : ec_133.all (fun t => est t.1 t.2.1 3 && elen t.2.1 t.2.2) = true := by decide +kernel
theorem ed_134 : ∀ t ∈ ec_134, decode cX12_isOwner t.1 = .ok (t.2.1, t.2.2) := by decide +kernel
theorem ee_134 : ec_134.all (fun t => est t.1 t.2.1 2 && elen t.2.1 t.2.2) = true := by decide +kernel
theorem ed_135 : ∀ t ∈ ec_135, decode cX12_isPassage t.1 = .ok (t.2.1, t.2.2) := by decide +kernel
theorem ee_135 : ec_135.all (fun t => est t.1 t.2.1 2 && elen t.2.1 t.2.2) = true := by decide +kernel
theorem ed_136 : ∀ t ∈ ec_136, decode cX12_isRoom t.1 = .ok (t.2.1, t.2.2) := by decide +kernel
theorem ee_136 : ec_136.all (fun t => est t.1 t.2.1 2 && elen t.2.1 t.2.2) = true := by decide +kernel
theorem ed_137 : ∀ t ∈ ec_137, decode cX12_isSign t.1 = .ok (t.2.1, t.2.2) := by decide +kernel
theorem ee_137 : ec_137.all (fun t => est t.1 t.2.1 2 && elen t.2.1 t.2.2) = true := by decide +kernel
theorem ed_138 : ∀ t ∈ ec_138, decode cX12_isWord t.1 = .ok (t.2.1, t.2.2) := by decide +kernel
theorem ee_138 : ec_138.all (fun t => est t.1 t.2.1 3 && elen t.2.1 t.2.2) = true := by decide +kernel
theorem ed_139 : ∀ t ∈ ec_139, decode cX12_keep t.1 = .ok (t.2.1, t.2.2) := by decide +kernel
theorem ee_139 : ec_139.all (fun t => est t.1 t.2.1 2 && elen t.2.1 t.2.2) = true := by decide +kernel
theorem ed_140 : ∀ t ∈ ec_140, decode cX12_leafOf t.1 = .ok (t.2.1, t.2.2) := by decide +kernel
theorem ee_140 : ec_140.all (fun t => est t.1 t.2.1 1 && elen t.2.1 t.2.2) = true := by decide +kernel
end
section
theorem ed_141 : ∀ t ∈ ec_141, decode cX12_leave t.1 = .ok (t.2.1, t.2.2) := by decide +kernel
theorem ee_141 : ec_141.all (fun t => est t.1 t.2.1 2 && elen t.2.1 t.2.2) = true := by decide +kernel
theorem ed_142 : ∀ t ∈ ec_142, decode cX12_let t.1 = .ok (t.2.1, t.2.2) := by decide +kernel
theorem ee_142 : ec_142.all (fun t => est t.1 t.2.1 5 && elen t.2.1 t.2.2) = true := by decide +kernel
theorem ed_143 : ∀ t ∈ ec_143, decode cX12_minute t.1 = .ok (t.2.1, t.2.2) := by decide +kernel
theorem ee_143 : ec_143.all (fun t => est t.1 t.2.1 3 && elen t.2.1 t.2.2) = true := by decide +kernel
theorem ed_144 : ∀ t ∈ ec_144, decode cX12_minutes t.1 = .ok (t.2.1, t.2.2) := by decide +kernel
theorem ee_144 : ec_144.all (fun t => est t.1 t.2.1 3 && elen t.2.1 t.2.2) = true := by decide +kernel
theorem ed_145 : ∀ t ∈ ec_145, decode cX12_mixed t.1 = .ok (t.2.1, t.2.2) := by decide +kernel
theorem ee_145 : ec_145.all (fun t => est t.1 t.2.1 6 && elen t.2.1 t.2.2) = true := by decide +kernel
theorem ed_146 : ∀ t ∈ ec_146, decode cX12_now t.1 = .ok (t.2.1, t.2.2) := by decide +kernel
theorem ee_146 : ec_146.all (fun t => est t.1 t.2.1 2 && elen t.2.1 t.2.2) = true := by decide +kernel
theorem ed_147 : ∀ t ∈ ec_147, decode cX12_odds t.1 = .ok (t.2.1, t.2.2) := by decide +kernel
theorem ee_147 : ec_147.all (fun t => est t.1 t.2.1 6 && elen t.2.1 t.2.2) = true := by decide +kernel
def ec_148_0 : List eI := [(0, .aload_n 0, 1), (1, .ldc2_w 156, 3), (4, .invokevirtual 235, 3), (7, .istore_n 1, 1), (8, .aload_n 0, 1), (9, .bipush 40, 2), (11, .invokevirtual 207, 3), (14, .istore_n 2, 1), (15, .aload_n 0, 1), (16, .invokevirtual 461, 3), (19, .istore_n 3, 1), (20, .iload_n 1, 1), (21, .ifCond .ne 17, 3), (24, .iload_n 2, 1), (25, .ifCond .ne 13, 3), (28, .iload_n 3, 1), (29, .ifCond .ge 9, 3), (32, .aload_n 0, 1), (33, .iconst 1, 1), (34, .invokevirtual 210, 3), (37, .ireturn, 1), (38, .aload_n 0, 1), (39, .getfield 464, 3), (42, .bipush 20, 2), (44, .if_icmp .eq 12, 3), (47, .aload_n 0, 1), (48, .getfield 458, 3), (51, .bipush 8, 2), (53, .if_icmp .le 9, 3), (56, .aload_n 0, 1), (57, .iconst 4, 1), (58, .invokevirtual 210, 3), (61, .ireturn, 1), (62, .aload_n 0, 1), (63, .dup, 1), (64, .getfield 464, 3), (67, .iconst 1, 1), (68, .iadd, 1), (69, .putfield 464, 3), (72, .aload_n 0, 1), (73, .invokevirtual 213, 3), (76, .iload_n 1, 1), (77, .ifCond .ne 7, 3), (80, .iload_n 2, 1), (81, .ifCond .eq 45, 3), (84, .aload_n 0, 1), (85, .getfield 98, 3), (88, .aload_n 0, 1), (89, .getfield 451, 3), (92, .iload_n 1, 1), (93, .ifCond .eq 8, 3), (96, .bipush 20, 2), (98, .goto 5, 3), (101, .bipush 23, 2), (103, .iastore, 1), (104, .aload_n 0, 1), (105, .dup, 1), (106, .getfield 451, 3), (109, .iconst 1, 1), (110, .iadd, 1), (111, .putfield 451, 3), (114, .aload_n 0, 1), (115, .dup, 1), (116, .getfield 458, 3), (119, .iconst 1, 1), (120, .iadd, 1), (121, .putfield 458, 3), (124, .iconst 1, 1), (125, .ireturn, 1), (126, .aload_n 0, 1), (127, .iconst 1, 1), (128, .putfield 467, 3), (131, .iload_n 3, 1), (132, .iconst 2, 1), (133, .if_icmp .ge 12, 3), (136, .aload_n 0, 1), (137, .iload_n 3, 1), (138, .iconst 0, 1), (139, .iconst 0, 1), (140, .invokevirtual 454, 3)]
theorem ed_148_0 : ∀ t ∈ ec_148_0, decode cX12_operand t.1 = .ok (t.2.1, t.2.2) := by decide +kernel
def ec_148_1 : List eI := [(143, .iconst 1, 1), (144, .ireturn, 1), (145, .iload_n 3, 1), (146, .iconst 4, 1), (147, .if_icmp .ge 74, 3), (150, .aload_n 0, 1), (151, .invokevirtual 223, 3), (154, .ifCond .ne 9, 3), (157, .aload_n 0, 1), (158, .iconst 1, 1), (159, .invokevirtual 210, 3), (162, .ireturn, 1), (163, .iload_n 3, 1), (164, .iconst 2, 1), (165, .if_icmp .ne 18, 3), (168, .aload_n 0, 1), (169, .bipush 6, 2), (171, .aload_n 0, 1), (172, .getfield 33, 3), (175, .iconst 1, 1), (176, .iaload, 1), (177, .invokevirtual 227, 3), (180, .goto 14, 3), (183, .aload_n 0, 1), (184, .iconst 0, 1), (185, .aload_n 0, 1), (186, .getfield 33, 3), (189, .iconst 0, 1), (190, .iaload, 1), (191, .invokevirtual 227, 3), (194, .istore 4, 2), (196, .iload 4, 2), (198, .ifCond .ge 9, 3), (201, .aload_n 0, 1), (202, .iconst 3, 1), (203, .invokevirtual 210, 3), (206, .ireturn, 1), (207, .aload_n 0, 1), (208, .iload_n 3, 1), (209, .iconst 0, 1), (210, .iload 4, 2), (212, .invokevirtual 454, 3), (215, .aload_n 0, 1), (216, .invokevirtual 213, 3), (219, .iconst 1, 1), (220, .ireturn, 1), (221, .aload_n 0, 1), (222, .getfield 184, 3), (225, .iconst 3, 1), (226, .if_icmp .ne 21, 3), (229, .aload_n 0, 1), (230, .getfield 194, 3), (233, .bipush 60, 2), (235, .if_icmp .lt 12, 3), (238, .aload_n 0, 1), (239, .getfield 194, 3), (242, .bipush 62, 2), (244, .if_icmp .le 9, 3), (247, .aload_n 0, 1), (248, .iconst 1, 1), (249, .invokevirtual 210, 3), (252, .ireturn, 1), (253, .aload_n 0, 1), (254, .getfield 194, 3), (257, .istore 4, 2), (259, .aload_n 0, 1), (260, .invokevirtual 213, 3), (263, .aload_n 0, 1), (264, .getfield 184, 3), (267, .iconst 2, 1), (268, .if_icmp .eq 9, 3), (271, .aload_n 0, 1), (272, .iconst 1, 1), (273, .invokevirtual 210, 3), (276, .ireturn, 1), (277, .aload_n 0, 1), (278, .iload_n 3, 1), (279, .iload 4, 2), (281, .aload_n 0, 1), (282, .getfield 194, 3)]
theorem ed_148_1 : ∀ t ∈ ec_148_1, decode cX12_operand t.1 = .ok (t.2.1, t.2.2) := by decide +kernel
def ec_148_2 : List eI := [(285, .invokevirtual 454, 3), (288, .aload_n 0, 1), (289, .invokevirtual 213, 3), (292, .iconst 1, 1), (293, .ireturn, 1)]
theorem ed_148_2 : ∀ t ∈ ec_148_2, decode cX12_operand t.1 = .ok (t.2.1, t.2.2) := by decide +kernel
set_option maxRecDepth 100000 in
theorem ed_148 : ∀ t ∈ ec_148, decode cX12_operand t.1 = .ok (t.2.1, t.2.2) := (show ∀ t ∈ ec_148_0 ++ (ec_148_1 ++ (ec_148_2)), decode cX12_operand t.1 = .ok (t.2.1, t.2.2) from List.forall_mem_append.mpr ⟨ed_148_0, List.forall_mem_append.mpr ⟨ed_148_1, ed_148_2⟩⟩)
theorem ee_148 : ec_148.all (fun t => est t.1 t.2.1 5 && elen t.2.1 t.2.2) = true := by decide +kernel
theorem ed_149 : ∀ t ∈ ec_149, decode cX12_owner t.1 = .ok (t.2.1, t.2.2) := by decide +kernel
theorem ee_149 : ec_149.all (fun t => est t.1 t.2.1 3 && elen t.2.1 t.2.2) = true := by decide +kernel
theorem ed_150 : ∀ t ∈ ec_150, decode cX12_passage t.1 = .ok (t.2.1, t.2.2) := by decide +kernel
theorem ee_150 : ec_150.all (fun t => est t.1 t.2.1 3 && elen t.2.1 t.2.2) = true := by decide +kernel
theorem ed_151 : ∀ t ∈ ec_151, decode cX12_peek t.1 = .ok (t.2.1, t.2.2) := by decide +kernel
theorem ee_151 : ec_151.all (fun t => est t.1 t.2.1 1 && elen t.2.1 t.2.2) = true := by decide +kernel
theorem ed_152 : ∀ t ∈ ec_152, decode cX12_price t.1 = .ok (t.2.1, t.2.2) := by decide +kernel
theorem ee_152 : ec_152.all (fun t => est t.1 t.2.1 2 && elen t.2.1 t.2.2) = true := by decide +kernel
theorem ed_153 : ∀ t ∈ ec_153, decode cX12_prices t.1 = .ok (t.2.1, t.2.2) := by decide +kernel
theorem ee_153 : ec_153.all (fun t => est t.1 t.2.1 4 && elen t.2.1 t.2.2) = true := by decide +kernel
theorem ed_154 : ∀ t ∈ ec_154, decode cX12_restore t.1 = .ok (t.2.1, t.2.2) := by decide +kernel
theorem ee_154 : ec_154.all (fun t => est t.1 t.2.1 3 && elen t.2.1 t.2.2) = true := by decide +kernel
theorem ed_155 : ∀ t ∈ ec_155, decode cX12_rings t.1 = .ok (t.2.1, t.2.2) := by decide +kernel
theorem ee_155 : ec_155.all (fun t => est t.1 t.2.1 1 && elen t.2.1 t.2.2) = true := by decide +kernel
theorem ed_156 : ∀ t ∈ ec_156, decode cX12_room t.1 = .ok (t.2.1, t.2.2) := by decide +kernel
theorem ee_156 : ec_156.all (fun t => est t.1 t.2.1 3 && elen t.2.1 t.2.2) = true := by decide +kernel
theorem ed_157 : ∀ t ∈ ec_157, decode cX12_roomsOf t.1 = .ok (t.2.1, t.2.2) := by decide +kernel
theorem ee_157 : ec_157.all (fun t => est t.1 t.2.1 4 && elen t.2.1 t.2.2) = true := by decide +kernel
theorem ed_158 : ∀ t ∈ ec_158, decode cX12_said t.1 = .ok (t.2.1, t.2.2) := by decide +kernel
theorem ee_158 : ec_158.all (fun t => est t.1 t.2.1 4 && elen t.2.1 t.2.2) = true := by decide +kernel
theorem ed_159 : ∀ t ∈ ec_159, decode cX12_sell t.1 = .ok (t.2.1, t.2.2) := by decide +kernel
theorem ee_159 : ec_159.all (fun t => est t.1 t.2.1 5 && elen t.2.1 t.2.2) = true := by decide +kernel
theorem ed_160 : ∀ t ∈ ec_160, decode cX12_sentence t.1 = .ok (t.2.1, t.2.2) := by decide +kernel
theorem ee_160 : ec_160.all (fun t => est t.1 t.2.1 3 && elen t.2.1 t.2.2) = true := by decide +kernel
theorem ed_161 : ∀ t ∈ ec_161, decode cX12_shut t.1 = .ok (t.2.1, t.2.2) := by decide +kernel
theorem ee_161 : ec_161.all (fun t => est t.1 t.2.1 4 && elen t.2.1 t.2.2) = true := by decide +kernel
def ec_162_0 : List eI := [(0, .aload_n 0, 1), (1, .invokevirtual 174, 3), (4, .bipush 32, 2), (6, .if_icmp .eq 12, 3), (9, .aload_n 0, 1), (10, .invokevirtual 174, 3), (13, .bipush 10, 2), (15, .if_icmp .ne 16, 3), (18, .aload_n 0, 1), (19, .dup, 1), (20, .getfield 21, 3), (23, .iconst 1, 1), (24, .iadd, 1), (25, .putfield 21, 3), (28, .goto (-28), 3), (31, .aload_n 0, 1), (32, .aload_n 0, 1), (33, .getfield 21, 3), (36, .putfield 178, 3), (39, .aload_n 0, 1), (40, .iconst 0, 1), (41, .putfield 181, 3), (44, .aload_n 0, 1), (45, .getfield 18, 3), (48, .aload_n 0, 1), (49, .getfield 24, 3), (52, .if_icmp .le 28, 3), (55, .aload_n 0, 1), (56, .getfield 21, 3), (59, .aload_n 0, 1), (60, .getfield 24, 3), (63, .if_icmp .lt 17, 3), (66, .aload_n 0, 1), (67, .aload_n 0, 1), (68, .getfield 24, 3), (71, .putfield 178, 3), (74, .aload_n 0, 1), (75, .iconst 4, 1), (76, .putfield 184, 3), (79, .return_, 1), (80, .aload_n 0, 1), (81, .invokevirtual 174, 3), (84, .istore_n 1, 1), (85, .iload_n 1, 1), (86, .ifCond .ge 9, 3), (89, .aload_n 0, 1), (90, .iconst 0, 1), (91, .putfield 184, 3), (94, .return_, 1), (95, .iload_n 1, 1), (96, .invokestatic 187, 3), (99, .ifCond .ne 65, 3), (102, .iload_n 1, 1), (103, .invokestatic 191, 3), (106, .ifCond .ne 58, 3), (109, .aload_n 0, 1), (110, .iload_n 1, 1), (111, .bipush 59, 2), (113, .if_icmp .eq 27, 3), (116, .iload_n 1, 1), (117, .bipush 40, 2), (119, .if_icmp .eq 21, 3), (122, .iload_n 1, 1), (123, .bipush 41, 2), (125, .if_icmp .eq 15, 3), (128, .iload_n 1, 1), (129, .bipush 60, 2), (131, .if_icmp .lt 13, 3), (134, .iload_n 1, 1), (135, .bipush 62, 2), (137, .if_icmp .gt 7, 3), (140, .iconst 3, 1), (141, .goto 4, 3), (144, .iconst 4, 1), (145, .putfield 184, 3), (148, .aload_n 0, 1), (149, .iload_n 1, 1), (150, .putfield 194, 3), (153, .aload_n 0, 1), (154, .dup, 1)]
theorem ed_162_0 : ∀ t ∈ ec_162_0, decode cX12_skip t.1 = .ok (t.2.1, t.2.2) := by decide +kernel
def ec_162_1 : List eI := [(155, .getfield 21, 3), (158, .iconst 1, 1), (159, .iadd, 1), (160, .putfield 21, 3), (163, .return_, 1), (164, .iload_n 1, 1), (165, .invokestatic 187, 3), (168, .istore_n 2, 1), (169, .iconst 1, 1), (170, .istore_n 3, 1), (171, .aload_n 0, 1), (172, .lconst 0, 1), (173, .putfield 197, 3), (176, .aload_n 0, 1), (177, .iconst 0, 1), (178, .putfield 194, 3), (181, .aload_n 0, 1), (182, .invokevirtual 174, 3), (185, .invokestatic 187, 3), (188, .ifCond .ne 13, 3), (191, .aload_n 0, 1), (192, .invokevirtual 174, 3), (195, .invokestatic 191, 3), (198, .ifCond .eq 100, 3), (201, .iload_n 3, 1), (202, .ifCond .eq 18, 3), (205, .aload_n 0, 1), (206, .invokevirtual 174, 3), (209, .invokestatic 187, 3), (212, .iload_n 2, 1), (213, .if_icmp .ne 7, 3), (216, .iconst 1, 1), (217, .goto 4, 3), (220, .iconst 0, 1), (221, .istore_n 3, 1), (222, .aload_n 0, 1), (223, .getfield 181, 3), (226, .bipush 7, 2), (228, .if_icmp .ge 20, 3), (231, .aload_n 0, 1), (232, .aload_n 0, 1), (233, .getfield 197, 3), (236, .bipush 8, 2), (238, .lshl, 1), (239, .aload_n 0, 1), (240, .invokevirtual 174, 3), (243, .i2l, 1), (244, .lor, 1), (245, .putfield 197, 3), (248, .aload_n 0, 1), (249, .getfield 181, 3), (252, .iconst 2, 1), (253, .if_icmp .ge 22, 3), (256, .aload_n 0, 1), (257, .bipush 10, 2), (259, .aload_n 0, 1), (260, .getfield 194, 3), (263, .imul, 1), (264, .aload_n 0, 1), (265, .invokevirtual 174, 3), (268, .iadd, 1), (269, .bipush 48, 2), (271, .isub, 1), (272, .putfield 194, 3), (275, .aload_n 0, 1), (276, .dup, 1), (277, .getfield 181, 3), (280, .iconst 1, 1), (281, .iadd, 1), (282, .putfield 181, 3), (285, .aload_n 0, 1), (286, .dup, 1), (287, .getfield 21, 3), (290, .iconst 1, 1), (291, .iadd, 1), (292, .putfield 21, 3), (295, .goto (-114), 3), (298, .aload_n 0, 1), (299, .iload_n 3, 1), (300, .ifCond .eq 20, 3)]
theorem ed_162_1 : ∀ t ∈ ec_162_1, decode cX12_skip t.1 = .ok (t.2.1, t.2.2) := by decide +kernel
def ec_162_2 : List eI := [(303, .aload_n 0, 1), (304, .getfield 181, 3), (307, .iload_n 2, 1), (308, .ifCond .eq 8, 3), (311, .bipush 7, 2), (313, .goto 4, 3), (316, .iconst 2, 1), (317, .if_icmp .le 7, 3), (320, .iconst 4, 1), (321, .goto 12, 3), (324, .iload_n 2, 1), (325, .ifCond .eq 7, 3), (328, .iconst 1, 1), (329, .goto 4, 3), (332, .iconst 2, 1), (333, .putfield 184, 3), (336, .return_, 1)]
theorem ed_162_2 : ∀ t ∈ ec_162_2, decode cX12_skip t.1 = .ok (t.2.1, t.2.2) := by decide +kernel
set_option maxRecDepth 100000 in
theorem ed_162 : ∀ t ∈ ec_162, decode cX12_skip t.1 = .ok (t.2.1, t.2.2) := (show ∀ t ∈ ec_162_0 ++ (ec_162_1 ++ (ec_162_2)), decode cX12_skip t.1 = .ok (t.2.1, t.2.2) from List.forall_mem_append.mpr ⟨ed_162_0, List.forall_mem_append.mpr ⟨ed_162_1, ed_162_2⟩⟩)
theorem ee_162 : ec_162.all (fun t => est t.1 t.2.1 4 && elen t.2.1 t.2.2) = true := by decide +kernel
theorem ed_163 : ∀ t ∈ ec_163, decode cX12_spread t.1 = .ok (t.2.1, t.2.2) := by decide +kernel
theorem ee_163 : ec_163.all (fun t => est t.1 t.2.1 2 && elen t.2.1 t.2.2) = true := by decide +kernel
theorem ed_164 : ∀ t ∈ ec_164, decode cX12_step t.1 = .ok (t.2.1, t.2.2) := by decide +kernel
theorem ee_164 : ec_164.all (fun t => est t.1 t.2.1 2 && elen t.2.1 t.2.2) = true := by decide +kernel
theorem ed_165 : ∀ t ∈ ec_165, decode cX12_taken t.1 = .ok (t.2.1, t.2.2) := by decide +kernel
theorem ee_165 : ec_165.all (fun t => est t.1 t.2.1 2 && elen t.2.1 t.2.2) = true := by decide +kernel
def ec_166_0 : List eI := [(0, .aload_n 0, 1), (1, .iconst 0, 1), (2, .putfield 1, 3), (5, .aload_n 0, 1), (6, .sipush 900, 3), (9, .invokevirtual 260, 3), (12, .aload_n 0, 1), (13, .iconst 0, 1), (14, .putfield 201, 3), (17, .aload_n 0, 1), (18, .iconst 0, 1), (19, .putfield 263, 3), (22, .iconst 0, 1), (23, .istore_n 1, 1), (24, .iload_n 1, 1), (25, .sipush 179, 3), (28, .if_icmp .ge 16, 3), (31, .aload_n 0, 1), (32, .getfield 37, 3), (35, .iload_n 1, 1), (36, .iconst 0, 1), (37, .iastore, 1), (38, .iinc 1 1, 3), (41, .goto (-17), 3), (44, .aload_n 0, 1), (45, .invokevirtual 213, 3), (48, .aload_n 0, 1), (49, .getfield 184, 3), (52, .ifCond .eq 39, 3), (55, .aload_n 0, 1), (56, .invokevirtual 266, 3), (59, .ifCond .eq 12, 3), (62, .aload_n 0, 1), (63, .bipush 59, 2), (65, .invokevirtual 269, 3), (68, .ifCond .ne 10, 3), (71, .iconst (-1), 1), (72, .aload_n 0, 1), (73, .getfield 204, 3), (76, .isub, 1), (77, .ireturn, 1), (78, .aload_n 0, 1), (79, .dup, 1), (80, .getfield 263, 3), (83, .iconst 1, 1), (84, .iadd, 1), (85, .putfield 263, 3), (88, .goto (-40), 3), (91, .iconst 0, 1), (92, .istore_n 1, 1), (93, .iload_n 1, 1), (94, .sipush 402, 3), (97, .if_icmp .ge 32, 3), (100, .aload_n 0, 1), (101, .getfield 33, 3), (104, .iload_n 1, 1), (105, .iload_n 1, 1), (106, .sipush 179, 3), (109, .if_icmp .ge 12, 3), (112, .aload_n 0, 1), (113, .getfield 37, 3), (116, .iload_n 1, 1), (117, .iaload, 1), (118, .goto 4, 3), (121, .iconst 0, 1), (122, .iastore, 1), (123, .iinc 1 1, 3), (126, .goto (-33), 3), (129, .iconst 0, 1), (130, .istore_n 1, 1), (131, .iload_n 1, 1), (132, .bipush 24, 2), (134, .if_icmp .ge 24, 3), (137, .aload_n 0, 1), (138, .getfield 43, 3), (141, .iload_n 1, 1), (142, .aload_n 0, 1), (143, .getfield 43, 3), (146, .bipush 24, 2), (148, .iload_n 1, 1)]
theorem ed_166_0 : ∀ t ∈ ec_166_0, decode cX12_terrace t.1 = .ok (t.2.1, t.2.2) := by decide +kernel
def ec_166_1 : List eI := [(149, .iadd, 1), (150, .laload, 1), (151, .lastore, 1), (152, .iinc 1 1, 3), (155, .goto (-24), 3), (158, .iconst 0, 1), (159, .istore_n 1, 1), (160, .iload_n 1, 1), (161, .bipush 12, 2), (163, .if_icmp .ge 28, 3), (166, .aload_n 0, 1), (167, .getfield 33, 3), (170, .sipush 185, 3), (173, .iload_n 1, 1), (174, .iadd, 1), (175, .aload_n 0, 1), (176, .getfield 33, 3), (179, .bipush 17, 2), (181, .iload_n 1, 1), (182, .iadd, 1), (183, .iaload, 1), (184, .iastore, 1), (185, .iinc 1 1, 3), (188, .goto (-28), 3), (191, .iconst 0, 1), (192, .istore_n 1, 1), (193, .iload_n 1, 1), (194, .bipush 6, 2), (196, .if_icmp .ge 66, 3), (199, .aload_n 0, 1), (200, .getfield 33, 3), (203, .sipush 197, 3), (206, .iload_n 1, 1), (207, .iadd, 1), (208, .aload_n 0, 1), (209, .getfield 33, 3), (212, .bipush 89, 2), (214, .iload_n 1, 1), (215, .iadd, 1), (216, .iaload, 1), (217, .iastore, 1), (218, .aload_n 0, 1), (219, .getfield 33, 3), (222, .sipush 203, 3), (225, .iload_n 1, 1), (226, .iadd, 1), (227, .aload_n 0, 1), (228, .getfield 33, 3), (231, .bipush 95, 2), (233, .iload_n 1, 1), (234, .iadd, 1), (235, .iaload, 1), (236, .iastore, 1), (237, .aload_n 0, 1), (238, .getfield 33, 3), (241, .sipush 209, 3), (244, .iload_n 1, 1), (245, .iadd, 1), (246, .aload_n 0, 1), (247, .getfield 33, 3), (250, .bipush 101, 2), (252, .iload_n 1, 1), (253, .iadd, 1), (254, .iaload, 1), (255, .iastore, 1), (256, .iinc 1 1, 3), (259, .goto (-66), 3), (262, .aload_n 0, 1), (263, .iconst 0, 1), (264, .putfield 272, 3), (267, .aload_n 0, 1), (268, .getfield 263, 3), (271, .ireturn, 1)]
theorem ed_166_1 : ∀ t ∈ ec_166_1, decode cX12_terrace t.1 = .ok (t.2.1, t.2.2) := by decide +kernel
set_option maxRecDepth 100000 in
theorem ed_166 : ∀ t ∈ ec_166, decode cX12_terrace t.1 = .ok (t.2.1, t.2.2) := (show ∀ t ∈ ec_166_0 ++ (ec_166_1), decode cX12_terrace t.1 = .ok (t.2.1, t.2.2) from List.forall_mem_append.mpr ⟨ed_166_0, ed_166_1⟩)
theorem ee_166 : ec_166.all (fun t => est t.1 t.2.1 2 && elen t.2.1 t.2.2) = true := by decide +kernel
theorem ed_167 : ∀ t ∈ ec_167, decode cX12_through t.1 = .ok (t.2.1, t.2.2) := by decide +kernel
theorem ee_167 : ec_167.all (fun t => est t.1 t.2.1 7 && elen t.2.1 t.2.2) = true := by decide +kernel
theorem ed_168 : ∀ t ∈ ec_168, decode cX12_thrown t.1 = .ok (t.2.1, t.2.2) := by decide +kernel
theorem ee_168 : ec_168.all (fun t => est t.1 t.2.1 1 && elen t.2.1 t.2.2) = true := by decide +kernel
theorem ed_169 : ∀ t ∈ ec_169, decode cX12_throwsIf t.1 = .ok (t.2.1, t.2.2) := by decide +kernel
theorem ee_169 : ec_169.all (fun t => est t.1 t.2.1 2 && elen t.2.1 t.2.2) = true := by decide +kernel
end
section
theorem ed_170 : ∀ t ∈ ec_170, decode cX12_tries t.1 = .ok (t.2.1, t.2.2) := by decide +kernel
theorem ee_170 : ec_170.all (fun t => est t.1 t.2.1 2 && elen t.2.1 t.2.2) = true := by decide +kernel
theorem ed_171 : ∀ t ∈ ec_171, decode cX12_undo t.1 = .ok (t.2.1, t.2.2) := by decide +kernel
theorem ee_171 : ec_171.all (fun t => est t.1 t.2.1 2 && elen t.2.1 t.2.2) = true := by decide +kernel
theorem ed_172 : ∀ t ∈ ec_172, decode cX12_walked t.1 = .ok (t.2.1, t.2.2) := by decide +kernel
theorem ee_172 : ec_172.all (fun t => est t.1 t.2.1 5 && elen t.2.1 t.2.2) = true := by decide +kernel
theorem ed_173 : ∀ t ∈ ec_173, decode cX12_wants t.1 = .ok (t.2.1, t.2.2) := by decide +kernel
theorem ee_173 : ec_173.all (fun t => est t.1 t.2.1 2 && elen t.2.1 t.2.2) = true := by decide +kernel
theorem ed_174 : ∀ t ∈ ec_174, decode cX12_way t.1 = .ok (t.2.1, t.2.2) := by decide +kernel
theorem ee_174 : ec_174.all (fun t => est t.1 t.2.1 5 && elen t.2.1 t.2.2) = true := by decide +kernel
theorem ed_175 : ∀ t ∈ ec_175, decode cX12_will t.1 = .ok (t.2.1, t.2.2) := by decide +kernel
theorem ee_175 : ec_175.all (fun t => est t.1 t.2.1 4 && elen t.2.1 t.2.2) = true := by decide +kernel
def ec_176_0 : List eI := [(0, .new 8, 3), (3, .dup, 1), (4, .invokespecial 15, 3), (7, .astore_n 1, 1), (8, .new 16, 3), (11, .dup, 1), (12, .invokespecial 18, 3), (15, .astore_n 2, 1), (16, .iconst 1, 1), (17, .newarray .long, 2), (19, .astore_n 3, 1), (20, .iconst 0, 1), (21, .istore 4, 2), (23, .iload 4, 2), (25, .aload_n 0, 1), (26, .arraylength, 1), (27, .bipush 6, 2), (29, .isub, 1), (30, .if_icmp .gt 1529, 3), (33, .aload_n 0, 1), (34, .iload 4, 2), (36, .iaload, 1), (37, .bipush 63, 2), (39, .iand, 1), (40, .tableswitch 1513 0 45 #[200, 273, 298, 311, 324, 392, 429, 466, 491, 528, 553, 602, 651, 688, 713, 750, 775, 800, 813, 850, 875, 900, 937, 950, 987, 1012, 1037, 1062, 1087, 1100, 1113, 1138, 1163, 1176, 1201, 1226, 1251, 1264, 1301, 1350, 1375, 1400, 1413, 1438, 1463, 1488], 200), (240, .aload_n 1, 1), (241, .aload_n 0, 1), (242, .iload 4, 2), (244, .iconst 1, 1), (245, .iadd, 1), (246, .iaload, 1), (247, .aload_n 0, 1), (248, .iload 4, 2), (250, .iconst 2, 1), (251, .iadd, 1), (252, .iaload, 1), (253, .aload_n 0, 1), (254, .iload 4, 2), (256, .iconst 3, 1), (257, .iadd, 1), (258, .iaload, 1), (259, .aload_n 0, 1), (260, .iload 4, 2), (262, .iconst 4, 1), (263, .iadd, 1), (264, .iaload, 1), (265, .aload_n 0, 1), (266, .iload 4, 2), (268, .iconst 5, 1), (269, .iadd, 1), (270, .iaload, 1), (271, .invokevirtual 19, 3), (274, .aload_n 2, 1), (275, .aload_n 0, 1), (276, .iload 4, 2), (278, .iconst 1, 1), (279, .iadd, 1), (280, .iaload, 1), (281, .aload_n 0, 1), (282, .iload 4, 2), (284, .iconst 2, 1), (285, .iadd, 1), (286, .iaload, 1), (287, .aload_n 0, 1), (288, .iload 4, 2), (290, .iconst 3, 1), (291, .iadd, 1), (292, .iaload, 1), (293, .aload_n 0, 1), (294, .iload 4, 2), (296, .iconst 4, 1), (297, .iadd, 1), (298, .iaload, 1), (299, .aload_n 0, 1), (300, .iload 4, 2), (302, .iconst 5, 1), (303, .iadd, 1), (304, .iaload, 1), (305, .invokevirtual 23, 3), (308, .if_icmp .eq 1245, 3)]
theorem ed_176_0 : ∀ t ∈ ec_176_0, decode cL_law t.1 = .ok (t.2.1, t.2.2) := by decide +kernel
def ec_176_1 : List eI := [(311, .iconst 0, 1), (312, .ireturn, 1), (313, .aload_n 1, 1), (314, .aload_n 0, 1), (315, .iload 4, 2), (317, .iconst 1, 1), (318, .iadd, 1), (319, .iaload, 1), (320, .invokevirtual 24, 3), (323, .aload_n 2, 1), (324, .aload_n 0, 1), (325, .iload 4, 2), (327, .iconst 1, 1), (328, .iadd, 1), (329, .iaload, 1), (330, .invokevirtual 28, 3), (333, .if_icmp .eq 1220, 3), (336, .iconst 0, 1), (337, .ireturn, 1), (338, .aload_n 1, 1), (339, .invokevirtual 29, 3), (342, .aload_n 2, 1), (343, .invokevirtual 33, 3), (346, .if_icmp .eq 1207, 3), (349, .iconst 0, 1), (350, .ireturn, 1), (351, .aload_n 1, 1), (352, .invokevirtual 34, 3), (355, .aload_n 2, 1), (356, .invokevirtual 37, 3), (359, .if_icmp .eq 1194, 3), (362, .iconst 0, 1), (363, .ireturn, 1), (364, .aload_n 1, 1), (365, .aload_n 0, 1), (366, .iload 4, 2), (368, .iconst 1, 1), (369, .iadd, 1), (370, .iaload, 1), (371, .aload_n 0, 1), (372, .iload 4, 2), (374, .iconst 2, 1), (375, .iadd, 1), (376, .iaload, 1), (377, .aload_n 3, 1), (378, .invokestatic 38, 3), (381, .istore 5, 2), (383, .aload_n 2, 1), (384, .aload_n 0, 1), (385, .iload 4, 2), (387, .iconst 1, 1), (388, .iadd, 1), (389, .iaload, 1), (390, .aload_n 0, 1), (391, .iload 4, 2), (393, .iconst 2, 1), (394, .iadd, 1), (395, .iaload, 1), (396, .invokevirtual 43, 3), (399, .istore 6, 2), (401, .aload_n 2, 1), (402, .invokevirtual 44, 3), (405, .iload 5, 2), (407, .if_icmp .eq 5, 3), (410, .iconst 0, 1), (411, .ireturn, 1), (412, .iload 5, 2), (414, .ifCond .ne 15, 3), (417, .aload_n 3, 1), (418, .iconst 0, 1), (419, .laload, 1), (420, .iload 6, 2), (422, .i2l, 1), (423, .lcmp, 1), (424, .ifCond .eq 5, 3), (427, .iconst 0, 1), (428, .ireturn, 1), (429, .goto 1124, 3), (432, .aload_n 1, 1), (433, .aload_n 0, 1)]
theorem ed_176_1 : ∀ t ∈ ec_176_1, decode cL_law t.1 = .ok (t.2.1, t.2.2) := by decide +kernel
def ec_176_2 : List eI := [(434, .iload 4, 2), (436, .iconst 1, 1), (437, .iadd, 1), (438, .iaload, 1), (439, .aload_n 0, 1), (440, .iload 4, 2), (442, .iconst 2, 1), (443, .iadd, 1), (444, .iaload, 1), (445, .invokevirtual 47, 3), (448, .aload_n 2, 1), (449, .aload_n 0, 1), (450, .iload 4, 2), (452, .iconst 1, 1), (453, .iadd, 1), (454, .iaload, 1), (455, .aload_n 0, 1), (456, .iload 4, 2), (458, .iconst 2, 1), (459, .iadd, 1), (460, .iaload, 1), (461, .invokevirtual 50, 3), (464, .if_icmp .eq 1089, 3), (467, .iconst 0, 1), (468, .ireturn, 1), (469, .aload_n 1, 1), (470, .aload_n 0, 1), (471, .iload 4, 2), (473, .iconst 1, 1), (474, .iadd, 1), (475, .iaload, 1), (476, .aload_n 0, 1), (477, .iload 4, 2), (479, .iconst 2, 1), (480, .iadd, 1), (481, .iaload, 1), (482, .invokevirtual 51, 3), (485, .aload_n 2, 1), (486, .aload_n 0, 1), (487, .iload 4, 2), (489, .iconst 1, 1), (490, .iadd, 1), (491, .iaload, 1), (492, .aload_n 0, 1), (493, .iload 4, 2), (495, .iconst 2, 1), (496, .iadd, 1), (497, .iaload, 1), (498, .invokevirtual 54, 3), (501, .if_icmp .eq 1052, 3), (504, .iconst 0, 1), (505, .ireturn, 1), (506, .aload_n 1, 1), (507, .aload_n 0, 1), (508, .iload 4, 2), (510, .iconst 1, 1), (511, .iadd, 1), (512, .iaload, 1), (513, .invokevirtual 55, 3), (516, .aload_n 2, 1), (517, .aload_n 0, 1), (518, .iload 4, 2), (520, .iconst 1, 1), (521, .iadd, 1), (522, .iaload, 1), (523, .invokevirtual 59, 3), (526, .if_icmp .eq 1027, 3), (529, .iconst 0, 1), (530, .ireturn, 1), (531, .aload_n 1, 1), (532, .aload_n 0, 1), (533, .iload 4, 2), (535, .iconst 1, 1), (536, .iadd, 1), (537, .iaload, 1), (538, .aload_n 0, 1), (539, .iload 4, 2), (541, .iconst 2, 1), (542, .iadd, 1), (543, .iaload, 1)]
theorem ed_176_2 : ∀ t ∈ ec_176_2, decode cL_law t.1 = .ok (t.2.1, t.2.2) := by decide +kernel
def ec_176_3 : List eI := [(544, .invokevirtual 60, 3), (547, .aload_n 2, 1), (548, .aload_n 0, 1), (549, .iload 4, 2), (551, .iconst 1, 1), (552, .iadd, 1), (553, .iaload, 1), (554, .aload_n 0, 1), (555, .iload 4, 2), (557, .iconst 2, 1), (558, .iadd, 1), (559, .iaload, 1), (560, .invokevirtual 63, 3), (563, .if_icmp .eq 990, 3), (566, .iconst 0, 1), (567, .ireturn, 1), (568, .aload_n 1, 1), (569, .aload_n 0, 1), (570, .iload 4, 2), (572, .iconst 1, 1), (573, .iadd, 1), (574, .iaload, 1), (575, .invokevirtual 64, 3), (578, .aload_n 2, 1), (579, .aload_n 0, 1), (580, .iload 4, 2), (582, .iconst 1, 1), (583, .iadd, 1), (584, .iaload, 1), (585, .invokevirtual 67, 3), (588, .if_icmp .eq 965, 3), (591, .iconst 0, 1), (592, .ireturn, 1), (593, .aload_n 1, 1), (594, .aload_n 0, 1), (595, .iload 4, 2), (597, .iconst 1, 1), (598, .iadd, 1), (599, .iaload, 1), (600, .aload_n 0, 1), (601, .iload 4, 2), (603, .iconst 2, 1), (604, .iadd, 1), (605, .iaload, 1), (606, .aload_n 0, 1), (607, .iload 4, 2), (609, .iconst 3, 1), (610, .iadd, 1), (611, .iaload, 1), (612, .invokevirtual 68, 3), (615, .aload_n 2, 1), (616, .aload_n 0, 1), (617, .iload 4, 2), (619, .iconst 1, 1), (620, .iadd, 1), (621, .iaload, 1), (622, .aload_n 0, 1), (623, .iload 4, 2), (625, .iconst 2, 1), (626, .iadd, 1), (627, .iaload, 1), (628, .aload_n 0, 1), (629, .iload 4, 2), (631, .iconst 3, 1), (632, .iadd, 1), (633, .iaload, 1), (634, .invokevirtual 72, 3), (637, .if_icmp .eq 916, 3), (640, .iconst 0, 1), (641, .ireturn, 1), (642, .aload_n 1, 1), (643, .aload_n 0, 1), (644, .iload 4, 2), (646, .iconst 1, 1), (647, .iadd, 1), (648, .iaload, 1), (649, .aload_n 0, 1), (650, .iload 4, 2), (652, .iconst 2, 1), (653, .iadd, 1)]
theorem ed_176_3 : ∀ t ∈ ec_176_3, decode cL_law t.1 = .ok (t.2.1, t.2.2) := by decide +kernel
def ec_176_4 : List eI := [(654, .iaload, 1), (655, .aload_n 0, 1), (656, .iload 4, 2), (658, .iconst 3, 1), (659, .iadd, 1), (660, .iaload, 1), (661, .invokevirtual 73, 3), (664, .aload_n 2, 1), (665, .aload_n 0, 1), (666, .iload 4, 2), (668, .iconst 1, 1), (669, .iadd, 1), (670, .iaload, 1), (671, .aload_n 0, 1), (672, .iload 4, 2), (674, .iconst 2, 1), (675, .iadd, 1), (676, .iaload, 1), (677, .aload_n 0, 1), (678, .iload 4, 2), (680, .iconst 3, 1), (681, .iadd, 1), (682, .iaload, 1), (683, .invokevirtual 76, 3), (686, .if_icmp .eq 867, 3), (689, .iconst 0, 1), (690, .ireturn, 1), (691, .aload_n 1, 1), (692, .aload_n 0, 1), (693, .iload 4, 2), (695, .iconst 1, 1), (696, .iadd, 1), (697, .iaload, 1), (698, .aload_n 0, 1), (699, .iload 4, 2), (701, .iconst 2, 1), (702, .iadd, 1), (703, .iaload, 1), (704, .invokevirtual 77, 3), (707, .aload_n 2, 1), (708, .aload_n 0, 1), (709, .iload 4, 2), (711, .iconst 1, 1), (712, .iadd, 1), (713, .iaload, 1), (714, .aload_n 0, 1), (715, .iload 4, 2), (717, .iconst 2, 1), (718, .iadd, 1), (719, .iaload, 1), (720, .invokevirtual 80, 3), (723, .if_icmp .eq 830, 3), (726, .iconst 0, 1), (727, .ireturn, 1), (728, .aload_n 1, 1), (729, .aload_n 0, 1), (730, .iload 4, 2), (732, .iconst 1, 1), (733, .iadd, 1), (734, .iaload, 1), (735, .invokevirtual 81, 3), (738, .aload_n 2, 1), (739, .aload_n 0, 1), (740, .iload 4, 2), (742, .iconst 1, 1), (743, .iadd, 1), (744, .iaload, 1), (745, .invokevirtual 84, 3), (748, .if_icmp .eq 805, 3), (751, .iconst 0, 1), (752, .ireturn, 1), (753, .aload_n 1, 1), (754, .aload_n 0, 1), (755, .iload 4, 2), (757, .iconst 1, 1), (758, .iadd, 1), (759, .iaload, 1), (760, .aload_n 0, 1), (761, .iload 4, 2), (763, .iconst 2, 1)]
theorem ed_176_4 : ∀ t ∈ ec_176_4, decode cL_law t.1 = .ok (t.2.1, t.2.2) := by decide +kernel
def ec_176_5 : List eI := [(764, .iadd, 1), (765, .iaload, 1), (766, .invokevirtual 85, 3), (769, .aload_n 2, 1), (770, .aload_n 0, 1), (771, .iload 4, 2), (773, .iconst 1, 1), (774, .iadd, 1), (775, .iaload, 1), (776, .aload_n 0, 1), (777, .iload 4, 2), (779, .iconst 2, 1), (780, .iadd, 1), (781, .iaload, 1), (782, .invokevirtual 88, 3), (785, .if_icmp .eq 768, 3), (788, .iconst 0, 1), (789, .ireturn, 1), (790, .aload_n 1, 1), (791, .aload_n 0, 1), (792, .iload 4, 2), (794, .iconst 1, 1), (795, .iadd, 1), (796, .iaload, 1), (797, .invokevirtual 89, 3), (800, .aload_n 2, 1), (801, .aload_n 0, 1), (802, .iload 4, 2), (804, .iconst 1, 1), (805, .iadd, 1), (806, .iaload, 1), (807, .invokevirtual 92, 3), (810, .if_icmp .eq 743, 3), (813, .iconst 0, 1), (814, .ireturn, 1), (815, .aload_n 1, 1), (816, .aload_n 0, 1), (817, .iload 4, 2), (819, .iconst 1, 1), (820, .iadd, 1), (821, .iaload, 1), (822, .invokevirtual 93, 3), (825, .aload_n 2, 1), (826, .aload_n 0, 1), (827, .iload 4, 2), (829, .iconst 1, 1), (830, .iadd, 1), (831, .iaload, 1), (832, .invokevirtual 96, 3), (835, .if_icmp .eq 718, 3), (838, .iconst 0, 1), (839, .ireturn, 1), (840, .aload_n 1, 1), (841, .invokevirtual 97, 3), (844, .aload_n 2, 1), (845, .invokevirtual 100, 3), (848, .if_icmp .eq 705, 3), (851, .iconst 0, 1), (852, .ireturn, 1), (853, .aload_n 1, 1), (854, .aload_n 0, 1), (855, .iload 4, 2), (857, .iconst 1, 1), (858, .iadd, 1), (859, .iaload, 1), (860, .aload_n 0, 1), (861, .iload 4, 2), (863, .iconst 2, 1), (864, .iadd, 1), (865, .iaload, 1), (866, .invokevirtual 101, 3), (869, .aload_n 2, 1), (870, .aload_n 0, 1), (871, .iload 4, 2), (873, .iconst 1, 1), (874, .iadd, 1), (875, .iaload, 1), (876, .aload_n 0, 1), (877, .iload 4, 2), (879, .iconst 2, 1)]
theorem ed_176_5 : ∀ t ∈ ec_176_5, decode cL_law t.1 = .ok (t.2.1, t.2.2) := by decide +kernel
def ec_176_6 : List eI := [(880, .iadd, 1), (881, .iaload, 1), (882, .invokevirtual 104, 3), (885, .if_icmp .eq 668, 3), (888, .iconst 0, 1), (889, .ireturn, 1), (890, .aload_n 1, 1), (891, .aload_n 0, 1), (892, .iload 4, 2), (894, .iconst 1, 1), (895, .iadd, 1), (896, .iaload, 1), (897, .invokevirtual 105, 3), (900, .aload_n 2, 1), (901, .aload_n 0, 1), (902, .iload 4, 2), (904, .iconst 1, 1), (905, .iadd, 1), (906, .iaload, 1), (907, .invokevirtual 108, 3), (910, .if_icmp .eq 643, 3), (913, .iconst 0, 1), (914, .ireturn, 1), (915, .aload_n 1, 1), (916, .aload_n 0, 1), (917, .iload 4, 2), (919, .iconst 1, 1), (920, .iadd, 1), (921, .iaload, 1), (922, .invokevirtual 109, 3), (925, .aload_n 2, 1), (926, .aload_n 0, 1), (927, .iload 4, 2), (929, .iconst 1, 1), (930, .iadd, 1), (931, .iaload, 1), (932, .invokevirtual 112, 3), (935, .if_icmp .eq 618, 3), (938, .iconst 0, 1), (939, .ireturn, 1), (940, .aload_n 1, 1), (941, .aload_n 0, 1), (942, .iload 4, 2), (944, .iconst 1, 1), (945, .iadd, 1), (946, .iaload, 1), (947, .aload_n 0, 1), (948, .iload 4, 2), (950, .iconst 2, 1), (951, .iadd, 1), (952, .iaload, 1), (953, .invokevirtual 113, 3), (956, .aload_n 2, 1), (957, .aload_n 0, 1), (958, .iload 4, 2), (960, .iconst 1, 1), (961, .iadd, 1), (962, .iaload, 1), (963, .aload_n 0, 1), (964, .iload 4, 2), (966, .iconst 2, 1), (967, .iadd, 1), (968, .iaload, 1), (969, .invokevirtual 116, 3), (972, .if_icmp .eq 581, 3), (975, .iconst 0, 1), (976, .ireturn, 1), (977, .aload_n 1, 1), (978, .invokevirtual 117, 3), (981, .aload_n 2, 1), (982, .invokevirtual 120, 3), (985, .if_icmp .eq 568, 3), (988, .iconst 0, 1), (989, .ireturn, 1), (990, .aload_n 1, 1), (991, .aload_n 0, 1), (992, .iload 4, 2), (994, .iconst 1, 1), (995, .iadd, 1), (996, .iaload, 1)]
theorem ed_176_6 : ∀ t ∈ ec_176_6, decode cL_law t.1 = .ok (t.2.1, t.2.2) := by decide +kernel
def ec_176_7 : List eI := [(997, .aload_n 0, 1), (998, .iload 4, 2), (1000, .iconst 2, 1), (1001, .iadd, 1), (1002, .iaload, 1), (1003, .invokevirtual 121, 3), (1006, .aload_n 2, 1), (1007, .aload_n 0, 1), (1008, .iload 4, 2), (1010, .iconst 1, 1), (1011, .iadd, 1), (1012, .iaload, 1), (1013, .aload_n 0, 1), (1014, .iload 4, 2), (1016, .iconst 2, 1), (1017, .iadd, 1), (1018, .iaload, 1), (1019, .invokevirtual 124, 3), (1022, .if_icmp .eq 531, 3), (1025, .iconst 0, 1), (1026, .ireturn, 1), (1027, .aload_n 1, 1), (1028, .aload_n 0, 1), (1029, .iload 4, 2), (1031, .iconst 1, 1), (1032, .iadd, 1), (1033, .iaload, 1), (1034, .invokevirtual 125, 3), (1037, .aload_n 2, 1), (1038, .aload_n 0, 1), (1039, .iload 4, 2), (1041, .iconst 1, 1), (1042, .iadd, 1), (1043, .iaload, 1), (1044, .invokevirtual 128, 3), (1047, .if_icmp .eq 506, 3), (1050, .iconst 0, 1), (1051, .ireturn, 1), (1052, .aload_n 1, 1), (1053, .aload_n 0, 1), (1054, .iload 4, 2), (1056, .iconst 1, 1), (1057, .iadd, 1), (1058, .iaload, 1), (1059, .invokevirtual 129, 3), (1062, .aload_n 2, 1), (1063, .aload_n 0, 1), (1064, .iload 4, 2), (1066, .iconst 1, 1), (1067, .iadd, 1), (1068, .iaload, 1), (1069, .invokevirtual 132, 3), (1072, .if_icmp .eq 481, 3), (1075, .iconst 0, 1), (1076, .ireturn, 1), (1077, .aload_n 1, 1), (1078, .aload_n 0, 1), (1079, .iload 4, 2), (1081, .iconst 1, 1), (1082, .iadd, 1), (1083, .iaload, 1), (1084, .invokevirtual 133, 3), (1087, .aload_n 2, 1), (1088, .aload_n 0, 1), (1089, .iload 4, 2), (1091, .iconst 1, 1), (1092, .iadd, 1), (1093, .iaload, 1), (1094, .invokevirtual 136, 3), (1097, .if_icmp .eq 456, 3), (1100, .iconst 0, 1), (1101, .ireturn, 1), (1102, .aload_n 1, 1), (1103, .aload_n 0, 1), (1104, .iload 4, 2), (1106, .iconst 1, 1), (1107, .iadd, 1), (1108, .iaload, 1), (1109, .invokevirtual 137, 3), (1112, .aload_n 2, 1)]
theorem ed_176_7 : ∀ t ∈ ec_176_7, decode cL_law t.1 = .ok (t.2.1, t.2.2) := by decide +kernel
def ec_176_8 : List eI := [(1113, .aload_n 0, 1), (1114, .iload 4, 2), (1116, .iconst 1, 1), (1117, .iadd, 1), (1118, .iaload, 1), (1119, .invokevirtual 140, 3), (1122, .if_icmp .eq 431, 3), (1125, .iconst 0, 1), (1126, .ireturn, 1), (1127, .aload_n 1, 1), (1128, .invokevirtual 141, 3), (1131, .aload_n 2, 1), (1132, .invokevirtual 144, 3), (1135, .if_icmp .eq 418, 3), (1138, .iconst 0, 1), (1139, .ireturn, 1), (1140, .aload_n 1, 1), (1141, .invokevirtual 145, 3), (1144, .aload_n 2, 1), (1145, .invokevirtual 148, 3), (1148, .if_icmp .eq 405, 3), (1151, .iconst 0, 1), (1152, .ireturn, 1), (1153, .aload_n 1, 1), (1154, .aload_n 0, 1), (1155, .iload 4, 2), (1157, .iconst 1, 1), (1158, .iadd, 1), (1159, .iaload, 1), (1160, .invokevirtual 149, 3), (1163, .aload_n 2, 1), (1164, .aload_n 0, 1), (1165, .iload 4, 2), (1167, .iconst 1, 1), (1168, .iadd, 1), (1169, .iaload, 1), (1170, .invokevirtual 152, 3), (1173, .if_icmp .eq 380, 3), (1176, .iconst 0, 1), (1177, .ireturn, 1), (1178, .aload_n 1, 1), (1179, .aload_n 0, 1), (1180, .iload 4, 2), (1182, .iconst 1, 1), (1183, .iadd, 1), (1184, .iaload, 1), (1185, .invokevirtual 153, 3), (1188, .aload_n 2, 1), (1189, .aload_n 0, 1), (1190, .iload 4, 2), (1192, .iconst 1, 1), (1193, .iadd, 1), (1194, .iaload, 1), (1195, .invokevirtual 156, 3), (1198, .if_icmp .eq 355, 3), (1201, .iconst 0, 1), (1202, .ireturn, 1), (1203, .aload_n 1, 1), (1204, .invokevirtual 157, 3), (1207, .aload_n 2, 1), (1208, .invokevirtual 160, 3), (1211, .if_icmp .eq 342, 3), (1214, .iconst 0, 1), (1215, .ireturn, 1), (1216, .aload_n 1, 1), (1217, .aload_n 0, 1), (1218, .iload 4, 2), (1220, .iconst 1, 1), (1221, .iadd, 1), (1222, .iaload, 1), (1223, .invokevirtual 161, 3), (1226, .aload_n 2, 1), (1227, .aload_n 0, 1), (1228, .iload 4, 2), (1230, .iconst 1, 1), (1231, .iadd, 1), (1232, .iaload, 1), (1233, .invokevirtual 164, 3), (1236, .if_icmp .eq 317, 3), (1239, .iconst 0, 1)]
theorem ed_176_8 : ∀ t ∈ ec_176_8, decode cL_law t.1 = .ok (t.2.1, t.2.2) := by decide +kernel
def ec_176_9 : List eI := [(1240, .ireturn, 1), (1241, .aload_n 1, 1), (1242, .aload_n 0, 1), (1243, .iload 4, 2), (1245, .iconst 1, 1), (1246, .iadd, 1), (1247, .iaload, 1), (1248, .invokevirtual 165, 3), (1251, .aload_n 2, 1), (1252, .aload_n 0, 1), (1253, .iload 4, 2), (1255, .iconst 1, 1), (1256, .iadd, 1), (1257, .iaload, 1), (1258, .invokevirtual 168, 3), (1261, .if_icmp .eq 292, 3), (1264, .iconst 0, 1), (1265, .ireturn, 1), (1266, .aload_n 1, 1), (1267, .aload_n 0, 1), (1268, .iload 4, 2), (1270, .iconst 1, 1), (1271, .iadd, 1), (1272, .iaload, 1), (1273, .invokevirtual 169, 3), (1276, .aload_n 2, 1), (1277, .aload_n 0, 1), (1278, .iload 4, 2), (1280, .iconst 1, 1), (1281, .iadd, 1), (1282, .iaload, 1), (1283, .invokevirtual 172, 3), (1286, .if_icmp .eq 267, 3), (1289, .iconst 0, 1), (1290, .ireturn, 1), (1291, .aload_n 1, 1), (1292, .invokevirtual 173, 3), (1295, .aload_n 2, 1), (1296, .invokevirtual 176, 3), (1299, .if_icmp .eq 254, 3), (1302, .iconst 0, 1), (1303, .ireturn, 1), (1304, .aload_n 1, 1), (1305, .aload_n 0, 1), (1306, .iload 4, 2), (1308, .iconst 1, 1), (1309, .iadd, 1), (1310, .iaload, 1), (1311, .aload_n 0, 1), (1312, .iload 4, 2), (1314, .iconst 2, 1), (1315, .iadd, 1), (1316, .iaload, 1), (1317, .invokevirtual 177, 3), (1320, .aload_n 2, 1), (1321, .aload_n 0, 1), (1322, .iload 4, 2), (1324, .iconst 1, 1), (1325, .iadd, 1), (1326, .iaload, 1), (1327, .aload_n 0, 1), (1328, .iload 4, 2), (1330, .iconst 2, 1), (1331, .iadd, 1), (1332, .iaload, 1), (1333, .invokevirtual 180, 3), (1336, .if_icmp .eq 217, 3), (1339, .iconst 0, 1), (1340, .ireturn, 1), (1341, .aload_n 1, 1), (1342, .aload_n 0, 1), (1343, .iload 4, 2), (1345, .iconst 1, 1), (1346, .iadd, 1), (1347, .iaload, 1), (1348, .aload_n 0, 1), (1349, .iload 4, 2), (1351, .iconst 2, 1), (1352, .iadd, 1), (1353, .iaload, 1)]
theorem ed_176_9 : ∀ t ∈ ec_176_9, decode cL_law t.1 = .ok (t.2.1, t.2.2) := by decide +kernel
def ec_176_10 : List eI := [(1354, .aload_n 0, 1), (1355, .iload 4, 2), (1357, .iconst 3, 1), (1358, .iadd, 1), (1359, .iaload, 1), (1360, .invokevirtual 181, 3), (1363, .aload_n 2, 1), (1364, .aload_n 0, 1), (1365, .iload 4, 2), (1367, .iconst 1, 1), (1368, .iadd, 1), (1369, .iaload, 1), (1370, .aload_n 0, 1), (1371, .iload 4, 2), (1373, .iconst 2, 1), (1374, .iadd, 1), (1375, .iaload, 1), (1376, .aload_n 0, 1), (1377, .iload 4, 2), (1379, .iconst 3, 1), (1380, .iadd, 1), (1381, .iaload, 1), (1382, .invokevirtual 184, 3), (1385, .if_icmp .eq 168, 3), (1388, .iconst 0, 1), (1389, .ireturn, 1), (1390, .aload_n 1, 1), (1391, .aload_n 0, 1), (1392, .iload 4, 2), (1394, .iconst 1, 1), (1395, .iadd, 1), (1396, .iaload, 1), (1397, .invokevirtual 185, 3), (1400, .aload_n 2, 1), (1401, .aload_n 0, 1), (1402, .iload 4, 2), (1404, .iconst 1, 1), (1405, .iadd, 1), (1406, .iaload, 1), (1407, .invokevirtual 188, 3), (1410, .if_icmp .eq 143, 3), (1413, .iconst 0, 1), (1414, .ireturn, 1), (1415, .aload_n 1, 1), (1416, .aload_n 0, 1), (1417, .iload 4, 2), (1419, .iconst 1, 1), (1420, .iadd, 1), (1421, .iaload, 1), (1422, .invokevirtual 189, 3), (1425, .aload_n 2, 1), (1426, .aload_n 0, 1), (1427, .iload 4, 2), (1429, .iconst 1, 1), (1430, .iadd, 1), (1431, .iaload, 1), (1432, .invokevirtual 192, 3), (1435, .if_icmp .eq 118, 3), (1438, .iconst 0, 1), (1439, .ireturn, 1), (1440, .aload_n 1, 1), (1441, .invokevirtual 193, 3), (1444, .aload_n 2, 1), (1445, .invokevirtual 196, 3), (1448, .if_icmp .eq 105, 3), (1451, .iconst 0, 1), (1452, .ireturn, 1), (1453, .aload_n 1, 1), (1454, .aload_n 0, 1), (1455, .iload 4, 2), (1457, .iconst 1, 1), (1458, .iadd, 1), (1459, .iaload, 1), (1460, .invokevirtual 197, 3), (1463, .aload_n 2, 1), (1464, .aload_n 0, 1), (1465, .iload 4, 2), (1467, .iconst 1, 1), (1468, .iadd, 1), (1469, .iaload, 1)]
theorem ed_176_10 : ∀ t ∈ ec_176_10, decode cL_law t.1 = .ok (t.2.1, t.2.2) := by decide +kernel
def ec_176_11 : List eI := [(1470, .invokevirtual 200, 3), (1473, .if_icmp .eq 80, 3), (1476, .iconst 0, 1), (1477, .ireturn, 1), (1478, .aload_n 1, 1), (1479, .aload_n 0, 1), (1480, .iload 4, 2), (1482, .iconst 1, 1), (1483, .iadd, 1), (1484, .iaload, 1), (1485, .invokevirtual 201, 3), (1488, .aload_n 2, 1), (1489, .aload_n 0, 1), (1490, .iload 4, 2), (1492, .iconst 1, 1), (1493, .iadd, 1), (1494, .iaload, 1), (1495, .invokevirtual 204, 3), (1498, .if_icmp .eq 55, 3), (1501, .iconst 0, 1), (1502, .ireturn, 1), (1503, .aload_n 1, 1), (1504, .aload_n 0, 1), (1505, .iload 4, 2), (1507, .iconst 1, 1), (1508, .iadd, 1), (1509, .iaload, 1), (1510, .invokevirtual 205, 3), (1513, .aload_n 2, 1), (1514, .aload_n 0, 1), (1515, .iload 4, 2), (1517, .iconst 1, 1), (1518, .iadd, 1), (1519, .iaload, 1), (1520, .invokevirtual 208, 3), (1523, .if_icmp .eq 30, 3), (1526, .iconst 0, 1), (1527, .ireturn, 1), (1528, .aload_n 1, 1), (1529, .aload_n 0, 1), (1530, .iload 4, 2), (1532, .iconst 1, 1), (1533, .iadd, 1), (1534, .iaload, 1), (1535, .invokevirtual 209, 3), (1538, .aload_n 2, 1), (1539, .aload_n 0, 1), (1540, .iload 4, 2), (1542, .iconst 1, 1), (1543, .iadd, 1), (1544, .iaload, 1), (1545, .invokevirtual 212, 3), (1548, .if_icmp .eq 5, 3), (1551, .iconst 0, 1), (1552, .ireturn, 1), (1553, .iinc 4 6, 3), (1556, .goto (-1533), 3), (1559, .iconst 1, 1), (1560, .ireturn, 1)]
theorem ed_176_11 : ∀ t ∈ ec_176_11, decode cL_law t.1 = .ok (t.2.1, t.2.2) := by decide +kernel
set_option maxRecDepth 100000 in
theorem ed_176 : ∀ t ∈ ec_176, decode cL_law t.1 = .ok (t.2.1, t.2.2) := (show ∀ t ∈ ec_176_0 ++ (ec_176_1 ++ (ec_176_2 ++ (ec_176_3 ++ (ec_176_4 ++ (ec_176_5 ++ (ec_176_6 ++ (ec_176_7 ++ (ec_176_8 ++ (ec_176_9 ++ (ec_176_10 ++ (ec_176_11))))))))))), decode cL_law t.1 = .ok (t.2.1, t.2.2) from List.forall_mem_append.mpr ⟨ed_176_0, List.forall_mem_append.mpr ⟨ed_176_1, List.forall_mem_append.mpr ⟨ed_176_2, List.forall_mem_append.mpr ⟨ed_176_3, List.forall_mem_append.mpr ⟨ed_176_4, List.forall_mem_append.mpr ⟨ed_176_5, List.forall_mem_append.mpr ⟨ed_176_6, List.forall_mem_append.mpr ⟨ed_176_7, List.forall_mem_append.mpr ⟨ed_176_8, List.forall_mem_append.mpr ⟨ed_176_9, List.forall_mem_append.mpr ⟨ed_176_10, ed_176_11⟩⟩⟩⟩⟩⟩⟩⟩⟩⟩⟩)
theorem ee_176 : ec_176.all (fun t => est t.1 t.2.1 7 && elen t.2.1 t.2.2) = true := by decide +kernel
theorem ed_177 : ∀ t ∈ ec_177, decode cJ6_bitCount_0f7a4 t.1 = .ok (t.2.1, t.2.2) := by decide +kernel
theorem ee_177 : ec_177.all (fun t => est t.1 t.2.1 1 && elen t.2.1 t.2.2) = true := by decide +kernel
theorem ed_178 : ∀ t ∈ ec_178, decode cJ9_floorMod_7cf53 t.1 = .ok (t.2.1, t.2.2) := by decide +kernel
theorem ee_178 : ec_178.all (fun t => est t.1 t.2.1 3 && elen t.2.1 t.2.2) = true := by decide +kernel
theorem ed_179 : ∀ t ∈ ec_179, decode cJ9_min_7cf53 t.1 = .ok (t.2.1, t.2.2) := by decide +kernel
theorem ee_179 : ec_179.all (fun t => est t.1 t.2.1 2 && elen t.2.1 t.2.2) = true := by decide +kernel
theorem ed_180 : ∀ t ∈ ec_180, decode cJ7_fill_53178 t.1 = .ok (t.2.1, t.2.2) := by decide +kernel
theorem ee_180 : ec_180.all (fun t => est t.1 t.2.1 4 && elen t.2.1 t.2.2) = true := by decide +kernel
end
section
section XCO
/-! 'throw new E("text")' where the constructor of E itself links its superclass's by another place of its pool than the library's bundle has it (after the library's Bundle.chainS, ctorThrowS, with what a catcher needs of the cell) -/
def x_chA (X : String) (ix : Nat) (rx : ByteArray) (Y : String) (r : List String) : List Cond := Bundle.passSAtoms X Y ix rx ++ Bundle.chainSAtoms Y r
def x_own (own : String) (ic : Nat) (X : String) (ix : Nat) (rx : ByteArray) (Y : String) (r : List String) : List Cond :=
  Bundle.throwableAtoms ++ Bundle.throwableSAtoms ++ x_chA X ix rx Y r ++
  [.methodLink own ic (Bundle.initS X), .instantiable X 6, .castable X X, .selects X Bundle.tFill0 Bundle.tFill0, .selects X Bundle.tFill Bundle.tFill,
   .lays X Bundle.tN "cause" "Ljava/lang/Throwable;", .lays X Bundle.tN "stackTrace" Bundle.steD, .lays X Bundle.tN "suppressedExceptions" Bundle.listD, .lays X Bundle.tN "detailMessage" "Ljava/lang/String;",
   .isRef (.static Bundle.tN "UNASSIGNED_STACK" Bundle.steD), .isRef (.static Bundle.tN "SUPPRESSED_SENTINEL" Bundle.listD),
   .fieldLink Bundle.tN 198 Bundle.tN "backtrace" "Ljava/lang/Object;", .lays Bundle.tN Bundle.tN "backtrace" "Ljava/lang/Object;", .lays X Bundle.tN "backtrace" "Ljava/lang/Object;"]
theorem x_chain {args : Array Value} {s : State} {pl : Platform} (hpl : pl.magicAccessors = ({} : Platform).magicAccessors) {top : MethodId} (htop : s.methodNamed? (Bundle.initS Bundle.tN) = some top)
    {ix : Nat} {rx : ByteArray} (x0 : decode rx 0 = .ok (.aload_n 0, 1)) (x1 : decode rx 1 = .ok (.aload_n 1, 1)) (x2 : decode rx 2 = .ok (.invokespecial ix, 3)) (x5 : decode rx 5 = .ok (.return_, 1))
    {X Y : String} {r : List String} (hX : Bundle.fit X = true) (hY : Bundle.fit Y = true) (hr : ∀ n ∈ r, Bundle.fit n = true) (h : ∀ c ∈ x_chA X ix rx Y r, c.before args s = true) :
      ∃ (P1 : PassC) (Ps : List PassC), Ps.length = r.length + 1 ∧ P1.LinksS pl s ∧ (∀ P, P ∈ Ps → P.LinksS pl s) ∧ s.methodNamed? (Bundle.initS X) = some P1.m ∧
        P1.sup = firstOf top (Ps.map (·.toPassT)) ∧ PassesOn top (Ps.map (·.toPassT)) := by
  obtain ⟨P, L, hm, hs⟩ := PassC.ofS_atoms (args := args) (s := s) hpl (X := X) (Y := Y) (Bundle.fit_spec hX).1 (Bundle.fit_spec hY).2 x0 x1 x2 x5
    (fun c hc => h c (by simp only [x_chA, List.mem_append]; exact Or.inl hc))
  obtain ⟨P', Ps, hlen, L', hL, hm', hsup, hpass⟩ := Bundle.chainS (args := args) hpl htop r Y hY hr (fun c hc => h c (by simp only [x_chA, List.mem_append]; exact Or.inr hc))
  refine ⟨P, P' :: Ps, by simp [hlen], L, ?_, hm, Option.some.inj (hs.symm.trans hm'), hsup, hpass⟩
  intro Q hQ
  rcases List.mem_cons.mp hQ with rfl | hQ
  · exact L'
  · exact hL Q hQ
set_option maxHeartbeats 1000000 in
theorem x_ctor {p : Program} {l : Launch} {e : Env} {R : Room} {s : State} {m₀ : MethodId} {args : Array Value} {below : List Frame} {meth : Method} {c : Code} {W : State} {locs : List Loc} {cells slots : Nat} (X : Stand p l e R s m₀ args below meth c W locs cells slots) (hexec : p.tables.exec = Jvm.exec) (htr : e.platform.stackTraces = false) {own cls : String} {n1 : String} {n2 : List String} {ic ix : Nat} {rx : ByteArray} (x0 : decode rx 0 = .ok (.aload_n 0, 1)) (x1 : decode rx 1 = .ok (.aload_n 1, 1)) (x2 : decode rx 2 = .ok (.invokespecial ix, 3)) (x5 : decode rx 5 = .ok (.return_, 1))
    (hown : s.vm.findClass own = some m₀.cls) (hcls : Bundle.fit cls = true) (hn1 : Bundle.fit n1 = true) (hn2 : ∀ n ∈ n2, Bundle.fit n = true)
    (h : ∀ a ∈ x_own own ic cls ix rx n1 n2, a.before args s = true)
    (hlocs : ∀ x ∈ locs, ∀ cell, s.heap[x.base]? = some cell → cell.vm.isStatics = false)
    {a : Addr} {cX : ClassId} {kX : Class} (hfoundX : s.vm.findClass cls = some cX) (hkX : s.vm.classes[cX]? = some kX) (hcell : W.heap[a]? = some (freshCell cX kX)) (hnew : s.heap.size ≤ a)
    {msg : Value} (hmsg : msg.isRef = true)
    {g : JFrame} (hg : g.method = m₀) (hsize : g.locals.size = c.maxLocals) (hlocked : g.locked = none) (hentered : g.entered = []) {rest : List Value} (hstack : g.stack = msg :: .ref a :: .ref a :: rest)
    (hd6 : decode c.code g.pc = .ok (.invokespecial ic, 3)) (hd9 : decode c.code (g.pc + 3) = .ok (.athrow, 1)) (hout : ∀ x ∈ c.exceptionTable.toList, covers x (g.pc + 3) = false)
    (hRframes : n2.length + 4 < R.frames) (hRlocals : 2 * g.monitorRoom + ((Value.ref a :: rest).map fun v => v.category).sum + (13 * (n2.length + 2) + 42) ≤ R.locals) (hlocks : meth.locks = false) :
    ∃ U : State, Steps p.tables e below (W.setTop g) U ∧ U.status = .running ∧ Ended U below (.threw a) ∧ s.WarmedH U.vm ∧ s.sameButNew ({ U with vm := s.vm } : State) locs cells slots ∧
      ∃ ce : Cell, U.heap[a]? = some ce ∧ ce.vm = .none ∧ s.vm.findClass cls = some ce.cls := by
  have howns : e.platform.frameOwnsMonitors = true := by rw [X.admits.platform]
  have hfin : e.platform.finalization = false := by rw [X.admits.platform]
  have hpl : e.platform.magicAccessors = ({} : Platform).magicAccessors := by rw [X.admits.platform]
  have a' : ∀ x, x ∈ x_own own ic cls ix rx n1 n2 → x.holds args s none s [] = true := fun x hx => h x hx
  obtain ⟨T, Z0, L, -, Y⟩ := ThrowableC.of_atoms (args := args) howns hfin hpl (fun x hx => h x (by simp [x_own, hx]))
  obtain ⟨Z, M, LZ, LM, hnZ⟩ := Init0T.ofS_atoms (args := args) hpl L Y (fun x hx => h x (by simp [x_own, hx]))
  obtain ⟨P1, Ps, hlen, L1, hL, hP1m, hlink1, hlink⟩ := x_chain (args := args) hpl hnZ x0 x1 x2 x5 hcls hn1 hn2 (fun x hx => h x (by simp [x_own, hx]))
              
  have hfound : s.vm.findClass cls = some P1.m.cls := findClass_of_methodNamed hP1m
  cases Option.some.inj (hfoundX.symm.trans hfound)
  obtain ⟨c1, kX', hc1, hk, hord, -, -, hn6⟩ := Cond.instantiable_spec (a' (.instantiable cls 6) (by simp [x_own]))
  cases Option.some.inj (hc1.symm.trans hfound)
  cases Option.some.inj (hkX.symm.trans hk)
  have hsel0 : selectMethod e.platform s.vm P1.m.cls T.fill0 = .method T.fill0 := by
    obtain ⟨c2, r2, m2, q1, q2, q3, q4, -⟩ := Cond.selects_spec (a' (.selects cls Bundle.tFill0 Bundle.tFill0) (by simp [x_own]))
    cases Option.some.inj (q1.symm.trans hfound)
    cases Option.some.inj (q2.symm.trans (State.methodFound?_of_named Y.fill0 (by decide)))
    cases Option.some.inj (q3.symm.trans Y.fill0)
    rw [Launch.admits_selectMethod X.admits]; exact q4
  have hselF : selectMethod e.platform s.vm P1.m.cls T.fill = .method T.fill := by
    obtain ⟨c2, r2, m2, q1, q2, q3, q4, -⟩ := Cond.selects_spec (a' (.selects cls Bundle.tFill Bundle.tFill) (by simp [x_own]))
    cases Option.some.inj (q1.symm.trans hfound)
    cases Option.some.inj (q2.symm.trans (State.methodFound?_of_named Y.fill (by decide)))
    cases Option.some.inj (q3.symm.trans Y.fill)
    rw [Launch.admits_selectMethod X.admits]; exact q4
  obtain ⟨cellS0, hcS0, hiss⟩ := Y.statics
  obtain ⟨u0, hu0⟩ := Cond.staticRefV Y.unassigned L.unassignedStatic L.statics hcS0 hiss (a' (.isRef (.static Bundle.tN "UNASSIGNED_STACK" Bundle.steD)) (by simp [x_own]))
  obtain ⟨sen, hsen⟩ := Cond.staticRefV Y.sentinel L.sentinelStatic L.statics hcS0 hiss (a' (.isRef (.static Bundle.tN "SUPPRESSED_SENTINEL" Bundle.listD)) (by simp [x_own]))
  obtain ⟨ci198, i198, fB, hk198, hg198, ha198, hsB, -, hnB, htB, hffB⟩ := Cond.ownField (t := .object "java/lang/Object") Y.found L.cls (by decide +kernel) (a' (.fieldLink Bundle.tN 198 Bundle.tN "backtrace" "Ljava/lang/Object;") (by simp [x_own])) (a' (.lays Bundle.tN Bundle.tN "backtrace" "Ljava/lang/Object;") (by simp [x_own])) e.platform hpl
  obtain ⟨cellS, hcS', heS, -, hkeep⟩ := X.same.2.2.2.2.2 T.aS cellS0 hcS0
  have hcellS : W.heap[T.aS]? = some cellS := hcS'
  have hout' : ∀ i, (⟨T.aS, i⟩ : Loc) ∉ locs := fun i hmem => by
    have := hlocs _ hmem cellS0 hcS0
    rw [hiss] at this; cases this
  have hknownS : cellS.vm ≠ .unknown := by
    rw [heS]; intro hu
    rw [show cellS0.vm = .unknown from hu] at hiss
    cases hiss
  have hneS : T.aS ≠ a := Nat.ne_of_lt (Nat.lt_of_lt_of_le (Array.getElem?_eq_some_iff.mp hcS0).1 hnew)
  obtain ⟨iM, hffM⟩ := Y.msg
  obtain ⟨tyC, dC, hdC, hdnC⟩ := Cond.laysAt hfound hk Y.cause (a' (.lays cls Bundle.tN "cause" "Ljava/lang/Throwable;") (by simp [x_own]))
  obtain ⟨tyS, dS, hdS, hdnS⟩ := Cond.laysAt hfound hk Y.stack (a' (.lays cls Bundle.tN "stackTrace" Bundle.steD) (by simp [x_own]))
  obtain ⟨tyP, dP, hdP, hdnP⟩ := Cond.laysAt hfound hk Y.supp (a' (.lays cls Bundle.tN "suppressedExceptions" Bundle.listD) (by simp [x_own]))
  obtain ⟨tyM, dM, hdM, hdnM⟩ := Cond.laysAt hfound hk hffM (a' (.lays cls Bundle.tN "detailMessage" "Ljava/lang/String;") (by simp [x_own]))
  obtain ⟨tyB, dB, hdB, hdnB⟩ := Cond.laysAt hfound hk hffB (a' (.lays cls Bundle.tN "backtrace" "Ljava/lang/Object;") (by simp [x_own]))
  have bC := Cond.laysApart hdB hdC hdnB hdnC (by rw [hnB, Y.causeName]; decide)
  have bS := Cond.laysApart hdB hdS hdnB hdnS (by rw [hnB, Y.stackName]; decide)
  have bP := Cond.laysApart hdB hdP hdnB hdnP (by rw [hnB, Y.suppName]; decide)
  have hskip : SkipFacts T e.platform s (fun u => u) u0 ((preparedCellV T.toThrowableT (freshCell P1.m.cls kX) a u0 sen).withEntry W.cur) :=
    ⟨{ ci198 := ci198, i198 := i198, fBack := fB }, ⟨hk198, hg198, ha198, hsB⟩, by
      have := fresh_default (c := P1.m.cls) tyB
      rw [htB] at this
      simpa [preparedCellV, Cell.setSlot, Cell.withEntry, Array.getElem?_setIfInBounds, bC, bS, bP, bC.symm, bS.symm, bP.symm, defaultValue] using this, fun _ _ => rfl⟩
                                     
  obtain ⟨tm, methC, cdC, kC, vm₁, hnC, -, -, -, -, -, -, -, hW₁, st1⟩ := Steps.initColdS (tb := p.tables) (e := e) (below := below) (s := s) (U := W) X.here hexec X.warmed hpl hown (t := Bundle.initS cls) rfl rfl (Bundle.fit_spec hcls).2
    (a' (.methodLink own ic (Bundle.initS cls)) (by simp [x_own])) (h (.instanceMethod (Bundle.initS cls)) (by simp [x_own, x_chA, Bundle.passSAtoms])) (bytes := rx) (maxL := 2) (h (.code (Bundle.initS cls) rx 2 none) (by simp [x_own, x_chA, Bundle.passSAtoms]))
    (f := g) hg (a := a) (msg := msg) (rest := .ref a :: rest) hstack hd6
  cases Option.some.inj (hnC.symm.trans hP1m)
  have X₁ := X.noted hW₁
                                 
  obtain ⟨vm₂, X₂, st2⟩ := X₁.ctorMessageOffV hexec (g := { g with stack := .ref a :: rest }) hg hsize T L Z LZ M LM (P1 :: Ps)
    (fun P hP => by rcases List.mem_cons.mp hP with rfl | hP; exact L1; exact hL P hP) ⟨hlink1, hlink⟩ (u0 := u0) (sen := sen) (self := a) hmsg (cell := freshCell P1.m.cls kX) (cellS := cellS)
    hcell (fun _ => by simp) (by simp) rfl rfl hsel0 hselF hcellS hneS hknownS (by rw [hkeep _ (hout' _)]; exact hu0) (by rw [hkeep _ (hout' _)]; exact hsen)
    (Takes.of_laid hk hord tyC (by rw [Y.causeType]; rfl)) (Takes.of_laid hk hord tyS (by rw [Y.stackType]; exact fits_refV_array _ u0)) (Takes.of_laid hk hord tyP (by rw [Y.suppType]; exact fits_refV_object _ sen))
    (Takes.of_laid hk hord tyM (by rw [Y.msgType]; exact fits_refV_object _ ⟨msg, hmsg⟩)) Y.objLocals hskip htr [] hd6
    (by simp only [List.length_cons, hlen]; omega) (by simp only [List.length_cons, hlen]; exact hRlocals)
                                    
  obtain ⟨hwalk, hrun, hended, hWU, hsame⟩ := X₂.athrowLeaves hexec (g := { g with stack := .ref a :: rest, pc := g.pc + 3 }) hg hlocked hentered hout (a := a) (rest := rest) rfl hd9
  obtain ⟨c3, c4, hc3, hc4, hasg⟩ := Cond.castable_spec (a' (.castable cls cls) (by simp [x_own]))
  cases Option.some.inj (hc3.symm.trans hfound)
  cases Option.some.inj (hc4.symm.trans hfound)
  have hlt : a < ((W.setVm vm₁).setVm vm₂).heap.size := (Array.getElem?_eq_some_iff.mp hcell).1
  have hU := heapAt_setCell_self (s := (W.setVm vm₁).setVm vm₂) (plainBareV T.toThrowableT (freshCell P1.m.cls kX) a u0 sen msg) hlt
  have hnM : T.fMsg.name = "detailMessage" := (State.fieldFound?_type hffM (t := .object "java/lang/String") (by decide +kernel)).1
  refine ⟨_, st1 _ (fun acts => ?_), hrun, hended, hWU, hsame.weaken (fun y hy hlt' => ?_) (Nat.le_refl _) (Nat.le_refl _), _, hU, ?_⟩
  · rw [doInvoke_state]
    exact st2 _ hwalk
  · rcases List.mem_append.mp hy with h1 | h1
    · exact h1
    · exfalso
      have hb : y.base = a := by
        simp only [List.mem_cons, List.not_mem_nil, or_false] at h1
        rcases h1 with rfl | rfl | rfl | rfl | rfl <;> rfl
      rw [hb] at hlt'
      exact Nat.not_lt.mpr hnew hlt'
  · exact ⟨rfl, hfound⟩
end XCO
section XCT
/-! a handler whose class may still be unresolved: what the search gives, and the tables that it leaves (after the library's Finds, Steps.caught) -/
def x_FT (e : Env) (s : State) (f : JFrame) (a : Addr) (h : Handler) (vm1 : Vm) : Prop :=
  ∀ (Q : Handler → Pre) (E : CtlPost) (d : Bool) (acts : List Action), wp (findHandler f a) Q E e d acts s ↔ Q h d acts (s.setVm vm1)
theorem x_finds {e : Env} {s : State} {f : JFrame} {a : Addr} {meth : Method} {code : Code} (hm : s.vm.method? f.method = some meth) (hc : meth.code = some code) (x : ExceptionTableEntry) (hsplit : code.exceptionTable.toList = [x]) (hx : covers x f.pc = true) (h0 : x.catchType ≠ 0) {c : ClassId} {cell : Cell}
    (hl : s.vm.ClassLinks e.platform f.method.cls x.catchType c) (hcell : s.heap[a]? = some cell) (hobj : ∀ k, cell.vm ≠ .statics k)
    (hk : ∃ k, s.vm.classes[cell.cls]? = some k) (hcl : ∃ k, s.vm.classes[c]? = some k) (hfit : s.vm.assignable cell.cls c = true) :
    x_FT e s f a (.found x.handlerPc) (s.vm.noted f.method.cls x.catchType (.cls c)) := by
  intro Q E d acts
  rw [W.findHandler_eq hm hc, hsplit]
  simp only [covers] at hx
  obtain ⟨ha, ht⟩ := (resolveClass_links e.toSetting hl).op (op := VmOp.resolveClass f.method.cls x.catchType) rfl
  have hal : s.vm.Alike (s.vm.noted f.method.cls x.catchType (.cls c)) := (Vm.Alike.refl s.vm).noted _ _ _
  obtain ⟨k1, hk1⟩ := hk
  obtain ⟨k2, hk2⟩ := hcl
  obtain ⟨k1', hk1', -⟩ := hal.2.2 _ _ hk1
  obtain ⟨k2', hk2', -⟩ := hal.2.2 _ _ hk2
  have hfit' : (s.vm.noted f.method.cls x.catchType (.cls c)).assignable cell.cls c = true := by rw [hal.assignable]; exact hfit
  simp [findHandler.go, hx, h0, ha, ht, hcell, hobj, hk1', hk2', hfit', VmOp.dirties, VmOp.acts]
theorem x_step {e : Env} {s : State} {a : Addr} {f : JFrame} {r : List Frame} {pc : Nat} {vm1 : Vm} (hfind : x_FT e s f a (.found pc) vm1) :
    (stepThrowing e s a (.java f :: r)).Is ((s.setVm vm1).setFrames (.java { f with pc := pc, stack := [.ref a] } :: r)) [] := by
  simp only [stepThrowing, searchFrame, vmDo]
  generalize hr : Sem.go _ e false [] s = res
  obtain ⟨as, rfl, ha⟩ := Sem.eq_ok_of hr (a := Handler.found pc) (s' := s.setVm vm1) (acts' := []) (by simp [hfind _ _ _ _])
  exact ⟨rfl, ha⟩
theorem x_setF (u : State) (vm1 : Vm) (F G : List Frame) : ((u.setFrames F).setVm vm1).setFrames G = (u.setVm vm1).setFrames G := by
  have h1 : (u.setFrames F).setVm vm1 = (u.setVm vm1).setFrames F := rfl
  rw [h1, State.setFrames_setFrames]
theorem x_caught {tb : Tables} {e : Env} {s target : State} {g : JFrame} {c : Code} {below : List Frame} {a : Addr} (h : At s g.method c below) {pc : Nat} {vm1 : Vm}
    (hfind : x_FT e ((s.setTop g).pushFrame (.throwing a)) g a (.found pc) vm1) (hrest : Steps tb e below ((s.setVm vm1).setTop { g with pc := pc, stack := [.ref a] }) target) :
    Steps tb e below ((s.setTop g).pushFrame (.throwing a)) target := by
  obtain ⟨hgo, hw⟩ := h.throwing a
  refine Steps.head hgo hw ?_
  rw [stepThread_throwing (frames_entered h.top _), (x_step (s := (s.setTop g).pushFrame (.throwing a)) hfind).1]
  obtain ⟨g₀, hg⟩ := Option.isSome_iff_exists.mp h.top
  obtain ⟨r, hr⟩ := State.topJava?_eq_some.mp hg
  have hr' : (s.setVm vm1).frames = .java g₀ :: r := hr
  rw [State.setTop_of_frames _ hr'] at hrest
  rw [hr, List.tail_cons, State.pushFrame, x_setF, State.setTop_of_frames _ hr, x_setF]
  exact hrest
end XCT
/-! ===== BEGIN exceptions that leave a method, and their catching by the caller (launches without stack traces) ===== -/
section VXA
/-! The laws vx_back, vx_callV, vx_callS, vx_callSW, vx_throw0, vx_throwS follow proofs of the library, with one case more: JvmDerived/Free/Laws.lean (Back.of_free), Shelf42/LK1.lean (callV, callS), Shelf/KitTraced.lean (throwNew0V, throwNewS). -/
/-- where a method has thrown q: the class by its name, the cell, what was written, the world -/
def vx_T (XC : String → State → State → Prop) (st : State) (q : Addr) (t : State) (mc ms : Nat) (free : Addr → Prop) : Prop :=
  ∃ (E : String) (ce : Cell) (L : List Loc), XC E st t ∧ t.heap[q]? = some ce ∧ ce.vm = .none ∧ st.vm.findClass E = some ce.cls ∧ st.WarmedH t.vm ∧ st.sameButNew ({ t with vm := st.vm } : State) L mc ms ∧ ∀ z ∈ L, free z.base
def vx_Q (Qc : Array Value → State → Outcome → State → Prop) (XC : String → State → State → Prop) (mc ms : Nat) (free : Addr → Prop) : Array Value → State → Outcome → State → Prop := fun a st o t =>
  (Qc a st o t ∧ ∃ L, FrameEnd st o t L mc ms ∧ ∀ q ∈ L, free q.base) ∨ ∃ q, o = .threw q ∧ vx_T XC st q t mc ms free
/-- a callee that returns or throws -/
def vx_Met (l : Launch) (y : MethodName) (ws : List Cond) (rm : Room) (Pc : Array Value → State → Prop) (Qc : Array Value → State → Outcome → State → Prop) (XC : String → State → State → Prop) (mc ms : Nat) (free : Addr → Prop) : Prop :=
  MetFree l y (headSpec ws rm) Pc (fun _ _ _ _ _ => True) (vx_Q Qc XC mc ms free)
def vx_Post (XC : String → State → State → Prop) (mc ms : Nat) (free : Addr → Prop) : Pt → Array Value → Addr → Pt → Prop := fun A a q B =>
  ∃ (g : JFrame) (mk : MethodId) (t : State) (L : List Loc) (E : String) (ce : Cell), B.U.heap = t.heap ∧ B.U.vm = t.vm ∧ XC E (A.U.calling g mk a) t ∧ t.heap[q]? = some ce ∧ ce.vm = .none ∧ A.U.vm.findClass E = some ce.cls ∧ B.locs = A.locs ++ L ∧ (∀ z ∈ L, free z.base) ∧ B.cells = A.cells + mc ∧ B.slots = A.slots + ms
def vx_Back (l : Launch) (R : Room) (p : Program) (e : Env) (below : List Frame) (s : State) (sargs : Array Value) (y : MethodName) (len W9 : Nat)
    (Pre : Pt → Array Value → Prop) (Post : Pt → Array Value → Option Value → Pt → Prop) (PostX : Pt → Array Value → Addr → Pt → Prop) : Prop :=
  ∀ (m : MethodId) (meth : Method) (c : Code) (A : Pt) (g : JFrame) (ig : Instr) (mk : MethodId) (a : Array Value),
    Stand p l e R s m sargs below meth c A.U A.locs A.cells A.slots → g.method = m → g.locals.size = c.maxLocals → decode c.code g.pc = .ok (ig, len) →
    2 * g.monitorRoom + (g.stack.map fun v => v.category).sum ≤ W9 → A.U.methodNamed? y = some mk → Pre A a →
    (∃ (v : Option Value) (B : Pt), Stand p l e R s m sargs below meth c B.U B.locs B.cells B.slots ∧ Post A a v B ∧
      Steps p.tables e below (doInvoke e (A.U.setTop g) [] mk a).1 (B.U.setTop { g with pc := g.pc + len, stack := v.toList ++ g.stack })) ∨
    (∃ (q : Addr) (B : Pt), Stand p l e R s m sargs below meth c B.U B.locs B.cells B.slots ∧ PostX A a q B ∧
      Steps p.tables e below (doInvoke e (A.U.setTop g) [] mk a).1 ((B.U.setTop g).pushFrame (.throwing q)))
section Payer
variable {l : Launch} {R : Room} {p : Program} {e : Env} {below : List Frame} {s : State} {sargs : Array Value} {y : MethodName} {len W9 : Nat}
theorem vx_back {ws : List Cond} {rm : Room} {Pc : Array Value → State → Prop} {Qc : Array Value → State → Outcome → State → Prop} {XC : String → State → State → Prop} {mc ms : Nat} {free : Addr → Prop} {bytes : ByteArray} {maxL : Nat} {ret : Option FieldType}
    (hM : vx_Met l y ws rm Pc Qc XC mc ms free) (hblind : FrameBlind Pc) (hrc : rm.cells = mc) (hrs : rm.slots = ms)
    (hframes : rm.frames + 1 ≤ R.frames) (hlocals : W9 + (maxL + 11) + rm.locals ≤ R.locals)
    (hws : ∀ w ∈ ws, ∀ a' U, s.WarmedH U.vm → w.before a' U = true) (hcode : Cond.code y bytes maxL ret ∈ ws) (hinit : ∀ a' U, s.WarmedH U.vm → (Cond.initialized y.cls).before a' U = true) :
    vx_Back l R p e below s sargs y len W9 (PreOf R mc ms Pc) (PostOf Qc mc ms free) (vx_Post XC mc ms free) := by
  intro m meth c A g ig mk a X hg hsize hdg hW hn hp
  have h1 : (headSpec ws rm).pre.before a A.U = true := atoms_intro fun w hw => hws w hw _ _ X.warmed
  have h2 : (Cond.code y bytes maxL ret).before a A.U = true := hws _ hcode _ _ X.warmed
  have h3 : (Cond.initialized y.cls).before a A.U = true := hinit _ _ X.warmed
  have h4 : A.cells + (headSpec ws rm).room.cells ≤ R.cells := by rw [show (headSpec ws rm).room.cells = mc from hrc]; exact hp.1
  have h5 : A.slots + (headSpec ws rm).room.slots ≤ R.slots := by rw [show (headSpec ws rm).room.slots = ms from hrs]; exact hp.2.1
  have hPc : Pc a (A.U.calling g mk a) := hblind _ _ _ _ hp.2.2
  obtain ⟨U, Ls, c0, s0⟩ := A
  dsimp only [Pt.U, Pt.locs, Pt.cells, Pt.slots] at h1 h2 h3 h4 h5 X hn hPc ⊢
  obtain ⟨methY, cY, hmY, hcY, -, hlY, -, -, -, -⟩ := Cond.code_spec hn h2
  obtain ⟨kY, hkY, -⟩ := className_of_methodNamed hn
  have hinitY : kY.init = .initialized := Cond.initialized_spec (findClass_of_methodNamed hn) hkY h3
  have h : At U g.method c below := by rw [hg]; exact X.here
  have hlocals9 : W9 + (maxL + 11) + (headSpec ws rm).room.locals ≤ R.locals := hlocals
  have happ : (headSpec ws rm).appliesLoose y e.platform (U.calling g mk a) = true :=
    Spec.appliesLoose_calling (g := g) h hdg hn hkY hinitY
      (X.room_calling (g := g) (R' := (headSpec ws rm).room) hsize hmY hcY hframes (by rw [hlY]; omega) h4 h5) h1
  obtain ⟨mid, hmid⟩ := h.above
  have hfr : (U.setTop g).frames = (.java g :: mid) ++ below := by rw [State.frames_setTop' g h.top, hmid]; rfl
  obtain ⟨o, s₂, hsteps, -, hend, hq⟩ := Steps.callFree hM p X.admits X.cas X.clock (acts := []) hfr happ hPc trivial
  have hq' : vx_Q Qc XC mc ms free a (U.calling g mk a) o s₂ := hq
  rw [State.frames_setTop' g h.top] at hend
  obtain ⟨g₀, hg0⟩ := Option.isSome_iff_exists.mp h.top
  obtain ⟨r, hr⟩ := State.topJava?_eq_some.mp hg0
  have hr' : (({ U with heap := s₂.heap, slotsUsed := s₂.slotsUsed } : State).setVm s₂.vm).frames = .java g₀ :: r := hr
  rcases hq' with ⟨hqc, L, hfe, hL⟩ | ⟨q, rfl, E, ce, L, hx, hce, hcv, hcl, hW₂, hsm, hL⟩
  · obtain ⟨⟨v, rfl⟩, hW₂, e2, q2, q3, q4, q5, q6⟩ := id hfe
    have e3 : s₂ = ({ (U.calling g mk a).setFrames s₂.frames with heap := s₂.heap, slotsUsed := s₂.slotsUsed } : State).setVm s₂.vm := by
      have : s₂ = ({ s₂ with vm := (U.calling g mk a).vm } : State).setVm s₂.vm := rfl
      rw [e2] at this
      exact this
    obtain ⟨c₂, i₂, len₂, hc₂, hd₂, hf₂⟩ := hend
    have hW' : U.WarmedH s₂.vm := hW₂
    have hcc : c₂ = c := by
      have h1 : s₂.code? g.method = U.code? g.method := by
        rw [State.code?_eq, State.code?_eq, hW'.alike.method?]
      exact Option.some.inj (hc₂.symm.trans (h1.trans h.code))
    subst hcc
    have hlen : len₂ = len := by rw [hdg] at hd₂; cases hd₂; rfl
    subst hlen
    have hs₂ : s₂ = (({ U with heap := s₂.heap, slotsUsed := s₂.slotsUsed } : State).setVm s₂.vm).setTop { g with pc := g.pc + len₂, stack := v.toList ++ g.stack } := by
      refine e3.trans ?_
      rw [hf₂, State.calling_eq h.top, State.setFrames_setFrames, State.setTop_of_frames _ hr', hr]
      rfl
    have hsame : U.sameButNew ({ U with heap := s₂.heap, slotsUsed := s₂.slotsUsed } : State) L mc ms := by
      refine ⟨?_, q2, q3, q4, q5, q6⟩
      obtain ⟨t, ht, -⟩ := State.frames_cons hr
      show ({ U with heap := s₂.heap, slotsUsed := s₂.slotsUsed } : State) = { U.setFrames U.frames with heap := s₂.heap, slotsUsed := s₂.slotsUsed }
      rw [State.setFrames_self ht]
    subst hg
    refine Or.inl ⟨v, ⟨(({ U with heap := s₂.heap, slotsUsed := s₂.slotsUsed } : State).setVm s₂.vm), Ls ++ L, c0 + mc, s0 + ms⟩,
      ⟨X.admits, X.cas, X.clock, X.frames, X.room, X.hears, X.method, X.code, (X.here.setHeapUsed s₂.heap s₂.slotsUsed).setVm hW'.alike, X.tail, State.WarmedH.trans X.warmed hW', X.limits, X.bytes, X.same.trans (hsame.setVm s.vm)⟩,
      ⟨g, mk, s₂, L, rfl, rfl, hqc, rfl, hL, rfl, rfl⟩, ?_⟩
    show Steps p.tables e below _ ((({ U with heap := s₂.heap, slotsUsed := s₂.slotsUsed } : State).setVm s₂.vm).setTop { g with pc := g.pc + len₂, stack := v.toList ++ g.stack })
    rw [← hs₂]
    exact hsteps
  · obtain ⟨e2, q2, q3, q4, q5, q6⟩ := id hsm
    have e3 : s₂ = ({ (U.calling g mk a).setFrames s₂.frames with heap := s₂.heap, slotsUsed := s₂.slotsUsed } : State).setVm s₂.vm := by
      have : s₂ = ({ s₂ with vm := (U.calling g mk a).vm } : State).setVm s₂.vm := rfl
      rw [e2] at this
      exact this
    have hf₂ : s₂.frames = .throwing q :: .java g :: U.frames.tail := hend
    have hW' : U.WarmedH s₂.vm := hW₂
    have hs₂ : s₂ = ((({ U with heap := s₂.heap, slotsUsed := s₂.slotsUsed } : State).setVm s₂.vm).setTop g).pushFrame (.throwing q) := by
      refine e3.trans ?_
      rw [hf₂, State.calling_eq h.top, State.setFrames_setFrames, State.pushFrame, State.frames_setTop _ hr', State.setTop_of_frames _ hr', State.setFrames_setFrames, hr]
      rfl
    have hsame : U.sameButNew ({ U with heap := s₂.heap, slotsUsed := s₂.slotsUsed } : State) L mc ms := by
      refine ⟨?_, q2, q3, q4, q5, q6⟩
      obtain ⟨t, ht, -⟩ := State.frames_cons hr
      show ({ U with heap := s₂.heap, slotsUsed := s₂.slotsUsed } : State) = { U.setFrames U.frames with heap := s₂.heap, slotsUsed := s₂.slotsUsed }
      rw [State.setFrames_self ht]
    subst hg
    refine Or.inr ⟨q, ⟨(({ U with heap := s₂.heap, slotsUsed := s₂.slotsUsed } : State).setVm s₂.vm), Ls ++ L, c0 + mc, s0 + ms⟩,
      ⟨X.admits, X.cas, X.clock, X.frames, X.room, X.hears, X.method, X.code, (X.here.setHeapUsed s₂.heap s₂.slotsUsed).setVm hW'.alike, X.tail, State.WarmedH.trans X.warmed hW', X.limits, X.bytes, X.same.trans (hsame.setVm s.vm)⟩,
      ⟨g, mk, s₂, L, E, ce, rfl, rfl, hx, hce, hcv, hcl, rfl, hL, rfl, rfl⟩, ?_⟩
    show Steps p.tables e below _ (((({ U with heap := s₂.heap, slotsUsed := s₂.slotsUsed } : State).setVm s₂.vm).setTop g).pushFrame (.throwing q))
    rw [← hs₂]
    exact hsteps
end Payer
section Calls
variable {p : Program} {l : Launch} {e : Env} {R : Room} {s : State} {m : MethodId} {args : Array Value} {below : List Frame} {meth : Method} {c : Code} {T : State} {locs : List Loc} {cells slots : Nat}
theorem vx_callV (X : Stand p l e R s m args below meth c T locs cells slots) (hexec : p.tables.exec = Jvm.exec) {own C : String} {index : Nat} {y : MethodName} {bytes : ByteArray} {maxL : Nat} {ret : Option FieldType}
    (hown : s.vm.findClass own = some m.cls) (hlink : (Cond.methodLink own index y).before args s = true) (hinst : (Cond.instanceMethod y).before args s = true) (hsel : (Cond.selects C y y).before args s = true)
    (hcode : (Cond.code y bytes maxL ret).before args s = true) (hy : y.cls ≠ "java/lang/invoke/MethodHandle" ∧ y.cls ≠ "java/lang/invoke/VarHandle")
    {W9 : Nat} {Pre : Pt → Array Value → Prop} {Post : Pt → Array Value → Option Value → Pt → Prop} {PostX : Pt → Array Value → Addr → Pt → Prop} (hK : vx_Back l R p e below s args y 3 W9 Pre Post PostX)
    {b : Addr} {cellB : Cell} (hcell : T.heap[b]? = some cellB) (hobj : cellB.vm.isStatics = false) (hcls : s.vm.findClass C = some cellB.cls)
    {g : JFrame} (hg : g.method = m) (hsize : g.locals.size = c.maxLocals) {argsL rest : List Value} (hlen : ∀ sig, parseMethodDescriptor y.desc = some sig → argsL.length = sig.parameters.length)
    (hstack : g.stack = argsL.reverse ++ .ref b :: rest) (hW : 2 * g.monitorRoom + (rest.map fun v => v.category).sum ≤ W9) (hdg : decode c.code g.pc = .ok (.invokevirtual index, 3))
    (hpre : ∀ vm₁, s.WarmedH vm₁ → Pre ⟨T.setVm vm₁, locs, cells, slots⟩ (Value.ref b :: argsL).toArray) :
    (∃ (v : Option Value) (vm₁ : Vm) (B : Pt), s.WarmedH vm₁ ∧ Stand p l e R s m args below meth c B.U B.locs B.cells B.slots ∧ Post ⟨T.setVm vm₁, locs, cells, slots⟩ (Value.ref b :: argsL).toArray v B ∧
      ∀ target, Steps p.tables e below (B.U.setTop { g with pc := g.pc + 3, stack := v.toList ++ rest }) target → Steps p.tables e below (T.setTop g) target) ∨
    (∃ (q : Addr) (vm₁ : Vm) (B : Pt), s.WarmedH vm₁ ∧ Stand p l e R s m args below meth c B.U B.locs B.cells B.slots ∧ PostX ⟨T.setVm vm₁, locs, cells, slots⟩ (Value.ref b :: argsL).toArray q B ∧
      Steps p.tables e below (T.setTop g) ((B.U.setTop { g with stack := rest }).pushFrame (.throwing q))) := by
  obtain ⟨mk, methM, hnamed, hmethM, hstM, habM⟩ := Cond.instanceMethod_spec hinst
  obtain ⟨methM', cM, hmethM', -, -, -, -, -, -, hsigM⟩ := Cond.code_spec hnamed hcode
  cases hmethM.symm.trans hmethM'
  obtain ⟨c2, r2, m2, q1, q2, q3, q4, kP, hkP, hkPi⟩ := Cond.selects_spec hsel
  cases hcls.symm.trans q1
  cases (State.methodFound?_of_named hnamed hy).symm.trans q2
  cases hnamed.symm.trans q3
  have hselP : selectMethod e.platform s.vm cellB.cls mk = .method mk := by rw [Launch.admits_selectMethod X.admits]; exact q4
  obtain ⟨vm₁, X₁, hstep₁⟩ := X.invokevirtual hexec hown hlink hnamed hmethM hstM hkP hkPi hy (a := b) (cell := cellB) hcell
    (fun z h => by rw [h] at hobj; cases hobj) hselP hmethM habM hkP hkPi (g := g) hg (argsL := argsL) (rest := rest) (hlen _ hsigM) hstack hdg
  rcases hK m meth c ⟨T.setVm vm₁, locs, cells, slots⟩ { g with stack := rest } (.invokevirtual index) mk (Value.ref b :: argsL).toArray X₁ hg hsize hdg hW (X₁.named hnamed) (hpre vm₁ X₁.warmed) with ⟨v, B, X', hpost, hsteps⟩ | ⟨q, B, X', hpost, hsteps⟩
  · exact Or.inl ⟨v, vm₁, B, X₁.warmed, X', hpost, fun target h => hstep₁ _ fun acts => by rw [doInvoke_state]; exact hsteps.trans h⟩
  · exact Or.inr ⟨q, vm₁, B, X₁.warmed, X', hpost, hstep₁ _ fun acts => by rw [doInvoke_state]; exact hsteps⟩
theorem vx_callS (X : Stand p l e R s m args below meth c T locs cells slots) (hexec : p.tables.exec = Jvm.exec) {own : String} {index : Nat} {y : MethodName} {bytes : ByteArray} {maxL : Nat} {ret : Option FieldType}
    (hown : s.vm.findClass own = some m.cls) (hlink : (Cond.methodLink own index y).before args s = true) (hstat : (Cond.static y).before args s = true) (hinit : (Cond.initialized y.cls).before args s = true)
    (hcode : (Cond.code y bytes maxL ret).before args s = true) (hy : y.cls ≠ "java/lang/invoke/MethodHandle" ∧ y.cls ≠ "java/lang/invoke/VarHandle")
    {W9 : Nat} {Pre : Pt → Array Value → Prop} {Post : Pt → Array Value → Option Value → Pt → Prop} {PostX : Pt → Array Value → Addr → Pt → Prop} (hK : vx_Back l R p e below s args y 3 W9 Pre Post PostX)
    {g : JFrame} (hg : g.method = m) (hsize : g.locals.size = c.maxLocals) {argsL rest : List Value} (hlen : ∀ sig, parseMethodDescriptor y.desc = some sig → argsL.length = sig.parameters.length)
    (hstack : g.stack = argsL.reverse ++ rest) (hW : 2 * g.monitorRoom + (rest.map fun v => v.category).sum ≤ W9) (hdg : decode c.code g.pc = .ok (.invokestatic index, 3))
    (hpre : ∀ vm₁, s.WarmedH vm₁ → Pre ⟨T.setVm vm₁, locs, cells, slots⟩ argsL.toArray) :
    (∃ (v : Option Value) (vm₁ : Vm) (B : Pt), s.WarmedH vm₁ ∧ Stand p l e R s m args below meth c B.U B.locs B.cells B.slots ∧ Post ⟨T.setVm vm₁, locs, cells, slots⟩ argsL.toArray v B ∧
      ∀ target, Steps p.tables e below (B.U.setTop { g with pc := g.pc + 3, stack := v.toList ++ rest }) target → Steps p.tables e below (T.setTop g) target) ∨
    (∃ (q : Addr) (vm₁ : Vm) (B : Pt), s.WarmedH vm₁ ∧ Stand p l e R s m args below meth c B.U B.locs B.cells B.slots ∧ PostX ⟨T.setVm vm₁, locs, cells, slots⟩ argsL.toArray q B ∧
      Steps p.tables e below (T.setTop g) ((B.U.setTop { g with stack := rest }).pushFrame (.throwing q))) := by
  obtain ⟨mk, hnamed⟩ := Cond.code_named hcode
  obtain ⟨methM, cM, hmethM, -, -, -, -, -, -, hsigM⟩ := Cond.code_spec hnamed hcode
  have hstatic : methM.isStatic = true := Cond.static_spec hnamed hmethM hstat
  obtain ⟨kP, hkP, -⟩ := className_of_methodNamed hnamed
  have hinitP : kP.init = .initialized := Cond.initialized_spec (findClass_of_methodNamed hnamed) hkP hinit
  obtain ⟨vm₁, X₁, hstep₁⟩ := X.invokestatic hexec hown hlink hnamed hmethM hstatic hkP hinitP hy (g := g) hg (argsL := argsL) (rest := rest) (hlen _ hsigM) hstack hdg
  rcases hK m meth c ⟨T.setVm vm₁, locs, cells, slots⟩ { g with stack := rest } (.invokestatic index) mk argsL.toArray X₁ hg hsize hdg hW (X₁.named hnamed) (hpre vm₁ X₁.warmed) with ⟨v, B, X', hpost, hsteps⟩ | ⟨q, B, X', hpost, hsteps⟩
  · exact Or.inl ⟨v, vm₁, B, X₁.warmed, X', hpost, fun target h => hstep₁ _ fun acts => by rw [doInvoke_state]; exact hsteps.trans h⟩
  · exact Or.inr ⟨q, vm₁, B, X₁.warmed, X', hpost, hstep₁ _ fun acts => by rw [doInvoke_state]; exact hsteps⟩
end Calls
theorem vx_cls {s : State} {T : State} {vm₁ : Vm} {E : String} {k : ClassId} (hW : s.WarmedH vm₁) (h : (T.setVm vm₁).vm.findClass E = some k) : s.vm.findClass E = some k := by
  have h1 : vm₁.findClass E = some k := h
  rw [hW.alike.findClass] at h1
  exact h1
/-- the method's frame g, with q thrown over it -/
def vx_W (p : Program) (l : Launch) (e : Env) (R : Room) (s : State) (m : MethodId) (args : Array Value) (below : List Frame) (meth : Method) (c : Code) (H : Heap) (locs : List Loc) (cells slots : Nat) (Q : State → Prop) (g : JFrame) (q : Addr) : Prop :=
  ∀ T : State, T.heap = H → Stand p l e R s m args below meth c T locs cells slots → ∃ t, Steps p.tables e below ((T.setTop g).pushFrame (.throwing q)) t ∧ Q t
def vx_Run (p : Program) (l : Launch) (e : Env) (R : Room) (s : State) (m : MethodId) (args : Array Value) (below : List Frame) (meth : Method) (c : Code) (H : Heap) (locs : List Loc) (cells slots mc ms : Nat) (g : JFrame) (rest : List Value) (Qa : State → Outcome → State → Prop) (XC : String → State → State → Prop) (free : Addr → Prop) : Prop :=
  ∀ T : State, T.heap = H → Stand p l e R s m args below meth c T locs cells slots →
    (∃ (v : Option Value) (st₀ t T' : State) (L : List Loc), st₀.heap = H ∧ Stand p l e R s m args below meth c T' (locs ++ L) (cells + mc) (slots + ms) ∧ (∀ q ∈ L, free q.base) ∧ T'.heap = t.heap ∧ T'.vm = t.vm ∧ Qa st₀ (.returned v) t ∧
      Goes p e below T g T' { g with pc := g.pc + 3, stack := v.toList ++ rest }) ∨
    (∃ (q : Addr) (st₀ t T' : State) (L : List Loc) (E : String) (ce : Cell), st₀.heap = H ∧ Stand p l e R s m args below meth c T' (locs ++ L) (cells + mc) (slots + ms) ∧ (∀ z ∈ L, free z.base) ∧ T'.heap = t.heap ∧ T'.vm = t.vm ∧ XC E st₀ t ∧ t.heap[q]? = some ce ∧ ce.vm = .none ∧ s.vm.findClass E = some ce.cls ∧
      Steps p.tables e below (T.setTop g) ((T'.setTop { g with stack := rest }).pushFrame (.throwing q)))
def vx_X {S : Type} (px : S → Prop) (B : String → S → State → Prop) (A : Nat → Prop) : String → State → State → Prop := fun E st t => ∃ u : S, px u ∧ B E u t ∧ va_F A st t
section Runs
variable {p : Program} {l : Launch} {e : Env} {R : Room} {s : State} {m : MethodId} {args : Array Value} {below : List Frame} {meth : Method} {c : Code} {H : Heap} {locs : List Loc} {cells slots : Nat}
variable {y : MethodName} {bytes cc : ByteArray} {maxL nL mc ms n index : Nat} {ret : Option FieldType} {ws : List Cond} {rm : Room} {Pc : Array Value → State → Prop} {Qc : Array Value → State → Outcome → State → Prop} {XC : String → State → State → Prop} {free : Addr → Prop} {Ts : List Cond} {own C : String} {b : Addr} {As rest : List Value} {g : JFrame}
theorem vx_callBack (cb : CallB R s args own index y bytes maxL ret ws rm mc ms n) (hM : vx_Met l y ws rm Pc Qc XC mc ms free) (hbl : FrameBlind Pc) : vx_Back l R p e below s args y 3 8 (PreOf R mc ms Pc) (PostOf Qc mc ms free) (vx_Post XC mc ms free) := by
  obtain ⟨hrc, hrs, hfr, hlo, hws, hcw, -, hini, -⟩ := cb
  exact vx_back (bytes := bytes) (maxL := maxL) (ret := ret) hM hbl hrc hrs hfr hlo hws hcw (fun a' U hW => word_at hW (Or.inl (by first | rfl | simp [Cond.onTables, Cond.keeps, Cond.steady])) hini)
theorem vx_runV (S : CallFix p m c cc nL s args Ts own) (hM : vx_Met l y ws rm Pc Qc XC mc ms free) (cw : CallW R s args own C index y bytes maxL ret ws rm mc ms n) (hp : PreV s H C b Pc As)
    (hg : g.method = m) (hn : As.length = n) (hsize : g.locals.size = nL) (hstack : g.stack = As.reverse ++ .ref b :: rest) (hW : 2 * g.monitorRoom + (rest.map fun v => v.category).sum ≤ 8) (hdg : decode cc g.pc = .ok (.invokevirtual index, 3)) (hf : cells + mc ≤ R.cells ∧ slots + ms ≤ R.slots) :
    vx_Run p l e R s m args below meth c H locs cells slots mc ms g rest (Qc (Value.ref b :: As).toArray) XC free := by
  have hK : vx_Back l R p e below s args y 3 8 (PreOf R mc ms Pc) (PostOf Qc mc ms free) (vx_Post XC mc ms free) := vx_callBack cw.1 hM hp.1
  obtain ⟨⟨-, -, -, -, -, -, hcode, -, hy, hlen, hl⟩, hin, hse⟩ := cw
  obtain ⟨hx, hb, hml, ho, -⟩ := S
  obtain ⟨-, ⟨cellB, hcB, hoB, hclB⟩, hPc⟩ := hp
  intro T hT X
  rcases vx_callV X hx (C := C) (bytes := bytes) (maxL := maxL) (ret := ret) ho hl hin hse hcode hy hK (by rw [hT]; exact hcB) hoB hclB hg (hsize.trans hml.symm) (argsL := As) (rest := rest) (fun sig h => hn.trans (hlen sig h)) hstack hW (by rw [hb]; exact hdg)
    (fun vm₁ hW₁ => ⟨hf.1, hf.2, hPc (T.setVm vm₁) hT hW₁⟩) with ⟨v, vm₁, ⟨U', l2, c2, s2⟩, hW₁, X', ⟨g', mk, t, L, e1, e2, hq, h1, hL, h2, h3⟩, st⟩ | ⟨q, vm₁, ⟨U', l2, c2, s2⟩, hW₁, X', ⟨g', mk, t, L, E, ce, e1, e2, hq, hce, hcv, hcl, h1, hL, h2, h3⟩, st⟩
  · dsimp only [Pt.U, Pt.locs, Pt.cells, Pt.slots] at X' e1 e2 h1 h2 h3 st
    subst h1; subst h2; subst h3
    exact Or.inl ⟨v, (T.setVm vm₁).calling g' mk (Value.ref b :: As).toArray, t, U', L, hT, X', hL, e1, e2, hq, st⟩
  · dsimp only [Pt.U, Pt.locs, Pt.cells, Pt.slots] at X' e1 e2 h1 h2 h3 st hcl
    subst h1; subst h2; subst h3
    exact Or.inr ⟨q, (T.setVm vm₁).calling g' mk (Value.ref b :: As).toArray, t, U', L, E, ce, hT, X', hL, e1, e2, hq, hce, hcv, vx_cls hW₁ hcl, st⟩
theorem vx_runS (S : CallFix p m c cc nL s args Ts own) (hM : vx_Met l y ws rm Pc Qc XC mc ms free) (cw : CallB R s args own index y bytes maxL ret ws rm mc ms n ∧ (Cond.static y).before args s = true) (hp : PreS s H Pc As)
    (hg : g.method = m) (hn : As.length = n) (hsize : g.locals.size = nL) (hstack : g.stack = As.reverse ++ rest) (hW : 2 * g.monitorRoom + (rest.map fun v => v.category).sum ≤ 8) (hdg : decode cc g.pc = .ok (.invokestatic index, 3)) (hf : cells + mc ≤ R.cells ∧ slots + ms ≤ R.slots) :
    vx_Run p l e R s m args below meth c H locs cells slots mc ms g rest (Qc As.toArray) XC free := by
  have hK : vx_Back l R p e below s args y 3 8 (PreOf R mc ms Pc) (PostOf Qc mc ms free) (vx_Post XC mc ms free) := vx_callBack cw.1 hM hp.1
  obtain ⟨⟨-, -, -, -, -, -, hcode, hini, hy, hlen, hl⟩, hstt⟩ := cw
  obtain ⟨hx, hb, hml, ho, -⟩ := S
  intro T hT X
  rcases vx_callS X hx (bytes := bytes) (maxL := maxL) (ret := ret) ho hl hstt hini hcode hy hK hg (hsize.trans hml.symm) (argsL := As) (rest := rest) (fun sig h => hn.trans (hlen sig h)) hstack hW (by rw [hb]; exact hdg)
    (fun vm₁ hW₁ => ⟨hf.1, hf.2, hp.2 (T.setVm vm₁) hT hW₁⟩) with ⟨v, vm₁, ⟨U', l2, c2, s2⟩, hW₁, X', ⟨g', mk, t, L, e1, e2, hq, h1, hL, h2, h3⟩, st⟩ | ⟨q, vm₁, ⟨U', l2, c2, s2⟩, hW₁, X', ⟨g', mk, t, L, E, ce, e1, e2, hq, hce, hcv, hcl, h1, hL, h2, h3⟩, st⟩
  · dsimp only [Pt.U, Pt.locs, Pt.cells, Pt.slots] at X' e1 e2 h1 h2 h3 st
    subst h1; subst h2; subst h3
    exact Or.inl ⟨v, (T.setVm vm₁).calling g' mk As.toArray, t, U', L, hT, X', hL, e1, e2, hq, st⟩
  · dsimp only [Pt.U, Pt.locs, Pt.cells, Pt.slots] at X' e1 e2 h1 h2 h3 st hcl
    subst h1; subst h2; subst h3
    exact Or.inr ⟨q, (T.setVm vm₁).calling g' mk As.toArray, t, U', L, E, ce, hT, X', hL, e1, e2, hq, hce, hcv, vx_cls hW₁ hcl, st⟩
end Runs
section Rows
variable {p : Program} {l : Launch} {e : Env} {R : Room} {s : State} {m : MethodId} {args : Array Value} {below : List Frame} {meth : Method} {c : Code} {H : Heap} {locs : List Loc} {cells slots : Nat} {Q : State → Prop}
variable {mc ms : Nat} {free : Addr → Prop} {A0 A1 : Nat → Prop} {H0 : Heap} {a : Array Value} {pc : Nat} {ls : Array Slot} {st0 rest : List Value}
theorem vx_keep {st₀ t T' : State} {L : List Loc} (h0 : st₀.heap = H) (e1 : T'.heap = t.heap) (hS : va_S A0 H0 H locs) (hA : ∀ q, q < H.size → A1 q → A0 q) (hf : ∀ q, free q → A0 q) (hL : ∀ q ∈ L, free q.base) (hF : va_F A1 st₀ t) :
    H.size ≤ T'.heap.size ∧ (∀ q : Nat, q < H.size → ¬ A1 q → T'.heap[q]? = H[q]?) ∧ va_S A0 H0 T'.heap (locs ++ L) := by
  obtain ⟨hz, hk⟩ := hF
  rw [h0] at hz hk
  exact ⟨by rw [e1]; exact hz, fun q h1 h2 => by rw [e1]; exact hk q h1 h2,
    ⟨Nat.le_trans hS.1 (by rw [e1]; exact hz), fun q h1 h2 => by rw [e1, hk q (Nat.lt_of_lt_of_le h1 hS.1) (fun z => h2 (hA q (Nat.lt_of_lt_of_le h1 hS.1) z))]; exact hS.2.1 q h1 h2, fun q hq => by
      rcases List.mem_append.mp hq with h | h
      · exact hS.2.2 q h
      · exact hf _ (hL q h)⟩⟩
theorem vx_calli {S SX : Type} {post : Int32 → S → Prop} {px : SX → Prop} {B : S → State → Prop} {BX : String → SX → State → Prop} {AX : Nat → Prop} (hr : vx_Run p l e R s m args below meth c H locs cells slots mc ms (F0 m pc ls st0) rest (va_Qi post B A1 a) (vx_X px BX AX) free) (hS : va_S A0 H0 H locs) (hA : ∀ q, q < H.size → A1 q → A0 q) (hf : ∀ q, free q → A0 q) (hAX : ∀ q, q < H.size → AX q → A0 q)
    (kx : ∀ (E : String) (ce : Cell) (q9 : Addr) (u : SX) (t : State) (H1 : Heap) (locs1 : List Loc), t.heap = H1 → s.vm.Alike t.vm → px u → BX E u t → H.size ≤ H1.size → (∀ q : Nat, q < H.size → ¬ AX q → H1[q]? = H[q]?) → va_S A0 H0 H1 locs1 → H1[q9]? = some ce → ce.vm = .none → s.vm.findClass E = some ce.cls → vx_W p l e R s m args below meth c H1 locs1 (cells + mc) (slots + ms) Q (F0 m pc ls rest) q9)
    (kk : ∀ (r : Int32) (u : S) (t : State) (H1 : Heap) (locs1 : List Loc), t.heap = H1 → s.vm.Alike t.vm → post r u → B u t → H.size ≤ H1.size → (∀ q : Nat, q < H.size → ¬ A1 q → H1[q]? = H[q]?) → va_S A0 H0 H1 locs1 → W p l e R s m args below meth c H1 locs1 (cells + mc) (slots + ms) Q (F0 m (pc + 3) ls (.int r :: rest))) : W p l e R s m args below meth c H locs cells slots Q (F0 m pc ls st0) := by
  intro T hT X
  rcases hr T hT X with ⟨v, st₀, t, T', L, h0, X', hL, e1, e2, ⟨⟨r, u, hv, hp, hb⟩, hF⟩, st⟩ | ⟨q, st₀, t, T', L, E, ce, h0, X', hL, e1, e2, ⟨u, hp, hb, hF⟩, hce, hcv, hcl, st⟩
  · cases hv
    obtain ⟨k1, k2, k3⟩ := vx_keep h0 e1 hS hA hf hL hF
    obtain ⟨t2, a1, b1⟩ := kk r u t T'.heap (locs ++ L) e1.symm (by rw [← e2]; exact X'.warmed.alike) hp hb k1 k2 k3 T' rfl X'
    exact ⟨t2, st t2 a1, b1⟩
  · obtain ⟨k1, k2, k3⟩ := vx_keep h0 e1 hS hAX hf hL hF
    obtain ⟨t2, a1, b1⟩ := kx E ce q u t T'.heap (locs ++ L) e1.symm (by rw [← e2]; exact X'.warmed.alike) hp hb k1 k2 k3 (by rw [e1]; exact hce) hcv hcl T' rfl X'
    exact ⟨t2, st.trans a1, b1⟩
theorem vx_calll {S SX : Type} {post : Int64 → S → Prop} {px : SX → Prop} {B : S → State → Prop} {BX : String → SX → State → Prop} {AX : Nat → Prop} (hr : vx_Run p l e R s m args below meth c H locs cells slots mc ms (F0 m pc ls st0) rest (va_Ql post B A1 a) (vx_X px BX AX) free) (hS : va_S A0 H0 H locs) (hA : ∀ q, q < H.size → A1 q → A0 q) (hf : ∀ q, free q → A0 q) (hAX : ∀ q, q < H.size → AX q → A0 q)
    (kx : ∀ (E : String) (ce : Cell) (q9 : Addr) (u : SX) (t : State) (H1 : Heap) (locs1 : List Loc), t.heap = H1 → s.vm.Alike t.vm → px u → BX E u t → H.size ≤ H1.size → (∀ q : Nat, q < H.size → ¬ AX q → H1[q]? = H[q]?) → va_S A0 H0 H1 locs1 → H1[q9]? = some ce → ce.vm = .none → s.vm.findClass E = some ce.cls → vx_W p l e R s m args below meth c H1 locs1 (cells + mc) (slots + ms) Q (F0 m pc ls rest) q9)
    (kk : ∀ (r : Int64) (u : S) (t : State) (H1 : Heap) (locs1 : List Loc), t.heap = H1 → s.vm.Alike t.vm → post r u → B u t → H.size ≤ H1.size → (∀ q : Nat, q < H.size → ¬ A1 q → H1[q]? = H[q]?) → va_S A0 H0 H1 locs1 → W p l e R s m args below meth c H1 locs1 (cells + mc) (slots + ms) Q (F0 m (pc + 3) ls (.long r :: rest))) : W p l e R s m args below meth c H locs cells slots Q (F0 m pc ls st0) := by
  intro T hT X
  rcases hr T hT X with ⟨v, st₀, t, T', L, h0, X', hL, e1, e2, ⟨⟨r, u, hv, hp, hb⟩, hF⟩, st⟩ | ⟨q, st₀, t, T', L, E, ce, h0, X', hL, e1, e2, ⟨u, hp, hb, hF⟩, hce, hcv, hcl, st⟩
  · cases hv
    obtain ⟨k1, k2, k3⟩ := vx_keep h0 e1 hS hA hf hL hF
    obtain ⟨t2, a1, b1⟩ := kk r u t T'.heap (locs ++ L) e1.symm (by rw [← e2]; exact X'.warmed.alike) hp hb k1 k2 k3 T' rfl X'
    exact ⟨t2, st t2 a1, b1⟩
  · obtain ⟨k1, k2, k3⟩ := vx_keep h0 e1 hS hAX hf hL hF
    obtain ⟨t2, a1, b1⟩ := kx E ce q u t T'.heap (locs ++ L) e1.symm (by rw [← e2]; exact X'.warmed.alike) hp hb k1 k2 k3 (by rw [e1]; exact hce) hcv hcl T' rfl X'
    exact ⟨t2, st.trans a1, b1⟩
theorem vx_callf {S SX : Type} {post : UInt32 → S → Prop} {px : SX → Prop} {B : S → State → Prop} {BX : String → SX → State → Prop} {AX : Nat → Prop} (hr : vx_Run p l e R s m args below meth c H locs cells slots mc ms (F0 m pc ls st0) rest (va_Qf post B A1 a) (vx_X px BX AX) free) (hS : va_S A0 H0 H locs) (hA : ∀ q, q < H.size → A1 q → A0 q) (hf : ∀ q, free q → A0 q) (hAX : ∀ q, q < H.size → AX q → A0 q)
    (kx : ∀ (E : String) (ce : Cell) (q9 : Addr) (u : SX) (t : State) (H1 : Heap) (locs1 : List Loc), t.heap = H1 → s.vm.Alike t.vm → px u → BX E u t → H.size ≤ H1.size → (∀ q : Nat, q < H.size → ¬ AX q → H1[q]? = H[q]?) → va_S A0 H0 H1 locs1 → H1[q9]? = some ce → ce.vm = .none → s.vm.findClass E = some ce.cls → vx_W p l e R s m args below meth c H1 locs1 (cells + mc) (slots + ms) Q (F0 m pc ls rest) q9)
    (kk : ∀ (r : UInt32) (u : S) (t : State) (H1 : Heap) (locs1 : List Loc), t.heap = H1 → s.vm.Alike t.vm → post r u → B u t → H.size ≤ H1.size → (∀ q : Nat, q < H.size → ¬ A1 q → H1[q]? = H[q]?) → va_S A0 H0 H1 locs1 → W p l e R s m args below meth c H1 locs1 (cells + mc) (slots + ms) Q (F0 m (pc + 3) ls (.float r :: rest))) : W p l e R s m args below meth c H locs cells slots Q (F0 m pc ls st0) := by
  intro T hT X
  rcases hr T hT X with ⟨v, st₀, t, T', L, h0, X', hL, e1, e2, ⟨⟨r, u, hv, hp, hb⟩, hF⟩, st⟩ | ⟨q, st₀, t, T', L, E, ce, h0, X', hL, e1, e2, ⟨u, hp, hb, hF⟩, hce, hcv, hcl, st⟩
  · cases hv
    obtain ⟨k1, k2, k3⟩ := vx_keep h0 e1 hS hA hf hL hF
    obtain ⟨t2, a1, b1⟩ := kk r u t T'.heap (locs ++ L) e1.symm (by rw [← e2]; exact X'.warmed.alike) hp hb k1 k2 k3 T' rfl X'
    exact ⟨t2, st t2 a1, b1⟩
  · obtain ⟨k1, k2, k3⟩ := vx_keep h0 e1 hS hAX hf hL hF
    obtain ⟨t2, a1, b1⟩ := kx E ce q u t T'.heap (locs ++ L) e1.symm (by rw [← e2]; exact X'.warmed.alike) hp hb k1 k2 k3 (by rw [e1]; exact hce) hcv hcl T' rfl X'
    exact ⟨t2, st.trans a1, b1⟩
theorem vx_calld {S SX : Type} {post : UInt64 → S → Prop} {px : SX → Prop} {B : S → State → Prop} {BX : String → SX → State → Prop} {AX : Nat → Prop} (hr : vx_Run p l e R s m args below meth c H locs cells slots mc ms (F0 m pc ls st0) rest (va_Qd post B A1 a) (vx_X px BX AX) free) (hS : va_S A0 H0 H locs) (hA : ∀ q, q < H.size → A1 q → A0 q) (hf : ∀ q, free q → A0 q) (hAX : ∀ q, q < H.size → AX q → A0 q)
    (kx : ∀ (E : String) (ce : Cell) (q9 : Addr) (u : SX) (t : State) (H1 : Heap) (locs1 : List Loc), t.heap = H1 → s.vm.Alike t.vm → px u → BX E u t → H.size ≤ H1.size → (∀ q : Nat, q < H.size → ¬ AX q → H1[q]? = H[q]?) → va_S A0 H0 H1 locs1 → H1[q9]? = some ce → ce.vm = .none → s.vm.findClass E = some ce.cls → vx_W p l e R s m args below meth c H1 locs1 (cells + mc) (slots + ms) Q (F0 m pc ls rest) q9)
    (kk : ∀ (r : UInt64) (u : S) (t : State) (H1 : Heap) (locs1 : List Loc), t.heap = H1 → s.vm.Alike t.vm → post r u → B u t → H.size ≤ H1.size → (∀ q : Nat, q < H.size → ¬ A1 q → H1[q]? = H[q]?) → va_S A0 H0 H1 locs1 → W p l e R s m args below meth c H1 locs1 (cells + mc) (slots + ms) Q (F0 m (pc + 3) ls (.double r :: rest))) : W p l e R s m args below meth c H locs cells slots Q (F0 m pc ls st0) := by
  intro T hT X
  rcases hr T hT X with ⟨v, st₀, t, T', L, h0, X', hL, e1, e2, ⟨⟨r, u, hv, hp, hb⟩, hF⟩, st⟩ | ⟨q, st₀, t, T', L, E, ce, h0, X', hL, e1, e2, ⟨u, hp, hb, hF⟩, hce, hcv, hcl, st⟩
  · cases hv
    obtain ⟨k1, k2, k3⟩ := vx_keep h0 e1 hS hA hf hL hF
    obtain ⟨t2, a1, b1⟩ := kk r u t T'.heap (locs ++ L) e1.symm (by rw [← e2]; exact X'.warmed.alike) hp hb k1 k2 k3 T' rfl X'
    exact ⟨t2, st t2 a1, b1⟩
  · obtain ⟨k1, k2, k3⟩ := vx_keep h0 e1 hS hAX hf hL hF
    obtain ⟨t2, a1, b1⟩ := kx E ce q u t T'.heap (locs ++ L) e1.symm (by rw [← e2]; exact X'.warmed.alike) hp hb k1 k2 k3 (by rw [e1]; exact hce) hcv hcl T' rfl X'
    exact ⟨t2, st.trans a1, b1⟩
theorem vx_callv {S SX : Type} {post : S → Prop} {px : SX → Prop} {B : S → State → Prop} {BX : String → SX → State → Prop} {AX : Nat → Prop} (hr : vx_Run p l e R s m args below meth c H locs cells slots mc ms (F0 m pc ls st0) rest (va_Qv post B A1 a) (vx_X px BX AX) free) (hS : va_S A0 H0 H locs) (hA : ∀ q, q < H.size → A1 q → A0 q) (hf : ∀ q, free q → A0 q) (hAX : ∀ q, q < H.size → AX q → A0 q)
    (kx : ∀ (E : String) (ce : Cell) (q9 : Addr) (u : SX) (t : State) (H1 : Heap) (locs1 : List Loc), t.heap = H1 → s.vm.Alike t.vm → px u → BX E u t → H.size ≤ H1.size → (∀ q : Nat, q < H.size → ¬ AX q → H1[q]? = H[q]?) → va_S A0 H0 H1 locs1 → H1[q9]? = some ce → ce.vm = .none → s.vm.findClass E = some ce.cls → vx_W p l e R s m args below meth c H1 locs1 (cells + mc) (slots + ms) Q (F0 m pc ls rest) q9)
    (kk : ∀ (u : S) (t : State) (H1 : Heap) (locs1 : List Loc), t.heap = H1 → s.vm.Alike t.vm → post u → B u t → H.size ≤ H1.size → (∀ q : Nat, q < H.size → ¬ A1 q → H1[q]? = H[q]?) → va_S A0 H0 H1 locs1 → W p l e R s m args below meth c H1 locs1 (cells + mc) (slots + ms) Q (F0 m (pc + 3) ls (rest))) : W p l e R s m args below meth c H locs cells slots Q (F0 m pc ls st0) := by
  intro T hT X
  rcases hr T hT X with ⟨v, st₀, t, T', L, h0, X', hL, e1, e2, ⟨⟨u, hv, hp, hb⟩, hF⟩, st⟩ | ⟨q, st₀, t, T', L, E, ce, h0, X', hL, e1, e2, ⟨u, hp, hb, hF⟩, hce, hcv, hcl, st⟩
  · cases hv
    obtain ⟨k1, k2, k3⟩ := vx_keep h0 e1 hS hA hf hL hF
    obtain ⟨t2, a1, b1⟩ := kk u t T'.heap (locs ++ L) e1.symm (by rw [← e2]; exact X'.warmed.alike) hp hb k1 k2 k3 T' rfl X'
    exact ⟨t2, st t2 a1, b1⟩
  · obtain ⟨k1, k2, k3⟩ := vx_keep h0 e1 hS hAX hf hL hF
    obtain ⟨t2, a1, b1⟩ := kx E ce q u t T'.heap (locs ++ L) e1.symm (by rw [← e2]; exact X'.warmed.alike) hp hb k1 k2 k3 (by rw [e1]; exact hce) hcv hcl T' rfl X'
    exact ⟨t2, st.trans a1, b1⟩
/-- caught by the one row of this method's table -/
theorem vx_catch {own name : String} {E : String} {ce : Cell} {q : Addr} (hown : s.vm.findClass own = some m.cls) (x : ExceptionTableEntry) (hsplit : c.exceptionTable.toList = [x])
    (hx : covers x pc = true) (h0 : x.catchType ≠ 0)
    (hlink : (Cond.classLink own x.catchType name).before args s = true) (hcast : (Cond.castable E name).before args s = true) (hcell : H[q]? = some ce) (hv : ce.vm = .none) (hcl : s.vm.findClass E = some ce.cls)
    (kk : W p l e R s m args below meth c H locs cells slots Q (F0 m x.handlerPc ls [.ref q])) : vx_W p l e R s m args below meth c H locs cells slots Q (F0 m pc ls rest) q := by
  intro T hT X
  have hpl : e.platform.magicAccessors = ({} : Platform).magicAccessors := by rw [X.admits.platform]
  obtain ⟨c3, c4, hc3, hc4, hasg⟩ := Cond.castable_spec hcast
  cases Option.some.inj (hc3.symm.trans hcl)
  obtain ⟨c5, hc5, hcl5⟩ := Cond.classLink_spec hown hlink e.platform hpl
  cases Option.some.inj (hc4.symm.trans hc5)
  obtain ⟨dk, _, _, kt, hd, _, _, _, _, hkt, _, hopen⟩ := hcl5.here
  have hcl0 := X.warmed.classLinks hcl5
  have hW' : s.WarmedH (T.vm.noted m.cls x.catchType (.cls c4)) := X.warmed.noted hd hopen (State.rightAt_cls hcl5)
  have hal := X.warmed.alike
  obtain ⟨kt', hkt', -⟩ := hal.2.2 _ _ hkt
  have hfit : T.vm.assignable ce.cls c4 = true := by rw [hal.assignable]; exact hasg
  have hcT : ((T.setTop (F0 m pc ls rest)).pushFrame (.throwing q)).heap[q]? = some ce := by
    show T.heap[q]? = some ce
    rw [hT]; exact hcell
  obtain ⟨t, a1, b1⟩ := kk (T.setVm (T.vm.noted m.cls x.catchType (.cls c4))) hT (X.noted hW')
  refine ⟨t, ?_, b1⟩
  exact x_caught (g := F0 m pc ls rest) X.here (x_finds (f := F0 m pc ls rest) (s := (T.setTop (F0 m pc ls rest)).pushFrame (.throwing q)) (meth := meth) (code := c) X.method' X.code x hsplit hx h0 hcl0 hcT (VmData.ne_statics_of (by rw [hv]; rfl)) (Vm.classAt_of_assignable hfit ⟨kt', hkt'⟩) ⟨kt', hkt'⟩ hfit) a1
end Rows
section Ends
variable {p : Program} {l : Launch} {e : Env} {R : Room} {s : State} {m : MethodId} {args : Array Value} {below : List Frame} {meth : Method} {c : Code} {H : Heap} {locs : List Loc} {cells slots : Nat} {Q : State → Prop}
variable {mc ms : Nat} {free : Addr → Prop} {A0 A1 : Nat → Prop} {H0 : Heap} {a : Array Value} {ls : Array Slot} {st0 rest : List Value}
variable {Qc : Array Value → State → Outcome → State → Prop} {XC : String → State → State → Prop}
/-- what a body that may throw owes at its end -/
def vx_MQ (below : List Frame) (Qc : Array Value → State → Outcome → State → Prop) (XC : String → State → State → Prop) (a : Array Value) (s : State) (mc ms : Nat) (free : Addr → Prop) : State → Prop := fun t =>
  ∃ o, t.status = .running ∧ Ended t below o ∧ vx_Q Qc XC mc ms free a s o t
theorem vx_ret {g : JFrame} {mc ms : Nat} (k : W p l e R s m args below meth c H locs cells slots (MQ below Qc args s mc ms free) g) : W p l e R s m args below meth c H locs cells slots (vx_MQ below Qc XC args s mc ms free) g := by
  intro T hT X
  obtain ⟨t, a1, o, b1, b2, b3, b4⟩ := k T hT X
  exact ⟨t, a1, o, b1, b2, Or.inl ⟨b3, b4⟩⟩
/-- not caught here: it goes on to the caller -/
theorem vx_widen {g : JFrame} {q : Addr} {k n : Nat} (h1 : cells ≤ k) (h2 : slots ≤ n) (kk : vx_W p l e R s m args below meth c H locs k n Q g q) : vx_W p l e R s m args below meth c H locs cells slots Q g q := fun T hT X => kk T hT (stand_widen X h1 h2)
theorem vx_out {pc : Nat} {E : String} {ce : Cell} {q : Addr} {mc ms : Nat} (hout : ∀ x ∈ c.exceptionTable.toList, covers x pc = false) (hlocks : meth.locks = false) (hcell : H[q]? = some ce) (hv : ce.vm = .none) (hcl : s.vm.findClass E = some ce.cls)
    (hx : ∀ t : State, t.heap = H → s.vm.Alike t.vm → XC E s t) (hf : ∀ z ∈ locs, free z.base) (hc : cells ≤ mc) (hs : slots ≤ ms) :
    vx_W p l e R s m args below meth c H locs cells slots (vx_MQ below Qc XC args s mc ms free) (F0 m pc ls rest) q := by
  intro T hT X
  obtain ⟨st1, hrun, hend, hW, hsm⟩ := X.leaveThrown q (g := F0 m pc ls rest) rfl rfl rfl hout hlocks
  have hcell9 : (T.setFrames (.throwing q :: below)).heap[q]? = some ce := by
    show T.heap[q]? = some ce
    rw [hT]; exact hcell
  exact ⟨_, st1, .threw q, hrun, hend, Or.inr ⟨q, rfl, E, ce, locs, hx _ hT hW.alike, hcell9, hv, hcl, hW, hsm.mono hc hs, hf⟩⟩
theorem vx_frame {U : State} {k n : Nat} (h : s.sameButNew ({ U with vm := s.vm } : State) locs k n) : s.heap.size ≤ U.heap.size ∧ ∀ q : Nat, q < s.heap.size → (∀ z ∈ locs, z.base ≠ q) → U.heap[q]? = s.heap[q]? := by
  obtain ⟨-, h2, -, -, -, h6⟩ := h
  refine ⟨h2, fun q hq hz => ?_⟩
  obtain ⟨c9, e1, e2, e3, e4⟩ := h6 q _ (Array.getElem?_eq_getElem hq)
  have hs : c9.slots = (s.heap[q]).slots := Array.ext_getElem? fun i => e4 i fun hm => hz _ hm rfl
  have h9 : c9 = s.heap[q] := by
    rw [hs] at e2
    exact e2
  have e5 : U.heap[q]? = some c9 := e1
  rw [e5, h9, Array.getElem?_eq_getElem hq]
/-- the words of a throw but the four that speak of the heap -/
def vx_no (w : Cond) : Bool := decide (w ≠ .isRef (.static Bundle.tN "UNASSIGNED_STACK" Bundle.steD)) && decide (w ≠ .isRef (.static Bundle.tN "SUPPRESSED_SENTINEL" Bundle.listD)) && decide (w ≠ .laysStatic Bundle.tN "UNASSIGNED_STACK" Bundle.steD) && decide (w ≠ .laysStatic Bundle.tN "SUPPRESSED_SENTINEL" Bundle.listD)
def vx_atS (own : String) (ic : Nat) (X : String) (ix : Nat) (rx : ByteArray) (n1 : String) (n2 : List String) : List Cond := (x_own own ic X ix rx n1 n2).filter vx_no
/-- a word that the tables alone decide, or a good one -/
def vx_ot (w : Cond) : Bool := w.onTables || goodWord w
theorem vx_ot_at {args a' : Array Value} {s U : State} {w : Cond} (hW : s.WarmedH U.vm) (hvm : s.vm = U.vm) (hg : vx_ot w = true) (h : w.before args s = true) : w.before a' U = true := by
  simp only [vx_ot, Bool.or_eq_true] at hg
  rcases hg with hg | hg
  · exact va_tabs hg hvm h
  · exact word_at hW (good_of_word hg) h
/-- a list's words: the good ones out of the method's own list, the others by premises of their own -/
theorem vx_hat {args : Array Value} {s : State} {L B : List Cond} (h1 : ∀ w ∈ L.filter goodWord, w.before args s = true) (h2 : ∀ w ∈ L.filter (fun w => !goodWord w), w ∈ B) (h3 : ∀ w ∈ B, w.before args s = true) : ∀ w ∈ L, w.before args s = true := by
  intro w hw
  by_cases g : goodWord w = true
  · exact h1 w (List.mem_filter.mpr ⟨hw, g⟩)
  · refine h3 w (h2 w (List.mem_filter.mpr ⟨hw, ?_⟩))
    show (!goodWord w) = true
    cases hgw : goodWord w
    · rfl
    · exact absurd hgw g
theorem vx_c {args : Array Value} {s : State} {w : Cond} {B : List Cond} (h : w.before args s = true) (t : ∀ w ∈ B, w.before args s = true) : ∀ w' ∈ w :: B, w'.before args s = true := fun w' h' => (List.mem_cons.mp h').elim (fun e => by rw [e]; exact h) (t w')
theorem vx_n {args : Array Value} {s : State} : ∀ w ∈ ([] : List Cond), w.before args s = true := fun _ h => nomatch h
theorem vx_own {args : Array Value} {s : State} {L : List Cond} (h1 : ∀ w ∈ L.filter vx_no, w.before args s = true)
    (hU : (Cond.isRef (.static Bundle.tN "UNASSIGNED_STACK" Bundle.steD)).before args s = true) (hN : (Cond.isRef (.static Bundle.tN "SUPPRESSED_SENTINEL" Bundle.listD)).before args s = true)
    (lU : (Cond.laysStatic Bundle.tN "UNASSIGNED_STACK" Bundle.steD).before args s = true) (lN : (Cond.laysStatic Bundle.tN "SUPPRESSED_SENTINEL" Bundle.listD).before args s = true) : ∀ w ∈ L, w.before args s = true := by
  intro w hw
  by_cases e1 : w = .isRef (.static Bundle.tN "UNASSIGNED_STACK" Bundle.steD)
  · rw [e1]; exact hU
  · by_cases e2 : w = .isRef (.static Bundle.tN "SUPPRESSED_SENTINEL" Bundle.listD)
    · rw [e2]; exact hN
    · by_cases e3 : w = .laysStatic Bundle.tN "UNASSIGNED_STACK" Bundle.steD
      · rw [e3]; exact lU
      · by_cases e4 : w = .laysStatic Bundle.tN "SUPPRESSED_SENTINEL" Bundle.listD
        · rw [e4]; exact lN
        · exact h1 w (List.mem_filter.mpr ⟨hw, by unfold vx_no; rw [decide_eq_true e1, decide_eq_true e2, decide_eq_true e3, decide_eq_true e4]; rfl⟩)
/-- where a static field lies, its class's statics cell in H -/
def vx_L (C n d : String) (A : Nat → Prop) (U : State) (H : Heap) : Prop := ∃ (c : ClassId) (k : Class) (i : Nat) (f : Field) (a : Nat) (cell : Cell), U.vm.findClass C = some c ∧ U.fieldFound? C n d = some (c, k, i, f) ∧ f.isStatic = true ∧ k.statics = some a ∧ H[a]? = some cell ∧ cell.vm.isStatics = true ∧ cell.cls = c ∧ f.slot < cell.slots.size ∧ k.staticTypes[f.slot]? = some f.type ∧ ¬ A a
theorem vx_L.moved {C n d : String} {A : Nat → Prop} {u U : State} {H : Heap} (hvm : u.vm.Alike U.vm) (h : vx_L C n d A u H) : vx_L C n d A U H := by
  obtain ⟨c, k, i, f, a, cell, h1, h2, h3, h4, h5, h6, h7, h8, h9, h10⟩ := h
  obtain ⟨k', hi', he⟩ := State.fieldFound?_setVm hvm h2
  exact ⟨c, k', i, f, a, cell, by rw [hvm.findClass]; exact h1, hi', h3, by rw [he]; exact h4, h5, h6, h7, h8, by rw [he]; exact h9, h10⟩
theorem vx_L.kept {C n d : String} {A : Nat → Prop} {U : State} {H H1 : Heap} (h : vx_L C n d A U H) (hq : ∀ a : Nat, a < H.size → ¬ A a → H1[a]? = H[a]?) : vx_L C n d A U H1 := by
  obtain ⟨c, k, i, f, a, cell, h1, h2, h3, h4, h5, h6, h7, h8, h9, h10⟩ := h
  exact ⟨c, k, i, f, a, cell, h1, h2, h3, h4, by rw [hq a (Array.getElem?_eq_some_iff.mp h5).1 h10]; exact h5, h6, h7, h8, h9, h10⟩
theorem vx_L.narrow {C n d : String} {A B : Nat → Prop} {U : State} {H : Heap} (h : vx_L C n d A U H) (hAB : ∀ q, B q → A q) : vx_L C n d B U H := by
  obtain ⟨c, k, i, f, a, cell, h1, h2, h3, h4, h5, h6, h7, h8, h9, h10⟩ := h
  exact ⟨c, k, i, f, a, cell, h1, h2, h3, h4, h5, h6, h7, h8, h9, fun z => h10 (hAB _ z)⟩
theorem vx_L.word {C n d : String} {A : Nat → Prop} {s : State} {args : Array Value} (h : vx_L C n d A s s.heap) : (Cond.laysStatic C n d).before args s = true := by
  obtain ⟨c, k, i, f, a, cell, h1, h2, h3, h4, h5, h6, h7, h8, h9, -⟩ := h
  show (Cond.laysStatic C n d).holds args s none s [] = true
  exact Cond.laysStatic_of h1 h2 h3 h4 h5 h6 h7 h8 h9
/-- .. and what it holds: null or some reference -/
def vx_Zq (C n d : String) (A : Nat → Prop) (U : State) (H : Heap) : Prop := va_Zq C n d A U H ∧ vx_L C n d A U H
theorem vx_Zq.moved {C n d : String} {A : Nat → Prop} {u U : State} {H : Heap} (hvm : u.vm.Alike U.vm) (h : vx_Zq C n d A u H) : vx_Zq C n d A U H := ⟨va_Zq.moved hvm h.1, vx_L.moved hvm h.2⟩
theorem vx_Zq.kept {C n d : String} {A : Nat → Prop} {U : State} {H H1 : Heap} (h : vx_Zq C n d A U H) (hq : ∀ a : Nat, a < H.size → ¬ A a → H1[a]? = H[a]?) : vx_Zq C n d A U H1 := ⟨va_Zq.kept h.1 hq, vx_L.kept h.2 hq⟩
theorem vx_Zq.narrow {C n d : String} {A B : Nat → Prop} {U : State} {H : Heap} (h : vx_Zq C n d A U H) (hAB : ∀ q, B q → A q) : vx_Zq C n d B U H := ⟨va_Zq.narrow h.1 hAB, vx_L.narrow h.2 hAB⟩
theorem vx_Zqof {args : Array Value} {s : State} {C n d : String} {A : Nat → Prop} (hl : (Cond.laysStatic C n d).before args s = true) (hini : (Cond.initialized C).before args s = true) (h : (Cond.isRef (.static C n d)).before args s = true) (hA : ∀ a : Nat, a < s.heap.size → ¬ A a) : vx_Zq C n d A s s.heap := by
  refine ⟨va_Zqof hl hini h hA, ?_⟩
  obtain ⟨c, k, i, f, a, cell, h1, h2, h3, h4, h5, h6, h7, h8, h9⟩ := Cond.laysStatic_spec hl
  exact ⟨c, k, i, f, a, cell, h1, h2, h3, h4, h5, h6, h7, h8, h9, hA a (Array.getElem?_eq_some_iff.mp h5).1⟩
theorem vx_isRef {C n d : String} {v : Value} {A : Nat → Prop} {s : State} {args : Array Value} (h : va_Z C n d v A s s.heap) (hv : v.isRef = true) : (Cond.isRef (.static C n d)).before args s = true := by
  obtain ⟨cf, kf, fi, f, a, cell, h1, h2, h3, h4, h5, h6, h7, -⟩ := h
  have he : (Term.static C n d).eval args s none [] s = some v := by
    simp [Term.eval, State.fieldNamed?, h1, h2, h4, h5, h6, h7]
  simp only [Cond.before, Cond.holds, Cond.value, he]
  cases v <;> simp_all [Value.isRef]
theorem vx_isRefq {C n d : String} {A : Nat → Prop} {s : State} {args : Array Value} (h : va_Zq C n d A s s.heap) : (Cond.isRef (.static C n d)).before args s = true := by
  rcases h with h | ⟨t, h⟩
  · exact vx_isRef h rfl
  · exact vx_isRef h rfl
/-- the same frame, seen from here: as if the method were called anew in this heap -/
theorem vx_rebase {T : State} (X : Stand p l e R s m args below meth c T locs cells slots) {R' : Room} (hf : R'.frames ≤ R.frames) (hl : R'.locals ≤ R.locals) (hc : cells + R'.cells ≤ R.cells) (hs : slots + R'.slots ≤ R.slots) :
    Stand p l e R' ((T.setVm s.vm).setFrames (.invoking m args :: below)) m args below meth c T [] 0 0 := by
  have htop : (T.setVm s.vm).topJava?.isSome := X.here.top
  have hF : ((T.setVm s.vm).setFrames (.invoking m args :: below)).frames = .invoking m args :: below := State.frames_setFrames _ (State.cur_lt_of_top htop)
  obtain ⟨g₀, hg0⟩ := Option.isSome_iff_exists.mp htop
  obtain ⟨r, hr⟩ := State.topJava?_eq_some.mp hg0
  have hl9 : e.platform.stackLimits (T.setVm s.vm).me = e.platform.stackLimits s.me := X.limits
  have hb9 : (T.setVm s.vm).me.stackBytes = s.me.stackBytes := X.bytes
  refine ⟨X.admits, X.cas, X.clock, hF, ?_, X.hears, X.method, X.code, X.here, X.tail, X.warmed, ?_, ?_, ?_⟩
  · have h := X.room
    have hU : ((T.setVm s.vm).setFrames (.invoking m args :: below)).localsInUse = s.localsInUse := by
      rw [State.localsInUse_invoking hF (meth := meth) (c := c) X.method X.code, State.localsInUse_invoking X.frames X.method X.code]
    simp only [State.hasRoom, Bool.and_eq_true, decide_eq_true_eq] at h ⊢
    obtain ⟨⟨⟨⟨h1, h2, h3, h4, h5, h6⟩, h7⟩, h8⟩, h9⟩ := h
    rw [X.frames, List.length_cons] at h2 h3
    have q1 := X.heapSize
    have q2 := X.used
    simp only [hF, hU, List.length_cons, State.stackLimits_setFrames, State.stackBytes_setFrames, hl9, hb9]
    refine ⟨⟨⟨⟨by omega, by omega, by omega, by omega, by omega, h6⟩, ?_⟩, ?_⟩, X.book⟩
    · show T.heap.size + R'.cells ≤ e.platform.maxCells
      omega
    · show T.slotsUsed + R'.slots ≤ e.platform.maxSlots
      omega
  · rw [State.stackLimits_setFrames]; rfl
  · rw [State.stackBytes_setFrames]; rfl
  · refine ⟨?_, Nat.le_refl _, Nat.le_refl _, ?_, ?_, fun a c9 h9 => ⟨c9, h9, rfl, rfl, fun _ _ => rfl⟩⟩
    · obtain ⟨t, ht, -⟩ := State.frames_cons hr
      show T.setVm s.vm = { ((T.setVm s.vm).setFrames (.invoking m args :: below)).setFrames (T.setVm s.vm).frames with heap := T.heap, slotsUsed := T.slotsUsed }
      rw [State.setFrames_setFrames, State.setFrames_self ht]
      rfl
    · show T.slotsUsed = T.slotsUsed + ((T.heap.toList.drop T.heap.size).map (·.slots.size)).sum
      rw [List.drop_eq_nil_of_le (Nat.le_of_eq Array.length_toList)]
      rfl
    · show ((T.heap.toList.drop T.heap.size).map (·.slots.size)).sum ≤ 0
      rw [List.drop_eq_nil_of_le (Nat.le_of_eq Array.length_toList)]
      exact Nat.le_refl _
/-- 'throw new E("text")': new; dup; ldc; invokespecial; athrow -/
theorem vx_throwS {cc : ByteArray} {pc : Nat} (hexec : p.tables.exec = Jvm.exec) (hb : c.code = cc) (hl : l.stackTraces = false) {own cls text : String} {n1 : String} {n2 : List String} {ik is ic ix mc ms sa : Nat} {rx : ByteArray} (x0 : decode rx 0 = .ok (.aload_n 0, 1)) (x1 : decode rx 1 = .ok (.aload_n 1, 1)) (x2 : decode rx 2 = .ok (.invokespecial ix, 3)) (x5 : decode rx 5 = .ok (.return_, 1)) {A : Nat → Prop}
    (hown : s.vm.findClass own = some m.cls) (hcls : Bundle.fit cls = true) (hn1 : Bundle.fit n1 = true) (hn2 : ∀ n ∈ n2, Bundle.fit n = true)
    (hk : (Cond.classLink own ik cls).before args s = true) (hini : (Cond.initialized cls).before args s = true) (hstr : vk_R own is text sa s) (hat : ∀ w ∈ vx_atS own ic cls ix rx n1 n2, w.before args s = true)
    (hgood : ∀ w ∈ Cond.classLink own ik cls :: Cond.initialized cls :: vx_atS own ic cls ix rx n1 n2, vx_ot w = true)
    (hU : vx_Zq Bundle.tN "UNASSIGNED_STACK" Bundle.steD A s s.heap) (hN : vx_Zq Bundle.tN "SUPPRESSED_SENTINEL" Bundle.listD A s s.heap) (hS : va_S A s.heap H locs) (hsize : ls.size = c.maxLocals)
    (d0 : decode cc pc = .ok (.new ik, 3)) (d3 : decode cc (pc + 3) = .ok (.dup, 1)) (d4 : decode cc (pc + 4) = .ok (.ldc is, 2)) (d6 : decode cc (pc + 6) = .ok (.invokespecial ic, 3)) (d9 : decode cc (pc + 9) = .ok (.athrow, 1))
    (hout : ∀ x ∈ c.exceptionTable.toList, covers x (pc + 9) = false)
    (hRframes : n2.length + 4 < R.frames) (hRlocals : (rest.map fun v => v.category).sum + (13 * (n2.length + 2) + 43) ≤ R.locals) (hRcells : cells + 1 ≤ R.cells) (hRslots : slots + 6 ≤ R.slots) (hlocks : meth.locks = false)
    (hx : ∀ t : State, s.vm.Alike t.vm → H.size ≤ t.heap.size → (∀ q : Nat, q < H.size → t.heap[q]? = H[q]?) → XC cls s t)
    (hf : ∀ z ∈ locs, free z.base) (hc : cells + 1 ≤ mc) (hs : slots + 6 ≤ ms) :
    W p l e R s m args below meth c H locs cells slots (vx_MQ below Qc XC args s mc ms free) (F0 m pc ls rest) := by
  intro T hT X
  have htr : e.platform.stackTraces = false := (show e.platform.stackTraces = l.stackTraces by rw [X.admits.platform]).trans hl
  have Y := vx_rebase X (R' := { frames := R.frames, locals := R.locals, cells := 1, slots := 6 }) (Nat.le_refl _) (Nat.le_refl _) hRcells hRslots
  obtain ⟨s', hA⟩ : ∃ z, z = (T.setVm s.vm).setFrames (.invoking m args :: below) := ⟨_, rfl⟩
  rw [← hA] at Y
  have hvm : s'.vm = s.vm := by rw [hA]; rfl
  have hhp : s'.heap = H := by rw [hA]; exact hT
  have hW0 : s.WarmedH s'.vm := by rw [hvm]; exact State.WarmedH.refl s
  have hat' : ∀ w ∈ vx_atS own ic cls ix rx n1 n2, w.before args s' = true := fun w hw => vx_ot_at hW0 hvm.symm (hgood w (List.mem_cons_of_mem _ (List.mem_cons_of_mem _ hw))) (hat w hw)
  have hk' : (Cond.classLink own ik cls).before args s' = true := vx_ot_at hW0 hvm.symm (hgood _ List.mem_cons_self) hk
  have hini' : (Cond.initialized cls).before args s' = true := vx_ot_at hW0 hvm.symm (hgood _ (List.mem_cons_of_mem _ List.mem_cons_self)) hini
  have hU' : vx_Zq Bundle.tN "UNASSIGNED_STACK" Bundle.steD A s' s'.heap := by rw [hhp]; exact vx_Zq.moved hW0.alike (hU.kept hS.2.1)
  have hN' : vx_Zq Bundle.tN "SUPPRESSED_SENTINEL" Bundle.listD A s' s'.heap := by rw [hhp]; exact vx_Zq.moved hW0.alike (hN.kept hS.2.1)
  have h : ∀ w ∈ x_own own ic cls ix rx n1 n2, w.before args s' = true := vx_own hat' (vx_isRefq hU'.1) (vx_isRefq hN'.1) hU'.2.word hN'.2.word
  have hown' : s'.vm.findClass own = some m.cls := by rw [hvm]; exact hown
  have hins : (Cond.instantiable cls 6).before args s' = true := h _ (by simp [x_own])
  obtain ⟨vm₁, cX, kX, hfX, hkX, -, -, X₁, st1⟩ := Y.newCold hexec (own := own) (C := cls) (index := ik) (n := 6) hown' hk' hins hini'
    (g := F0 m pc ls rest) rfl (by rw [hb]; exact d0) (Nat.le_refl _) (Nat.le_refl _)
  generalize hT1 : (T.setVm vm₁).pushCell { cls := cX, slots := kX.instanceTypes.map defaultValue, vm := .none } = T1 at X₁ st1
  have hcat : (Value.ref T.heap.size).category = 1 := rfl
  have hcellA : T1.heap[T.heap.size]? = some (freshCell cX kX) := by rw [← hT1]; exact State.heap_pushCell_size _ _
  have d3' : decode c.code (pc + 3) = .ok (.dup, 1) := by rw [hb]; exact d3
  have d4' : decode c.code (pc + 4) = .ok (.ldc is, 2) := by rw [hb]; exact d4
  have hstr' : vk_R own is text sa s' := vk_R.warm hW0 hstr
  obtain ⟨U, hsteps, hrun, hend, hW, hsame, ce, hce, hOv, hOc⟩ := x_ctor X₁ hexec htr (own := own) (cls := cls) (ic := ic) x0 x1 x2 x5 hown' hcls hn1 hn2 h (fun x hx => nomatch hx) hfX hkX hcellA (by rw [hhp, hT]; exact Nat.le_refl _) (msg := .ref sa) rfl
    (g := { method := m, pc := pc + 6, locals := ls, stack := .ref sa :: .ref T.heap.size :: .ref T.heap.size :: rest, locked := none }) rfl hsize rfl rfl (rest := rest) rfl
    (by rw [hb]; exact d6) (by rw [hb]; exact d9) hout hRframes (by simp only [List.map_cons, List.sum_cons, hcat]; omega) hlocks
  obtain ⟨f1, f2⟩ := vx_frame hsame
  rw [hhp] at f1 f2
  have hWs : s.WarmedH U.vm := State.WarmedH.trans hW0 hW
  have hcl : s.vm.findClass cls = some ce.cls := by
    have h9 := hOc
    rw [hvm] at h9
    exact h9
  have hall : s.sameButNew ({ U with vm := s.vm } : State) locs mc ms := by
    subst hA
    obtain ⟨e1, e2⟩ := hsame
    rw [State.setFrames_setFrames] at e1
    have h2 : (T.setVm s.vm).sameButNew ({ U with vm := s.vm } : State) [] (0 + 1) (0 + 6) := ⟨e1, e2⟩
    have h3 := X.same.trans h2
    rw [List.append_nil] at h3
    exact h3.mono hc hs
  refine ⟨U, ?_, .threw T.heap.size, hrun, hend, Or.inr ⟨T.heap.size, rfl, cls, ce, locs, hx U hWs.alike f1 (fun q hq => f2 q hq (fun z hz => nomatch hz)), hce, hOv, hcl, hWs, hall, hf⟩⟩
  refine st1 _ ?_
  show Steps p.tables e below (T1.setTop { method := m, pc := pc + 3, locals := ls, stack := .ref T.heap.size :: rest, locked := none }) _
  jvm_step X₁.here [X₁.here.top, hexec, d3', Value.category]
  exact X₁.ldcString hexec (own := own) (text := text) (index := is) (a := sa) hown' hstr'.1 hstr'.2
    (g := { method := m, pc := pc + 4, locals := ls, stack := .ref T.heap.size :: .ref T.heap.size :: rest, locked := none }) rfl d4' _ hsteps
end Ends
section Bodies
variable {l : Launch}
theorem vx_ofW {y : MethodName} {ws ws' : List Cond} {rm : Room} {Pc : Array Value → State → Prop} {Qc : Array Value → State → Outcome → State → Prop} {XC : String → State → State → Prop} {mc ms : Nat} {free : Addr → Prop} {cc : ByteArray} {maxL : Nat} {ret : Option FieldType}
    (hy : plainName y.cls = true) (hw : ws = Cond.code y cc maxL ret :: ws')
    (body : ∀ p e s m args below meth c s₁, BodyLoose p l y (headSpec ws rm) cc maxL ret e s m args below meth c s₁ → c.maxLocals = maxL → (∀ x ∈ c.exceptionTable.toList, False) → Pc args s →
      W p l e (headSpec ws rm).room s m args below meth c s.heap [] 0 0 (vx_MQ below Qc XC args s mc ms free) (entryFrame m args maxL)) : vx_Met l y ws rm Pc Qc XC mc ms free := by
  refine MetFree.of_bodyS (code := cc) (maxLocals := maxL) (ret := ret) hy ?_ ?_
  · intro args s m h hn
    obtain ⟨meth, c, h1, h2, h3, h4, h5, h6, -, -⟩ := Cond.code_spec hn (atoms_spec (ws := ws) h _ (by rw [hw]; exact List.mem_cons_self))
    exact ⟨meth, c, h1, h2, h3, h4, h5, h6⟩
  · intro p e s m args below meth c s₁ B hml hP _
    have hh0 : s₁.heap = s.heap := by rw [B.state]; rfl
    have ht : ∀ x ∈ c.exceptionTable.toList, False := by
      obtain ⟨meth9, c9, h1, h2, -, -, -, -, h7, -⟩ := Cond.code_spec B.named (atoms_spec (ws := ws) B.pre _ (by rw [hw]; exact List.mem_cons_self))
      cases Option.some.inj (h1.symm.trans B.method)
      cases Option.some.inj (h2.symm.trans (Stand.of_body B).code)
      intro x hx
      rw [Array.isEmpty_iff.mp h7] at hx
      cases hx
    obtain ⟨t, a1, o, b1, b2, b3⟩ := body p e s m args below meth c s₁ B hml ht hP s₁ hh0 (Stand.of_body B)
    exact ⟨t, o, a1, b1, b2, b3⟩
/-- the table of a body with handlers -/
theorem vx_table {p : Program} {x y : MethodName} {S : Spec} {cc bytes : ByteArray} {maxL maxL' : Nat} {ret ret' : Option FieldType} {e : Env} {s s₁ : State} {m : MethodId} {args : Array Value} {below : List Frame} {meth : Method} {c : Code} {hh : List (Nat × Nat × Nat × Nat)}
    (B : BodyLoose p l y S cc maxL ret e s m args below meth c s₁) (h : (Cond.codeWith y bytes maxL' ret' hh).before args s = true) : c.exceptionTable.toList = tableOf hh := by
  obtain ⟨m9, meth9, c9, hn9, h1, h2, -, -, h6, -⟩ := Cond.codeWith_spec h
  cases Option.some.inj (hn9.symm.trans B.named)
  cases Option.some.inj (h1.symm.trans B.method)
  cases Option.some.inj (h2.symm.trans (Stand.of_body B).code)
  rw [← h6, table_eq]
end Bodies
end VXA
/-! ===== END ===== -/
/-! ===== BEGIN a static call of a method with an exception table ===== -/
section VXS
variable {p : Program} {l : Launch} {e : Env} {R : Room} {s : State} {m : MethodId} {args : Array Value} {below : List Frame} {meth : Method} {c : Code} {T : State} {H : Heap} {locs : List Loc} {cells slots : Nat}
abbrev vx_CSW (R : Room) (s : State) (args : Array Value) (own : String) (index : Nat) (y : MethodName) (bytes : ByteArray) (maxL : Nat) (ret : Option FieldType) (hh : List (Nat × Nat × Nat × Nat)) (ws : List Cond) (rm : Room) (mc ms n : Nat) : Prop :=
  (rm.cells = mc ∧ rm.slots = ms ∧ rm.frames + 1 ≤ R.frames ∧ 8 + (maxL + 11) + rm.locals ≤ R.locals ∧ (∀ w ∈ ws, ∀ (a' : Array Value) (U : State), s.WarmedH U.vm → w.before a' U = true) ∧ Cond.codeWith y bytes maxL ret hh ∈ ws) ∧
  (Cond.codeWith y bytes maxL ret hh).before args s = true ∧ (Cond.initialized y.cls).before args s = true ∧ (y.cls ≠ "java/lang/invoke/MethodHandle" ∧ y.cls ≠ "java/lang/invoke/VarHandle") ∧
  (∀ sig, parseMethodDescriptor y.desc = some sig → n = sig.parameters.length) ∧ (Cond.methodLink own index y).before args s = true ∧ (Cond.static y).before args s = true
theorem vx_cwSW {own : String} {index maxL mc ms : Nat} {y : MethodName} {bytes : ByteArray} {ret : Option FieldType} {hh : List (Nat × Nat × Nat × Nat)} {Ts ws ws' : List Cond} {rm : Room} (n : Nat) (ht : ∀ w ∈ Ts, w.before args s = true) (hT : GoodIn Ts (va_wsS own index y ws)) (hw : ws = Cond.codeWith y bytes maxL ret hh :: ws') (hrc : rm.cells = mc) (hrs : rm.slots = ms)
    (hd : y.cls ≠ "java/lang/invoke/MethodHandle" ∧ y.cls ≠ "java/lang/invoke/VarHandle" ∧ (parseMethodDescriptor y.desc).map (fun d => d.parameters.length) = some n) (hR : rm.frames + 1 ≤ R.frames ∧ 8 + (maxL + 11) + rm.locals ≤ R.locals) :
    vx_CSW R s args own index y bytes maxL ret hh ws rm mc ms n := by
  have ok : ∀ w ∈ va_wsS own index y ws, w.before args s = true := fun w h => ht w (hT w h).1
  have hG : GoodIn Ts ws := fun w h => hT w (by unfold va_wsS; exact List.mem_append_right _ h)
  have hc : Cond.codeWith y bytes maxL ret hh ∈ ws := by rw [hw]; exact List.mem_cons_self
  refine ⟨⟨hrc, hrs, hR.1, hR.2, pay_in ht hG, hc⟩, ht _ (hG _ hc).1, ok _ (by simp [va_wsS]), ⟨hd.1, hd.2.1⟩, fun sig h => ?_, ok _ (by simp [va_wsS]), ok _ (by simp [va_wsS])⟩
  have h2 := hd.2.2
  rw [h] at h2
  exact (Option.some.inj h2).symm
theorem vx_callSW (X : Stand p l e R s m args below meth c T locs cells slots) (hexec : p.tables.exec = Jvm.exec) {own : String} {index : Nat} {y : MethodName} {bytes : ByteArray} {maxL : Nat} {ret : Option FieldType} {hh : List (Nat × Nat × Nat × Nat)}
    (hown : s.vm.findClass own = some m.cls) (hlink : (Cond.methodLink own index y).before args s = true) (hstat : (Cond.static y).before args s = true) (hinit : (Cond.initialized y.cls).before args s = true)
    (hcode : (Cond.codeWith y bytes maxL ret hh).before args s = true) (hy : y.cls ≠ "java/lang/invoke/MethodHandle" ∧ y.cls ≠ "java/lang/invoke/VarHandle")
    {W9 : Nat} {Pre : Pt → Array Value → Prop} {Post : Pt → Array Value → Option Value → Pt → Prop} (hK : Back l R p e below s args y 3 W9 Pre Post)
    {g : JFrame} (hg : g.method = m) (hsize : g.locals.size = c.maxLocals) {argsL rest : List Value} (hlen : ∀ sig, parseMethodDescriptor y.desc = some sig → argsL.length = sig.parameters.length)
    (hstack : g.stack = argsL.reverse ++ rest) (hW : 2 * g.monitorRoom + (rest.map fun v => v.category).sum ≤ W9) (hdg : decode c.code g.pc = .ok (.invokestatic index, 3))
    (hpre : ∀ vm₁, s.WarmedH vm₁ → Pre ⟨T.setVm vm₁, locs, cells, slots⟩ argsL.toArray) :
    ∃ (v : Option Value) (vm₁ : Vm) (B : Pt), s.WarmedH vm₁ ∧ Stand p l e R s m args below meth c B.U B.locs B.cells B.slots ∧ Post ⟨T.setVm vm₁, locs, cells, slots⟩ argsL.toArray v B ∧
      ∀ target, Steps p.tables e below (B.U.setTop { g with pc := g.pc + 3, stack := v.toList ++ rest }) target → Steps p.tables e below (T.setTop g) target := by
  obtain ⟨mk, methM, cM, hnamed, hmethM, -, -, -, -, -, -, hsigM⟩ := Cond.codeWith_spec hcode
  have hstatic : methM.isStatic = true := Cond.static_spec hnamed hmethM hstat
  obtain ⟨kP, hkP, -⟩ := className_of_methodNamed hnamed
  have hinitP : kP.init = .initialized := Cond.initialized_spec (findClass_of_methodNamed hnamed) hkP hinit
  obtain ⟨vm₁, X₁, hstep₁⟩ := X.invokestatic hexec hown hlink hnamed hmethM hstatic hkP hinitP hy (g := g) hg (argsL := argsL) (rest := rest) (hlen _ hsigM) hstack hdg
  obtain ⟨v, B, X', hpost, hsteps⟩ := hK m meth c ⟨T.setVm vm₁, locs, cells, slots⟩ { g with stack := rest } (.invokestatic index) mk argsL.toArray X₁ hg hsize hdg hW (X₁.named hnamed) (hpre vm₁ X₁.warmed)
  exact ⟨v, vm₁, B, X₁.warmed, X', hpost, fun target h => hstep₁ _ fun acts => by rw [doInvoke_state]; exact hsteps.trans h⟩
theorem vx_runSW {y : MethodName} {bytes cc : ByteArray} {maxL nL mc ms n index : Nat} {ret : Option FieldType} {hh : List (Nat × Nat × Nat × Nat)} {ws : List Cond} {rm : Room} {Pc : Array Value → State → Prop} {Qc : Array Value → State → Outcome → State → Prop} {free : Addr → Prop} {Ts : List Cond} {own : String} {As rest : List Value} {g : JFrame}
    (S : CallFix p m c cc nL s args Ts own) (hM : Met l y ws rm Pc Qc mc ms free) (cw : vx_CSW R s args own index y bytes maxL ret hh ws rm mc ms n) (hp : PreS s H Pc As)
    (hg : g.method = m) (hn : As.length = n) (hsize : g.locals.size = nL) (hstack : g.stack = As.reverse ++ rest) (hW : 2 * g.monitorRoom + (rest.map fun v => v.category).sum ≤ 8) (hdg : decode cc g.pc = .ok (.invokestatic index, 3)) (hf : cells + mc ≤ R.cells ∧ slots + ms ≤ R.slots) :
    va_Run p l e R s m args below meth c H locs cells slots mc ms g rest (Qc As.toArray) (free) := by
  obtain ⟨⟨hrc, hrs, hfr, hlo, hws, hcw⟩, hcode, hini, hy, hlen, hl, hstt⟩ := cw
  have hK : Back l R p e below s args y 3 8 (PreOf R mc ms Pc) (PostOf Qc mc ms free) := va_backW (hh := hh) (bytes := bytes) (maxL := maxL) (ret := ret) hM hp.1 hrc hrs hfr hlo hws hcw (fun a' U hW => word_at hW (Or.inl (by first | rfl | simp [Cond.onTables, Cond.keeps, Cond.steady])) hini)
  obtain ⟨hx, hb, hml, ho, -⟩ := S
  intro T hT X
  obtain ⟨v, vm₁, ⟨U', l2, c2, s2⟩, hW₁, X', ⟨g', mk, t, L, e1, e2, hq, h1, hL, h2, h3⟩, st⟩ := vx_callSW X hx (hh := hh) (bytes := bytes) (maxL := maxL) (ret := ret) ho hl hstt hini hcode hy hK hg (hsize.trans hml.symm) (argsL := As) (rest := rest) (fun sig h => hn.trans (hlen sig h)) hstack hW (by rw [hb]; exact hdg)
    (fun vm₁ hW₁ => ⟨hf.1, hf.2, hp.2 (T.setVm vm₁) hT hW₁⟩)
  dsimp only [Pt.U, Pt.locs, Pt.cells, Pt.slots] at X' e1 e2 h1 h2 h3 st
  subst h1; subst h2; subst h3
  exact ⟨v, (T.setVm vm₁).calling g' mk As.toArray, t, U', L, hT, X', hL, e1, e2, hq, st⟩
end VXS
end
section
noncomputable section
/-! THE WALK ITSELF, computed by the kernel. -/
/-- codeOfKeyword: some long -/
def eSP1 : Nat → eM → eH → List eV → Option (eV × Nat × Nat) := fun _ mi _ as => match as with
  | [.inl w] => bif Nat.blt w 30 && (Nat.ble 5 mi.2.2.2.1 && Nat.ble 111 mi.2.2.2.2.1) then some (eL, 0, 0) else none
  | _ => none
def hp_0 : eH := er 16 (er 16 none)
def cs_1 (a b c d : Nat) : eC := [(0, 4294967295), (a, b), (0, 4294967295), (0, 4294967295), (0, 4294967295), (0, 4294967295), (2147483648, 2147483654), (2147483642, 2147483648), (c, d)]
def k_1 : eK := fun r _ _ _ => match r with
  | some (.inl 1) => true
  | _ => false
def bk_f : eBk := fun _ _ _ _ _ _ _ => false
def run_1 (n a b c d : Nat) : Bool := eRun eFL1 eCL1 eMT1 eNW1 eNA1 eKI1 eKL1 eSP1 bk_f n em_176 0 em_176.2.2.2.2.2.2 [(0, eS)] [] hp_0 0 0 0 (cs_1 a b c d) k_1
set_option maxRecDepth 1000000 in
theorem ev_lo : run_1 1000000 0 4294967295 2147483648 2147483663 = true := by decide +kernel
set_option maxRecDepth 1000000 in
theorem ev_hi : run_1 1000000 0 4294967295 2147483665 2147483711 = true := by decide +kernel
end
end
section
set_option maxRecDepth 1000000 in
theorem ev_m0 : run_1 1000000 0 2147483648 2147483664 2147483664 = true := by decide +kernel
set_option maxRecDepth 1000000 in
theorem ev_m7 : run_1 1000000 2147483709 4294967295 2147483664 2147483664 = true := by decide +kernel
set_option maxRecDepth 1000000 in
theorem ev_m1 : run_1 1000000 2147483649 2147483652 2147483664 2147483664 = true := by decide +kernel
end
section
set_option maxRecDepth 1000000 in
theorem ev_n0 : run_1 1000000 2147483653 2147483660 2147483664 2147483664 = true := by decide +kernel
set_option maxRecDepth 1000000 in
theorem ev_n1 : run_1 1000000 2147483661 2147483668 2147483664 2147483664 = true := by decide +kernel
set_option maxRecDepth 1000000 in
theorem ev_n2 : run_1 1000000 2147483669 2147483676 2147483664 2147483664 = true := by decide +kernel
end
section
set_option maxRecDepth 1000000 in
theorem ev_n3 : run_1 1000000 2147483677 2147483684 2147483664 2147483664 = true := by decide +kernel
set_option maxRecDepth 1000000 in
theorem ev_n4 : run_1 1000000 2147483685 2147483692 2147483664 2147483664 = true := by decide +kernel
end
section
set_option maxRecDepth 1000000 in
theorem ev_n5 : run_1 1000000 2147483693 2147483700 2147483664 2147483664 = true := by decide +kernel
set_option maxRecDepth 1000000 in
theorem ev_n6 : run_1 1000000 2147483701 2147483708 2147483664 2147483664 = true := by decide +kernel
end
section
def pFL (o : Nat) (x : Nat × Nat × Nat × Nat) : Prop := ∃ (T : u_T) (N : Nat) (ty : Nat → FieldType), vwCl[x.2.1]? = some (eCN x.2.1, T, N) ∧ (∀ w ∈ u_ws (eCN x.2.1) T N, w ∈ Tb1) ∧ (∀ k, k < N → parseFieldDescriptor (T k).2.2.1 = some (ty k)) ∧ (∀ a, a < N → ∀ c, c < N → a ≠ c → (T a).2.1 ≠ (T c).2.1)
  ∧ x.2.2.1 < N ∧ Cond.fieldLink (eCN o) x.1 (T x.2.2.1).1 (T x.2.2.1).2.1 (T x.2.2.1).2.2.1 ∈ Tb1 ∧ (T x.2.2.1).2.2.2 = Nat.ble 10 x.2.2.2 ∧ (Nat.ble 10 x.2.2.2 = true → Nat.blt x.2.2.2 20 = true → (T x.2.2.1).1 = eCN o) ∧ eFk (x.2.2.2 % 10) (ty x.2.2.1)
theorem vfl_0_9 : pFL 0 (9, 0, 0, 12) := ⟨TX0, 10, tyX0, rfl, inT0, tyX0_ok, nmX0, by decide, tbT 325 (by decide +kernel) rfl, rfl, (fun _ _ => rfl), Or.inr (Or.inr (Or.inl ⟨rfl, Or.inr ⟨_, rfl⟩⟩))⟩
theorem vfl_0_15 : pFL 0 (15, 0, 1, 12) := ⟨TX0, 10, tyX0, rfl, inT0, tyX0_ok, nmX0, by decide, tbT 326 (by decide +kernel) rfl, rfl, (fun _ _ => rfl), Or.inr (Or.inr (Or.inl ⟨rfl, Or.inr ⟨_, rfl⟩⟩))⟩
theorem vfl_0_18 : pFL 0 (18, 0, 2, 12) := ⟨TX0, 10, tyX0, rfl, inT0, tyX0_ok, nmX0, by decide, tbT 327 (by decide +kernel) rfl, rfl, (fun _ _ => rfl), Or.inr (Or.inr (Or.inl ⟨rfl, Or.inr ⟨_, rfl⟩⟩))⟩
theorem vfl_0_21 : pFL 0 (21, 0, 3, 12) := ⟨TX0, 10, tyX0, rfl, inT0, tyX0_ok, nmX0, by decide, tbT 328 (by decide +kernel) rfl, rfl, (fun _ _ => rfl), Or.inr (Or.inr (Or.inl ⟨rfl, Or.inr ⟨_, rfl⟩⟩))⟩
theorem vfl_0_24 : pFL 0 (24, 0, 4, 0) := ⟨TX0, 10, tyX0, rfl, inT0, tyX0_ok, nmX0, by decide, tbT 329 (by decide +kernel) rfl, rfl, (fun h => by cases h), Or.inl ⟨rfl, rfl⟩⟩
theorem vfl_0_34 : pFL 0 (34, 7, 4, 0) := ⟨TX7, 11, tyX7, rfl, inT7, tyX7_ok, nmX7, by decide, tbT 105 (by decide +kernel) rfl, rfl, (fun h => by cases h), Or.inl ⟨rfl, rfl⟩⟩
theorem vfl_0_79 : pFL 0 (79, 1, 6, 0) := ⟨TX1, 10, tyX1, rfl, inT1, tyX1_ok, nmX1, by decide, tbT 226 (by decide +kernel) rfl, rfl, (fun h => by cases h), Or.inl ⟨rfl, rfl⟩⟩
theorem vfl_0_84 : pFL 0 (84, 0, 6, 0) := ⟨TX0, 10, tyX0, rfl, inT0, tyX0_ok, nmX0, by decide, tbT 332 (by decide +kernel) rfl, rfl, (fun h => by cases h), Or.inl ⟨rfl, rfl⟩⟩
theorem vfl_0_87 : pFL 0 (87, 0, 7, 0) := ⟨TX0, 10, tyX0, rfl, inT0, tyX0_ok, nmX0, by decide, tbT 334 (by decide +kernel) rfl, rfl, (fun h => by cases h), Or.inl ⟨rfl, rfl⟩⟩
theorem vfl_0_94 : pFL 0 (94, 0, 5, 1) := ⟨TX0, 10, tyX0, rfl, inT0, tyX0_ok, nmX0, by decide, tbT 330 (by decide +kernel) rfl, rfl, (fun h => by cases h), Or.inr (Or.inl ⟨rfl, rfl⟩)⟩
theorem vfl_0_98 : pFL 0 (98, 1, 8, 0) := ⟨TX1, 10, tyX1, rfl, inT1, tyX1_ok, nmX1, by decide, tbT 234 (by decide +kernel) rfl, rfl, (fun h => by cases h), Or.inl ⟨rfl, rfl⟩⟩
theorem vfl_0_101 : pFL 0 (101, 0, 8, 0) := ⟨TX0, 10, tyX0, rfl, inT0, tyX0_ok, nmX0, by decide, tbT 336 (by decide +kernel) rfl, rfl, (fun h => by cases h), Or.inl ⟨rfl, rfl⟩⟩
theorem vfl_0_104 : pFL 0 (104, 0, 9, 0) := ⟨TX0, 10, tyX0, rfl, inT0, tyX0_ok, nmX0, by decide, tbT 338 (by decide +kernel) rfl, rfl, (fun h => by cases h), Or.inl ⟨rfl, rfl⟩⟩
theorem vfl_0 : ∀ x ∈ efl_0, pFL 0 x := List.forall_mem_cons.mpr ⟨vfl_0_9, List.forall_mem_cons.mpr ⟨vfl_0_15, List.forall_mem_cons.mpr ⟨vfl_0_18, List.forall_mem_cons.mpr ⟨vfl_0_21, List.forall_mem_cons.mpr ⟨vfl_0_24, List.forall_mem_cons.mpr ⟨vfl_0_34, List.forall_mem_cons.mpr ⟨vfl_0_79, List.forall_mem_cons.mpr ⟨vfl_0_84, List.forall_mem_cons.mpr ⟨vfl_0_87, List.forall_mem_cons.mpr ⟨vfl_0_94, List.forall_mem_cons.mpr ⟨vfl_0_98, List.forall_mem_cons.mpr ⟨vfl_0_101, List.forall_mem_cons.mpr ⟨vfl_0_104, fun _ h => absurd h List.not_mem_nil⟩⟩⟩⟩⟩⟩⟩⟩⟩⟩⟩⟩⟩
theorem vfl_1_9 : pFL 1 (9, 1, 0, 12) := ⟨TX1, 10, tyX1, rfl, inT1, tyX1_ok, nmX1, by decide, tbT 202 (by decide +kernel) rfl, rfl, (fun _ _ => rfl), Or.inr (Or.inr (Or.inl ⟨rfl, Or.inr ⟨_, rfl⟩⟩))⟩
theorem vfl_1_15 : pFL 1 (15, 1, 1, 12) := ⟨TX1, 10, tyX1, rfl, inT1, tyX1_ok, nmX1, by decide, tbT 207 (by decide +kernel) rfl, rfl, (fun _ _ => rfl), Or.inr (Or.inr (Or.inl ⟨rfl, Or.inr ⟨_, rfl⟩⟩))⟩
theorem vfl_1_18 : pFL 1 (18, 1, 2, 12) := ⟨TX1, 10, tyX1, rfl, inT1, tyX1_ok, nmX1, by decide, tbT 211 (by decide +kernel) rfl, rfl, (fun _ _ => rfl), Or.inr (Or.inr (Or.inl ⟨rfl, Or.inr ⟨_, rfl⟩⟩))⟩
theorem vfl_1_21 : pFL 1 (21, 1, 3, 12) := ⟨TX1, 10, tyX1, rfl, inT1, tyX1_ok, nmX1, by decide, tbT 214 (by decide +kernel) rfl, rfl, (fun _ _ => rfl), Or.inr (Or.inr (Or.inl ⟨rfl, Or.inr ⟨_, rfl⟩⟩))⟩
theorem vfl_1_24 : pFL 1 (24, 1, 4, 12) := ⟨TX1, 10, tyX1, rfl, inT1, tyX1_ok, nmX1, by decide, tbT 217 (by decide +kernel) rfl, rfl, (fun _ _ => rfl), Or.inr (Or.inr (Or.inl ⟨rfl, Or.inr ⟨_, rfl⟩⟩))⟩
theorem vfl_1_33 : pFL 1 (33, 1, 5, 0) := ⟨TX1, 10, tyX1, rfl, inT1, tyX1_ok, nmX1, by decide, tbT 220 (by decide +kernel) rfl, rfl, (fun h => by cases h), Or.inl ⟨rfl, rfl⟩⟩
theorem vfl_1_37 : pFL 1 (37, 1, 6, 0) := ⟨TX1, 10, tyX1, rfl, inT1, tyX1_ok, nmX1, by decide, tbT 225 (by decide +kernel) rfl, rfl, (fun h => by cases h), Or.inl ⟨rfl, rfl⟩⟩
theorem vfl_1_40 : pFL 1 (40, 1, 7, 0) := ⟨TX1, 10, tyX1, rfl, inT1, tyX1_ok, nmX1, by decide, tbT 229 (by decide +kernel) rfl, rfl, (fun h => by cases h), Or.inl ⟨rfl, rfl⟩⟩
theorem vfl_1_43 : pFL 1 (43, 1, 8, 0) := ⟨TX1, 10, tyX1, rfl, inT1, tyX1_ok, nmX1, by decide, tbT 232 (by decide +kernel) rfl, rfl, (fun h => by cases h), Or.inl ⟨rfl, rfl⟩⟩
theorem vfl_1_46 : pFL 1 (46, 1, 9, 0) := ⟨TX1, 10, tyX1, rfl, inT1, tyX1_ok, nmX1, by decide, tbT 235 (by decide +kernel) rfl, rfl, (fun h => by cases h), Or.inl ⟨rfl, rfl⟩⟩
theorem vfl_1 : ∀ x ∈ efl_1, pFL 1 x := List.forall_mem_cons.mpr ⟨vfl_1_9, List.forall_mem_cons.mpr ⟨vfl_1_15, List.forall_mem_cons.mpr ⟨vfl_1_18, List.forall_mem_cons.mpr ⟨vfl_1_21, List.forall_mem_cons.mpr ⟨vfl_1_24, List.forall_mem_cons.mpr ⟨vfl_1_33, List.forall_mem_cons.mpr ⟨vfl_1_37, List.forall_mem_cons.mpr ⟨vfl_1_40, List.forall_mem_cons.mpr ⟨vfl_1_43, List.forall_mem_cons.mpr ⟨vfl_1_46, fun _ h => absurd h List.not_mem_nil⟩⟩⟩⟩⟩⟩⟩⟩⟩⟩
theorem vfl_2 : ∀ x ∈ efl_2, pFL 2 x := fun _ h => absurd h List.not_mem_nil
theorem vfl_3_9 : pFL 3 (9, 3, 0, 12) := ⟨TX3, 2, tyX3, rfl, inT3, tyX3_ok, nmX3, by decide, tbT 395 (by decide +kernel) rfl, rfl, (fun _ _ => rfl), Or.inr (Or.inr (Or.inl ⟨rfl, Or.inr ⟨_, rfl⟩⟩))⟩
theorem vfl_3_15 : pFL 3 (15, 3, 1, 12) := ⟨TX3, 2, tyX3, rfl, inT3, tyX3_ok, nmX3, by decide, tbT 396 (by decide +kernel) rfl, rfl, (fun _ _ => rfl), Or.inr (Or.inr (Or.inl ⟨rfl, Or.inr ⟨_, rfl⟩⟩))⟩
theorem vfl_3_18 : pFL 3 (18, 1, 5, 0) := ⟨TX1, 10, tyX1, rfl, inT1, tyX1_ok, nmX1, by decide, tbT 219 (by decide +kernel) rfl, rfl, (fun h => by cases h), Or.inl ⟨rfl, rfl⟩⟩
theorem vfl_3_24 : pFL 3 (24, 1, 7, 0) := ⟨TX1, 10, tyX1, rfl, inT1, tyX1_ok, nmX1, by decide, tbT 228 (by decide +kernel) rfl, rfl, (fun h => by cases h), Or.inl ⟨rfl, rfl⟩⟩
theorem vfl_3 : ∀ x ∈ efl_3, pFL 3 x := List.forall_mem_cons.mpr ⟨vfl_3_9, List.forall_mem_cons.mpr ⟨vfl_3_15, List.forall_mem_cons.mpr ⟨vfl_3_18, List.forall_mem_cons.mpr ⟨vfl_3_24, fun _ h => absurd h List.not_mem_nil⟩⟩⟩⟩
theorem vfl_4_9 : pFL 4 (9, 4, 0, 12) := ⟨TX4, 8, tyX4, rfl, inT4, tyX4_ok, nmX4, by decide, tbT 408 (by decide +kernel) rfl, rfl, (fun _ _ => rfl), Or.inr (Or.inr (Or.inl ⟨rfl, Or.inr ⟨_, rfl⟩⟩))⟩
theorem vfl_4_15 : pFL 4 (15, 4, 2, 12) := ⟨TX4, 8, tyX4, rfl, inT4, tyX4_ok, nmX4, by decide, tbT 412 (by decide +kernel) rfl, rfl, (fun _ _ => rfl), Or.inr (Or.inr (Or.inl ⟨rfl, Or.inr ⟨_, rfl⟩⟩))⟩
theorem vfl_4_18 : pFL 4 (18, 4, 3, 12) := ⟨TX4, 8, tyX4, rfl, inT4, tyX4_ok, nmX4, by decide, tbT 414 (by decide +kernel) rfl, rfl, (fun _ _ => rfl), Or.inr (Or.inr (Or.inl ⟨rfl, Or.inr ⟨_, rfl⟩⟩))⟩
theorem vfl_4_21 : pFL 4 (21, 4, 5, 12) := ⟨TX4, 8, tyX4, rfl, inT4, tyX4_ok, nmX4, by decide, tbT 418 (by decide +kernel) rfl, rfl, (fun _ _ => rfl), Or.inr (Or.inr (Or.inl ⟨rfl, Or.inr ⟨_, rfl⟩⟩))⟩
theorem vfl_4_24 : pFL 4 (24, 4, 6, 12) := ⟨TX4, 8, tyX4, rfl, inT4, tyX4_ok, nmX4, by decide, tbT 419 (by decide +kernel) rfl, rfl, (fun _ _ => rfl), Or.inr (Or.inr (Or.inl ⟨rfl, Or.inr ⟨_, rfl⟩⟩))⟩
theorem vfl_4_27 : pFL 4 (27, 4, 7, 12) := ⟨TX4, 8, tyX4, rfl, inT4, tyX4_ok, nmX4, by decide, tbT 420 (by decide +kernel) rfl, rfl, (fun _ _ => rfl), Or.inr (Or.inr (Or.inl ⟨rfl, Or.inr ⟨_, rfl⟩⟩))⟩
theorem vfl_4_30 : pFL 4 (30, 4, 1, 0) := ⟨TX4, 8, tyX4, rfl, inT4, tyX4_ok, nmX4, by decide, tbT 410 (by decide +kernel) rfl, rfl, (fun h => by cases h), Or.inl ⟨rfl, rfl⟩⟩
theorem vfl_4_91 : pFL 4 (91, 4, 4, 1) := ⟨TX4, 8, tyX4, rfl, inT4, tyX4_ok, nmX4, by decide, tbT 416 (by decide +kernel) rfl, rfl, (fun h => by cases h), Or.inr (Or.inl ⟨rfl, rfl⟩)⟩
theorem vfl_4 : ∀ x ∈ efl_4, pFL 4 x := List.forall_mem_cons.mpr ⟨vfl_4_9, List.forall_mem_cons.mpr ⟨vfl_4_15, List.forall_mem_cons.mpr ⟨vfl_4_18, List.forall_mem_cons.mpr ⟨vfl_4_21, List.forall_mem_cons.mpr ⟨vfl_4_24, List.forall_mem_cons.mpr ⟨vfl_4_27, List.forall_mem_cons.mpr ⟨vfl_4_30, List.forall_mem_cons.mpr ⟨vfl_4_91, fun _ h => absurd h List.not_mem_nil⟩⟩⟩⟩⟩⟩⟩⟩
theorem vfl_5_13 : pFL 5 (13, 5, 0, 12) := ⟨TX5, 3, tyX5, rfl, inT5, tyX5_ok, nmX5, by decide, tbT 267 (by decide +kernel) rfl, rfl, (fun _ _ => rfl), Or.inr (Or.inr (Or.inl ⟨rfl, Or.inr ⟨_, rfl⟩⟩))⟩
theorem vfl_5_18 : pFL 5 (18, 5, 1, 0) := ⟨TX5, 3, tyX5, rfl, inT5, tyX5_ok, nmX5, by decide, tbT 268 (by decide +kernel) rfl, rfl, (fun h => by cases h), Or.inl ⟨rfl, rfl⟩⟩
theorem vfl_5_22 : pFL 5 (22, 5, 2, 0) := ⟨TX5, 3, tyX5, rfl, inT5, tyX5_ok, nmX5, by decide, tbT 269 (by decide +kernel) rfl, rfl, (fun h => by cases h), Or.inl ⟨rfl, rfl⟩⟩
theorem vfl_5 : ∀ x ∈ efl_5, pFL 5 x := List.forall_mem_cons.mpr ⟨vfl_5_13, List.forall_mem_cons.mpr ⟨vfl_5_18, List.forall_mem_cons.mpr ⟨vfl_5_22, fun _ h => absurd h List.not_mem_nil⟩⟩⟩
theorem vfl_6_11 : pFL 6 (11, 6, 0, 12) := ⟨TX6, 5, tyX6, rfl, inT6, tyX6_ok, nmX6, by decide, tbT 283 (by decide +kernel) rfl, rfl, (fun _ _ => rfl), Or.inr (Or.inr (Or.inl ⟨rfl, Or.inr ⟨_, rfl⟩⟩))⟩
theorem vfl_6_15 : pFL 6 (15, 6, 1, 12) := ⟨TX6, 5, tyX6, rfl, inT6, tyX6_ok, nmX6, by decide, tbT 284 (by decide +kernel) rfl, rfl, (fun _ _ => rfl), Or.inr (Or.inr (Or.inl ⟨rfl, Or.inr ⟨_, rfl⟩⟩))⟩
theorem vfl_6_18 : pFL 6 (18, 6, 2, 12) := ⟨TX6, 5, tyX6, rfl, inT6, tyX6_ok, nmX6, by decide, tbT 285 (by decide +kernel) rfl, rfl, (fun _ _ => rfl), Or.inr (Or.inr (Or.inl ⟨rfl, Or.inr ⟨_, rfl⟩⟩))⟩
theorem vfl_6_21 : pFL 6 (21, 6, 3, 0) := ⟨TX6, 5, tyX6, rfl, inT6, tyX6_ok, nmX6, by decide, tbT 286 (by decide +kernel) rfl, rfl, (fun h => by cases h), Or.inl ⟨rfl, rfl⟩⟩
theorem vfl_6_25 : pFL 6 (25, 6, 4, 0) := ⟨TX6, 5, tyX6, rfl, inT6, tyX6_ok, nmX6, by decide, tbT 287 (by decide +kernel) rfl, rfl, (fun h => by cases h), Or.inl ⟨rfl, rfl⟩⟩
theorem vfl_6 : ∀ x ∈ efl_6, pFL 6 x := List.forall_mem_cons.mpr ⟨vfl_6_11, List.forall_mem_cons.mpr ⟨vfl_6_15, List.forall_mem_cons.mpr ⟨vfl_6_18, List.forall_mem_cons.mpr ⟨vfl_6_21, List.forall_mem_cons.mpr ⟨vfl_6_25, fun _ h => absurd h List.not_mem_nil⟩⟩⟩⟩⟩
theorem vfl_7_9 : pFL 7 (9, 7, 0, 12) := ⟨TX7, 11, tyX7, rfl, inT7, tyX7_ok, nmX7, by decide, tbT 98 (by decide +kernel) rfl, rfl, (fun _ _ => rfl), Or.inr (Or.inr (Or.inl ⟨rfl, Or.inr ⟨_, rfl⟩⟩))⟩
theorem vfl_7_15 : pFL 7 (15, 7, 8, 12) := ⟨TX7, 11, tyX7, rfl, inT7, tyX7_ok, nmX7, by decide, tbT 114 (by decide +kernel) rfl, rfl, (fun _ _ => rfl), Or.inr (Or.inr (Or.inl ⟨rfl, Or.inr ⟨_, rfl⟩⟩))⟩
theorem vfl_7_45 : pFL 7 (45, 7, 1, 0) := ⟨TX7, 11, tyX7, rfl, inT7, tyX7_ok, nmX7, by decide, tbT 100 (by decide +kernel) rfl, rfl, (fun h => by cases h), Or.inl ⟨rfl, rfl⟩⟩
theorem vfl_7_48 : pFL 7 (48, 7, 9, 0) := ⟨TX7, 11, tyX7, rfl, inT7, tyX7_ok, nmX7, by decide, tbT 115 (by decide +kernel) rfl, rfl, (fun h => by cases h), Or.inl ⟨rfl, rfl⟩⟩
theorem vfl_7_51 : pFL 7 (51, 7, 10, 0) := ⟨TX7, 11, tyX7, rfl, inT7, tyX7_ok, nmX7, by decide, tbT 116 (by decide +kernel) rfl, rfl, (fun h => by cases h), Or.inl ⟨rfl, rfl⟩⟩
theorem vfl_7_54 : pFL 7 (54, 7, 2, 0) := ⟨TX7, 11, tyX7, rfl, inT7, tyX7_ok, nmX7, by decide, tbT 102 (by decide +kernel) rfl, rfl, (fun h => by cases h), Or.inl ⟨rfl, rfl⟩⟩
theorem vfl_7_57 : pFL 7 (57, 7, 3, 0) := ⟨TX7, 11, tyX7, rfl, inT7, tyX7_ok, nmX7, by decide, tbT 104 (by decide +kernel) rfl, rfl, (fun h => by cases h), Or.inl ⟨rfl, rfl⟩⟩
theorem vfl_7_77 : pFL 7 (77, 7, 6, 0) := ⟨TX7, 11, tyX7, rfl, inT7, tyX7_ok, nmX7, by decide, tbT 110 (by decide +kernel) rfl, rfl, (fun h => by cases h), Or.inl ⟨rfl, rfl⟩⟩
theorem vfl_7_80 : pFL 7 (80, 7, 5, 0) := ⟨TX7, 11, tyX7, rfl, inT7, tyX7_ok, nmX7, by decide, tbT 109 (by decide +kernel) rfl, rfl, (fun h => by cases h), Or.inl ⟨rfl, rfl⟩⟩
theorem vfl_7_83 : pFL 7 (83, 7, 4, 0) := ⟨TX7, 11, tyX7, rfl, inT7, tyX7_ok, nmX7, by decide, tbT 108 (by decide +kernel) rfl, rfl, (fun h => by cases h), Or.inl ⟨rfl, rfl⟩⟩
theorem vfl_7 : ∀ x ∈ efl_7, pFL 7 x := List.forall_mem_cons.mpr ⟨vfl_7_9, List.forall_mem_cons.mpr ⟨vfl_7_15, List.forall_mem_cons.mpr ⟨vfl_7_45, List.forall_mem_cons.mpr ⟨vfl_7_48, List.forall_mem_cons.mpr ⟨vfl_7_51, List.forall_mem_cons.mpr ⟨vfl_7_54, List.forall_mem_cons.mpr ⟨vfl_7_57, List.forall_mem_cons.mpr ⟨vfl_7_77, List.forall_mem_cons.mpr ⟨vfl_7_80, List.forall_mem_cons.mpr ⟨vfl_7_83, fun _ h => absurd h List.not_mem_nil⟩⟩⟩⟩⟩⟩⟩⟩⟩⟩
theorem vfl_8_9 : pFL 8 (9, 8, 0, 12) := ⟨TX8, 10, tyX8, rfl, inT8, tyX8_ok, nmX8, by decide, tbT 148 (by decide +kernel) rfl, rfl, (fun _ _ => rfl), Or.inr (Or.inr (Or.inl ⟨rfl, Or.inr ⟨_, rfl⟩⟩))⟩
theorem vfl_8_15 : pFL 8 (15, 8, 1, 12) := ⟨TX8, 10, tyX8, rfl, inT8, tyX8_ok, nmX8, by decide, tbT 149 (by decide +kernel) rfl, rfl, (fun _ _ => rfl), Or.inr (Or.inr (Or.inl ⟨rfl, Or.inr ⟨_, rfl⟩⟩))⟩
theorem vfl_8_19 : pFL 8 (19, 8, 2, 12) := ⟨TX8, 10, tyX8, rfl, inT8, tyX8_ok, nmX8, by decide, tbT 150 (by decide +kernel) rfl, rfl, (fun _ _ => rfl), Or.inr (Or.inr (Or.inl ⟨rfl, Or.inr ⟨_, rfl⟩⟩))⟩
theorem vfl_8_22 : pFL 8 (22, 8, 3, 12) := ⟨TX8, 10, tyX8, rfl, inT8, tyX8_ok, nmX8, by decide, tbT 151 (by decide +kernel) rfl, rfl, (fun _ _ => rfl), Or.inr (Or.inr (Or.inl ⟨rfl, Or.inr ⟨_, rfl⟩⟩))⟩
theorem vfl_8_25 : pFL 8 (25, 8, 4, 12) := ⟨TX8, 10, tyX8, rfl, inT8, tyX8_ok, nmX8, by decide, tbT 152 (by decide +kernel) rfl, rfl, (fun _ _ => rfl), Or.inr (Or.inr (Or.inl ⟨rfl, Or.inr ⟨_, rfl⟩⟩))⟩
theorem vfl_8_28 : pFL 8 (28, 8, 5, 12) := ⟨TX8, 10, tyX8, rfl, inT8, tyX8_ok, nmX8, by decide, tbT 155 (by decide +kernel) rfl, rfl, (fun _ _ => rfl), Or.inr (Or.inr (Or.inl ⟨rfl, Or.inr ⟨_, rfl⟩⟩))⟩
theorem vfl_8_31 : pFL 8 (31, 8, 6, 12) := ⟨TX8, 10, tyX8, rfl, inT8, tyX8_ok, nmX8, by decide, tbT 158 (by decide +kernel) rfl, rfl, (fun _ _ => rfl), Or.inr (Or.inr (Or.inl ⟨rfl, Or.inr ⟨_, rfl⟩⟩))⟩
theorem vfl_8_34 : pFL 8 (34, 8, 7, 12) := ⟨TX8, 10, tyX8, rfl, inT8, tyX8_ok, nmX8, by decide, tbT 161 (by decide +kernel) rfl, rfl, (fun _ _ => rfl), Or.inr (Or.inr (Or.inl ⟨rfl, Or.inr ⟨_, rfl⟩⟩))⟩
theorem vfl_8_43 : pFL 8 (43, 8, 8, 0) := ⟨TX8, 10, tyX8, rfl, inT8, tyX8_ok, nmX8, by decide, tbT 162 (by decide +kernel) rfl, rfl, (fun h => by cases h), Or.inl ⟨rfl, rfl⟩⟩
theorem vfl_8_47 : pFL 8 (47, 8, 9, 0) := ⟨TX8, 10, tyX8, rfl, inT8, tyX8_ok, nmX8, by decide, tbT 167 (by decide +kernel) rfl, rfl, (fun h => by cases h), Or.inl ⟨rfl, rfl⟩⟩
theorem vfl_8 : ∀ x ∈ efl_8, pFL 8 x := List.forall_mem_cons.mpr ⟨vfl_8_9, List.forall_mem_cons.mpr ⟨vfl_8_15, List.forall_mem_cons.mpr ⟨vfl_8_19, List.forall_mem_cons.mpr ⟨vfl_8_22, List.forall_mem_cons.mpr ⟨vfl_8_25, List.forall_mem_cons.mpr ⟨vfl_8_28, List.forall_mem_cons.mpr ⟨vfl_8_31, List.forall_mem_cons.mpr ⟨vfl_8_34, List.forall_mem_cons.mpr ⟨vfl_8_43, List.forall_mem_cons.mpr ⟨vfl_8_47, fun _ h => absurd h List.not_mem_nil⟩⟩⟩⟩⟩⟩⟩⟩⟩⟩
theorem vfl_9_12 : pFL 9 (12, 9, 0, 12) := ⟨TX9, 2, tyX9, rfl, inT9, tyX9_ok, nmX9, by decide, tbT 310 (by decide +kernel) rfl, rfl, (fun _ _ => rfl), Or.inr (Or.inr (Or.inl ⟨rfl, Or.inl ⟨_, rfl⟩⟩))⟩
theorem vfl_9_21 : pFL 9 (21, 9, 1, 12) := ⟨TX9, 2, tyX9, rfl, inT9, tyX9_ok, nmX9, by decide, tbT 312 (by decide +kernel) rfl, rfl, (fun _ _ => rfl), Or.inr (Or.inr (Or.inl ⟨rfl, Or.inl ⟨_, rfl⟩⟩))⟩
theorem vfl_9_35 : pFL 9 (35, 7, 4, 0) := ⟨TX7, 11, tyX7, rfl, inT7, tyX7_ok, nmX7, by decide, tbT 106 (by decide +kernel) rfl, rfl, (fun h => by cases h), Or.inl ⟨rfl, rfl⟩⟩
theorem vfl_9 : ∀ x ∈ efl_9, pFL 9 x := List.forall_mem_cons.mpr ⟨vfl_9_12, List.forall_mem_cons.mpr ⟨vfl_9_21, List.forall_mem_cons.mpr ⟨vfl_9_35, fun _ h => absurd h List.not_mem_nil⟩⟩⟩
theorem vfl_10_9 : pFL 10 (9, 10, 0, 12) := ⟨TX10, 6, tyX10, rfl, inT10, tyX10_ok, nmX10, by decide, tbT 367 (by decide +kernel) rfl, rfl, (fun _ _ => rfl), Or.inr (Or.inr (Or.inl ⟨rfl, Or.inr ⟨_, rfl⟩⟩))⟩
theorem vfl_10_15 : pFL 10 (15, 10, 1, 12) := ⟨TX10, 6, tyX10, rfl, inT10, tyX10_ok, nmX10, by decide, tbT 368 (by decide +kernel) rfl, rfl, (fun _ _ => rfl), Or.inr (Or.inr (Or.inl ⟨rfl, Or.inr ⟨_, rfl⟩⟩))⟩
theorem vfl_10_18 : pFL 10 (18, 10, 2, 12) := ⟨TX10, 6, tyX10, rfl, inT10, tyX10_ok, nmX10, by decide, tbT 369 (by decide +kernel) rfl, rfl, (fun _ _ => rfl), Or.inr (Or.inr (Or.inl ⟨rfl, Or.inr ⟨_, rfl⟩⟩))⟩
theorem vfl_10_21 : pFL 10 (21, 10, 3, 12) := ⟨TX10, 6, tyX10, rfl, inT10, tyX10_ok, nmX10, by decide, tbT 370 (by decide +kernel) rfl, rfl, (fun _ _ => rfl), Or.inr (Or.inr (Or.inl ⟨rfl, Or.inr ⟨_, rfl⟩⟩))⟩
theorem vfl_10_24 : pFL 10 (24, 10, 5, 0) := ⟨TX10, 6, tyX10, rfl, inT10, tyX10_ok, nmX10, by decide, tbT 374 (by decide +kernel) rfl, rfl, (fun h => by cases h), Or.inl ⟨rfl, rfl⟩⟩
theorem vfl_10 : ∀ x ∈ efl_10, pFL 10 x := List.forall_mem_cons.mpr ⟨vfl_10_9, List.forall_mem_cons.mpr ⟨vfl_10_15, List.forall_mem_cons.mpr ⟨vfl_10_18, List.forall_mem_cons.mpr ⟨vfl_10_21, List.forall_mem_cons.mpr ⟨vfl_10_24, fun _ h => absurd h List.not_mem_nil⟩⟩⟩⟩⟩
theorem vfl_11_10 : pFL 11 (10, 11, 0, 12) := ⟨TX11, 17, tyX11, rfl, inT11, tyX11_ok, nmX11, by decide, tbT 450 (by decide +kernel) rfl, rfl, (fun _ _ => rfl), Or.inr (Or.inr (Or.inl ⟨rfl, Or.inl ⟨_, rfl⟩⟩))⟩
theorem vfl_11_19 : pFL 11 (19, 11, 1, 12) := ⟨TX11, 17, tyX11, rfl, inT11, tyX11_ok, nmX11, by decide, tbT 451 (by decide +kernel) rfl, rfl, (fun _ _ => rfl), Or.inr (Or.inr (Or.inl ⟨rfl, Or.inl ⟨_, rfl⟩⟩))⟩
theorem vfl_11_26 : pFL 11 (26, 11, 2, 12) := ⟨TX11, 17, tyX11, rfl, inT11, tyX11_ok, nmX11, by decide, tbT 452 (by decide +kernel) rfl, rfl, (fun _ _ => rfl), Or.inr (Or.inr (Or.inl ⟨rfl, Or.inl ⟨_, rfl⟩⟩))⟩
theorem vfl_11_30 : pFL 11 (30, 11, 3, 12) := ⟨TX11, 17, tyX11, rfl, inT11, tyX11_ok, nmX11, by decide, tbT 453 (by decide +kernel) rfl, rfl, (fun _ _ => rfl), Or.inr (Or.inr (Or.inl ⟨rfl, Or.inl ⟨_, rfl⟩⟩))⟩
theorem vfl_11_36 : pFL 11 (36, 11, 4, 12) := ⟨TX11, 17, tyX11, rfl, inT11, tyX11_ok, nmX11, by decide, tbT 454 (by decide +kernel) rfl, rfl, (fun _ _ => rfl), Or.inr (Or.inr (Or.inl ⟨rfl, Or.inl ⟨_, rfl⟩⟩))⟩
theorem vfl_11_43 : pFL 11 (43, 11, 5, 12) := ⟨TX11, 17, tyX11, rfl, inT11, tyX11_ok, nmX11, by decide, tbT 455 (by decide +kernel) rfl, rfl, (fun _ _ => rfl), Or.inr (Or.inr (Or.inl ⟨rfl, Or.inl ⟨_, rfl⟩⟩))⟩
theorem vfl_11_47 : pFL 11 (47, 11, 6, 12) := ⟨TX11, 17, tyX11, rfl, inT11, tyX11_ok, nmX11, by decide, tbT 456 (by decide +kernel) rfl, rfl, (fun _ _ => rfl), Or.inr (Or.inr (Or.inl ⟨rfl, Or.inl ⟨_, rfl⟩⟩))⟩
theorem vfl_11_53 : pFL 11 (53, 11, 7, 12) := ⟨TX11, 17, tyX11, rfl, inT11, tyX11_ok, nmX11, by decide, tbT 457 (by decide +kernel) rfl, rfl, (fun _ _ => rfl), Or.inr (Or.inr (Or.inl ⟨rfl, Or.inl ⟨_, rfl⟩⟩))⟩
theorem vfl_11_60 : pFL 11 (60, 11, 8, 12) := ⟨TX11, 17, tyX11, rfl, inT11, tyX11_ok, nmX11, by decide, tbT 458 (by decide +kernel) rfl, rfl, (fun _ _ => rfl), Or.inr (Or.inr (Or.inl ⟨rfl, Or.inl ⟨_, rfl⟩⟩))⟩
theorem vfl_11_67 : pFL 11 (67, 11, 9, 12) := ⟨TX11, 17, tyX11, rfl, inT11, tyX11_ok, nmX11, by decide, tbT 459 (by decide +kernel) rfl, rfl, (fun _ _ => rfl), Or.inr (Or.inr (Or.inl ⟨rfl, Or.inl ⟨_, rfl⟩⟩))⟩
theorem vfl_11_74 : pFL 11 (74, 11, 10, 12) := ⟨TX11, 17, tyX11, rfl, inT11, tyX11_ok, nmX11, by decide, tbT 460 (by decide +kernel) rfl, rfl, (fun _ _ => rfl), Or.inr (Or.inr (Or.inl ⟨rfl, Or.inl ⟨_, rfl⟩⟩))⟩
theorem vfl_11_81 : pFL 11 (81, 11, 11, 12) := ⟨TX11, 17, tyX11, rfl, inT11, tyX11_ok, nmX11, by decide, tbT 461 (by decide +kernel) rfl, rfl, (fun _ _ => rfl), Or.inr (Or.inr (Or.inl ⟨rfl, Or.inl ⟨_, rfl⟩⟩))⟩
theorem vfl_11_88 : pFL 11 (88, 11, 12, 12) := ⟨TX11, 17, tyX11, rfl, inT11, tyX11_ok, nmX11, by decide, tbT 462 (by decide +kernel) rfl, rfl, (fun _ _ => rfl), Or.inr (Or.inr (Or.inl ⟨rfl, Or.inl ⟨_, rfl⟩⟩))⟩
theorem vfl_11_92 : pFL 11 (92, 11, 13, 12) := ⟨TX11, 17, tyX11, rfl, inT11, tyX11_ok, nmX11, by decide, tbT 463 (by decide +kernel) rfl, rfl, (fun _ _ => rfl), Or.inr (Or.inr (Or.inl ⟨rfl, Or.inr ⟨_, rfl⟩⟩))⟩
theorem vfl_11_96 : pFL 11 (96, 11, 14, 12) := ⟨TX11, 17, tyX11, rfl, inT11, tyX11_ok, nmX11, by decide, tbT 464 (by decide +kernel) rfl, rfl, (fun _ _ => rfl), Or.inr (Or.inr (Or.inl ⟨rfl, Or.inr ⟨_, rfl⟩⟩))⟩
theorem vfl_11_100 : pFL 11 (100, 11, 15, 12) := ⟨TX11, 17, tyX11, rfl, inT11, tyX11_ok, nmX11, by decide, tbT 465 (by decide +kernel) rfl, rfl, (fun _ _ => rfl), Or.inr (Or.inr (Or.inl ⟨rfl, Or.inr ⟨_, rfl⟩⟩))⟩
theorem vfl_11_104 : pFL 11 (104, 7, 1, 0) := ⟨TX7, 11, tyX7, rfl, inT7, tyX7_ok, nmX7, by decide, tbT 99 (by decide +kernel) rfl, rfl, (fun h => by cases h), Or.inl ⟨rfl, rfl⟩⟩
theorem vfl_11_116 : pFL 11 (116, 7, 3, 0) := ⟨TX7, 11, tyX7, rfl, inT7, tyX7_ok, nmX7, by decide, tbT 103 (by decide +kernel) rfl, rfl, (fun h => by cases h), Or.inl ⟨rfl, rfl⟩⟩
theorem vfl_11_119 : pFL 11 (119, 9, 0, 22) := ⟨TX9, 2, tyX9, rfl, inT9, tyX9_ok, nmX9, by decide, tbT 311 (by decide +kernel) rfl, rfl, (fun _ h => by cases h), Or.inr (Or.inr (Or.inl ⟨rfl, Or.inl ⟨_, rfl⟩⟩))⟩
theorem vfl_11_126 : pFL 11 (126, 9, 1, 22) := ⟨TX9, 2, tyX9, rfl, inT9, tyX9_ok, nmX9, by decide, tbT 313 (by decide +kernel) rfl, rfl, (fun _ h => by cases h), Or.inr (Or.inr (Or.inl ⟨rfl, Or.inl ⟨_, rfl⟩⟩))⟩
theorem vfl_11_136 : pFL 11 (136, 7, 2, 0) := ⟨TX7, 11, tyX7, rfl, inT7, tyX7_ok, nmX7, by decide, tbT 101 (by decide +kernel) rfl, rfl, (fun h => by cases h), Or.inl ⟨rfl, rfl⟩⟩
theorem vfl_11_157 : pFL 11 (157, 1, 5, 0) := ⟨TX1, 10, tyX1, rfl, inT1, tyX1_ok, nmX1, by decide, tbT 223 (by decide +kernel) rfl, rfl, (fun h => by cases h), Or.inl ⟨rfl, rfl⟩⟩
theorem vfl_11_205 : pFL 11 (205, 8, 9, 0) := ⟨TX8, 10, tyX8, rfl, inT8, tyX8_ok, nmX8, by decide, tbT 169 (by decide +kernel) rfl, rfl, (fun h => by cases h), Or.inl ⟨rfl, rfl⟩⟩
theorem vfl_11_211 : pFL 11 (211, 1, 8, 0) := ⟨TX1, 10, tyX1, rfl, inT1, tyX1_ok, nmX1, by decide, tbT 233 (by decide +kernel) rfl, rfl, (fun h => by cases h), Or.inl ⟨rfl, rfl⟩⟩
theorem vfl_11_214 : pFL 11 (214, 1, 6, 0) := ⟨TX1, 10, tyX1, rfl, inT1, tyX1_ok, nmX1, by decide, tbT 227 (by decide +kernel) rfl, rfl, (fun h => by cases h), Or.inl ⟨rfl, rfl⟩⟩
theorem vfl_11_217 : pFL 11 (217, 1, 9, 0) := ⟨TX1, 10, tyX1, rfl, inT1, tyX1_ok, nmX1, by decide, tbT 236 (by decide +kernel) rfl, rfl, (fun h => by cases h), Or.inl ⟨rfl, rfl⟩⟩
theorem vfl_11_226 : pFL 11 (226, 8, 8, 0) := ⟨TX8, 10, tyX8, rfl, inT8, tyX8_ok, nmX8, by decide, tbT 165 (by decide +kernel) rfl, rfl, (fun h => by cases h), Or.inl ⟨rfl, rfl⟩⟩
theorem vfl_11_292 : pFL 11 (292, 10, 4, 0) := ⟨TX10, 6, tyX10, rfl, inT10, tyX10_ok, nmX10, by decide, tbT 373 (by decide +kernel) rfl, rfl, (fun h => by cases h), Or.inl ⟨rfl, rfl⟩⟩
theorem vfl_11_306 : pFL 11 (306, 10, 5, 0) := ⟨TX10, 6, tyX10, rfl, inT10, tyX10_ok, nmX10, by decide, tbT 375 (by decide +kernel) rfl, rfl, (fun h => by cases h), Or.inl ⟨rfl, rfl⟩⟩
theorem vfl_11_352 : pFL 11 (352, 4, 1, 0) := ⟨TX4, 8, tyX4, rfl, inT4, tyX4_ok, nmX4, by decide, tbT 411 (by decide +kernel) rfl, rfl, (fun h => by cases h), Or.inl ⟨rfl, rfl⟩⟩
theorem vfl_11_359 : pFL 11 (359, 4, 4, 1) := ⟨TX4, 8, tyX4, rfl, inT4, tyX4_ok, nmX4, by decide, tbT 417 (by decide +kernel) rfl, rfl, (fun h => by cases h), Or.inr (Or.inl ⟨rfl, rfl⟩)⟩
theorem vfl_11_393 : pFL 11 (393, 0, 5, 1) := ⟨TX0, 10, tyX0, rfl, inT0, tyX0_ok, nmX0, by decide, tbT 331 (by decide +kernel) rfl, rfl, (fun h => by cases h), Or.inr (Or.inl ⟨rfl, rfl⟩)⟩
theorem vfl_11_412 : pFL 11 (412, 6, 4, 0) := ⟨TX6, 5, tyX6, rfl, inT6, tyX6_ok, nmX6, by decide, tbT 288 (by decide +kernel) rfl, rfl, (fun h => by cases h), Or.inl ⟨rfl, rfl⟩⟩
theorem vfl_11_418 : pFL 11 (418, 11, 16, 0) := ⟨TX11, 17, tyX11, rfl, inT11, tyX11_ok, nmX11, by decide, tbT 466 (by decide +kernel) rfl, rfl, (fun h => by cases h), Or.inl ⟨rfl, rfl⟩⟩
theorem vfl_11 : ∀ x ∈ efl_11, pFL 11 x := List.forall_mem_cons.mpr ⟨vfl_11_10, List.forall_mem_cons.mpr ⟨vfl_11_19, List.forall_mem_cons.mpr ⟨vfl_11_26, List.forall_mem_cons.mpr ⟨vfl_11_30, List.forall_mem_cons.mpr ⟨vfl_11_36, List.forall_mem_cons.mpr ⟨vfl_11_43, List.forall_mem_cons.mpr ⟨vfl_11_47, List.forall_mem_cons.mpr ⟨vfl_11_53, List.forall_mem_cons.mpr ⟨vfl_11_60, List.forall_mem_cons.mpr ⟨vfl_11_67, List.forall_mem_cons.mpr ⟨vfl_11_74, List.forall_mem_cons.mpr ⟨vfl_11_81, List.forall_mem_cons.mpr ⟨vfl_11_88, List.forall_mem_cons.mpr ⟨vfl_11_92, List.forall_mem_cons.mpr ⟨vfl_11_96, List.forall_mem_cons.mpr ⟨vfl_11_100, List.forall_mem_cons.mpr ⟨vfl_11_104, List.forall_mem_cons.mpr ⟨vfl_11_116, List.forall_mem_cons.mpr ⟨vfl_11_119, List.forall_mem_cons.mpr ⟨vfl_11_126, List.forall_mem_cons.mpr ⟨vfl_11_136, List.forall_mem_cons.mpr ⟨vfl_11_157, List.forall_mem_cons.mpr ⟨vfl_11_205, List.forall_mem_cons.mpr ⟨vfl_11_211, List.forall_mem_cons.mpr ⟨vfl_11_214, List.forall_mem_cons.mpr ⟨vfl_11_217, List.forall_mem_cons.mpr ⟨vfl_11_226, List.forall_mem_cons.mpr ⟨vfl_11_292, List.forall_mem_cons.mpr ⟨vfl_11_306, List.forall_mem_cons.mpr ⟨vfl_11_352, List.forall_mem_cons.mpr ⟨vfl_11_359, List.forall_mem_cons.mpr ⟨vfl_11_393, List.forall_mem_cons.mpr ⟨vfl_11_412, List.forall_mem_cons.mpr ⟨vfl_11_418, fun _ h => absurd h List.not_mem_nil⟩⟩⟩⟩⟩⟩⟩⟩⟩⟩⟩⟩⟩⟩⟩⟩⟩⟩⟩⟩⟩⟩⟩⟩⟩⟩⟩⟩⟩⟩⟩⟩⟩⟩
theorem vfl_12_1 : pFL 12 (1, 12, 0, 0) := ⟨TX12, 55, tyX12, rfl, inT12, tyX12_ok, nmX12, by decide, tbT 1412 (by decide +kernel) rfl, rfl, (fun h => by cases h), Or.inl ⟨rfl, rfl⟩⟩
theorem vfl_12_7 : pFL 12 (7, 12, 2, 0) := ⟨TX12, 55, tyX12, rfl, inT12, tyX12_ok, nmX12, by decide, tbT 1414 (by decide +kernel) rfl, rfl, (fun h => by cases h), Or.inl ⟨rfl, rfl⟩⟩
theorem vfl_12_14 : pFL 12 (14, 12, 1, 12) := ⟨TX12, 55, tyX12, rfl, inT12, tyX12_ok, nmX12, by decide, tbT 1413 (by decide +kernel) rfl, rfl, (fun _ _ => rfl), Or.inr (Or.inr (Or.inl ⟨rfl, Or.inr ⟨_, rfl⟩⟩))⟩
theorem vfl_12_18 : pFL 12 (18, 12, 3, 0) := ⟨TX12, 55, tyX12, rfl, inT12, tyX12_ok, nmX12, by decide, tbT 1415 (by decide +kernel) rfl, rfl, (fun h => by cases h), Or.inl ⟨rfl, rfl⟩⟩
theorem vfl_12_21 : pFL 12 (21, 12, 4, 0) := ⟨TX12, 55, tyX12, rfl, inT12, tyX12_ok, nmX12, by decide, tbT 1416 (by decide +kernel) rfl, rfl, (fun h => by cases h), Or.inl ⟨rfl, rfl⟩⟩
theorem vfl_12_24 : pFL 12 (24, 12, 5, 0) := ⟨TX12, 55, tyX12, rfl, inT12, tyX12_ok, nmX12, by decide, tbT 1417 (by decide +kernel) rfl, rfl, (fun h => by cases h), Or.inl ⟨rfl, rfl⟩⟩
theorem vfl_12_33 : pFL 12 (33, 12, 6, 12) := ⟨TX12, 55, tyX12, rfl, inT12, tyX12_ok, nmX12, by decide, tbT 1418 (by decide +kernel) rfl, rfl, (fun _ _ => rfl), Or.inr (Or.inr (Or.inl ⟨rfl, Or.inr ⟨_, rfl⟩⟩))⟩
theorem vfl_12_37 : pFL 12 (37, 12, 7, 12) := ⟨TX12, 55, tyX12, rfl, inT12, tyX12_ok, nmX12, by decide, tbT 1419 (by decide +kernel) rfl, rfl, (fun _ _ => rfl), Or.inr (Or.inr (Or.inl ⟨rfl, Or.inr ⟨_, rfl⟩⟩))⟩
theorem vfl_12_40 : pFL 12 (40, 12, 8, 12) := ⟨TX12, 55, tyX12, rfl, inT12, tyX12_ok, nmX12, by decide, tbT 1420 (by decide +kernel) rfl, rfl, (fun _ _ => rfl), Or.inr (Or.inr (Or.inl ⟨rfl, Or.inr ⟨_, rfl⟩⟩))⟩
theorem vfl_12_43 : pFL 12 (43, 12, 9, 12) := ⟨TX12, 55, tyX12, rfl, inT12, tyX12_ok, nmX12, by decide, tbT 1421 (by decide +kernel) rfl, rfl, (fun _ _ => rfl), Or.inr (Or.inr (Or.inl ⟨rfl, Or.inr ⟨_, rfl⟩⟩))⟩
theorem vfl_12_47 : pFL 12 (47, 12, 10, 12) := ⟨TX12, 55, tyX12, rfl, inT12, tyX12_ok, nmX12, by decide, tbT 1422 (by decide +kernel) rfl, rfl, (fun _ _ => rfl), Or.inr (Or.inr (Or.inl ⟨rfl, Or.inr ⟨_, rfl⟩⟩))⟩
theorem vfl_12_50 : pFL 12 (50, 12, 20, 12) := ⟨TX12, 55, tyX12, rfl, inT12, tyX12_ok, nmX12, by decide, tbT 1432 (by decide +kernel) rfl, rfl, (fun _ _ => rfl), Or.inr (Or.inr (Or.inl ⟨rfl, Or.inr ⟨_, rfl⟩⟩))⟩
theorem vfl_12_53 : pFL 12 (53, 12, 21, 12) := ⟨TX12, 55, tyX12, rfl, inT12, tyX12_ok, nmX12, by decide, tbT 1433 (by decide +kernel) rfl, rfl, (fun _ _ => rfl), Or.inr (Or.inr (Or.inl ⟨rfl, Or.inr ⟨_, rfl⟩⟩))⟩
theorem vfl_12_56 : pFL 12 (56, 12, 23, 12) := ⟨TX12, 55, tyX12, rfl, inT12, tyX12_ok, nmX12, by decide, tbT 1435 (by decide +kernel) rfl, rfl, (fun _ _ => rfl), Or.inr (Or.inr (Or.inl ⟨rfl, Or.inr ⟨_, rfl⟩⟩))⟩
theorem vfl_12_59 : pFL 12 (59, 12, 24, 12) := ⟨TX12, 55, tyX12, rfl, inT12, tyX12_ok, nmX12, by decide, tbT 1436 (by decide +kernel) rfl, rfl, (fun _ _ => rfl), Or.inr (Or.inr (Or.inl ⟨rfl, Or.inr ⟨_, rfl⟩⟩))⟩
theorem vfl_12_62 : pFL 12 (62, 12, 25, 12) := ⟨TX12, 55, tyX12, rfl, inT12, tyX12_ok, nmX12, by decide, tbT 1437 (by decide +kernel) rfl, rfl, (fun _ _ => rfl), Or.inr (Or.inr (Or.inl ⟨rfl, Or.inr ⟨_, rfl⟩⟩))⟩
theorem vfl_12_65 : pFL 12 (65, 12, 29, 12) := ⟨TX12, 55, tyX12, rfl, inT12, tyX12_ok, nmX12, by decide, tbT 1441 (by decide +kernel) rfl, rfl, (fun _ _ => rfl), Or.inr (Or.inr (Or.inl ⟨rfl, Or.inr ⟨_, rfl⟩⟩))⟩
theorem vfl_12_68 : pFL 12 (68, 12, 30, 12) := ⟨TX12, 55, tyX12, rfl, inT12, tyX12_ok, nmX12, by decide, tbT 1442 (by decide +kernel) rfl, rfl, (fun _ _ => rfl), Or.inr (Or.inr (Or.inl ⟨rfl, Or.inr ⟨_, rfl⟩⟩))⟩
theorem vfl_12_71 : pFL 12 (71, 12, 31, 12) := ⟨TX12, 55, tyX12, rfl, inT12, tyX12_ok, nmX12, by decide, tbT 1443 (by decide +kernel) rfl, rfl, (fun _ _ => rfl), Or.inr (Or.inr (Or.inl ⟨rfl, Or.inr ⟨_, rfl⟩⟩))⟩
theorem vfl_12_74 : pFL 12 (74, 12, 32, 12) := ⟨TX12, 55, tyX12, rfl, inT12, tyX12_ok, nmX12, by decide, tbT 1444 (by decide +kernel) rfl, rfl, (fun _ _ => rfl), Or.inr (Or.inr (Or.inl ⟨rfl, Or.inr ⟨_, rfl⟩⟩))⟩
theorem vfl_12_77 : pFL 12 (77, 12, 33, 12) := ⟨TX12, 55, tyX12, rfl, inT12, tyX12_ok, nmX12, by decide, tbT 1445 (by decide +kernel) rfl, rfl, (fun _ _ => rfl), Or.inr (Or.inr (Or.inl ⟨rfl, Or.inr ⟨_, rfl⟩⟩))⟩
theorem vfl_12_80 : pFL 12 (80, 12, 34, 12) := ⟨TX12, 55, tyX12, rfl, inT12, tyX12_ok, nmX12, by decide, tbT 1446 (by decide +kernel) rfl, rfl, (fun _ _ => rfl), Or.inr (Or.inr (Or.inl ⟨rfl, Or.inr ⟨_, rfl⟩⟩))⟩
theorem vfl_12_83 : pFL 12 (83, 12, 36, 12) := ⟨TX12, 55, tyX12, rfl, inT12, tyX12_ok, nmX12, by decide, tbT 1448 (by decide +kernel) rfl, rfl, (fun _ _ => rfl), Or.inr (Or.inr (Or.inl ⟨rfl, Or.inr ⟨_, rfl⟩⟩))⟩
theorem vfl_12_86 : pFL 12 (86, 12, 37, 12) := ⟨TX12, 55, tyX12, rfl, inT12, tyX12_ok, nmX12, by decide, tbT 1449 (by decide +kernel) rfl, rfl, (fun _ _ => rfl), Or.inr (Or.inr (Or.inl ⟨rfl, Or.inr ⟨_, rfl⟩⟩))⟩
theorem vfl_12_89 : pFL 12 (89, 12, 38, 12) := ⟨TX12, 55, tyX12, rfl, inT12, tyX12_ok, nmX12, by decide, tbT 1450 (by decide +kernel) rfl, rfl, (fun _ _ => rfl), Or.inr (Or.inr (Or.inl ⟨rfl, Or.inr ⟨_, rfl⟩⟩))⟩
theorem vfl_12_92 : pFL 12 (92, 12, 39, 0) := ⟨TX12, 55, tyX12, rfl, inT12, tyX12_ok, nmX12, by decide, tbT 1451 (by decide +kernel) rfl, rfl, (fun h => by cases h), Or.inl ⟨rfl, rfl⟩⟩
theorem vfl_12_95 : pFL 12 (95, 12, 43, 12) := ⟨TX12, 55, tyX12, rfl, inT12, tyX12_ok, nmX12, by decide, tbT 1455 (by decide +kernel) rfl, rfl, (fun _ _ => rfl), Or.inr (Or.inr (Or.inl ⟨rfl, Or.inr ⟨_, rfl⟩⟩))⟩
theorem vfl_12_98 : pFL 12 (98, 12, 45, 12) := ⟨TX12, 55, tyX12, rfl, inT12, tyX12_ok, nmX12, by decide, tbT 1457 (by decide +kernel) rfl, rfl, (fun _ _ => rfl), Or.inr (Or.inr (Or.inl ⟨rfl, Or.inr ⟨_, rfl⟩⟩))⟩
theorem vfl_12_101 : pFL 12 (101, 12, 51, 12) := ⟨TX12, 55, tyX12, rfl, inT12, tyX12_ok, nmX12, by decide, tbT 1463 (by decide +kernel) rfl, rfl, (fun _ _ => rfl), Or.inr (Or.inr (Or.inl ⟨rfl, Or.inr ⟨_, rfl⟩⟩))⟩
theorem vfl_12_105 : pFL 12 (105, 12, 52, 12) := ⟨TX12, 55, tyX12, rfl, inT12, tyX12_ok, nmX12, by decide, tbT 1464 (by decide +kernel) rfl, rfl, (fun _ _ => rfl), Or.inr (Or.inr (Or.inl ⟨rfl, Or.inr ⟨_, rfl⟩⟩))⟩
theorem vfl_12_108 : pFL 12 (108, 12, 53, 12) := ⟨TX12, 55, tyX12, rfl, inT12, tyX12_ok, nmX12, by decide, tbT 1465 (by decide +kernel) rfl, rfl, (fun _ _ => rfl), Or.inr (Or.inr (Or.inl ⟨rfl, Or.inr ⟨_, rfl⟩⟩))⟩
theorem vfl_12_111 : pFL 12 (111, 12, 54, 12) := ⟨TX12, 55, tyX12, rfl, inT12, tyX12_ok, nmX12, by decide, tbT 1466 (by decide +kernel) rfl, rfl, (fun _ _ => rfl), Or.inr (Or.inr (Or.inl ⟨rfl, Or.inr ⟨_, rfl⟩⟩))⟩
theorem vfl_12_178 : pFL 12 (178, 12, 12, 0) := ⟨TX12, 55, tyX12, rfl, inT12, tyX12_ok, nmX12, by decide, tbT 1424 (by decide +kernel) rfl, rfl, (fun h => by cases h), Or.inl ⟨rfl, rfl⟩⟩
theorem vfl_12_181 : pFL 12 (181, 12, 13, 0) := ⟨TX12, 55, tyX12, rfl, inT12, tyX12_ok, nmX12, by decide, tbT 1425 (by decide +kernel) rfl, rfl, (fun h => by cases h), Or.inl ⟨rfl, rfl⟩⟩
theorem vfl_12_184 : pFL 12 (184, 12, 11, 0) := ⟨TX12, 55, tyX12, rfl, inT12, tyX12_ok, nmX12, by decide, tbT 1423 (by decide +kernel) rfl, rfl, (fun h => by cases h), Or.inl ⟨rfl, rfl⟩⟩
theorem vfl_12_201 : pFL 12 (201, 12, 15, 0) := ⟨TX12, 55, tyX12, rfl, inT12, tyX12_ok, nmX12, by decide, tbT 1427 (by decide +kernel) rfl, rfl, (fun h => by cases h), Or.inl ⟨rfl, rfl⟩⟩
theorem vfl_12_204 : pFL 12 (204, 12, 16, 0) := ⟨TX12, 55, tyX12, rfl, inT12, tyX12_ok, nmX12, by decide, tbT 1428 (by decide +kernel) rfl, rfl, (fun h => by cases h), Or.inl ⟨rfl, rfl⟩⟩
theorem vfl_12_263 : pFL 12 (263, 12, 19, 0) := ⟨TX12, 55, tyX12, rfl, inT12, tyX12_ok, nmX12, by decide, tbT 1431 (by decide +kernel) rfl, rfl, (fun h => by cases h), Or.inl ⟨rfl, rfl⟩⟩
theorem vfl_12_272 : pFL 12 (272, 12, 22, 0) := ⟨TX12, 55, tyX12, rfl, inT12, tyX12_ok, nmX12, by decide, tbT 1434 (by decide +kernel) rfl, rfl, (fun h => by cases h), Or.inl ⟨rfl, rfl⟩⟩
theorem vfl_12_366 : pFL 12 (366, 12, 26, 0) := ⟨TX12, 55, tyX12, rfl, inT12, tyX12_ok, nmX12, by decide, tbT 1438 (by decide +kernel) rfl, rfl, (fun h => by cases h), Or.inl ⟨rfl, rfl⟩⟩
theorem vfl_12_378 : pFL 12 (378, 12, 28, 1) := ⟨TX12, 55, tyX12, rfl, inT12, tyX12_ok, nmX12, by decide, tbT 1440 (by decide +kernel) rfl, rfl, (fun h => by cases h), Or.inr (Or.inl ⟨rfl, rfl⟩)⟩
theorem vfl_12_394 : pFL 12 (394, 12, 35, 0) := ⟨TX12, 55, tyX12, rfl, inT12, tyX12_ok, nmX12, by decide, tbT 1447 (by decide +kernel) rfl, rfl, (fun h => by cases h), Or.inl ⟨rfl, rfl⟩⟩
theorem vfl_12_406 : pFL 12 (406, 12, 40, 0) := ⟨TX12, 55, tyX12, rfl, inT12, tyX12_ok, nmX12, by decide, tbT 1452 (by decide +kernel) rfl, rfl, (fun h => by cases h), Or.inl ⟨rfl, rfl⟩⟩
theorem vfl_12_428 : pFL 12 (428, 12, 42, 0) := ⟨TX12, 55, tyX12, rfl, inT12, tyX12_ok, nmX12, by decide, tbT 1454 (by decide +kernel) rfl, rfl, (fun h => by cases h), Or.inl ⟨rfl, rfl⟩⟩
theorem vfl_12_445 : pFL 12 (445, 12, 44, 1) := ⟨TX12, 55, tyX12, rfl, inT12, tyX12_ok, nmX12, by decide, tbT 1456 (by decide +kernel) rfl, rfl, (fun h => by cases h), Or.inr (Or.inl ⟨rfl, rfl⟩)⟩
theorem vfl_12_448 : pFL 12 (448, 12, 46, 0) := ⟨TX12, 55, tyX12, rfl, inT12, tyX12_ok, nmX12, by decide, tbT 1458 (by decide +kernel) rfl, rfl, (fun h => by cases h), Or.inl ⟨rfl, rfl⟩⟩
theorem vfl_12_451 : pFL 12 (451, 12, 48, 0) := ⟨TX12, 55, tyX12, rfl, inT12, tyX12_ok, nmX12, by decide, tbT 1460 (by decide +kernel) rfl, rfl, (fun h => by cases h), Or.inl ⟨rfl, rfl⟩⟩
theorem vfl_12_458 : pFL 12 (458, 12, 49, 0) := ⟨TX12, 55, tyX12, rfl, inT12, tyX12_ok, nmX12, by decide, tbT 1461 (by decide +kernel) rfl, rfl, (fun h => by cases h), Or.inl ⟨rfl, rfl⟩⟩
theorem vfl_12_464 : pFL 12 (464, 12, 47, 0) := ⟨TX12, 55, tyX12, rfl, inT12, tyX12_ok, nmX12, by decide, tbT 1459 (by decide +kernel) rfl, rfl, (fun h => by cases h), Or.inl ⟨rfl, rfl⟩⟩
theorem vfl_12_467 : pFL 12 (467, 12, 50, 1) := ⟨TX12, 55, tyX12, rfl, inT12, tyX12_ok, nmX12, by decide, tbT 1462 (by decide +kernel) rfl, rfl, (fun h => by cases h), Or.inr (Or.inl ⟨rfl, rfl⟩)⟩
theorem vfl_12 : ∀ x ∈ efl_12, pFL 12 x := List.forall_mem_cons.mpr ⟨vfl_12_1, List.forall_mem_cons.mpr ⟨vfl_12_7, List.forall_mem_cons.mpr ⟨vfl_12_14, List.forall_mem_cons.mpr ⟨vfl_12_18, List.forall_mem_cons.mpr ⟨vfl_12_21, List.forall_mem_cons.mpr ⟨vfl_12_24, List.forall_mem_cons.mpr ⟨vfl_12_33, List.forall_mem_cons.mpr ⟨vfl_12_37, List.forall_mem_cons.mpr ⟨vfl_12_40, List.forall_mem_cons.mpr ⟨vfl_12_43, List.forall_mem_cons.mpr ⟨vfl_12_47, List.forall_mem_cons.mpr ⟨vfl_12_50, List.forall_mem_cons.mpr ⟨vfl_12_53, List.forall_mem_cons.mpr ⟨vfl_12_56, List.forall_mem_cons.mpr ⟨vfl_12_59, List.forall_mem_cons.mpr ⟨vfl_12_62, List.forall_mem_cons.mpr ⟨vfl_12_65, List.forall_mem_cons.mpr ⟨vfl_12_68, List.forall_mem_cons.mpr ⟨vfl_12_71, List.forall_mem_cons.mpr ⟨vfl_12_74, List.forall_mem_cons.mpr ⟨vfl_12_77, List.forall_mem_cons.mpr ⟨vfl_12_80, List.forall_mem_cons.mpr ⟨vfl_12_83, List.forall_mem_cons.mpr ⟨vfl_12_86, List.forall_mem_cons.mpr ⟨vfl_12_89, List.forall_mem_cons.mpr ⟨vfl_12_92, List.forall_mem_cons.mpr ⟨vfl_12_95, List.forall_mem_cons.mpr ⟨vfl_12_98, List.forall_mem_cons.mpr ⟨vfl_12_101, List.forall_mem_cons.mpr ⟨vfl_12_105, List.forall_mem_cons.mpr ⟨vfl_12_108, List.forall_mem_cons.mpr ⟨vfl_12_111, List.forall_mem_cons.mpr ⟨vfl_12_178, List.forall_mem_cons.mpr ⟨vfl_12_181, List.forall_mem_cons.mpr ⟨vfl_12_184, List.forall_mem_cons.mpr ⟨vfl_12_201, List.forall_mem_cons.mpr ⟨vfl_12_204, List.forall_mem_cons.mpr ⟨vfl_12_263, List.forall_mem_cons.mpr ⟨vfl_12_272, List.forall_mem_cons.mpr ⟨vfl_12_366, List.forall_mem_cons.mpr ⟨vfl_12_378, List.forall_mem_cons.mpr ⟨vfl_12_394, List.forall_mem_cons.mpr ⟨vfl_12_406, List.forall_mem_cons.mpr ⟨vfl_12_428, List.forall_mem_cons.mpr ⟨vfl_12_445, List.forall_mem_cons.mpr ⟨vfl_12_448, List.forall_mem_cons.mpr ⟨vfl_12_451, List.forall_mem_cons.mpr ⟨vfl_12_458, List.forall_mem_cons.mpr ⟨vfl_12_464, List.forall_mem_cons.mpr ⟨vfl_12_467, fun _ h => absurd h List.not_mem_nil⟩⟩⟩⟩⟩⟩⟩⟩⟩⟩⟩⟩⟩⟩⟩⟩⟩⟩⟩⟩⟩⟩⟩⟩⟩⟩⟩⟩⟩⟩⟩⟩⟩⟩⟩⟩⟩⟩⟩⟩⟩⟩⟩⟩⟩⟩⟩⟩⟩⟩
theorem vfl_13 : ∀ x ∈ efl_13, pFL 13 x := fun _ h => absurd h List.not_mem_nil
theorem vfl_14 : ∀ x ∈ efl_14, pFL 14 x := fun _ h => absurd h List.not_mem_nil
theorem vfl_15 : ∀ x ∈ efl_15, pFL 15 x := fun _ h => absurd h List.not_mem_nil
theorem vfl_16 : ∀ x ∈ efl_16, pFL 16 x := fun _ h => absurd h List.not_mem_nil
theorem vfl : eAll pFL 0 efl := ⟨(vfl_0), (vfl_1), (vfl_2), (vfl_3), (vfl_4), (vfl_5), (vfl_6), (vfl_7), (vfl_8), (vfl_9), (vfl_10), (vfl_11), (vfl_12), (vfl_13), (vfl_14), (vfl_15), (vfl_16), trivial⟩
theorem v_FL : eFOK vwCl Tb1 eCN eFL1 := fun o idx q h => ea2_all (P := pFL) vfl h
def pNW (o : Nat) (x : Nat × Nat × Nat × List eV) : Prop := ∃ (T : u_T) (ty : Nat → FieldType) (fs : List Value), vwCl[x.2.1]? = some (eCN x.2.1, T, x.2.2.1) ∧ (∀ w ∈ u_ws (eCN x.2.1) T x.2.2.1, w ∈ Tb1) ∧ (∀ k, k < x.2.2.1 → parseFieldDescriptor (T k).2.2.1 = some (ty k))
  ∧ Cond.classLink (eCN o) x.1 (eCN x.2.1) ∈ Tb1 ∧ Cond.instantiable (eCN x.2.1) x.2.2.1 ∈ Tb1 ∧ Cond.initialized (eCN x.2.1) ∈ Tb1 ∧ (∀ j, j < x.2.2.1 → defaultValue (ty j) = vp_V fs j) ∧ ∀ (ρ : Nat → Int32) (b : Nat) (ad : List Nat), eRs ρ b ad x.2.2.2 fs
theorem vnw_0 : ∀ x ∈ enw_0, pNW 0 x := fun _ h => absurd h List.not_mem_nil
theorem vnw_1 : ∀ x ∈ enw_1, pNW 1 x := fun _ h => absurd h List.not_mem_nil
theorem vnw_2 : ∀ x ∈ enw_2, pNW 2 x := fun _ h => absurd h List.not_mem_nil
theorem vnw_3 : ∀ x ∈ enw_3, pNW 3 x := fun _ h => absurd h List.not_mem_nil
theorem vnw_4 : ∀ x ∈ enw_4, pNW 4 x := fun _ h => absurd h List.not_mem_nil
theorem vnw_5_11 : pNW 5 (11, 1, 10, [eN, eN, eN, eN, eN, .inl 0, .inl 0, .inl 0, .inl 0, .inl 0]) := ⟨TX1, tyX1, [.null, .null, .null, .null, .null, .int 0, .int 0, .int 0, .int 0, .int 0], rfl, inT1, tyX1_ok, tbT 264 (by decide +kernel) rfl, tbT 194 (by decide +kernel) rfl, tbT 8 (by decide +kernel) rfl, by decide, fun _ _ _ => by repeat (first | exact trivial | refine ⟨rfl, ?_⟩ | refine ⟨⟨_, rfl⟩, ?_⟩)⟩
theorem vnw_5 : ∀ x ∈ enw_5, pNW 5 x := List.forall_mem_cons.mpr ⟨vnw_5_11, fun _ h => absurd h List.not_mem_nil⟩
theorem vnw_6 : ∀ x ∈ enw_6, pNW 6 x := fun _ h => absurd h List.not_mem_nil
theorem vnw_7 : ∀ x ∈ enw_7, pNW 7 x := fun _ h => absurd h List.not_mem_nil
theorem vnw_8 : ∀ x ∈ enw_8, pNW 8 x := fun _ h => absurd h List.not_mem_nil
theorem vnw_9_9 : pNW 9 (9, 8, 10, [eN, eN, eN, eN, eN, eN, eN, eN, .inl 0, .inl 0]) := ⟨TX8, tyX8, [.null, .null, .null, .null, .null, .null, .null, .null, .int 0, .int 0], rfl, inT8, tyX8_ok, tbT 306 (by decide +kernel) rfl, tbT 143 (by decide +kernel) rfl, tbT 7 (by decide +kernel) rfl, by decide, fun _ _ _ => by repeat (first | exact trivial | refine ⟨rfl, ?_⟩ | refine ⟨⟨_, rfl⟩, ?_⟩)⟩
theorem vnw_9_18 : pNW 9 (18, 1, 10, [eN, eN, eN, eN, eN, .inl 0, .inl 0, .inl 0, .inl 0, .inl 0]) := ⟨TX1, tyX1, [.null, .null, .null, .null, .null, .int 0, .int 0, .int 0, .int 0, .int 0], rfl, inT1, tyX1_ok, tbT 308 (by decide +kernel) rfl, tbT 194 (by decide +kernel) rfl, tbT 8 (by decide +kernel) rfl, by decide, fun _ _ _ => by repeat (first | exact trivial | refine ⟨rfl, ?_⟩ | refine ⟨⟨_, rfl⟩, ?_⟩)⟩
theorem vnw_9 : ∀ x ∈ enw_9, pNW 9 x := List.forall_mem_cons.mpr ⟨vnw_9_9, List.forall_mem_cons.mpr ⟨vnw_9_18, fun _ h => absurd h List.not_mem_nil⟩⟩
theorem vnw_10 : ∀ x ∈ enw_10, pNW 10 x := fun _ h => absurd h List.not_mem_nil
theorem vnw_11_7 : pNW 11 (7, 7, 11, [eN, .inl 0, .inl 0, .inl 0, .inl 0, .inl 0, .inl 0, eL, eN, .inl 0, .inl 0]) := ⟨TX7, tyX7, [.null, .int 0, .int 0, .int 0, .int 0, .int 0, .int 0, .long 0, .null, .int 0, .int 0], rfl, inT7, tyX7_ok, tbT 34 (by decide +kernel) rfl, tbT 35 (by decide +kernel) rfl, tbT 2 (by decide +kernel) rfl, by decide, fun _ _ _ => by repeat (first | exact trivial | refine ⟨rfl, ?_⟩ | refine ⟨⟨_, rfl⟩, ?_⟩)⟩
theorem vnw_11_16 : pNW 11 (16, 8, 10, [eN, eN, eN, eN, eN, eN, eN, eN, .inl 0, .inl 0]) := ⟨TX8, tyX8, [.null, .null, .null, .null, .null, .null, .null, .null, .int 0, .int 0], rfl, inT8, tyX8_ok, tbT 142 (by decide +kernel) rfl, tbT 143 (by decide +kernel) rfl, tbT 7 (by decide +kernel) rfl, by decide, fun _ _ _ => by repeat (first | exact trivial | refine ⟨rfl, ?_⟩ | refine ⟨⟨_, rfl⟩, ?_⟩)⟩
theorem vnw_11_23 : pNW 11 (23, 1, 10, [eN, eN, eN, eN, eN, .inl 0, .inl 0, .inl 0, .inl 0, .inl 0]) := ⟨TX1, tyX1, [.null, .null, .null, .null, .null, .int 0, .int 0, .int 0, .int 0, .int 0], rfl, inT1, tyX1_ok, tbT 193 (by decide +kernel) rfl, tbT 194 (by decide +kernel) rfl, tbT 8 (by decide +kernel) rfl, by decide, fun _ _ _ => by repeat (first | exact trivial | refine ⟨rfl, ?_⟩ | refine ⟨⟨_, rfl⟩, ?_⟩)⟩
theorem vnw_11_33 : pNW 11 (33, 5, 3, [eN, .inl 0, .inl 0]) := ⟨TX5, tyX5, [.null, .int 0, .int 0], rfl, inT5, tyX5_ok, tbT 258 (by decide +kernel) rfl, tbT 259 (by decide +kernel) rfl, tbT 10 (by decide +kernel) rfl, by decide, fun _ _ _ => by repeat (first | exact trivial | refine ⟨rfl, ?_⟩ | refine ⟨⟨_, rfl⟩, ?_⟩)⟩
theorem vnw_11_40 : pNW 11 (40, 6, 5, [eN, eN, eN, .inl 0, .inl 0]) := ⟨TX6, tyX6, [.null, .null, .null, .int 0, .int 0], rfl, inT6, tyX6_ok, tbT 277 (by decide +kernel) rfl, tbT 278 (by decide +kernel) rfl, tbT 11 (by decide +kernel) rfl, by decide, fun _ _ _ => by repeat (first | exact trivial | refine ⟨rfl, ?_⟩ | refine ⟨⟨_, rfl⟩, ?_⟩)⟩
theorem vnw_11_50 : pNW 11 (50, 9, 2, [eN, eN]) := ⟨TX9, tyX9, [.null, .null], rfl, inT9, tyX9_ok, tbT 300 (by decide +kernel) rfl, tbT 301 (by decide +kernel) rfl, tbT 12 (by decide +kernel) rfl, by decide, fun _ _ _ => by repeat (first | exact trivial | refine ⟨rfl, ?_⟩ | refine ⟨⟨_, rfl⟩, ?_⟩)⟩
theorem vnw_11_57 : pNW 11 (57, 0, 10, [eN, eN, eN, eN, .inl 0, .inl 0, .inl 0, .inl 0, .inl 0, .inl 0]) := ⟨TX0, tyX0, [.null, .null, .null, .null, .int 0, .int 0, .int 0, .int 0, .int 0, .int 0], rfl, inT0, tyX0_ok, tbT 319 (by decide +kernel) rfl, tbT 320 (by decide +kernel) rfl, tbT 13 (by decide +kernel) rfl, by decide, fun _ _ _ => by repeat (first | exact trivial | refine ⟨rfl, ?_⟩ | refine ⟨⟨_, rfl⟩, ?_⟩)⟩
theorem vnw_11_64 : pNW 11 (64, 10, 6, [eN, eN, eN, eN, .inl 0, .inl 0]) := ⟨TX10, tyX10, [.null, .null, .null, .null, .int 0, .int 0], rfl, inT10, tyX10_ok, tbT 361 (by decide +kernel) rfl, tbT 362 (by decide +kernel) rfl, tbT 14 (by decide +kernel) rfl, by decide, fun _ _ _ => by repeat (first | exact trivial | refine ⟨rfl, ?_⟩ | refine ⟨⟨_, rfl⟩, ?_⟩)⟩
theorem vnw_11_71 : pNW 11 (71, 3, 2, [eN, eN]) := ⟨TX3, tyX3, [.null, .null], rfl, inT3, tyX3_ok, tbT 389 (by decide +kernel) rfl, tbT 390 (by decide +kernel) rfl, tbT 15 (by decide +kernel) rfl, by decide, fun _ _ _ => by repeat (first | exact trivial | refine ⟨rfl, ?_⟩ | refine ⟨⟨_, rfl⟩, ?_⟩)⟩
theorem vnw_11_78 : pNW 11 (78, 4, 8, [eN, .inl 0, eN, eN, .inl 0, eN, eN, eN]) := ⟨TX4, tyX4, [.null, .int 0, .null, .null, .int 0, .null, .null, .null], rfl, inT4, tyX4_ok, tbT 402 (by decide +kernel) rfl, tbT 403 (by decide +kernel) rfl, tbT 16 (by decide +kernel) rfl, by decide, fun _ _ _ => by repeat (first | exact trivial | refine ⟨rfl, ?_⟩ | refine ⟨⟨_, rfl⟩, ?_⟩)⟩
theorem vnw_11_85 : pNW 11 (85, 2, 1, [.inl 0]) := ⟨TX2, tyX2, [.int 0], rfl, inT2, tyX2_ok, tbT 438 (by decide +kernel) rfl, tbT 439 (by decide +kernel) rfl, tbT 17 (by decide +kernel) rfl, by decide, fun _ _ _ => by repeat (first | exact trivial | refine ⟨rfl, ?_⟩ | refine ⟨⟨_, rfl⟩, ?_⟩)⟩
theorem vnw_11 : ∀ x ∈ enw_11, pNW 11 x := List.forall_mem_cons.mpr ⟨vnw_11_7, List.forall_mem_cons.mpr ⟨vnw_11_16, List.forall_mem_cons.mpr ⟨vnw_11_23, List.forall_mem_cons.mpr ⟨vnw_11_33, List.forall_mem_cons.mpr ⟨vnw_11_40, List.forall_mem_cons.mpr ⟨vnw_11_50, List.forall_mem_cons.mpr ⟨vnw_11_57, List.forall_mem_cons.mpr ⟨vnw_11_64, List.forall_mem_cons.mpr ⟨vnw_11_71, List.forall_mem_cons.mpr ⟨vnw_11_78, List.forall_mem_cons.mpr ⟨vnw_11_85, fun _ h => absurd h List.not_mem_nil⟩⟩⟩⟩⟩⟩⟩⟩⟩⟩⟩
theorem vnw_12 : ∀ x ∈ enw_12, pNW 12 x := fun _ h => absurd h List.not_mem_nil
theorem vnw_13_8 : pNW 13 (8, 11, 17, [eN, eN, eN, eN, eN, eN, eN, eN, eN, eN, eN, eN, eN, eN, eN, eN, .inl 0]) := ⟨TX11, tyX11, [.null, .null, .null, .null, .null, .null, .null, .null, .null, .null, .null, .null, .null, .null, .null, .null, .int 0], rfl, inT11, tyX11_ok, tbT 26 (by decide +kernel) rfl, tbT 27 (by decide +kernel) rfl, tbT 1 (by decide +kernel) rfl, by decide, fun _ _ _ => by repeat (first | exact trivial | refine ⟨rfl, ?_⟩ | refine ⟨⟨_, rfl⟩, ?_⟩)⟩
theorem vnw_13_16 : pNW 13 (16, 12, 55, [.inl 0, eN, .inl 0, .inl 0, .inl 0, .inl 0, eN, eN, eN, eN, eN, .inl 0, .inl 0, .inl 0, .inl 0, .inl 0, .inl 0, eL, .inl 0, .inl 0, eN, eN, .inl 0, eN, eN, eN, .inl 0, .inl 0, .inl 0, eN, eN, eN, eN, eN, eN, .inl 0, eN, eN, eN, .inl 0, .inl 0, .inl 0, .inl 0, eN, .inl 0, eN, .inl 0, .inl 0, .inl 0, .inl 0, .inl 0, eN, eN, eN, eN]) := ⟨TX12, tyX12, [.int 0, .null, .int 0, .int 0, .int 0, .int 0, .null, .null, .null, .null, .null, .int 0, .int 0, .int 0, .int 0, .int 0, .int 0, .long 0, .int 0, .int 0, .null, .null, .int 0, .null, .null, .null, .int 0, .int 0, .int 0, .null, .null, .null, .null, .null, .null, .int 0, .null, .null, .null, .int 0, .int 0, .int 0, .int 0, .null, .int 0, .null, .int 0, .int 0, .int 0, .int 0, .int 0, .null, .null, .null, .null], rfl, inT12, tyX12_ok, tbT 1377 (by decide +kernel) rfl, tbT 1371 (by decide +kernel) rfl, tbT 18 (by decide +kernel) rfl, by decide, fun _ _ _ => by repeat (first | exact trivial | refine ⟨rfl, ?_⟩ | refine ⟨⟨_, rfl⟩, ?_⟩)⟩
theorem vnw_13 : ∀ x ∈ enw_13, pNW 13 x := List.forall_mem_cons.mpr ⟨vnw_13_8, List.forall_mem_cons.mpr ⟨vnw_13_16, fun _ h => absurd h List.not_mem_nil⟩⟩
theorem vnw_14 : ∀ x ∈ enw_14, pNW 14 x := fun _ h => absurd h List.not_mem_nil
theorem vnw_15 : ∀ x ∈ enw_15, pNW 15 x := fun _ h => absurd h List.not_mem_nil
theorem vnw_16 : ∀ x ∈ enw_16, pNW 16 x := fun _ h => absurd h List.not_mem_nil
theorem vnw : eAll pNW 0 enw := ⟨(vnw_0), (vnw_1), (vnw_2), (vnw_3), (vnw_4), (vnw_5), (vnw_6), (vnw_7), (vnw_8), (vnw_9), (vnw_10), (vnw_11), (vnw_12), (vnw_13), (vnw_14), (vnw_15), (vnw_16), trivial⟩
theorem v_NW : eNOK vwCl Tb1 eCN eNW1 := fun o idx q h => ea2_all (P := pNW) vnw h
def nestW : List Cond := [.methodLinkNest "WardrobeRow" 18 ⟨"WardrobeRow$Terrace", "<init>", "()V"⟩ "WardrobeRow", .methodLinkNest "WardrobeRow" 42 ⟨"WardrobeRow$Sentence", "<init>", "()V"⟩ "WardrobeRow", .methodLinkNest "WardrobeRow" 52 ⟨"WardrobeRow$TerraceReader", "<init>", "()V"⟩ "WardrobeRow", .methodLinkNest "WardrobeRow" 59 ⟨"WardrobeRow$Book", "<init>", "()V"⟩ "WardrobeRow", .methodLinkNest "WardrobeRow" 66 ⟨"WardrobeRow$Ways", "<init>", "()V"⟩ "WardrobeRow", .methodLinkNest "WardrobeRow" 73 ⟨"WardrobeRow$Fires", "<init>", "()V"⟩ "WardrobeRow", .methodLinkNest "WardrobeRow" 80 ⟨"WardrobeRow$Market", "<init>", "()V"⟩ "WardrobeRow", .methodLinkNest "WardrobeRow" 87 ⟨"WardrobeRow$Draws", "<init>", "()V"⟩ "WardrobeRow", .methodLinkNest "WardrobeRow$Deeds" 59 ⟨"WardrobeRow", "bit", "(I)I"⟩ "WardrobeRow", .methodLinkNest "WardrobeRow$Market" 44 ⟨"WardrobeRow", "isBelow", "(II)Z"⟩ "WardrobeRow", .methodLinkNest "WardrobeRow$Market" 73 ⟨"WardrobeRow", "has", "(II)Z"⟩ "WardrobeRow", .methodLinkNest "WardrobeRow$Terrace" 56 ⟨"WardrobeRow", "isBelow", "(II)Z"⟩ "WardrobeRow", .methodLinkNest "WardrobeRow$Terrace" 82 ⟨"WardrobeRow", "bit", "(I)I"⟩ "WardrobeRow", .methodLinkNest "WardrobeRow$TerraceReader" 11 ⟨"WardrobeRow$Terrace", "<init>", "()V"⟩ "WardrobeRow"]
def aoW : List String := [RX1, RX6, RX8]
/-- the claim's literals: their places in the pools, their lengths, their bytes -/
def scTm : Nat → Term := fun i => match i with
  | 0 => .string "WardrobeRow$Tape" 23
  | 1 => .string "WardrobeRow$Tape" 25
  | 2 => .string "WardrobeRow$Tape" 27
  | _ => .string "WardrobeRow" 145
def scLen : List Nat := [63, 70, 77, 39]
def scByt : List (List Int32) := [[104, 111, 117, 115, 101, 32, 32, 111, 119, 110, 101, 114, 32, 32, 114, 111, 111, 109, 32, 32, 32, 100, 111, 111, 114, 32, 32, 32, 114, 111, 98, 101, 32, 32, 32, 97, 116, 32, 32, 32, 32, 32, 108, 101, 97, 118, 101, 32, 32, 104, 101, 105, 114, 32, 32, 32, 108, 105, 107, 101, 115, 32, 32], [103, 111, 101, 115, 32, 32, 32, 115, 101, 108, 108, 115, 32, 32, 108, 101, 116, 115, 32, 32, 32, 98, 97, 114, 115, 32, 32, 32, 100, 105, 101, 115, 32, 32, 32, 119, 105, 108, 108, 115, 32, 32, 115, 104, 117, 116, 115, 32, 32, 111, 112, 101, 110, 115, 32, 32, 98, 117, 114, 110, 115, 32, 32, 109, 105, 110, 117, 116, 101, 32], [111, 114, 32, 32, 32, 32, 32, 97, 110, 100, 32, 32, 32, 32, 110, 111, 116, 32, 32, 32, 32, 98, 117, 114, 110, 116, 32, 32, 102, 114, 101, 101, 32, 32, 32, 111, 102, 32, 32, 32, 32, 32, 105, 110, 32, 32, 32, 32, 32, 112, 101, 111, 112, 108, 101, 32, 100, 111, 111, 114, 115, 32, 32, 119, 111, 114, 116, 104, 32, 32, 110, 117, 109, 98, 101, 114, 32], [110, 111, 32, 115, 117, 99, 104, 32, 114, 111, 111, 109, 44, 32, 111, 114, 32, 110, 111, 116, 104, 105, 110, 103, 32, 115, 117, 99, 104, 32, 111, 102, 32, 97, 32, 114, 111, 111, 109]]
def scTx : Nat → String := fun i => match i with
  | 0 => "house  owner  room   door   robe   at     leave  heir   likes  "
  | 1 => "goes   sells  lets   bars   dies   wills  shuts  opens  burns  minute "
  | 2 => "or     and    not    burnt  free   of     in     people doors  worth  number "
  | _ => "no such room, or nothing such of a room"
/-- what of the state ahead of the law stays as it is -/
def HF1 (base : Nat) (s : State) : Prop := ∃ adK adV : Nat → Nat, vk_S 4 scLen scByt adK adV (fun q => base ≤ q) s s.heap ∧ vk_R "WardrobeRow$Tape" 23 (scTx 0) (adK 0) s ∧ vk_R "WardrobeRow$Tape" 25 (scTx 1) (adK 1) s ∧ vk_R "WardrobeRow$Tape" 27 (scTx 2) (adK 2) s ∧ vk_R "WardrobeRow" 145 (scTx 3) (adK 3) s
  ∧ va_Z "java/lang/String" "COMPACT_STRINGS" "Z" (.int 1) (fun q => base ≤ q) s s.heap ∧ va_Zq "jdk/internal/util/Preconditions" "SIOOBE_FORMATTER" "Ljava/util/function/BiFunction;" (fun q => base ≤ q) s s.heap ∧ vx_Zq "java/lang/Throwable" "UNASSIGNED_STACK" "[Ljava/lang/StackTraceElement;" (fun q => base ≤ q) s s.heap ∧ vx_Zq "java/lang/Throwable" "SUPPRESSED_SENTINEL" "Ljava/util/List;" (fun q => base ≤ q) s s.heap ∧ (va_Nw (.castable "java/util/NoSuchElementException" "java/util/NoSuchElementException") s ∧ va_Nw (.declares ⟨"java/lang/RuntimeException", "<init>", "(Ljava/lang/String;)V"⟩) s ∧ va_Nw (.declares ⟨"java/lang/Exception", "<init>", "(Ljava/lang/String;)V"⟩) s ∧ va_Nw (.declares ⟨"java/lang/Throwable", "<init>", "(Ljava/lang/String;)V"⟩) s)
def NF1 (base : Nat) (s : State) : Prop := (∀ w ∈ nestW, va_Nw w s) ∧ (∀ C ∈ aoW, va_AO C s) ∧ HF1 base s
theorem nest_is : ∀ w ∈ nestW, w.onTables = true ∧ ∃ a i x h, w = .methodLinkNest a i x h := List.forall_mem_cons.mpr ⟨⟨rfl, _, _, _, _, rfl⟩, List.forall_mem_cons.mpr ⟨⟨rfl, _, _, _, _, rfl⟩, List.forall_mem_cons.mpr ⟨⟨rfl, _, _, _, _, rfl⟩, List.forall_mem_cons.mpr ⟨⟨rfl, _, _, _, _, rfl⟩, List.forall_mem_cons.mpr ⟨⟨rfl, _, _, _, _, rfl⟩, List.forall_mem_cons.mpr ⟨⟨rfl, _, _, _, _, rfl⟩, List.forall_mem_cons.mpr ⟨⟨rfl, _, _, _, _, rfl⟩, List.forall_mem_cons.mpr ⟨⟨rfl, _, _, _, _, rfl⟩, List.forall_mem_cons.mpr ⟨⟨rfl, _, _, _, _, rfl⟩, List.forall_mem_cons.mpr ⟨⟨rfl, _, _, _, _, rfl⟩, List.forall_mem_cons.mpr ⟨⟨rfl, _, _, _, _, rfl⟩, List.forall_mem_cons.mpr ⟨⟨rfl, _, _, _, _, rfl⟩, List.forall_mem_cons.mpr ⟨⟨rfl, _, _, _, _, rfl⟩, List.forall_mem_cons.mpr ⟨⟨rfl, _, _, _, _, rfl⟩, fun _ h => absurd h List.not_mem_nil⟩⟩⟩⟩⟩⟩⟩⟩⟩⟩⟩⟩⟩⟩
theorem v_NF (base : Nat) : eNFw base (NF1 base) := by
  refine ⟨fun s U h hW hz hk => ⟨fun w hw => ?_, fun C hC => va_AO.moved hW.alike (h.2.1 C hC), ?_⟩, fun s U h hv hh => ⟨fun w hw => ?_, fun C hC => va_AO.moved (by rw [hv]; exact Vm.Alike.refl _) (h.2.1 C hC), ?_⟩⟩
  · obtain ⟨-, a, i, x, q, rfl⟩ := nest_is w hw
    exact va_Nw.warmM hW (h.1 _ hw)
  · obtain ⟨adK, adV, h1, h2, h3, h4, h5, h6, h7, h8, h9, h10⟩ := h.2.2
    exact ⟨adK, adV, (h1.kept hk).moved hW.alike, vk_R.warm hW h2, vk_R.warm hW h3, vk_R.warm hW h4, vk_R.warm hW h5, (h6.kept hk).moved hW.alike, (h7.kept hk).moved hW.alike, (h8.kept hk).moved hW.alike, (h9.kept hk).moved hW.alike, ⟨va_Nw.warmC hW h10.1, va_Nw.warmD hW h10.2.1, va_Nw.warmD hW h10.2.2.1, va_Nw.warmD hW h10.2.2.2⟩⟩
  · exact va_tabs (nest_is w hw).1 hv (h.1 w hw)
  · obtain ⟨adK, adV, h1, h2, h3, h4, h5, h6, h7, h8, h9, h10⟩ := h.2.2
    have hal : s.vm.Alike U.vm := by rw [hv]; exact Vm.Alike.refl _
    have hk : ∀ a : Nat, a < s.heap.size → ¬ base ≤ a → U.heap[a]? = s.heap[a]? := fun a _ _ => by rw [hh]
    exact ⟨adK, adV, (h1.kept hk).moved hal, vk_R.same hv.symm h2, vk_R.same hv.symm h3, vk_R.same hv.symm h4, vk_R.same hv.symm h5, (h6.kept hk).moved hal, (h7.kept hk).moved hal, (h8.kept hk).moved hal, (h9.kept hk).moved hal, ⟨va_tabs rfl hv h10.1, va_tabs rfl hv h10.2.1, va_tabs rfl hv h10.2.2.1, va_tabs rfl hv h10.2.2.2⟩⟩
def pNA (base o : Nat) (x : Nat × Nat) : Prop := ∃ r : vw_C, vwCl[x.2]? = some r ∧ Cond.classLink (eCN o) x.1 r.1 ∈ Tb1 ∧ ∀ s : State, NF1 base s → va_AO r.1 s
theorem vna_0 (base : Nat) : ∀ x ∈ ena_0, pNA base 0 x := fun _ h => absurd h List.not_mem_nil
theorem vna_1 (base : Nat) : ∀ x ∈ ena_1, pNA base 1 x := fun _ h => absurd h List.not_mem_nil
theorem vna_2 (base : Nat) : ∀ x ∈ ena_2, pNA base 2 x := fun _ h => absurd h List.not_mem_nil
theorem vna_3 (base : Nat) : ∀ x ∈ ena_3, pNA base 3 x := fun _ h => absurd h List.not_mem_nil
theorem vna_4 (base : Nat) : ∀ x ∈ ena_4, pNA base 4 x := fun _ h => absurd h List.not_mem_nil
theorem vna_5_11 (base : Nat) : pNA base 5 (11, 1) := ⟨(RX1, TX1, 10), rfl, tbT 264 (by decide +kernel) rfl, fun s h => h.2.1 _ (List.mem_of_getElem? (i := 0) rfl)⟩
theorem vna_5 (base : Nat) : ∀ x ∈ ena_5, pNA base 5 x := List.forall_mem_cons.mpr ⟨(vna_5_11 base), fun _ h => absurd h List.not_mem_nil⟩
theorem vna_6 (base : Nat) : ∀ x ∈ ena_6, pNA base 6 x := fun _ h => absurd h List.not_mem_nil
theorem vna_7 (base : Nat) : ∀ x ∈ ena_7, pNA base 7 x := fun _ h => absurd h List.not_mem_nil
theorem vna_8 (base : Nat) : ∀ x ∈ ena_8, pNA base 8 x := fun _ h => absurd h List.not_mem_nil
theorem vna_9 (base : Nat) : ∀ x ∈ ena_9, pNA base 9 x := fun _ h => absurd h List.not_mem_nil
theorem vna_10 (base : Nat) : ∀ x ∈ ena_10, pNA base 10 x := fun _ h => absurd h List.not_mem_nil
theorem vna_11_16 (base : Nat) : pNA base 11 (16, 8) := ⟨(RX8, TX8, 10), rfl, tbT 142 (by decide +kernel) rfl, fun s h => h.2.1 _ (List.mem_of_getElem? (i := 2) rfl)⟩
theorem vna_11_23 (base : Nat) : pNA base 11 (23, 1) := ⟨(RX1, TX1, 10), rfl, tbT 193 (by decide +kernel) rfl, fun s h => h.2.1 _ (List.mem_of_getElem? (i := 0) rfl)⟩
theorem vna_11_40 (base : Nat) : pNA base 11 (40, 6) := ⟨(RX6, TX6, 5), rfl, tbT 277 (by decide +kernel) rfl, fun s h => h.2.1 _ (List.mem_of_getElem? (i := 1) rfl)⟩
theorem vna_11 (base : Nat) : ∀ x ∈ ena_11, pNA base 11 x := List.forall_mem_cons.mpr ⟨(vna_11_16 base), List.forall_mem_cons.mpr ⟨(vna_11_23 base), List.forall_mem_cons.mpr ⟨(vna_11_40 base), fun _ h => absurd h List.not_mem_nil⟩⟩⟩
theorem vna_12 (base : Nat) : ∀ x ∈ ena_12, pNA base 12 x := fun _ h => absurd h List.not_mem_nil
theorem vna_13 (base : Nat) : ∀ x ∈ ena_13, pNA base 13 x := fun _ h => absurd h List.not_mem_nil
theorem vna_14 (base : Nat) : ∀ x ∈ ena_14, pNA base 14 x := fun _ h => absurd h List.not_mem_nil
theorem vna_15 (base : Nat) : ∀ x ∈ ena_15, pNA base 15 x := fun _ h => absurd h List.not_mem_nil
theorem vna_16 (base : Nat) : ∀ x ∈ ena_16, pNA base 16 x := fun _ h => absurd h List.not_mem_nil
theorem vna (base : Nat) : eAll (pNA base) 0 ena := ⟨(vna_0 base), (vna_1 base), (vna_2 base), (vna_3 base), (vna_4 base), (vna_5 base), (vna_6 base), (vna_7 base), (vna_8 base), (vna_9 base), (vna_10 base), (vna_11 base), (vna_12 base), (vna_13 base), (vna_14 base), (vna_15 base), (vna_16 base), trivial⟩
theorem v_NA (base : Nat) : eAOK vwCl Tb1 (NF1 base) eCN eNA1 := fun o idx q h => ea2_all (P := pNA base) (vna base) h
def pKI (o : Nat) (x : Nat × Nat) : Prop := Cond.constant (eCN o) x.1 (Int32.ofNat x.2) ∈ Tb1
theorem vki_0 : ∀ x ∈ eki_0, pKI 0 x := fun _ h => absurd h List.not_mem_nil
theorem vki_1 : ∀ x ∈ eki_1, pKI 1 x := fun _ h => absurd h List.not_mem_nil
theorem vki_2_15 : pKI 2 (15, 1103515245) := tbT 895 (by decide +kernel) rfl
theorem vki_2 : ∀ x ∈ eki_2, pKI 2 x := List.forall_mem_cons.mpr ⟨vki_2_15, fun _ h => absurd h List.not_mem_nil⟩
theorem vki_3 : ∀ x ∈ eki_3, pKI 3 x := fun _ h => absurd h List.not_mem_nil
theorem vki_4 : ∀ x ∈ eki_4, pKI 4 x := fun _ h => absurd h List.not_mem_nil
theorem vki_5 : ∀ x ∈ eki_5, pKI 5 x := fun _ h => absurd h List.not_mem_nil
theorem vki_6 : ∀ x ∈ eki_6, pKI 6 x := fun _ h => absurd h List.not_mem_nil
theorem vki_7 : ∀ x ∈ eki_7, pKI 7 x := fun _ h => absurd h List.not_mem_nil
theorem vki_8 : ∀ x ∈ eki_8, pKI 8 x := fun _ h => absurd h List.not_mem_nil
theorem vki_9 : ∀ x ∈ eki_9, pKI 9 x := fun _ h => absurd h List.not_mem_nil
theorem vki_10 : ∀ x ∈ eki_10, pKI 10 x := fun _ h => absurd h List.not_mem_nil
theorem vki_11 : ∀ x ∈ eki_11, pKI 11 x := fun _ h => absurd h List.not_mem_nil
theorem vki_12_418 : pKI 12 (418, 1103515245) := tbT 1974 (by decide +kernel) rfl
theorem vki_12 : ∀ x ∈ eki_12, pKI 12 x := List.forall_mem_cons.mpr ⟨vki_12_418, fun _ h => absurd h List.not_mem_nil⟩
theorem vki_13 : ∀ x ∈ eki_13, pKI 13 x := fun _ h => absurd h List.not_mem_nil
theorem vki_14_265 : pKI 14 (265, 1431655765) := tbT 754 (by decide +kernel) rfl
theorem vki_14_266 : pKI 14 (266, 858993459) := tbT 755 (by decide +kernel) rfl
theorem vki_14_267 : pKI 14 (267, 252645135) := tbT 756 (by decide +kernel) rfl
theorem vki_14 : ∀ x ∈ eki_14, pKI 14 x := List.forall_mem_cons.mpr ⟨vki_14_265, List.forall_mem_cons.mpr ⟨vki_14_266, List.forall_mem_cons.mpr ⟨vki_14_267, fun _ h => absurd h List.not_mem_nil⟩⟩⟩
theorem vki_15 : ∀ x ∈ eki_15, pKI 15 x := fun _ h => absurd h List.not_mem_nil
theorem vki_16 : ∀ x ∈ eki_16, pKI 16 x := fun _ h => absurd h List.not_mem_nil
theorem vki : eAll pKI 0 eki := ⟨(vki_0), (vki_1), (vki_2), (vki_3), (vki_4), (vki_5), (vki_6), (vki_7), (vki_8), (vki_9), (vki_10), (vki_11), (vki_12), (vki_13), (vki_14), (vki_15), (vki_16), trivial⟩
theorem v_KI : eKOK Tb1 eCN eKI1 := fun o idx n h => ea2_all (P := pKI) vki h
def pKL (o : Nat) (x : Nat × Nat) : Prop := ∃ v : Int64, Cond.constantLong (eCN o) x.1 v ∈ Tb1
theorem vkl_0 : ∀ x ∈ ekl_0, pKL 0 x := fun _ h => absurd h List.not_mem_nil
theorem vkl_1 : ∀ x ∈ ekl_1, pKL 1 x := fun _ h => absurd h List.not_mem_nil
theorem vkl_2 : ∀ x ∈ ekl_2, pKL 2 x := fun _ h => absurd h List.not_mem_nil
theorem vkl_3 : ∀ x ∈ ekl_3, pKL 3 x := fun _ h => absurd h List.not_mem_nil
theorem vkl_4 : ∀ x ∈ ekl_4, pKL 4 x := fun _ h => absurd h List.not_mem_nil
theorem vkl_5 : ∀ x ∈ ekl_5, pKL 5 x := fun _ h => absurd h List.not_mem_nil
theorem vkl_6 : ∀ x ∈ ekl_6, pKL 6 x := fun _ h => absurd h List.not_mem_nil
theorem vkl_7 : ∀ x ∈ ekl_7, pKL 7 x := fun _ h => absurd h List.not_mem_nil
theorem vkl_8 : ∀ x ∈ ekl_8, pKL 8 x := fun _ h => absurd h List.not_mem_nil
theorem vkl_9 : ∀ x ∈ ekl_9, pKL 9 x := fun _ h => absurd h List.not_mem_nil
theorem vkl_10 : ∀ x ∈ ekl_10, pKL 10 x := fun _ h => absurd h List.not_mem_nil
theorem vkl_11 : ∀ x ∈ ekl_11, pKL 11 x := fun _ h => absurd h List.not_mem_nil
theorem vkl_12_114 : pKL 12 (114, 0) := ⟨448546567013, tbT 1382 (by decide +kernel) rfl⟩
theorem vkl_12_116 : pKL 12 (116, 0) := ⟨478745093490, tbT 1383 (by decide +kernel) rfl⟩
theorem vkl_12_118 : pKL 12 (118, 0) := ⟨1919905645, tbT 1384 (by decide +kernel) rfl⟩
theorem vkl_12_120 : pKL 12 (120, 0) := ⟨1685024626, tbT 1385 (by decide +kernel) rfl⟩
theorem vkl_12_122 : pKL 12 (122, 0) := ⟨1919902309, tbT 1386 (by decide +kernel) rfl⟩
theorem vkl_12_124 : pKL 12 (124, 0) := ⟨24948, tbT 1387 (by decide +kernel) rfl⟩
theorem vkl_12_126 : pKL 12 (126, 0) := ⟨465557354085, tbT 1388 (by decide +kernel) rfl⟩
theorem vkl_12_128 : pKL 12 (128, 0) := ⟨1751476594, tbT 1389 (by decide +kernel) rfl⟩
theorem vkl_12_130 : pKL 12 (130, 0) := ⟨465625113971, tbT 1390 (by decide +kernel) rfl⟩
theorem vkl_12_132 : pKL 12 (132, 0) := ⟨1735353715, tbT 1391 (by decide +kernel) rfl⟩
theorem vkl_12_134 : pKL 12 (134, 0) := ⟨495622843507, tbT 1392 (by decide +kernel) rfl⟩
theorem vkl_12_136 : pKL 12 (136, 0) := ⟨1818588275, tbT 1393 (by decide +kernel) rfl⟩
theorem vkl_12_138 : pKL 12 (138, 0) := ⟨1650553459, tbT 1394 (by decide +kernel) rfl⟩
theorem vkl_12_140 : pKL 12 (140, 0) := ⟨1684628851, tbT 1395 (by decide +kernel) rfl⟩
theorem vkl_12_142 : pKL 12 (142, 0) := ⟨512869821555, tbT 1396 (by decide +kernel) rfl⟩
theorem vkl_12_144 : pKL 12 (144, 0) := ⟨495673767027, tbT 1397 (by decide +kernel) rfl⟩
theorem vkl_12_146 : pKL 12 (146, 0) := ⟨478627065459, tbT 1398 (by decide +kernel) rfl⟩
theorem vkl_12_148 : pKL 12 (148, 0) := ⟨422877228659, tbT 1399 (by decide +kernel) rfl⟩
theorem vkl_12_150 : pKL 12 (150, 0) := ⟨120299592184933, tbT 1400 (by decide +kernel) rfl⟩
theorem vkl_12_152 : pKL 12 (152, 0) := ⟨28530, tbT 1401 (by decide +kernel) rfl⟩
theorem vkl_12_154 : pKL 12 (154, 0) := ⟨6385252, tbT 1402 (by decide +kernel) rfl⟩
theorem vkl_12_156 : pKL 12 (156, 0) := ⟨7237492, tbT 1403 (by decide +kernel) rfl⟩
theorem vkl_12_158 : pKL 12 (158, 0) := ⟨422877228660, tbT 1404 (by decide +kernel) rfl⟩
theorem vkl_12_160 : pKL 12 (160, 0) := ⟨1718773093, tbT 1405 (by decide +kernel) rfl⟩
theorem vkl_12_162 : pKL 12 (162, 0) := ⟨28518, tbT 1406 (by decide +kernel) rfl⟩
theorem vkl_12_164 : pKL 12 (164, 0) := ⟨26990, tbT 1407 (by decide +kernel) rfl⟩
theorem vkl_12_166 : pKL 12 (166, 0) := ⟨123580963646565, tbT 1408 (by decide +kernel) rfl⟩
theorem vkl_12_168 : pKL 12 (168, 0) := ⟨431366304371, tbT 1409 (by decide +kernel) rfl⟩
theorem vkl_12_170 : pKL 12 (170, 0) := ⟨512970880104, tbT 1410 (by decide +kernel) rfl⟩
theorem vkl_12_172 : pKL 12 (172, 0) := ⟨121450625394034, tbT 1411 (by decide +kernel) rfl⟩
theorem vkl_12 : ∀ x ∈ ekl_12, pKL 12 x := List.forall_mem_cons.mpr ⟨vkl_12_114, List.forall_mem_cons.mpr ⟨vkl_12_116, List.forall_mem_cons.mpr ⟨vkl_12_118, List.forall_mem_cons.mpr ⟨vkl_12_120, List.forall_mem_cons.mpr ⟨vkl_12_122, List.forall_mem_cons.mpr ⟨vkl_12_124, List.forall_mem_cons.mpr ⟨vkl_12_126, List.forall_mem_cons.mpr ⟨vkl_12_128, List.forall_mem_cons.mpr ⟨vkl_12_130, List.forall_mem_cons.mpr ⟨vkl_12_132, List.forall_mem_cons.mpr ⟨vkl_12_134, List.forall_mem_cons.mpr ⟨vkl_12_136, List.forall_mem_cons.mpr ⟨vkl_12_138, List.forall_mem_cons.mpr ⟨vkl_12_140, List.forall_mem_cons.mpr ⟨vkl_12_142, List.forall_mem_cons.mpr ⟨vkl_12_144, List.forall_mem_cons.mpr ⟨vkl_12_146, List.forall_mem_cons.mpr ⟨vkl_12_148, List.forall_mem_cons.mpr ⟨vkl_12_150, List.forall_mem_cons.mpr ⟨vkl_12_152, List.forall_mem_cons.mpr ⟨vkl_12_154, List.forall_mem_cons.mpr ⟨vkl_12_156, List.forall_mem_cons.mpr ⟨vkl_12_158, List.forall_mem_cons.mpr ⟨vkl_12_160, List.forall_mem_cons.mpr ⟨vkl_12_162, List.forall_mem_cons.mpr ⟨vkl_12_164, List.forall_mem_cons.mpr ⟨vkl_12_166, List.forall_mem_cons.mpr ⟨vkl_12_168, List.forall_mem_cons.mpr ⟨vkl_12_170, List.forall_mem_cons.mpr ⟨vkl_12_172, fun _ h => absurd h List.not_mem_nil⟩⟩⟩⟩⟩⟩⟩⟩⟩⟩⟩⟩⟩⟩⟩⟩⟩⟩⟩⟩⟩⟩⟩⟩⟩⟩⟩⟩⟩⟩
theorem vkl_13 : ∀ x ∈ ekl_13, pKL 13 x := fun _ h => absurd h List.not_mem_nil
theorem vkl_14 : ∀ x ∈ ekl_14, pKL 14 x := fun _ h => absurd h List.not_mem_nil
theorem vkl_15 : ∀ x ∈ ekl_15, pKL 15 x := fun _ h => absurd h List.not_mem_nil
theorem vkl_16 : ∀ x ∈ ekl_16, pKL 16 x := fun _ h => absurd h List.not_mem_nil
theorem vkl : eAll pKL 0 ekl := ⟨(vkl_0), (vkl_1), (vkl_2), (vkl_3), (vkl_4), (vkl_5), (vkl_6), (vkl_7), (vkl_8), (vkl_9), (vkl_10), (vkl_11), (vkl_12), (vkl_13), (vkl_14), (vkl_15), (vkl_16), trivial⟩
theorem v_KL : eJOK Tb1 eCN eKL1 := fun o idx n h => ea2_all (P := pKL) vkl h
theorem v_AC : eACk Tb1 := ⟨tbT 192 (by decide +kernel) rfl, tbT 140 (by decide +kernel) rfl, tbT 1578 (by decide +kernel) rfl, tbT 141 (by decide +kernel) rfl⟩
end
section
/-! THE TEXTS OF THE CLASS: what the JDK's String answers of a literal, and codeOfKeyword. -/
def RJ0 : String := "java/lang/String"
def RJ1 : String := "java/lang/StringLatin1"
def RJ3 : String := "jdk/internal/util/Preconditions"
abbrev cJ0_length_8abf5 : ByteArray := prog_22_method_54_code
def yJ0_length_8abf5 : MethodName := ⟨RJ0, "length", "()I"⟩
abbrev cJ0_charAt_5068e : ByteArray := prog_22_method_56_code
def yJ0_charAt_5068e : MethodName := ⟨RJ0, "charAt", "(I)C"⟩
abbrev cJ0_coder_7d493 : ByteArray := prog_22_method_152_code
def yJ0_coder_7d493 : MethodName := ⟨RJ0, "coder", "()B"⟩
abbrev cJ0_isLatin1_aae02 : ByteArray := prog_22_method_154_code
def yJ0_isLatin1_aae02 : MethodName := ⟨RJ0, "isLatin1", "()Z"⟩
abbrev cJ1_charAt_3b067 : ByteArray := prog_23_method_2_code
def yJ1_charAt_3b067 : MethodName := ⟨RJ1, "charAt", "([BI)C"⟩
abbrev cJ0_checkIndex_df160 : ByteArray := prog_22_method_155_code
def yJ0_checkIndex_df160 : MethodName := ⟨RJ0, "checkIndex", "(II)V"⟩
abbrev cJ3_checkIndex_8e157 : ByteArray := prog_31_method_11_code
def yJ3_checkIndex_8e157 : MethodName := ⟨RJ3, "checkIndex", "(IILjava/util/function/BiFunction;)I"⟩
abbrev cX7_codeOfKeyword : ByteArray := prog_9_method_2_code
def yX7_codeOfKeyword : MethodName := ⟨RX7, "codeOfKeyword", "(I)J"⟩
abbrev cX7_codeWith : ByteArray := prog_9_method_3_code
def yX7_codeWith : MethodName := ⟨RX7, "codeWith", "(JI)J"⟩
def kPc (F : State → Prop) (asx : List Value) : Array Value → State → Prop := fun v U => v = asx.toArray ∧ F U
def kQc (P : Option Value → Prop) : Array Value → State → Outcome → State → Prop := fun _ st o t => ∃ x, o = .returned x ∧ P x ∧ t.heap = st.heap
def kNo : Addr → Prop := fun _ => False
theorem k_blind {base : Nat} {F : State → Prop} (hF : eNFw base F) {asx : List Value} : FrameBlind (kPc F asx) := fun _ U _ _ q => ⟨q.1, hF.2 U _ q.2 rfl rfl⟩
section KS
variable {p : Program} {l : Launch} {e : Env} {R : Room} {s : State} {m : MethodId} {args : Array Value} {below : List Frame} {meth : Method} {c : Code} {H : Heap} {locs : List Loc} {ce sl : Nat} {Q : State → Prop} {base : Nat} {cc : ByteArray} {nL pc : Nat} {lsA : Array Slot} {own : String} {F : State → Prop} {P : Option Value → Prop}
theorem k_back {a : Array Value} {st0 rx : List Value} (hr : va_Run p l e R s m args below meth c H locs ce sl 0 0 (F0 m pc lsA st0) rx (kQc P a) kNo) (K : ∀ x, P x → W p l e R s m args below meth c H locs ce sl Q (F0 m (pc + 3) lsA (x.toList ++ rx))) : W p l e R s m args below meth c H locs ce sl Q (F0 m pc lsA st0) := by
  intro T hT X
  obtain ⟨v, st₀, t, T', L, h0, X', hL, e1, e2, ⟨x, hv, hP, hh⟩, st⟩ := hr T hT X
  cases hv
  obtain ⟨t2, a1, b1⟩ := K v hP T' (by rw [e1, hh, h0]) (Stand.forget X' (fun q h => (hL q h).elim))
  exact ⟨t2, st t2 a1, b1⟩
theorem k_callS {y : MethodName} {cc2 : ByteArray} {maxL2 n idx : Nat} {ret : Option FieldType} {rm2 : Room} {asx rx : List Value} (hM : Met l y (Cond.code y cc2 maxL2 ret :: Tb1) rm2 (kPc F asx) (kQc P) 0 0 kNo) (hrm : rm2.cells = 0 ∧ rm2.slots = 0) (hF : eNFw base F)
    (S : CallFix p m c cc nL s args Tb1 own) (hcode : Cond.code y cc2 maxL2 ret ∈ Tb1) (hini : Cond.initialized y.cls ∈ Tb1) (hlink : Cond.methodLink own idx y ∈ Tb1) (hstat : Cond.static y ∈ Tb1) (hpar : y.cls ≠ "java/lang/invoke/MethodHandle" ∧ y.cls ≠ "java/lang/invoke/VarHandle" ∧ (parseMethodDescriptor y.desc).map (fun d => d.parameters.length) = some n)
    (hRR : rm2.frames + 1 ≤ R.frames ∧ 8 + (maxL2 + 11) + rm2.locals ≤ R.locals) (hFs : F s) (hS : va_S (fun q => base ≤ q) s.heap H locs) (hlen : asx.length = n) (hsz : lsA.size = nL) (hcat : (rx.map fun v => v.category).sum ≤ 8) (hf : ce ≤ R.cells ∧ sl ≤ R.slots) (hd : decode cc pc = .ok (.invokestatic idx, 3))
    (K : ∀ x, P x → W p l e R s m args below meth c H locs ce sl Q (F0 m (pc + 3) lsA (x.toList ++ rx))) : W p l e R s m args below meth c H locs ce sl Q (F0 m pc lsA (asx.reverse ++ rx)) := by
  have hG : GoodIn Tb1 (Cond.code y cc2 maxL2 ret :: Tb1) := e_goodIn tb_good (fun w z => (List.mem_cons.mp z).elim (fun z => by rw [z]; exact hcode) (fun z => z))
  have hts := S.2.2.2.2
  refine k_back (a := asx.toArray) (rx := rx) ?_ K
  exact va_runS (n := n) S hM ⟨callB_of n hts hG rfl hrm.1 hrm.2 (hts _ hini) (hts _ hlink) hpar hRR, hts _ hstat⟩ ⟨k_blind hF, fun U hU hW => ⟨rfl, hF.1 s U hFs hW (by rw [hU]; exact hS.1) (by rw [hU]; exact hS.2.1)⟩⟩ rfl hlen hsz rfl (lv_room hcat) hd hf
theorem k_callV {y : MethodName} {cc2 : ByteArray} {maxL2 n idx a : Nat} {ret : Option FieldType} {rm2 : Room} {As rx : List Value} (hM : Met l y (Cond.code y cc2 maxL2 ret :: Tb1) rm2 (kPc F (.ref a :: As)) (kQc P) 0 0 kNo) (hrm : rm2.cells = 0 ∧ rm2.slots = 0) (hF : eNFw base F)
    (S : CallFix p m c cc nL s args Tb1 own) (hcode : Cond.code y cc2 maxL2 ret ∈ Tb1) (hini : Cond.initialized y.cls ∈ Tb1) (hlink : Cond.methodLink own idx y ∈ Tb1) (hinst : Cond.instanceMethod y ∈ Tb1) (hsel : Cond.selects y.cls y y ∈ Tb1) (hpar : y.cls ≠ "java/lang/invoke/MethodHandle" ∧ y.cls ≠ "java/lang/invoke/VarHandle" ∧ (parseMethodDescriptor y.desc).map (fun d => d.parameters.length) = some n)
    (hRR : rm2.frames + 1 ≤ R.frames ∧ 8 + (maxL2 + 11) + rm2.locals ≤ R.locals) (hFs : F s) (hS : va_S (fun q => base ≤ q) s.heap H locs) (hO : va_O y.cls a (fun q => base ≤ q) s s.heap) (hlen : As.length = n) (hsz : lsA.size = nL) (hcat : (rx.map fun v => v.category).sum ≤ 8) (hf : ce ≤ R.cells ∧ sl ≤ R.slots) (hd : decode cc pc = .ok (.invokevirtual idx, 3))
    (K : ∀ x, P x → W p l e R s m args below meth c H locs ce sl Q (F0 m (pc + 3) lsA (x.toList ++ rx))) : W p l e R s m args below meth c H locs ce sl Q (F0 m pc lsA (As.reverse ++ .ref a :: rx)) := by
  have hG : GoodIn Tb1 (Cond.code y cc2 maxL2 ret :: Tb1) := e_goodIn tb_good (fun w z => (List.mem_cons.mp z).elim (fun z => by rw [z]; exact hcode) (fun z => z))
  have hts := S.2.2.2.2
  obtain ⟨cell, g1, g2, g3, -⟩ := hO.kept hS.2.1
  refine k_back (a := (Value.ref a :: As).toArray) (rx := rx) ?_ K
  exact va_runV (n := n) (C := y.cls) S hM ⟨callB_of n hts hG rfl hrm.1 hrm.2 (hts _ hini) (hts _ hlink) hpar hRR, hts _ hinst, hts _ hsel⟩ ⟨k_blind hF, ⟨cell, g1, g2, g3⟩, fun U hU hW => ⟨rfl, hF.1 s U hFs hW (by rw [hU]; exact hS.1) (by rw [hU]; exact hS.2.1)⟩⟩ rfl hlen hsz rfl (lv_room hcat) hd hf
end KS
/-- a method's contract out of its walk -/
theorem k_met {l : Launch} {y : MethodName} {cc : ByteArray} {maxL : Nat} {ret : Option FieldType} {rm : Room} {asx : List Value} {F : State → Prop} {P : Option Value → Prop} (hy : plainName y.cls = true) (hn : (asx.map fun v => v.category).sum ≤ maxL)
    (body : ∀ (p : Program) (e : Env) (s : State) (m : MethodId) (below : List Frame) (meth : Method) (c : Code) (lsA : Array Slot), CallFix p m c cc maxL s asx.toArray Tb1 y.cls → meth.sig.returnType = ret → meth.locks = false → F s → lv_has lsA maxL (lv_args 0 asx) →
      W p l e rm s m asx.toArray below meth c s.heap [] 0 0 (MQ below (kQc P) asx.toArray s 0 0 kNo) (F0 m 0 lsA [])) : Met l y (Cond.code y cc maxL ret :: Tb1) rm (kPc F asx) (kQc P) 0 0 kNo := by
  refine Met.ofW (cc := cc) (maxL := maxL) (ret := ret) hy rfl ?_
  intro p e s m args below meth c s₁ B hml hv
  obtain ⟨rfl, hF⟩ := hv
  have hts := atoms_spec (ws := Cond.code y cc maxL ret :: Tb1) B.pre
  have hl := lv_entry asx (n := maxL) (by rw [lg_len]; exact hn)
  rw [lg_entry_eq]
  generalize (lg_sl asx ++ List.replicate (maxL - (lg_sl asx).length) Slot.unset).toArray = lsA at hl ⊢
  exact body p e s m below meth c lsA ⟨B.exec, B.bytes, hml, findClass_of_methodNamed B.named, fun w hw => hts w (List.mem_cons_of_mem _ hw)⟩ B.returns B.notSynchronized hF hl
/-- a literal at a: its bytes at av, n of them -/
def kF (base a av n : Nat) (f : Nat → Int32) : State → Prop := fun U => va_O RJ0 a (fun q => base ≤ q) U U.heap ∧ va_OF "java/lang/String" "coder" "B" (.int 0) a (fun q => base ≤ q) U U.heap ∧ va_OF "java/lang/String" "value" "[B" (.ref av) a (fun q => base ≤ q) U U.heap ∧ va_T .byte av n (fun j => .int (f j)) (fun q => base ≤ q) U U.heap
  ∧ va_Z "java/lang/String" "COMPACT_STRINGS" "Z" (.int 1) (fun q => base ≤ q) U U.heap ∧ va_Zq "jdk/internal/util/Preconditions" "SIOOBE_FORMATTER" "Ljava/util/function/BiFunction;" (fun q => base ≤ q) U U.heap
theorem kF_ok {base a av n : Nat} {f : Nat → Int32} : eNFw base (kF base a av n f) := by
  refine ⟨fun s U h hW hz hk => ?_, fun s U h hv hh => ?_⟩
  · obtain ⟨h1, h2, h3, h4, h5, h6⟩ := h
    exact ⟨(h1.kept hk).moved hW.alike, (h2.kept hk).moved hW.alike, (h3.kept hk).moved hW.alike, (h4.kept hk).moved hW.alike, (h5.kept hk).moved hW.alike, (h6.kept hk).moved hW.alike⟩
  · obtain ⟨h1, h2, h3, h4, h5, h6⟩ := h
    have hal : s.vm.Alike U.vm := by rw [hv]; exact Vm.Alike.refl _
    have hk : ∀ q : Nat, q < s.heap.size → ¬ base ≤ q → U.heap[q]? = s.heap[q]? := fun q _ _ => by rw [hh]
    exact ⟨(h1.kept hk).moved hal, (h2.kept hk).moved hal, (h3.kept hk).moved hal, (h4.kept hk).moved hal, (h5.kept hk).moved hal, (h6.kept hk).moved hal⟩
def rm00 (f n : Nat) : Room := { frames := f, cells := 0, slots := 0, locals := n }
theorem k_no {locs : List Loc} (h : locs = []) : ∀ q ∈ locs, kNo q.base := fun q hq => by rw [h] at hq; cases hq
theorem m_coder (l : Launch) (base a av n : Nat) (f : Nat → Int32) : Met l yJ0_coder_7d493 (Cond.code yJ0_coder_7d493 cJ0_coder_7d493 1 (some .byte) :: Tb1) (rm00 0 0) (kPc (kF base a av n f) [.ref a]) (kQc (fun x => x = some (.int 0))) 0 0 kNo := by
  refine k_met (by decide) (Nat.le_refl _) ?_
  intro p e s m below meth c lsA ⟨hx, hb, hml, hown, hts⟩ hr hlocks hF hl
  have hl : lv_has lsA 1 [(0, .ref a)] := hl
  have hS : va_S (fun q => base ≤ q) s.heap s.heap [] := va_S.rf
  refine va_gets (v := .int 1) hx hb hF.2.2.2.2.1 hS hown (hts _ (tbT 54 (by decide +kernel) rfl)) (fun _ z => z) (by decide +kernel : decode cJ0_coder_7d493 0 = .ok (.getstatic 38, 3)) ?_
  refine lv_if_eq (tgt := 13) hx hb (by decide +kernel : decode cJ0_coder_7d493 3 = .ok (.ifCond .eq 10, 3)) (by decide) (fun z => absurd z (by decide)) (fun _ => ?_)
  refine lv_aload_n hx hb (by decide +kernel : decode cJ0_coder_7d493 6 = .ok (.aload_n 0, 1)) rfl (lv_at hl 0 rfl) ?_
  refine vk_getf (v := .int 0) hx hb hF.2.1 hS hown (hts _ (tbT 2077 (by decide +kernel) rfl)) (fun _ z => z) (by decide +kernel : decode cJ0_coder_7d493 7 = .ok (.getfield 15, 3)) ?_
  refine lv_goto (tgt := 14) hx hb (by decide +kernel : decode cJ0_coder_7d493 10 = .ok (.goto 4, 3)) (by decide) ?_
  exact W.zret (ty := .byte) hx hb hr rfl (fun t ht _ => ⟨_, rfl, rfl, ht⟩) (k_no rfl) (by decide +kernel : decode cJ0_coder_7d493 14 = .ok (.ireturn, 1))
theorem m_isLatin1 (l : Launch) (base a av n : Nat) (f : Nat → Int32) : Met l yJ0_isLatin1_aae02 (Cond.code yJ0_isLatin1_aae02 cJ0_isLatin1_aae02 1 (some .boolean) :: Tb1) (rm00 0 0) (kPc (kF base a av n f) [.ref a]) (kQc (fun x => x = some (.int 1))) 0 0 kNo := by
  refine k_met (by decide) (Nat.le_refl _) ?_
  intro p e s m below meth c lsA ⟨hx, hb, hml, hown, hts⟩ hr hlocks hF hl
  have hl : lv_has lsA 1 [(0, .ref a)] := hl
  have hS : va_S (fun q => base ≤ q) s.heap s.heap [] := va_S.rf
  refine va_gets (v := .int 1) hx hb hF.2.2.2.2.1 hS hown (hts _ (tbT 54 (by decide +kernel) rfl)) (fun _ z => z) (by decide +kernel : decode cJ0_isLatin1_aae02 0 = .ok (.getstatic 38, 3)) ?_
  refine lv_if_eq (tgt := 17) hx hb (by decide +kernel : decode cJ0_isLatin1_aae02 3 = .ok (.ifCond .eq 14, 3)) (by decide) (fun z => absurd z (by decide)) (fun _ => ?_)
  refine lv_aload_n hx hb (by decide +kernel : decode cJ0_isLatin1_aae02 6 = .ok (.aload_n 0, 1)) rfl (lv_at hl 0 rfl) ?_
  refine vk_getf (v := .int 0) hx hb hF.2.1 hS hown (hts _ (tbT 2077 (by decide +kernel) rfl)) (fun _ z => z) (by decide +kernel : decode cJ0_isLatin1_aae02 7 = .ok (.getfield 15, 3)) ?_
  refine lv_if_ne (tgt := 17) hx hb (by decide +kernel : decode cJ0_isLatin1_aae02 10 = .ok (.ifCond .ne 7, 3)) (by decide) (fun z => absurd rfl z) (fun _ => ?_)
  refine lv_iconst (v := 1) hx hb (by decide +kernel : decode cJ0_isLatin1_aae02 13 = .ok (.iconst 1, 1)) (by decide) ?_
  refine lv_goto (tgt := 18) hx hb (by decide +kernel : decode cJ0_isLatin1_aae02 14 = .ok (.goto 4, 3)) (by decide) ?_
  exact W.zret (ty := .boolean) hx hb hr rfl (fun t ht _ => ⟨_, rfl, rfl, ht⟩) (k_no rfl) (by decide +kernel : decode cJ0_isLatin1_aae02 18 = .ok (.ireturn, 1))
theorem m_length (l : Launch) (base a av n : Nat) (hn : n ≤ 1000) (f : Nat → Int32) : Met l yJ0_length_8abf5 (Cond.code yJ0_length_8abf5 cJ0_length_8abf5 1 (some .int) :: Tb1) (rm00 1 20) (kPc (kF base a av n f) [.ref a]) (kQc (fun x => x = some (.int (Int32.ofNat n)))) 0 0 kNo := by
  refine k_met (by decide) (Nat.le_refl _) ?_
  intro p e s m below meth c lsA ⟨hx, hb, hml, hown, hts⟩ hr hlocks hF hl
  have hl : lv_has lsA 1 [(0, .ref a)] := hl
  have hS : va_S (fun q => base ≤ q) s.heap s.heap [] := va_S.rf
  refine lv_aload_n hx hb (by decide +kernel : decode cJ0_length_8abf5 0 = .ok (.aload_n 0, 1)) rfl (lv_at hl 0 rfl) ?_
  refine vk_getf (v := .ref av) hx hb hF.2.2.1 hS hown (hts _ (tbT 2076 (by decide +kernel) rfl)) (fun _ z => z) (by decide +kernel : decode cJ0_length_8abf5 1 = .ok (.getfield 9, 3)) ?_
  refine va_tlen hx hb hF.2.2.2.1 hS rfl (by decide +kernel : decode cJ0_length_8abf5 4 = .ok (.arraylength, 1)) ?_
  refine lv_aload_n hx hb (by decide +kernel : decode cJ0_length_8abf5 5 = .ok (.aload_n 0, 1)) rfl (lv_at hl 0 rfl) ?_
  refine k_callV (As := []) (m_coder l base a av n f) ⟨rfl, rfl⟩ kF_ok ⟨hx, hb, hml, hown, hts⟩ (tbT 53 (by decide +kernel) rfl) (tbT 3 (by decide +kernel) rfl) (tbT 50 (by decide +kernel) rfl) (tbT 51 (by decide +kernel) rfl) (tbT 52 (by decide +kernel) rfl) (by decide +kernel) ⟨Nat.le_refl _, Nat.le_refl _⟩ hF hS hF.1 rfl hl.1 (Nat.le_of_ble_eq_true rfl) ⟨Nat.zero_le _, Nat.zero_le _⟩ (by decide +kernel : decode cJ0_length_8abf5 6 = .ok (.invokevirtual 335, 3)) (fun x hx2 => ?_)
  subst hx2
  refine lv_ishr hx hb (by decide +kernel : decode cJ0_length_8abf5 9 = .ok (.ishr, 1)) ?_
  have e0 : Int32.ofNat n >>> ((0 : Int32) &&& 31) = Int32.ofNat n := by
    have h := e_shr n 0 (by omega)
    have h2 : fshr n 0 = n := by
      unfold fshr
      cases hz : Nat.ble 2147483648 n with
      | true => have := Nat.le_of_ble_eq_true hz; omega
      | false => rfl
    rw [h2] at h
    exact h
  rw [e0]
  exact W.iret hx hb hr (fun t ht _ => ⟨_, rfl, rfl, ht⟩) (k_no rfl) (by decide +kernel : decode cJ0_length_8abf5 10 = .ok (.ireturn, 1))
theorem m_pcheck (l : Launch) (base : Nat) (k n : Nat) (hk : k < n) (hn : n ≤ 1000) (v : Value) (hv : v = .null ∨ ∃ t, v = .ref t) : Met l yJ3_checkIndex_8e157 (Cond.code yJ3_checkIndex_8e157 cJ3_checkIndex_8e157 3 (some .int) :: Tb1) (rm00 0 0) (kPc (fun _ => True) [.int (Int32.ofNat k), .int (Int32.ofNat n), v]) (kQc (fun x => ∃ z : Int32, x = some (.int z))) 0 0 kNo := by
  refine k_met (by decide) (by rcases hv with rfl | ⟨t, rfl⟩ <;> exact Nat.le_refl _) ?_
  intro p e s m below meth c lsA ⟨hx, hb, hml, hown, hts⟩ hr hlocks hF hl
  have hl : lv_has lsA 3 [(0, .int (Int32.ofNat k)), (1, .int (Int32.ofNat n)), (2, v)] := by rcases hv with rfl | ⟨t, rfl⟩ <;> exact hl
  refine lv_iload_n hx hb (by decide +kernel : decode cJ3_checkIndex_8e157 0 = .ok (.iload_n 0, 1)) rfl (lv_at hl 0 rfl) ?_
  refine lv_if_lt (tgt := 9) hx hb (by decide +kernel : decode cJ3_checkIndex_8e157 1 = .ok (.ifCond .lt 8, 3)) (by decide) (fun z => absurd z (e_pos (by omega))) (fun _ => ?_)
  refine lv_iload_n hx hb (by decide +kernel : decode cJ3_checkIndex_8e157 4 = .ok (.iload_n 0, 1)) rfl (lv_at hl 0 rfl) ?_
  refine lv_iload_n hx hb (by decide +kernel : decode cJ3_checkIndex_8e157 5 = .ok (.iload_n 1, 1)) rfl (lv_at hl 1 rfl) ?_
  refine lv_icmp_lt (tgt := 16) hx hb (by decide +kernel : decode cJ3_checkIndex_8e157 6 = .ok (.if_icmp .lt 10, 3)) (by decide) (fun _ => ?_) (fun z => absurd (nI_lt (a := k) (b := n) hk (by omega)) z)
  refine lv_iload_n hx hb (by decide +kernel : decode cJ3_checkIndex_8e157 16 = .ok (.iload_n 0, 1)) rfl (lv_at hl 0 rfl) ?_
  exact W.iret hx hb hr (fun t ht _ => ⟨_, rfl, ⟨_, rfl⟩, ht⟩) (k_no rfl) (by decide +kernel : decode cJ3_checkIndex_8e157 17 = .ok (.ireturn, 1))
theorem kT_ok {base : Nat} : eNFw base (fun _ => True) := ⟨fun _ _ _ _ _ _ => trivial, fun _ _ _ _ _ => trivial⟩
theorem m_check (l : Launch) (base a av n : Nat) (f : Nat → Int32) (k : Nat) (hk : k < n) (hn : n ≤ 1000) : Met l yJ0_checkIndex_df160 (Cond.code yJ0_checkIndex_df160 cJ0_checkIndex_df160 2 none :: Tb1) (rm00 1 22) (kPc (kF base a av n f) [.int (Int32.ofNat k), .int (Int32.ofNat n)]) (kQc (fun x => x = none)) 0 0 kNo := by
  refine k_met (by decide) (Nat.le_refl _) ?_
  intro p e s m below meth c lsA ⟨hx, hb, hml, hown, hts⟩ hr hlocks hF hl
  have hl : lv_has lsA 2 [(0, .int (Int32.ofNat k)), (1, .int (Int32.ofNat n))] := hl
  have hS : va_S (fun q => base ≤ q) s.heap s.heap [] := va_S.rf
  refine lv_iload_n hx hb (by decide +kernel : decode cJ0_checkIndex_df160 0 = .ok (.iload_n 0, 1)) rfl (lv_at hl 0 rfl) ?_
  refine lv_iload_n hx hb (by decide +kernel : decode cJ0_checkIndex_df160 1 = .ok (.iload_n 1, 1)) rfl (lv_at hl 1 rfl) ?_
  obtain ⟨v, hv, hZ⟩ : ∃ v : Value, (v = .null ∨ ∃ t, v = .ref t) ∧ va_Z "jdk/internal/util/Preconditions" "SIOOBE_FORMATTER" "Ljava/util/function/BiFunction;" v (fun q => base ≤ q) s s.heap := by
    rcases hF.2.2.2.2.2 with z | ⟨t, z⟩
    · exact ⟨_, Or.inl rfl, z⟩
    · exact ⟨_, Or.inr ⟨t, rfl⟩, z⟩
  refine va_gets (v := v) hx hb hZ hS hown (hts _ (tbT 70 (by decide +kernel) rfl)) (fun _ z => z) (by decide +kernel : decode cJ0_checkIndex_df160 2 = .ok (.getstatic 1053, 3)) ?_
  refine k_callS (n := 3) (asx := [.int (Int32.ofNat k), .int (Int32.ofNat n), v]) (rx := []) (m_pcheck l base k n hk hn v hv) ⟨rfl, rfl⟩ (kT_ok (base := base)) ⟨hx, hb, hml, hown, hts⟩ (tbT 74 (by decide +kernel) rfl) (tbT 5 (by decide +kernel) rfl) (tbT 72 (by decide +kernel) rfl) (tbT 73 (by decide +kernel) rfl) (by decide +kernel) ⟨Nat.le_refl _, Nat.le_refl _⟩ trivial hS rfl hl.1 (Nat.zero_le _) ⟨Nat.zero_le _, Nat.zero_le _⟩ (by decide +kernel : decode cJ0_checkIndex_df160 5 = .ok (.invokestatic 1059, 3)) (fun x hx2 => ?_)
  obtain ⟨z, rfl⟩ := hx2
  refine lv_pop hx hb (by decide +kernel : decode cJ0_checkIndex_df160 8 = .ok (.pop, 1)) rfl ?_
  exact W.vret hx hb hr (fun t ht _ => ⟨_, rfl, rfl, ht⟩) (k_no rfl) (by decide +kernel : decode cJ0_checkIndex_df160 9 = .ok (.return_, 1))
def kCh (x : Option Value) : Prop := ∃ z : Int32, x = some (.int z) ∧ narrow .char (.int z) = .int z
theorem m_lcharAt (l : Launch) (base a av n : Nat) (f : Nat → Int32) (k : Nat) (hk : k < n) (hn : n ≤ 1000) : Met l yJ1_charAt_3b067 (Cond.code yJ1_charAt_3b067 cJ1_charAt_3b067 2 (some .char) :: Tb1) (rm00 2 43) (kPc (kF base a av n f) [.ref av, .int (Int32.ofNat k)]) (kQc kCh) 0 0 kNo := by
  refine k_met (by decide) (Nat.le_refl _) ?_
  intro p e s m below meth c lsA ⟨hx, hb, hml, hown, hts⟩ hr hlocks hF hl
  have hl : lv_has lsA 2 [(0, .ref av), (1, .int (Int32.ofNat k))] := hl
  have hS : va_S (fun q => base ≤ q) s.heap s.heap [] := va_S.rf
  refine lv_iload_n hx hb (by decide +kernel : decode cJ1_charAt_3b067 0 = .ok (.iload_n 1, 1)) rfl (lv_at hl 1 rfl) ?_
  refine lv_aload_n hx hb (by decide +kernel : decode cJ1_charAt_3b067 1 = .ok (.aload_n 0, 1)) rfl (lv_at hl 0 rfl) ?_
  refine va_tlen hx hb hF.2.2.2.1 hS rfl (by decide +kernel : decode cJ1_charAt_3b067 2 = .ok (.arraylength, 1)) ?_
  refine k_callS (n := 2) (asx := [.int (Int32.ofNat k), .int (Int32.ofNat n)]) (rx := []) (m_check l base a av n f k hk hn) ⟨rfl, rfl⟩ kF_ok ⟨hx, hb, hml, hown, hts⟩ (tbT 69 (by decide +kernel) rfl) (tbT 3 (by decide +kernel) rfl) (tbT 67 (by decide +kernel) rfl) (tbT 68 (by decide +kernel) rfl) (by decide +kernel) ⟨Nat.le_refl _, Nat.le_refl _⟩ hF hS rfl hl.1 (Nat.zero_le _) ⟨Nat.zero_le _, Nat.zero_le _⟩ (by decide +kernel : decode cJ1_charAt_3b067 3 = .ok (.invokestatic 9, 3)) (fun x hx2 => ?_)
  subst hx2
  refine lv_aload_n hx hb (by decide +kernel : decode cJ1_charAt_3b067 6 = .ok (.aload_n 0, 1)) rfl (lv_at hl 0 rfl) ?_
  refine lv_iload_n hx hb (by decide +kernel : decode cJ1_charAt_3b067 7 = .ok (.iload_n 1, 1)) rfl (lv_at hl 1 rfl) ?_
  refine va_tb hx hb hF.2.2.2.1 hS (e_in (i := k) hk (by omega)) rfl (by decide +kernel : decode cJ1_charAt_3b067 8 = .ok (.baload, 1)) ?_
  refine lv_sipush (v := 255) hx hb (by decide +kernel : decode cJ1_charAt_3b067 9 = .ok (.sipush 255, 3)) (by decide) ?_
  refine lv_iand hx hb (by decide +kernel : decode cJ1_charAt_3b067 12 = .ok (.iand, 1)) ?_
  refine lv_i2c hx hb (by decide +kernel : decode cJ1_charAt_3b067 13 = .ok (.i2c, 1)) rfl ?_
  exact W.zret (ty := .char) hx hb hr (pk_nc _) (fun t ht _ => ⟨_, rfl, ⟨_, rfl, pk_nc _⟩, ht⟩) (k_no rfl) (by decide +kernel : decode cJ1_charAt_3b067 14 = .ok (.ireturn, 1))
theorem m_charAt (l : Launch) (base a av n : Nat) (f : Nat → Int32) (k : Nat) (hk : k < n) (hn : n ≤ 1000) : Met l yJ0_charAt_5068e (Cond.code yJ0_charAt_5068e cJ0_charAt_5068e 2 (some .char) :: Tb1) (rm00 3 64) (kPc (kF base a av n f) [.ref a, .int (Int32.ofNat k)]) (kQc kCh) 0 0 kNo := by
  refine k_met (by decide) (Nat.le_refl _) ?_
  intro p e s m below meth c lsA ⟨hx, hb, hml, hown, hts⟩ hr hlocks hF hl
  have hl : lv_has lsA 2 [(0, .ref a), (1, .int (Int32.ofNat k))] := hl
  have hS : va_S (fun q => base ≤ q) s.heap s.heap [] := va_S.rf
  refine lv_aload_n hx hb (by decide +kernel : decode cJ0_charAt_5068e 0 = .ok (.aload_n 0, 1)) rfl (lv_at hl 0 rfl) ?_
  refine k_callV (As := []) (rx := []) (m_isLatin1 l base a av n f) ⟨rfl, rfl⟩ kF_ok ⟨hx, hb, hml, hown, hts⟩ (tbT 63 (by decide +kernel) rfl) (tbT 3 (by decide +kernel) rfl) (tbT 60 (by decide +kernel) rfl) (tbT 61 (by decide +kernel) rfl) (tbT 62 (by decide +kernel) rfl) (by decide +kernel) ⟨Nat.le_of_ble_eq_true rfl, Nat.le_of_ble_eq_true rfl⟩ hF hS hF.1 rfl hl.1 (Nat.zero_le _) ⟨Nat.zero_le _, Nat.zero_le _⟩ (by decide +kernel : decode cJ0_charAt_5068e 1 = .ok (.invokevirtual 492, 3)) (fun x hx2 => ?_)
  subst hx2
  refine lv_if_eq (tgt := 16) hx hb (by decide +kernel : decode cJ0_charAt_5068e 4 = .ok (.ifCond .eq 12, 3)) (by decide) (fun z => absurd z (by decide)) (fun _ => ?_)
  refine lv_aload_n hx hb (by decide +kernel : decode cJ0_charAt_5068e 7 = .ok (.aload_n 0, 1)) rfl (lv_at hl 0 rfl) ?_
  refine vk_getf (v := .ref av) hx hb hF.2.2.1 hS hown (hts _ (tbT 2076 (by decide +kernel) rfl)) (fun _ z => z) (by decide +kernel : decode cJ0_charAt_5068e 8 = .ok (.getfield 9, 3)) ?_
  refine lv_iload_n hx hb (by decide +kernel : decode cJ0_charAt_5068e 11 = .ok (.iload_n 1, 1)) rfl (lv_at hl 1 rfl) ?_
  refine k_callS (n := 2) (asx := [.ref av, .int (Int32.ofNat k)]) (rx := []) (m_lcharAt l base a av n f k hk hn) ⟨rfl, rfl⟩ kF_ok ⟨hx, hb, hml, hown, hts⟩ (tbT 66 (by decide +kernel) rfl) (tbT 4 (by decide +kernel) rfl) (tbT 64 (by decide +kernel) rfl) (tbT 65 (by decide +kernel) rfl) (by decide +kernel) ⟨Nat.le_refl _, Nat.le_refl _⟩ hF hS rfl hl.1 (Nat.zero_le _) ⟨Nat.zero_le _, Nat.zero_le _⟩ (by decide +kernel : decode cJ0_charAt_5068e 12 = .ok (.invokestatic 495, 3)) (fun x hx2 => ?_)
  obtain ⟨z, rfl, hz⟩ := hx2
  exact W.zret (ty := .char) hx hb hr hz (fun t ht _ => ⟨_, rfl, ⟨_, rfl, hz⟩, ht⟩) (k_no rfl) (by decide +kernel : decode cJ0_charAt_5068e 15 = .ok (.ireturn, 1))
def kLg (x : Option Value) : Prop := ∃ z : Int64, x = some (.long z)
theorem m_codeWith (l : Launch) (z : Int64) (q : Int32) : Met l yX7_codeWith (Cond.code yX7_codeWith cX7_codeWith 3 (some .long) :: Tb1) (rm00 0 0) (kPc (fun _ => True) [.long z, .int q]) (kQc kLg) 0 0 kNo := by
  refine k_met (by decide) (Nat.le_refl _) ?_
  intro p e s m below meth c lsA ⟨hx, hb, hml, hown, hts⟩ hr hlocks hF hl
  have hl : lv_has lsA 3 [(0, .long z), (2, .int q)] := hl
  refine lv_lload_n hx hb (by decide +kernel : decode cX7_codeWith 0 = .ok (.lload_n 0, 1)) rfl (lv_at hl 0 rfl) ?_
  refine lv_ldc2 (v := 27) hx hb hown (hts _ (tbT 97 (by decide +kernel) rfl)) (by decide +kernel : decode cX7_codeWith 1 = .ok (.ldc2_w 43, 3)) ?_
  refine lv_lmul hx hb (by decide +kernel : decode cX7_codeWith 4 = .ok (.lmul, 1)) ?_
  refine lv_iload_n hx hb (by decide +kernel : decode cX7_codeWith 5 = .ok (.iload_n 2, 1)) rfl (lv_at hl 1 rfl) ?_
  refine lv_bipush (v := 97) hx hb (by decide +kernel : decode cX7_codeWith 6 = .ok (.bipush 97, 2)) (by decide) ?_
  refine lv_isub hx hb (by decide +kernel : decode cX7_codeWith 8 = .ok (.isub, 1)) ?_
  refine lv_iconst (v := 1) hx hb (by decide +kernel : decode cX7_codeWith 9 = .ok (.iconst 1, 1)) (by decide) ?_
  refine lv_iadd hx hb (by decide +kernel : decode cX7_codeWith 10 = .ok (.iadd, 1)) ?_
  refine lv_i2l hx hb (by decide +kernel : decode cX7_codeWith 11 = .ok (.i2l, 1)) rfl ?_
  refine lv_ladd hx hb (by decide +kernel : decode cX7_codeWith 12 = .ok (.ladd, 1)) ?_
  exact W.lret hx hb hr (fun t ht _ => ⟨_, rfl, ⟨_, rfl⟩, ht⟩) (k_no rfl) (by decide +kernel : decode cX7_codeWith 13 = .ok (.lreturn, 1))
end
section
theorem v_HF (base : Nat) : eNFw base (HF1 base) := by
  refine ⟨fun s U h hW hz hk => ?_, fun s U h hv hh => ?_⟩
  · obtain ⟨adK, adV, h1, h2, h3, h4, h5, h6, h7, h8, h9, h10⟩ := h
    exact ⟨adK, adV, (h1.kept hk).moved hW.alike, vk_R.warm hW h2, vk_R.warm hW h3, vk_R.warm hW h4, vk_R.warm hW h5, (h6.kept hk).moved hW.alike, (h7.kept hk).moved hW.alike, (h8.kept hk).moved hW.alike, (h9.kept hk).moved hW.alike, ⟨va_Nw.warmC hW h10.1, va_Nw.warmD hW h10.2.1, va_Nw.warmD hW h10.2.2.1, va_Nw.warmD hW h10.2.2.2⟩⟩
  · obtain ⟨adK, adV, h1, h2, h3, h4, h5, h6, h7, h8, h9, h10⟩ := h
    have hal : s.vm.Alike U.vm := by rw [hv]; exact Vm.Alike.refl _
    have hk : ∀ a : Nat, a < s.heap.size → ¬ base ≤ a → U.heap[a]? = s.heap[a]? := fun a _ _ => by rw [hh]
    exact ⟨adK, adV, (h1.kept hk).moved hal, vk_R.same hv.symm h2, vk_R.same hv.symm h3, vk_R.same hv.symm h4, vk_R.same hv.symm h5, (h6.kept hk).moved hal, (h7.kept hk).moved hal, (h8.kept hk).moved hal, (h9.kept hk).moved hal, ⟨va_tabs rfl hv h10.1, va_tabs rfl hv h10.2.1, va_tabs rfl hv h10.2.2.1, va_tabs rfl hv h10.2.2.2⟩⟩
theorem cok_loop {p : Program} {l : Launch} {e : Env} {s : State} {m : MethodId} {args : Array Value} {below : List Frame} {meth : Method} {c : Code} {base : Nat} (S : CallFix p m c cX7_codeOfKeyword 7 s args Tb1 RX7) (hr : meth.sig.returnType = some .long) (hlocks : meth.locks = false) {a av n : Nat} {f : Nat → Int32} (hF : kF base a av n f s) (hn : n ≤ 1000) {d : Nat} (hdd : d ≤ 10) :
    ∀ (k j : Nat) (z : Int64), 7 * d + 8 ≤ j + k → j ≤ 7 * d + 7 → ∀ lsA : Array Slot, lv_has lsA 7 [(1, .ref a), (2, .int (Int32.ofNat (7 * d))), (3, .long z), (5, .int (Int32.ofNat j))] → W p l e (rm00 4 85) s m args below meth c s.heap [] 0 0 (MQ below (kQc kLg) args s 0 0 kNo) (F0 m 61 lsA []) := by
  obtain ⟨hx, hb, hml, hown, hts⟩ := id S
  have hS : va_S (fun q => base ≤ q) s.heap s.heap [] := va_S.rf
  have out : ∀ (z : Int64) (lsA : Array Slot), lsA[3]? = some (.val (.long z)) → W p l e (rm00 4 85) s m args below meth c s.heap [] 0 0 (MQ below (kQc kLg) args s 0 0 kNo) (F0 m 111 lsA []) := by
    intro z lsA hl
    refine lv_lload_n hx hb (by decide +kernel : decode cX7_codeOfKeyword 111 = .ok (.lload_n 3, 1)) rfl hl ?_
    exact W.lret hx hb hr (fun t ht _ => ⟨_, rfl, ⟨_, rfl⟩, ht⟩) (k_no rfl) (by decide +kernel : decode cX7_codeOfKeyword 112 = .ok (.lreturn, 1))
  intro k
  induction k with
  | zero => intro j z h1 h2; omega
  | succ k ih =>
    intro j z h1 h2 lsA hl
    refine lv_iload hx hb (by decide +kernel : decode cX7_codeOfKeyword 61 = .ok (.iload 5, 2)) (lv_at hl 3 rfl) ?_
    refine lv_iload_n hx hb (by decide +kernel : decode cX7_codeOfKeyword 63 = .ok (.iload_n 2, 1)) rfl (lv_at hl 1 rfl) ?_
    refine lv_bipush (v := 7) hx hb (by decide +kernel : decode cX7_codeOfKeyword 64 = .ok (.bipush 7, 2)) (by decide) ?_
    refine lv_iadd hx hb (by decide +kernel : decode cX7_codeOfKeyword 66 = .ok (.iadd, 1)) ?_
    have e1 : Int32.ofNat (7 * d) + 7 = Int32.ofNat (7 * d + 7) := (Int32.ofNat_add (7 * d) 7).symm
    rw [e1]
    refine lv_icmp_ge (tgt := 111) hx hb (by decide +kernel : decode cX7_codeOfKeyword 67 = .ok (.if_icmp .ge 44, 3)) (by decide) (fun _ => out z lsA (lv_at hl 2 rfl)) (fun q1 => ?_)
    have hj : j < 7 * d + 7 := by
      rcases Nat.lt_or_ge j (7 * d + 7) with q | q
      · exact q
      · exact absurd (nI_le (a := 7 * d + 7) (b := j) q (by omega)) q1
    refine lv_iload hx hb (by decide +kernel : decode cX7_codeOfKeyword 70 = .ok (.iload 5, 2)) (lv_at hl 3 rfl) ?_
    refine lv_aload_n hx hb (by decide +kernel : decode cX7_codeOfKeyword 72 = .ok (.aload_n 1, 1)) rfl (lv_at hl 0 rfl) ?_
    refine k_callV (As := []) (rx := [.int (Int32.ofNat j)]) (m_length l base a av n hn f) ⟨rfl, rfl⟩ kF_ok S (tbT 49 (by decide +kernel) rfl) (tbT 3 (by decide +kernel) rfl) (tbT 46 (by decide +kernel) rfl) (tbT 47 (by decide +kernel) rfl) (tbT 48 (by decide +kernel) rfl) (by decide +kernel) ⟨Nat.le_of_ble_eq_true rfl, Nat.le_of_ble_eq_true rfl⟩ hF hS hF.1 rfl hl.1 (Nat.le_of_ble_eq_true rfl) ⟨Nat.zero_le _, Nat.zero_le _⟩ (by decide +kernel : decode cX7_codeOfKeyword 73 = .ok (.invokevirtual 29, 3)) (fun x hx2 => ?_)
    subst hx2
    refine lv_icmp_ge (tgt := 111) hx hb (by decide +kernel : decode cX7_codeOfKeyword 76 = .ok (.if_icmp .ge 35, 3)) (by decide) (fun _ => out z lsA (lv_at hl 2 rfl)) (fun q2 => ?_)
    have hjn : j < n := by
      rcases Nat.lt_or_ge j n with q | q
      · exact q
      · exact absurd (nI_le (a := n) (b := j) q (by omega)) q2
    refine lv_aload_n hx hb (by decide +kernel : decode cX7_codeOfKeyword 79 = .ok (.aload_n 1, 1)) rfl (lv_at hl 0 rfl) ?_
    refine lv_iload hx hb (by decide +kernel : decode cX7_codeOfKeyword 80 = .ok (.iload 5, 2)) (lv_at hl 3 rfl) ?_
    refine k_callV (n := 1) (As := [.int (Int32.ofNat j)]) (rx := []) (m_charAt l base a av n f j hjn hn) ⟨rfl, rfl⟩ kF_ok S (tbT 59 (by decide +kernel) rfl) (tbT 3 (by decide +kernel) rfl) (tbT 56 (by decide +kernel) rfl) (tbT 57 (by decide +kernel) rfl) (tbT 58 (by decide +kernel) rfl) (by decide +kernel) ⟨Nat.le_of_ble_eq_true rfl, Nat.le_of_ble_eq_true rfl⟩ hF hS hF.1 rfl hl.1 (Nat.zero_le _) ⟨Nat.zero_le _, Nat.zero_le _⟩ (by decide +kernel : decode cX7_codeOfKeyword 82 = .ok (.invokevirtual 35, 3)) (fun x hx2 => ?_)
    obtain ⟨q, rfl, -⟩ := hx2
    refine lv_istore (lv' := [(6, .int q), (1, .ref a), (2, .int (Int32.ofNat (7 * d))), (3, .long z), (5, .int (Int32.ofNat j))]) hx hb (by decide +kernel : decode cX7_codeOfKeyword 85 = .ok (.istore 6, 2)) hl (by decide) rfl (fun lsB hlB => ?_)
    have fin : ∀ z2 : Int64, W p l e (rm00 4 85) s m args below meth c s.heap [] 0 0 (MQ below (kQc kLg) args s 0 0 kNo) (F0 m 104 lsB [.long z2]) := by
      intro z2
      refine lv_lstore_n (lv' := [(3, .long z2), (6, .int q), (1, .ref a), (2, .int (Int32.ofNat (7 * d))), (5, .int (Int32.ofNat j))]) hx hb (by decide +kernel : decode cX7_codeOfKeyword 104 = .ok (.lstore_n 3, 1)) rfl hlB (by decide) rfl (fun lsC hlC => ?_)
      refine lv_iinc (v := Int32.ofNat (j + 1)) (lv' := [(5, .int (Int32.ofNat (j + 1))), (3, .long z2), (6, .int q), (1, .ref a), (2, .int (Int32.ofNat (7 * d)))]) hx hb (by decide +kernel : decode cX7_codeOfKeyword 105 = .ok (.iinc 5 1, 3)) hlC (k := 4) rfl (by rw [Int32.ofNat_add]; rfl) (by decide) rfl (fun lsE hlE => ?_)
      refine lv_goto (tgt := 61) hx hb (by decide +kernel : decode cX7_codeOfKeyword 108 = .ok (.goto (-47), 3)) (by decide) ?_
      exact ih (j + 1) z2 (by omega) (by omega) lsE (lv_sub hlE [3, 4, 1, 0] rfl)
    refine lv_iload hx hb (by decide +kernel : decode cX7_codeOfKeyword 87 = .ok (.iload 6, 2)) (lv_at hlB 0 rfl) ?_
    refine lv_bipush (v := 32) hx hb (by decide +kernel : decode cX7_codeOfKeyword 89 = .ok (.bipush 32, 2)) (by decide) ?_
    refine lv_icmp_ne (tgt := 98) hx hb (by decide +kernel : decode cX7_codeOfKeyword 91 = .ok (.if_icmp .ne 7, 3)) (by decide) (fun _ => ?_) (fun _ => ?_)
    · refine lv_lload_n hx hb (by decide +kernel : decode cX7_codeOfKeyword 98 = .ok (.lload_n 3, 1)) rfl (lv_at hlB 3 rfl) ?_
      refine lv_iload hx hb (by decide +kernel : decode cX7_codeOfKeyword 99 = .ok (.iload 6, 2)) (lv_at hlB 0 rfl) ?_
      refine k_callS (n := 2) (asx := [.long z, .int q]) (rx := []) (m_codeWith l z q) ⟨rfl, rfl⟩ (kT_ok (base := base)) S (tbT 96 (by decide +kernel) rfl) (tbT 2 (by decide +kernel) rfl) (tbT 94 (by decide +kernel) rfl) (tbT 95 (by decide +kernel) rfl) (by decide +kernel) ⟨Nat.le_of_ble_eq_true rfl, Nat.le_of_ble_eq_true rfl⟩ trivial hS rfl hlB.1 (Nat.zero_le _) ⟨Nat.zero_le _, Nat.zero_le _⟩ (by decide +kernel : decode cX7_codeOfKeyword 101 = .ok (.invokestatic 39, 3)) (fun x hx2 => ?_)
      obtain ⟨z2, rfl⟩ := hx2
      exact fin z2
    · refine lv_lload_n hx hb (by decide +kernel : decode cX7_codeOfKeyword 94 = .ok (.lload_n 3, 1)) rfl (lv_at hlB 3 rfl) ?_
      refine lv_goto (tgt := 104) hx hb (by decide +kernel : decode cX7_codeOfKeyword 95 = .ok (.goto 9, 3)) (by decide) ?_
      exact fin z
theorem m_cok (l : Launch) (base w : Nat) (hw : w < 30) : Met l yX7_codeOfKeyword (Cond.code yX7_codeOfKeyword cX7_codeOfKeyword 7 (some .long) :: Tb1) (rm00 4 85) (kPc (HF1 base) [.int (Int32.ofNat w)]) (kQc kLg) 0 0 kNo := by
  refine k_met (by decide) (Nat.le_of_ble_eq_true rfl) ?_
  intro p e s m below meth c lsA S hr hlocks hH hl
  obtain ⟨hx, hb, hml, hown, hts⟩ := id S
  obtain ⟨adK, adV, h1, h2, h3, h4, h5, h6, h7, h8, h9⟩ := hH
  have hl : lv_has lsA 7 [(0, .int (Int32.ofNat w))] := hl
  have c3 : ∀ (i : Nat), i < 4 → ∀ (d : Nat), d ≤ 10 → ∀ lsA : Array Slot, lv_has lsA 7 [(1, .ref (adK i)), (0, .int (Int32.ofNat w))] → W p l e (rm00 4 85) s m [Value.int (Int32.ofNat w)].toArray below meth c s.heap [] 0 0 (MQ below (kQc kLg) [Value.int (Int32.ofNat w)].toArray s 0 0 kNo) (F0 m 52 lsA [.int (Int32.ofNat d)]) := by
    intro i hi d hd lsA hl
    have hF : kF base (adK i) (adV i) (scLen.getD i 0) (fun j => (scByt.getD i []).getD j 0) s := ⟨(h1.1 i hi).1, (h1.1 i hi).2.1, (h1.1 i hi).2.2.1, (h1.1 i hi).2.2.2, h6, h7⟩
    have hn : scLen.getD i 0 ≤ 1000 := by
      rcases (show i = 0 ∨ i = 1 ∨ i = 2 ∨ i = 3 by omega) with rfl | rfl | rfl | rfl <;> decide
    refine lv_bipush (v := 7) hx hb (by decide +kernel : decode cX7_codeOfKeyword 52 = .ok (.bipush 7, 2)) (by decide) ?_
    refine lv_imul hx hb (by decide +kernel : decode cX7_codeOfKeyword 54 = .ok (.imul, 1)) ?_
    have e1 : Int32.ofNat d * 7 = Int32.ofNat (7 * d) := by
      rw [Nat.mul_comm]
      exact (Int32.ofNat_mul d 7).symm
    rw [e1]
    refine lv_istore_n (lv' := [(2, .int (Int32.ofNat (7 * d))), (1, .ref (adK i)), (0, .int (Int32.ofNat w))]) hx hb (by decide +kernel : decode cX7_codeOfKeyword 55 = .ok (.istore_n 2, 1)) rfl hl (by decide) rfl (fun lsB hlB => ?_)
    refine lv_lconst (v := 0) hx hb (by decide +kernel : decode cX7_codeOfKeyword 56 = .ok (.lconst 0, 1)) (by decide) ?_
    refine lv_lstore_n (lv' := [(3, .long 0), (2, .int (Int32.ofNat (7 * d))), (1, .ref (adK i)), (0, .int (Int32.ofNat w))]) hx hb (by decide +kernel : decode cX7_codeOfKeyword 57 = .ok (.lstore_n 3, 1)) rfl hlB (by decide) rfl (fun lsC hlC => ?_)
    refine lv_iload_n hx hb (by decide +kernel : decode cX7_codeOfKeyword 58 = .ok (.iload_n 2, 1)) rfl (lv_at hlC 1 rfl) ?_
    refine lv_istore (lv' := [(5, .int (Int32.ofNat (7 * d))), (3, .long 0), (2, .int (Int32.ofNat (7 * d))), (1, .ref (adK i)), (0, .int (Int32.ofNat w))]) hx hb (by decide +kernel : decode cX7_codeOfKeyword 59 = .ok (.istore 5, 2)) hlC (by decide) rfl (fun lsE hlE => ?_)
    exact cok_loop S hr hlocks hF hn hd 100 (7 * d) 0 (by omega) (by omega) lsE (lv_sub hlE [3, 2, 1, 0] rfl)
  have c2 : ∀ (i : Nat), i < 4 → W p l e (rm00 4 85) s m [Value.int (Int32.ofNat w)].toArray below meth c s.heap [] 0 0 (MQ below (kQc kLg) [Value.int (Int32.ofNat w)].toArray s 0 0 kNo) (F0 m 24 lsA [.ref (adK i)]) := by
    intro i hi
    refine lv_astore_n (lv' := [(1, .ref (adK i)), (0, .int (Int32.ofNat w))]) hx hb (by decide +kernel : decode cX7_codeOfKeyword 24 = .ok (.astore_n 1, 1)) rfl hl (by decide) rfl (fun lsB hlB => ?_)
    refine lv_iload_n hx hb (by decide +kernel : decode cX7_codeOfKeyword 25 = .ok (.iload_n 0, 1)) rfl (lv_at hlB 1 rfl) ?_
    refine lv_bipush (v := 9) hx hb (by decide +kernel : decode cX7_codeOfKeyword 26 = .ok (.bipush 9, 2)) (by decide) ?_
    refine lv_icmp_ge (tgt := 35) hx hb (by decide +kernel : decode cX7_codeOfKeyword 28 = .ok (.if_icmp .ge 7, 3)) (by decide) (fun q1 => ?_) (fun q1 => ?_)
    · have hw9 : 9 ≤ w := by
        rcases Nat.lt_or_ge w 9 with q | q
        · exact absurd q1 (nI_ge (a := w) (b := 9) q (by omega))
        · exact q
      refine lv_iload_n hx hb (by decide +kernel : decode cX7_codeOfKeyword 35 = .ok (.iload_n 0, 1)) rfl (lv_at hlB 1 rfl) ?_
      refine lv_bipush (v := 19) hx hb (by decide +kernel : decode cX7_codeOfKeyword 36 = .ok (.bipush 19, 2)) (by decide) ?_
      refine lv_icmp_ge (tgt := 48) hx hb (by decide +kernel : decode cX7_codeOfKeyword 38 = .ok (.if_icmp .ge 10, 3)) (by decide) (fun q2 => ?_) (fun q2 => ?_)
      · have hw19 : 19 ≤ w := by
          rcases Nat.lt_or_ge w 19 with q | q
          · exact absurd q2 (nI_ge (a := w) (b := 19) q (by omega))
          · exact q
        refine lv_iload_n hx hb (by decide +kernel : decode cX7_codeOfKeyword 48 = .ok (.iload_n 0, 1)) rfl (lv_at hlB 1 rfl) ?_
        refine lv_bipush (v := 19) hx hb (by decide +kernel : decode cX7_codeOfKeyword 49 = .ok (.bipush 19, 2)) (by decide) ?_
        refine lv_isub hx hb (by decide +kernel : decode cX7_codeOfKeyword 51 = .ok (.isub, 1)) ?_
        have e1 : Int32.ofNat w - 19 = Int32.ofNat (w - 19) := (Int32.ofNat_sub w 19 hw19).symm
        rw [e1]
        exact c3 i hi (w - 19) (by omega) lsB hlB
      · have hw19 : w < 19 := by
          rcases Nat.lt_or_ge w 19 with q | q
          · exact q
          · exact absurd (nI_le (a := 19) (b := w) q (by omega)) q2
        refine lv_iload_n hx hb (by decide +kernel : decode cX7_codeOfKeyword 41 = .ok (.iload_n 0, 1)) rfl (lv_at hlB 1 rfl) ?_
        refine lv_bipush (v := 9) hx hb (by decide +kernel : decode cX7_codeOfKeyword 42 = .ok (.bipush 9, 2)) (by decide) ?_
        refine lv_isub hx hb (by decide +kernel : decode cX7_codeOfKeyword 44 = .ok (.isub, 1)) ?_
        refine lv_goto (tgt := 52) hx hb (by decide +kernel : decode cX7_codeOfKeyword 45 = .ok (.goto 7, 3)) (by decide) ?_
        have e1 : Int32.ofNat w - 9 = Int32.ofNat (w - 9) := (Int32.ofNat_sub w 9 hw9).symm
        rw [e1]
        exact c3 i hi (w - 9) (by omega) lsB hlB
    · have hw9 : w < 9 := by
        rcases Nat.lt_or_ge w 9 with q | q
        · exact q
        · exact absurd (nI_le (a := 9) (b := w) q (by omega)) q1
      refine lv_iload_n hx hb (by decide +kernel : decode cX7_codeOfKeyword 31 = .ok (.iload_n 0, 1)) rfl (lv_at hlB 1 rfl) ?_
      refine lv_goto (tgt := 52) hx hb (by decide +kernel : decode cX7_codeOfKeyword 32 = .ok (.goto 20, 3)) (by decide) ?_
      exact c3 i hi w (by omega) lsB hlB
  refine lv_iload_n hx hb (by decide +kernel : decode cX7_codeOfKeyword 0 = .ok (.iload_n 0, 1)) rfl (lv_at hl 0 rfl) ?_
  refine lv_bipush (v := 9) hx hb (by decide +kernel : decode cX7_codeOfKeyword 1 = .ok (.bipush 9, 2)) (by decide) ?_
  refine lv_icmp_ge (tgt := 11) hx hb (by decide +kernel : decode cX7_codeOfKeyword 3 = .ok (.if_icmp .ge 8, 3)) (by decide) (fun q1 => ?_) (fun q1 => ?_)
  · refine lv_iload_n hx hb (by decide +kernel : decode cX7_codeOfKeyword 11 = .ok (.iload_n 0, 1)) rfl (lv_at hl 0 rfl) ?_
    refine lv_bipush (v := 19) hx hb (by decide +kernel : decode cX7_codeOfKeyword 12 = .ok (.bipush 19, 2)) (by decide) ?_
    refine lv_icmp_ge (tgt := 22) hx hb (by decide +kernel : decode cX7_codeOfKeyword 14 = .ok (.if_icmp .ge 8, 3)) (by decide) (fun q2 => ?_) (fun q2 => ?_)
    · refine va_ldcS hx hb hown h4 (by decide +kernel : decode cX7_codeOfKeyword 22 = .ok (.ldc 27, 2)) ?_
      exact c2 2 (by omega)
    · refine va_ldcS hx hb hown h3 (by decide +kernel : decode cX7_codeOfKeyword 17 = .ok (.ldc 25, 2)) ?_
      refine lv_goto (tgt := 24) hx hb (by decide +kernel : decode cX7_codeOfKeyword 19 = .ok (.goto 5, 3)) (by decide) ?_
      exact c2 1 (by omega)
  · refine va_ldcS hx hb hown h2 (by decide +kernel : decode cX7_codeOfKeyword 6 = .ok (.ldc 23, 2)) ?_
    refine lv_goto (tgt := 24) hx hb (by decide +kernel : decode cX7_codeOfKeyword 8 = .ok (.goto 16, 3)) (by decide) ?_
    exact c2 0 (by omega)
end
section
theorem e_dk {cc : ByteArray} {nL : Nat} {l : List eI} (h1 : ∀ t ∈ l, decode cc t.1 = .ok (t.2.1, t.2.2)) (h2 : l.all (fun t => est t.1 t.2.1 nL && elen t.2.1 t.2.2) = true) : ∀ t ∈ l, eDk cc nL t := fun t ht => by
  have h := List.all_eq_true.mp h2 t ht
  rw [Bool.and_eq_true] at h
  exact ⟨h1 t ht, h.1, h.2⟩
theorem vm_0 : eMok Tb1 eCN (em_0, 1) yX0_init cX0_init none := ⟨tbT 323 (by decide +kernel) rfl, tbT 13 (by decide +kernel) rfl, plainFor_of_name (by decide +kernel), rfl, by decide +kernel, e_dk ed_0 ee_0, (fun _ => rfl), Or.inr (Or.inl ⟨rfl, rfl⟩)⟩
theorem vm_1 : eMok Tb1 eCN (em_1, 5) yX0_live cX0_live (some .int) := ⟨tbT 1173 (by decide +kernel) rfl, tbT 13 (by decide +kernel) rfl, plainFor_of_name (by decide +kernel), rfl, by decide +kernel, e_dk ed_1 ee_1, (fun h => by cases h), Or.inr (Or.inr (Or.inl ⟨rfl, rfl⟩))⟩
theorem vm_2 : eMok Tb1 eCN (em_2, 4) yX0_readText cX0_readText (some .boolean) := ⟨tbT 1139 (by decide +kernel) rfl, tbT 13 (by decide +kernel) rfl, plainFor_of_name (by decide +kernel), rfl, by decide +kernel, e_dk ed_2 ee_2, (fun h => by cases h), Or.inr (Or.inr (Or.inr (Or.inl ⟨rfl, rfl⟩)))⟩
theorem vm_3 : eMok Tb1 eCN (em_3, 1) yX1_init cX1_init none := ⟨tbT 197 (by decide +kernel) rfl, tbT 8 (by decide +kernel) rfl, plainFor_of_name (by decide +kernel), rfl, by decide +kernel, e_dk ed_3 ee_3, (fun _ => rfl), Or.inr (Or.inl ⟨rfl, rfl⟩)⟩
theorem vm_4 : eMok Tb1 eCN (em_4, 3) yX1_allGoings cX1_allGoings (some .int) := ⟨tbT 746 (by decide +kernel) rfl, tbT 8 (by decide +kernel) rfl, plainFor_of_name (by decide +kernel), rfl, by decide +kernel, e_dk ed_4 ee_4, (fun h => by cases h), Or.inr (Or.inr (Or.inl ⟨rfl, rfl⟩))⟩
theorem vm_5 : eMok Tb1 eCN (em_5, 2) yX1_copyFrom cX1_copyFrom none := ⟨tbT 692 (by decide +kernel) rfl, tbT 8 (by decide +kernel) rfl, plainFor_of_name (by decide +kernel), rfl, by decide +kernel, e_dk ed_5 ee_5, (fun h => by cases h), Or.inl ⟨rfl, rfl⟩⟩
theorem vm_6 : eMok Tb1 eCN (em_6, 1) yX1_forget cX1_forget none := ⟨tbT 530 (by decide +kernel) rfl, tbT 8 (by decide +kernel) rfl, plainFor_of_name (by decide +kernel), rfl, by decide +kernel, e_dk ed_6 ee_6, (fun h => by cases h), Or.inl ⟨rfl, rfl⟩⟩
theorem vm_7 : eMok Tb1 eCN (em_7, 6) yX1_passMinutes cX1_passMinutes (some .int) := ⟨tbT 867 (by decide +kernel) rfl, tbT 8 (by decide +kernel) rfl, plainFor_of_name (by decide +kernel), rfl, by decide +kernel, e_dk ed_7 ee_7, (fun h => by cases h), Or.inr (Or.inr (Or.inl ⟨rfl, rfl⟩))⟩
theorem vm_8 : eMok Tb1 eCN (em_8, 4) yX1_roomsOf cX1_roomsOf (some .int) := ⟨tbT 724 (by decide +kernel) rfl, tbT 8 (by decide +kernel) rfl, plainFor_of_name (by decide +kernel), rfl, by decide +kernel, e_dk ed_8 ee_8, (fun h => by cases h), Or.inr (Or.inr (Or.inl ⟨rfl, rfl⟩))⟩
theorem vm_9 : eMok Tb1 eCN (em_9, 1) yX2_init cX2_init none := ⟨tbT 442 (by decide +kernel) rfl, tbT 17 (by decide +kernel) rfl, plainFor_of_name (by decide +kernel), rfl, by decide +kernel, e_dk ed_9 ee_9, (fun _ => rfl), Or.inr (Or.inl ⟨rfl, rfl⟩)⟩
theorem vm_10 : eMok Tb1 eCN (em_10, 1) yX3_init cX3_init none := ⟨tbT 393 (by decide +kernel) rfl, tbT 15 (by decide +kernel) rfl, plainFor_of_name (by decide +kernel), rfl, by decide +kernel, e_dk ed_10 ee_10, (fun _ => rfl), Or.inr (Or.inl ⟨rfl, rfl⟩)⟩
theorem vm_11 : eMok Tb1 eCN (em_11, 6) yX3_burntIn cX3_burntIn (some .int) := ⟨tbT 1012 (by decide +kernel) rfl, tbT 15 (by decide +kernel) rfl, plainFor_of_name (by decide +kernel), rfl, by decide +kernel, e_dk ed_11 ee_11, (fun h => by cases h), Or.inr (Or.inr (Or.inl ⟨rfl, rfl⟩))⟩
theorem vm_12 : eMok Tb1 eCN (em_12, 1) yX4_init cX4_init none := ⟨tbT 406 (by decide +kernel) rfl, tbT 16 (by decide +kernel) rfl, plainFor_of_name (by decide +kernel), rfl, by decide +kernel, e_dk ed_12 ee_12, (fun _ => rfl), Or.inr (Or.inl ⟨rfl, rfl⟩)⟩
theorem vm_13 : eMok Tb1 eCN (em_13, 4) yX4_choose cX4_choose none := ⟨tbT 1078 (by decide +kernel) rfl, tbT 16 (by decide +kernel) rfl, plainFor_of_name (by decide +kernel), rfl, by decide +kernel, e_dk ed_13 ee_13, (fun h => by cases h), Or.inl ⟨rfl, rfl⟩⟩
theorem vm_14 : eMok Tb1 eCN (em_14, 4) yX4_closeRings cX4_closeRings none := ⟨tbT 1056 (by decide +kernel) rfl, tbT 16 (by decide +kernel) rfl, plainFor_of_name (by decide +kernel), rfl, by decide +kernel, e_dk ed_14 ee_14, (fun h => by cases h), Or.inl ⟨rfl, rfl⟩⟩
theorem vm_15 : eMok Tb1 eCN (em_15, 4) yX4_findPrices cX4_findPrices (some .int) := ⟨tbT 1074 (by decide +kernel) rfl, tbT 16 (by decide +kernel) rfl, plainFor_of_name (by decide +kernel), rfl, by decide +kernel, e_dk ed_15 ee_15, (fun h => by cases h), Or.inr (Or.inr (Or.inl ⟨rfl, rfl⟩))⟩
theorem vm_16 : eMok Tb1 eCN (em_16, 5) yX4_gather cX4_gather none := ⟨tbT 1043 (by decide +kernel) rfl, tbT 16 (by decide +kernel) rfl, plainFor_of_name (by decide +kernel), rfl, by decide +kernel, e_dk ed_16 ee_16, (fun h => by cases h), Or.inl ⟨rfl, rfl⟩⟩
theorem vm_17 : eMok Tb1 eCN (em_17, 5) yX4_raisePrices cX4_raisePrices (some .boolean) := ⟨tbT 1086 (by decide +kernel) rfl, tbT 16 (by decide +kernel) rfl, plainFor_of_name (by decide +kernel), rfl, by decide +kernel, e_dk ed_17 ee_17, (fun h => by cases h), Or.inr (Or.inr (Or.inr (Or.inl ⟨rfl, rfl⟩)))⟩
theorem vm_18 : eMok Tb1 eCN (em_18, 5) yX4_ringOf cX4_ringOf (some .int) := ⟨tbT 1060 (by decide +kernel) rfl, tbT 16 (by decide +kernel) rfl, plainFor_of_name (by decide +kernel), rfl, by decide +kernel, e_dk ed_18 ee_18, (fun h => by cases h), Or.inr (Or.inr (Or.inl ⟨rfl, rfl⟩))⟩
theorem vm_19 : eMok Tb1 eCN (em_19, 6) yX4_trade cX4_trade none := ⟨tbT 1038 (by decide +kernel) rfl, tbT 16 (by decide +kernel) rfl, plainFor_of_name (by decide +kernel), rfl, by decide +kernel, e_dk ed_19 ee_19, (fun h => by cases h), Or.inl ⟨rfl, rfl⟩⟩
theorem vm_20 : eMok Tb1 eCN (em_20, 2) yX5_init cX5_init none := ⟨tbT 262 (by decide +kernel) rfl, tbT 10 (by decide +kernel) rfl, plainFor_of_name (by decide +kernel), rfl, by decide +kernel, e_dk ed_20 ee_20, (fun _ => rfl), Or.inr (Or.inl ⟨rfl, rfl⟩)⟩
theorem vm_21 : eMok Tb1 eCN (em_21, 1) yX5_confirm cX5_confirm none := ⟨tbT 795 (by decide +kernel) rfl, tbT 10 (by decide +kernel) rfl, plainFor_of_name (by decide +kernel), rfl, by decide +kernel, e_dk ed_21 ee_21, (fun h => by cases h), Or.inl ⟨rfl, rfl⟩⟩
theorem vm_22 : eMok Tb1 eCN (em_22, 1) yX5_forget cX5_forget none := ⟨tbT 701 (by decide +kernel) rfl, tbT 10 (by decide +kernel) rfl, plainFor_of_name (by decide +kernel), rfl, by decide +kernel, e_dk ed_22 ee_22, (fun h => by cases h), Or.inl ⟨rfl, rfl⟩⟩
theorem vm_23 : eMok Tb1 eCN (em_23, 1) yX5_newest cX5_newest (some (.object "WardrobeRow$Deeds")) := ⟨tbT 772 (by decide +kernel) rfl, tbT 10 (by decide +kernel) rfl, plainFor_of_name (by decide +kernel), rfl, by decide +kernel, e_dk ed_23 ee_23, (fun h => by cases h), Or.inr (Or.inr (Or.inr (Or.inr ⟨rfl, _, rfl, Or.inl ⟨_, rfl⟩⟩)))⟩
theorem vm_24 : eMok Tb1 eCN (em_24, 2) yX5_prepare cX5_prepare none := ⟨tbT 768 (by decide +kernel) rfl, tbT 10 (by decide +kernel) rfl, plainFor_of_name (by decide +kernel), rfl, by decide +kernel, e_dk ed_24 ee_24, (fun h => by cases h), Or.inl ⟨rfl, rfl⟩⟩
theorem vm_25 : eMok Tb1 eCN (em_25, 2) yX5_takeBack cX5_takeBack (some .int) := ⟨tbT 876 (by decide +kernel) rfl, tbT 10 (by decide +kernel) rfl, plainFor_of_name (by decide +kernel), rfl, by decide +kernel, e_dk ed_25 ee_25, (fun h => by cases h), Or.inr (Or.inr (Or.inl ⟨rfl, rfl⟩))⟩
theorem vm_26 : eMok Tb1 eCN (em_26, 1) yX6_init cX6_init none := ⟨tbT 281 (by decide +kernel) rfl, tbT 11 (by decide +kernel) rfl, plainFor_of_name (by decide +kernel), rfl, by decide +kernel, e_dk ed_26 ee_26, (fun _ => rfl), Or.inr (Or.inl ⟨rfl, rfl⟩)⟩
theorem vm_27 : eMok Tb1 eCN (em_27, 2) yX6_copyFrom cX6_copyFrom none := ⟨tbT 1233 (by decide +kernel) rfl, tbT 11 (by decide +kernel) rfl, plainFor_of_name (by decide +kernel), rfl, by decide +kernel, e_dk ed_27 ee_27, (fun h => by cases h), Or.inl ⟨rfl, rfl⟩⟩
theorem vm_28 : eMok Tb1 eCN (em_28, 1) yX6_forget cX6_forget none := ⟨tbT 697 (by decide +kernel) rfl, tbT 11 (by decide +kernel) rfl, plainFor_of_name (by decide +kernel), rfl, by decide +kernel, e_dk ed_28 ee_28, (fun h => by cases h), Or.inl ⟨rfl, rfl⟩⟩
theorem vm_29 : eMok Tb1 eCN (em_29, 8) yX6_readCond cX6_readCond (some .boolean) := ⟨tbT 1206 (by decide +kernel) rfl, tbT 11 (by decide +kernel) rfl, plainFor_of_name (by decide +kernel), rfl, by decide +kernel, e_dk ed_29 ee_29, (fun h => by cases h), Or.inr (Or.inr (Or.inr (Or.inl ⟨rfl, rfl⟩)))⟩
theorem vm_30 : eMok Tb1 eCN (em_30, 7) yX6_readOne cX6_readOne (some .boolean) := ⟨tbT 1210 (by decide +kernel) rfl, tbT 11 (by decide +kernel) rfl, plainFor_of_name (by decide +kernel), rfl, by decide +kernel, e_dk ed_30 ee_30, (fun h => by cases h), Or.inr (Or.inr (Or.inr (Or.inl ⟨rfl, rfl⟩)))⟩
theorem vm_31 : eMok Tb1 eCN (em_31, 3) yX6_readText cX6_readText (some .boolean) := ⟨tbT 1200 (by decide +kernel) rfl, tbT 11 (by decide +kernel) rfl, plainFor_of_name (by decide +kernel), rfl, by decide +kernel, e_dk ed_31 ee_31, (fun h => by cases h), Or.inr (Or.inr (Or.inr (Or.inl ⟨rfl, rfl⟩)))⟩
theorem vm_32 : eMok Tb1 eCN (em_32, 2) yX7_init cX7_init none := ⟨tbT 38 (by decide +kernel) rfl, tbT 2 (by decide +kernel) rfl, plainFor_of_name (by decide +kernel), rfl, by decide +kernel, e_dk ed_32 ee_32, (fun _ => rfl), Or.inr (Or.inl ⟨rfl, rfl⟩)⟩
theorem vm_33 : eMok Tb1 eCN (em_33, 2) yX7_advance cX7_advance none := ⟨tbT 538 (by decide +kernel) rfl, tbT 2 (by decide +kernel) rfl, plainFor_of_name (by decide +kernel), rfl, by decide +kernel, e_dk ed_33 ee_33, (fun h => by cases h), Or.inl ⟨rfl, rfl⟩⟩
theorem vm_34 : eMok Tb1 eCN (em_34, 3) yX7_append cX7_append none := ⟨tbT 509 (by decide +kernel) rfl, tbT 2 (by decide +kernel) rfl, plainFor_of_name (by decide +kernel), rfl, by decide +kernel, e_dk ed_34 ee_34, (fun h => by cases h), Or.inl ⟨rfl, rfl⟩⟩
theorem vm_35 : eMok Tb1 eCN (em_35, 2) yX7_begin cX7_begin none := ⟨tbT 534 (by decide +kernel) rfl, tbT 2 (by decide +kernel) rfl, plainFor_of_name (by decide +kernel), rfl, by decide +kernel, e_dk ed_35 ee_35, (fun h => by cases h), Or.inl ⟨rfl, rfl⟩⟩
theorem vm_36 : eMok Tb1 eCN (em_36, 2) yX7_fail cX7_fail (some .boolean) := ⟨tbT 594 (by decide +kernel) rfl, tbT 2 (by decide +kernel) rfl, plainFor_of_name (by decide +kernel), rfl, by decide +kernel, e_dk ed_36 ee_36, (fun h => by cases h), Or.inr (Or.inr (Or.inr (Or.inl ⟨rfl, rfl⟩)))⟩
theorem vm_37 : eMok Tb1 eCN (em_37, 2) yX7_isSign cX7_isSign (some .boolean) := ⟨tbT 681 (by decide +kernel) rfl, tbT 2 (by decide +kernel) rfl, plainFor_of_name (by decide +kernel), rfl, by decide +kernel, e_dk ed_37 ee_37, (fun h => by cases h), Or.inr (Or.inr (Or.inr (Or.inl ⟨rfl, rfl⟩)))⟩
theorem vm_38 : eMok Tb1 eCN (em_38, 1) yX7_keyword cX7_keyword (some .int) := ⟨tbT 571 (by decide +kernel) rfl, tbT 2 (by decide +kernel) rfl, plainFor_of_name (by decide +kernel), rfl, by decide +kernel, e_dk ed_38 ee_38, (fun h => by cases h), Or.inr (Or.inr (Or.inl ⟨rfl, rfl⟩))⟩
theorem vm_39 : eMok Tb1 eCN (em_39, 1) yX8_init cX8_init none := ⟨tbT 146 (by decide +kernel) rfl, tbT 7 (by decide +kernel) rfl, plainFor_of_name (by decide +kernel), rfl, by decide +kernel, e_dk ed_39 ee_39, (fun _ => rfl), Or.inr (Or.inl ⟨rfl, rfl⟩)⟩
theorem vm_40 : eMok Tb1 eCN (em_40, 1) yX8_allRooms cX8_allRooms (some .int) := ⟨tbT 729 (by decide +kernel) rfl, tbT 7 (by decide +kernel) rfl, plainFor_of_name (by decide +kernel), rfl, by decide +kernel, e_dk ed_40 ee_40, (fun h => by cases h), Or.inr (Or.inr (Or.inl ⟨rfl, rfl⟩))⟩
theorem vm_41 : eMok Tb1 eCN (em_41, 5) yX8_around cX8_around (some .int) := ⟨tbT 636 (by decide +kernel) rfl, tbT 7 (by decide +kernel) rfl, plainFor_of_name (by decide +kernel), rfl, by decide +kernel, e_dk ed_41 ee_41, (fun h => by cases h), Or.inr (Or.inr (Or.inl ⟨rfl, rfl⟩))⟩
theorem vm_42 : eMok Tb1 eCN (em_42, 2) yX8_copyFrom cX8_copyFrom none := ⟨tbT 685 (by decide +kernel) rfl, tbT 7 (by decide +kernel) rfl, plainFor_of_name (by decide +kernel), rfl, by decide +kernel, e_dk ed_42 ee_42, (fun h => by cases h), Or.inl ⟨rfl, rfl⟩⟩
theorem vm_43 : eMok Tb1 eCN (em_43, 1) yX8_forget cX8_forget none := ⟨tbT 525 (by decide +kernel) rfl, tbT 7 (by decide +kernel) rfl, plainFor_of_name (by decide +kernel), rfl, by decide +kernel, e_dk ed_43 ee_43, (fun h => by cases h), Or.inl ⟨rfl, rfl⟩⟩
theorem vm_44 : eMok Tb1 eCN (em_44, 2) yX8_manyOf cX8_manyOf (some .int) := ⟨tbT 583 (by decide +kernel) rfl, tbT 7 (by decide +kernel) rfl, plainFor_of_name (by decide +kernel), rfl, by decide +kernel, e_dk ed_44 ee_44, (fun h => by cases h), Or.inr (Or.inr (Or.inl ⟨rfl, rfl⟩))⟩
theorem vm_45 : eMok Tb1 eCN (em_45, 1) yX9_init cX9_init none := ⟨tbT 304 (by decide +kernel) rfl, tbT 12 (by decide +kernel) rfl, plainFor_of_name (by decide +kernel), rfl, by decide +kernel, e_dk ed_45 ee_45, (fun _ => rfl), Or.inr (Or.inl ⟨rfl, rfl⟩)⟩
theorem vm_46 : eMok Tb1 eCN (em_46, 3) yX9_readText cX9_readText (some .int) := ⟨tbT 521 (by decide +kernel) rfl, tbT 12 (by decide +kernel) rfl, plainFor_of_name (by decide +kernel), rfl, by decide +kernel, e_dk ed_46 ee_46, (fun h => by cases h), Or.inr (Or.inr (Or.inl ⟨rfl, rfl⟩))⟩
theorem vm_47 : eMok Tb1 eCN (em_47, 1) yX10_init cX10_init none := ⟨tbT 365 (by decide +kernel) rfl, tbT 14 (by decide +kernel) rfl, plainFor_of_name (by decide +kernel), rfl, by decide +kernel, e_dk ed_47 ee_47, (fun _ => rfl), Or.inr (Or.inl ⟨rfl, rfl⟩)⟩
theorem vm_48 : eMok Tb1 eCN (em_48, 2) yX11_init cX11_init none := ⟨tbT 30 (by decide +kernel) rfl, tbT 1 (by decide +kernel) rfl, plainFor_of_name (by decide +kernel), rfl, by decide +kernel, e_dk ed_48 ee_48, (fun _ => rfl), Or.inr (Or.inl ⟨rfl, rfl⟩)⟩
theorem vm_49 : eMok Tb1 eCN (em_49, 3) yX11_areTwoOwners cX11_areTwoOwners (some .boolean) := ⟨tbT 807 (by decide +kernel) rfl, tbT 1 (by decide +kernel) rfl, plainFor_of_name (by decide +kernel), rfl, by decide +kernel, e_dk ed_49 ee_49, (fun h => by cases h), Or.inr (Or.inr (Or.inr (Or.inl ⟨rfl, rfl⟩)))⟩
theorem vm_50 : eMok Tb1 eCN (em_50, 1) yX11_asked cX11_asked (some .int) := ⟨tbT 966 (by decide +kernel) rfl, tbT 1 (by decide +kernel) rfl, plainFor_of_name (by decide +kernel), rfl, by decide +kernel, e_dk ed_50 ee_50, (fun h => by cases h), Or.inr (Or.inr (Or.inl ⟨rfl, rfl⟩))⟩
theorem vm_51 : eMok Tb1 eCN (em_51, 3) yX11_asks cX11_asks (some .int) := ⟨tbT 956 (by decide +kernel) rfl, tbT 1 (by decide +kernel) rfl, plainFor_of_name (by decide +kernel), rfl, by decide +kernel, e_dk ed_51 ee_51, (fun h => by cases h), Or.inr (Or.inr (Or.inl ⟨rfl, rfl⟩))⟩
theorem vm_52 : eMok Tb1 eCN (em_52, 2) yX11_barred cX11_barred (some .int) := ⟨tbT 948 (by decide +kernel) rfl, tbT 1 (by decide +kernel) rfl, plainFor_of_name (by decide +kernel), rfl, by decide +kernel, e_dk ed_52 ee_52, (fun h => by cases h), Or.inr (Or.inr (Or.inl ⟨rfl, rfl⟩))⟩
theorem vm_53 : eMok Tb1 eCN (em_53, 1) yX11_bit cX11_bit (some .int) := ⟨tbT 632 (by decide +kernel) rfl, tbT 1 (by decide +kernel) rfl, plainFor_of_name (by decide +kernel), rfl, by decide +kernel, e_dk ed_53 ee_53, (fun h => by cases h), Or.inr (Or.inr (Or.inl ⟨rfl, rfl⟩))⟩
theorem vm_54 : eMok Tb1 eCN (em_54, 3) yX11_book cX11_book (some .int) := ⟨tbT 1135 (by decide +kernel) rfl, tbT 1 (by decide +kernel) rfl, plainFor_of_name (by decide +kernel), rfl, by decide +kernel, e_dk ed_54 ee_54, (fun h => by cases h), Or.inr (Or.inr (Or.inl ⟨rfl, rfl⟩))⟩
theorem vm_55 : eMok Tb1 eCN (em_55, 2) yX11_booked cX11_booked (some .int) := ⟨tbT 1192 (by decide +kernel) rfl, tbT 1 (by decide +kernel) rfl, plainFor_of_name (by decide +kernel), rfl, by decide +kernel, e_dk ed_55 ee_55, (fun h => by cases h), Or.inr (Or.inr (Or.inl ⟨rfl, rfl⟩))⟩
theorem vm_56 : eMok Tb1 eCN (em_56, 2) yX11_burn cX11_burn (some .int) := ⟨tbT 854 (by decide +kernel) rfl, tbT 1 (by decide +kernel) rfl, plainFor_of_name (by decide +kernel), rfl, by decide +kernel, e_dk ed_56 ee_56, (fun h => by cases h), Or.inr (Or.inr (Or.inl ⟨rfl, rfl⟩))⟩
theorem vm_57 : eMok Tb1 eCN (em_57, 4) yX11_corridor cX11_corridor (some .int) := ⟨tbT 1098 (by decide +kernel) rfl, tbT 1 (by decide +kernel) rfl, plainFor_of_name (by decide +kernel), rfl, by decide +kernel, e_dk ed_57 ee_57, (fun h => by cases h), Or.inr (Or.inr (Or.inl ⟨rfl, rfl⟩))⟩
theorem vm_58 : eMok Tb1 eCN (em_58, 2) yX11_count cX11_count (some .int) := ⟨tbT 750 (by decide +kernel) rfl, tbT 1 (by decide +kernel) rfl, plainFor_of_name (by decide +kernel), rfl, by decide +kernel, e_dk ed_58 ee_58, (fun h => by cases h), Or.inr (Or.inr (Or.inl ⟨rfl, rfl⟩))⟩
theorem vm_59 : eMok Tb1 eCN (em_59, 2) yX11_cut cX11_cut (some .int) := ⟨tbT 1016 (by decide +kernel) rfl, tbT 1 (by decide +kernel) rfl, plainFor_of_name (by decide +kernel), rfl, by decide +kernel, e_dk ed_59 ee_59, (fun h => by cases h), Or.inr (Or.inr (Or.inl ⟨rfl, rfl⟩))⟩
theorem vm_60 : eMok Tb1 eCN (em_60, 2) yX11_die cX11_die (some .int) := ⟨tbT 834 (by decide +kernel) rfl, tbT 1 (by decide +kernel) rfl, plainFor_of_name (by decide +kernel), rfl, by decide +kernel, e_dk ed_60 ee_60, (fun h => by cases h), Or.inr (Or.inr (Or.inl ⟨rfl, rfl⟩))⟩
theorem vm_61 : eMok Tb1 eCN (em_61, 4) yX11_drawn cX11_drawn (some .int) := ⟨tbT 880 (by decide +kernel) rfl, tbT 1 (by decide +kernel) rfl, plainFor_of_name (by decide +kernel), rfl, by decide +kernel, e_dk ed_61 ee_61, (fun h => by cases h), Or.inr (Or.inr (Or.inl ⟨rfl, rfl⟩))⟩
theorem vm_62 : eMok Tb1 eCN (em_62, 2) yX11_end cX11_end (some .boolean) := ⟨tbT 513 (by decide +kernel) rfl, tbT 1 (by decide +kernel) rfl, plainFor_of_name (by decide +kernel), rfl, by decide +kernel, e_dk ed_62 ee_62, (fun h => by cases h), Or.inr (Or.inr (Or.inr (Or.inl ⟨rfl, rfl⟩)))⟩
theorem vm_63 : eMok Tb1 eCN (em_63, 2) yX11_exchange cX11_exchange (some .int) := ⟨tbT 1034 (by decide +kernel) rfl, tbT 1 (by decide +kernel) rfl, plainFor_of_name (by decide +kernel), rfl, by decide +kernel, e_dk ed_63 ee_63, (fun h => by cases h), Or.inr (Or.inr (Or.inl ⟨rfl, rfl⟩))⟩
theorem vm_64 : eMok Tb1 eCN (em_64, 1) yX11_fault cX11_fault (some .int) := ⟨tbT 705 (by decide +kernel) rfl, tbT 1 (by decide +kernel) rfl, plainFor_of_name (by decide +kernel), rfl, by decide +kernel, e_dk ed_64 ee_64, (fun h => by cases h), Or.inr (Or.inr (Or.inl ⟨rfl, rfl⟩))⟩
theorem vm_65 : eMok Tb1 eCN (em_65, 6) yX11_feed cX11_feed (some .int) := ⟨tbT 505 (by decide +kernel) rfl, tbT 1 (by decide +kernel) rfl, plainFor_of_name (by decide +kernel), rfl, by decide +kernel, e_dk ed_65 ee_65, (fun h => by cases h), Or.inr (Or.inr (Or.inl ⟨rfl, rfl⟩))⟩
theorem vm_66 : eMok Tb1 eCN (em_66, 2) yX11_fire cX11_fire (some .int) := ⟨tbT 998 (by decide +kernel) rfl, tbT 1 (by decide +kernel) rfl, plainFor_of_name (by decide +kernel), rfl, by decide +kernel, e_dk ed_66 ee_66, (fun h => by cases h), Or.inr (Or.inr (Or.inl ⟨rfl, rfl⟩))⟩
theorem vm_67 : eMok Tb1 eCN (em_67, 3) yX11_go cX11_go (some .int) := ⟨tbT 760 (by decide +kernel) rfl, tbT 1 (by decide +kernel) rfl, plainFor_of_name (by decide +kernel), rfl, by decide +kernel, e_dk ed_67 ee_67, (fun h => by cases h), Or.inr (Or.inr (Or.inl ⟨rfl, rfl⟩))⟩
theorem vm_68 : eMok Tb1 eCN (em_68, 5) yX11_guests cX11_guests (some .int) := ⟨tbT 1111 (by decide +kernel) rfl, tbT 1 (by decide +kernel) rfl, plainFor_of_name (by decide +kernel), rfl, by decide +kernel, e_dk ed_68 ee_68, (fun h => by cases h), Or.inr (Or.inr (Or.inl ⟨rfl, rfl⟩))⟩
theorem vm_69 : eMok Tb1 eCN (em_69, 2) yX11_has cX11_has (some .boolean) := ⟨tbT 639 (by decide +kernel) rfl, tbT 1 (by decide +kernel) rfl, plainFor_of_name (by decide +kernel), rfl, by decide +kernel, e_dk ed_69 ee_69, (fun h => by cases h), Or.inr (Or.inr (Or.inr (Or.inl ⟨rfl, rfl⟩)))⟩
theorem vm_70 : eMok Tb1 eCN (em_70, 2) yX11_heir cX11_heir (some .int) := ⟨tbT 1106 (by decide +kernel) rfl, tbT 1 (by decide +kernel) rfl, plainFor_of_name (by decide +kernel), rfl, by decide +kernel, e_dk ed_70 ee_70, (fun h => by cases h), Or.inr (Or.inr (Or.inl ⟨rfl, rfl⟩))⟩
theorem vm_71 : eMok Tb1 eCN (em_71, 2) yX11_image cX11_image (some .boolean) := ⟨tbT 1280 (by decide +kernel) rfl, tbT 1 (by decide +kernel) rfl, plainFor_of_name (by decide +kernel), rfl, by decide +kernel, e_dk ed_71 ee_71, (fun h => by cases h), Or.inr (Or.inr (Or.inr (Or.inl ⟨rfl, rfl⟩)))⟩
theorem vm_72 : eMok Tb1 eCN (em_72, 2) yX11_isBelow cX11_isBelow (some .boolean) := ⟨tbT 586 (by decide +kernel) rfl, tbT 1 (by decide +kernel) rfl, plainFor_of_name (by decide +kernel), rfl, by decide +kernel, e_dk ed_72 ee_72, (fun h => by cases h), Or.inr (Or.inr (Or.inr (Or.inl ⟨rfl, rfl⟩)))⟩
theorem vm_73 : eMok Tb1 eCN (em_73, 2) yX11_isOwner cX11_isOwner (some .boolean) := ⟨tbT 713 (by decide +kernel) rfl, tbT 1 (by decide +kernel) rfl, plainFor_of_name (by decide +kernel), rfl, by decide +kernel, e_dk ed_73 ee_73, (fun h => by cases h), Or.inr (Or.inr (Or.inr (Or.inl ⟨rfl, rfl⟩)))⟩
theorem vm_74 : eMok Tb1 eCN (em_74, 2) yX11_isPassage cX11_isPassage (some .boolean) := ⟨tbT 737 (by decide +kernel) rfl, tbT 1 (by decide +kernel) rfl, plainFor_of_name (by decide +kernel), rfl, by decide +kernel, e_dk ed_74 ee_74, (fun h => by cases h), Or.inr (Or.inr (Or.inr (Or.inl ⟨rfl, rfl⟩)))⟩
theorem vm_75 : eMok Tb1 eCN (em_75, 2) yX11_isRoom cX11_isRoom (some .boolean) := ⟨tbT 764 (by decide +kernel) rfl, tbT 1 (by decide +kernel) rfl, plainFor_of_name (by decide +kernel), rfl, by decide +kernel, e_dk ed_75 ee_75, (fun h => by cases h), Or.inr (Or.inr (Or.inr (Or.inl ⟨rfl, rfl⟩)))⟩
theorem vm_76 : eMok Tb1 eCN (em_76, 3) yX11_isRowOfRooms cX11_isRowOfRooms (some .boolean) := ⟨tbT 982 (by decide +kernel) rfl, tbT 1 (by decide +kernel) rfl, plainFor_of_name (by decide +kernel), rfl, by decide +kernel, e_dk ed_76 ee_76, (fun h => by cases h), Or.inr (Or.inr (Or.inr (Or.inl ⟨rfl, rfl⟩)))⟩
theorem vm_77 : eMok Tb1 eCN (em_77, 1) yX11_isSwitch cX11_isSwitch (some .boolean) := ⟨tbT 818 (by decide +kernel) rfl, tbT 1 (by decide +kernel) rfl, plainFor_of_name (by decide +kernel), rfl, by decide +kernel, e_dk ed_77 ee_77, (fun h => by cases h), Or.inr (Or.inr (Or.inr (Or.inl ⟨rfl, rfl⟩)))⟩
theorem vm_78 : eMok Tb1 eCN (em_78, 2) yX11_keptIfDone cX11_keptIfDone (some .int) := ⟨tbT 791 (by decide +kernel) rfl, tbT 1 (by decide +kernel) rfl, plainFor_of_name (by decide +kernel), rfl, by decide +kernel, e_dk ed_78 ee_78, (fun h => by cases h), Or.inr (Or.inr (Or.inl ⟨rfl, rfl⟩))⟩
theorem vm_79 : eMok Tb1 eCN (em_79, 2) yX11_leave cX11_leave (some .boolean) := ⟨tbT 799 (by decide +kernel) rfl, tbT 1 (by decide +kernel) rfl, plainFor_of_name (by decide +kernel), rfl, by decide +kernel, e_dk ed_79 ee_79, (fun h => by cases h), Or.inr (Or.inr (Or.inr (Or.inl ⟨rfl, rfl⟩)))⟩
theorem vm_80 : eMok Tb1 eCN (em_80, 4) yX11_let cX11_let (some .int) := ⟨tbT 815 (by decide +kernel) rfl, tbT 1 (by decide +kernel) rfl, plainFor_of_name (by decide +kernel), rfl, by decide +kernel, e_dk ed_80 ee_80, (fun h => by cases h), Or.inr (Or.inr (Or.inl ⟨rfl, rfl⟩))⟩
theorem vm_81 : eMok Tb1 eCN (em_81, 3) yX11_minutes cX11_minutes (some .int) := ⟨tbT 863 (by decide +kernel) rfl, tbT 1 (by decide +kernel) rfl, plainFor_of_name (by decide +kernel), rfl, by decide +kernel, e_dk ed_81 ee_81, (fun h => by cases h), Or.inr (Or.inr (Or.inl ⟨rfl, rfl⟩))⟩
theorem vm_82 : eMok Tb1 eCN (em_82, 3) yX11_mixed cX11_mixed (some .int) := ⟨tbT 1123 (by decide +kernel) rfl, tbT 1 (by decide +kernel) rfl, plainFor_of_name (by decide +kernel), rfl, by decide +kernel, e_dk ed_82 ee_82, (fun h => by cases h), Or.inr (Or.inr (Or.inl ⟨rfl, rfl⟩))⟩
theorem vm_83 : eMok Tb1 eCN (em_83, 2) yX11_now cX11_now (some .int) := ⟨tbT 742 (by decide +kernel) rfl, tbT 1 (by decide +kernel) rfl, plainFor_of_name (by decide +kernel), rfl, by decide +kernel, e_dk ed_83 ee_83, (fun h => by cases h), Or.inr (Or.inr (Or.inl ⟨rfl, rfl⟩))⟩
theorem vm_84 : eMok Tb1 eCN (em_84, 7) yX11_odds cX11_odds (some .int) := ⟨tbT 904 (by decide +kernel) rfl, tbT 1 (by decide +kernel) rfl, plainFor_of_name (by decide +kernel), rfl, by decide +kernel, e_dk ed_84 ee_84, (fun h => by cases h), Or.inr (Or.inr (Or.inl ⟨rfl, rfl⟩))⟩
theorem vm_85 : eMok Tb1 eCN (em_85, 3) yX11_owner cX11_owner (some .int) := ⟨tbT 709 (by decide +kernel) rfl, tbT 1 (by decide +kernel) rfl, plainFor_of_name (by decide +kernel), rfl, by decide +kernel, e_dk ed_85 ee_85, (fun h => by cases h), Or.inr (Or.inr (Or.inl ⟨rfl, rfl⟩))⟩
theorem vm_86 : eMok Tb1 eCN (em_86, 3) yX11_passage cX11_passage (some .int) := ⟨tbT 733 (by decide +kernel) rfl, tbT 1 (by decide +kernel) rfl, plainFor_of_name (by decide +kernel), rfl, by decide +kernel, e_dk ed_86 ee_86, (fun h => by cases h), Or.inr (Or.inr (Or.inl ⟨rfl, rfl⟩))⟩
theorem vm_87 : eMok Tb1 eCN (em_87, 2) yX11_price cX11_price (some .int) := ⟨tbT 1090 (by decide +kernel) rfl, tbT 1 (by decide +kernel) rfl, plainFor_of_name (by decide +kernel), rfl, by decide +kernel, e_dk ed_87 ee_87, (fun h => by cases h), Or.inr (Or.inr (Or.inl ⟨rfl, rfl⟩))⟩
theorem vm_88 : eMok Tb1 eCN (em_88, 1) yX11_prices cX11_prices (some .int) := ⟨tbT 1070 (by decide +kernel) rfl, tbT 1 (by decide +kernel) rfl, plainFor_of_name (by decide +kernel), rfl, by decide +kernel, e_dk ed_88 ee_88, (fun h => by cases h), Or.inr (Or.inr (Or.inl ⟨rfl, rfl⟩))⟩
theorem vm_89 : eMok Tb1 eCN (em_89, 2) yX11_restore cX11_restore (some .boolean) := ⟨tbT 1284 (by decide +kernel) rfl, tbT 1 (by decide +kernel) rfl, plainFor_of_name (by decide +kernel), rfl, by decide +kernel, e_dk ed_89 ee_89, (fun h => by cases h), Or.inr (Or.inr (Or.inr (Or.inl ⟨rfl, rfl⟩)))⟩
theorem vm_90 : eMok Tb1 eCN (em_90, 1) yX11_rings cX11_rings (some .int) := ⟨tbT 1066 (by decide +kernel) rfl, tbT 1 (by decide +kernel) rfl, plainFor_of_name (by decide +kernel), rfl, by decide +kernel, e_dk ed_90 ee_90, (fun h => by cases h), Or.inr (Or.inr (Or.inl ⟨rfl, rfl⟩))⟩
theorem vm_91 : eMok Tb1 eCN (em_91, 5) yX11_said cX11_said (some .int) := ⟨tbT 1238 (by decide +kernel) rfl, tbT 1 (by decide +kernel) rfl, plainFor_of_name (by decide +kernel), rfl, by decide +kernel, e_dk ed_91 ee_91, (fun h => by cases h), Or.inr (Or.inr (Or.inl ⟨rfl, rfl⟩))⟩
theorem vm_92 : eMok Tb1 eCN (em_92, 4) yX11_sell cX11_sell (some .int) := ⟨tbT 803 (by decide +kernel) rfl, tbT 1 (by decide +kernel) rfl, plainFor_of_name (by decide +kernel), rfl, by decide +kernel, e_dk ed_92 ee_92, (fun h => by cases h), Or.inr (Or.inr (Or.inl ⟨rfl, rfl⟩))⟩
theorem vm_93 : eMok Tb1 eCN (em_93, 2) yX11_sentence cX11_sentence (some .int) := ⟨tbT 1196 (by decide +kernel) rfl, tbT 1 (by decide +kernel) rfl, plainFor_of_name (by decide +kernel), rfl, by decide +kernel, e_dk ed_93 ee_93, (fun h => by cases h), Or.inr (Or.inr (Or.inl ⟨rfl, rfl⟩))⟩
theorem vm_94 : eMok Tb1 eCN (em_94, 3) yX11_shut cX11_shut (some .int) := ⟨tbT 846 (by decide +kernel) rfl, tbT 1 (by decide +kernel) rfl, plainFor_of_name (by decide +kernel), rfl, by decide +kernel, e_dk ed_94 ee_94, (fun h => by cases h), Or.inr (Or.inr (Or.inl ⟨rfl, rfl⟩))⟩
theorem vm_95 : eMok Tb1 eCN (em_95, 2) yX11_spread cX11_spread (some .int) := ⟨tbT 1008 (by decide +kernel) rfl, tbT 1 (by decide +kernel) rfl, plainFor_of_name (by decide +kernel), rfl, by decide +kernel, e_dk ed_95 ee_95, (fun h => by cases h), Or.inr (Or.inr (Or.inl ⟨rfl, rfl⟩))⟩
theorem vm_96 : eMok Tb1 eCN (em_96, 2) yX11_step cX11_step (some .int) := ⟨tbT 944 (by decide +kernel) rfl, tbT 1 (by decide +kernel) rfl, plainFor_of_name (by decide +kernel), rfl, by decide +kernel, e_dk ed_96 ee_96, (fun h => by cases h), Or.inr (Or.inr (Or.inl ⟨rfl, rfl⟩))⟩
theorem vm_97 : eMok Tb1 eCN (em_97, 2) yX11_terrace cX11_terrace (some .int) := ⟨tbT 517 (by decide +kernel) rfl, tbT 1 (by decide +kernel) rfl, plainFor_of_name (by decide +kernel), rfl, by decide +kernel, e_dk ed_97 ee_97, (fun h => by cases h), Or.inr (Or.inr (Or.inl ⟨rfl, rfl⟩))⟩
theorem vm_98 : eMok Tb1 eCN (em_98, 4) yX11_through cX11_through (some .int) := ⟨tbT 970 (by decide +kernel) rfl, tbT 1 (by decide +kernel) rfl, plainFor_of_name (by decide +kernel), rfl, by decide +kernel, e_dk ed_98 ee_98, (fun h => by cases h), Or.inr (Or.inr (Or.inl ⟨rfl, rfl⟩))⟩
theorem vm_99 : eMok Tb1 eCN (em_99, 1) yX11_undo cX11_undo (some .int) := ⟨tbT 872 (by decide +kernel) rfl, tbT 1 (by decide +kernel) rfl, plainFor_of_name (by decide +kernel), rfl, by decide +kernel, e_dk ed_99 ee_99, (fun h => by cases h), Or.inr (Or.inr (Or.inl ⟨rfl, rfl⟩))⟩
theorem vm_100 : eMok Tb1 eCN (em_100, 2) yX11_walked cX11_walked (some .int) := ⟨tbT 978 (by decide +kernel) rfl, tbT 1 (by decide +kernel) rfl, plainFor_of_name (by decide +kernel), rfl, by decide +kernel, e_dk ed_100 ee_100, (fun h => by cases h), Or.inr (Or.inr (Or.inl ⟨rfl, rfl⟩))⟩
theorem vm_101 : eMok Tb1 eCN (em_101, 2) yX11_wants cX11_wants (some .int) := ⟨tbT 1094 (by decide +kernel) rfl, tbT 1 (by decide +kernel) rfl, plainFor_of_name (by decide +kernel), rfl, by decide +kernel, e_dk ed_101 ee_101, (fun h => by cases h), Or.inr (Or.inr (Or.inl ⟨rfl, rfl⟩))⟩
theorem vm_102 : eMok Tb1 eCN (em_102, 4) yX11_way cX11_way (some .int) := ⟨tbT 908 (by decide +kernel) rfl, tbT 1 (by decide +kernel) rfl, plainFor_of_name (by decide +kernel), rfl, by decide +kernel, e_dk ed_102 ee_102, (fun h => by cases h), Or.inr (Or.inr (Or.inl ⟨rfl, rfl⟩))⟩
theorem vm_103 : eMok Tb1 eCN (em_103, 3) yX11_will cX11_will (some .int) := ⟨tbT 826 (by decide +kernel) rfl, tbT 1 (by decide +kernel) rfl, plainFor_of_name (by decide +kernel), rfl, by decide +kernel, e_dk ed_103 ee_103, (fun h => by cases h), Or.inr (Or.inr (Or.inl ⟨rfl, rfl⟩))⟩
theorem vm_104 : eMok Tb1 eCN (em_104, 1) yX12_init cX12_init none := ⟨tbT 1380 (by decide +kernel) rfl, tbT 18 (by decide +kernel) rfl, plainFor_of_name (by decide +kernel), rfl, by decide +kernel, e_dk ed_104 ee_104, (fun _ => rfl), Or.inr (Or.inl ⟨rfl, rfl⟩)⟩
theorem vm_105 : eMok Tb1 eCN (em_105, 2) yX12_areMinutes cX12_areMinutes (some .boolean) := ⟨tbT 1814 (by decide +kernel) rfl, tbT 18 (by decide +kernel) rfl, plainFor_of_name (by decide +kernel), rfl, by decide +kernel, e_dk ed_105 ee_105, (fun h => by cases h), Or.inr (Or.inr (Or.inr (Or.inl ⟨rfl, rfl⟩)))⟩
theorem vm_106 : eMok Tb1 eCN (em_106, 3) yX12_areTwo cX12_areTwo (some .boolean) := ⟨tbT 1754 (by decide +kernel) rfl, tbT 18 (by decide +kernel) rfl, plainFor_of_name (by decide +kernel), rfl, by decide +kernel, e_dk ed_106 ee_106, (fun h => by cases h), Or.inr (Or.inr (Or.inr (Or.inl ⟨rfl, rfl⟩)))⟩
theorem vm_107 : eMok Tb1 eCN (em_107, 1) yX12_asked cX12_asked (some .int) := ⟨tbT 1869 (by decide +kernel) rfl, tbT 18 (by decide +kernel) rfl, plainFor_of_name (by decide +kernel), rfl, by decide +kernel, e_dk ed_107 ee_107, (fun h => by cases h), Or.inr (Or.inr (Or.inl ⟨rfl, rfl⟩))⟩
theorem vm_108 : eMok Tb1 eCN (em_108, 7) yX12_asks cX12_asks (some .int) := ⟨tbT 1854 (by decide +kernel) rfl, tbT 18 (by decide +kernel) rfl, plainFor_of_name (by decide +kernel), rfl, by decide +kernel, e_dk ed_108 ee_108, (fun h => by cases h), Or.inr (Or.inr (Or.inl ⟨rfl, rfl⟩))⟩
theorem vm_109 : eMok Tb1 eCN (em_109, 2) yX12_back cX12_back none := ⟨tbT 1865 (by decide +kernel) rfl, tbT 18 (by decide +kernel) rfl, plainFor_of_name (by decide +kernel), rfl, by decide +kernel, e_dk ed_109 ee_109, (fun h => by cases h), Or.inl ⟨rfl, rfl⟩⟩
theorem vm_110 : eMok Tb1 eCN (em_110, 2) yX12_bad cX12_bad (some .boolean) := ⟨tbT 1612 (by decide +kernel) rfl, tbT 18 (by decide +kernel) rfl, plainFor_of_name (by decide +kernel), rfl, by decide +kernel, e_dk ed_110 ee_110, (fun h => by cases h), Or.inr (Or.inr (Or.inr (Or.inl ⟨rfl, rfl⟩)))⟩
theorem vm_111 : eMok Tb1 eCN (em_111, 4) yX12_barred cX12_barred (some .int) := ⟨tbT 1850 (by decide +kernel) rfl, tbT 18 (by decide +kernel) rfl, plainFor_of_name (by decide +kernel), rfl, by decide +kernel, e_dk ed_111 ee_111, (fun h => by cases h), Or.inr (Or.inr (Or.inl ⟨rfl, rfl⟩))⟩
theorem vm_112 : eMok Tb1 eCN (em_112, 7) yX12_book cX12_book (some .int) := ⟨tbT 1982 (by decide +kernel) rfl, tbT 18 (by decide +kernel) rfl, plainFor_of_name (by decide +kernel), rfl, by decide +kernel, e_dk ed_112 ee_112, (fun h => by cases h), Or.inr (Or.inr (Or.inl ⟨rfl, rfl⟩))⟩
theorem vm_113 : eMok Tb1 eCN (em_113, 2) yX12_booked cX12_booked (some .int) := ⟨tbT 2002 (by decide +kernel) rfl, tbT 18 (by decide +kernel) rfl, plainFor_of_name (by decide +kernel), rfl, by decide +kernel, e_dk ed_113 ee_113, (fun h => by cases h), Or.inr (Or.inr (Or.inl ⟨rfl, rfl⟩))⟩
theorem vm_114 : eMok Tb1 eCN (em_114, 2) yX12_burn cX12_burn (some .int) := ⟨tbT 1802 (by decide +kernel) rfl, tbT 18 (by decide +kernel) rfl, plainFor_of_name (by decide +kernel), rfl, by decide +kernel, e_dk ed_114 ee_114, (fun h => by cases h), Or.inr (Or.inr (Or.inl ⟨rfl, rfl⟩))⟩
theorem vm_115 : eMok Tb1 eCN (em_115, 4) yX12_burntIn cX12_burntIn (some .int) := ⟨tbT 1881 (by decide +kernel) rfl, tbT 18 (by decide +kernel) rfl, plainFor_of_name (by decide +kernel), rfl, by decide +kernel, e_dk ed_115 ee_115, (fun h => by cases h), Or.inr (Or.inr (Or.inl ⟨rfl, rfl⟩))⟩
theorem vm_116 : eMok Tb1 eCN (em_116, 3) yX12_catching cX12_catching (some .int) := ⟨tbT 1822 (by decide +kernel) rfl, tbT 18 (by decide +kernel) rfl, plainFor_of_name (by decide +kernel), rfl, by decide +kernel, e_dk ed_116 ee_116, (fun h => by cases h), Or.inr (Or.inr (Or.inl ⟨rfl, rfl⟩))⟩
theorem vm_117 : eMok Tb1 eCN (em_117, 4) yX12_corridor cX12_corridor (some .int) := ⟨tbT 1941 (by decide +kernel) rfl, tbT 18 (by decide +kernel) rfl, plainFor_of_name (by decide +kernel), rfl, by decide +kernel, e_dk ed_117 ee_117, (fun h => by cases h), Or.inr (Or.inr (Or.inl ⟨rfl, rfl⟩))⟩
theorem vm_118 : eMok Tb1 eCN (em_118, 2) yX12_count cX12_count (some .int) := ⟨tbT 2058 (by decide +kernel) rfl, tbT 18 (by decide +kernel) rfl, plainFor_of_name (by decide +kernel), rfl, by decide +kernel, e_dk ed_118 ee_118, (fun h => by cases h), Or.inr (Or.inr (Or.inl ⟨rfl, rfl⟩))⟩
theorem vm_119 : eMok Tb1 eCN (em_119, 4) yX12_cut cX12_cut (some .int) := ⟨tbT 1889 (by decide +kernel) rfl, tbT 18 (by decide +kernel) rfl, plainFor_of_name (by decide +kernel), rfl, by decide +kernel, e_dk ed_119 ee_119, (fun h => by cases h), Or.inr (Or.inr (Or.inl ⟨rfl, rfl⟩))⟩
theorem vm_120 : eMok Tb1 eCN (em_120, 2) yX12_die cX12_die (some .int) := ⟨tbT 1782 (by decide +kernel) rfl, tbT 18 (by decide +kernel) rfl, plainFor_of_name (by decide +kernel), rfl, by decide +kernel, e_dk ed_120 ee_120, (fun h => by cases h), Or.inr (Or.inr (Or.inl ⟨rfl, rfl⟩))⟩
theorem vm_121 : eMok Tb1 eCN (em_121, 3) yX12_drawn cX12_drawn (some .int) := ⟨tbT 1961 (by decide +kernel) rfl, tbT 18 (by decide +kernel) rfl, plainFor_of_name (by decide +kernel), rfl, by decide +kernel, e_dk ed_121 ee_121, (fun h => by cases h), Or.inr (Or.inr (Or.inl ⟨rfl, rfl⟩))⟩
theorem vm_122 : eMok Tb1 eCN (em_122, 2) yX12_end cX12_end (some .boolean) := ⟨tbT 1376 (by decide +kernel) rfl, tbT 18 (by decide +kernel) rfl, plainFor_of_name (by decide +kernel), rfl, by decide +kernel, e_dk ed_122 ee_122, (fun h => by cases h), Or.inr (Or.inr (Or.inr (Or.inl ⟨rfl, rfl⟩)))⟩
theorem vm_123 : eMok Tb1 eCN (em_123, 2) yX12_exchange cX12_exchange (some .int) := ⟨tbT 1897 (by decide +kernel) rfl, tbT 18 (by decide +kernel) rfl, plainFor_of_name (by decide +kernel), rfl, by decide +kernel, e_dk ed_123 ee_123, (fun h => by cases h), Or.inr (Or.inr (Or.inl ⟨rfl, rfl⟩))⟩
theorem vm_124 : eMok Tb1 eCN (em_124, 6) yX12_exchanges cX12_exchanges none := ⟨tbT 1901 (by decide +kernel) rfl, tbT 18 (by decide +kernel) rfl, plainFor_of_name (by decide +kernel), rfl, by decide +kernel, e_dk ed_124 ee_124, (fun h => by cases h), Or.inl ⟨rfl, rfl⟩⟩
theorem vm_125 : eMok Tb1 eCN (em_125, 1) yX12_fault cX12_fault (some .int) := ⟨tbT 1666 (by decide +kernel) rfl, tbT 18 (by decide +kernel) rfl, plainFor_of_name (by decide +kernel), rfl, by decide +kernel, e_dk ed_125 ee_125, (fun h => by cases h), Or.inr (Or.inr (Or.inl ⟨rfl, rfl⟩))⟩
theorem vm_126 : eMok Tb1 eCN (em_126, 6) yX12_feed cX12_feed (some .int) := ⟨tbT 1367 (by decide +kernel) rfl, tbT 18 (by decide +kernel) rfl, plainFor_of_name (by decide +kernel), rfl, by decide +kernel, e_dk ed_126 ee_126, (fun h => by cases h), Or.inr (Or.inr (Or.inl ⟨rfl, rfl⟩))⟩
theorem vm_127 : eMok Tb1 eCN (em_127, 3) yX12_fire cX12_fire (some .int) := ⟨tbT 1877 (by decide +kernel) rfl, tbT 18 (by decide +kernel) rfl, plainFor_of_name (by decide +kernel), rfl, by decide +kernel, e_dk ed_127 ee_127, (fun h => by cases h), Or.inr (Or.inr (Or.inl ⟨rfl, rfl⟩))⟩
theorem vm_128 : eMok Tb1 eCN (em_128, 3) yX12_four cX12_four none := ⟨tbT 1372 (by decide +kernel) rfl, tbT 18 (by decide +kernel) rfl, plainFor_of_name (by decide +kernel), rfl, by decide +kernel, e_dk ed_128 ee_128, (fun h => by cases h), Or.inl ⟨rfl, rfl⟩⟩
theorem vm_129 : eMok Tb1 eCN (em_129, 4) yX12_go cX12_go (some .int) := ⟨tbT 1722 (by decide +kernel) rfl, tbT 18 (by decide +kernel) rfl, plainFor_of_name (by decide +kernel), rfl, by decide +kernel, e_dk ed_129 ee_129, (fun h => by cases h), Or.inr (Or.inr (Or.inl ⟨rfl, rfl⟩))⟩
theorem vm_130 : eMok Tb1 eCN (em_130, 7) yX12_guests cX12_guests (some .int) := ⟨tbT 1949 (by decide +kernel) rfl, tbT 18 (by decide +kernel) rfl, plainFor_of_name (by decide +kernel), rfl, by decide +kernel, e_dk ed_130 ee_130, (fun h => by cases h), Or.inr (Or.inr (Or.inl ⟨rfl, rfl⟩))⟩
theorem vm_131 : eMok Tb1 eCN (em_131, 2) yX12_heir cX12_heir (some .int) := ⟨tbT 1945 (by decide +kernel) rfl, tbT 18 (by decide +kernel) rfl, plainFor_of_name (by decide +kernel), rfl, by decide +kernel, e_dk ed_131 ee_131, (fun h => by cases h), Or.inr (Or.inr (Or.inl ⟨rfl, rfl⟩))⟩
theorem vm_132 : eMok Tb1 eCN (em_132, 3) yX12_image cX12_image (some .boolean) := ⟨tbT 2050 (by decide +kernel) rfl, tbT 18 (by decide +kernel) rfl, plainFor_of_name (by decide +kernel), rfl, by decide +kernel, e_dk ed_132 ee_132, (fun h => by cases h), Or.inr (Or.inr (Or.inr (Or.inl ⟨rfl, rfl⟩)))⟩
theorem vm_133 : eMok Tb1 eCN (em_133, 3) yX12_isIn cX12_isIn (some .boolean) := ⟨tbT 1654 (by decide +kernel) rfl, tbT 18 (by decide +kernel) rfl, plainFor_of_name (by decide +kernel), rfl, by decide +kernel, e_dk ed_133 ee_133, (fun h => by cases h), Or.inr (Or.inr (Or.inr (Or.inl ⟨rfl, rfl⟩)))⟩
theorem vm_134 : eMok Tb1 eCN (em_134, 2) yX12_isOwner cX12_isOwner (some .boolean) := ⟨tbT 1698 (by decide +kernel) rfl, tbT 18 (by decide +kernel) rfl, plainFor_of_name (by decide +kernel), rfl, by decide +kernel, e_dk ed_134 ee_134, (fun h => by cases h), Or.inr (Or.inr (Or.inr (Or.inl ⟨rfl, rfl⟩)))⟩
theorem vm_135 : eMok Tb1 eCN (em_135, 2) yX12_isPassage cX12_isPassage (some .boolean) := ⟨tbT 1714 (by decide +kernel) rfl, tbT 18 (by decide +kernel) rfl, plainFor_of_name (by decide +kernel), rfl, by decide +kernel, e_dk ed_135 ee_135, (fun h => by cases h), Or.inr (Or.inr (Or.inr (Or.inl ⟨rfl, rfl⟩)))⟩
theorem vm_136 : eMok Tb1 eCN (em_136, 2) yX12_isRoom cX12_isRoom (some .boolean) := ⟨tbT 1674 (by decide +kernel) rfl, tbT 18 (by decide +kernel) rfl, plainFor_of_name (by decide +kernel), rfl, by decide +kernel, e_dk ed_136 ee_136, (fun h => by cases h), Or.inr (Or.inr (Or.inr (Or.inl ⟨rfl, rfl⟩)))⟩
theorem vm_137 : eMok Tb1 eCN (em_137, 2) yX12_isSign cX12_isSign (some .boolean) := ⟨tbT 1662 (by decide +kernel) rfl, tbT 18 (by decide +kernel) rfl, plainFor_of_name (by decide +kernel), rfl, by decide +kernel, e_dk ed_137 ee_137, (fun h => by cases h), Or.inr (Or.inr (Or.inr (Or.inl ⟨rfl, rfl⟩)))⟩
theorem vm_138 : eMok Tb1 eCN (em_138, 3) yX12_isWord cX12_isWord (some .boolean) := ⟨tbT 1608 (by decide +kernel) rfl, tbT 18 (by decide +kernel) rfl, plainFor_of_name (by decide +kernel), rfl, by decide +kernel, e_dk ed_138 ee_138, (fun h => by cases h), Or.inr (Or.inr (Or.inr (Or.inl ⟨rfl, rfl⟩)))⟩
theorem vm_139 : eMok Tb1 eCN (em_139, 2) yX12_keep cX12_keep none := ⟨tbT 1738 (by decide +kernel) rfl, tbT 18 (by decide +kernel) rfl, plainFor_of_name (by decide +kernel), rfl, by decide +kernel, e_dk ed_139 ee_139, (fun h => by cases h), Or.inl ⟨rfl, rfl⟩⟩
theorem vm_140 : eMok Tb1 eCN (em_140, 1) yX12_leafOf cX12_leafOf (some .int) := ⟨tbT 2030 (by decide +kernel) rfl, tbT 18 (by decide +kernel) rfl, plainFor_of_name (by decide +kernel), rfl, by decide +kernel, e_dk ed_140 ee_140, (fun h => by cases h), Or.inr (Or.inr (Or.inl ⟨rfl, rfl⟩))⟩
theorem vm_141 : eMok Tb1 eCN (em_141, 2) yX12_leave cX12_leave (some .boolean) := ⟨tbT 1746 (by decide +kernel) rfl, tbT 18 (by decide +kernel) rfl, plainFor_of_name (by decide +kernel), rfl, by decide +kernel, e_dk ed_141 ee_141, (fun h => by cases h), Or.inr (Or.inr (Or.inr (Or.inl ⟨rfl, rfl⟩)))⟩
theorem vm_142 : eMok Tb1 eCN (em_142, 5) yX12_let cX12_let (some .int) := ⟨tbT 1766 (by decide +kernel) rfl, tbT 18 (by decide +kernel) rfl, plainFor_of_name (by decide +kernel), rfl, by decide +kernel, e_dk ed_142 ee_142, (fun h => by cases h), Or.inr (Or.inr (Or.inl ⟨rfl, rfl⟩))⟩
theorem vm_143 : eMok Tb1 eCN (em_143, 3) yX12_minute cX12_minute none := ⟨tbT 1818 (by decide +kernel) rfl, tbT 18 (by decide +kernel) rfl, plainFor_of_name (by decide +kernel), rfl, by decide +kernel, e_dk ed_143 ee_143, (fun h => by cases h), Or.inl ⟨rfl, rfl⟩⟩
theorem vm_144 : eMok Tb1 eCN (em_144, 3) yX12_minutes cX12_minutes (some .int) := ⟨tbT 1810 (by decide +kernel) rfl, tbT 18 (by decide +kernel) rfl, plainFor_of_name (by decide +kernel), rfl, by decide +kernel, e_dk ed_144 ee_144, (fun h => by cases h), Or.inr (Or.inr (Or.inl ⟨rfl, rfl⟩))⟩
theorem vm_145 : eMok Tb1 eCN (em_145, 6) yX12_mixed cX12_mixed (some .int) := ⟨tbT 1957 (by decide +kernel) rfl, tbT 18 (by decide +kernel) rfl, plainFor_of_name (by decide +kernel), rfl, by decide +kernel, e_dk ed_145 ee_145, (fun h => by cases h), Or.inr (Or.inr (Or.inl ⟨rfl, rfl⟩))⟩
theorem vm_146 : eMok Tb1 eCN (em_146, 2) yX12_now cX12_now (some .int) := ⟨tbT 1718 (by decide +kernel) rfl, tbT 18 (by decide +kernel) rfl, plainFor_of_name (by decide +kernel), rfl, by decide +kernel, e_dk ed_146 ee_146, (fun h => by cases h), Or.inr (Or.inr (Or.inl ⟨rfl, rfl⟩))⟩
theorem vm_147 : eMok Tb1 eCN (em_147, 6) yX12_odds cX12_odds (some .int) := ⟨tbT 1978 (by decide +kernel) rfl, tbT 18 (by decide +kernel) rfl, plainFor_of_name (by decide +kernel), rfl, by decide +kernel, e_dk ed_147 ee_147, (fun h => by cases h), Or.inr (Or.inr (Or.inl ⟨rfl, rfl⟩))⟩
theorem vm_148 : eMok Tb1 eCN (em_148, 5) yX12_operand cX12_operand (some .boolean) := ⟨tbT 2026 (by decide +kernel) rfl, tbT 18 (by decide +kernel) rfl, plainFor_of_name (by decide +kernel), rfl, by decide +kernel, e_dk ed_148 ee_148, (fun h => by cases h), Or.inr (Or.inr (Or.inr (Or.inl ⟨rfl, rfl⟩)))⟩
theorem vm_149 : eMok Tb1 eCN (em_149, 3) yX12_owner cX12_owner (some .int) := ⟨tbT 1694 (by decide +kernel) rfl, tbT 18 (by decide +kernel) rfl, plainFor_of_name (by decide +kernel), rfl, by decide +kernel, e_dk ed_149 ee_149, (fun h => by cases h), Or.inr (Or.inr (Or.inl ⟨rfl, rfl⟩))⟩
theorem vm_150 : eMok Tb1 eCN (em_150, 3) yX12_passage cX12_passage (some .int) := ⟨tbT 1710 (by decide +kernel) rfl, tbT 18 (by decide +kernel) rfl, plainFor_of_name (by decide +kernel), rfl, by decide +kernel, e_dk ed_150 ee_150, (fun h => by cases h), Or.inr (Or.inr (Or.inl ⟨rfl, rfl⟩))⟩
theorem vm_151 : eMok Tb1 eCN (em_151, 1) yX12_peek cX12_peek (some .int) := ⟨tbT 1594 (by decide +kernel) rfl, tbT 18 (by decide +kernel) rfl, plainFor_of_name (by decide +kernel), rfl, by decide +kernel, e_dk ed_151 ee_151, (fun h => by cases h), Or.inr (Or.inr (Or.inl ⟨rfl, rfl⟩))⟩
theorem vm_152 : eMok Tb1 eCN (em_152, 2) yX12_price cX12_price (some .int) := ⟨tbT 1925 (by decide +kernel) rfl, tbT 18 (by decide +kernel) rfl, plainFor_of_name (by decide +kernel), rfl, by decide +kernel, e_dk ed_152 ee_152, (fun h => by cases h), Or.inr (Or.inr (Or.inl ⟨rfl, rfl⟩))⟩
theorem vm_153 : eMok Tb1 eCN (em_153, 4) yX12_prices cX12_prices (some .int) := ⟨tbT 1917 (by decide +kernel) rfl, tbT 18 (by decide +kernel) rfl, plainFor_of_name (by decide +kernel), rfl, by decide +kernel, e_dk ed_153 ee_153, (fun h => by cases h), Or.inr (Or.inr (Or.inl ⟨rfl, rfl⟩))⟩
theorem vm_154 : eMok Tb1 eCN (em_154, 3) yX12_restore cX12_restore (some .boolean) := ⟨tbT 2054 (by decide +kernel) rfl, tbT 18 (by decide +kernel) rfl, plainFor_of_name (by decide +kernel), rfl, by decide +kernel, e_dk ed_154 ee_154, (fun h => by cases h), Or.inr (Or.inr (Or.inr (Or.inl ⟨rfl, rfl⟩)))⟩
theorem vm_155 : eMok Tb1 eCN (em_155, 1) yX12_rings cX12_rings (some .int) := ⟨tbT 1913 (by decide +kernel) rfl, tbT 18 (by decide +kernel) rfl, plainFor_of_name (by decide +kernel), rfl, by decide +kernel, e_dk ed_155 ee_155, (fun h => by cases h), Or.inr (Or.inr (Or.inl ⟨rfl, rfl⟩))⟩
theorem vm_156 : eMok Tb1 eCN (em_156, 3) yX12_room cX12_room (some .int) := ⟨tbT 1670 (by decide +kernel) rfl, tbT 18 (by decide +kernel) rfl, plainFor_of_name (by decide +kernel), rfl, by decide +kernel, e_dk ed_156 ee_156, (fun h => by cases h), Or.inr (Or.inr (Or.inl ⟨rfl, rfl⟩))⟩
theorem vm_157 : eMok Tb1 eCN (em_157, 4) yX12_roomsOf cX12_roomsOf (some .int) := ⟨tbT 1706 (by decide +kernel) rfl, tbT 18 (by decide +kernel) rfl, plainFor_of_name (by decide +kernel), rfl, by decide +kernel, e_dk ed_157 ee_157, (fun h => by cases h), Or.inr (Or.inr (Or.inl ⟨rfl, rfl⟩))⟩
theorem vm_158 : eMok Tb1 eCN (em_158, 4) yX12_said cX12_said (some .int) := ⟨tbT 2034 (by decide +kernel) rfl, tbT 18 (by decide +kernel) rfl, plainFor_of_name (by decide +kernel), rfl, by decide +kernel, e_dk ed_158 ee_158, (fun h => by cases h), Or.inr (Or.inr (Or.inl ⟨rfl, rfl⟩))⟩
theorem vm_159 : eMok Tb1 eCN (em_159, 5) yX12_sell cX12_sell (some .int) := ⟨tbT 1750 (by decide +kernel) rfl, tbT 18 (by decide +kernel) rfl, plainFor_of_name (by decide +kernel), rfl, by decide +kernel, e_dk ed_159 ee_159, (fun h => by cases h), Or.inr (Or.inr (Or.inl ⟨rfl, rfl⟩))⟩
theorem vm_160 : eMok Tb1 eCN (em_160, 3) yX12_sentence cX12_sentence (some .int) := ⟨tbT 2006 (by decide +kernel) rfl, tbT 18 (by decide +kernel) rfl, plainFor_of_name (by decide +kernel), rfl, by decide +kernel, e_dk ed_160 ee_160, (fun h => by cases h), Or.inr (Or.inr (Or.inl ⟨rfl, rfl⟩))⟩
theorem vm_161 : eMok Tb1 eCN (em_161, 4) yX12_shut cX12_shut (some .int) := ⟨tbT 1794 (by decide +kernel) rfl, tbT 18 (by decide +kernel) rfl, plainFor_of_name (by decide +kernel), rfl, by decide +kernel, e_dk ed_161 ee_161, (fun h => by cases h), Or.inr (Or.inr (Or.inl ⟨rfl, rfl⟩))⟩
theorem vm_162 : eMok Tb1 eCN (em_162, 4) yX12_skip cX12_skip none := ⟨tbT 1590 (by decide +kernel) rfl, tbT 18 (by decide +kernel) rfl, plainFor_of_name (by decide +kernel), rfl, by decide +kernel, e_dk ed_162 ee_162, (fun h => by cases h), Or.inl ⟨rfl, rfl⟩⟩
theorem vm_163 : eMok Tb1 eCN (em_163, 2) yX12_spread cX12_spread (some .int) := ⟨tbT 1885 (by decide +kernel) rfl, tbT 18 (by decide +kernel) rfl, plainFor_of_name (by decide +kernel), rfl, by decide +kernel, e_dk ed_163 ee_163, (fun h => by cases h), Or.inr (Or.inr (Or.inl ⟨rfl, rfl⟩))⟩
theorem vm_164 : eMok Tb1 eCN (em_164, 2) yX12_step cX12_step (some .int) := ⟨tbT 1846 (by decide +kernel) rfl, tbT 18 (by decide +kernel) rfl, plainFor_of_name (by decide +kernel), rfl, by decide +kernel, e_dk ed_164 ee_164, (fun h => by cases h), Or.inr (Or.inr (Or.inl ⟨rfl, rfl⟩))⟩
theorem vm_165 : eMok Tb1 eCN (em_165, 2) yX12_taken cX12_taken none := ⟨tbT 1586 (by decide +kernel) rfl, tbT 18 (by decide +kernel) rfl, plainFor_of_name (by decide +kernel), rfl, by decide +kernel, e_dk ed_165 ee_165, (fun h => by cases h), Or.inl ⟨rfl, rfl⟩⟩
theorem vm_166 : eMok Tb1 eCN (em_166, 2) yX12_terrace cX12_terrace (some .int) := ⟨tbT 1582 (by decide +kernel) rfl, tbT 18 (by decide +kernel) rfl, plainFor_of_name (by decide +kernel), rfl, by decide +kernel, e_dk ed_166 ee_166, (fun h => by cases h), Or.inr (Or.inr (Or.inl ⟨rfl, rfl⟩))⟩
theorem vm_167 : eMok Tb1 eCN (em_167, 7) yX12_through cX12_through (some .int) := ⟨tbT 1873 (by decide +kernel) rfl, tbT 18 (by decide +kernel) rfl, plainFor_of_name (by decide +kernel), rfl, by decide +kernel, e_dk ed_167 ee_167, (fun h => by cases h), Or.inr (Or.inr (Or.inl ⟨rfl, rfl⟩))⟩
theorem vm_168 : eMok Tb1 eCN (em_168, 1) yX12_thrown cX12_thrown (some .int) := ⟨tbT 1363 (by decide +kernel) rfl, tbT 18 (by decide +kernel) rfl, plainFor_of_name (by decide +kernel), rfl, by decide +kernel, e_dk ed_168 ee_168, (fun h => by cases h), Or.inr (Or.inr (Or.inl ⟨rfl, rfl⟩))⟩
theorem vm_169 : eMok Tb1 eCN (em_169, 2) yX12_throwsIf cX12_throwsIf (some .boolean) := ⟨tbT 1678 (by decide +kernel) rfl, tbT 18 (by decide +kernel) rfl, plainFor_of_name (by decide +kernel), rfl, by decide +kernel, e_dk ed_169 ee_169, (fun h => by cases h), Or.inr (Or.inr (Or.inr (Or.inl ⟨rfl, rfl⟩)))⟩
theorem vm_170 : eMok Tb1 eCN (em_170, 2) yX12_tries cX12_tries none := ⟨tbT 1858 (by decide +kernel) rfl, tbT 18 (by decide +kernel) rfl, plainFor_of_name (by decide +kernel), rfl, by decide +kernel, e_dk ed_170 ee_170, (fun h => by cases h), Or.inl ⟨rfl, rfl⟩⟩
theorem vm_171 : eMok Tb1 eCN (em_171, 2) yX12_undo cX12_undo (some .int) := ⟨tbT 1826 (by decide +kernel) rfl, tbT 18 (by decide +kernel) rfl, plainFor_of_name (by decide +kernel), rfl, by decide +kernel, e_dk ed_171 ee_171, (fun h => by cases h), Or.inr (Or.inr (Or.inl ⟨rfl, rfl⟩))⟩
theorem vm_172 : eMok Tb1 eCN (em_172, 5) yX12_walked cX12_walked (some .int) := ⟨tbT 1933 (by decide +kernel) rfl, tbT 18 (by decide +kernel) rfl, plainFor_of_name (by decide +kernel), rfl, by decide +kernel, e_dk ed_172 ee_172, (fun h => by cases h), Or.inr (Or.inr (Or.inl ⟨rfl, rfl⟩))⟩
theorem vm_173 : eMok Tb1 eCN (em_173, 2) yX12_wants cX12_wants (some .int) := ⟨tbT 1929 (by decide +kernel) rfl, tbT 18 (by decide +kernel) rfl, plainFor_of_name (by decide +kernel), rfl, by decide +kernel, e_dk ed_173 ee_173, (fun h => by cases h), Or.inr (Or.inr (Or.inl ⟨rfl, rfl⟩))⟩
theorem vm_174 : eMok Tb1 eCN (em_174, 5) yX12_way cX12_way (some .int) := ⟨tbT 1830 (by decide +kernel) rfl, tbT 18 (by decide +kernel) rfl, plainFor_of_name (by decide +kernel), rfl, by decide +kernel, e_dk ed_174 ee_174, (fun h => by cases h), Or.inr (Or.inr (Or.inl ⟨rfl, rfl⟩))⟩
theorem vm_175 : eMok Tb1 eCN (em_175, 4) yX12_will cX12_will (some .int) := ⟨tbT 1774 (by decide +kernel) rfl, tbT 18 (by decide +kernel) rfl, plainFor_of_name (by decide +kernel), rfl, by decide +kernel, e_dk ed_175 ee_175, (fun h => by cases h), Or.inr (Or.inr (Or.inl ⟨rfl, rfl⟩))⟩
theorem vm_177 : eMok Tb1 eCN (em_177, 1) yJ6_bitCount_0f7a4 cJ6_bitCount_0f7a4 (some .int) := ⟨tbT 753 (by decide +kernel) rfl, tbT 25 (by decide +kernel) rfl, plainFor_of_name (by decide +kernel), rfl, by decide +kernel, e_dk ed_177 ee_177, (fun h => by cases h), Or.inr (Or.inr (Or.inl ⟨rfl, rfl⟩))⟩
theorem vm_178 : eMok Tb1 eCN (em_178, 3) yJ9_floorMod_7cf53 cJ9_floorMod_7cf53 (some .int) := ⟨tbT 775 (by decide +kernel) rfl, tbT 19 (by decide +kernel) rfl, by decide +kernel, rfl, by decide +kernel, e_dk ed_178 ee_178, (fun h => by cases h), Or.inr (Or.inr (Or.inl ⟨rfl, rfl⟩))⟩
theorem vm_179 : eMok Tb1 eCN (em_179, 2) yJ9_min_7cf53 cJ9_min_7cf53 (some .int) := ⟨tbT 541 (by decide +kernel) rfl, tbT 19 (by decide +kernel) rfl, by decide +kernel, rfl, by decide +kernel, e_dk ed_179 ee_179, (fun h => by cases h), Or.inr (Or.inr (Or.inl ⟨rfl, rfl⟩))⟩
theorem vm_180 : eMok Tb1 eCN (em_180, 4) yJ7_fill_53178 cJ7_fill_53178 none := ⟨tbT 201 (by decide +kernel) rfl, tbT 9 (by decide +kernel) rfl, plainFor_of_name (by decide +kernel), rfl, by decide +kernel, e_dk ed_180 ee_180, (fun h => by cases h), Or.inl ⟨rfl, rfl⟩⟩
end
section
/-! THE LAW'S room(..), WHERE THE ROW HAS NO SUCH ROOM: WardrobeRow.room throws, and the law's own method catches it. -/
def xNS : String := "java/util/NoSuchElementException"
def xN1 : String := "java/lang/RuntimeException"
def xN2 : List String := ["java/lang/Exception"]
abbrev cNS : ByteArray := prog_30_method_4_code
abbrev cX11_room : ByteArray := prog_1_method_6_code
def yX11_room : MethodName := ⟨eCN 11, "room", "(II)I"⟩
abbrev cL_room : ByteArray := method_3_code
def yL_room : MethodName := ⟨eCN 13, "room", "(LWardrobeRow;II[J)I"⟩
def rm_xr : Room := { frames := 20, cells := 1, slots := 6, locals := 300 }
def rm_lr : Room := { frames := 21, cells := 1, slots := 6, locals := 330 }
def xQX (ρ : Nat → Int32) (b base : Nat) (D : va_G) (ws : va_W) (K : eK) (t : State) : Prop := ∃ (hp2 : eH) (nx2 : Nat) (cs2 : eC) (ws2 : va_W) (tys2 : List (ClassId × FieldType)), K (some (.inl 1)) hp2 nx2 cs2 = true ∧ eSat ρ cs2 ∧ (∀ (o a : Nat), (ead ws)[o]? = some a → (ead ws2)[o]? = some a) ∧ va_K D vwCl tys2 t ∧ va_P D vwCl ws2 t.heap ∧ va_D (fun q => base ≤ q) ws2 ∧ eMt ρ b vwCl hp2 nx2 ws2 tys2
def xXC (ρ : Nat → Int32) (b base : Nat) (D : va_G) (ws : va_W) (K : eK) : String → State → State → Prop := fun E st t => E = xNS ∧ xQX ρ b base D ws K t ∧ va_F (fun q => base ≤ q) st t
def xK (K : eK) : eK := fun ret hp nx cs => match ret with
  | some (.inl 0) => K (some (.inl 1)) hp nx cs
  | _ => false
theorem xK_ok {K : eK} {ret : Option eV} {hp : eH} {nx : Nat} {cs : eC} (h : xK K ret hp nx cs = true) : ret = some (.inl 0) ∧ K (some (.inl 1)) hp nx cs = true := by
  unfold xK at h
  split at h
  · exact ⟨rfl, h⟩
  · cases h
theorem x_good : ∀ w ∈ (vx_atS (eCN 11) 147 xNS 13 cNS xN1 xN2).filter goodWord, w ∈ lw_tbl := by decide +kernel
theorem x_bad : ∀ w ∈ (vx_atS (eCN 11) 147 xNS 13 cNS xN1 xN2).filter (fun w => !goodWord w), w ∈ [Cond.castable xNS xNS, .declares ⟨"java/lang/RuntimeException", "<init>", "(Ljava/lang/String;)V"⟩, .declares ⟨"java/lang/Exception", "<init>", "(Ljava/lang/String;)V"⟩, .declares ⟨"java/lang/Throwable", "<init>", "(Ljava/lang/String;)V"⟩] := by decide +kernel
theorem x_ot : ∀ w ∈ Cond.classLink (eCN 11) 143 xNS :: Cond.initialized xNS :: vx_atS (eCN 11) 147 xNS 13 cNS xN1 xN2, vx_ot w = true := by decide +kernel
theorem m_room {ρ : Nat → Int32} {b base : Nat} {D : va_G} {l : Launch} (hst : l.stackTraces = false) {ih : eR} (IH : eSn ρ b base D vwCl Tb1 (NF1 base) l eCN ih) {x p0 : eV} {hp : eH} {nx : Nat} {cs : eC} {K : eK} (h : ih em_75 0 em_75.2.2.2.2.2.2 (eargs [x, p0] 0) [] hp nx 0 0 cs (xK K) = true) (hs : eSat ρ cs)
    {ws : va_W} {tys : List (ClassId × FieldType)} {xa o : Nat} {fs : List Value} {z0 z1 : Int32} (hm : eMt ρ b vwCl hp nx ws tys) (hx0 : eRl ρ b (ead ws) x (.ref xa)) (hp0 : eRl ρ b (ead ws) p0 (.int z0)) (ho : ws[o]? = some (xa, (.inr (11, fs) : va_E))) :
    vx_Met l yX11_room (Cond.code yX11_room cX11_room 3 (some .int) :: Tb1) rm_xr (ePc base D vwCl (NF1 base) ws tys [.ref xa, .int z0, .int z1]) (fun _ _ _ _ => False) (xXC ρ b base D ws K) 1 6 (fun a => base ≤ a) := by
  refine vx_ofW (cc := cX11_room) (maxL := 3) (ret := some .int) (by decide +kernel) rfl ?_
  intro p e s m args below meth c s₁ B hml htab hv
  obtain ⟨rfl, hnf, hbase, hK, hP, hD⟩ := hv
  have hx := B.exec
  have hb := B.bytes
  have hts0 := atoms_spec (ws := Cond.code yX11_room cX11_room 3 (some .int) :: Tb1) B.pre
  have hts : ∀ w ∈ Tb1, w.before _ s = true := fun w hw => hts0 w (List.mem_cons_of_mem _ hw)
  have hown : s.vm.findClass (eCN 11) = some m.cls := findClass_of_methodNamed B.named
  have hlocks := B.notSynchronized
  have hl := lv_entry [Value.ref xa, .int z0, .int z1] (n := 3) (by rw [lg_len]; exact Nat.le_refl 3)
  rw [lg_entry_eq]
  generalize (lg_sl [Value.ref xa, .int z0, .int z1] ++ List.replicate (3 - (lg_sl [Value.ref xa, .int z0, .int z1]).length) Slot.unset).toArray = lsA at hl ⊢
  have has : eRs ρ b (ead ws) [x, p0] [.ref xa, .int z0] := ⟨hx0, hp0, trivial⟩
  have hM := e_met IH vm_75 h (by rw [← eRs_cats has]; exact Nat.le_refl 2) hs hm has
  have S : CallFix p m c cX11_room 3 s [Value.ref xa, .int z0, .int z1].toArray Tb1 (eCN 11) := ⟨hx, hb, hml, hown, hts⟩
  have hG : GoodIn Tb1 (Cond.code yX11_isRoom cX11_isRoom 2 (some .boolean) :: Tb1) := e_goodIn tb_good (fun w z => (List.mem_cons.mp z).elim (fun z => by rw [z]; exact vm_75.1) (fun z => z))
  refine lv_aload_n hx hb (by decide +kernel : decode cX11_room 0 = .ok (.aload_n 0, 1)) rfl (lv_at hl 0 rfl) ?_
  refine lv_iload_n hx hb (by decide +kernel : decode cX11_room 1 = .ok (.iload_n 1, 1)) rfl (lv_at hl 1 rfl) ?_
  have hr := va_runV (l := l) (e := e) (R := (headSpec (Cond.code yX11_room cX11_room 3 (some .int) :: Tb1) rm_xr).room) (below := below) (meth := meth) (H := s.heap) (locs := []) (cells := 0) (slots := 0) (g := F0 m 2 lsA [.int z0, .ref xa]) (rest := []) (As := [.int z0]) (b := xa) (n := 1) (C := eCN 11) S hM
    ⟨callB_of 1 hts hG rfl rfl rfl (hts _ vm_75.2.1) (hts _ (tbT 761 (by decide +kernel) rfl : Cond.methodLink (eCN 11) 139 yX11_isRoom ∈ Tb1)) ⟨vm_75.2.2.2.2.1.1, vm_75.2.2.2.2.1.2, by decide +kernel⟩ ⟨by decide +kernel, by decide +kernel⟩, hts _ (tbT 763 (by decide +kernel) rfl), hts _ (tbS (y := yX11_isRoom) (n := 17) 14 (by decide +kernel) rfl)⟩
    ⟨e_blind (v_NF base), va_recv hK hP (q := (RX11, TX11, 17)) rfl ho, fun U hU hW => ⟨rfl, (v_NF base).1 s U hnf hW (by rw [hU]; exact Nat.le_refl _) (fun q _ _ => by rw [hU]), by rw [hU]; exact hbase, va_K.moved hW.alike hK, by rw [hU]; exact hP, hD⟩⟩
    rfl rfl hl.1 rfl (lv_room (Nat.le_of_ble_eq_true rfl)) (by decide +kernel : decode cX11_room 2 = .ok (.invokevirtual 139, 3)) ⟨by decide +kernel, by decide +kernel⟩
  intro T hT X
  obtain ⟨v, st₀, t, T', L, h0, X', hL, e1, e2, ⟨⟨ret, hp2, nx2, cs2, ws2, tys2, hk, hs2, hext, hK2, hP2, hD2, hm2, hret⟩, hz, hkp⟩, st⟩ := hr T hT X
  rw [h0] at hz hkp
  obtain ⟨rfl, hk1⟩ := xK_ok hk
  rcases hret with ⟨z, -⟩ | ⟨v2, xv, z1', hvx, z2⟩
  · cases z
  cases z1'
  have hvx : xv = .int (Int32.ofNat 0) := hvx
  subst hvx
  cases z2
  have hS : va_S (fun q => base ≤ q) s.heap T'.heap ([] ++ L) := ⟨by rw [e1]; exact hz, fun q h1 h2 => by rw [e1]; exact hkp q h1 h2, fun q hq => hL q hq⟩
  have hKs : va_K D vwCl tys2 s := va_K.moved (by rw [← e2]; exact X'.warmed.alike.symm) hK2
  have hP3 : va_P D vwCl ws2 T'.heap := by rw [e1]; exact hP2
  obtain ⟨adK, adV, g1, g2, g3, g4, g5, g6, g7, g8, g9, g10⟩ := hnf.2.2
  have Kk : W p l e (headSpec (Cond.code yX11_room cX11_room 3 (some .int) :: Tb1) rm_xr).room s m [Value.ref xa, .int z0, .int z1].toArray below meth c T'.heap ([] ++ L) (0 + 0) (0 + 0) (vx_MQ below (fun _ _ _ _ => False) (xXC ρ b base D ws K) [Value.ref xa, .int z0, .int z1].toArray s 1 6 (fun a => base ≤ a)) (F0 m 5 lsA [.int (Int32.ofNat 0)]) := by
    refine lv_if_eq (tgt := 17) hx hb (by decide +kernel : decode cX11_room 5 = .ok (.ifCond .eq 12, 3)) (by decide) (fun _ => ?_) (fun z => absurd rfl z)
    refine vx_throwS (rest := []) hx hb hst (own := eCN 11) (cls := xNS) (text := scTx 3) (n1 := xN1) (n2 := xN2) (ix := 13) (rx := cNS) (ik := 143) (is := 145) (ic := 147) (sa := adK 3) (A := fun q => base ≤ q) (by decide +kernel) (by decide +kernel) (by decide +kernel) (by decide +kernel) hown (by decide +kernel) (by decide +kernel) (by decide +kernel)
      (hts _ (tbT 1293 (by decide +kernel) rfl)) (hts _ (tbT 24 (by decide +kernel) rfl)) g5
      (vx_hat (fun w hw => hts w (List.mem_filter.mpr ⟨x_good w hw, (List.mem_filter.mp hw).2⟩)) x_bad (vx_c (va_Nw.use rfl g10.1) (vx_c (va_Nw.use rfl g10.2.1) (vx_c (va_Nw.use rfl g10.2.2.1) (vx_c (va_Nw.use rfl g10.2.2.2) vx_n))))) x_ot g8 g9 hS (by rw [hml]; exact hl.1)
      (by decide +kernel : decode cX11_room 17 = .ok (.new 143, 3)) (by decide +kernel : decode cX11_room 20 = .ok (.dup, 1)) (by decide +kernel : decode cX11_room 21 = .ok (.ldc 145, 2)) (by decide +kernel : decode cX11_room 23 = .ok (.invokespecial 147, 3)) (by decide +kernel : decode cX11_room 26 = .ok (.athrow, 1))
      (fun z hz => (htab z hz).elim) (by decide +kernel) (by decide +kernel) (by decide +kernel) (by decide +kernel) hlocks ?_ (fun z hz => hL z hz) (by decide) (by decide)
    intro t9 ha h1 h2
    exact ⟨rfl, ⟨hp2, nx2, cs2, ws2, tys2, hk1, hs2, hext, va_K.moved ha hKs, va_P.kept hP3 (fun k q hq => h2 q.1 (hP3 k q hq).lt), hD2, hm2⟩, Nat.le_trans hS.1 h1, fun q q1 q2 => by rw [h2 q (Nat.lt_of_lt_of_le q1 hS.1)]; exact hS.2.1 q q1 q2⟩
  obtain ⟨t2, a1, b1⟩ := Kk T' rfl X'
  exact ⟨t2, st t2 a1, b1⟩
theorem m_lroom {ρ : Nat → Int32} {b base : Nat} {D : va_G} {l : Launch} (hst : l.stackTraces = false) {ih : eR} (IH : eSn ρ b base D vwCl Tb1 (NF1 base) l eCN ih) {x p0 : eV} {hp : eH} {nx : Nat} {cs : eC} {K : eK} (h : ih em_75 0 em_75.2.2.2.2.2.2 (eargs [x, p0] 0) [] hp nx 0 0 cs (xK K) = true) (hs : eSat ρ cs)
    {ws : va_W} {tys : List (ClassId × FieldType)} {xa oa o : Nat} {fs : List Value} {z0 z1 : Int32} (hm : eMt ρ b vwCl hp nx ws tys) (hx0 : eRl ρ b (ead ws) x (.ref xa)) (hp0 : eRl ρ b (ead ws) p0 (.int z0)) (ho : ws[o]? = some (xa, (.inr (11, fs) : va_E))) :
    Met l yL_room (Cond.codeWith yL_room cL_room 5 (some .int) [(0, 10, 13, 13)] :: Tb1) rm_lr (ePc base D vwCl (NF1 base) ws tys [.ref xa, .int z0, .int z1, .ref oa]) (eQc ρ b base D vwCl ws K) 1 6 (fun a => base ≤ a) := by
  refine va_MetW (cc := cL_room) (maxL := 5) (ret := some .int) (hh := [(0, 10, 13, 13)]) (by decide +kernel) rfl ?_
  intro p e s m args below meth c s₁ B hml hv
  obtain ⟨rfl, hnf, hbase, hK, hP, hD⟩ := hv
  have hx := B.exec
  have hb := B.bytes
  have hret := B.returns
  have hts0 := atoms_spec (ws := Cond.codeWith yL_room cL_room 5 (some .int) [(0, 10, 13, 13)] :: Tb1) B.pre
  have hts : ∀ w ∈ Tb1, w.before _ s = true := fun w hw => hts0 w (List.mem_cons_of_mem _ hw)
  have htab : c.exceptionTable.toList = tableOf [(0, 10, 13, 13)] := vx_table (x := yL_room) B (hts0 _ List.mem_cons_self)
  have hown : s.vm.findClass (eCN 13) = some m.cls := findClass_of_methodNamed B.named
  have hlocks := B.notSynchronized
  have hl := lv_entry [Value.ref xa, .int z0, .int z1, .ref oa] (n := 5) (by rw [lg_len]; exact Nat.le_succ 4)
  rw [lg_entry_eq]
  generalize (lg_sl [Value.ref xa, .int z0, .int z1, .ref oa] ++ List.replicate (5 - (lg_sl [Value.ref xa, .int z0, .int z1, .ref oa]).length) Slot.unset).toArray = lsA at hl ⊢
  have hM := m_room hst IH h hs (z1 := z1) hm hx0 hp0 ho
  have S : CallFix p m c cL_room 5 s [Value.ref xa, .int z0, .int z1, .ref oa].toArray Tb1 (eCN 13) := ⟨hx, hb, hml, hown, hts⟩
  have hcode : Cond.code yX11_room cX11_room 3 (some .int) ∈ Tb1 := tbT 1292 (by decide +kernel) rfl
  have hG : GoodIn Tb1 (Cond.code yX11_room cX11_room 3 (some .int) :: Tb1) := e_goodIn tb_good (fun w z => (List.mem_cons.mp z).elim (fun z => by rw [z]; exact hcode) (fun z => z))
  refine lv_aload_n hx hb (by decide +kernel : decode cL_room 0 = .ok (.aload_n 3, 1)) rfl (lv_at hl 3 rfl) ?_
  refine lv_iconst (v := 0) hx hb (by decide +kernel : decode cL_room 1 = .ok (.iconst 0, 1)) (by decide) ?_
  refine lv_aload_n hx hb (by decide +kernel : decode cL_room 2 = .ok (.aload_n 0, 1)) rfl (lv_at hl 0 rfl) ?_
  refine lv_iload_n hx hb (by decide +kernel : decode cL_room 3 = .ok (.iload_n 1, 1)) rfl (lv_at hl 1 rfl) ?_
  refine lv_iload_n hx hb (by decide +kernel : decode cL_room 4 = .ok (.iload_n 2, 1)) rfl (lv_at hl 2 rfl) ?_
  have hr := vx_runV (l := l) (e := e) (R := (headSpec (Cond.codeWith yL_room cL_room 5 (some .int) [(0, 10, 13, 13)] :: Tb1) rm_lr).room) (below := below) (meth := meth) (H := s.heap) (locs := []) (cells := 0) (slots := 0) (g := F0 m 5 lsA [.int z1, .int z0, .ref xa, .int 0, .ref oa]) (rest := [.int 0, .ref oa]) (As := [.int z0, .int z1]) (b := xa) (n := 2) (C := eCN 11) S hM
    ⟨callB_of 2 hts hG rfl rfl rfl (hts _ (tbT 1 (by decide +kernel) rfl : Cond.initialized (eCN 11) ∈ Tb1)) (hts _ (tbT 1289 (by decide +kernel) rfl : Cond.methodLink (eCN 13) 7 yX11_room ∈ Tb1)) ⟨by decide +kernel, by decide +kernel, by decide +kernel⟩ ⟨by decide +kernel, by decide +kernel⟩, hts _ (tbT 1290 (by decide +kernel) rfl), hts _ (tbT 1291 (by decide +kernel) rfl)⟩
    ⟨e_blind (v_NF base), va_recv hK hP (q := (RX11, TX11, 17)) rfl ho, fun U hU hW => ⟨rfl, (v_NF base).1 s U hnf hW (by rw [hU]; exact Nat.le_refl _) (fun q _ _ => by rw [hU]), by rw [hU]; exact hbase, va_K.moved hW.alike hK, by rw [hU]; exact hP, hD⟩⟩
    rfl rfl hl.1 rfl (lv_room (Nat.le_of_ble_eq_true rfl)) (by decide +kernel : decode cL_room 5 = .ok (.invokevirtual 7, 3)) ⟨by decide +kernel, by decide +kernel⟩
  intro T hT X
  rcases hr T hT X with ⟨v, st₀, t, T', L, h0, X', hL, e1, e2, hF, st⟩ | ⟨q, st₀, t, T', L, E, ce, h0, X', hL, e1, e2, ⟨rfl, ⟨hp2, nx2, cs2, ws2, tys2, hk1, hs2, hext, hK2, hP2, hD2, hm2⟩, hz, hkp⟩, hce, hcv, hcl, st⟩
  · exact hF.elim
  rw [h0] at hz hkp
  obtain ⟨adK, adV, g1, g2, g3, g4, g5, g6, g7, g8, g9, g10⟩ := hnf.2.2
  have hKs : va_K D vwCl tys2 s := va_K.moved (by rw [← e2]; exact X'.warmed.alike.symm) hK2
  have hP3 : va_P D vwCl ws2 T'.heap := by rw [e1]; exact hP2
  have Kk : vx_W p l e (headSpec (Cond.codeWith yL_room cL_room 5 (some .int) [(0, 10, 13, 13)] :: Tb1) rm_lr).room s m [Value.ref xa, .int z0, .int z1, .ref oa].toArray below meth c T'.heap ([] ++ L) (0 + 1) (0 + 6) (MQ below (eQc ρ b base D vwCl ws K) [Value.ref xa, .int z0, .int z1, .ref oa].toArray s 1 6 (fun a => base ≤ a)) (F0 m 5 lsA [.int 0, .ref oa]) q := by
    refine vx_catch (own := eCN 13) (name := xNS) hown ⟨0, 10, 13, 13⟩ htab rfl (by decide) (hts _ (tbT 1288 (by decide +kernel) rfl)) (va_Nw.use rfl g10.1) (by rw [e1]; exact hce) hcv hcl ?_
    refine lv_astore hx hb (by decide +kernel : decode cL_room 13 = .ok (.astore 4, 2)) hl (by decide) rfl (fun lsB hlB => ?_)
    refine lv_iconst (v := 1) hx hb (by decide +kernel : decode cL_room 15 = .ok (.iconst 1, 1)) (by decide) ?_
    refine W.iret hx hb hret ?_ (fun z hz => hL z hz) (by decide +kernel : decode cL_room 16 = .ok (.ireturn, 1)) hlocks
    intro t9 ht9 hW9
    refine ⟨⟨some (.inl 1), hp2, nx2, cs2, ws2, tys2, hk1, hs2, hext, va_K.moved hW9.alike hKs, by rw [ht9]; exact hP3, hD2, hm2, Or.inr ⟨.inl 1, .int 1, rfl, rfl, rfl⟩⟩, by rw [ht9, e1]; exact hz, fun z z1 z2 => by rw [ht9, e1]; exact hkp z z1 z2⟩
  obtain ⟨t2, a1, b1⟩ := Kk T' rfl X'
  exact ⟨t2, st.trans a1, b1⟩
def eAllb {α : Type} (f : Nat → α → Bool) : Nat → List (List α) → Bool
  | _, [] => true
  | o, r :: rs => r.all (f o) && eAllb f (o + 1) rs
theorem eAllb_ok {α : Type} {f : Nat → α → Bool} : ∀ {l : List (List α)} {k : Nat}, eAllb f k l = true → eAll (fun o x => f o x = true) k l
  | [], _, _ => trivial
  | r :: rs, k, h => by
    have h : (r.all (f k) && eAllb f (k + 1) rs) = true := h
    rw [Bool.and_eq_true] at h
    exact ⟨List.all_eq_true.mp h.1, eAllb_ok h.2⟩
def c89 (o : Nat) (x : Nat × Nat × Nat × Nat) : Bool := (!(x.2.1 == 9) || (o == 13 && (x.1 == 38 && x.2.2.1 == 75))) && (!(x.2.1 == 8) || (o == 7 && (x.1 == 19 && x.2.2.1 == 0)))
theorem v_89 : eAll (fun o x => c89 o x = true) 0 ecl_ := eAllb_ok (by decide +kernel)
theorem v_9 {o idx mno n : Nat} (h : eCL1 o idx = some (9, mno, n)) : o = 13 ∧ idx = 38 ∧ mno = 75 := by
  have h1 : c89 o (idx, 9, mno, n) = true := ea2_all v_89 h
  simpa [c89] using h1
theorem v_8 {o idx sn n : Nat} (h : eCL1 o idx = some (8, sn, n)) : o = 7 ∧ idx = 19 ∧ sn = 0 := by
  have h1 : c89 o (idx, 8, sn, n) = true := ea2_all v_89 h
  simpa [c89] using h1
theorem v_T {ρ : Nat → Int32} {b base : Nat} {D : va_G} {l : Launch} (hst : l.stackTraces = false) : eTok ρ b base D vwCl Tb1 (NF1 base) l eCN eCL1 eMT1 := by
  intro ih IH mi idx mno n hcl q hq hp as r nx ce sl cs K h1 h2 p e R s m args below meth c cc nL X H locs ws tys lsA lv asx rx pc hd hs hw hl has hr hlen
  obtain ⟨hmi, rfl, rfl⟩ := v_9 hcl
  cases (show eMT1 75 = some (em_75, 2) from rfl).symm.trans hq
  rcases as with _ | ⟨x, _ | ⟨p0, _ | ⟨p1, _ | ⟨o, _ | ⟨o2, t2⟩⟩⟩⟩⟩
  · cases h1
  · cases h1
  · cases h1
  · cases h1
  · unfold eThc at h1
    simp only [Bool.and_eq_true] at h1
    obtain ⟨w1, w2, w3, w4, w5, w6, w7, w8, w9⟩ := h1
    obtain ⟨xx, t1, rfl, hv, has1⟩ := eRs_cons has
    obtain ⟨x0, t2, rfl, hv0, has2⟩ := eRs_cons has1
    obtain ⟨x1, t3, rfl, hv1, has3⟩ := eRs_cons has2
    obtain ⟨xo, t4, rfl, hvo, has4⟩ := eRs_cons has3
    cases eRs_nil has4
    obtain ⟨z0, rfl⟩ := eRl_int hv0 w2
    obtain ⟨z1, rfl⟩ := eRl_int hv1 w3
    obtain ⟨oo, oa, -, -, rfl⟩ := eRl_ref hvo w4
    have hrv : ∃ (o a : Nat) (fs : List Value), xx = .ref a ∧ ws[o]? = some (a, (.inr (11, fs) : va_E)) := by
      rcases x with n | j | o | n
      · cases w1
      · cases w1
      · obtain ⟨a, ha, rfl⟩ := hv
        unfold ecl at w1
        dsimp only at w1
        cases hob : hg hp o with
        | none => rw [hob] at w1; cases w1
        | some ob =>
          rw [hob] at w1
          rcases ob with ob | ob
          · have he := Nat.eq_of_beq_eq_true w1
            obtain ⟨ee, h8, fs, rfl, -⟩ := eMt_at hw.2.2.2.2 ha hob
            exact ⟨o, a, fs, rfl, by rw [h8, he]⟩
          · cases w1
      · cases w1
    obtain ⟨o9, xa, fs, rfl, he⟩ := hrv
    have h2 : ih em_75 0 em_75.2.2.2.2.2.2 (eargs [x, p0] 0) [] hp nx 0 0 cs (xK K) = true := h2
    have hM := m_lroom hst IH h2 hs (oa := oa) (z1 := z1) hw.2.2.2.2 hv hv0 he
    have hts := X.2.2.2.2.1
    have hRc := X.2.2.2.2.2.2.2.1
    have hown := X.2.2.2.1
    rw [hmi] at hown
    have S : CallFix p m c cc nL s args Tb1 (eCN 13) := ⟨X.1, X.2.1, X.2.2.1, hown, hts⟩
    have hG : GoodIn Tb1 (va_wsS (eCN 13) 38 yL_room (Cond.codeWith yL_room cL_room 5 (some .int) [(0, 10, 13, 13)] :: Tb1)) := e_goodIn tb_good (fun w z => by
      unfold va_wsS at z
      rcases List.mem_append.mp z with z | z
      · rcases List.mem_cons.mp z with z | z
        · rw [z]; exact tbT 1285 (by decide +kernel) rfl
        · rcases List.mem_cons.mp z with z | z
          · rw [z]; exact tbT 1286 (by decide +kernel) rfl
          · rcases List.mem_cons.mp z with z | z
            · rw [z]; exact tbT 0 (by decide +kernel) rfl
            · cases z
      · rcases List.mem_cons.mp z with z | z
        · rw [z]; exact tbT 1287 (by decide +kernel) rfl
        · exact z)
    have a5 := Nat.le_of_ble_eq_true w5
    have a6 := Nat.le_of_ble_eq_true w6
    have a7 := Nat.le_of_ble_eq_true w7
    have a8 := Nat.le_of_ble_eq_true w8
    have a9 := Nat.le_of_ble_eq_true w9
    have hRR : rm_lr.frames + 1 ≤ R.frames ∧ 8 + (5 + 11) + rm_lr.locals ≤ R.locals := ⟨by rw [hRc.2.2.1]; show 21 + 1 ≤ _; omega, by rw [hRc.2.2.2]; show 8 + (5 + 11) + 330 ≤ _; omega⟩
    exact vx_runSW (n := 4) S hM (vx_cwSW 4 hts hG rfl rfl rfl ⟨by decide +kernel, by decide +kernel, by decide +kernel⟩ hRR) ⟨e_blind (v_NF base), e_pre (v_NF base) X hw⟩ rfl rfl hl.1 rfl (lv_room (by rw [eRs_cats hr]; exact a9)) hd.1 ⟨by rw [hRc.1]; exact a7, by rw [hRc.2.1]; exact a8⟩
  · cases h1
theorem v_S {ρ : Nat → Int32} {b base : Nat} {D : va_G} {l : Launch} : eSok ρ b base D vwCl Tb1 (NF1 base) l eCN eCL1 eSP1 := by
  intro mi idx sn n hcl hp as q hq p e R s m args below meth c Q cc nL X H locs nx ws tys lsA lv asx rx pc ce sl hd hw hl has hlen hcat hce hsl K
  obtain ⟨hmi, rfl, rfl⟩ := v_8 hcl
  unfold eSP1 at hq
  split at hq
  · rename_i w
    cases hz : (Nat.blt w 30 && (Nat.ble 5 mi.2.2.2.1 && Nat.ble 111 mi.2.2.2.2.1)) with
    | false => rw [hz] at hq; cases hq
    | true =>
      rw [hz] at hq
      have hq : some (eL, 0, 0) = some q := hq
      cases hq
      rw [Bool.and_eq_true, Bool.and_eq_true] at hz
      have a1 : w < 30 := Nat.le_of_ble_eq_true hz.1
      have a2 := Nat.le_of_ble_eq_true hz.2.1
      have a3 := Nat.le_of_ble_eq_true hz.2.2
      obtain ⟨xx, t1, rfl, hv, has1⟩ := eRs_cons has
      cases eRs_nil has1
      have hv : xx = .int (Int32.ofNat w) := hv
      subst hv
      have hts := X.2.2.2.2.1
      have hRc := X.2.2.2.2.2.2.2.1
      have hown := X.2.2.2.1
      rw [hmi] at hown
      have S : CallFix p m c cc nL s args Tb1 (eCN 7) := ⟨X.1, X.2.1, X.2.2.1, hown, hts⟩
      have hce : ce ≤ R.cells := by rw [hRc.1]; exact Nat.le_trans (Nat.le_add_right _ _) hce
      have hsl : sl ≤ R.slots := by rw [hRc.2.1]; exact Nat.le_trans (Nat.le_add_right _ _) hsl
      refine k_callS (n := 1) (asx := [.int (Int32.ofNat w)]) (m_cok l base w a1) ⟨rfl, rfl⟩ (v_HF base) S (tbT 42 (by decide +kernel) rfl) (tbT 2 (by decide +kernel) rfl) (tbT 40 (by decide +kernel) rfl) (tbT 41 (by decide +kernel) rfl) ⟨by decide +kernel, by decide +kernel, by decide +kernel⟩ ⟨by rw [hRc.2.2.1]; exact a2, by rw [hRc.2.2.2]; exact a3⟩ X.2.2.2.2.2.1.2.2 hw.2.2.2.1 rfl hl.1 hcat ⟨hce, hsl⟩ hd.1 (fun y hy => ?_)
      obtain ⟨z, rfl⟩ := hy
      exact K H locs (.long z) hw ⟨z, rfl⟩
  · cases hq
end
section
def pCL (base o : Nat) (x : Nat × Nat × Nat × Nat) : Prop := x.2.1 ≤ 5 → ∀ q, eMT1 x.2.2.1 = some q → ∃ (y : MethodName) (cc : ByteArray) (ret : Option FieldType), eMok Tb1 eCN q y cc ret ∧ eLk Tb1 (NF1 base) eCN o x.1 x.2.1 x.2.2.2 y ∧ ((x.2.1 = 1 ∨ x.2.1 = 4) → ∃ T N, vwCl[q.1.1]? = some (eCN q.1.1, T, N))
theorem vcl_0_3 (base : Nat) : pCL base 0 (3, 6, 0, 1) := fun h => absurd h (by decide)
theorem vcl_0_28 (base : Nat) : pCL base 0 (28, 1, 35, 2) := fun _ q hq => by
  have hq2 : eMT1 35 = some q := hq
  cases (show eMT1 35 = some (em_35, 2) from rfl).symm.trans hq2
  exact ⟨yX7_begin, cX7_begin, none, vm_35, ⟨by decide +kernel, Or.inr (Or.inl ⟨rfl, tbT 1140 (by decide +kernel) rfl, tbT 532 (by decide +kernel) rfl, tbT 533 (by decide +kernel) rfl⟩)⟩, fun _ => ⟨TX7, 11, rfl⟩⟩
theorem vcl_0 (base : Nat) : ∀ x ∈ ecl__0, pCL base 0 x := List.forall_mem_cons.mpr ⟨(vcl_0_3 base), List.forall_mem_cons.mpr ⟨(vcl_0_28 base), fun _ h => absurd h List.not_mem_nil⟩⟩
theorem vcl_1_3 (base : Nat) : pCL base 1 (3, 6, 0, 1) := fun h => absurd h (by decide)
theorem vcl_1_27 (base : Nat) : pCL base 1 (27, 0, 180, 2) := fun _ q hq => by
  have hq2 : eMT1 180 = some q := hq
  cases (show eMT1 180 = some (em_180, 4) from rfl).symm.trans hq2
  exact ⟨yJ7_fill_53178, cJ7_fill_53178, none, vm_180, ⟨by decide +kernel, Or.inl ⟨rfl, tbT 199 (by decide +kernel) rfl, tbT 200 (by decide +kernel) rfl⟩⟩, fun h => absurd h (by decide)⟩
theorem vcl_1_49 (base : Nat) : pCL base 1 (49, 7, 0, 5) := fun h => absurd h (by decide)
theorem vcl_1_59 (base : Nat) : pCL base 1 (59, 3, 53, 1) := fun _ q hq => by
  have hq2 : eMT1 53 = some q := hq
  cases (show eMT1 53 = some (em_53, 1) from rfl).symm.trans hq2
  exact ⟨yX11_bit, cX11_bit, (some .int), vm_53, ⟨by decide +kernel, Or.inr (Or.inr (Or.inr (Or.inl ⟨rfl, ⟨"WardrobeRow", fun s h => h.1 _ (List.mem_of_getElem? (i := 8) rfl)⟩, tbT 631 (by decide +kernel) rfl⟩)))⟩, fun h => absurd h (by decide)⟩
theorem vcl_1 (base : Nat) : ∀ x ∈ ecl__1, pCL base 1 x := List.forall_mem_cons.mpr ⟨(vcl_1_3 base), List.forall_mem_cons.mpr ⟨(vcl_1_27 base), List.forall_mem_cons.mpr ⟨(vcl_1_49 base), List.forall_mem_cons.mpr ⟨(vcl_1_59 base), fun _ h => absurd h List.not_mem_nil⟩⟩⟩⟩
theorem vcl_2_3 (base : Nat) : pCL base 2 (3, 6, 0, 1) := fun h => absurd h (by decide)
theorem vcl_2 (base : Nat) : ∀ x ∈ ecl__2, pCL base 2 x := List.forall_mem_cons.mpr ⟨(vcl_2_3 base), fun _ h => absurd h List.not_mem_nil⟩
theorem vcl_3_3 (base : Nat) : pCL base 3 (3, 6, 0, 1) := fun h => absurd h (by decide)
theorem vcl_3_27 (base : Nat) : pCL base 3 (27, 1, 41, 3) := fun _ q hq => by
  have hq2 : eMT1 41 = some q := hq
  cases (show eMT1 41 = some (em_41, 5) from rfl).symm.trans hq2
  exact ⟨yX8_around, cX8_around, (some .int), vm_41, ⟨by decide +kernel, Or.inr (Or.inl ⟨rfl, tbT 1004 (by decide +kernel) rfl, tbT 634 (by decide +kernel) rfl, tbT 635 (by decide +kernel) rfl⟩)⟩, fun _ => ⟨TX8, 10, rfl⟩⟩
theorem vcl_3 (base : Nat) : ∀ x ∈ ecl__3, pCL base 3 x := List.forall_mem_cons.mpr ⟨(vcl_3_3 base), List.forall_mem_cons.mpr ⟨(vcl_3_27 base), fun _ h => absurd h List.not_mem_nil⟩⟩
theorem vcl_4_3 (base : Nat) : pCL base 4 (3, 6, 0, 1) := fun h => absurd h (by decide)
theorem vcl_4_34 (base : Nat) : pCL base 4 (34, 0, 180, 2) := fun _ q hq => by
  have hq2 : eMT1 180 = some q := hq
  cases (show eMT1 180 = some (em_180, 4) from rfl).symm.trans hq2
  exact ⟨yJ7_fill_53178, cJ7_fill_53178, none, vm_180, ⟨by decide +kernel, Or.inl ⟨rfl, tbT 1039 (by decide +kernel) rfl, tbT 200 (by decide +kernel) rfl⟩⟩, fun h => absurd h (by decide)⟩
theorem vcl_4_40 (base : Nat) : pCL base 4 (40, 1, 16, 3) := fun _ q hq => by
  have hq2 : eMT1 16 = some q := hq
  cases (show eMT1 16 = some (em_16, 5) from rfl).symm.trans hq2
  exact ⟨yX4_gather, cX4_gather, none, vm_16, ⟨by decide +kernel, Or.inr (Or.inl ⟨rfl, tbT 1040 (by decide +kernel) rfl, tbT 1042 (by decide +kernel) rfl, tbS (n := 8) 27 (by decide +kernel) rfl⟩)⟩, fun _ => ⟨TX4, 8, rfl⟩⟩
theorem vcl_4_44 (base : Nat) : pCL base 4 (44, 3, 72, 2) := fun _ q hq => by
  have hq2 : eMT1 72 = some q := hq
  cases (show eMT1 72 = some (em_72, 2) from rfl).symm.trans hq2
  exact ⟨yX11_isBelow, cX11_isBelow, (some .boolean), vm_72, ⟨by decide +kernel, Or.inr (Or.inr (Or.inr (Or.inl ⟨rfl, ⟨"WardrobeRow", fun s h => h.1 _ (List.mem_of_getElem? (i := 9) rfl)⟩, tbT 585 (by decide +kernel) rfl⟩)))⟩, fun h => absurd h (by decide)⟩
theorem vcl_4_52 (base : Nat) : pCL base 4 (52, 1, 14, 1) := fun _ q hq => by
  have hq2 : eMT1 14 = some q := hq
  cases (show eMT1 14 = some (em_14, 4) from rfl).symm.trans hq2
  exact ⟨yX4_closeRings, cX4_closeRings, none, vm_14, ⟨by decide +kernel, Or.inr (Or.inl ⟨rfl, tbT 1053 (by decide +kernel) rfl, tbT 1055 (by decide +kernel) rfl, tbS (n := 8) 29 (by decide +kernel) rfl⟩)⟩, fun _ => ⟨TX4, 8, rfl⟩⟩
theorem vcl_4_55 (base : Nat) : pCL base 4 (55, 1, 44, 2) := fun _ q hq => by
  have hq2 : eMT1 44 = some q := hq
  cases (show eMT1 44 = some (em_44, 2) from rfl).symm.trans hq2
  exact ⟨yX8_manyOf, cX8_manyOf, (some .int), vm_44, ⟨by decide +kernel, Or.inr (Or.inl ⟨rfl, tbT 1044 (by decide +kernel) rfl, tbT 581 (by decide +kernel) rfl, tbT 582 (by decide +kernel) rfl⟩)⟩, fun _ => ⟨TX8, 10, rfl⟩⟩
theorem vcl_4_73 (base : Nat) : pCL base 4 (73, 3, 69, 2) := fun _ q hq => by
  have hq2 : eMT1 69 = some q := hq
  cases (show eMT1 69 = some (em_69, 2) from rfl).symm.trans hq2
  exact ⟨yX11_has, cX11_has, (some .boolean), vm_69, ⟨by decide +kernel, Or.inr (Or.inr (Or.inr (Or.inl ⟨rfl, ⟨"WardrobeRow", fun s h => h.1 _ (List.mem_of_getElem? (i := 10) rfl)⟩, tbT 638 (by decide +kernel) rfl⟩)))⟩, fun h => absurd h (by decide)⟩
theorem vcl_4_80 (base : Nat) : pCL base 4 (80, 1, 18, 2) := fun _ q hq => by
  have hq2 : eMT1 18 = some q := hq
  cases (show eMT1 18 = some (em_18, 5) from rfl).symm.trans hq2
  exact ⟨yX4_ringOf, cX4_ringOf, (some .int), vm_18, ⟨by decide +kernel, Or.inr (Or.inl ⟨rfl, tbT 1057 (by decide +kernel) rfl, tbT 1059 (by decide +kernel) rfl, tbS (n := 8) 30 (by decide +kernel) rfl⟩)⟩, fun _ => ⟨TX4, 8, rfl⟩⟩
theorem vcl_4_83 (base : Nat) : pCL base 4 (83, 0, 177, 1) := fun _ q hq => by
  have hq2 : eMT1 177 = some q := hq
  cases (show eMT1 177 = some (em_177, 1) from rfl).symm.trans hq2
  exact ⟨yJ6_bitCount_0f7a4, cJ6_bitCount_0f7a4, (some .int), vm_177, ⟨by decide +kernel, Or.inl ⟨rfl, tbT 1062 (by decide +kernel) rfl, tbT 752 (by decide +kernel) rfl⟩⟩, fun h => absurd h (by decide)⟩
theorem vcl_4_95 (base : Nat) : pCL base 4 (95, 1, 13, 3) := fun _ q hq => by
  have hq2 : eMT1 13 = some q := hq
  cases (show eMT1 13 = some (em_13, 4) from rfl).symm.trans hq2
  exact ⟨yX4_choose, cX4_choose, none, vm_13, ⟨by decide +kernel, Or.inr (Or.inl ⟨rfl, tbT 1075 (by decide +kernel) rfl, tbT 1077 (by decide +kernel) rfl, tbS (n := 8) 31 (by decide +kernel) rfl⟩)⟩, fun _ => ⟨TX4, 8, rfl⟩⟩
theorem vcl_4_98 (base : Nat) : pCL base 4 (98, 1, 17, 1) := fun _ q hq => by
  have hq2 : eMT1 17 = some q := hq
  cases (show eMT1 17 = some (em_17, 5) from rfl).symm.trans hq2
  exact ⟨yX4_raisePrices, cX4_raisePrices, (some .boolean), vm_17, ⟨by decide +kernel, Or.inr (Or.inl ⟨rfl, tbT 1083 (by decide +kernel) rfl, tbT 1085 (by decide +kernel) rfl, tbS (n := 8) 33 (by decide +kernel) rfl⟩)⟩, fun _ => ⟨TX4, 8, rfl⟩⟩
theorem vcl_4 (base : Nat) : ∀ x ∈ ecl__4, pCL base 4 x := List.forall_mem_cons.mpr ⟨(vcl_4_3 base), List.forall_mem_cons.mpr ⟨(vcl_4_34 base), List.forall_mem_cons.mpr ⟨(vcl_4_40 base), List.forall_mem_cons.mpr ⟨(vcl_4_44 base), List.forall_mem_cons.mpr ⟨(vcl_4_52 base), List.forall_mem_cons.mpr ⟨(vcl_4_55 base), List.forall_mem_cons.mpr ⟨(vcl_4_73 base), List.forall_mem_cons.mpr ⟨(vcl_4_80 base), List.forall_mem_cons.mpr ⟨(vcl_4_83 base), List.forall_mem_cons.mpr ⟨(vcl_4_95 base), List.forall_mem_cons.mpr ⟨(vcl_4_98 base), fun _ h => absurd h List.not_mem_nil⟩⟩⟩⟩⟩⟩⟩⟩⟩⟩⟩
theorem vcl_5_3 (base : Nat) : pCL base 5 (3, 6, 0, 1) := fun h => absurd h (by decide)
theorem vcl_5_17 (base : Nat) : pCL base 5 (17, 2, 3, 1) := fun _ q hq => by
  have hq2 : eMT1 3 = some q := hq
  cases (show eMT1 3 = some (em_3, 1) from rfl).symm.trans hq2
  exact ⟨yX1_init, cX1_init, none, vm_3, ⟨by decide +kernel, Or.inr (Or.inr (Or.inl ⟨rfl, tbT 266 (by decide +kernel) rfl, tbT 196 (by decide +kernel) rfl, rfl⟩))⟩, fun h => absurd h (by decide)⟩
theorem vcl_5_25 (base : Nat) : pCL base 5 (25, 0, 178, 2) := fun _ q hq => by
  have hq2 : eMT1 178 = some q := hq
  cases (show eMT1 178 = some (em_178, 3) from rfl).symm.trans hq2
  exact ⟨yJ9_floorMod_7cf53, cJ9_floorMod_7cf53, (some .int), vm_178, ⟨by decide +kernel, Or.inl ⟨rfl, tbT 773 (by decide +kernel) rfl, tbT 774 (by decide +kernel) rfl⟩⟩, fun h => absurd h (by decide)⟩
theorem vcl_5_31 (base : Nat) : pCL base 5 (31, 1, 23, 1) := fun _ q hq => by
  have hq2 : eMT1 23 = some q := hq
  cases (show eMT1 23 = some (em_23, 1) from rfl).symm.trans hq2
  exact ⟨yX5_newest, cX5_newest, (some (.object "WardrobeRow$Deeds")), vm_23, ⟨by decide +kernel, Or.inr (Or.inl ⟨rfl, tbT 769 (by decide +kernel) rfl, tbT 771 (by decide +kernel) rfl, tbS (n := 3) 15 (by decide +kernel) rfl⟩)⟩, fun _ => ⟨TX5, 3, rfl⟩⟩
theorem vcl_5_35 (base : Nat) : pCL base 5 (35, 1, 5, 2) := fun _ q hq => by
  have hq2 : eMT1 5 = some q := hq
  cases (show eMT1 5 = some (em_5, 2) from rfl).symm.trans hq2
  exact ⟨yX1_copyFrom, cX1_copyFrom, none, vm_5, ⟨by decide +kernel, Or.inr (Or.inl ⟨rfl, tbT 776 (by decide +kernel) rfl, tbT 690 (by decide +kernel) rfl, tbT 691 (by decide +kernel) rfl⟩)⟩, fun _ => ⟨TX1, 10, rfl⟩⟩
theorem vcl_5 (base : Nat) : ∀ x ∈ ecl__5, pCL base 5 x := List.forall_mem_cons.mpr ⟨(vcl_5_3 base), List.forall_mem_cons.mpr ⟨(vcl_5_17 base), List.forall_mem_cons.mpr ⟨(vcl_5_25 base), List.forall_mem_cons.mpr ⟨(vcl_5_31 base), List.forall_mem_cons.mpr ⟨(vcl_5_35 base), fun _ h => absurd h List.not_mem_nil⟩⟩⟩⟩⟩
theorem vcl_6_3 (base : Nat) : pCL base 6 (3, 6, 0, 1) := fun h => absurd h (by decide)
theorem vcl_6_28 (base : Nat) : pCL base 6 (28, 7, 0, 5) := fun h => absurd h (by decide)
theorem vcl_6_34 (base : Nat) : pCL base 6 (34, 1, 28, 1) := fun _ q hq => by
  have hq2 : eMT1 28 = some q := hq
  cases (show eMT1 28 = some (em_28, 1) from rfl).symm.trans hq2
  exact ⟨yX6_forget, cX6_forget, none, vm_28, ⟨by decide +kernel, Or.inr (Or.inl ⟨rfl, tbT 1201 (by decide +kernel) rfl, tbT 695 (by decide +kernel) rfl, tbT 696 (by decide +kernel) rfl⟩)⟩, fun _ => ⟨TX6, 5, rfl⟩⟩
theorem vcl_6_37 (base : Nat) : pCL base 6 (37, 1, 35, 2) := fun _ q hq => by
  have hq2 : eMT1 35 = some q := hq
  cases (show eMT1 35 = some (em_35, 2) from rfl).symm.trans hq2
  exact ⟨yX7_begin, cX7_begin, none, vm_35, ⟨by decide +kernel, Or.inr (Or.inl ⟨rfl, tbT 1202 (by decide +kernel) rfl, tbT 532 (by decide +kernel) rfl, tbT 533 (by decide +kernel) rfl⟩)⟩, fun _ => ⟨TX7, 11, rfl⟩⟩
theorem vcl_6_43 (base : Nat) : pCL base 6 (43, 1, 29, 4) := fun _ q hq => by
  have hq2 : eMT1 29 = some q := hq
  cases (show eMT1 29 = some (em_29, 8) from rfl).symm.trans hq2
  exact ⟨yX6_readCond, cX6_readCond, (some .boolean), vm_29, ⟨by decide +kernel, Or.inr (Or.inl ⟨rfl, tbT 1203 (by decide +kernel) rfl, tbT 1205 (by decide +kernel) rfl, tbS (n := 5) 44 (by decide +kernel) rfl⟩)⟩, fun _ => ⟨TX6, 5, rfl⟩⟩
theorem vcl_6_50 (base : Nat) : pCL base 6 (50, 1, 36, 2) := fun _ q hq => by
  have hq2 : eMT1 36 = some q := hq
  cases (show eMT1 36 = some (em_36, 2) from rfl).symm.trans hq2
  exact ⟨yX7_fail, cX7_fail, (some .boolean), vm_36, ⟨by decide +kernel, Or.inr (Or.inl ⟨rfl, tbT 1213 (by decide +kernel) rfl, tbT 592 (by decide +kernel) rfl, tbT 593 (by decide +kernel) rfl⟩)⟩, fun _ => ⟨TX7, 11, rfl⟩⟩
theorem vcl_6_54 (base : Nat) : pCL base 6 (54, 1, 30, 4) := fun _ q hq => by
  have hq2 : eMT1 30 = some q := hq
  cases (show eMT1 30 = some (em_30, 7) from rfl).symm.trans hq2
  exact ⟨yX6_readOne, cX6_readOne, (some .boolean), vm_30, ⟨by decide +kernel, Or.inr (Or.inl ⟨rfl, tbT 1207 (by decide +kernel) rfl, tbT 1209 (by decide +kernel) rfl, tbS (n := 5) 45 (by decide +kernel) rfl⟩)⟩, fun _ => ⟨TX6, 5, rfl⟩⟩
theorem vcl_6_57 (base : Nat) : pCL base 6 (57, 1, 38, 1) := fun _ q hq => by
  have hq2 : eMT1 38 = some q := hq
  cases (show eMT1 38 = some (em_38, 1) from rfl).symm.trans hq2
  exact ⟨yX7_keyword, cX7_keyword, (some .int), vm_38, ⟨by decide +kernel, Or.inr (Or.inl ⟨rfl, tbT 1212 (by decide +kernel) rfl, tbT 569 (by decide +kernel) rfl, tbT 570 (by decide +kernel) rfl⟩)⟩, fun _ => ⟨TX7, 11, rfl⟩⟩
theorem vcl_6_68 (base : Nat) : pCL base 6 (68, 1, 37, 2) := fun _ q hq => by
  have hq2 : eMT1 37 = some q := hq
  cases (show eMT1 37 = some (em_37, 2) from rfl).symm.trans hq2
  exact ⟨yX7_isSign, cX7_isSign, (some .boolean), vm_37, ⟨by decide +kernel, Or.inr (Or.inl ⟨rfl, tbT 1211 (by decide +kernel) rfl, tbT 679 (by decide +kernel) rfl, tbT 680 (by decide +kernel) rfl⟩)⟩, fun _ => ⟨TX7, 11, rfl⟩⟩
theorem vcl_6 (base : Nat) : ∀ x ∈ ecl__6, pCL base 6 x := List.forall_mem_cons.mpr ⟨(vcl_6_3 base), List.forall_mem_cons.mpr ⟨(vcl_6_28 base), List.forall_mem_cons.mpr ⟨(vcl_6_34 base), List.forall_mem_cons.mpr ⟨(vcl_6_37 base), List.forall_mem_cons.mpr ⟨(vcl_6_43 base), List.forall_mem_cons.mpr ⟨(vcl_6_50 base), List.forall_mem_cons.mpr ⟨(vcl_6_54 base), List.forall_mem_cons.mpr ⟨(vcl_6_57 base), List.forall_mem_cons.mpr ⟨(vcl_6_68 base), fun _ h => absurd h List.not_mem_nil⟩⟩⟩⟩⟩⟩⟩⟩⟩
theorem vcl_7_3 (base : Nat) : pCL base 7 (3, 6, 0, 1) := fun h => absurd h (by decide)
theorem vcl_7_19 (base : Nat) : pCL base 7 (19, 8, 0, 1) := fun h => absurd h (by decide)
theorem vcl_7_60 (base : Nat) : pCL base 7 (60, 1, 33, 1) := fun _ q hq => by
  have hq2 : eMT1 33 = some q := hq
  cases (show eMT1 33 = some (em_33, 2) from rfl).symm.trans hq2
  exact ⟨yX7_advance, cX7_advance, none, vm_33, ⟨by decide +kernel, Or.inr (Or.inl ⟨rfl, tbT 535 (by decide +kernel) rfl, tbT 536 (by decide +kernel) rfl, tbT 537 (by decide +kernel) rfl⟩)⟩, fun _ => ⟨TX7, 11, rfl⟩⟩
theorem vcl_7_63 (base : Nat) : pCL base 7 (63, 0, 179, 2) := fun _ q hq => by
  have hq2 : eMT1 179 = some q := hq
  cases (show eMT1 179 = some (em_179, 2) from rfl).symm.trans hq2
  exact ⟨yJ9_min_7cf53, cJ9_min_7cf53, (some .int), vm_179, ⟨by decide +kernel, Or.inl ⟨rfl, tbT 539 (by decide +kernel) rfl, tbT 540 (by decide +kernel) rfl⟩⟩, fun h => absurd h (by decide)⟩
theorem vcl_7 (base : Nat) : ∀ x ∈ ecl__7, pCL base 7 x := List.forall_mem_cons.mpr ⟨(vcl_7_3 base), List.forall_mem_cons.mpr ⟨(vcl_7_19 base), List.forall_mem_cons.mpr ⟨(vcl_7_60 base), List.forall_mem_cons.mpr ⟨(vcl_7_63 base), fun _ h => absurd h List.not_mem_nil⟩⟩⟩⟩
theorem vcl_8_3 (base : Nat) : pCL base 8 (3, 6, 0, 1) := fun h => absurd h (by decide)
theorem vcl_8_37 (base : Nat) : pCL base 8 (37, 0, 180, 2) := fun _ q hq => by
  have hq2 : eMT1 180 = some q := hq
  cases (show eMT1 180 = some (em_180, 4) from rfl).symm.trans hq2
  exact ⟨yJ7_fill_53178, cJ7_fill_53178, none, vm_180, ⟨by decide +kernel, Or.inl ⟨rfl, tbT 526 (by decide +kernel) rfl, tbT 200 (by decide +kernel) rfl⟩⟩, fun h => absurd h (by decide)⟩
theorem vcl_8_50 (base : Nat) : pCL base 8 (50, 7, 0, 5) := fun h => absurd h (by decide)
theorem vcl_8_56 (base : Nat) : pCL base 8 (56, 3, 72, 2) := fun _ q hq => by
  have hq2 : eMT1 72 = some q := hq
  cases (show eMT1 72 = some (em_72, 2) from rfl).symm.trans hq2
  exact ⟨yX11_isBelow, cX11_isBelow, (some .boolean), vm_72, ⟨by decide +kernel, Or.inr (Or.inr (Or.inr (Or.inl ⟨rfl, ⟨"WardrobeRow", fun s h => h.1 _ (List.mem_of_getElem? (i := 11) rfl)⟩, tbT 585 (by decide +kernel) rfl⟩)))⟩, fun h => absurd h (by decide)⟩
theorem vcl_8_64 (base : Nat) : pCL base 8 (64, 1, 44, 2) := fun _ q hq => by
  have hq2 : eMT1 44 = some q := hq
  cases (show eMT1 44 = some (em_44, 2) from rfl).symm.trans hq2
  exact ⟨yX8_manyOf, cX8_manyOf, (some .int), vm_44, ⟨by decide +kernel, Or.inr (Or.inl ⟨rfl, tbT 580 (by decide +kernel) rfl, tbT 581 (by decide +kernel) rfl, tbT 582 (by decide +kernel) rfl⟩)⟩, fun _ => ⟨TX8, 10, rfl⟩⟩
theorem vcl_8_82 (base : Nat) : pCL base 8 (82, 3, 53, 1) := fun _ q hq => by
  have hq2 : eMT1 53 = some q := hq
  cases (show eMT1 53 = some (em_53, 1) from rfl).symm.trans hq2
  exact ⟨yX11_bit, cX11_bit, (some .int), vm_53, ⟨by decide +kernel, Or.inr (Or.inr (Or.inr (Or.inl ⟨rfl, ⟨"WardrobeRow", fun s h => h.1 _ (List.mem_of_getElem? (i := 12) rfl)⟩, tbT 631 (by decide +kernel) rfl⟩)))⟩, fun h => absurd h (by decide)⟩
theorem vcl_8 (base : Nat) : ∀ x ∈ ecl__8, pCL base 8 x := List.forall_mem_cons.mpr ⟨(vcl_8_3 base), List.forall_mem_cons.mpr ⟨(vcl_8_37 base), List.forall_mem_cons.mpr ⟨(vcl_8_50 base), List.forall_mem_cons.mpr ⟨(vcl_8_56 base), List.forall_mem_cons.mpr ⟨(vcl_8_64 base), List.forall_mem_cons.mpr ⟨(vcl_8_82 base), fun _ h => absurd h List.not_mem_nil⟩⟩⟩⟩⟩⟩
theorem vcl_9_3 (base : Nat) : pCL base 9 (3, 6, 0, 1) := fun h => absurd h (by decide)
theorem vcl_9_11 (base : Nat) : pCL base 9 (11, 5, 39, 1) := fun _ q hq => by
  have hq2 : eMT1 39 = some q := hq
  cases (show eMT1 39 = some (em_39, 1) from rfl).symm.trans hq2
  exact ⟨yX8_init, cX8_init, none, vm_39, ⟨by decide +kernel, Or.inr (Or.inr (Or.inr (Or.inr (Or.inr ⟨rfl, ⟨"WardrobeRow", fun s h => h.1 _ (List.mem_of_getElem? (i := 13) rfl)⟩, tbT 145 (by decide +kernel) rfl, rfl⟩))))⟩, fun h => absurd h (by decide)⟩
theorem vcl_9_20 (base : Nat) : pCL base 9 (20, 2, 3, 1) := fun _ q hq => by
  have hq2 : eMT1 3 = some q := hq
  cases (show eMT1 3 = some (em_3, 1) from rfl).symm.trans hq2
  exact ⟨yX1_init, cX1_init, none, vm_3, ⟨by decide +kernel, Or.inr (Or.inr (Or.inl ⟨rfl, tbT 309 (by decide +kernel) rfl, tbT 196 (by decide +kernel) rfl, rfl⟩))⟩, fun h => absurd h (by decide)⟩
theorem vcl_9_25 (base : Nat) : pCL base 9 (25, 1, 43, 1) := fun _ q hq => by
  have hq2 : eMT1 43 = some q := hq
  cases (show eMT1 43 = some (em_43, 1) from rfl).symm.trans hq2
  exact ⟨yX8_forget, cX8_forget, none, vm_43, ⟨by decide +kernel, Or.inr (Or.inl ⟨rfl, tbT 522 (by decide +kernel) rfl, tbT 523 (by decide +kernel) rfl, tbT 524 (by decide +kernel) rfl⟩)⟩, fun _ => ⟨TX8, 10, rfl⟩⟩
theorem vcl_9_28 (base : Nat) : pCL base 9 (28, 1, 6, 1) := fun _ q hq => by
  have hq2 : eMT1 6 = some q := hq
  cases (show eMT1 6 = some (em_6, 1) from rfl).symm.trans hq2
  exact ⟨yX1_forget, cX1_forget, none, vm_6, ⟨by decide +kernel, Or.inr (Or.inl ⟨rfl, tbT 527 (by decide +kernel) rfl, tbT 528 (by decide +kernel) rfl, tbT 529 (by decide +kernel) rfl⟩)⟩, fun _ => ⟨TX1, 10, rfl⟩⟩
theorem vcl_9_29 (base : Nat) : pCL base 9 (29, 1, 35, 2) := fun _ q hq => by
  have hq2 : eMT1 35 = some q := hq
  cases (show eMT1 35 = some (em_35, 2) from rfl).symm.trans hq2
  exact ⟨yX7_begin, cX7_begin, none, vm_35, ⟨by decide +kernel, Or.inr (Or.inl ⟨rfl, tbT 531 (by decide +kernel) rfl, tbT 532 (by decide +kernel) rfl, tbT 533 (by decide +kernel) rfl⟩)⟩, fun _ => ⟨TX7, 11, rfl⟩⟩
theorem vcl_9 (base : Nat) : ∀ x ∈ ecl__9, pCL base 9 x := List.forall_mem_cons.mpr ⟨(vcl_9_3 base), List.forall_mem_cons.mpr ⟨(vcl_9_11 base), List.forall_mem_cons.mpr ⟨(vcl_9_20 base), List.forall_mem_cons.mpr ⟨(vcl_9_25 base), List.forall_mem_cons.mpr ⟨(vcl_9_28 base), List.forall_mem_cons.mpr ⟨(vcl_9_29 base), fun _ h => absurd h List.not_mem_nil⟩⟩⟩⟩⟩⟩
theorem vcl_10_3 (base : Nat) : pCL base 10 (3, 6, 0, 1) := fun h => absurd h (by decide)
theorem vcl_10 (base : Nat) : ∀ x ∈ ecl__10, pCL base 10 x := List.forall_mem_cons.mpr ⟨(vcl_10_3 base), fun _ h => absurd h List.not_mem_nil⟩
theorem vcl_11_1 (base : Nat) : pCL base 11 (1, 6, 0, 1) := fun h => absurd h (by decide)
theorem vcl_11_9 (base : Nat) : pCL base 11 (9, 2, 32, 1) := fun _ q hq => by
  have hq2 : eMT1 32 = some q := hq
  cases (show eMT1 32 = some (em_32, 2) from rfl).symm.trans hq2
  exact ⟨yX7_init, cX7_init, none, vm_32, ⟨by decide +kernel, Or.inr (Or.inr (Or.inl ⟨rfl, tbT 36 (by decide +kernel) rfl, tbT 37 (by decide +kernel) rfl, rfl⟩))⟩, fun h => absurd h (by decide)⟩
theorem vcl_11_18 (base : Nat) : pCL base 11 (18, 5, 39, 1) := fun _ q hq => by
  have hq2 : eMT1 39 = some q := hq
  cases (show eMT1 39 = some (em_39, 1) from rfl).symm.trans hq2
  exact ⟨yX8_init, cX8_init, none, vm_39, ⟨by decide +kernel, Or.inr (Or.inr (Or.inr (Or.inr (Or.inr ⟨rfl, ⟨"WardrobeRow", fun s h => h.1 _ (List.mem_of_getElem? (i := 0) rfl)⟩, tbT 145 (by decide +kernel) rfl, rfl⟩))))⟩, fun h => absurd h (by decide)⟩
theorem vcl_11_25 (base : Nat) : pCL base 11 (25, 2, 3, 1) := fun _ q hq => by
  have hq2 : eMT1 3 = some q := hq
  cases (show eMT1 3 = some (em_3, 1) from rfl).symm.trans hq2
  exact ⟨yX1_init, cX1_init, none, vm_3, ⟨by decide +kernel, Or.inr (Or.inr (Or.inl ⟨rfl, tbT 195 (by decide +kernel) rfl, tbT 196 (by decide +kernel) rfl, rfl⟩))⟩, fun h => absurd h (by decide)⟩
theorem vcl_11_35 (base : Nat) : pCL base 11 (35, 2, 20, 1) := fun _ q hq => by
  have hq2 : eMT1 20 = some q := hq
  cases (show eMT1 20 = some (em_20, 2) from rfl).symm.trans hq2
  exact ⟨yX5_init, cX5_init, none, vm_20, ⟨by decide +kernel, Or.inr (Or.inr (Or.inl ⟨rfl, tbT 260 (by decide +kernel) rfl, tbT 261 (by decide +kernel) rfl, rfl⟩))⟩, fun h => absurd h (by decide)⟩
theorem vcl_11_42 (base : Nat) : pCL base 11 (42, 5, 26, 1) := fun _ q hq => by
  have hq2 : eMT1 26 = some q := hq
  cases (show eMT1 26 = some (em_26, 1) from rfl).symm.trans hq2
  exact ⟨yX6_init, cX6_init, none, vm_26, ⟨by decide +kernel, Or.inr (Or.inr (Or.inr (Or.inr (Or.inr ⟨rfl, ⟨"WardrobeRow", fun s h => h.1 _ (List.mem_of_getElem? (i := 1) rfl)⟩, tbT 280 (by decide +kernel) rfl, rfl⟩))))⟩, fun h => absurd h (by decide)⟩
theorem vcl_11_52 (base : Nat) : pCL base 11 (52, 5, 45, 1) := fun _ q hq => by
  have hq2 : eMT1 45 = some q := hq
  cases (show eMT1 45 = some (em_45, 1) from rfl).symm.trans hq2
  exact ⟨yX9_init, cX9_init, none, vm_45, ⟨by decide +kernel, Or.inr (Or.inr (Or.inr (Or.inr (Or.inr ⟨rfl, ⟨"WardrobeRow", fun s h => h.1 _ (List.mem_of_getElem? (i := 2) rfl)⟩, tbT 303 (by decide +kernel) rfl, rfl⟩))))⟩, fun h => absurd h (by decide)⟩
theorem vcl_11_59 (base : Nat) : pCL base 11 (59, 5, 0, 1) := fun _ q hq => by
  have hq2 : eMT1 0 = some q := hq
  cases (show eMT1 0 = some (em_0, 1) from rfl).symm.trans hq2
  exact ⟨yX0_init, cX0_init, none, vm_0, ⟨by decide +kernel, Or.inr (Or.inr (Or.inr (Or.inr (Or.inr ⟨rfl, ⟨"WardrobeRow", fun s h => h.1 _ (List.mem_of_getElem? (i := 3) rfl)⟩, tbT 322 (by decide +kernel) rfl, rfl⟩))))⟩, fun h => absurd h (by decide)⟩
theorem vcl_11_66 (base : Nat) : pCL base 11 (66, 5, 47, 1) := fun _ q hq => by
  have hq2 : eMT1 47 = some q := hq
  cases (show eMT1 47 = some (em_47, 1) from rfl).symm.trans hq2
  exact ⟨yX10_init, cX10_init, none, vm_47, ⟨by decide +kernel, Or.inr (Or.inr (Or.inr (Or.inr (Or.inr ⟨rfl, ⟨"WardrobeRow", fun s h => h.1 _ (List.mem_of_getElem? (i := 4) rfl)⟩, tbT 364 (by decide +kernel) rfl, rfl⟩))))⟩, fun h => absurd h (by decide)⟩
theorem vcl_11_73 (base : Nat) : pCL base 11 (73, 5, 10, 1) := fun _ q hq => by
  have hq2 : eMT1 10 = some q := hq
  cases (show eMT1 10 = some (em_10, 1) from rfl).symm.trans hq2
  exact ⟨yX3_init, cX3_init, none, vm_10, ⟨by decide +kernel, Or.inr (Or.inr (Or.inr (Or.inr (Or.inr ⟨rfl, ⟨"WardrobeRow", fun s h => h.1 _ (List.mem_of_getElem? (i := 5) rfl)⟩, tbT 392 (by decide +kernel) rfl, rfl⟩))))⟩, fun h => absurd h (by decide)⟩
theorem vcl_11_80 (base : Nat) : pCL base 11 (80, 5, 12, 1) := fun _ q hq => by
  have hq2 : eMT1 12 = some q := hq
  cases (show eMT1 12 = some (em_12, 1) from rfl).symm.trans hq2
  exact ⟨yX4_init, cX4_init, none, vm_12, ⟨by decide +kernel, Or.inr (Or.inr (Or.inr (Or.inr (Or.inr ⟨rfl, ⟨"WardrobeRow", fun s h => h.1 _ (List.mem_of_getElem? (i := 6) rfl)⟩, tbT 405 (by decide +kernel) rfl, rfl⟩))))⟩, fun h => absurd h (by decide)⟩
theorem vcl_11_87 (base : Nat) : pCL base 11 (87, 5, 9, 1) := fun _ q hq => by
  have hq2 : eMT1 9 = some q := hq
  cases (show eMT1 9 = some (em_9, 1) from rfl).symm.trans hq2
  exact ⟨yX2_init, cX2_init, none, vm_9, ⟨by decide +kernel, Or.inr (Or.inr (Or.inr (Or.inr (Or.inr ⟨rfl, ⟨"WardrobeRow", fun s h => h.1 _ (List.mem_of_getElem? (i := 7) rfl)⟩, tbT 441 (by decide +kernel) rfl, rfl⟩))))⟩, fun h => absurd h (by decide)⟩
theorem vcl_11_108 (base : Nat) : pCL base 11 (108, 1, 34, 2) := fun _ q hq => by
  have hq2 : eMT1 34 = some q := hq
  cases (show eMT1 34 = some (em_34, 3) from rfl).symm.trans hq2
  exact ⟨yX7_append, cX7_append, none, vm_34, ⟨by decide +kernel, Or.inr (Or.inl ⟨rfl, tbT 506 (by decide +kernel) rfl, tbT 507 (by decide +kernel) rfl, tbT 508 (by decide +kernel) rfl⟩)⟩, fun _ => ⟨TX7, 11, rfl⟩⟩
theorem vcl_11_112 (base : Nat) : pCL base 11 (112, 1, 46, 2) := fun _ q hq => by
  have hq2 : eMT1 46 = some q := hq
  cases (show eMT1 46 = some (em_46, 3) from rfl).symm.trans hq2
  exact ⟨yX9_readText, cX9_readText, (some .int), vm_46, ⟨by decide +kernel, Or.inr (Or.inl ⟨rfl, tbT 518 (by decide +kernel) rfl, tbT 519 (by decide +kernel) rfl, tbT 520 (by decide +kernel) rfl⟩)⟩, fun _ => ⟨TX9, 2, rfl⟩⟩
theorem vcl_11_122 (base : Nat) : pCL base 11 (122, 1, 42, 2) := fun _ q hq => by
  have hq2 : eMT1 42 = some q := hq
  cases (show eMT1 42 = some (em_42, 2) from rfl).symm.trans hq2
  exact ⟨yX8_copyFrom, cX8_copyFrom, none, vm_42, ⟨by decide +kernel, Or.inr (Or.inl ⟨rfl, tbT 682 (by decide +kernel) rfl, tbT 683 (by decide +kernel) rfl, tbT 684 (by decide +kernel) rfl⟩)⟩, fun _ => ⟨TX8, 10, rfl⟩⟩
theorem vcl_11_129 (base : Nat) : pCL base 11 (129, 1, 5, 2) := fun _ q hq => by
  have hq2 : eMT1 5 = some q := hq
  cases (show eMT1 5 = some (em_5, 2) from rfl).symm.trans hq2
  exact ⟨yX1_copyFrom, cX1_copyFrom, none, vm_5, ⟨by decide +kernel, Or.inr (Or.inl ⟨rfl, tbT 689 (by decide +kernel) rfl, tbT 690 (by decide +kernel) rfl, tbT 691 (by decide +kernel) rfl⟩)⟩, fun _ => ⟨TX1, 10, rfl⟩⟩
theorem vcl_11_132 (base : Nat) : pCL base 11 (132, 1, 28, 1) := fun _ q hq => by
  have hq2 : eMT1 28 = some q := hq
  cases (show eMT1 28 = some (em_28, 1) from rfl).symm.trans hq2
  exact ⟨yX6_forget, cX6_forget, none, vm_28, ⟨by decide +kernel, Or.inr (Or.inl ⟨rfl, tbT 694 (by decide +kernel) rfl, tbT 695 (by decide +kernel) rfl, tbT 696 (by decide +kernel) rfl⟩)⟩, fun _ => ⟨TX6, 5, rfl⟩⟩
theorem vcl_11_135 (base : Nat) : pCL base 11 (135, 1, 22, 1) := fun _ q hq => by
  have hq2 : eMT1 22 = some q := hq
  cases (show eMT1 22 = some (em_22, 1) from rfl).symm.trans hq2
  exact ⟨yX5_forget, cX5_forget, none, vm_22, ⟨by decide +kernel, Or.inr (Or.inl ⟨rfl, tbT 698 (by decide +kernel) rfl, tbT 699 (by decide +kernel) rfl, tbT 700 (by decide +kernel) rfl⟩)⟩, fun _ => ⟨TX5, 3, rfl⟩⟩
theorem vcl_11_139 (base : Nat) : pCL base 11 (139, 1, 75, 2) := fun _ q hq => by
  have hq2 : eMT1 75 = some q := hq
  cases (show eMT1 75 = some (em_75, 2) from rfl).symm.trans hq2
  exact ⟨yX11_isRoom, cX11_isRoom, (some .boolean), vm_75, ⟨by decide +kernel, Or.inr (Or.inl ⟨rfl, tbT 761 (by decide +kernel) rfl, tbT 763 (by decide +kernel) rfl, tbS (n := 17) 14 (by decide +kernel) rfl⟩)⟩, fun _ => ⟨TX11, 17, rfl⟩⟩
theorem vcl_11_160 (base : Nat) : pCL base 11 (160, 0, 69, 2) := fun _ q hq => by
  have hq2 : eMT1 69 = some q := hq
  cases (show eMT1 69 = some (em_69, 2) from rfl).symm.trans hq2
  exact ⟨yX11_has, cX11_has, (some .boolean), vm_69, ⟨by decide +kernel, Or.inl ⟨rfl, tbT 738 (by decide +kernel) rfl, tbT 638 (by decide +kernel) rfl⟩⟩, fun h => absurd h (by decide)⟩
theorem vcl_11_171 (base : Nat) : pCL base 11 (171, 1, 73, 2) := fun _ q hq => by
  have hq2 : eMT1 73 = some q := hq
  cases (show eMT1 73 = some (em_73, 2) from rfl).symm.trans hq2
  exact ⟨yX11_isOwner, cX11_isOwner, (some .boolean), vm_73, ⟨by decide +kernel, Or.inr (Or.inl ⟨rfl, tbT 710 (by decide +kernel) rfl, tbT 712 (by decide +kernel) rfl, tbS (n := 17) 12 (by decide +kernel) rfl⟩)⟩, fun _ => ⟨TX11, 17, rfl⟩⟩
theorem vcl_11_180 (base : Nat) : pCL base 11 (180, 1, 8, 2) := fun _ q hq => by
  have hq2 : eMT1 8 = some q := hq
  cases (show eMT1 8 = some (em_8, 4) from rfl).symm.trans hq2
  exact ⟨yX1_roomsOf, cX1_roomsOf, (some .int), vm_8, ⟨by decide +kernel, Or.inr (Or.inl ⟨rfl, tbT 721 (by decide +kernel) rfl, tbT 722 (by decide +kernel) rfl, tbT 723 (by decide +kernel) rfl⟩)⟩, fun _ => ⟨TX1, 10, rfl⟩⟩
theorem vcl_11_183 (base : Nat) : pCL base 11 (183, 1, 40, 1) := fun _ q hq => by
  have hq2 : eMT1 40 = some q := hq
  cases (show eMT1 40 = some (em_40, 1) from rfl).symm.trans hq2
  exact ⟨yX8_allRooms, cX8_allRooms, (some .int), vm_40, ⟨by decide +kernel, Or.inr (Or.inl ⟨rfl, tbT 726 (by decide +kernel) rfl, tbT 727 (by decide +kernel) rfl, tbT 728 (by decide +kernel) rfl⟩)⟩, fun _ => ⟨TX8, 10, rfl⟩⟩
theorem vcl_11_196 (base : Nat) : pCL base 11 (196, 1, 74, 2) := fun _ q hq => by
  have hq2 : eMT1 74 = some q := hq
  cases (show eMT1 74 = some (em_74, 2) from rfl).symm.trans hq2
  exact ⟨yX11_isPassage, cX11_isPassage, (some .boolean), vm_74, ⟨by decide +kernel, Or.inr (Or.inl ⟨rfl, tbT 734 (by decide +kernel) rfl, tbT 736 (by decide +kernel) rfl, tbS (n := 17) 13 (by decide +kernel) rfl⟩)⟩, fun _ => ⟨TX11, 17, rfl⟩⟩
theorem vcl_11_220 (base : Nat) : pCL base 11 (220, 1, 4, 1) := fun _ q hq => by
  have hq2 : eMT1 4 = some q := hq
  cases (show eMT1 4 = some (em_4, 3) from rfl).symm.trans hq2
  exact ⟨yX1_allGoings, cX1_allGoings, (some .int), vm_4, ⟨by decide +kernel, Or.inr (Or.inl ⟨rfl, tbT 743 (by decide +kernel) rfl, tbT 744 (by decide +kernel) rfl, tbT 745 (by decide +kernel) rfl⟩)⟩, fun _ => ⟨TX1, 10, rfl⟩⟩
theorem vcl_11_223 (base : Nat) : pCL base 11 (223, 1, 44, 2) := fun _ q hq => by
  have hq2 : eMT1 44 = some q := hq
  cases (show eMT1 44 = some (em_44, 2) from rfl).symm.trans hq2
  exact ⟨yX8_manyOf, cX8_manyOf, (some .int), vm_44, ⟨by decide +kernel, Or.inr (Or.inl ⟨rfl, tbT 714 (by decide +kernel) rfl, tbT 581 (by decide +kernel) rfl, tbT 582 (by decide +kernel) rfl⟩)⟩, fun _ => ⟨TX8, 10, rfl⟩⟩
theorem vcl_11_229 (base : Nat) : pCL base 11 (229, 0, 177, 1) := fun _ q hq => by
  have hq2 : eMT1 177 = some q := hq
  cases (show eMT1 177 = some (em_177, 1) from rfl).symm.trans hq2
  exact ⟨yJ6_bitCount_0f7a4, cJ6_bitCount_0f7a4, (some .int), vm_177, ⟨by decide +kernel, Or.inl ⟨rfl, tbT 751 (by decide +kernel) rfl, tbT 752 (by decide +kernel) rfl⟩⟩, fun h => absurd h (by decide)⟩
theorem vcl_11_234 (base : Nat) : pCL base 11 (234, 1, 24, 2) := fun _ q hq => by
  have hq2 : eMT1 24 = some q := hq
  cases (show eMT1 24 = some (em_24, 2) from rfl).symm.trans hq2
  exact ⟨yX5_prepare, cX5_prepare, none, vm_24, ⟨by decide +kernel, Or.inr (Or.inl ⟨rfl, tbT 765 (by decide +kernel) rfl, tbT 766 (by decide +kernel) rfl, tbT 767 (by decide +kernel) rfl⟩)⟩, fun _ => ⟨TX5, 3, rfl⟩⟩
theorem vcl_11_241 (base : Nat) : pCL base 11 (241, 1, 78, 2) := fun _ q hq => by
  have hq2 : eMT1 78 = some q := hq
  cases (show eMT1 78 = some (em_78, 2) from rfl).symm.trans hq2
  exact ⟨yX11_keptIfDone, cX11_keptIfDone, (some .int), vm_78, ⟨by decide +kernel, Or.inr (Or.inl ⟨rfl, tbT 788 (by decide +kernel) rfl, tbT 790 (by decide +kernel) rfl, tbS (n := 17) 16 (by decide +kernel) rfl⟩)⟩, fun _ => ⟨TX11, 17, rfl⟩⟩
theorem vcl_11_244 (base : Nat) : pCL base 11 (244, 1, 21, 1) := fun _ q hq => by
  have hq2 : eMT1 21 = some q := hq
  cases (show eMT1 21 = some (em_21, 1) from rfl).symm.trans hq2
  exact ⟨yX5_confirm, cX5_confirm, none, vm_21, ⟨by decide +kernel, Or.inr (Or.inl ⟨rfl, tbT 792 (by decide +kernel) rfl, tbT 793 (by decide +kernel) rfl, tbT 794 (by decide +kernel) rfl⟩)⟩, fun _ => ⟨TX5, 3, rfl⟩⟩
theorem vcl_11_247 (base : Nat) : pCL base 11 (247, 1, 49, 3) := fun _ q hq => by
  have hq2 : eMT1 49 = some q := hq
  cases (show eMT1 49 = some (em_49, 3) from rfl).symm.trans hq2
  exact ⟨yX11_areTwoOwners, cX11_areTwoOwners, (some .boolean), vm_49, ⟨by decide +kernel, Or.inr (Or.inl ⟨rfl, tbT 804 (by decide +kernel) rfl, tbT 806 (by decide +kernel) rfl, tbS (n := 17) 17 (by decide +kernel) rfl⟩)⟩, fun _ => ⟨TX11, 17, rfl⟩⟩
theorem vcl_11_254 (base : Nat) : pCL base 11 (254, 0, 77, 1) := fun _ q hq => by
  have hq2 : eMT1 77 = some q := hq
  cases (show eMT1 77 = some (em_77, 1) from rfl).symm.trans hq2
  exact ⟨yX11_isSwitch, cX11_isSwitch, (some .boolean), vm_77, ⟨by decide +kernel, Or.inl ⟨rfl, tbT 816 (by decide +kernel) rfl, tbT 817 (by decide +kernel) rfl⟩⟩, fun h => absurd h (by decide)⟩
theorem vcl_11_273 (base : Nat) : pCL base 11 (273, 1, 7, 3) := fun _ q hq => by
  have hq2 : eMT1 7 = some q := hq
  cases (show eMT1 7 = some (em_7, 6) from rfl).symm.trans hq2
  exact ⟨yX1_passMinutes, cX1_passMinutes, (some .int), vm_7, ⟨by decide +kernel, Or.inr (Or.inl ⟨rfl, tbT 864 (by decide +kernel) rfl, tbT 865 (by decide +kernel) rfl, tbT 866 (by decide +kernel) rfl⟩)⟩, fun _ => ⟨TX1, 10, rfl⟩⟩
theorem vcl_11_277 (base : Nat) : pCL base 11 (277, 1, 25, 2) := fun _ q hq => by
  have hq2 : eMT1 25 = some q := hq
  cases (show eMT1 25 = some (em_25, 2) from rfl).symm.trans hq2
  exact ⟨yX5_takeBack, cX5_takeBack, (some .int), vm_25, ⟨by decide +kernel, Or.inr (Or.inl ⟨rfl, tbT 873 (by decide +kernel) rfl, tbT 874 (by decide +kernel) rfl, tbT 875 (by decide +kernel) rfl⟩)⟩, fun _ => ⟨TX5, 3, rfl⟩⟩
theorem vcl_11_294 (base : Nat) : pCL base 11 (294, 0, 72, 2) := fun _ q hq => by
  have hq2 : eMT1 72 = some q := hq
  cases (show eMT1 72 = some (em_72, 2) from rfl).symm.trans hq2
  exact ⟨yX11_isBelow, cX11_isBelow, (some .boolean), vm_72, ⟨by decide +kernel, Or.inl ⟨rfl, tbT 715 (by decide +kernel) rfl, tbT 585 (by decide +kernel) rfl⟩⟩, fun h => absurd h (by decide)⟩
theorem vcl_11_313 (base : Nat) : pCL base 11 (313, 1, 76, 1) := fun _ q hq => by
  have hq2 : eMT1 76 = some q := hq
  cases (show eMT1 76 = some (em_76, 3) from rfl).symm.trans hq2
  exact ⟨yX11_isRowOfRooms, cX11_isRowOfRooms, (some .boolean), vm_76, ⟨by decide +kernel, Or.inr (Or.inl ⟨rfl, tbT 979 (by decide +kernel) rfl, tbT 981 (by decide +kernel) rfl, tbS (n := 17) 22 (by decide +kernel) rfl⟩)⟩, fun _ => ⟨TX11, 17, rfl⟩⟩
theorem vcl_11_326 (base : Nat) : pCL base 11 (326, 0, 53, 1) := fun _ q hq => by
  have hq2 : eMT1 53 = some q := hq
  cases (show eMT1 53 = some (em_53, 1) from rfl).symm.trans hq2
  exact ⟨yX11_bit, cX11_bit, (some .int), vm_53, ⟨by decide +kernel, Or.inl ⟨rfl, tbT 993 (by decide +kernel) rfl, tbT 631 (by decide +kernel) rfl⟩⟩, fun h => absurd h (by decide)⟩
theorem vcl_11_339 (base : Nat) : pCL base 11 (339, 1, 11, 4) := fun _ q hq => by
  have hq2 : eMT1 11 = some q := hq
  cases (show eMT1 11 = some (em_11, 6) from rfl).symm.trans hq2
  exact ⟨yX3_burntIn, cX3_burntIn, (some .int), vm_11, ⟨by decide +kernel, Or.inr (Or.inl ⟨rfl, tbT 1009 (by decide +kernel) rfl, tbT 1010 (by decide +kernel) rfl, tbT 1011 (by decide +kernel) rfl⟩)⟩, fun _ => ⟨TX3, 2, rfl⟩⟩
theorem vcl_11_345 (base : Nat) : pCL base 11 (345, 1, 19, 3) := fun _ q hq => by
  have hq2 : eMT1 19 = some q := hq
  cases (show eMT1 19 = some (em_19, 6) from rfl).symm.trans hq2
  exact ⟨yX4_trade, cX4_trade, none, vm_19, ⟨by decide +kernel, Or.inr (Or.inl ⟨rfl, tbT 1035 (by decide +kernel) rfl, tbT 1036 (by decide +kernel) rfl, tbT 1037 (by decide +kernel) rfl⟩)⟩, fun _ => ⟨TX4, 8, rfl⟩⟩
theorem vcl_11_355 (base : Nat) : pCL base 11 (355, 1, 15, 3) := fun _ q hq => by
  have hq2 : eMT1 15 = some q := hq
  cases (show eMT1 15 = some (em_15, 4) from rfl).symm.trans hq2
  exact ⟨yX4_findPrices, cX4_findPrices, (some .int), vm_15, ⟨by decide +kernel, Or.inr (Or.inl ⟨rfl, tbT 1071 (by decide +kernel) rfl, tbT 1072 (by decide +kernel) rfl, tbT 1073 (by decide +kernel) rfl⟩)⟩, fun _ => ⟨TX4, 8, rfl⟩⟩
theorem vcl_11_387 (base : Nat) : pCL base 11 (387, 1, 2, 3) := fun _ q hq => by
  have hq2 : eMT1 2 = some q := hq
  cases (show eMT1 2 = some (em_2, 4) from rfl).symm.trans hq2
  exact ⟨yX0_readText, cX0_readText, (some .boolean), vm_2, ⟨by decide +kernel, Or.inr (Or.inl ⟨rfl, tbT 1136 (by decide +kernel) rfl, tbT 1137 (by decide +kernel) rfl, tbT 1138 (by decide +kernel) rfl⟩)⟩, fun _ => ⟨TX0, 10, rfl⟩⟩
theorem vcl_11_390 (base : Nat) : pCL base 11 (390, 1, 1, 3) := fun _ q hq => by
  have hq2 : eMT1 1 = some q := hq
  cases (show eMT1 1 = some (em_1, 5) from rfl).symm.trans hq2
  exact ⟨yX0_live, cX0_live, (some .int), vm_1, ⟨by decide +kernel, Or.inr (Or.inl ⟨rfl, tbT 1170 (by decide +kernel) rfl, tbT 1171 (by decide +kernel) rfl, tbT 1172 (by decide +kernel) rfl⟩)⟩, fun _ => ⟨TX0, 10, rfl⟩⟩
theorem vcl_11_408 (base : Nat) : pCL base 11 (408, 1, 31, 3) := fun _ q hq => by
  have hq2 : eMT1 31 = some q := hq
  cases (show eMT1 31 = some (em_31, 3) from rfl).symm.trans hq2
  exact ⟨yX6_readText, cX6_readText, (some .boolean), vm_31, ⟨by decide +kernel, Or.inr (Or.inl ⟨rfl, tbT 1197 (by decide +kernel) rfl, tbT 1198 (by decide +kernel) rfl, tbT 1199 (by decide +kernel) rfl⟩)⟩, fun _ => ⟨TX6, 5, rfl⟩⟩
theorem vcl_11_409 (base : Nat) : pCL base 11 (409, 1, 27, 2) := fun _ q hq => by
  have hq2 : eMT1 27 = some q := hq
  cases (show eMT1 27 = some (em_27, 2) from rfl).symm.trans hq2
  exact ⟨yX6_copyFrom, cX6_copyFrom, none, vm_27, ⟨by decide +kernel, Or.inr (Or.inl ⟨rfl, tbT 1230 (by decide +kernel) rfl, tbT 1231 (by decide +kernel) rfl, tbT 1232 (by decide +kernel) rfl⟩)⟩, fun _ => ⟨TX6, 5, rfl⟩⟩
theorem vcl_11 (base : Nat) : ∀ x ∈ ecl__11, pCL base 11 x := List.forall_mem_cons.mpr ⟨(vcl_11_1 base), List.forall_mem_cons.mpr ⟨(vcl_11_9 base), List.forall_mem_cons.mpr ⟨(vcl_11_18 base), List.forall_mem_cons.mpr ⟨(vcl_11_25 base), List.forall_mem_cons.mpr ⟨(vcl_11_35 base), List.forall_mem_cons.mpr ⟨(vcl_11_42 base), List.forall_mem_cons.mpr ⟨(vcl_11_52 base), List.forall_mem_cons.mpr ⟨(vcl_11_59 base), List.forall_mem_cons.mpr ⟨(vcl_11_66 base), List.forall_mem_cons.mpr ⟨(vcl_11_73 base), List.forall_mem_cons.mpr ⟨(vcl_11_80 base), List.forall_mem_cons.mpr ⟨(vcl_11_87 base), List.forall_mem_cons.mpr ⟨(vcl_11_108 base), List.forall_mem_cons.mpr ⟨(vcl_11_112 base), List.forall_mem_cons.mpr ⟨(vcl_11_122 base), List.forall_mem_cons.mpr ⟨(vcl_11_129 base), List.forall_mem_cons.mpr ⟨(vcl_11_132 base), List.forall_mem_cons.mpr ⟨(vcl_11_135 base), List.forall_mem_cons.mpr ⟨(vcl_11_139 base), List.forall_mem_cons.mpr ⟨(vcl_11_160 base), List.forall_mem_cons.mpr ⟨(vcl_11_171 base), List.forall_mem_cons.mpr ⟨(vcl_11_180 base), List.forall_mem_cons.mpr ⟨(vcl_11_183 base), List.forall_mem_cons.mpr ⟨(vcl_11_196 base), List.forall_mem_cons.mpr ⟨(vcl_11_220 base), List.forall_mem_cons.mpr ⟨(vcl_11_223 base), List.forall_mem_cons.mpr ⟨(vcl_11_229 base), List.forall_mem_cons.mpr ⟨(vcl_11_234 base), List.forall_mem_cons.mpr ⟨(vcl_11_241 base), List.forall_mem_cons.mpr ⟨(vcl_11_244 base), List.forall_mem_cons.mpr ⟨(vcl_11_247 base), List.forall_mem_cons.mpr ⟨(vcl_11_254 base), List.forall_mem_cons.mpr ⟨(vcl_11_273 base), List.forall_mem_cons.mpr ⟨(vcl_11_277 base), List.forall_mem_cons.mpr ⟨(vcl_11_294 base), List.forall_mem_cons.mpr ⟨(vcl_11_313 base), List.forall_mem_cons.mpr ⟨(vcl_11_326 base), List.forall_mem_cons.mpr ⟨(vcl_11_339 base), List.forall_mem_cons.mpr ⟨(vcl_11_345 base), List.forall_mem_cons.mpr ⟨(vcl_11_355 base), List.forall_mem_cons.mpr ⟨(vcl_11_387 base), List.forall_mem_cons.mpr ⟨(vcl_11_390 base), List.forall_mem_cons.mpr ⟨(vcl_11_408 base), List.forall_mem_cons.mpr ⟨(vcl_11_409 base), fun _ h => absurd h List.not_mem_nil⟩⟩⟩⟩⟩⟩⟩⟩⟩⟩⟩⟩⟩⟩⟩⟩⟩⟩⟩⟩⟩⟩⟩⟩⟩⟩⟩⟩⟩⟩⟩⟩⟩⟩⟩⟩⟩⟩⟩⟩⟩⟩⟩⟩
theorem vcl_12_10 (base : Nat) : pCL base 12 (10, 1, 128, 2) := fun _ q hq => by
  have hq2 : eMT1 128 = some q := hq
  cases (show eMT1 128 = some (em_128, 3) from rfl).symm.trans hq2
  exact ⟨yX12_four, cX12_four, none, vm_128, ⟨by decide +kernel, Or.inr (Or.inl ⟨rfl, tbT 1368 (by decide +kernel) rfl, tbT 1370 (by decide +kernel) rfl, tbS (n := 55) 50 (by decide +kernel) rfl⟩)⟩, fun _ => ⟨TX12, 55, rfl⟩⟩
theorem vcl_12_27 (base : Nat) : pCL base 12 (27, 6, 0, 1) := fun h => absurd h (by decide)
theorem vcl_12_174 (base : Nat) : pCL base 12 (174, 1, 151, 1) := fun _ q hq => by
  have hq2 : eMT1 151 = some q := hq
  cases (show eMT1 151 = some (em_151, 1) from rfl).symm.trans hq2
  exact ⟨yX12_peek, cX12_peek, (some .int), vm_151, ⟨by decide +kernel, Or.inr (Or.inl ⟨rfl, tbT 1591 (by decide +kernel) rfl, tbT 1593 (by decide +kernel) rfl, tbS (n := 55) 53 (by decide +kernel) rfl⟩)⟩, fun _ => ⟨TX12, 55, rfl⟩⟩
theorem vcl_12_207 (base : Nat) : pCL base 12 (207, 1, 137, 2) := fun _ q hq => by
  have hq2 : eMT1 137 = some q := hq
  cases (show eMT1 137 = some (em_137, 2) from rfl).symm.trans hq2
  exact ⟨yX12_isSign, cX12_isSign, (some .boolean), vm_137, ⟨by decide +kernel, Or.inr (Or.inl ⟨rfl, tbT 1659 (by decide +kernel) rfl, tbT 1661 (by decide +kernel) rfl, tbS (n := 55) 67 (by decide +kernel) rfl⟩)⟩, fun _ => ⟨TX12, 55, rfl⟩⟩
theorem vcl_12_210 (base : Nat) : pCL base 12 (210, 1, 110, 2) := fun _ q hq => by
  have hq2 : eMT1 110 = some q := hq
  cases (show eMT1 110 = some (em_110, 2) from rfl).symm.trans hq2
  exact ⟨yX12_bad, cX12_bad, (some .boolean), vm_110, ⟨by decide +kernel, Or.inr (Or.inl ⟨rfl, tbT 1609 (by decide +kernel) rfl, tbT 1611 (by decide +kernel) rfl, tbS (n := 55) 56 (by decide +kernel) rfl⟩)⟩, fun _ => ⟨TX12, 55, rfl⟩⟩
theorem vcl_12_213 (base : Nat) : pCL base 12 (213, 1, 162, 1) := fun _ q hq => by
  have hq2 : eMT1 162 = some q := hq
  cases (show eMT1 162 = some (em_162, 4) from rfl).symm.trans hq2
  exact ⟨yX12_skip, cX12_skip, none, vm_162, ⟨by decide +kernel, Or.inr (Or.inl ⟨rfl, tbT 1587 (by decide +kernel) rfl, tbT 1589 (by decide +kernel) rfl, tbS (n := 55) 52 (by decide +kernel) rfl⟩)⟩, fun _ => ⟨TX12, 55, rfl⟩⟩
theorem vcl_12_216 (base : Nat) : pCL base 12 (216, 0, 133, 3) := fun _ q hq => by
  have hq2 : eMT1 133 = some q := hq
  cases (show eMT1 133 = some (em_133, 3) from rfl).symm.trans hq2
  exact ⟨yX12_isIn, cX12_isIn, (some .boolean), vm_133, ⟨by decide +kernel, Or.inl ⟨rfl, tbT 1652 (by decide +kernel) rfl, tbT 1653 (by decide +kernel) rfl⟩⟩, fun h => absurd h (by decide)⟩
theorem vcl_12_235 (base : Nat) : pCL base 12 (235, 1, 138, 2) := fun _ q hq => by
  have hq2 : eMT1 138 = some q := hq
  cases (show eMT1 138 = some (em_138, 3) from rfl).symm.trans hq2
  exact ⟨yX12_isWord, cX12_isWord, (some .boolean), vm_138, ⟨by decide +kernel, Or.inr (Or.inl ⟨rfl, tbT 1605 (by decide +kernel) rfl, tbT 1607 (by decide +kernel) rfl, tbS (n := 55) 55 (by decide +kernel) rfl⟩)⟩, fun _ => ⟨TX12, 55, rfl⟩⟩
theorem vcl_12_260 (base : Nat) : pCL base 12 (260, 1, 165, 2) := fun _ q hq => by
  have hq2 : eMT1 165 = some q := hq
  cases (show eMT1 165 = some (em_165, 2) from rfl).symm.trans hq2
  exact ⟨yX12_taken, cX12_taken, none, vm_165, ⟨by decide +kernel, Or.inr (Or.inl ⟨rfl, tbT 1583 (by decide +kernel) rfl, tbT 1585 (by decide +kernel) rfl, tbS (n := 55) 51 (by decide +kernel) rfl⟩)⟩, fun _ => ⟨TX12, 55, rfl⟩⟩
theorem vcl_12_275 (base : Nat) : pCL base 12 (275, 1, 134, 2) := fun _ q hq => by
  have hq2 : eMT1 134 = some q := hq
  cases (show eMT1 134 = some (em_134, 2) from rfl).symm.trans hq2
  exact ⟨yX12_isOwner, cX12_isOwner, (some .boolean), vm_134, ⟨by decide +kernel, Or.inr (Or.inl ⟨rfl, tbT 1695 (by decide +kernel) rfl, tbT 1697 (by decide +kernel) rfl, tbS (n := 55) 73 (by decide +kernel) rfl⟩)⟩, fun _ => ⟨TX12, 55, rfl⟩⟩
theorem vcl_12_278 (base : Nat) : pCL base 12 (278, 1, 136, 2) := fun _ q hq => by
  have hq2 : eMT1 136 = some q := hq
  cases (show eMT1 136 = some (em_136, 2) from rfl).symm.trans hq2
  exact ⟨yX12_isRoom, cX12_isRoom, (some .boolean), vm_136, ⟨by decide +kernel, Or.inr (Or.inl ⟨rfl, tbT 1671 (by decide +kernel) rfl, tbT 1673 (by decide +kernel) rfl, tbS (n := 55) 68 (by decide +kernel) rfl⟩)⟩, fun _ => ⟨TX12, 55, rfl⟩⟩
theorem vcl_12_281 (base : Nat) : pCL base 12 (281, 1, 169, 2) := fun _ q hq => by
  have hq2 : eMT1 169 = some q := hq
  cases (show eMT1 169 = some (em_169, 2) from rfl).symm.trans hq2
  exact ⟨yX12_throwsIf, cX12_throwsIf, (some .boolean), vm_169, ⟨by decide +kernel, Or.inr (Or.inl ⟨rfl, tbT 1675 (by decide +kernel) rfl, tbT 1677 (by decide +kernel) rfl, tbS (n := 55) 69 (by decide +kernel) rfl⟩)⟩, fun _ => ⟨TX12, 55, rfl⟩⟩
theorem vcl_12_298 (base : Nat) : pCL base 12 (298, 1, 157, 2) := fun _ q hq => by
  have hq2 : eMT1 157 = some q := hq
  cases (show eMT1 157 = some (em_157, 4) from rfl).symm.trans hq2
  exact ⟨yX12_roomsOf, cX12_roomsOf, (some .int), vm_157, ⟨by decide +kernel, Or.inr (Or.inl ⟨rfl, tbT 1703 (by decide +kernel) rfl, tbT 1705 (by decide +kernel) rfl, tbS (n := 55) 75 (by decide +kernel) rfl⟩)⟩, fun _ => ⟨TX12, 55, rfl⟩⟩
theorem vcl_12_301 (base : Nat) : pCL base 12 (301, 1, 135, 2) := fun _ q hq => by
  have hq2 : eMT1 135 = some q := hq
  cases (show eMT1 135 = some (em_135, 2) from rfl).symm.trans hq2
  exact ⟨yX12_isPassage, cX12_isPassage, (some .boolean), vm_135, ⟨by decide +kernel, Or.inr (Or.inl ⟨rfl, tbT 1711 (by decide +kernel) rfl, tbT 1713 (by decide +kernel) rfl, tbS (n := 55) 76 (by decide +kernel) rfl⟩)⟩, fun _ => ⟨TX12, 55, rfl⟩⟩
theorem vcl_12_316 (base : Nat) : pCL base 12 (316, 1, 116, 1) := fun _ q hq => by
  have hq2 : eMT1 116 = some q := hq
  cases (show eMT1 116 = some (em_116, 3) from rfl).symm.trans hq2
  exact ⟨yX12_catching, cX12_catching, (some .int), vm_116, ⟨by decide +kernel, Or.inr (Or.inl ⟨rfl, tbT 1819 (by decide +kernel) rfl, tbT 1821 (by decide +kernel) rfl, tbS (n := 55) 93 (by decide +kernel) rfl⟩)⟩, fun _ => ⟨TX12, 55, rfl⟩⟩
theorem vcl_12_325 (base : Nat) : pCL base 12 (325, 1, 139, 1) := fun _ q hq => by
  have hq2 : eMT1 139 = some q := hq
  cases (show eMT1 139 = some (em_139, 2) from rfl).symm.trans hq2
  exact ⟨yX12_keep, cX12_keep, none, vm_139, ⟨by decide +kernel, Or.inr (Or.inl ⟨rfl, tbT 1735 (by decide +kernel) rfl, tbT 1737 (by decide +kernel) rfl, tbS (n := 55) 80 (by decide +kernel) rfl⟩)⟩, fun _ => ⟨TX12, 55, rfl⟩⟩
theorem vcl_12_332 (base : Nat) : pCL base 12 (332, 1, 106, 3) := fun _ q hq => by
  have hq2 : eMT1 106 = some q := hq
  cases (show eMT1 106 = some (em_106, 3) from rfl).symm.trans hq2
  exact ⟨yX12_areTwo, cX12_areTwo, (some .boolean), vm_106, ⟨by decide +kernel, Or.inr (Or.inl ⟨rfl, tbT 1751 (by decide +kernel) rfl, tbT 1753 (by decide +kernel) rfl, tbS (n := 55) 82 (by decide +kernel) rfl⟩)⟩, fun _ => ⟨TX12, 55, rfl⟩⟩
theorem vcl_12_351 (base : Nat) : pCL base 12 (351, 1, 105, 2) := fun _ q hq => by
  have hq2 : eMT1 105 = some q := hq
  cases (show eMT1 105 = some (em_105, 2) from rfl).symm.trans hq2
  exact ⟨yX12_areMinutes, cX12_areMinutes, (some .boolean), vm_105, ⟨by decide +kernel, Or.inr (Or.inl ⟨rfl, tbT 1811 (by decide +kernel) rfl, tbT 1813 (by decide +kernel) rfl, tbS (n := 55) 91 (by decide +kernel) rfl⟩)⟩, fun _ => ⟨TX12, 55, rfl⟩⟩
theorem vcl_12_354 (base : Nat) : pCL base 12 (354, 1, 143, 1) := fun _ q hq => by
  have hq2 : eMT1 143 = some q := hq
  cases (show eMT1 143 = some (em_143, 3) from rfl).symm.trans hq2
  exact ⟨yX12_minute, cX12_minute, none, vm_143, ⟨by decide +kernel, Or.inr (Or.inl ⟨rfl, tbT 1815 (by decide +kernel) rfl, tbT 1817 (by decide +kernel) rfl, tbS (n := 55) 92 (by decide +kernel) rfl⟩)⟩, fun _ => ⟨TX12, 55, rfl⟩⟩
theorem vcl_12_369 (base : Nat) : pCL base 12 (369, 1, 170, 1) := fun _ q hq => by
  have hq2 : eMT1 170 = some q := hq
  cases (show eMT1 170 = some (em_170, 2) from rfl).symm.trans hq2
  exact ⟨yX12_tries, cX12_tries, none, vm_170, ⟨by decide +kernel, Or.inr (Or.inl ⟨rfl, tbT 1855 (by decide +kernel) rfl, tbT 1857 (by decide +kernel) rfl, tbS (n := 55) 97 (by decide +kernel) rfl⟩)⟩, fun _ => ⟨TX12, 55, rfl⟩⟩
theorem vcl_12_375 (base : Nat) : pCL base 12 (375, 1, 109, 1) := fun _ q hq => by
  have hq2 : eMT1 109 = some q := hq
  cases (show eMT1 109 = some (em_109, 2) from rfl).symm.trans hq2
  exact ⟨yX12_back, cX12_back, none, vm_109, ⟨by decide +kernel, Or.inr (Or.inl ⟨rfl, tbT 1862 (by decide +kernel) rfl, tbT 1864 (by decide +kernel) rfl, tbS (n := 55) 98 (by decide +kernel) rfl⟩)⟩, fun _ => ⟨TX12, 55, rfl⟩⟩
theorem vcl_12_385 (base : Nat) : pCL base 12 (385, 1, 115, 2) := fun _ q hq => by
  have hq2 : eMT1 115 = some q := hq
  cases (show eMT1 115 = some (em_115, 4) from rfl).symm.trans hq2
  exact ⟨yX12_burntIn, cX12_burntIn, (some .int), vm_115, ⟨by decide +kernel, Or.inr (Or.inl ⟨rfl, tbT 1878 (by decide +kernel) rfl, tbT 1880 (by decide +kernel) rfl, tbS (n := 55) 99 (by decide +kernel) rfl⟩)⟩, fun _ => ⟨TX12, 55, rfl⟩⟩
theorem vcl_12_400 (base : Nat) : pCL base 12 (400, 1, 124, 1) := fun _ q hq => by
  have hq2 : eMT1 124 = some q := hq
  cases (show eMT1 124 = some (em_124, 6) from rfl).symm.trans hq2
  exact ⟨yX12_exchanges, cX12_exchanges, none, vm_124, ⟨by decide +kernel, Or.inr (Or.inl ⟨rfl, tbT 1898 (by decide +kernel) rfl, tbT 1900 (by decide +kernel) rfl, tbS (n := 55) 101 (by decide +kernel) rfl⟩)⟩, fun _ => ⟨TX12, 55, rfl⟩⟩
theorem vcl_12_461 (base : Nat) : pCL base 12 (461, 1, 140, 1) := fun _ q hq => by
  have hq2 : eMT1 140 = some q := hq
  cases (show eMT1 140 = some (em_140, 1) from rfl).symm.trans hq2
  exact ⟨yX12_leafOf, cX12_leafOf, (some .int), vm_140, ⟨by decide +kernel, Or.inr (Or.inl ⟨rfl, tbT 2027 (by decide +kernel) rfl, tbT 2029 (by decide +kernel) rfl, tbS (n := 55) 119 (by decide +kernel) rfl⟩)⟩, fun _ => ⟨TX12, 55, rfl⟩⟩
theorem vcl_12_479 (base : Nat) : pCL base 12 (479, 1, 148, 1) := fun _ q hq => by
  have hq2 : eMT1 148 = some q := hq
  cases (show eMT1 148 = some (em_148, 5) from rfl).symm.trans hq2
  exact ⟨yX12_operand, cX12_operand, (some .boolean), vm_148, ⟨by decide +kernel, Or.inr (Or.inl ⟨rfl, tbT 2023 (by decide +kernel) rfl, tbT 2025 (by decide +kernel) rfl, tbS (n := 55) 118 (by decide +kernel) rfl⟩)⟩, fun _ => ⟨TX12, 55, rfl⟩⟩
theorem vcl_12 (base : Nat) : ∀ x ∈ ecl__12, pCL base 12 x := List.forall_mem_cons.mpr ⟨(vcl_12_10 base), List.forall_mem_cons.mpr ⟨(vcl_12_27 base), List.forall_mem_cons.mpr ⟨(vcl_12_174 base), List.forall_mem_cons.mpr ⟨(vcl_12_207 base), List.forall_mem_cons.mpr ⟨(vcl_12_210 base), List.forall_mem_cons.mpr ⟨(vcl_12_213 base), List.forall_mem_cons.mpr ⟨(vcl_12_216 base), List.forall_mem_cons.mpr ⟨(vcl_12_235 base), List.forall_mem_cons.mpr ⟨(vcl_12_260 base), List.forall_mem_cons.mpr ⟨(vcl_12_275 base), List.forall_mem_cons.mpr ⟨(vcl_12_278 base), List.forall_mem_cons.mpr ⟨(vcl_12_281 base), List.forall_mem_cons.mpr ⟨(vcl_12_298 base), List.forall_mem_cons.mpr ⟨(vcl_12_301 base), List.forall_mem_cons.mpr ⟨(vcl_12_316 base), List.forall_mem_cons.mpr ⟨(vcl_12_325 base), List.forall_mem_cons.mpr ⟨(vcl_12_332 base), List.forall_mem_cons.mpr ⟨(vcl_12_351 base), List.forall_mem_cons.mpr ⟨(vcl_12_354 base), List.forall_mem_cons.mpr ⟨(vcl_12_369 base), List.forall_mem_cons.mpr ⟨(vcl_12_375 base), List.forall_mem_cons.mpr ⟨(vcl_12_385 base), List.forall_mem_cons.mpr ⟨(vcl_12_400 base), List.forall_mem_cons.mpr ⟨(vcl_12_461 base), List.forall_mem_cons.mpr ⟨(vcl_12_479 base), fun _ h => absurd h List.not_mem_nil⟩⟩⟩⟩⟩⟩⟩⟩⟩⟩⟩⟩⟩⟩⟩⟩⟩⟩⟩⟩⟩⟩⟩⟩⟩
theorem vcl_13_15 (base : Nat) : pCL base 13 (15, 2, 48, 1) := fun _ q hq => by
  have hq2 : eMT1 48 = some q := hq
  cases (show eMT1 48 = some (em_48, 2) from rfl).symm.trans hq2
  exact ⟨yX11_init, cX11_init, none, vm_48, ⟨by decide +kernel, Or.inr (Or.inr (Or.inl ⟨rfl, tbT 28 (by decide +kernel) rfl, tbT 29 (by decide +kernel) rfl, rfl⟩))⟩, fun h => absurd h (by decide)⟩
theorem vcl_13_18 (base : Nat) : pCL base 13 (18, 2, 104, 1) := fun _ q hq => by
  have hq2 : eMT1 104 = some q := hq
  cases (show eMT1 104 = some (em_104, 1) from rfl).symm.trans hq2
  exact ⟨yX12_init, cX12_init, none, vm_104, ⟨by decide +kernel, Or.inr (Or.inr (Or.inl ⟨rfl, tbT 1378 (by decide +kernel) rfl, tbT 1379 (by decide +kernel) rfl, rfl⟩))⟩, fun h => absurd h (by decide)⟩
theorem vcl_13_19 (base : Nat) : pCL base 13 (19, 1, 65, 6) := fun _ q hq => by
  have hq2 : eMT1 65 = some q := hq
  cases (show eMT1 65 = some (em_65, 6) from rfl).symm.trans hq2
  exact ⟨yX11_feed, cX11_feed, (some .int), vm_65, ⟨by decide +kernel, Or.inr (Or.inl ⟨rfl, tbT 502 (by decide +kernel) rfl, tbT 503 (by decide +kernel) rfl, tbT 504 (by decide +kernel) rfl⟩)⟩, fun _ => ⟨TX11, 17, rfl⟩⟩
theorem vcl_13_23 (base : Nat) : pCL base 13 (23, 1, 126, 6) := fun _ q hq => by
  have hq2 : eMT1 126 = some q := hq
  cases (show eMT1 126 = some (em_126, 6) from rfl).symm.trans hq2
  exact ⟨yX12_feed, cX12_feed, (some .int), vm_126, ⟨by decide +kernel, Or.inr (Or.inl ⟨rfl, tbT 1364 (by decide +kernel) rfl, tbT 1365 (by decide +kernel) rfl, tbT 1366 (by decide +kernel) rfl⟩)⟩, fun _ => ⟨TX12, 55, rfl⟩⟩
theorem vcl_13_24 (base : Nat) : pCL base 13 (24, 1, 62, 2) := fun _ q hq => by
  have hq2 : eMT1 62 = some q := hq
  cases (show eMT1 62 = some (em_62, 2) from rfl).symm.trans hq2
  exact ⟨yX11_end, cX11_end, (some .boolean), vm_62, ⟨by decide +kernel, Or.inr (Or.inl ⟨rfl, tbT 510 (by decide +kernel) rfl, tbT 511 (by decide +kernel) rfl, tbT 512 (by decide +kernel) rfl⟩)⟩, fun _ => ⟨TX11, 17, rfl⟩⟩
theorem vcl_13_28 (base : Nat) : pCL base 13 (28, 1, 122, 2) := fun _ q hq => by
  have hq2 : eMT1 122 = some q := hq
  cases (show eMT1 122 = some (em_122, 2) from rfl).symm.trans hq2
  exact ⟨yX12_end, cX12_end, (some .boolean), vm_122, ⟨by decide +kernel, Or.inr (Or.inl ⟨rfl, tbT 1373 (by decide +kernel) rfl, tbT 1374 (by decide +kernel) rfl, tbT 1375 (by decide +kernel) rfl⟩)⟩, fun _ => ⟨TX12, 55, rfl⟩⟩
theorem vcl_13_29 (base : Nat) : pCL base 13 (29, 1, 97, 1) := fun _ q hq => by
  have hq2 : eMT1 97 = some q := hq
  cases (show eMT1 97 = some (em_97, 2) from rfl).symm.trans hq2
  exact ⟨yX11_terrace, cX11_terrace, (some .int), vm_97, ⟨by decide +kernel, Or.inr (Or.inl ⟨rfl, tbT 514 (by decide +kernel) rfl, tbT 515 (by decide +kernel) rfl, tbT 516 (by decide +kernel) rfl⟩)⟩, fun _ => ⟨TX11, 17, rfl⟩⟩
theorem vcl_13_33 (base : Nat) : pCL base 13 (33, 1, 166, 1) := fun _ q hq => by
  have hq2 : eMT1 166 = some q := hq
  cases (show eMT1 166 = some (em_166, 2) from rfl).symm.trans hq2
  exact ⟨yX12_terrace, cX12_terrace, (some .int), vm_166, ⟨by decide +kernel, Or.inr (Or.inl ⟨rfl, tbT 1579 (by decide +kernel) rfl, tbT 1580 (by decide +kernel) rfl, tbT 1581 (by decide +kernel) rfl⟩)⟩, fun _ => ⟨TX12, 55, rfl⟩⟩
theorem vcl_13_34 (base : Nat) : pCL base 13 (34, 1, 64, 1) := fun _ q hq => by
  have hq2 : eMT1 64 = some q := hq
  cases (show eMT1 64 = some (em_64, 1) from rfl).symm.trans hq2
  exact ⟨yX11_fault, cX11_fault, (some .int), vm_64, ⟨by decide +kernel, Or.inr (Or.inl ⟨rfl, tbT 702 (by decide +kernel) rfl, tbT 703 (by decide +kernel) rfl, tbT 704 (by decide +kernel) rfl⟩)⟩, fun _ => ⟨TX11, 17, rfl⟩⟩
theorem vcl_13_37 (base : Nat) : pCL base 13 (37, 1, 125, 1) := fun _ q hq => by
  have hq2 : eMT1 125 = some q := hq
  cases (show eMT1 125 = some (em_125, 1) from rfl).symm.trans hq2
  exact ⟨yX12_fault, cX12_fault, (some .int), vm_125, ⟨by decide +kernel, Or.inr (Or.inl ⟨rfl, tbT 1663 (by decide +kernel) rfl, tbT 1664 (by decide +kernel) rfl, tbT 1665 (by decide +kernel) rfl⟩)⟩, fun _ => ⟨TX12, 55, rfl⟩⟩
theorem vcl_13_38 (base : Nat) : pCL base 13 (38, 9, 75, 4) := fun h => absurd h (by decide)
theorem vcl_13_43 (base : Nat) : pCL base 13 (43, 1, 156, 3) := fun _ q hq => by
  have hq2 : eMT1 156 = some q := hq
  cases (show eMT1 156 = some (em_156, 3) from rfl).symm.trans hq2
  exact ⟨yX12_room, cX12_room, (some .int), vm_156, ⟨by decide +kernel, Or.inr (Or.inl ⟨rfl, tbT 1667 (by decide +kernel) rfl, tbT 1668 (by decide +kernel) rfl, tbT 1669 (by decide +kernel) rfl⟩)⟩, fun _ => ⟨TX12, 55, rfl⟩⟩
theorem vcl_13_44 (base : Nat) : pCL base 13 (44, 1, 168, 1) := fun _ q hq => by
  have hq2 : eMT1 168 = some q := hq
  cases (show eMT1 168 = some (em_168, 1) from rfl).symm.trans hq2
  exact ⟨yX12_thrown, cX12_thrown, (some .int), vm_168, ⟨by decide +kernel, Or.inr (Or.inl ⟨rfl, tbT 1360 (by decide +kernel) rfl, tbT 1361 (by decide +kernel) rfl, tbT 1362 (by decide +kernel) rfl⟩)⟩, fun _ => ⟨TX12, 55, rfl⟩⟩
theorem vcl_13_47 (base : Nat) : pCL base 13 (47, 1, 85, 3) := fun _ q hq => by
  have hq2 : eMT1 85 = some q := hq
  cases (show eMT1 85 = some (em_85, 3) from rfl).symm.trans hq2
  exact ⟨yX11_owner, cX11_owner, (some .int), vm_85, ⟨by decide +kernel, Or.inr (Or.inl ⟨rfl, tbT 706 (by decide +kernel) rfl, tbT 707 (by decide +kernel) rfl, tbT 708 (by decide +kernel) rfl⟩)⟩, fun _ => ⟨TX11, 17, rfl⟩⟩
theorem vcl_13_50 (base : Nat) : pCL base 13 (50, 1, 149, 3) := fun _ q hq => by
  have hq2 : eMT1 149 = some q := hq
  cases (show eMT1 149 = some (em_149, 3) from rfl).symm.trans hq2
  exact ⟨yX12_owner, cX12_owner, (some .int), vm_149, ⟨by decide +kernel, Or.inr (Or.inl ⟨rfl, tbT 1691 (by decide +kernel) rfl, tbT 1692 (by decide +kernel) rfl, tbT 1693 (by decide +kernel) rfl⟩)⟩, fun _ => ⟨TX12, 55, rfl⟩⟩
theorem vcl_13_51 (base : Nat) : pCL base 13 (51, 1, 86, 3) := fun _ q hq => by
  have hq2 : eMT1 86 = some q := hq
  cases (show eMT1 86 = some (em_86, 3) from rfl).symm.trans hq2
  exact ⟨yX11_passage, cX11_passage, (some .int), vm_86, ⟨by decide +kernel, Or.inr (Or.inl ⟨rfl, tbT 730 (by decide +kernel) rfl, tbT 731 (by decide +kernel) rfl, tbT 732 (by decide +kernel) rfl⟩)⟩, fun _ => ⟨TX11, 17, rfl⟩⟩
theorem vcl_13_54 (base : Nat) : pCL base 13 (54, 1, 150, 3) := fun _ q hq => by
  have hq2 : eMT1 150 = some q := hq
  cases (show eMT1 150 = some (em_150, 3) from rfl).symm.trans hq2
  exact ⟨yX12_passage, cX12_passage, (some .int), vm_150, ⟨by decide +kernel, Or.inr (Or.inl ⟨rfl, tbT 1707 (by decide +kernel) rfl, tbT 1708 (by decide +kernel) rfl, tbT 1709 (by decide +kernel) rfl⟩)⟩, fun _ => ⟨TX12, 55, rfl⟩⟩
theorem vcl_13_55 (base : Nat) : pCL base 13 (55, 1, 83, 2) := fun _ q hq => by
  have hq2 : eMT1 83 = some q := hq
  cases (show eMT1 83 = some (em_83, 2) from rfl).symm.trans hq2
  exact ⟨yX11_now, cX11_now, (some .int), vm_83, ⟨by decide +kernel, Or.inr (Or.inl ⟨rfl, tbT 739 (by decide +kernel) rfl, tbT 740 (by decide +kernel) rfl, tbT 741 (by decide +kernel) rfl⟩)⟩, fun _ => ⟨TX11, 17, rfl⟩⟩
theorem vcl_13_59 (base : Nat) : pCL base 13 (59, 1, 146, 2) := fun _ q hq => by
  have hq2 : eMT1 146 = some q := hq
  cases (show eMT1 146 = some (em_146, 2) from rfl).symm.trans hq2
  exact ⟨yX12_now, cX12_now, (some .int), vm_146, ⟨by decide +kernel, Or.inr (Or.inl ⟨rfl, tbT 1715 (by decide +kernel) rfl, tbT 1716 (by decide +kernel) rfl, tbT 1717 (by decide +kernel) rfl⟩)⟩, fun _ => ⟨TX12, 55, rfl⟩⟩
theorem vcl_13_60 (base : Nat) : pCL base 13 (60, 1, 67, 3) := fun _ q hq => by
  have hq2 : eMT1 67 = some q := hq
  cases (show eMT1 67 = some (em_67, 3) from rfl).symm.trans hq2
  exact ⟨yX11_go, cX11_go, (some .int), vm_67, ⟨by decide +kernel, Or.inr (Or.inl ⟨rfl, tbT 757 (by decide +kernel) rfl, tbT 758 (by decide +kernel) rfl, tbT 759 (by decide +kernel) rfl⟩)⟩, fun _ => ⟨TX11, 17, rfl⟩⟩
theorem vcl_13_63 (base : Nat) : pCL base 13 (63, 1, 129, 3) := fun _ q hq => by
  have hq2 : eMT1 129 = some q := hq
  cases (show eMT1 129 = some (em_129, 4) from rfl).symm.trans hq2
  exact ⟨yX12_go, cX12_go, (some .int), vm_129, ⟨by decide +kernel, Or.inr (Or.inl ⟨rfl, tbT 1719 (by decide +kernel) rfl, tbT 1720 (by decide +kernel) rfl, tbT 1721 (by decide +kernel) rfl⟩)⟩, fun _ => ⟨TX12, 55, rfl⟩⟩
theorem vcl_13_64 (base : Nat) : pCL base 13 (64, 1, 79, 2) := fun _ q hq => by
  have hq2 : eMT1 79 = some q := hq
  cases (show eMT1 79 = some (em_79, 2) from rfl).symm.trans hq2
  exact ⟨yX11_leave, cX11_leave, (some .boolean), vm_79, ⟨by decide +kernel, Or.inr (Or.inl ⟨rfl, tbT 796 (by decide +kernel) rfl, tbT 797 (by decide +kernel) rfl, tbT 798 (by decide +kernel) rfl⟩)⟩, fun _ => ⟨TX11, 17, rfl⟩⟩
theorem vcl_13_67 (base : Nat) : pCL base 13 (67, 1, 141, 2) := fun _ q hq => by
  have hq2 : eMT1 141 = some q := hq
  cases (show eMT1 141 = some (em_141, 2) from rfl).symm.trans hq2
  exact ⟨yX12_leave, cX12_leave, (some .boolean), vm_141, ⟨by decide +kernel, Or.inr (Or.inl ⟨rfl, tbT 1743 (by decide +kernel) rfl, tbT 1744 (by decide +kernel) rfl, tbT 1745 (by decide +kernel) rfl⟩)⟩, fun _ => ⟨TX12, 55, rfl⟩⟩
theorem vcl_13_68 (base : Nat) : pCL base 13 (68, 1, 92, 4) := fun _ q hq => by
  have hq2 : eMT1 92 = some q := hq
  cases (show eMT1 92 = some (em_92, 4) from rfl).symm.trans hq2
  exact ⟨yX11_sell, cX11_sell, (some .int), vm_92, ⟨by decide +kernel, Or.inr (Or.inl ⟨rfl, tbT 800 (by decide +kernel) rfl, tbT 801 (by decide +kernel) rfl, tbT 802 (by decide +kernel) rfl⟩)⟩, fun _ => ⟨TX11, 17, rfl⟩⟩
theorem vcl_13_72 (base : Nat) : pCL base 13 (72, 1, 159, 4) := fun _ q hq => by
  have hq2 : eMT1 159 = some q := hq
  cases (show eMT1 159 = some (em_159, 5) from rfl).symm.trans hq2
  exact ⟨yX12_sell, cX12_sell, (some .int), vm_159, ⟨by decide +kernel, Or.inr (Or.inl ⟨rfl, tbT 1747 (by decide +kernel) rfl, tbT 1748 (by decide +kernel) rfl, tbT 1749 (by decide +kernel) rfl⟩)⟩, fun _ => ⟨TX12, 55, rfl⟩⟩
theorem vcl_13_73 (base : Nat) : pCL base 13 (73, 1, 80, 4) := fun _ q hq => by
  have hq2 : eMT1 80 = some q := hq
  cases (show eMT1 80 = some (em_80, 4) from rfl).symm.trans hq2
  exact ⟨yX11_let, cX11_let, (some .int), vm_80, ⟨by decide +kernel, Or.inr (Or.inl ⟨rfl, tbT 812 (by decide +kernel) rfl, tbT 813 (by decide +kernel) rfl, tbT 814 (by decide +kernel) rfl⟩)⟩, fun _ => ⟨TX11, 17, rfl⟩⟩
theorem vcl_13_76 (base : Nat) : pCL base 13 (76, 1, 142, 4) := fun _ q hq => by
  have hq2 : eMT1 142 = some q := hq
  cases (show eMT1 142 = some (em_142, 5) from rfl).symm.trans hq2
  exact ⟨yX12_let, cX12_let, (some .int), vm_142, ⟨by decide +kernel, Or.inr (Or.inl ⟨rfl, tbT 1763 (by decide +kernel) rfl, tbT 1764 (by decide +kernel) rfl, tbT 1765 (by decide +kernel) rfl⟩)⟩, fun _ => ⟨TX12, 55, rfl⟩⟩
theorem vcl_13_77 (base : Nat) : pCL base 13 (77, 1, 103, 3) := fun _ q hq => by
  have hq2 : eMT1 103 = some q := hq
  cases (show eMT1 103 = some (em_103, 3) from rfl).symm.trans hq2
  exact ⟨yX11_will, cX11_will, (some .int), vm_103, ⟨by decide +kernel, Or.inr (Or.inl ⟨rfl, tbT 823 (by decide +kernel) rfl, tbT 824 (by decide +kernel) rfl, tbT 825 (by decide +kernel) rfl⟩)⟩, fun _ => ⟨TX11, 17, rfl⟩⟩
theorem vcl_13_80 (base : Nat) : pCL base 13 (80, 1, 175, 3) := fun _ q hq => by
  have hq2 : eMT1 175 = some q := hq
  cases (show eMT1 175 = some (em_175, 4) from rfl).symm.trans hq2
  exact ⟨yX12_will, cX12_will, (some .int), vm_175, ⟨by decide +kernel, Or.inr (Or.inl ⟨rfl, tbT 1771 (by decide +kernel) rfl, tbT 1772 (by decide +kernel) rfl, tbT 1773 (by decide +kernel) rfl⟩)⟩, fun _ => ⟨TX12, 55, rfl⟩⟩
theorem vcl_13_81 (base : Nat) : pCL base 13 (81, 1, 60, 2) := fun _ q hq => by
  have hq2 : eMT1 60 = some q := hq
  cases (show eMT1 60 = some (em_60, 2) from rfl).symm.trans hq2
  exact ⟨yX11_die, cX11_die, (some .int), vm_60, ⟨by decide +kernel, Or.inr (Or.inl ⟨rfl, tbT 831 (by decide +kernel) rfl, tbT 832 (by decide +kernel) rfl, tbT 833 (by decide +kernel) rfl⟩)⟩, fun _ => ⟨TX11, 17, rfl⟩⟩
theorem vcl_13_84 (base : Nat) : pCL base 13 (84, 1, 120, 2) := fun _ q hq => by
  have hq2 : eMT1 120 = some q := hq
  cases (show eMT1 120 = some (em_120, 2) from rfl).symm.trans hq2
  exact ⟨yX12_die, cX12_die, (some .int), vm_120, ⟨by decide +kernel, Or.inr (Or.inl ⟨rfl, tbT 1779 (by decide +kernel) rfl, tbT 1780 (by decide +kernel) rfl, tbT 1781 (by decide +kernel) rfl⟩)⟩, fun _ => ⟨TX12, 55, rfl⟩⟩
theorem vcl_13_85 (base : Nat) : pCL base 13 (85, 1, 94, 3) := fun _ q hq => by
  have hq2 : eMT1 94 = some q := hq
  cases (show eMT1 94 = some (em_94, 3) from rfl).symm.trans hq2
  exact ⟨yX11_shut, cX11_shut, (some .int), vm_94, ⟨by decide +kernel, Or.inr (Or.inl ⟨rfl, tbT 843 (by decide +kernel) rfl, tbT 844 (by decide +kernel) rfl, tbT 845 (by decide +kernel) rfl⟩)⟩, fun _ => ⟨TX11, 17, rfl⟩⟩
theorem vcl_13_88 (base : Nat) : pCL base 13 (88, 1, 161, 3) := fun _ q hq => by
  have hq2 : eMT1 161 = some q := hq
  cases (show eMT1 161 = some (em_161, 4) from rfl).symm.trans hq2
  exact ⟨yX12_shut, cX12_shut, (some .int), vm_161, ⟨by decide +kernel, Or.inr (Or.inl ⟨rfl, tbT 1791 (by decide +kernel) rfl, tbT 1792 (by decide +kernel) rfl, tbT 1793 (by decide +kernel) rfl⟩)⟩, fun _ => ⟨TX12, 55, rfl⟩⟩
theorem vcl_13_89 (base : Nat) : pCL base 13 (89, 1, 56, 2) := fun _ q hq => by
  have hq2 : eMT1 56 = some q := hq
  cases (show eMT1 56 = some (em_56, 2) from rfl).symm.trans hq2
  exact ⟨yX11_burn, cX11_burn, (some .int), vm_56, ⟨by decide +kernel, Or.inr (Or.inl ⟨rfl, tbT 851 (by decide +kernel) rfl, tbT 852 (by decide +kernel) rfl, tbT 853 (by decide +kernel) rfl⟩)⟩, fun _ => ⟨TX11, 17, rfl⟩⟩
theorem vcl_13_92 (base : Nat) : pCL base 13 (92, 1, 114, 2) := fun _ q hq => by
  have hq2 : eMT1 114 = some q := hq
  cases (show eMT1 114 = some (em_114, 2) from rfl).symm.trans hq2
  exact ⟨yX12_burn, cX12_burn, (some .int), vm_114, ⟨by decide +kernel, Or.inr (Or.inl ⟨rfl, tbT 1799 (by decide +kernel) rfl, tbT 1800 (by decide +kernel) rfl, tbT 1801 (by decide +kernel) rfl⟩)⟩, fun _ => ⟨TX12, 55, rfl⟩⟩
theorem vcl_13_93 (base : Nat) : pCL base 13 (93, 1, 81, 2) := fun _ q hq => by
  have hq2 : eMT1 81 = some q := hq
  cases (show eMT1 81 = some (em_81, 3) from rfl).symm.trans hq2
  exact ⟨yX11_minutes, cX11_minutes, (some .int), vm_81, ⟨by decide +kernel, Or.inr (Or.inl ⟨rfl, tbT 860 (by decide +kernel) rfl, tbT 861 (by decide +kernel) rfl, tbT 862 (by decide +kernel) rfl⟩)⟩, fun _ => ⟨TX11, 17, rfl⟩⟩
theorem vcl_13_96 (base : Nat) : pCL base 13 (96, 1, 144, 2) := fun _ q hq => by
  have hq2 : eMT1 144 = some q := hq
  cases (show eMT1 144 = some (em_144, 3) from rfl).symm.trans hq2
  exact ⟨yX12_minutes, cX12_minutes, (some .int), vm_144, ⟨by decide +kernel, Or.inr (Or.inl ⟨rfl, tbT 1807 (by decide +kernel) rfl, tbT 1808 (by decide +kernel) rfl, tbT 1809 (by decide +kernel) rfl⟩)⟩, fun _ => ⟨TX12, 55, rfl⟩⟩
theorem vcl_13_97 (base : Nat) : pCL base 13 (97, 1, 99, 1) := fun _ q hq => by
  have hq2 : eMT1 99 = some q := hq
  cases (show eMT1 99 = some (em_99, 1) from rfl).symm.trans hq2
  exact ⟨yX11_undo, cX11_undo, (some .int), vm_99, ⟨by decide +kernel, Or.inr (Or.inl ⟨rfl, tbT 869 (by decide +kernel) rfl, tbT 870 (by decide +kernel) rfl, tbT 871 (by decide +kernel) rfl⟩)⟩, fun _ => ⟨TX11, 17, rfl⟩⟩
theorem vcl_13_100 (base : Nat) : pCL base 13 (100, 1, 171, 1) := fun _ q hq => by
  have hq2 : eMT1 171 = some q := hq
  cases (show eMT1 171 = some (em_171, 2) from rfl).symm.trans hq2
  exact ⟨yX12_undo, cX12_undo, (some .int), vm_171, ⟨by decide +kernel, Or.inr (Or.inl ⟨rfl, tbT 1823 (by decide +kernel) rfl, tbT 1824 (by decide +kernel) rfl, tbT 1825 (by decide +kernel) rfl⟩)⟩, fun _ => ⟨TX12, 55, rfl⟩⟩
theorem vcl_13_101 (base : Nat) : pCL base 13 (101, 1, 102, 3) := fun _ q hq => by
  have hq2 : eMT1 102 = some q := hq
  cases (show eMT1 102 = some (em_102, 4) from rfl).symm.trans hq2
  exact ⟨yX11_way, cX11_way, (some .int), vm_102, ⟨by decide +kernel, Or.inr (Or.inl ⟨rfl, tbT 905 (by decide +kernel) rfl, tbT 906 (by decide +kernel) rfl, tbT 907 (by decide +kernel) rfl⟩)⟩, fun _ => ⟨TX11, 17, rfl⟩⟩
theorem vcl_13_104 (base : Nat) : pCL base 13 (104, 1, 174, 3) := fun _ q hq => by
  have hq2 : eMT1 174 = some q := hq
  cases (show eMT1 174 = some (em_174, 5) from rfl).symm.trans hq2
  exact ⟨yX12_way, cX12_way, (some .int), vm_174, ⟨by decide +kernel, Or.inr (Or.inl ⟨rfl, tbT 1827 (by decide +kernel) rfl, tbT 1828 (by decide +kernel) rfl, tbT 1829 (by decide +kernel) rfl⟩)⟩, fun _ => ⟨TX12, 55, rfl⟩⟩
theorem vcl_13_105 (base : Nat) : pCL base 13 (105, 1, 96, 2) := fun _ q hq => by
  have hq2 : eMT1 96 = some q := hq
  cases (show eMT1 96 = some (em_96, 2) from rfl).symm.trans hq2
  exact ⟨yX11_step, cX11_step, (some .int), vm_96, ⟨by decide +kernel, Or.inr (Or.inl ⟨rfl, tbT 941 (by decide +kernel) rfl, tbT 942 (by decide +kernel) rfl, tbT 943 (by decide +kernel) rfl⟩)⟩, fun _ => ⟨TX11, 17, rfl⟩⟩
theorem vcl_13_108 (base : Nat) : pCL base 13 (108, 1, 164, 2) := fun _ q hq => by
  have hq2 : eMT1 164 = some q := hq
  cases (show eMT1 164 = some (em_164, 2) from rfl).symm.trans hq2
  exact ⟨yX12_step, cX12_step, (some .int), vm_164, ⟨by decide +kernel, Or.inr (Or.inl ⟨rfl, tbT 1843 (by decide +kernel) rfl, tbT 1844 (by decide +kernel) rfl, tbT 1845 (by decide +kernel) rfl⟩)⟩, fun _ => ⟨TX12, 55, rfl⟩⟩
theorem vcl_13_109 (base : Nat) : pCL base 13 (109, 1, 52, 2) := fun _ q hq => by
  have hq2 : eMT1 52 = some q := hq
  cases (show eMT1 52 = some (em_52, 2) from rfl).symm.trans hq2
  exact ⟨yX11_barred, cX11_barred, (some .int), vm_52, ⟨by decide +kernel, Or.inr (Or.inl ⟨rfl, tbT 945 (by decide +kernel) rfl, tbT 946 (by decide +kernel) rfl, tbT 947 (by decide +kernel) rfl⟩)⟩, fun _ => ⟨TX11, 17, rfl⟩⟩
theorem vcl_13_112 (base : Nat) : pCL base 13 (112, 1, 111, 2) := fun _ q hq => by
  have hq2 : eMT1 111 = some q := hq
  cases (show eMT1 111 = some (em_111, 4) from rfl).symm.trans hq2
  exact ⟨yX12_barred, cX12_barred, (some .int), vm_111, ⟨by decide +kernel, Or.inr (Or.inl ⟨rfl, tbT 1847 (by decide +kernel) rfl, tbT 1848 (by decide +kernel) rfl, tbT 1849 (by decide +kernel) rfl⟩)⟩, fun _ => ⟨TX12, 55, rfl⟩⟩
theorem vcl_13_113 (base : Nat) : pCL base 13 (113, 1, 51, 3) := fun _ q hq => by
  have hq2 : eMT1 51 = some q := hq
  cases (show eMT1 51 = some (em_51, 3) from rfl).symm.trans hq2
  exact ⟨yX11_asks, cX11_asks, (some .int), vm_51, ⟨by decide +kernel, Or.inr (Or.inl ⟨rfl, tbT 953 (by decide +kernel) rfl, tbT 954 (by decide +kernel) rfl, tbT 955 (by decide +kernel) rfl⟩)⟩, fun _ => ⟨TX11, 17, rfl⟩⟩
theorem vcl_13_116 (base : Nat) : pCL base 13 (116, 1, 108, 3) := fun _ q hq => by
  have hq2 : eMT1 108 = some q := hq
  cases (show eMT1 108 = some (em_108, 7) from rfl).symm.trans hq2
  exact ⟨yX12_asks, cX12_asks, (some .int), vm_108, ⟨by decide +kernel, Or.inr (Or.inl ⟨rfl, tbT 1851 (by decide +kernel) rfl, tbT 1852 (by decide +kernel) rfl, tbT 1853 (by decide +kernel) rfl⟩)⟩, fun _ => ⟨TX12, 55, rfl⟩⟩
theorem vcl_13_117 (base : Nat) : pCL base 13 (117, 1, 50, 1) := fun _ q hq => by
  have hq2 : eMT1 50 = some q := hq
  cases (show eMT1 50 = some (em_50, 1) from rfl).symm.trans hq2
  exact ⟨yX11_asked, cX11_asked, (some .int), vm_50, ⟨by decide +kernel, Or.inr (Or.inl ⟨rfl, tbT 963 (by decide +kernel) rfl, tbT 964 (by decide +kernel) rfl, tbT 965 (by decide +kernel) rfl⟩)⟩, fun _ => ⟨TX11, 17, rfl⟩⟩
theorem vcl_13_120 (base : Nat) : pCL base 13 (120, 1, 107, 1) := fun _ q hq => by
  have hq2 : eMT1 107 = some q := hq
  cases (show eMT1 107 = some (em_107, 1) from rfl).symm.trans hq2
  exact ⟨yX12_asked, cX12_asked, (some .int), vm_107, ⟨by decide +kernel, Or.inr (Or.inl ⟨rfl, tbT 1866 (by decide +kernel) rfl, tbT 1867 (by decide +kernel) rfl, tbT 1868 (by decide +kernel) rfl⟩)⟩, fun _ => ⟨TX12, 55, rfl⟩⟩
theorem vcl_13_121 (base : Nat) : pCL base 13 (121, 1, 98, 3) := fun _ q hq => by
  have hq2 : eMT1 98 = some q := hq
  cases (show eMT1 98 = some (em_98, 4) from rfl).symm.trans hq2
  exact ⟨yX11_through, cX11_through, (some .int), vm_98, ⟨by decide +kernel, Or.inr (Or.inl ⟨rfl, tbT 967 (by decide +kernel) rfl, tbT 968 (by decide +kernel) rfl, tbT 969 (by decide +kernel) rfl⟩)⟩, fun _ => ⟨TX11, 17, rfl⟩⟩
theorem vcl_13_124 (base : Nat) : pCL base 13 (124, 1, 167, 3) := fun _ q hq => by
  have hq2 : eMT1 167 = some q := hq
  cases (show eMT1 167 = some (em_167, 7) from rfl).symm.trans hq2
  exact ⟨yX12_through, cX12_through, (some .int), vm_167, ⟨by decide +kernel, Or.inr (Or.inl ⟨rfl, tbT 1870 (by decide +kernel) rfl, tbT 1871 (by decide +kernel) rfl, tbT 1872 (by decide +kernel) rfl⟩)⟩, fun _ => ⟨TX12, 55, rfl⟩⟩
theorem vcl_13_125 (base : Nat) : pCL base 13 (125, 1, 66, 2) := fun _ q hq => by
  have hq2 : eMT1 66 = some q := hq
  cases (show eMT1 66 = some (em_66, 2) from rfl).symm.trans hq2
  exact ⟨yX11_fire, cX11_fire, (some .int), vm_66, ⟨by decide +kernel, Or.inr (Or.inl ⟨rfl, tbT 995 (by decide +kernel) rfl, tbT 996 (by decide +kernel) rfl, tbT 997 (by decide +kernel) rfl⟩)⟩, fun _ => ⟨TX11, 17, rfl⟩⟩
theorem vcl_13_128 (base : Nat) : pCL base 13 (128, 1, 127, 2) := fun _ q hq => by
  have hq2 : eMT1 127 = some q := hq
  cases (show eMT1 127 = some (em_127, 3) from rfl).symm.trans hq2
  exact ⟨yX12_fire, cX12_fire, (some .int), vm_127, ⟨by decide +kernel, Or.inr (Or.inl ⟨rfl, tbT 1874 (by decide +kernel) rfl, tbT 1875 (by decide +kernel) rfl, tbT 1876 (by decide +kernel) rfl⟩)⟩, fun _ => ⟨TX12, 55, rfl⟩⟩
theorem vcl_13_129 (base : Nat) : pCL base 13 (129, 1, 95, 2) := fun _ q hq => by
  have hq2 : eMT1 95 = some q := hq
  cases (show eMT1 95 = some (em_95, 2) from rfl).symm.trans hq2
  exact ⟨yX11_spread, cX11_spread, (some .int), vm_95, ⟨by decide +kernel, Or.inr (Or.inl ⟨rfl, tbT 1005 (by decide +kernel) rfl, tbT 1006 (by decide +kernel) rfl, tbT 1007 (by decide +kernel) rfl⟩)⟩, fun _ => ⟨TX11, 17, rfl⟩⟩
theorem vcl_13_132 (base : Nat) : pCL base 13 (132, 1, 163, 2) := fun _ q hq => by
  have hq2 : eMT1 163 = some q := hq
  cases (show eMT1 163 = some (em_163, 2) from rfl).symm.trans hq2
  exact ⟨yX12_spread, cX12_spread, (some .int), vm_163, ⟨by decide +kernel, Or.inr (Or.inl ⟨rfl, tbT 1882 (by decide +kernel) rfl, tbT 1883 (by decide +kernel) rfl, tbT 1884 (by decide +kernel) rfl⟩)⟩, fun _ => ⟨TX12, 55, rfl⟩⟩
theorem vcl_13_133 (base : Nat) : pCL base 13 (133, 1, 59, 2) := fun _ q hq => by
  have hq2 : eMT1 59 = some q := hq
  cases (show eMT1 59 = some (em_59, 2) from rfl).symm.trans hq2
  exact ⟨yX11_cut, cX11_cut, (some .int), vm_59, ⟨by decide +kernel, Or.inr (Or.inl ⟨rfl, tbT 1013 (by decide +kernel) rfl, tbT 1014 (by decide +kernel) rfl, tbT 1015 (by decide +kernel) rfl⟩)⟩, fun _ => ⟨TX11, 17, rfl⟩⟩
theorem vcl_13_136 (base : Nat) : pCL base 13 (136, 1, 119, 2) := fun _ q hq => by
  have hq2 : eMT1 119 = some q := hq
  cases (show eMT1 119 = some (em_119, 4) from rfl).symm.trans hq2
  exact ⟨yX12_cut, cX12_cut, (some .int), vm_119, ⟨by decide +kernel, Or.inr (Or.inl ⟨rfl, tbT 1886 (by decide +kernel) rfl, tbT 1887 (by decide +kernel) rfl, tbT 1888 (by decide +kernel) rfl⟩)⟩, fun _ => ⟨TX12, 55, rfl⟩⟩
theorem vcl_13_137 (base : Nat) : pCL base 13 (137, 1, 63, 2) := fun _ q hq => by
  have hq2 : eMT1 63 = some q := hq
  cases (show eMT1 63 = some (em_63, 2) from rfl).symm.trans hq2
  exact ⟨yX11_exchange, cX11_exchange, (some .int), vm_63, ⟨by decide +kernel, Or.inr (Or.inl ⟨rfl, tbT 1031 (by decide +kernel) rfl, tbT 1032 (by decide +kernel) rfl, tbT 1033 (by decide +kernel) rfl⟩)⟩, fun _ => ⟨TX11, 17, rfl⟩⟩
theorem vcl_13_140 (base : Nat) : pCL base 13 (140, 1, 123, 2) := fun _ q hq => by
  have hq2 : eMT1 123 = some q := hq
  cases (show eMT1 123 = some (em_123, 2) from rfl).symm.trans hq2
  exact ⟨yX12_exchange, cX12_exchange, (some .int), vm_123, ⟨by decide +kernel, Or.inr (Or.inl ⟨rfl, tbT 1894 (by decide +kernel) rfl, tbT 1895 (by decide +kernel) rfl, tbT 1896 (by decide +kernel) rfl⟩)⟩, fun _ => ⟨TX12, 55, rfl⟩⟩
theorem vcl_13_141 (base : Nat) : pCL base 13 (141, 1, 90, 1) := fun _ q hq => by
  have hq2 : eMT1 90 = some q := hq
  cases (show eMT1 90 = some (em_90, 1) from rfl).symm.trans hq2
  exact ⟨yX11_rings, cX11_rings, (some .int), vm_90, ⟨by decide +kernel, Or.inr (Or.inl ⟨rfl, tbT 1063 (by decide +kernel) rfl, tbT 1064 (by decide +kernel) rfl, tbT 1065 (by decide +kernel) rfl⟩)⟩, fun _ => ⟨TX11, 17, rfl⟩⟩
theorem vcl_13_144 (base : Nat) : pCL base 13 (144, 1, 155, 1) := fun _ q hq => by
  have hq2 : eMT1 155 = some q := hq
  cases (show eMT1 155 = some (em_155, 1) from rfl).symm.trans hq2
  exact ⟨yX12_rings, cX12_rings, (some .int), vm_155, ⟨by decide +kernel, Or.inr (Or.inl ⟨rfl, tbT 1910 (by decide +kernel) rfl, tbT 1911 (by decide +kernel) rfl, tbT 1912 (by decide +kernel) rfl⟩)⟩, fun _ => ⟨TX12, 55, rfl⟩⟩
theorem vcl_13_145 (base : Nat) : pCL base 13 (145, 1, 88, 1) := fun _ q hq => by
  have hq2 : eMT1 88 = some q := hq
  cases (show eMT1 88 = some (em_88, 1) from rfl).symm.trans hq2
  exact ⟨yX11_prices, cX11_prices, (some .int), vm_88, ⟨by decide +kernel, Or.inr (Or.inl ⟨rfl, tbT 1067 (by decide +kernel) rfl, tbT 1068 (by decide +kernel) rfl, tbT 1069 (by decide +kernel) rfl⟩)⟩, fun _ => ⟨TX11, 17, rfl⟩⟩
theorem vcl_13_148 (base : Nat) : pCL base 13 (148, 1, 153, 1) := fun _ q hq => by
  have hq2 : eMT1 153 = some q := hq
  cases (show eMT1 153 = some (em_153, 4) from rfl).symm.trans hq2
  exact ⟨yX12_prices, cX12_prices, (some .int), vm_153, ⟨by decide +kernel, Or.inr (Or.inl ⟨rfl, tbT 1914 (by decide +kernel) rfl, tbT 1915 (by decide +kernel) rfl, tbT 1916 (by decide +kernel) rfl⟩)⟩, fun _ => ⟨TX12, 55, rfl⟩⟩
theorem vcl_13_149 (base : Nat) : pCL base 13 (149, 1, 87, 2) := fun _ q hq => by
  have hq2 : eMT1 87 = some q := hq
  cases (show eMT1 87 = some (em_87, 2) from rfl).symm.trans hq2
  exact ⟨yX11_price, cX11_price, (some .int), vm_87, ⟨by decide +kernel, Or.inr (Or.inl ⟨rfl, tbT 1087 (by decide +kernel) rfl, tbT 1088 (by decide +kernel) rfl, tbT 1089 (by decide +kernel) rfl⟩)⟩, fun _ => ⟨TX11, 17, rfl⟩⟩
theorem vcl_13_152 (base : Nat) : pCL base 13 (152, 1, 152, 2) := fun _ q hq => by
  have hq2 : eMT1 152 = some q := hq
  cases (show eMT1 152 = some (em_152, 2) from rfl).symm.trans hq2
  exact ⟨yX12_price, cX12_price, (some .int), vm_152, ⟨by decide +kernel, Or.inr (Or.inl ⟨rfl, tbT 1922 (by decide +kernel) rfl, tbT 1923 (by decide +kernel) rfl, tbT 1924 (by decide +kernel) rfl⟩)⟩, fun _ => ⟨TX12, 55, rfl⟩⟩
theorem vcl_13_153 (base : Nat) : pCL base 13 (153, 1, 101, 2) := fun _ q hq => by
  have hq2 : eMT1 101 = some q := hq
  cases (show eMT1 101 = some (em_101, 2) from rfl).symm.trans hq2
  exact ⟨yX11_wants, cX11_wants, (some .int), vm_101, ⟨by decide +kernel, Or.inr (Or.inl ⟨rfl, tbT 1091 (by decide +kernel) rfl, tbT 1092 (by decide +kernel) rfl, tbT 1093 (by decide +kernel) rfl⟩)⟩, fun _ => ⟨TX11, 17, rfl⟩⟩
theorem vcl_13_156 (base : Nat) : pCL base 13 (156, 1, 173, 2) := fun _ q hq => by
  have hq2 : eMT1 173 = some q := hq
  cases (show eMT1 173 = some (em_173, 2) from rfl).symm.trans hq2
  exact ⟨yX12_wants, cX12_wants, (some .int), vm_173, ⟨by decide +kernel, Or.inr (Or.inl ⟨rfl, tbT 1926 (by decide +kernel) rfl, tbT 1927 (by decide +kernel) rfl, tbT 1928 (by decide +kernel) rfl⟩)⟩, fun _ => ⟨TX12, 55, rfl⟩⟩
theorem vcl_13_157 (base : Nat) : pCL base 13 (157, 1, 100, 1) := fun _ q hq => by
  have hq2 : eMT1 100 = some q := hq
  cases (show eMT1 100 = some (em_100, 2) from rfl).symm.trans hq2
  exact ⟨yX11_walked, cX11_walked, (some .int), vm_100, ⟨by decide +kernel, Or.inr (Or.inl ⟨rfl, tbT 975 (by decide +kernel) rfl, tbT 976 (by decide +kernel) rfl, tbT 977 (by decide +kernel) rfl⟩)⟩, fun _ => ⟨TX11, 17, rfl⟩⟩
theorem vcl_13_160 (base : Nat) : pCL base 13 (160, 1, 172, 1) := fun _ q hq => by
  have hq2 : eMT1 172 = some q := hq
  cases (show eMT1 172 = some (em_172, 5) from rfl).symm.trans hq2
  exact ⟨yX12_walked, cX12_walked, (some .int), vm_172, ⟨by decide +kernel, Or.inr (Or.inl ⟨rfl, tbT 1930 (by decide +kernel) rfl, tbT 1931 (by decide +kernel) rfl, tbT 1932 (by decide +kernel) rfl⟩)⟩, fun _ => ⟨TX12, 55, rfl⟩⟩
theorem vcl_13_161 (base : Nat) : pCL base 13 (161, 1, 57, 2) := fun _ q hq => by
  have hq2 : eMT1 57 = some q := hq
  cases (show eMT1 57 = some (em_57, 4) from rfl).symm.trans hq2
  exact ⟨yX11_corridor, cX11_corridor, (some .int), vm_57, ⟨by decide +kernel, Or.inr (Or.inl ⟨rfl, tbT 1095 (by decide +kernel) rfl, tbT 1096 (by decide +kernel) rfl, tbT 1097 (by decide +kernel) rfl⟩)⟩, fun _ => ⟨TX11, 17, rfl⟩⟩
theorem vcl_13_164 (base : Nat) : pCL base 13 (164, 1, 117, 2) := fun _ q hq => by
  have hq2 : eMT1 117 = some q := hq
  cases (show eMT1 117 = some (em_117, 4) from rfl).symm.trans hq2
  exact ⟨yX12_corridor, cX12_corridor, (some .int), vm_117, ⟨by decide +kernel, Or.inr (Or.inl ⟨rfl, tbT 1938 (by decide +kernel) rfl, tbT 1939 (by decide +kernel) rfl, tbT 1940 (by decide +kernel) rfl⟩)⟩, fun _ => ⟨TX12, 55, rfl⟩⟩
theorem vcl_13_165 (base : Nat) : pCL base 13 (165, 1, 70, 2) := fun _ q hq => by
  have hq2 : eMT1 70 = some q := hq
  cases (show eMT1 70 = some (em_70, 2) from rfl).symm.trans hq2
  exact ⟨yX11_heir, cX11_heir, (some .int), vm_70, ⟨by decide +kernel, Or.inr (Or.inl ⟨rfl, tbT 1103 (by decide +kernel) rfl, tbT 1104 (by decide +kernel) rfl, tbT 1105 (by decide +kernel) rfl⟩)⟩, fun _ => ⟨TX11, 17, rfl⟩⟩
theorem vcl_13_168 (base : Nat) : pCL base 13 (168, 1, 131, 2) := fun _ q hq => by
  have hq2 : eMT1 131 = some q := hq
  cases (show eMT1 131 = some (em_131, 2) from rfl).symm.trans hq2
  exact ⟨yX12_heir, cX12_heir, (some .int), vm_131, ⟨by decide +kernel, Or.inr (Or.inl ⟨rfl, tbT 1942 (by decide +kernel) rfl, tbT 1943 (by decide +kernel) rfl, tbT 1944 (by decide +kernel) rfl⟩)⟩, fun _ => ⟨TX12, 55, rfl⟩⟩
theorem vcl_13_169 (base : Nat) : pCL base 13 (169, 1, 68, 2) := fun _ q hq => by
  have hq2 : eMT1 68 = some q := hq
  cases (show eMT1 68 = some (em_68, 5) from rfl).symm.trans hq2
  exact ⟨yX11_guests, cX11_guests, (some .int), vm_68, ⟨by decide +kernel, Or.inr (Or.inl ⟨rfl, tbT 1108 (by decide +kernel) rfl, tbT 1109 (by decide +kernel) rfl, tbT 1110 (by decide +kernel) rfl⟩)⟩, fun _ => ⟨TX11, 17, rfl⟩⟩
theorem vcl_13_172 (base : Nat) : pCL base 13 (172, 1, 130, 2) := fun _ q hq => by
  have hq2 : eMT1 130 = some q := hq
  cases (show eMT1 130 = some (em_130, 7) from rfl).symm.trans hq2
  exact ⟨yX12_guests, cX12_guests, (some .int), vm_130, ⟨by decide +kernel, Or.inr (Or.inl ⟨rfl, tbT 1946 (by decide +kernel) rfl, tbT 1947 (by decide +kernel) rfl, tbT 1948 (by decide +kernel) rfl⟩)⟩, fun _ => ⟨TX12, 55, rfl⟩⟩
theorem vcl_13_173 (base : Nat) : pCL base 13 (173, 1, 82, 1) := fun _ q hq => by
  have hq2 : eMT1 82 = some q := hq
  cases (show eMT1 82 = some (em_82, 3) from rfl).symm.trans hq2
  exact ⟨yX11_mixed, cX11_mixed, (some .int), vm_82, ⟨by decide +kernel, Or.inr (Or.inl ⟨rfl, tbT 1120 (by decide +kernel) rfl, tbT 1121 (by decide +kernel) rfl, tbT 1122 (by decide +kernel) rfl⟩)⟩, fun _ => ⟨TX11, 17, rfl⟩⟩
theorem vcl_13_176 (base : Nat) : pCL base 13 (176, 1, 145, 1) := fun _ q hq => by
  have hq2 : eMT1 145 = some q := hq
  cases (show eMT1 145 = some (em_145, 6) from rfl).symm.trans hq2
  exact ⟨yX12_mixed, cX12_mixed, (some .int), vm_145, ⟨by decide +kernel, Or.inr (Or.inl ⟨rfl, tbT 1954 (by decide +kernel) rfl, tbT 1955 (by decide +kernel) rfl, tbT 1956 (by decide +kernel) rfl⟩)⟩, fun _ => ⟨TX12, 55, rfl⟩⟩
theorem vcl_13_177 (base : Nat) : pCL base 13 (177, 1, 61, 3) := fun _ q hq => by
  have hq2 : eMT1 61 = some q := hq
  cases (show eMT1 61 = some (em_61, 4) from rfl).symm.trans hq2
  exact ⟨yX11_drawn, cX11_drawn, (some .int), vm_61, ⟨by decide +kernel, Or.inr (Or.inl ⟨rfl, tbT 877 (by decide +kernel) rfl, tbT 878 (by decide +kernel) rfl, tbT 879 (by decide +kernel) rfl⟩)⟩, fun _ => ⟨TX11, 17, rfl⟩⟩
theorem vcl_13_180 (base : Nat) : pCL base 13 (180, 1, 121, 3) := fun _ q hq => by
  have hq2 : eMT1 121 = some q := hq
  cases (show eMT1 121 = some (em_121, 3) from rfl).symm.trans hq2
  exact ⟨yX12_drawn, cX12_drawn, (some .int), vm_121, ⟨by decide +kernel, Or.inr (Or.inl ⟨rfl, tbT 1958 (by decide +kernel) rfl, tbT 1959 (by decide +kernel) rfl, tbT 1960 (by decide +kernel) rfl⟩)⟩, fun _ => ⟨TX12, 55, rfl⟩⟩
theorem vcl_13_181 (base : Nat) : pCL base 13 (181, 1, 84, 4) := fun _ q hq => by
  have hq2 : eMT1 84 = some q := hq
  cases (show eMT1 84 = some (em_84, 7) from rfl).symm.trans hq2
  exact ⟨yX11_odds, cX11_odds, (some .int), vm_84, ⟨by decide +kernel, Or.inr (Or.inl ⟨rfl, tbT 901 (by decide +kernel) rfl, tbT 902 (by decide +kernel) rfl, tbT 903 (by decide +kernel) rfl⟩)⟩, fun _ => ⟨TX11, 17, rfl⟩⟩
theorem vcl_13_184 (base : Nat) : pCL base 13 (184, 1, 147, 4) := fun _ q hq => by
  have hq2 : eMT1 147 = some q := hq
  cases (show eMT1 147 = some (em_147, 6) from rfl).symm.trans hq2
  exact ⟨yX12_odds, cX12_odds, (some .int), vm_147, ⟨by decide +kernel, Or.inr (Or.inl ⟨rfl, tbT 1975 (by decide +kernel) rfl, tbT 1976 (by decide +kernel) rfl, tbT 1977 (by decide +kernel) rfl⟩)⟩, fun _ => ⟨TX12, 55, rfl⟩⟩
theorem vcl_13_185 (base : Nat) : pCL base 13 (185, 1, 54, 2) := fun _ q hq => by
  have hq2 : eMT1 54 = some q := hq
  cases (show eMT1 54 = some (em_54, 3) from rfl).symm.trans hq2
  exact ⟨yX11_book, cX11_book, (some .int), vm_54, ⟨by decide +kernel, Or.inr (Or.inl ⟨rfl, tbT 1132 (by decide +kernel) rfl, tbT 1133 (by decide +kernel) rfl, tbT 1134 (by decide +kernel) rfl⟩)⟩, fun _ => ⟨TX11, 17, rfl⟩⟩
theorem vcl_13_188 (base : Nat) : pCL base 13 (188, 1, 112, 2) := fun _ q hq => by
  have hq2 : eMT1 112 = some q := hq
  cases (show eMT1 112 = some (em_112, 7) from rfl).symm.trans hq2
  exact ⟨yX12_book, cX12_book, (some .int), vm_112, ⟨by decide +kernel, Or.inr (Or.inl ⟨rfl, tbT 1979 (by decide +kernel) rfl, tbT 1980 (by decide +kernel) rfl, tbT 1981 (by decide +kernel) rfl⟩)⟩, fun _ => ⟨TX12, 55, rfl⟩⟩
theorem vcl_13_189 (base : Nat) : pCL base 13 (189, 1, 55, 2) := fun _ q hq => by
  have hq2 : eMT1 55 = some q := hq
  cases (show eMT1 55 = some (em_55, 2) from rfl).symm.trans hq2
  exact ⟨yX11_booked, cX11_booked, (some .int), vm_55, ⟨by decide +kernel, Or.inr (Or.inl ⟨rfl, tbT 1189 (by decide +kernel) rfl, tbT 1190 (by decide +kernel) rfl, tbT 1191 (by decide +kernel) rfl⟩)⟩, fun _ => ⟨TX11, 17, rfl⟩⟩
theorem vcl_13_192 (base : Nat) : pCL base 13 (192, 1, 113, 2) := fun _ q hq => by
  have hq2 : eMT1 113 = some q := hq
  cases (show eMT1 113 = some (em_113, 2) from rfl).symm.trans hq2
  exact ⟨yX12_booked, cX12_booked, (some .int), vm_113, ⟨by decide +kernel, Or.inr (Or.inl ⟨rfl, tbT 1999 (by decide +kernel) rfl, tbT 2000 (by decide +kernel) rfl, tbT 2001 (by decide +kernel) rfl⟩)⟩, fun _ => ⟨TX12, 55, rfl⟩⟩
theorem vcl_13_193 (base : Nat) : pCL base 13 (193, 1, 93, 1) := fun _ q hq => by
  have hq2 : eMT1 93 = some q := hq
  cases (show eMT1 93 = some (em_93, 2) from rfl).symm.trans hq2
  exact ⟨yX11_sentence, cX11_sentence, (some .int), vm_93, ⟨by decide +kernel, Or.inr (Or.inl ⟨rfl, tbT 1193 (by decide +kernel) rfl, tbT 1194 (by decide +kernel) rfl, tbT 1195 (by decide +kernel) rfl⟩)⟩, fun _ => ⟨TX11, 17, rfl⟩⟩
theorem vcl_13_196 (base : Nat) : pCL base 13 (196, 1, 160, 1) := fun _ q hq => by
  have hq2 : eMT1 160 = some q := hq
  cases (show eMT1 160 = some (em_160, 3) from rfl).symm.trans hq2
  exact ⟨yX12_sentence, cX12_sentence, (some .int), vm_160, ⟨by decide +kernel, Or.inr (Or.inl ⟨rfl, tbT 2003 (by decide +kernel) rfl, tbT 2004 (by decide +kernel) rfl, tbT 2005 (by decide +kernel) rfl⟩)⟩, fun _ => ⟨TX12, 55, rfl⟩⟩
theorem vcl_13_197 (base : Nat) : pCL base 13 (197, 1, 91, 2) := fun _ q hq => by
  have hq2 : eMT1 91 = some q := hq
  cases (show eMT1 91 = some (em_91, 5) from rfl).symm.trans hq2
  exact ⟨yX11_said, cX11_said, (some .int), vm_91, ⟨by decide +kernel, Or.inr (Or.inl ⟨rfl, tbT 1235 (by decide +kernel) rfl, tbT 1236 (by decide +kernel) rfl, tbT 1237 (by decide +kernel) rfl⟩)⟩, fun _ => ⟨TX11, 17, rfl⟩⟩
theorem vcl_13_200 (base : Nat) : pCL base 13 (200, 1, 158, 2) := fun _ q hq => by
  have hq2 : eMT1 158 = some q := hq
  cases (show eMT1 158 = some (em_158, 4) from rfl).symm.trans hq2
  exact ⟨yX12_said, cX12_said, (some .int), vm_158, ⟨by decide +kernel, Or.inr (Or.inl ⟨rfl, tbT 2031 (by decide +kernel) rfl, tbT 2032 (by decide +kernel) rfl, tbT 2033 (by decide +kernel) rfl⟩)⟩, fun _ => ⟨TX12, 55, rfl⟩⟩
theorem vcl_13_201 (base : Nat) : pCL base 13 (201, 1, 71, 2) := fun _ q hq => by
  have hq2 : eMT1 71 = some q := hq
  cases (show eMT1 71 = some (em_71, 2) from rfl).symm.trans hq2
  exact ⟨yX11_image, cX11_image, (some .boolean), vm_71, ⟨by decide +kernel, Or.inr (Or.inl ⟨rfl, tbT 1277 (by decide +kernel) rfl, tbT 1278 (by decide +kernel) rfl, tbT 1279 (by decide +kernel) rfl⟩)⟩, fun _ => ⟨TX11, 17, rfl⟩⟩
theorem vcl_13_204 (base : Nat) : pCL base 13 (204, 1, 132, 2) := fun _ q hq => by
  have hq2 : eMT1 132 = some q := hq
  cases (show eMT1 132 = some (em_132, 3) from rfl).symm.trans hq2
  exact ⟨yX12_image, cX12_image, (some .boolean), vm_132, ⟨by decide +kernel, Or.inr (Or.inl ⟨rfl, tbT 2047 (by decide +kernel) rfl, tbT 2048 (by decide +kernel) rfl, tbT 2049 (by decide +kernel) rfl⟩)⟩, fun _ => ⟨TX12, 55, rfl⟩⟩
theorem vcl_13_205 (base : Nat) : pCL base 13 (205, 1, 89, 2) := fun _ q hq => by
  have hq2 : eMT1 89 = some q := hq
  cases (show eMT1 89 = some (em_89, 2) from rfl).symm.trans hq2
  exact ⟨yX11_restore, cX11_restore, (some .boolean), vm_89, ⟨by decide +kernel, Or.inr (Or.inl ⟨rfl, tbT 1281 (by decide +kernel) rfl, tbT 1282 (by decide +kernel) rfl, tbT 1283 (by decide +kernel) rfl⟩)⟩, fun _ => ⟨TX11, 17, rfl⟩⟩
theorem vcl_13_208 (base : Nat) : pCL base 13 (208, 1, 154, 2) := fun _ q hq => by
  have hq2 : eMT1 154 = some q := hq
  cases (show eMT1 154 = some (em_154, 3) from rfl).symm.trans hq2
  exact ⟨yX12_restore, cX12_restore, (some .boolean), vm_154, ⟨by decide +kernel, Or.inr (Or.inl ⟨rfl, tbT 2051 (by decide +kernel) rfl, tbT 2052 (by decide +kernel) rfl, tbT 2053 (by decide +kernel) rfl⟩)⟩, fun _ => ⟨TX12, 55, rfl⟩⟩
theorem vcl_13_209 (base : Nat) : pCL base 13 (209, 1, 58, 2) := fun _ q hq => by
  have hq2 : eMT1 58 = some q := hq
  cases (show eMT1 58 = some (em_58, 2) from rfl).symm.trans hq2
  exact ⟨yX11_count, cX11_count, (some .int), vm_58, ⟨by decide +kernel, Or.inr (Or.inl ⟨rfl, tbT 747 (by decide +kernel) rfl, tbT 748 (by decide +kernel) rfl, tbT 749 (by decide +kernel) rfl⟩)⟩, fun _ => ⟨TX11, 17, rfl⟩⟩
theorem vcl_13_212 (base : Nat) : pCL base 13 (212, 1, 118, 2) := fun _ q hq => by
  have hq2 : eMT1 118 = some q := hq
  cases (show eMT1 118 = some (em_118, 2) from rfl).symm.trans hq2
  exact ⟨yX12_count, cX12_count, (some .int), vm_118, ⟨by decide +kernel, Or.inr (Or.inl ⟨rfl, tbT 2055 (by decide +kernel) rfl, tbT 2056 (by decide +kernel) rfl, tbT 2057 (by decide +kernel) rfl⟩)⟩, fun _ => ⟨TX12, 55, rfl⟩⟩
theorem vcl_13 (base : Nat) : ∀ x ∈ ecl__13, pCL base 13 x := List.forall_mem_cons.mpr ⟨(vcl_13_15 base), List.forall_mem_cons.mpr ⟨(vcl_13_18 base), List.forall_mem_cons.mpr ⟨(vcl_13_19 base), List.forall_mem_cons.mpr ⟨(vcl_13_23 base), List.forall_mem_cons.mpr ⟨(vcl_13_24 base), List.forall_mem_cons.mpr ⟨(vcl_13_28 base), List.forall_mem_cons.mpr ⟨(vcl_13_29 base), List.forall_mem_cons.mpr ⟨(vcl_13_33 base), List.forall_mem_cons.mpr ⟨(vcl_13_34 base), List.forall_mem_cons.mpr ⟨(vcl_13_37 base), List.forall_mem_cons.mpr ⟨(vcl_13_38 base), List.forall_mem_cons.mpr ⟨(vcl_13_43 base), List.forall_mem_cons.mpr ⟨(vcl_13_44 base), List.forall_mem_cons.mpr ⟨(vcl_13_47 base), List.forall_mem_cons.mpr ⟨(vcl_13_50 base), List.forall_mem_cons.mpr ⟨(vcl_13_51 base), List.forall_mem_cons.mpr ⟨(vcl_13_54 base), List.forall_mem_cons.mpr ⟨(vcl_13_55 base), List.forall_mem_cons.mpr ⟨(vcl_13_59 base), List.forall_mem_cons.mpr ⟨(vcl_13_60 base), List.forall_mem_cons.mpr ⟨(vcl_13_63 base), List.forall_mem_cons.mpr ⟨(vcl_13_64 base), List.forall_mem_cons.mpr ⟨(vcl_13_67 base), List.forall_mem_cons.mpr ⟨(vcl_13_68 base), List.forall_mem_cons.mpr ⟨(vcl_13_72 base), List.forall_mem_cons.mpr ⟨(vcl_13_73 base), List.forall_mem_cons.mpr ⟨(vcl_13_76 base), List.forall_mem_cons.mpr ⟨(vcl_13_77 base), List.forall_mem_cons.mpr ⟨(vcl_13_80 base), List.forall_mem_cons.mpr ⟨(vcl_13_81 base), List.forall_mem_cons.mpr ⟨(vcl_13_84 base), List.forall_mem_cons.mpr ⟨(vcl_13_85 base), List.forall_mem_cons.mpr ⟨(vcl_13_88 base), List.forall_mem_cons.mpr ⟨(vcl_13_89 base), List.forall_mem_cons.mpr ⟨(vcl_13_92 base), List.forall_mem_cons.mpr ⟨(vcl_13_93 base), List.forall_mem_cons.mpr ⟨(vcl_13_96 base), List.forall_mem_cons.mpr ⟨(vcl_13_97 base), List.forall_mem_cons.mpr ⟨(vcl_13_100 base), List.forall_mem_cons.mpr ⟨(vcl_13_101 base), List.forall_mem_cons.mpr ⟨(vcl_13_104 base), List.forall_mem_cons.mpr ⟨(vcl_13_105 base), List.forall_mem_cons.mpr ⟨(vcl_13_108 base), List.forall_mem_cons.mpr ⟨(vcl_13_109 base), List.forall_mem_cons.mpr ⟨(vcl_13_112 base), List.forall_mem_cons.mpr ⟨(vcl_13_113 base), List.forall_mem_cons.mpr ⟨(vcl_13_116 base), List.forall_mem_cons.mpr ⟨(vcl_13_117 base), List.forall_mem_cons.mpr ⟨(vcl_13_120 base), List.forall_mem_cons.mpr ⟨(vcl_13_121 base), List.forall_mem_cons.mpr ⟨(vcl_13_124 base), List.forall_mem_cons.mpr ⟨(vcl_13_125 base), List.forall_mem_cons.mpr ⟨(vcl_13_128 base), List.forall_mem_cons.mpr ⟨(vcl_13_129 base), List.forall_mem_cons.mpr ⟨(vcl_13_132 base), List.forall_mem_cons.mpr ⟨(vcl_13_133 base), List.forall_mem_cons.mpr ⟨(vcl_13_136 base), List.forall_mem_cons.mpr ⟨(vcl_13_137 base), List.forall_mem_cons.mpr ⟨(vcl_13_140 base), List.forall_mem_cons.mpr ⟨(vcl_13_141 base), List.forall_mem_cons.mpr ⟨(vcl_13_144 base), List.forall_mem_cons.mpr ⟨(vcl_13_145 base), List.forall_mem_cons.mpr ⟨(vcl_13_148 base), List.forall_mem_cons.mpr ⟨(vcl_13_149 base), List.forall_mem_cons.mpr ⟨(vcl_13_152 base), List.forall_mem_cons.mpr ⟨(vcl_13_153 base), List.forall_mem_cons.mpr ⟨(vcl_13_156 base), List.forall_mem_cons.mpr ⟨(vcl_13_157 base), List.forall_mem_cons.mpr ⟨(vcl_13_160 base), List.forall_mem_cons.mpr ⟨(vcl_13_161 base), List.forall_mem_cons.mpr ⟨(vcl_13_164 base), List.forall_mem_cons.mpr ⟨(vcl_13_165 base), List.forall_mem_cons.mpr ⟨(vcl_13_168 base), List.forall_mem_cons.mpr ⟨(vcl_13_169 base), List.forall_mem_cons.mpr ⟨(vcl_13_172 base), List.forall_mem_cons.mpr ⟨(vcl_13_173 base), List.forall_mem_cons.mpr ⟨(vcl_13_176 base), List.forall_mem_cons.mpr ⟨(vcl_13_177 base), List.forall_mem_cons.mpr ⟨(vcl_13_180 base), List.forall_mem_cons.mpr ⟨(vcl_13_181 base), List.forall_mem_cons.mpr ⟨(vcl_13_184 base), List.forall_mem_cons.mpr ⟨(vcl_13_185 base), List.forall_mem_cons.mpr ⟨(vcl_13_188 base), List.forall_mem_cons.mpr ⟨(vcl_13_189 base), List.forall_mem_cons.mpr ⟨(vcl_13_192 base), List.forall_mem_cons.mpr ⟨(vcl_13_193 base), List.forall_mem_cons.mpr ⟨(vcl_13_196 base), List.forall_mem_cons.mpr ⟨(vcl_13_197 base), List.forall_mem_cons.mpr ⟨(vcl_13_200 base), List.forall_mem_cons.mpr ⟨(vcl_13_201 base), List.forall_mem_cons.mpr ⟨(vcl_13_204 base), List.forall_mem_cons.mpr ⟨(vcl_13_205 base), List.forall_mem_cons.mpr ⟨(vcl_13_208 base), List.forall_mem_cons.mpr ⟨(vcl_13_209 base), List.forall_mem_cons.mpr ⟨(vcl_13_212 base), fun _ h => absurd h List.not_mem_nil⟩⟩⟩⟩⟩⟩⟩⟩⟩⟩⟩⟩⟩⟩⟩⟩⟩⟩⟩⟩⟩⟩⟩⟩⟩⟩⟩⟩⟩⟩⟩⟩⟩⟩⟩⟩⟩⟩⟩⟩⟩⟩⟩⟩⟩⟩⟩⟩⟩⟩⟩⟩⟩⟩⟩⟩⟩⟩⟩⟩⟩⟩⟩⟩⟩⟩⟩⟩⟩⟩⟩⟩⟩⟩⟩⟩⟩⟩⟩⟩⟩⟩⟩⟩⟩⟩⟩⟩⟩⟩⟩⟩⟩⟩⟩
theorem vcl_14 (base : Nat) : ∀ x ∈ ecl__14, pCL base 14 x := fun _ h => absurd h List.not_mem_nil
theorem vcl_15 (base : Nat) : ∀ x ∈ ecl__15, pCL base 15 x := fun _ h => absurd h List.not_mem_nil
theorem vcl_16 (base : Nat) : ∀ x ∈ ecl__16, pCL base 16 x := fun _ h => absurd h List.not_mem_nil
theorem vcl (base : Nat) : eAll (pCL base) 0 ecl_ := ⟨(vcl_0 base), (vcl_1 base), (vcl_2 base), (vcl_3 base), (vcl_4 base), (vcl_5 base), (vcl_6 base), (vcl_7 base), (vcl_8 base), (vcl_9 base), (vcl_10 base), (vcl_11 base), (vcl_12 base), (vcl_13 base), (vcl_14 base), (vcl_15 base), (vcl_16 base), trivial⟩
theorem v_CL (base : Nat) : eCok vwCl Tb1 (NF1 base) eCN eCL1 eMT1 := fun o idx kd mno n h => ea2_all (P := pCL base) (vcl base) h
def pOb (o : Nat) (x : Nat × Nat × Nat × Nat) : Prop := (x.2.1 = 6 → Cond.methodLink (eCN o) x.1 objectInit ∈ Tb1) ∧ (x.2.1 = 7 → Cond.methodLink (eCN o) x.1 arraycopyName ∈ Tb1)
theorem vob_0_3 : pOb 0 (3, 6, 0, 1) := ⟨fun _ => tbT 324 (by decide +kernel) rfl, fun h => absurd h (by decide)⟩
theorem vob_0_28 : pOb 0 (28, 1, 35, 2) := ⟨fun h => absurd h (by decide), fun h => absurd h (by decide)⟩
theorem vob_0 : ∀ x ∈ ecl__0, pOb 0 x := List.forall_mem_cons.mpr ⟨vob_0_3, List.forall_mem_cons.mpr ⟨vob_0_28, fun _ h => absurd h List.not_mem_nil⟩⟩
theorem vob_1_3 : pOb 1 (3, 6, 0, 1) := ⟨fun _ => tbT 198 (by decide +kernel) rfl, fun h => absurd h (by decide)⟩
theorem vob_1_27 : pOb 1 (27, 0, 180, 2) := ⟨fun h => absurd h (by decide), fun h => absurd h (by decide)⟩
theorem vob_1_49 : pOb 1 (49, 7, 0, 5) := ⟨fun h => absurd h (by decide), fun _ => tbT 693 (by decide +kernel) rfl⟩
theorem vob_1_59 : pOb 1 (59, 3, 53, 1) := ⟨fun h => absurd h (by decide), fun h => absurd h (by decide)⟩
theorem vob_1 : ∀ x ∈ ecl__1, pOb 1 x := List.forall_mem_cons.mpr ⟨vob_1_3, List.forall_mem_cons.mpr ⟨vob_1_27, List.forall_mem_cons.mpr ⟨vob_1_49, List.forall_mem_cons.mpr ⟨vob_1_59, fun _ h => absurd h List.not_mem_nil⟩⟩⟩⟩
theorem vob_2_3 : pOb 2 (3, 6, 0, 1) := ⟨fun _ => tbT 443 (by decide +kernel) rfl, fun h => absurd h (by decide)⟩
theorem vob_2 : ∀ x ∈ ecl__2, pOb 2 x := List.forall_mem_cons.mpr ⟨vob_2_3, fun _ h => absurd h List.not_mem_nil⟩
theorem vob_3_3 : pOb 3 (3, 6, 0, 1) := ⟨fun _ => tbT 394 (by decide +kernel) rfl, fun h => absurd h (by decide)⟩
theorem vob_3_27 : pOb 3 (27, 1, 41, 3) := ⟨fun h => absurd h (by decide), fun h => absurd h (by decide)⟩
theorem vob_3 : ∀ x ∈ ecl__3, pOb 3 x := List.forall_mem_cons.mpr ⟨vob_3_3, List.forall_mem_cons.mpr ⟨vob_3_27, fun _ h => absurd h List.not_mem_nil⟩⟩
theorem vob_4_3 : pOb 4 (3, 6, 0, 1) := ⟨fun _ => tbT 407 (by decide +kernel) rfl, fun h => absurd h (by decide)⟩
theorem vob_4_34 : pOb 4 (34, 0, 180, 2) := ⟨fun h => absurd h (by decide), fun h => absurd h (by decide)⟩
theorem vob_4_40 : pOb 4 (40, 1, 16, 3) := ⟨fun h => absurd h (by decide), fun h => absurd h (by decide)⟩
theorem vob_4_44 : pOb 4 (44, 3, 72, 2) := ⟨fun h => absurd h (by decide), fun h => absurd h (by decide)⟩
theorem vob_4_52 : pOb 4 (52, 1, 14, 1) := ⟨fun h => absurd h (by decide), fun h => absurd h (by decide)⟩
theorem vob_4_55 : pOb 4 (55, 1, 44, 2) := ⟨fun h => absurd h (by decide), fun h => absurd h (by decide)⟩
theorem vob_4_73 : pOb 4 (73, 3, 69, 2) := ⟨fun h => absurd h (by decide), fun h => absurd h (by decide)⟩
theorem vob_4_80 : pOb 4 (80, 1, 18, 2) := ⟨fun h => absurd h (by decide), fun h => absurd h (by decide)⟩
theorem vob_4_83 : pOb 4 (83, 0, 177, 1) := ⟨fun h => absurd h (by decide), fun h => absurd h (by decide)⟩
theorem vob_4_95 : pOb 4 (95, 1, 13, 3) := ⟨fun h => absurd h (by decide), fun h => absurd h (by decide)⟩
theorem vob_4_98 : pOb 4 (98, 1, 17, 1) := ⟨fun h => absurd h (by decide), fun h => absurd h (by decide)⟩
theorem vob_4 : ∀ x ∈ ecl__4, pOb 4 x := List.forall_mem_cons.mpr ⟨vob_4_3, List.forall_mem_cons.mpr ⟨vob_4_34, List.forall_mem_cons.mpr ⟨vob_4_40, List.forall_mem_cons.mpr ⟨vob_4_44, List.forall_mem_cons.mpr ⟨vob_4_52, List.forall_mem_cons.mpr ⟨vob_4_55, List.forall_mem_cons.mpr ⟨vob_4_73, List.forall_mem_cons.mpr ⟨vob_4_80, List.forall_mem_cons.mpr ⟨vob_4_83, List.forall_mem_cons.mpr ⟨vob_4_95, List.forall_mem_cons.mpr ⟨vob_4_98, fun _ h => absurd h List.not_mem_nil⟩⟩⟩⟩⟩⟩⟩⟩⟩⟩⟩
theorem vob_5_3 : pOb 5 (3, 6, 0, 1) := ⟨fun _ => tbT 263 (by decide +kernel) rfl, fun h => absurd h (by decide)⟩
theorem vob_5_17 : pOb 5 (17, 2, 3, 1) := ⟨fun h => absurd h (by decide), fun h => absurd h (by decide)⟩
theorem vob_5_25 : pOb 5 (25, 0, 178, 2) := ⟨fun h => absurd h (by decide), fun h => absurd h (by decide)⟩
theorem vob_5_31 : pOb 5 (31, 1, 23, 1) := ⟨fun h => absurd h (by decide), fun h => absurd h (by decide)⟩
theorem vob_5_35 : pOb 5 (35, 1, 5, 2) := ⟨fun h => absurd h (by decide), fun h => absurd h (by decide)⟩
theorem vob_5 : ∀ x ∈ ecl__5, pOb 5 x := List.forall_mem_cons.mpr ⟨vob_5_3, List.forall_mem_cons.mpr ⟨vob_5_17, List.forall_mem_cons.mpr ⟨vob_5_25, List.forall_mem_cons.mpr ⟨vob_5_31, List.forall_mem_cons.mpr ⟨vob_5_35, fun _ h => absurd h List.not_mem_nil⟩⟩⟩⟩⟩
theorem vob_6_3 : pOb 6 (3, 6, 0, 1) := ⟨fun _ => tbT 282 (by decide +kernel) rfl, fun h => absurd h (by decide)⟩
theorem vob_6_28 : pOb 6 (28, 7, 0, 5) := ⟨fun h => absurd h (by decide), fun _ => tbT 1234 (by decide +kernel) rfl⟩
theorem vob_6_34 : pOb 6 (34, 1, 28, 1) := ⟨fun h => absurd h (by decide), fun h => absurd h (by decide)⟩
theorem vob_6_37 : pOb 6 (37, 1, 35, 2) := ⟨fun h => absurd h (by decide), fun h => absurd h (by decide)⟩
theorem vob_6_43 : pOb 6 (43, 1, 29, 4) := ⟨fun h => absurd h (by decide), fun h => absurd h (by decide)⟩
theorem vob_6_50 : pOb 6 (50, 1, 36, 2) := ⟨fun h => absurd h (by decide), fun h => absurd h (by decide)⟩
theorem vob_6_54 : pOb 6 (54, 1, 30, 4) := ⟨fun h => absurd h (by decide), fun h => absurd h (by decide)⟩
theorem vob_6_57 : pOb 6 (57, 1, 38, 1) := ⟨fun h => absurd h (by decide), fun h => absurd h (by decide)⟩
theorem vob_6_68 : pOb 6 (68, 1, 37, 2) := ⟨fun h => absurd h (by decide), fun h => absurd h (by decide)⟩
theorem vob_6 : ∀ x ∈ ecl__6, pOb 6 x := List.forall_mem_cons.mpr ⟨vob_6_3, List.forall_mem_cons.mpr ⟨vob_6_28, List.forall_mem_cons.mpr ⟨vob_6_34, List.forall_mem_cons.mpr ⟨vob_6_37, List.forall_mem_cons.mpr ⟨vob_6_43, List.forall_mem_cons.mpr ⟨vob_6_50, List.forall_mem_cons.mpr ⟨vob_6_54, List.forall_mem_cons.mpr ⟨vob_6_57, List.forall_mem_cons.mpr ⟨vob_6_68, fun _ h => absurd h List.not_mem_nil⟩⟩⟩⟩⟩⟩⟩⟩⟩
theorem vob_7_3 : pOb 7 (3, 6, 0, 1) := ⟨fun _ => tbT 39 (by decide +kernel) rfl, fun h => absurd h (by decide)⟩
theorem vob_7_19 : pOb 7 (19, 8, 0, 1) := ⟨fun h => absurd h (by decide), fun h => absurd h (by decide)⟩
theorem vob_7_60 : pOb 7 (60, 1, 33, 1) := ⟨fun h => absurd h (by decide), fun h => absurd h (by decide)⟩
theorem vob_7_63 : pOb 7 (63, 0, 179, 2) := ⟨fun h => absurd h (by decide), fun h => absurd h (by decide)⟩
theorem vob_7 : ∀ x ∈ ecl__7, pOb 7 x := List.forall_mem_cons.mpr ⟨vob_7_3, List.forall_mem_cons.mpr ⟨vob_7_19, List.forall_mem_cons.mpr ⟨vob_7_60, List.forall_mem_cons.mpr ⟨vob_7_63, fun _ h => absurd h List.not_mem_nil⟩⟩⟩⟩
theorem vob_8_3 : pOb 8 (3, 6, 0, 1) := ⟨fun _ => tbT 147 (by decide +kernel) rfl, fun h => absurd h (by decide)⟩
theorem vob_8_37 : pOb 8 (37, 0, 180, 2) := ⟨fun h => absurd h (by decide), fun h => absurd h (by decide)⟩
theorem vob_8_50 : pOb 8 (50, 7, 0, 5) := ⟨fun h => absurd h (by decide), fun _ => tbT 686 (by decide +kernel) rfl⟩
theorem vob_8_56 : pOb 8 (56, 3, 72, 2) := ⟨fun h => absurd h (by decide), fun h => absurd h (by decide)⟩
theorem vob_8_64 : pOb 8 (64, 1, 44, 2) := ⟨fun h => absurd h (by decide), fun h => absurd h (by decide)⟩
theorem vob_8_82 : pOb 8 (82, 3, 53, 1) := ⟨fun h => absurd h (by decide), fun h => absurd h (by decide)⟩
theorem vob_8 : ∀ x ∈ ecl__8, pOb 8 x := List.forall_mem_cons.mpr ⟨vob_8_3, List.forall_mem_cons.mpr ⟨vob_8_37, List.forall_mem_cons.mpr ⟨vob_8_50, List.forall_mem_cons.mpr ⟨vob_8_56, List.forall_mem_cons.mpr ⟨vob_8_64, List.forall_mem_cons.mpr ⟨vob_8_82, fun _ h => absurd h List.not_mem_nil⟩⟩⟩⟩⟩⟩
theorem vob_9_3 : pOb 9 (3, 6, 0, 1) := ⟨fun _ => tbT 305 (by decide +kernel) rfl, fun h => absurd h (by decide)⟩
theorem vob_9_11 : pOb 9 (11, 5, 39, 1) := ⟨fun h => absurd h (by decide), fun h => absurd h (by decide)⟩
theorem vob_9_20 : pOb 9 (20, 2, 3, 1) := ⟨fun h => absurd h (by decide), fun h => absurd h (by decide)⟩
theorem vob_9_25 : pOb 9 (25, 1, 43, 1) := ⟨fun h => absurd h (by decide), fun h => absurd h (by decide)⟩
theorem vob_9_28 : pOb 9 (28, 1, 6, 1) := ⟨fun h => absurd h (by decide), fun h => absurd h (by decide)⟩
theorem vob_9_29 : pOb 9 (29, 1, 35, 2) := ⟨fun h => absurd h (by decide), fun h => absurd h (by decide)⟩
theorem vob_9 : ∀ x ∈ ecl__9, pOb 9 x := List.forall_mem_cons.mpr ⟨vob_9_3, List.forall_mem_cons.mpr ⟨vob_9_11, List.forall_mem_cons.mpr ⟨vob_9_20, List.forall_mem_cons.mpr ⟨vob_9_25, List.forall_mem_cons.mpr ⟨vob_9_28, List.forall_mem_cons.mpr ⟨vob_9_29, fun _ h => absurd h List.not_mem_nil⟩⟩⟩⟩⟩⟩
theorem vob_10_3 : pOb 10 (3, 6, 0, 1) := ⟨fun _ => tbT 366 (by decide +kernel) rfl, fun h => absurd h (by decide)⟩
theorem vob_10 : ∀ x ∈ ecl__10, pOb 10 x := List.forall_mem_cons.mpr ⟨vob_10_3, fun _ h => absurd h List.not_mem_nil⟩
theorem vob_11_1 : pOb 11 (1, 6, 0, 1) := ⟨fun _ => tbT 31 (by decide +kernel) rfl, fun h => absurd h (by decide)⟩
theorem vob_11_9 : pOb 11 (9, 2, 32, 1) := ⟨fun h => absurd h (by decide), fun h => absurd h (by decide)⟩
theorem vob_11_18 : pOb 11 (18, 5, 39, 1) := ⟨fun h => absurd h (by decide), fun h => absurd h (by decide)⟩
theorem vob_11_25 : pOb 11 (25, 2, 3, 1) := ⟨fun h => absurd h (by decide), fun h => absurd h (by decide)⟩
theorem vob_11_35 : pOb 11 (35, 2, 20, 1) := ⟨fun h => absurd h (by decide), fun h => absurd h (by decide)⟩
theorem vob_11_42 : pOb 11 (42, 5, 26, 1) := ⟨fun h => absurd h (by decide), fun h => absurd h (by decide)⟩
theorem vob_11_52 : pOb 11 (52, 5, 45, 1) := ⟨fun h => absurd h (by decide), fun h => absurd h (by decide)⟩
theorem vob_11_59 : pOb 11 (59, 5, 0, 1) := ⟨fun h => absurd h (by decide), fun h => absurd h (by decide)⟩
theorem vob_11_66 : pOb 11 (66, 5, 47, 1) := ⟨fun h => absurd h (by decide), fun h => absurd h (by decide)⟩
theorem vob_11_73 : pOb 11 (73, 5, 10, 1) := ⟨fun h => absurd h (by decide), fun h => absurd h (by decide)⟩
theorem vob_11_80 : pOb 11 (80, 5, 12, 1) := ⟨fun h => absurd h (by decide), fun h => absurd h (by decide)⟩
theorem vob_11_87 : pOb 11 (87, 5, 9, 1) := ⟨fun h => absurd h (by decide), fun h => absurd h (by decide)⟩
theorem vob_11_108 : pOb 11 (108, 1, 34, 2) := ⟨fun h => absurd h (by decide), fun h => absurd h (by decide)⟩
theorem vob_11_112 : pOb 11 (112, 1, 46, 2) := ⟨fun h => absurd h (by decide), fun h => absurd h (by decide)⟩
theorem vob_11_122 : pOb 11 (122, 1, 42, 2) := ⟨fun h => absurd h (by decide), fun h => absurd h (by decide)⟩
theorem vob_11_129 : pOb 11 (129, 1, 5, 2) := ⟨fun h => absurd h (by decide), fun h => absurd h (by decide)⟩
theorem vob_11_132 : pOb 11 (132, 1, 28, 1) := ⟨fun h => absurd h (by decide), fun h => absurd h (by decide)⟩
theorem vob_11_135 : pOb 11 (135, 1, 22, 1) := ⟨fun h => absurd h (by decide), fun h => absurd h (by decide)⟩
theorem vob_11_139 : pOb 11 (139, 1, 75, 2) := ⟨fun h => absurd h (by decide), fun h => absurd h (by decide)⟩
theorem vob_11_160 : pOb 11 (160, 0, 69, 2) := ⟨fun h => absurd h (by decide), fun h => absurd h (by decide)⟩
theorem vob_11_171 : pOb 11 (171, 1, 73, 2) := ⟨fun h => absurd h (by decide), fun h => absurd h (by decide)⟩
theorem vob_11_180 : pOb 11 (180, 1, 8, 2) := ⟨fun h => absurd h (by decide), fun h => absurd h (by decide)⟩
theorem vob_11_183 : pOb 11 (183, 1, 40, 1) := ⟨fun h => absurd h (by decide), fun h => absurd h (by decide)⟩
theorem vob_11_196 : pOb 11 (196, 1, 74, 2) := ⟨fun h => absurd h (by decide), fun h => absurd h (by decide)⟩
theorem vob_11_220 : pOb 11 (220, 1, 4, 1) := ⟨fun h => absurd h (by decide), fun h => absurd h (by decide)⟩
theorem vob_11_223 : pOb 11 (223, 1, 44, 2) := ⟨fun h => absurd h (by decide), fun h => absurd h (by decide)⟩
theorem vob_11_229 : pOb 11 (229, 0, 177, 1) := ⟨fun h => absurd h (by decide), fun h => absurd h (by decide)⟩
theorem vob_11_234 : pOb 11 (234, 1, 24, 2) := ⟨fun h => absurd h (by decide), fun h => absurd h (by decide)⟩
theorem vob_11_241 : pOb 11 (241, 1, 78, 2) := ⟨fun h => absurd h (by decide), fun h => absurd h (by decide)⟩
theorem vob_11_244 : pOb 11 (244, 1, 21, 1) := ⟨fun h => absurd h (by decide), fun h => absurd h (by decide)⟩
theorem vob_11_247 : pOb 11 (247, 1, 49, 3) := ⟨fun h => absurd h (by decide), fun h => absurd h (by decide)⟩
theorem vob_11_254 : pOb 11 (254, 0, 77, 1) := ⟨fun h => absurd h (by decide), fun h => absurd h (by decide)⟩
theorem vob_11_273 : pOb 11 (273, 1, 7, 3) := ⟨fun h => absurd h (by decide), fun h => absurd h (by decide)⟩
theorem vob_11_277 : pOb 11 (277, 1, 25, 2) := ⟨fun h => absurd h (by decide), fun h => absurd h (by decide)⟩
theorem vob_11_294 : pOb 11 (294, 0, 72, 2) := ⟨fun h => absurd h (by decide), fun h => absurd h (by decide)⟩
theorem vob_11_313 : pOb 11 (313, 1, 76, 1) := ⟨fun h => absurd h (by decide), fun h => absurd h (by decide)⟩
theorem vob_11_326 : pOb 11 (326, 0, 53, 1) := ⟨fun h => absurd h (by decide), fun h => absurd h (by decide)⟩
theorem vob_11_339 : pOb 11 (339, 1, 11, 4) := ⟨fun h => absurd h (by decide), fun h => absurd h (by decide)⟩
theorem vob_11_345 : pOb 11 (345, 1, 19, 3) := ⟨fun h => absurd h (by decide), fun h => absurd h (by decide)⟩
theorem vob_11_355 : pOb 11 (355, 1, 15, 3) := ⟨fun h => absurd h (by decide), fun h => absurd h (by decide)⟩
theorem vob_11_387 : pOb 11 (387, 1, 2, 3) := ⟨fun h => absurd h (by decide), fun h => absurd h (by decide)⟩
theorem vob_11_390 : pOb 11 (390, 1, 1, 3) := ⟨fun h => absurd h (by decide), fun h => absurd h (by decide)⟩
theorem vob_11_408 : pOb 11 (408, 1, 31, 3) := ⟨fun h => absurd h (by decide), fun h => absurd h (by decide)⟩
theorem vob_11_409 : pOb 11 (409, 1, 27, 2) := ⟨fun h => absurd h (by decide), fun h => absurd h (by decide)⟩
theorem vob_11 : ∀ x ∈ ecl__11, pOb 11 x := List.forall_mem_cons.mpr ⟨vob_11_1, List.forall_mem_cons.mpr ⟨vob_11_9, List.forall_mem_cons.mpr ⟨vob_11_18, List.forall_mem_cons.mpr ⟨vob_11_25, List.forall_mem_cons.mpr ⟨vob_11_35, List.forall_mem_cons.mpr ⟨vob_11_42, List.forall_mem_cons.mpr ⟨vob_11_52, List.forall_mem_cons.mpr ⟨vob_11_59, List.forall_mem_cons.mpr ⟨vob_11_66, List.forall_mem_cons.mpr ⟨vob_11_73, List.forall_mem_cons.mpr ⟨vob_11_80, List.forall_mem_cons.mpr ⟨vob_11_87, List.forall_mem_cons.mpr ⟨vob_11_108, List.forall_mem_cons.mpr ⟨vob_11_112, List.forall_mem_cons.mpr ⟨vob_11_122, List.forall_mem_cons.mpr ⟨vob_11_129, List.forall_mem_cons.mpr ⟨vob_11_132, List.forall_mem_cons.mpr ⟨vob_11_135, List.forall_mem_cons.mpr ⟨vob_11_139, List.forall_mem_cons.mpr ⟨vob_11_160, List.forall_mem_cons.mpr ⟨vob_11_171, List.forall_mem_cons.mpr ⟨vob_11_180, List.forall_mem_cons.mpr ⟨vob_11_183, List.forall_mem_cons.mpr ⟨vob_11_196, List.forall_mem_cons.mpr ⟨vob_11_220, List.forall_mem_cons.mpr ⟨vob_11_223, List.forall_mem_cons.mpr ⟨vob_11_229, List.forall_mem_cons.mpr ⟨vob_11_234, List.forall_mem_cons.mpr ⟨vob_11_241, List.forall_mem_cons.mpr ⟨vob_11_244, List.forall_mem_cons.mpr ⟨vob_11_247, List.forall_mem_cons.mpr ⟨vob_11_254, List.forall_mem_cons.mpr ⟨vob_11_273, List.forall_mem_cons.mpr ⟨vob_11_277, List.forall_mem_cons.mpr ⟨vob_11_294, List.forall_mem_cons.mpr ⟨vob_11_313, List.forall_mem_cons.mpr ⟨vob_11_326, List.forall_mem_cons.mpr ⟨vob_11_339, List.forall_mem_cons.mpr ⟨vob_11_345, List.forall_mem_cons.mpr ⟨vob_11_355, List.forall_mem_cons.mpr ⟨vob_11_387, List.forall_mem_cons.mpr ⟨vob_11_390, List.forall_mem_cons.mpr ⟨vob_11_408, List.forall_mem_cons.mpr ⟨vob_11_409, fun _ h => absurd h List.not_mem_nil⟩⟩⟩⟩⟩⟩⟩⟩⟩⟩⟩⟩⟩⟩⟩⟩⟩⟩⟩⟩⟩⟩⟩⟩⟩⟩⟩⟩⟩⟩⟩⟩⟩⟩⟩⟩⟩⟩⟩⟩⟩⟩⟩⟩
theorem vob_12_10 : pOb 12 (10, 1, 128, 2) := ⟨fun h => absurd h (by decide), fun h => absurd h (by decide)⟩
theorem vob_12_27 : pOb 12 (27, 6, 0, 1) := ⟨fun _ => tbT 1381 (by decide +kernel) rfl, fun h => absurd h (by decide)⟩
theorem vob_12_174 : pOb 12 (174, 1, 151, 1) := ⟨fun h => absurd h (by decide), fun h => absurd h (by decide)⟩
theorem vob_12_207 : pOb 12 (207, 1, 137, 2) := ⟨fun h => absurd h (by decide), fun h => absurd h (by decide)⟩
theorem vob_12_210 : pOb 12 (210, 1, 110, 2) := ⟨fun h => absurd h (by decide), fun h => absurd h (by decide)⟩
theorem vob_12_213 : pOb 12 (213, 1, 162, 1) := ⟨fun h => absurd h (by decide), fun h => absurd h (by decide)⟩
theorem vob_12_216 : pOb 12 (216, 0, 133, 3) := ⟨fun h => absurd h (by decide), fun h => absurd h (by decide)⟩
theorem vob_12_235 : pOb 12 (235, 1, 138, 2) := ⟨fun h => absurd h (by decide), fun h => absurd h (by decide)⟩
theorem vob_12_260 : pOb 12 (260, 1, 165, 2) := ⟨fun h => absurd h (by decide), fun h => absurd h (by decide)⟩
theorem vob_12_275 : pOb 12 (275, 1, 134, 2) := ⟨fun h => absurd h (by decide), fun h => absurd h (by decide)⟩
theorem vob_12_278 : pOb 12 (278, 1, 136, 2) := ⟨fun h => absurd h (by decide), fun h => absurd h (by decide)⟩
theorem vob_12_281 : pOb 12 (281, 1, 169, 2) := ⟨fun h => absurd h (by decide), fun h => absurd h (by decide)⟩
theorem vob_12_298 : pOb 12 (298, 1, 157, 2) := ⟨fun h => absurd h (by decide), fun h => absurd h (by decide)⟩
theorem vob_12_301 : pOb 12 (301, 1, 135, 2) := ⟨fun h => absurd h (by decide), fun h => absurd h (by decide)⟩
theorem vob_12_316 : pOb 12 (316, 1, 116, 1) := ⟨fun h => absurd h (by decide), fun h => absurd h (by decide)⟩
theorem vob_12_325 : pOb 12 (325, 1, 139, 1) := ⟨fun h => absurd h (by decide), fun h => absurd h (by decide)⟩
theorem vob_12_332 : pOb 12 (332, 1, 106, 3) := ⟨fun h => absurd h (by decide), fun h => absurd h (by decide)⟩
theorem vob_12_351 : pOb 12 (351, 1, 105, 2) := ⟨fun h => absurd h (by decide), fun h => absurd h (by decide)⟩
theorem vob_12_354 : pOb 12 (354, 1, 143, 1) := ⟨fun h => absurd h (by decide), fun h => absurd h (by decide)⟩
theorem vob_12_369 : pOb 12 (369, 1, 170, 1) := ⟨fun h => absurd h (by decide), fun h => absurd h (by decide)⟩
theorem vob_12_375 : pOb 12 (375, 1, 109, 1) := ⟨fun h => absurd h (by decide), fun h => absurd h (by decide)⟩
theorem vob_12_385 : pOb 12 (385, 1, 115, 2) := ⟨fun h => absurd h (by decide), fun h => absurd h (by decide)⟩
theorem vob_12_400 : pOb 12 (400, 1, 124, 1) := ⟨fun h => absurd h (by decide), fun h => absurd h (by decide)⟩
theorem vob_12_461 : pOb 12 (461, 1, 140, 1) := ⟨fun h => absurd h (by decide), fun h => absurd h (by decide)⟩
theorem vob_12_479 : pOb 12 (479, 1, 148, 1) := ⟨fun h => absurd h (by decide), fun h => absurd h (by decide)⟩
theorem vob_12 : ∀ x ∈ ecl__12, pOb 12 x := List.forall_mem_cons.mpr ⟨vob_12_10, List.forall_mem_cons.mpr ⟨vob_12_27, List.forall_mem_cons.mpr ⟨vob_12_174, List.forall_mem_cons.mpr ⟨vob_12_207, List.forall_mem_cons.mpr ⟨vob_12_210, List.forall_mem_cons.mpr ⟨vob_12_213, List.forall_mem_cons.mpr ⟨vob_12_216, List.forall_mem_cons.mpr ⟨vob_12_235, List.forall_mem_cons.mpr ⟨vob_12_260, List.forall_mem_cons.mpr ⟨vob_12_275, List.forall_mem_cons.mpr ⟨vob_12_278, List.forall_mem_cons.mpr ⟨vob_12_281, List.forall_mem_cons.mpr ⟨vob_12_298, List.forall_mem_cons.mpr ⟨vob_12_301, List.forall_mem_cons.mpr ⟨vob_12_316, List.forall_mem_cons.mpr ⟨vob_12_325, List.forall_mem_cons.mpr ⟨vob_12_332, List.forall_mem_cons.mpr ⟨vob_12_351, List.forall_mem_cons.mpr ⟨vob_12_354, List.forall_mem_cons.mpr ⟨vob_12_369, List.forall_mem_cons.mpr ⟨vob_12_375, List.forall_mem_cons.mpr ⟨vob_12_385, List.forall_mem_cons.mpr ⟨vob_12_400, List.forall_mem_cons.mpr ⟨vob_12_461, List.forall_mem_cons.mpr ⟨vob_12_479, fun _ h => absurd h List.not_mem_nil⟩⟩⟩⟩⟩⟩⟩⟩⟩⟩⟩⟩⟩⟩⟩⟩⟩⟩⟩⟩⟩⟩⟩⟩⟩
theorem vob_13_15 : pOb 13 (15, 2, 48, 1) := ⟨fun h => absurd h (by decide), fun h => absurd h (by decide)⟩
theorem vob_13_18 : pOb 13 (18, 2, 104, 1) := ⟨fun h => absurd h (by decide), fun h => absurd h (by decide)⟩
theorem vob_13_19 : pOb 13 (19, 1, 65, 6) := ⟨fun h => absurd h (by decide), fun h => absurd h (by decide)⟩
theorem vob_13_23 : pOb 13 (23, 1, 126, 6) := ⟨fun h => absurd h (by decide), fun h => absurd h (by decide)⟩
theorem vob_13_24 : pOb 13 (24, 1, 62, 2) := ⟨fun h => absurd h (by decide), fun h => absurd h (by decide)⟩
theorem vob_13_28 : pOb 13 (28, 1, 122, 2) := ⟨fun h => absurd h (by decide), fun h => absurd h (by decide)⟩
theorem vob_13_29 : pOb 13 (29, 1, 97, 1) := ⟨fun h => absurd h (by decide), fun h => absurd h (by decide)⟩
theorem vob_13_33 : pOb 13 (33, 1, 166, 1) := ⟨fun h => absurd h (by decide), fun h => absurd h (by decide)⟩
theorem vob_13_34 : pOb 13 (34, 1, 64, 1) := ⟨fun h => absurd h (by decide), fun h => absurd h (by decide)⟩
theorem vob_13_37 : pOb 13 (37, 1, 125, 1) := ⟨fun h => absurd h (by decide), fun h => absurd h (by decide)⟩
theorem vob_13_38 : pOb 13 (38, 9, 75, 4) := ⟨fun h => absurd h (by decide), fun h => absurd h (by decide)⟩
theorem vob_13_43 : pOb 13 (43, 1, 156, 3) := ⟨fun h => absurd h (by decide), fun h => absurd h (by decide)⟩
theorem vob_13_44 : pOb 13 (44, 1, 168, 1) := ⟨fun h => absurd h (by decide), fun h => absurd h (by decide)⟩
theorem vob_13_47 : pOb 13 (47, 1, 85, 3) := ⟨fun h => absurd h (by decide), fun h => absurd h (by decide)⟩
theorem vob_13_50 : pOb 13 (50, 1, 149, 3) := ⟨fun h => absurd h (by decide), fun h => absurd h (by decide)⟩
theorem vob_13_51 : pOb 13 (51, 1, 86, 3) := ⟨fun h => absurd h (by decide), fun h => absurd h (by decide)⟩
theorem vob_13_54 : pOb 13 (54, 1, 150, 3) := ⟨fun h => absurd h (by decide), fun h => absurd h (by decide)⟩
theorem vob_13_55 : pOb 13 (55, 1, 83, 2) := ⟨fun h => absurd h (by decide), fun h => absurd h (by decide)⟩
theorem vob_13_59 : pOb 13 (59, 1, 146, 2) := ⟨fun h => absurd h (by decide), fun h => absurd h (by decide)⟩
theorem vob_13_60 : pOb 13 (60, 1, 67, 3) := ⟨fun h => absurd h (by decide), fun h => absurd h (by decide)⟩
theorem vob_13_63 : pOb 13 (63, 1, 129, 3) := ⟨fun h => absurd h (by decide), fun h => absurd h (by decide)⟩
theorem vob_13_64 : pOb 13 (64, 1, 79, 2) := ⟨fun h => absurd h (by decide), fun h => absurd h (by decide)⟩
theorem vob_13_67 : pOb 13 (67, 1, 141, 2) := ⟨fun h => absurd h (by decide), fun h => absurd h (by decide)⟩
theorem vob_13_68 : pOb 13 (68, 1, 92, 4) := ⟨fun h => absurd h (by decide), fun h => absurd h (by decide)⟩
theorem vob_13_72 : pOb 13 (72, 1, 159, 4) := ⟨fun h => absurd h (by decide), fun h => absurd h (by decide)⟩
theorem vob_13_73 : pOb 13 (73, 1, 80, 4) := ⟨fun h => absurd h (by decide), fun h => absurd h (by decide)⟩
theorem vob_13_76 : pOb 13 (76, 1, 142, 4) := ⟨fun h => absurd h (by decide), fun h => absurd h (by decide)⟩
theorem vob_13_77 : pOb 13 (77, 1, 103, 3) := ⟨fun h => absurd h (by decide), fun h => absurd h (by decide)⟩
theorem vob_13_80 : pOb 13 (80, 1, 175, 3) := ⟨fun h => absurd h (by decide), fun h => absurd h (by decide)⟩
theorem vob_13_81 : pOb 13 (81, 1, 60, 2) := ⟨fun h => absurd h (by decide), fun h => absurd h (by decide)⟩
theorem vob_13_84 : pOb 13 (84, 1, 120, 2) := ⟨fun h => absurd h (by decide), fun h => absurd h (by decide)⟩
theorem vob_13_85 : pOb 13 (85, 1, 94, 3) := ⟨fun h => absurd h (by decide), fun h => absurd h (by decide)⟩
theorem vob_13_88 : pOb 13 (88, 1, 161, 3) := ⟨fun h => absurd h (by decide), fun h => absurd h (by decide)⟩
theorem vob_13_89 : pOb 13 (89, 1, 56, 2) := ⟨fun h => absurd h (by decide), fun h => absurd h (by decide)⟩
theorem vob_13_92 : pOb 13 (92, 1, 114, 2) := ⟨fun h => absurd h (by decide), fun h => absurd h (by decide)⟩
theorem vob_13_93 : pOb 13 (93, 1, 81, 2) := ⟨fun h => absurd h (by decide), fun h => absurd h (by decide)⟩
theorem vob_13_96 : pOb 13 (96, 1, 144, 2) := ⟨fun h => absurd h (by decide), fun h => absurd h (by decide)⟩
theorem vob_13_97 : pOb 13 (97, 1, 99, 1) := ⟨fun h => absurd h (by decide), fun h => absurd h (by decide)⟩
theorem vob_13_100 : pOb 13 (100, 1, 171, 1) := ⟨fun h => absurd h (by decide), fun h => absurd h (by decide)⟩
theorem vob_13_101 : pOb 13 (101, 1, 102, 3) := ⟨fun h => absurd h (by decide), fun h => absurd h (by decide)⟩
theorem vob_13_104 : pOb 13 (104, 1, 174, 3) := ⟨fun h => absurd h (by decide), fun h => absurd h (by decide)⟩
theorem vob_13_105 : pOb 13 (105, 1, 96, 2) := ⟨fun h => absurd h (by decide), fun h => absurd h (by decide)⟩
theorem vob_13_108 : pOb 13 (108, 1, 164, 2) := ⟨fun h => absurd h (by decide), fun h => absurd h (by decide)⟩
theorem vob_13_109 : pOb 13 (109, 1, 52, 2) := ⟨fun h => absurd h (by decide), fun h => absurd h (by decide)⟩
theorem vob_13_112 : pOb 13 (112, 1, 111, 2) := ⟨fun h => absurd h (by decide), fun h => absurd h (by decide)⟩
theorem vob_13_113 : pOb 13 (113, 1, 51, 3) := ⟨fun h => absurd h (by decide), fun h => absurd h (by decide)⟩
theorem vob_13_116 : pOb 13 (116, 1, 108, 3) := ⟨fun h => absurd h (by decide), fun h => absurd h (by decide)⟩
theorem vob_13_117 : pOb 13 (117, 1, 50, 1) := ⟨fun h => absurd h (by decide), fun h => absurd h (by decide)⟩
theorem vob_13_120 : pOb 13 (120, 1, 107, 1) := ⟨fun h => absurd h (by decide), fun h => absurd h (by decide)⟩
theorem vob_13_121 : pOb 13 (121, 1, 98, 3) := ⟨fun h => absurd h (by decide), fun h => absurd h (by decide)⟩
theorem vob_13_124 : pOb 13 (124, 1, 167, 3) := ⟨fun h => absurd h (by decide), fun h => absurd h (by decide)⟩
theorem vob_13_125 : pOb 13 (125, 1, 66, 2) := ⟨fun h => absurd h (by decide), fun h => absurd h (by decide)⟩
theorem vob_13_128 : pOb 13 (128, 1, 127, 2) := ⟨fun h => absurd h (by decide), fun h => absurd h (by decide)⟩
theorem vob_13_129 : pOb 13 (129, 1, 95, 2) := ⟨fun h => absurd h (by decide), fun h => absurd h (by decide)⟩
theorem vob_13_132 : pOb 13 (132, 1, 163, 2) := ⟨fun h => absurd h (by decide), fun h => absurd h (by decide)⟩
theorem vob_13_133 : pOb 13 (133, 1, 59, 2) := ⟨fun h => absurd h (by decide), fun h => absurd h (by decide)⟩
theorem vob_13_136 : pOb 13 (136, 1, 119, 2) := ⟨fun h => absurd h (by decide), fun h => absurd h (by decide)⟩
theorem vob_13_137 : pOb 13 (137, 1, 63, 2) := ⟨fun h => absurd h (by decide), fun h => absurd h (by decide)⟩
theorem vob_13_140 : pOb 13 (140, 1, 123, 2) := ⟨fun h => absurd h (by decide), fun h => absurd h (by decide)⟩
theorem vob_13_141 : pOb 13 (141, 1, 90, 1) := ⟨fun h => absurd h (by decide), fun h => absurd h (by decide)⟩
theorem vob_13_144 : pOb 13 (144, 1, 155, 1) := ⟨fun h => absurd h (by decide), fun h => absurd h (by decide)⟩
theorem vob_13_145 : pOb 13 (145, 1, 88, 1) := ⟨fun h => absurd h (by decide), fun h => absurd h (by decide)⟩
theorem vob_13_148 : pOb 13 (148, 1, 153, 1) := ⟨fun h => absurd h (by decide), fun h => absurd h (by decide)⟩
theorem vob_13_149 : pOb 13 (149, 1, 87, 2) := ⟨fun h => absurd h (by decide), fun h => absurd h (by decide)⟩
theorem vob_13_152 : pOb 13 (152, 1, 152, 2) := ⟨fun h => absurd h (by decide), fun h => absurd h (by decide)⟩
theorem vob_13_153 : pOb 13 (153, 1, 101, 2) := ⟨fun h => absurd h (by decide), fun h => absurd h (by decide)⟩
theorem vob_13_156 : pOb 13 (156, 1, 173, 2) := ⟨fun h => absurd h (by decide), fun h => absurd h (by decide)⟩
theorem vob_13_157 : pOb 13 (157, 1, 100, 1) := ⟨fun h => absurd h (by decide), fun h => absurd h (by decide)⟩
theorem vob_13_160 : pOb 13 (160, 1, 172, 1) := ⟨fun h => absurd h (by decide), fun h => absurd h (by decide)⟩
theorem vob_13_161 : pOb 13 (161, 1, 57, 2) := ⟨fun h => absurd h (by decide), fun h => absurd h (by decide)⟩
theorem vob_13_164 : pOb 13 (164, 1, 117, 2) := ⟨fun h => absurd h (by decide), fun h => absurd h (by decide)⟩
theorem vob_13_165 : pOb 13 (165, 1, 70, 2) := ⟨fun h => absurd h (by decide), fun h => absurd h (by decide)⟩
theorem vob_13_168 : pOb 13 (168, 1, 131, 2) := ⟨fun h => absurd h (by decide), fun h => absurd h (by decide)⟩
theorem vob_13_169 : pOb 13 (169, 1, 68, 2) := ⟨fun h => absurd h (by decide), fun h => absurd h (by decide)⟩
theorem vob_13_172 : pOb 13 (172, 1, 130, 2) := ⟨fun h => absurd h (by decide), fun h => absurd h (by decide)⟩
theorem vob_13_173 : pOb 13 (173, 1, 82, 1) := ⟨fun h => absurd h (by decide), fun h => absurd h (by decide)⟩
theorem vob_13_176 : pOb 13 (176, 1, 145, 1) := ⟨fun h => absurd h (by decide), fun h => absurd h (by decide)⟩
theorem vob_13_177 : pOb 13 (177, 1, 61, 3) := ⟨fun h => absurd h (by decide), fun h => absurd h (by decide)⟩
theorem vob_13_180 : pOb 13 (180, 1, 121, 3) := ⟨fun h => absurd h (by decide), fun h => absurd h (by decide)⟩
theorem vob_13_181 : pOb 13 (181, 1, 84, 4) := ⟨fun h => absurd h (by decide), fun h => absurd h (by decide)⟩
theorem vob_13_184 : pOb 13 (184, 1, 147, 4) := ⟨fun h => absurd h (by decide), fun h => absurd h (by decide)⟩
theorem vob_13_185 : pOb 13 (185, 1, 54, 2) := ⟨fun h => absurd h (by decide), fun h => absurd h (by decide)⟩
theorem vob_13_188 : pOb 13 (188, 1, 112, 2) := ⟨fun h => absurd h (by decide), fun h => absurd h (by decide)⟩
theorem vob_13_189 : pOb 13 (189, 1, 55, 2) := ⟨fun h => absurd h (by decide), fun h => absurd h (by decide)⟩
theorem vob_13_192 : pOb 13 (192, 1, 113, 2) := ⟨fun h => absurd h (by decide), fun h => absurd h (by decide)⟩
theorem vob_13_193 : pOb 13 (193, 1, 93, 1) := ⟨fun h => absurd h (by decide), fun h => absurd h (by decide)⟩
theorem vob_13_196 : pOb 13 (196, 1, 160, 1) := ⟨fun h => absurd h (by decide), fun h => absurd h (by decide)⟩
theorem vob_13_197 : pOb 13 (197, 1, 91, 2) := ⟨fun h => absurd h (by decide), fun h => absurd h (by decide)⟩
theorem vob_13_200 : pOb 13 (200, 1, 158, 2) := ⟨fun h => absurd h (by decide), fun h => absurd h (by decide)⟩
theorem vob_13_201 : pOb 13 (201, 1, 71, 2) := ⟨fun h => absurd h (by decide), fun h => absurd h (by decide)⟩
theorem vob_13_204 : pOb 13 (204, 1, 132, 2) := ⟨fun h => absurd h (by decide), fun h => absurd h (by decide)⟩
theorem vob_13_205 : pOb 13 (205, 1, 89, 2) := ⟨fun h => absurd h (by decide), fun h => absurd h (by decide)⟩
theorem vob_13_208 : pOb 13 (208, 1, 154, 2) := ⟨fun h => absurd h (by decide), fun h => absurd h (by decide)⟩
theorem vob_13_209 : pOb 13 (209, 1, 58, 2) := ⟨fun h => absurd h (by decide), fun h => absurd h (by decide)⟩
theorem vob_13_212 : pOb 13 (212, 1, 118, 2) := ⟨fun h => absurd h (by decide), fun h => absurd h (by decide)⟩
theorem vob_13 : ∀ x ∈ ecl__13, pOb 13 x := List.forall_mem_cons.mpr ⟨vob_13_15, List.forall_mem_cons.mpr ⟨vob_13_18, List.forall_mem_cons.mpr ⟨vob_13_19, List.forall_mem_cons.mpr ⟨vob_13_23, List.forall_mem_cons.mpr ⟨vob_13_24, List.forall_mem_cons.mpr ⟨vob_13_28, List.forall_mem_cons.mpr ⟨vob_13_29, List.forall_mem_cons.mpr ⟨vob_13_33, List.forall_mem_cons.mpr ⟨vob_13_34, List.forall_mem_cons.mpr ⟨vob_13_37, List.forall_mem_cons.mpr ⟨vob_13_38, List.forall_mem_cons.mpr ⟨vob_13_43, List.forall_mem_cons.mpr ⟨vob_13_44, List.forall_mem_cons.mpr ⟨vob_13_47, List.forall_mem_cons.mpr ⟨vob_13_50, List.forall_mem_cons.mpr ⟨vob_13_51, List.forall_mem_cons.mpr ⟨vob_13_54, List.forall_mem_cons.mpr ⟨vob_13_55, List.forall_mem_cons.mpr ⟨vob_13_59, List.forall_mem_cons.mpr ⟨vob_13_60, List.forall_mem_cons.mpr ⟨vob_13_63, List.forall_mem_cons.mpr ⟨vob_13_64, List.forall_mem_cons.mpr ⟨vob_13_67, List.forall_mem_cons.mpr ⟨vob_13_68, List.forall_mem_cons.mpr ⟨vob_13_72, List.forall_mem_cons.mpr ⟨vob_13_73, List.forall_mem_cons.mpr ⟨vob_13_76, List.forall_mem_cons.mpr ⟨vob_13_77, List.forall_mem_cons.mpr ⟨vob_13_80, List.forall_mem_cons.mpr ⟨vob_13_81, List.forall_mem_cons.mpr ⟨vob_13_84, List.forall_mem_cons.mpr ⟨vob_13_85, List.forall_mem_cons.mpr ⟨vob_13_88, List.forall_mem_cons.mpr ⟨vob_13_89, List.forall_mem_cons.mpr ⟨vob_13_92, List.forall_mem_cons.mpr ⟨vob_13_93, List.forall_mem_cons.mpr ⟨vob_13_96, List.forall_mem_cons.mpr ⟨vob_13_97, List.forall_mem_cons.mpr ⟨vob_13_100, List.forall_mem_cons.mpr ⟨vob_13_101, List.forall_mem_cons.mpr ⟨vob_13_104, List.forall_mem_cons.mpr ⟨vob_13_105, List.forall_mem_cons.mpr ⟨vob_13_108, List.forall_mem_cons.mpr ⟨vob_13_109, List.forall_mem_cons.mpr ⟨vob_13_112, List.forall_mem_cons.mpr ⟨vob_13_113, List.forall_mem_cons.mpr ⟨vob_13_116, List.forall_mem_cons.mpr ⟨vob_13_117, List.forall_mem_cons.mpr ⟨vob_13_120, List.forall_mem_cons.mpr ⟨vob_13_121, List.forall_mem_cons.mpr ⟨vob_13_124, List.forall_mem_cons.mpr ⟨vob_13_125, List.forall_mem_cons.mpr ⟨vob_13_128, List.forall_mem_cons.mpr ⟨vob_13_129, List.forall_mem_cons.mpr ⟨vob_13_132, List.forall_mem_cons.mpr ⟨vob_13_133, List.forall_mem_cons.mpr ⟨vob_13_136, List.forall_mem_cons.mpr ⟨vob_13_137, List.forall_mem_cons.mpr ⟨vob_13_140, List.forall_mem_cons.mpr ⟨vob_13_141, List.forall_mem_cons.mpr ⟨vob_13_144, List.forall_mem_cons.mpr ⟨vob_13_145, List.forall_mem_cons.mpr ⟨vob_13_148, List.forall_mem_cons.mpr ⟨vob_13_149, List.forall_mem_cons.mpr ⟨vob_13_152, List.forall_mem_cons.mpr ⟨vob_13_153, List.forall_mem_cons.mpr ⟨vob_13_156, List.forall_mem_cons.mpr ⟨vob_13_157, List.forall_mem_cons.mpr ⟨vob_13_160, List.forall_mem_cons.mpr ⟨vob_13_161, List.forall_mem_cons.mpr ⟨vob_13_164, List.forall_mem_cons.mpr ⟨vob_13_165, List.forall_mem_cons.mpr ⟨vob_13_168, List.forall_mem_cons.mpr ⟨vob_13_169, List.forall_mem_cons.mpr ⟨vob_13_172, List.forall_mem_cons.mpr ⟨vob_13_173, List.forall_mem_cons.mpr ⟨vob_13_176, List.forall_mem_cons.mpr ⟨vob_13_177, List.forall_mem_cons.mpr ⟨vob_13_180, List.forall_mem_cons.mpr ⟨vob_13_181, List.forall_mem_cons.mpr ⟨vob_13_184, List.forall_mem_cons.mpr ⟨vob_13_185, List.forall_mem_cons.mpr ⟨vob_13_188, List.forall_mem_cons.mpr ⟨vob_13_189, List.forall_mem_cons.mpr ⟨vob_13_192, List.forall_mem_cons.mpr ⟨vob_13_193, List.forall_mem_cons.mpr ⟨vob_13_196, List.forall_mem_cons.mpr ⟨vob_13_197, List.forall_mem_cons.mpr ⟨vob_13_200, List.forall_mem_cons.mpr ⟨vob_13_201, List.forall_mem_cons.mpr ⟨vob_13_204, List.forall_mem_cons.mpr ⟨vob_13_205, List.forall_mem_cons.mpr ⟨vob_13_208, List.forall_mem_cons.mpr ⟨vob_13_209, List.forall_mem_cons.mpr ⟨vob_13_212, fun _ h => absurd h List.not_mem_nil⟩⟩⟩⟩⟩⟩⟩⟩⟩⟩⟩⟩⟩⟩⟩⟩⟩⟩⟩⟩⟩⟩⟩⟩⟩⟩⟩⟩⟩⟩⟩⟩⟩⟩⟩⟩⟩⟩⟩⟩⟩⟩⟩⟩⟩⟩⟩⟩⟩⟩⟩⟩⟩⟩⟩⟩⟩⟩⟩⟩⟩⟩⟩⟩⟩⟩⟩⟩⟩⟩⟩⟩⟩⟩⟩⟩⟩⟩⟩⟩⟩⟩⟩⟩⟩⟩⟩⟩⟩⟩⟩⟩⟩⟩⟩
theorem vob_14 : ∀ x ∈ ecl__14, pOb 14 x := fun _ h => absurd h List.not_mem_nil
theorem vob_15 : ∀ x ∈ ecl__15, pOb 15 x := fun _ h => absurd h List.not_mem_nil
theorem vob_16 : ∀ x ∈ ecl__16, pOb 16 x := fun _ h => absurd h List.not_mem_nil
theorem vob : eAll pOb 0 ecl_ := ⟨(vob_0), (vob_1), (vob_2), (vob_3), (vob_4), (vob_5), (vob_6), (vob_7), (vob_8), (vob_9), (vob_10), (vob_11), (vob_12), (vob_13), (vob_14), (vob_15), (vob_16), trivial⟩
theorem v_Ob : eOok Tb1 eCN eCL1 := ⟨fun o idx x n h => (ea2_all (P := pOb) vob h).1 rfl, tbT 32 (by decide +kernel) rfl, tbT 33 (by decide +kernel) rfl, fun o idx x n h => (ea2_all (P := pOb) vob h).2 rfl, tbT 688 (by decide +kernel) rfl, tbT 687 (by decide +kernel) rfl, tbT 20 (by decide +kernel) rfl⟩
end
section
theorem v_val {ρ : Nat → Int32} {b base : Nat} {D : va_G} {l : Launch} (hst : l.stackTraces = false) (hρ : ρ 7 = ρ 6 - 6 ∧ ρ 8 = ρ 0 &&& 63) : eVal ρ b base D vwCl Tb1 (NF1 base) l eCN eFL1 eCL1 eMT1 eNW1 eNA1 eKI1 eKL1 eSP1 := ⟨hρ, tb_good, v_NF base, v_FL, v_NW, v_NA base, v_KI, v_KL, v_AC, v_CL base, v_Ob, v_S, v_T hst⟩
end
section
/-! THE START: what the Statement gives of the state ahead of the law. -/
def fl_1 : List Cond := flatC (Jvm.Cond.and given_1 narrow_1)
theorem tbL {w : Cond} (i : Nat) (h : tables_1[i]? = some w) : w ∈ lw_tbl := List.mem_append_right _ (List.mem_of_getElem? h)
def el_c (i j : Nat) : Cond := Cond.eq (.elem (.field (scTm i) "java/lang/String" "value" "[B") (.int (Int32.ofNat j))) (.int ((scByt.getD i []).getD j 0))
theorem sg {i n P : Nat} (h : (fl_1.drop P).take n = (List.range n).map (el_c i)) : ∀ j, j < n → el_c i j ∈ fl_1 := fun j hj => List.mem_of_mem_drop (List.mem_of_mem_take (by rw [h]; exact List.mem_map.mpr ⟨j, List.mem_range.mpr hj, rfl⟩))
theorem sg_0 : (fl_1.drop 73).take 63 = (List.range 63).map (el_c 0) := by decide +kernel
theorem sg_1 : (fl_1.drop 140).take 70 = (List.range 70).map (el_c 1) := by decide +kernel
theorem sg_2 : (fl_1.drop 215).take 77 = (List.range 77).map (el_c 2) := by decide +kernel
theorem sg_3 : (fl_1.drop 298).take 39 = (List.range 39).map (el_c 3) := by decide +kernel
theorem st_el : ∀ i, i < 4 → ∀ j, j < scLen.getD i 0 → el_c i j ∈ fl_1 := by
  intro i hi
  match i, hi with
  | 0, _ => exact sg sg_0
  | 1, _ => exact sg sg_1
  | 2, _ => exact sg sg_2
  | 3, _ => exact sg sg_3
  | n + 4, h => omega
theorem st_a : ∀ i, i < 4 → Cond.exactly (scTm i) "java/lang/String" ∈ fl_1 ∧ Cond.eq (.field (scTm i) "java/lang/String" "coder" "B") (.int 0) ∈ fl_1 ∧ Cond.arrayOf (.field (scTm i) "java/lang/String" "value" "[B") .byte ∈ fl_1 ∧ Cond.eq (.length (.field (scTm i) "java/lang/String" "value" "[B")) (.int (Int32.ofNat (scLen.getD i 0))) ∈ fl_1 := by decide +kernel
theorem st_ne : ∀ i, i < 4 → ∀ j, j < 4 → i ≠ j → Cond.not (Cond.eq (scTm i) (scTm j)) ∈ fl_1 ∨ Cond.not (Cond.eq (scTm j) (scTm i)) ∈ fl_1 := by decide +kernel
theorem st_ln : ∀ i, i < 4 → scLen.getD i 0 < 2 ^ 31 := by decide +kernel
theorem st_nest : ∀ w ∈ nestW, w ∈ lw_tbl := by decide +kernel
theorem st_ao : ∀ C ∈ aoW, Cond.arrayOver (.object C) ∈ lw_tbl := by decide +kernel
theorem st_NF {s : State} {b : Nat} (hts : ∀ w ∈ lw_tbl, w.before #[Value.ref b] s = true) (hgv : (Jvm.Cond.and given_1 narrow_1).before #[Value.ref b] s = true) : NF1 s.heap.size s := by
  have hs : ∀ c ∈ fl_1, c.before #[Value.ref b] s = true := flat_of_before _ hgv
  have hA : ∀ a : Nat, a < s.heap.size → ¬ (fun q : Nat => s.heap.size ≤ q) a := fun a h => Nat.not_le.mpr h
  obtain ⟨adK, adV, hS, hE⟩ := vk_Sof (args := #[Value.ref b]) (s := s) (N := 4) (tm := scTm) (len := scLen) (byt := scByt) (A := fun q => s.heap.size ≤ q) st_ln (fun i hi => hs _ (st_a i hi).1) (fun i hi => hs _ (st_a i hi).2.1) (fun i hi => hs _ (st_a i hi).2.2.1) (fun i hi => hs _ (st_a i hi).2.2.2) (fun i hi j hj => hs _ (st_el i hi j hj))
    (fun i j hi hj hij => (st_ne i hi j hj hij).elim (fun h => Or.inl (hs _ h)) (fun h => Or.inr (hs _ h))) hA
  refine ⟨fun w hw => va_Nw.of (nest_is w hw).1 (hts w (st_nest w hw)), fun C hC => va_AO.of (hts _ (st_ao C hC)), adK, adV, hS, ?_, ?_, ?_, ?_, ?_, ?_, ?_, ?_, ?_, ?_, ?_, ?_⟩
  · exact vk_R.of (hts _ (tbL 43 (by decide +kernel))) (hE 0 (by decide))
  · exact vk_R.of (hts _ (tbL 44 (by decide +kernel))) (hE 1 (by decide))
  · exact vk_R.of (hts _ (tbL 45 (by decide +kernel))) (hE 2 (by decide))
  · exact vk_R.of (hts _ (tbL 1332 (by decide +kernel))) (hE 3 (by decide))
  · exact va_Zof (hts _ (tbL 55 (by decide +kernel))) (hts _ (tbL 3 (by decide +kernel))) (va_eqt (hs _ (List.mem_of_getElem? (i := 4) (by decide +kernel)))) hA
  · exact va_Zqof (hts _ (tbL 71 (by decide +kernel))) (hts _ (tbL 5 (by decide +kernel))) (hs _ (List.mem_of_getElem? (i := 5) (by decide +kernel))) hA
  · exact vx_Zqof (hts _ (tbL 1320 (by decide +kernel))) (hts _ (tbL 21 (by decide +kernel))) (hs _ (List.mem_of_getElem? (i := 9) (by decide +kernel))) hA
  · exact vx_Zqof (hts _ (tbL 1322 (by decide +kernel))) (hts _ (tbL 21 (by decide +kernel))) (hs _ (List.mem_of_getElem? (i := 10) (by decide +kernel))) hA
  · exact va_Nw.of rfl (hts _ (tbL 1295 (by decide +kernel)))
  · exact va_Nw.of rfl (hts _ (tbL 1297 (by decide +kernel)))
  · exact va_Nw.of rfl (hts _ (tbL 1299 (by decide +kernel)))
  · exact va_Nw.of rfl (hts _ (tbL 1301 (by decide +kernel)))
/-- the script's ints, their number, and what the law makes of them -/
def wr (L : Nat) (xs : Nat → Int32) : Nat → Int32 := fun j => match j with
  | 6 => Int32.ofNat L
  | 7 => Int32.ofNat L - 6
  | 8 => xs 0 &&& 63
  | j => xs j
theorem wr_xs (L : Nat) (xs : Nat → Int32) {j : Nat} (hj : j < 6) : wr L xs j = xs j := by
  match j, hj with
  | 0, _ => rfl
  | 1, _ => rfl
  | 2, _ => rfl
  | 3, _ => rfl
  | 4, _ => rfl
  | 5, _ => rfl
  | n + 6, h => omega
theorem w_63 (z : Int32) : 2147483648 ≤ ebz (z &&& 63) ∧ ebz (z &&& 63) ≤ 2147483711 := by
  have h1 : z = Int32.ofNat z.toBitVec.toNat := e_bvn (Nat.mod_eq_of_lt z.toBitVec.isLt).symm
  have h2 : z &&& 63 = Int32.ofNat (Nat.land z.toBitVec.toNat 63) := by
    have h3 := e_and z.toBitVec.toNat 63
    rw [← h1] at h3
    exact h3
  have h4 : Nat.land z.toBitVec.toNat 63 ≤ 63 := Nat.and_le_right
  rw [h2, ebz_nat]
  unfold ebi
  omega
theorem w_L : ∀ L, L ≤ 6 → (2147483648 ≤ ebz (Int32.ofNat L) ∧ ebz (Int32.ofNat L) ≤ 2147483654) ∧ 2147483642 ≤ ebz (Int32.ofNat L - 6) ∧ ebz (Int32.ofNat L - 6) ≤ 2147483648 := by
  intro L hL
  match L, hL with
  | 0, _ => decide +kernel
  | 1, _ => decide +kernel
  | 2, _ => decide +kernel
  | 3, _ => decide +kernel
  | 4, _ => decide +kernel
  | 5, _ => decide +kernel
  | 6, _ => decide +kernel
  | n + 7, h => omega
theorem st_sat {L : Nat} {xs : Nat → Int32} (hL : L ≤ 6) {a b c d : Nat} (h1 : a ≤ ebz (xs 1)) (h2 : ebz (xs 1) ≤ b) (h3 : c ≤ ebz (xs 0 &&& 63)) (h4 : ebz (xs 0 &&& 63) ≤ d) : eSat (wr L xs) (cs_1 a b c d) := by
  intro j q hq
  have ht : ∀ x : Int32, 0 ≤ ebz x ∧ ebz x ≤ 4294967295 := fun x => ⟨Nat.zero_le _, Nat.le_of_lt_succ (ebz_top x)⟩
  match j, hq with
  | 0, hq => cases hq; exact ht _
  | 1, hq => cases hq; exact ⟨h1, h2⟩
  | 2, hq => cases hq; exact ht _
  | 3, hq => cases hq; exact ht _
  | 4, hq => cases hq; exact ht _
  | 5, hq => cases hq; exact ht _
  | 6, hq => cases hq; exact (w_L L hL).1
  | 7, hq => cases hq; exact (w_L L hL).2
  | 8, hq => cases hq; exact ⟨h3, h4⟩
  | n + 9, hq => simp [cs_1] at hq
/-- whatever the script: one of the walks -/
theorem st_run {L : Nat} (xs : Nat → Int32) (hL : L ≤ 6) : ∃ a b c d, run_1 1000000 a b c d = true ∧ eSat (wr L xs) (cs_1 a b c d) := by
  have hv := w_63 (xs 0)
  have hu := ebz_top (xs 1)
  by_cases g1 : ebz (xs 0 &&& 63) ≤ 2147483663
  · exact ⟨_, _, _, _, ev_lo, st_sat hL (Nat.zero_le _) (by omega) hv.1 g1⟩
  by_cases g2 : 2147483665 ≤ ebz (xs 0 &&& 63)
  · exact ⟨_, _, _, _, ev_hi, st_sat hL (Nat.zero_le _) (by omega) g2 hv.2⟩
  have g3 : 2147483664 ≤ ebz (xs 0 &&& 63) ∧ ebz (xs 0 &&& 63) ≤ 2147483664 := by omega
  by_cases q0 : ebz (xs 1) ≤ 2147483648
  · exact ⟨_, _, _, _, ev_m0, st_sat hL (Nat.zero_le _) q0 g3.1 g3.2⟩
  by_cases q1 : ebz (xs 1) ≤ 2147483652
  · exact ⟨_, _, _, _, ev_m1, st_sat hL (by omega) q1 g3.1 g3.2⟩
  by_cases p0 : ebz (xs 1) ≤ 2147483660
  · exact ⟨_, _, _, _, ev_n0, st_sat hL (by omega) p0 g3.1 g3.2⟩
  by_cases p1 : ebz (xs 1) ≤ 2147483668
  · exact ⟨_, _, _, _, ev_n1, st_sat hL (by omega) p1 g3.1 g3.2⟩
  by_cases p2 : ebz (xs 1) ≤ 2147483676
  · exact ⟨_, _, _, _, ev_n2, st_sat hL (by omega) p2 g3.1 g3.2⟩
  by_cases p3 : ebz (xs 1) ≤ 2147483684
  · exact ⟨_, _, _, _, ev_n3, st_sat hL (by omega) p3 g3.1 g3.2⟩
  by_cases p4 : ebz (xs 1) ≤ 2147483692
  · exact ⟨_, _, _, _, ev_n4, st_sat hL (by omega) p4 g3.1 g3.2⟩
  by_cases p5 : ebz (xs 1) ≤ 2147483700
  · exact ⟨_, _, _, _, ev_n5, st_sat hL (by omega) p5 g3.1 g3.2⟩
  by_cases p6 : ebz (xs 1) ≤ 2147483708
  · exact ⟨_, _, _, _, ev_n6, st_sat hL (by omega) p6 g3.1 g3.2⟩
  exact ⟨_, _, _, _, ev_m7, st_sat hL (by omega) (by omega) g3.1 g3.2⟩
end
section
/-! THE CLAIM OUT OF ONE WALK OF THE LAW'S BODY. Your part is whole_start (and what it stands on); all else here is the same for every law, but numbers. -/
def lw_P (b : Addr) (xs : List Int32) (args : Array Value) (s : State) : Prop := args = #[.ref b] ∧ s.IntsAt b xs ∧ xs.length ≤ 6 ∧ (Jvm.Cond.and given_1 narrow_1).before args s = true
def lw_Q (_ : Array Value) (s : State) (o : Outcome) (t : State) : Prop := o = .returned (some (.int 1)) ∧ Framed s o t [] 600002 7302232
def lw_Z (below : List Frame) (a : Array Value) (s : State) : State → Prop := fun t => ∃ o, t.status = .running ∧ Ended t below o ∧ lw_Q a s o t
/-- the law's own end, with 1 on the stack, nothing written that was there before, its room as the claim has it -/
theorem lw_ret {p : Program} {l : Launch} {e : Env} {s : State} {m : MethodId} {below : List Frame} {meth : Method} {c : Code} {b : Nat} (hx : p.tables.exec = Jvm.exec) (hb : c.code = code) (hr : meth.sig.returnType = ret) (hlocks : meth.locks = false) {pc : Nat} {H : Heap} {ls : Array Slot} (hdg : decode code pc = .ok (.ireturn, 1)) : W p l e room_1 s m #[Value.ref b] below meth c H [] 600002 7302232 (lw_Z below #[Value.ref b] s) (F0 m pc ls [.int 1]) := by
  intro T hT X
  obtain ⟨fs, hret, hrun, hended, hW, hframe⟩ := X.leave (v := some (.int 1)) (hlocks := hlocks) (fun h => by rw [hr] at h; cases h)
  have hmeth' : T.vm.method? m = some meth := X.method'
  refine ⟨T.setFrames fs, ?_, .returned (some (.int 1)), hrun, hended, rfl, ⟨_, rfl⟩, hW, hframe⟩
  jvm_step X.here [X.here.top, hx, hb, hdg, hmeth', hr, ret, narrow_b1]
  (try refine ⟨rfl, ?_⟩); (try refine ⟨rfl, ?_⟩)
  first | (intro acts; rw [hret _ acts rfl rfl rfl]) | rw [hret _ _ rfl rfl rfl]
  exact Steps.refl _
/-- what holds at the law's entry: the machine, the code, the tables' words (any of lw_tbl by 'hts w (by decide +kernel)'), the script of L ints xs at the cell b, what the Statement gives of the start (any of its parts by flat_of_before) -/
def lw_At (p : Program) (s : State) (m : MethodId) (meth : Method) (c : Code) (b L : Nat) (xs : Nat → Int32) : Prop :=
  p.tables.exec = Jvm.exec ∧ c.code = code ∧ meth.sig.returnType = ret ∧ c.maxLocals = 7 ∧ s.vm.findClass R_law = some m.cls ∧ (∀ w ∈ lw_tbl, w.before #[Value.ref b] s = true) ∧ va_X b L xs s s.heap ∧ b < s.heap.size ∧ meth.locks = false ∧ (Jvm.Cond.and given_1 narrow_1).before #[Value.ref b] s = true
theorem w_kn {s : State} {b : Nat} (hts : ∀ w ∈ Tb1, w.before #[Value.ref b] s = true) : ∃ D : va_G, va_K D vwCl [] s := by
  have h0 : ∀ k : Nat, ∃ q : ClassId × (Nat → Nat), ∀ r : vw_C, vwCl[k]? = some r → u_Kn s r.1 r.2.1 r.2.2 q.1 q.2 := by
    intro k
    match k with
    | 0 =>
      obtain ⟨c, i, h⟩ := u_known (C := RX0) (T := TX0) (N := 10) (n := 10) hts inT0 (hts _ (tbT 320 (by decide +kernel) rfl))
      exact ⟨(c, i), fun r hr => by cases hr; exact h⟩
    | 1 =>
      obtain ⟨c, i, h⟩ := u_known (C := RX1) (T := TX1) (N := 10) (n := 10) hts inT1 (hts _ (tbT 194 (by decide +kernel) rfl))
      exact ⟨(c, i), fun r hr => by cases hr; exact h⟩
    | 2 =>
      obtain ⟨c, i, h⟩ := u_known (C := RX2) (T := TX2) (N := 1) (n := 1) hts inT2 (hts _ (tbT 439 (by decide +kernel) rfl))
      exact ⟨(c, i), fun r hr => by cases hr; exact h⟩
    | 3 =>
      obtain ⟨c, i, h⟩ := u_known (C := RX3) (T := TX3) (N := 2) (n := 2) hts inT3 (hts _ (tbT 390 (by decide +kernel) rfl))
      exact ⟨(c, i), fun r hr => by cases hr; exact h⟩
    | 4 =>
      obtain ⟨c, i, h⟩ := u_known (C := RX4) (T := TX4) (N := 8) (n := 8) hts inT4 (hts _ (tbT 403 (by decide +kernel) rfl))
      exact ⟨(c, i), fun r hr => by cases hr; exact h⟩
    | 5 =>
      obtain ⟨c, i, h⟩ := u_known (C := RX5) (T := TX5) (N := 3) (n := 3) hts inT5 (hts _ (tbT 259 (by decide +kernel) rfl))
      exact ⟨(c, i), fun r hr => by cases hr; exact h⟩
    | 6 =>
      obtain ⟨c, i, h⟩ := u_known (C := RX6) (T := TX6) (N := 5) (n := 5) hts inT6 (hts _ (tbT 278 (by decide +kernel) rfl))
      exact ⟨(c, i), fun r hr => by cases hr; exact h⟩
    | 7 =>
      obtain ⟨c, i, h⟩ := u_known (C := RX7) (T := TX7) (N := 11) (n := 11) hts inT7 (hts _ (tbT 35 (by decide +kernel) rfl))
      exact ⟨(c, i), fun r hr => by cases hr; exact h⟩
    | 8 =>
      obtain ⟨c, i, h⟩ := u_known (C := RX8) (T := TX8) (N := 10) (n := 10) hts inT8 (hts _ (tbT 143 (by decide +kernel) rfl))
      exact ⟨(c, i), fun r hr => by cases hr; exact h⟩
    | 9 =>
      obtain ⟨c, i, h⟩ := u_known (C := RX9) (T := TX9) (N := 2) (n := 2) hts inT9 (hts _ (tbT 301 (by decide +kernel) rfl))
      exact ⟨(c, i), fun r hr => by cases hr; exact h⟩
    | 10 =>
      obtain ⟨c, i, h⟩ := u_known (C := RX10) (T := TX10) (N := 6) (n := 6) hts inT10 (hts _ (tbT 362 (by decide +kernel) rfl))
      exact ⟨(c, i), fun r hr => by cases hr; exact h⟩
    | 11 =>
      obtain ⟨c, i, h⟩ := u_known (C := RX11) (T := TX11) (N := 17) (n := 17) hts inT11 (hts _ (tbT 27 (by decide +kernel) rfl))
      exact ⟨(c, i), fun r hr => by cases hr; exact h⟩
    | 12 =>
      obtain ⟨c, i, h⟩ := u_known (C := RX12) (T := TX12) (N := 55) (n := 55) hts inT12 (hts _ (tbT 1371 (by decide +kernel) rfl))
      exact ⟨(c, i), fun r hr => by cases hr; exact h⟩
    | n + 13 => exact ⟨(0, fun _ => 0), fun r hr => by simp [vwCl] at hr⟩
  obtain ⟨f, hf⟩ := Classical.axiomOfChoice h0
  exact ⟨(fun k => (f k).1, fun k => (f k).2), fun k r hr => hf k r hr, fun k q h => by simp at h⟩
theorem w_bok {ρ : Nat → Int32} {b base : Nat} {D : va_G} {l : Launch} : eBok ρ b base D vwCl Tb1 (NF1 base) l eCN bk_f := by
  intro d lo hi offs len mi pc ls st hp nx ce sl cs k _ h
  exact absurd h Bool.false_ne_true
/-- from the entry, for every script of at most 6 ints, the law comes to its end with true -/
theorem whole_start {p : Program} {e : Env} {s : State} {m : MethodId} {below : List Frame} {meth : Method} {c : Code} (l : Launch) (hst : l.stackTraces = false) {b L : Nat} {xs : Nat → Int32} (hL : L ≤ 6) (C0 : lw_At p s m meth c b L xs) : W p l e room_1 s m #[Value.ref b] below meth c s.heap [] 0 0 (lw_Z below #[Value.ref b] s) (entryFrame m ([Value.ref b] : List Value).toArray 7) := by
  obtain ⟨hx, hb, hr, hml, hown, hts0, hX, hbl, hlocks, hgv⟩ := C0
  have hts : ∀ w ∈ Tb1, w.before #[Value.ref b] s = true := fun w hw => hts0 w (List.mem_filter.mp hw).1
  obtain ⟨D, hK⟩ := w_kn hts
  obtain ⟨a1, b1, c1, d1, hrun, hsat⟩ := st_run (L := L) xs hL
  have hNF : NF1 s.heap.size s := st_NF hts0 hgv
  have hdk : ∀ q ∈ em_176.2.2.2.2.2.2, eDk code 7 q := e_dk ed_176 ee_176
  have hscr : eScr (wr L xs) b s.heap.size s := ⟨L, xs, hX, hbl, hbl, hL, rfl, fun j hj => wr_xs L xs (Nat.lt_of_lt_of_le hj hL)⟩
  have X : eCx (wr L xs) b s.heap.size Tb1 (NF1 s.heap.size) eCN p room_1 s m #[Value.ref b] meth c em_176 code 7 :=
    ⟨hx, hb, hml, hown, hts, hNF, Nat.le_refl _, ⟨rfl, rfl, rfl, rfl⟩, hdk, fun h => absurd h (by decide), fun _ => hscr⟩
  have hR : eRH (wr L xs) b s.heap.size D vwCl l p e room_1 s m #[Value.ref b] below meth c (lw_Z below #[Value.ref b] s) em_176 code [] k_1 := by
    intro ret hp nx cs hk hs H locs ws tys hw had i pc lsA stA hret hdec ce sl hce hsl
    unfold k_1 at hk
    split at hk
    · obtain ⟨v, rfl, hv, hkind⟩ := hret
      have hv : v = .int (Int32.ofNat 1) := hv
      subst hv
      rcases hkind with ⟨rfl, -, -⟩ | ⟨-, hk4, -⟩
      · exact va_forget (fun q hq => hw.2.2.2.1.2.2 q hq) (W.widen hce hsl (lw_ret hx hb hr hlocks hdec))
      · exact absurd hk4 (by decide)
    · cases hk
  have hl := lv_entry ([.ref b]) (n := 7) (Nat.le_of_ble_eq_true rfl)
  rw [lg_entry_eq]
  generalize (lg_sl ([.ref b]) ++ List.replicate (7 - (lg_sl ([.ref b])).length) Slot.unset).toArray = lsA at hl ⊢
  have hl : lv_has lsA 7 [(0, .ref b)] := hl
  have hP : va_P D vwCl [] s.heap := fun k q h => by simp at h
  have hD : va_D (fun q : Nat => s.heap.size ≤ q) [] := ⟨fun i j p q h => by simp at h, fun k q h => by simp at h⟩
  have hm : eMt (wr L xs) b vwCl hp_0 0 [] [] := ⟨rfl, fun o q h => by simp at h⟩
  have hls : eLs (wr L xs) b (ead []) [(0, eS)] [(0, .ref b)] := ⟨⟨rfl, rfl⟩, trivial⟩
  exact e_sound (v_val hst ⟨rfl, rfl⟩) w_bok 1000000 em_176 0 em_176.2.2.2.2.2.2 [(0, eS)] [] hp_0 0 0 0 (cs_1 a1 b1 c1 d1) k_1 hrun p e room_1 s m #[Value.ref b] below meth c (lw_Z below #[Value.ref b] s) code 7 [] X hR s.heap [] [] [] lsA [(0, .ref b)] [] hdk hsat ⟨hK, hP, hD, va_S.rf, hm⟩ (fun o a h => by simp at h) hl hls trivial
set_option maxHeartbeats 4000000 in
theorem lw_walk (l : Launch) (hst : l.stackTraces = false) (b : Addr) (xs : List Int32) : MetFree l x (headSpec (Jvm.Cond.code x code maxLocals ret :: tables_1) room_1) (lw_P b xs) (fun _ _ _ _ _ => True) lw_Q := by
  refine MetFree.of_bodyS (code := code) (maxLocals := maxLocals) (ret := ret) (by decide) ?_ ?_
  · intro args s m h hn
    obtain ⟨meth, c, h1, h2, h3, h4, h5, h6, -, -⟩ := Cond.code_spec hn (atoms_spec (ws := Jvm.Cond.code x code maxLocals ret :: tables_1) h _ List.mem_cons_self)
    exact ⟨meth, c, h1, h2, h3, h4, h5, h6⟩
  · intro p e s m args below meth c s₁ B hml0 hP _
    obtain ⟨rfl, hx, hbd, hgv⟩ := hP
    obtain ⟨scr, harrAt, hlist, hof, hsmall⟩ := hx
    obtain ⟨hcb, hkn, -, -⟩ := State.arrayAt?_spec harrAt
    have hown : s.vm.findClass R_law = some m.cls := findClass_of_methodNamed B.named
    have hts0 : ∀ c ∈ (Jvm.Cond.code x code maxLocals ret :: tables_1), c.before #[Value.ref b] s = true := atoms_spec (ws := Jvm.Cond.code x code maxLocals ret :: tables_1) B.pre
    have hts : ∀ w ∈ lw_tbl, w.before #[Value.ref b] s = true := k2_hts_sels lw_privs (fun w hw => hts0 w (List.mem_cons_of_mem _ hw)) lw_privs_ok
    have hml : c.maxLocals = 7 := B.maxLocals_eq (hts0 _ List.mem_cons_self)
    have X₀ : Stand p l e room_1 s m #[Value.ref b] below meth c s₁ [] 0 0 := Stand.of_body B
    have hh0 : s₁.heap = s.heap := by rw [B.state]; rfl
    have hsz : scr.slots.size = xs.length := by rw [← Array.length_toList, hlist, List.length_map]
    have hval : ∀ j : Nat, j < xs.length → scr.slots[j]? = some (.int (xs.getD j 0)) := fun j hj => by
      rw [← Array.getElem?_toList, hlist]
      simp [hj]
    have hbl : b < s.heap.size := (Array.getElem?_eq_some_iff.mp hcb).1
    have hX : va_X b xs.length (fun j => xs.getD j 0) s s.heap := ⟨scr, hcb, hof, hkn, hsz, hval⟩
    have K : W p l e room_1 s m #[Value.ref b] below meth c s₁.heap [] 0 0 (lw_Z below #[Value.ref b] s) (entryFrame m ([Value.ref b] : List Value).toArray 7) := by
      rw [hh0]
      exact whole_start l hst hbd ⟨B.exec, B.bytes, B.returns, hml, hown, hts, hX, hbl, B.notSynchronized, hgv⟩
    obtain ⟨t, a1, o, b1, b2, b3⟩ := K s₁ rfl X₀
    exact ⟨t, o, a1, b1, b2, b3⟩
theorem lw_pre_spec {args : Array Value} {s : State} (h : (Jvm.Cond.and given_1 narrow_1).before args s = true) (hr : rest_1_c.before args s = true) : ∃ (b : Addr) (xs : List Int32), lw_P b xs args s := by
  have hs := flat_of_before _ h
  have hq := flat_of_before _ hr
  have hc : (Cond.count 1).before args s = true := hs _ (by decide +kernel)
  have harr : (Cond.arrayOf (.arg 0) .int).before args s = true := hs _ (by decide +kernel)
  have hle : (Cond.le (.length (.arg 0)) (.int 6)).before args s = true := hs _ (by decide +kernel)
  have hlen : (Cond.isInt (.length (.arg 0))).before args s = true := hq _ (by decide +kernel)
  have hall : (Cond.all (.arg 0) (.isInt (.elem (.arg 0) (.index 0)))).before args s = true := hq _ (by decide +kernel)
  obtain ⟨b, xs, hb, hx⟩ := State.ints_of_pre rfl harr hlen hall
  have hsm : xs.length < 2 ^ 31 := hx.choose_spec.2.2.2
  have hev : (Term.length (.arg 0)).eval args s none [] s = some (.int xs.length.toInt32) := hx.length_eval hb
  have hv := Cond.le_ints hev (show (Term.int 6).eval args s none [] s = some (.int 6) from rfl)
  have hd : xs.length.toInt32 ≤ 6 := by
    simpa [Cond.before, Cond.holds, hv] using hle
  have hN : xs.length ≤ 6 := (Int32.ofNat_le_ofNat hsm (by decide)).mp (show Int32.ofNat xs.length ≤ Int32.ofNat 6 from hd)
  exact ⟨b, xs, Cond.one_arg hc (show args[0]? = some (.ref b) from hb), hx, hN, h⟩
theorem lw_comes (l : Launch) (hst : l.stackTraces = false) : Comes l x (Jvm.Cond.code x code maxLocals ret :: tables_1) room_1 (fun tb e args s => Calls_1 tb e args s ∧ rest_1 tb e args s ∧ Pre_1 tb e args s)
    (fun _ _ args s o t => lw_Q args s o t) := by
  intro p e ha hc hk s m args below hf hfit hheap happ hpre
  obtain ⟨b, xs, hP⟩ := lw_pre_spec hpre.2.2 hpre.2.1
  obtain ⟨k, o, h1, h2, h3, hQ⟩ := lw_walk l hst b xs p e ha hc hk s m args below hf ((Spec.applies_iff_loose hf).mp happ).1 hP trivial
  exact ⟨k, o, h1, h2, h3, hQ⟩
theorem lw_frame {s t : State} {o : Outcome} {args : Array Value} (h : Framed s o t [] 600002 7302232) :
    Framed s o t (fieldLocs frame_1_writes args s ++ arrayLocs frame_1_arrays args s ++ staticLocs frame_1_statics s) 600002 7302232 := h
theorem lw_limb (L : Cond) (hL : ∀ (args : Array Value) (s t : State), L.after args s (.returned (some (.int 1))) t = true) :
    ArmFor flags0 classFile x code maxLocals ret World_1 tables_1 room_1 Calls_1 rest_1 Pre_1
      (fun tb e a s o t => postC L tb e a s o t ∧ Framed s o t (fieldLocs frame_1_writes a s ++ arrayLocs frame_1_arrays a s ++ staticLocs frame_1_statics s) 600002 7302232) := by
  intro l hfl _ _ p e ha hc hk s m args below hf hfit hheap happ hpre
  have hst : l.stackTraces = false := by
    unfold Launch.stackTraces
    rw [hfl]
    decide +kernel
  obtain ⟨k, o, h1, h2, h3, rfl, hF⟩ := lw_comes l hst p e ha hc hk s m args below hf hfit hheap happ hpre
  exact ⟨k, _, h1, h2, h3, hL args s _, lw_frame hF⟩
theorem i_vc : Claimed_1_1 ∧ Claimed_1_2 := ⟨lw_limb limb_1_1 (fun args s t => by simp [limb_1_1, Cond.after, Cond.holds, Cond.value]), lw_limb limb_1_2 (fun args s t => Cond.after_iff.mpr (by
  first | (rw [show limb_1_2 = Cond.eq .result (.int 1) from rfl, Cond.eq_ints (x := 1) (y := 1) rfl rfl]; simp; done) | (simp [limb_1_2, Cond.value, Term.eval]; done)))⟩
end
