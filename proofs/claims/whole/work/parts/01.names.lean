/-- a private method of a class that the tables say can be made, by its rows of tables_1 -/
def lw_okq (q : MethodName × Nat) : Prop := (q.1.cls ≠ "java/lang/invoke/MethodHandle" ∧ q.1.cls ≠ "java/lang/invoke/VarHandle") ∧ Cond.instantiable q.1.cls q.2 ∈ tables_1 ∧ Cond.privateMethod q.1 ∈ tables_1 ∧ Cond.instanceMethod q.1 ∈ tables_1
theorem lw_p0 : lw_okq (⟨"SquareAlbum$TextReader", "nextToken", "()V"⟩, 7) := ⟨⟨by decide +kernel, by decide +kernel⟩, List.mem_of_getElem? (i := 21) (by decide +kernel), List.mem_of_getElem? (i := 220) (by decide +kernel), List.mem_of_getElem? (i := 221) (by decide +kernel)⟩
theorem lw_p1 : lw_okq (⟨"SquareAlbum$TextReader", "takeNumber", "()V"⟩, 7) := ⟨⟨by decide +kernel, by decide +kernel⟩, List.mem_of_getElem? (i := 21) (by decide +kernel), List.mem_of_getElem? (i := 225) (by decide +kernel), List.mem_of_getElem? (i := 226) (by decide +kernel)⟩
theorem lw_p2 : lw_okq (⟨"SquareAlbum$TextReader", "takeWord", "()V"⟩, 7) := ⟨⟨by decide +kernel, by decide +kernel⟩, List.mem_of_getElem? (i := 21) (by decide +kernel), List.mem_of_getElem? (i := 232) (by decide +kernel), List.mem_of_getElem? (i := 233) (by decide +kernel)⟩
theorem lw_p3 : lw_okq (⟨"SquareAlbum$TextReader", "readItem", "(LSquareAlbum$Scene;Z)Z"⟩, 7) := ⟨⟨by decide +kernel, by decide +kernel⟩, List.mem_of_getElem? (i := 21) (by decide +kernel), List.mem_of_getElem? (i := 240) (by decide +kernel), List.mem_of_getElem? (i := 241) (by decide +kernel)⟩
theorem lw_p4 : lw_okq (⟨"SquareAlbum$TextReader", "readNumber", "(II)Z"⟩, 7) := ⟨⟨by decide +kernel, by decide +kernel⟩, List.mem_of_getElem? (i := 21) (by decide +kernel), List.mem_of_getElem? (i := 254) (by decide +kernel), List.mem_of_getElem? (i := 255) (by decide +kernel)⟩
theorem lw_p5 : lw_okq (⟨"SquareAlbum$Scene", "addWall", "(II)V"⟩, 14) := ⟨⟨by decide +kernel, by decide +kernel⟩, List.mem_of_getElem? (i := 110) (by decide +kernel), List.mem_of_getElem? (i := 263) (by decide +kernel), List.mem_of_getElem? (i := 264) (by decide +kernel)⟩
theorem lw_p6 : lw_okq (⟨"SquareAlbum$Scene", "standAt", "(I)V"⟩, 14) := ⟨⟨by decide +kernel, by decide +kernel⟩, List.mem_of_getElem? (i := 110) (by decide +kernel), List.mem_of_getElem? (i := 287) (by decide +kernel), List.mem_of_getElem? (i := 288) (by decide +kernel)⟩
theorem lw_p7 : lw_okq (⟨"SquareAlbum$Scene", "stateOf", "(IIIII)I"⟩, 14) := ⟨⟨by decide +kernel, by decide +kernel⟩, List.mem_of_getElem? (i := 110) (by decide +kernel), List.mem_of_getElem? (i := 305) (by decide +kernel), List.mem_of_getElem? (i := 306) (by decide +kernel)⟩
theorem lw_p8 : lw_okq (⟨"SquareAlbum$Scene", "stateOfCell", "(IIIII)I"⟩, 14) := ⟨⟨by decide +kernel, by decide +kernel⟩, List.mem_of_getElem? (i := 110) (by decide +kernel), List.mem_of_getElem? (i := 312) (by decide +kernel), List.mem_of_getElem? (i := 313) (by decide +kernel)⟩
theorem lw_p9 : lw_okq (⟨"SquareAlbum$Scene", "isPlaceOf", "(IIII)Z"⟩, 14) := ⟨⟨by decide +kernel, by decide +kernel⟩, List.mem_of_getElem? (i := 110) (by decide +kernel), List.mem_of_getElem? (i := 395) (by decide +kernel), List.mem_of_getElem? (i := 396) (by decide +kernel)⟩
theorem lw_p10 : lw_okq (⟨"SquareAlbum$ClockSetter", "countFacts", "(LSquareAlbum$Notes;)V"⟩, 5) := ⟨⟨by decide +kernel, by decide +kernel⟩, List.mem_of_getElem? (i := 85) (by decide +kernel), List.mem_of_getElem? (i := 423) (by decide +kernel), List.mem_of_getElem? (i := 424) (by decide +kernel)⟩
theorem lw_p11 : lw_okq (⟨"SquareAlbum$ClockSetter", "countFact", "(III)V"⟩, 5) := ⟨⟨by decide +kernel, by decide +kernel⟩, List.mem_of_getElem? (i := 85) (by decide +kernel), List.mem_of_getElem? (i := 436) (by decide +kernel), List.mem_of_getElem? (i := 437) (by decide +kernel)⟩
theorem lw_p12 : lw_okq (⟨"SquareAlbum$ClockSetter", "tally", "(III)I"⟩, 5) := ⟨⟨by decide +kernel, by decide +kernel⟩, List.mem_of_getElem? (i := 85) (by decide +kernel), List.mem_of_getElem? (i := 444) (by decide +kernel), List.mem_of_getElem? (i := 445) (by decide +kernel)⟩
theorem lw_p13 : lw_okq (⟨"SquareAlbum$ClockSetter", "tryLastClock", "(III)V"⟩, 5) := ⟨⟨by decide +kernel, by decide +kernel⟩, List.mem_of_getElem? (i := 85) (by decide +kernel), List.mem_of_getElem? (i := 448) (by decide +kernel), List.mem_of_getElem? (i := 449) (by decide +kernel)⟩
theorem lw_p14 : lw_okq (⟨"SquareAlbum$Notes", "findJoinable", "()V"⟩, 6) := ⟨⟨by decide +kernel, by decide +kernel⟩, List.mem_of_getElem? (i := 52) (by decide +kernel), List.mem_of_getElem? (i := 468) (by decide +kernel), List.mem_of_getElem? (i := 469) (by decide +kernel)⟩
theorem lw_p15 : lw_okq (⟨"SquareAlbum$Notes", "canBeOne", "(II)Z"⟩, 6) := ⟨⟨by decide +kernel, by decide +kernel⟩, List.mem_of_getElem? (i := 52) (by decide +kernel), List.mem_of_getElem? (i := 472) (by decide +kernel), List.mem_of_getElem? (i := 473) (by decide +kernel)⟩
def lw_privs_1 : List (MethodName × Nat) := [(⟨"SquareAlbum$TextReader", "nextToken", "()V"⟩, 7), (⟨"SquareAlbum$TextReader", "takeNumber", "()V"⟩, 7), (⟨"SquareAlbum$TextReader", "takeWord", "()V"⟩, 7), (⟨"SquareAlbum$TextReader", "readItem", "(LSquareAlbum$Scene;Z)Z"⟩, 7), (⟨"SquareAlbum$TextReader", "readNumber", "(II)Z"⟩, 7), (⟨"SquareAlbum$Scene", "addWall", "(II)V"⟩, 14), (⟨"SquareAlbum$Scene", "standAt", "(I)V"⟩, 14), (⟨"SquareAlbum$Scene", "stateOf", "(IIIII)I"⟩, 14), (⟨"SquareAlbum$Scene", "stateOfCell", "(IIIII)I"⟩, 14), (⟨"SquareAlbum$Scene", "isPlaceOf", "(IIII)Z"⟩, 14), (⟨"SquareAlbum$ClockSetter", "countFacts", "(LSquareAlbum$Notes;)V"⟩, 5), (⟨"SquareAlbum$ClockSetter", "countFact", "(III)V"⟩, 5), (⟨"SquareAlbum$ClockSetter", "tally", "(III)I"⟩, 5), (⟨"SquareAlbum$ClockSetter", "tryLastClock", "(III)V"⟩, 5), (⟨"SquareAlbum$Notes", "findJoinable", "()V"⟩, 6), (⟨"SquareAlbum$Notes", "canBeOne", "(II)Z"⟩, 6)]
theorem lw_r1 : ∀ q ∈ lw_privs_1, lw_okq q := List.forall_mem_cons.mpr ⟨lw_p0, List.forall_mem_cons.mpr ⟨lw_p1, List.forall_mem_cons.mpr ⟨lw_p2, List.forall_mem_cons.mpr ⟨lw_p3, List.forall_mem_cons.mpr ⟨lw_p4, List.forall_mem_cons.mpr ⟨lw_p5, List.forall_mem_cons.mpr ⟨lw_p6, List.forall_mem_cons.mpr ⟨lw_p7, List.forall_mem_cons.mpr ⟨lw_p8, List.forall_mem_cons.mpr ⟨lw_p9, List.forall_mem_cons.mpr ⟨lw_p10, List.forall_mem_cons.mpr ⟨lw_p11, List.forall_mem_cons.mpr ⟨lw_p12, List.forall_mem_cons.mpr ⟨lw_p13, List.forall_mem_cons.mpr ⟨lw_p14, List.forall_mem_cons.mpr ⟨lw_p15, fun _ h => absurd h List.not_mem_nil⟩⟩⟩⟩⟩⟩⟩⟩⟩⟩⟩⟩⟩⟩⟩⟩
theorem lw_p16 : lw_okq (⟨"SquareAlbum$Notes", "ofSeen", "(II)I"⟩, 6) := ⟨⟨by decide +kernel, by decide +kernel⟩, List.mem_of_getElem? (i := 52) (by decide +kernel), List.mem_of_getElem? (i := 476) (by decide +kernel), List.mem_of_getElem? (i := 477) (by decide +kernel)⟩
theorem lw_p17 : lw_okq (⟨"SquareAlbum$Notes", "areAllUnlike", "(I)Z"⟩, 6) := ⟨⟨by decide +kernel, by decide +kernel⟩, List.mem_of_getElem? (i := 52) (by decide +kernel), List.mem_of_getElem? (i := 487) (by decide +kernel), List.mem_of_getElem? (i := 488) (by decide +kernel)⟩
theorem lw_p18 : lw_okq (⟨"SquareAlbum", "lastWithHat", "()I"⟩, 8) := ⟨⟨by decide +kernel, by decide +kernel⟩, List.mem_of_getElem? (i := 13) (by decide +kernel), List.mem_of_getElem? (i := 513) (by decide +kernel), List.mem_of_getElem? (i := 514) (by decide +kernel)⟩
theorem lw_p19 : lw_okq (⟨"SquareAlbum", "firstWithoutHat", "()I"⟩, 8) := ⟨⟨by decide +kernel, by decide +kernel⟩, List.mem_of_getElem? (i := 13) (by decide +kernel), List.mem_of_getElem? (i := 517) (by decide +kernel), List.mem_of_getElem? (i := 518) (by decide +kernel)⟩
theorem lw_p20 : lw_okq (⟨"SquareAlbum$Scene", "findEmpties", "(I)I"⟩, 14) := ⟨⟨by decide +kernel, by decide +kernel⟩, List.mem_of_getElem? (i := 110) (by decide +kernel), List.mem_of_getElem? (i := 539) (by decide +kernel), List.mem_of_getElem? (i := 540) (by decide +kernel)⟩
theorem lw_p21 : lw_okq (⟨"SquareAlbum$Scene", "haveOneView", "(II)Z"⟩, 14) := ⟨⟨by decide +kernel, by decide +kernel⟩, List.mem_of_getElem? (i := 110) (by decide +kernel), List.mem_of_getElem? (i := 543) (by decide +kernel), List.mem_of_getElem? (i := 544) (by decide +kernel)⟩
theorem lw_p22 : lw_okq (⟨"SquareAlbum$Scene", "groundOf", "(IZ)J"⟩, 14) := ⟨⟨by decide +kernel, by decide +kernel⟩, List.mem_of_getElem? (i := 110) (by decide +kernel), List.mem_of_getElem? (i := 547) (by decide +kernel), List.mem_of_getElem? (i := 548) (by decide +kernel)⟩
theorem lw_p23 : lw_okq (⟨"SquareAlbum$Scene", "isEmptyGround", "(II)Z"⟩, 14) := ⟨⟨by decide +kernel, by decide +kernel⟩, List.mem_of_getElem? (i := 110) (by decide +kernel), List.mem_of_getElem? (i := 551) (by decide +kernel), List.mem_of_getElem? (i := 552) (by decide +kernel)⟩
theorem lw_p24 : lw_okq (⟨"SquareAlbum$Scene", "isGround", "(II)Z"⟩, 14) := ⟨⟨by decide +kernel, by decide +kernel⟩, List.mem_of_getElem? (i := 110) (by decide +kernel), List.mem_of_getElem? (i := 555) (by decide +kernel), List.mem_of_getElem? (i := 556) (by decide +kernel)⟩
theorem lw_p25 : lw_okq (⟨"SquareAlbum$Scene", "emptyInSomeOf", "(I)J"⟩, 14) := ⟨⟨by decide +kernel, by decide +kernel⟩, List.mem_of_getElem? (i := 110) (by decide +kernel), List.mem_of_getElem? (i := 560) (by decide +kernel), List.mem_of_getElem? (i := 561) (by decide +kernel)⟩
theorem lw_p26 : lw_okq (⟨"SquareAlbum", "ratePosed", "(I)I"⟩, 8) := ⟨⟨by decide +kernel, by decide +kernel⟩, List.mem_of_getElem? (i := 13) (by decide +kernel), List.mem_of_getElem? (i := 624) (by decide +kernel), List.mem_of_getElem? (i := 625) (by decide +kernel)⟩
theorem lw_p27 : lw_okq (⟨"SquareAlbum", "ratePicture", "(I)I"⟩, 8) := ⟨⟨by decide +kernel, by decide +kernel⟩, List.mem_of_getElem? (i := 13) (by decide +kernel), List.mem_of_getElem? (i := 629) (by decide +kernel), List.mem_of_getElem? (i := 630) (by decide +kernel)⟩
theorem lw_p28 : lw_okq (⟨"SquareAlbum", "rateCrossed", "(I)I"⟩, 8) := ⟨⟨by decide +kernel, by decide +kernel⟩, List.mem_of_getElem? (i := 13) (by decide +kernel), List.mem_of_getElem? (i := 633) (by decide +kernel), List.mem_of_getElem? (i := 634) (by decide +kernel)⟩
theorem lw_p29 : lw_okq (⟨"SquareAlbum", "rateWaitedFor", "(I)I"⟩, 8) := ⟨⟨by decide +kernel, by decide +kernel⟩, List.mem_of_getElem? (i := 13) (by decide +kernel), List.mem_of_getElem? (i := 638) (by decide +kernel), List.mem_of_getElem? (i := 639) (by decide +kernel)⟩
theorem lw_p30 : lw_okq (⟨"SquareAlbum", "rateCopied", "(I)I"⟩, 8) := ⟨⟨by decide +kernel, by decide +kernel⟩, List.mem_of_getElem? (i := 13) (by decide +kernel), List.mem_of_getElem? (i := 643) (by decide +kernel), List.mem_of_getElem? (i := 644) (by decide +kernel)⟩
theorem lw_p31 : lw_okq (⟨"SquareAlbum", "rateClocked", "(I)I"⟩, 8) := ⟨⟨by decide +kernel, by decide +kernel⟩, List.mem_of_getElem? (i := 13) (by decide +kernel), List.mem_of_getElem? (i := 648) (by decide +kernel), List.mem_of_getElem? (i := 649) (by decide +kernel)⟩
def lw_privs_2 : List (MethodName × Nat) := [(⟨"SquareAlbum$Notes", "ofSeen", "(II)I"⟩, 6), (⟨"SquareAlbum$Notes", "areAllUnlike", "(I)Z"⟩, 6), (⟨"SquareAlbum", "lastWithHat", "()I"⟩, 8), (⟨"SquareAlbum", "firstWithoutHat", "()I"⟩, 8), (⟨"SquareAlbum$Scene", "findEmpties", "(I)I"⟩, 14), (⟨"SquareAlbum$Scene", "haveOneView", "(II)Z"⟩, 14), (⟨"SquareAlbum$Scene", "groundOf", "(IZ)J"⟩, 14), (⟨"SquareAlbum$Scene", "isEmptyGround", "(II)Z"⟩, 14), (⟨"SquareAlbum$Scene", "isGround", "(II)Z"⟩, 14), (⟨"SquareAlbum$Scene", "emptyInSomeOf", "(I)J"⟩, 14), (⟨"SquareAlbum", "ratePosed", "(I)I"⟩, 8), (⟨"SquareAlbum", "ratePicture", "(I)I"⟩, 8), (⟨"SquareAlbum", "rateCrossed", "(I)I"⟩, 8), (⟨"SquareAlbum", "rateWaitedFor", "(I)I"⟩, 8), (⟨"SquareAlbum", "rateCopied", "(I)I"⟩, 8), (⟨"SquareAlbum", "rateClocked", "(I)I"⟩, 8)]
theorem lw_r2 : ∀ q ∈ lw_privs_2, lw_okq q := List.forall_mem_cons.mpr ⟨lw_p16, List.forall_mem_cons.mpr ⟨lw_p17, List.forall_mem_cons.mpr ⟨lw_p18, List.forall_mem_cons.mpr ⟨lw_p19, List.forall_mem_cons.mpr ⟨lw_p20, List.forall_mem_cons.mpr ⟨lw_p21, List.forall_mem_cons.mpr ⟨lw_p22, List.forall_mem_cons.mpr ⟨lw_p23, List.forall_mem_cons.mpr ⟨lw_p24, List.forall_mem_cons.mpr ⟨lw_p25, List.forall_mem_cons.mpr ⟨lw_p26, List.forall_mem_cons.mpr ⟨lw_p27, List.forall_mem_cons.mpr ⟨lw_p28, List.forall_mem_cons.mpr ⟨lw_p29, List.forall_mem_cons.mpr ⟨lw_p30, List.forall_mem_cons.mpr ⟨lw_p31, fun _ h => absurd h List.not_mem_nil⟩⟩⟩⟩⟩⟩⟩⟩⟩⟩⟩⟩⟩⟩⟩⟩
theorem lw_p32 : lw_okq (⟨"SquareAlbumModel", "next", "()V"⟩, 38) := ⟨⟨by decide +kernel, by decide +kernel⟩, List.mem_of_getElem? (i := 674) (by decide +kernel), List.mem_of_getElem? (i := 811) (by decide +kernel), List.mem_of_getElem? (i := 812) (by decide +kernel)⟩
theorem lw_p33 : lw_okq (⟨"SquareAlbumModel", "here", "()I"⟩, 38) := ⟨⟨by decide +kernel, by decide +kernel⟩, List.mem_of_getElem? (i := 674) (by decide +kernel), List.mem_of_getElem? (i := 815) (by decide +kernel), List.mem_of_getElem? (i := 816) (by decide +kernel)⟩
theorem lw_p34 : lw_okq (⟨"SquareAlbumModel", "item", "(II)V"⟩, 38) := ⟨⟨by decide +kernel, by decide +kernel⟩, List.mem_of_getElem? (i := 674) (by decide +kernel), List.mem_of_getElem? (i := 823) (by decide +kernel), List.mem_of_getElem? (i := 824) (by decide +kernel)⟩
theorem lw_p35 : lw_okq (⟨"SquareAlbumModel", "due", "(Z)I"⟩, 38) := ⟨⟨by decide +kernel, by decide +kernel⟩, List.mem_of_getElem? (i := 674) (by decide +kernel), List.mem_of_getElem? (i := 827) (by decide +kernel), List.mem_of_getElem? (i := 828) (by decide +kernel)⟩
theorem lw_p36 : lw_okq (⟨"SquareAlbumModel", "number", "(II)I"⟩, 38) := ⟨⟨by decide +kernel, by decide +kernel⟩, List.mem_of_getElem? (i := 674) (by decide +kernel), List.mem_of_getElem? (i := 831) (by decide +kernel), List.mem_of_getElem? (i := 832) (by decide +kernel)⟩
theorem lw_p37 : lw_okq (⟨"SquareAlbumModel", "isOn", "(II)Z"⟩, 38) := ⟨⟨by decide +kernel, by decide +kernel⟩, List.mem_of_getElem? (i := 674) (by decide +kernel), List.mem_of_getElem? (i := 839) (by decide +kernel), List.mem_of_getElem? (i := 840) (by decide +kernel)⟩
theorem lw_p38 : lw_okq (⟨"SquareAlbumModel", "isWall", "(II)Z"⟩, 38) := ⟨⟨by decide +kernel, by decide +kernel⟩, List.mem_of_getElem? (i := 674) (by decide +kernel), List.mem_of_getElem? (i := 843) (by decide +kernel), List.mem_of_getElem? (i := 844) (by decide +kernel)⟩
theorem lw_p39 : lw_okq (⟨"SquareAlbumModel", "isPerson", "(I)Z"⟩, 38) := ⟨⟨by decide +kernel, by decide +kernel⟩, List.mem_of_getElem? (i := 674) (by decide +kernel), List.mem_of_getElem? (i := 851) (by decide +kernel), List.mem_of_getElem? (i := 852) (by decide +kernel)⟩
theorem lw_p40 : lw_okq (⟨"SquareAlbumModel", "isPicture", "(I)Z"⟩, 38) := ⟨⟨by decide +kernel, by decide +kernel⟩, List.mem_of_getElem? (i := 674) (by decide +kernel), List.mem_of_getElem? (i := 859) (by decide +kernel), List.mem_of_getElem? (i := 860) (by decide +kernel)⟩
theorem lw_p41 : lw_okq (⟨"SquareAlbumModel", "cellOf", "(II)I"⟩, 38) := ⟨⟨by decide +kernel, by decide +kernel⟩, List.mem_of_getElem? (i := 674) (by decide +kernel), List.mem_of_getElem? (i := 867) (by decide +kernel), List.mem_of_getElem? (i := 868) (by decide +kernel)⟩
theorem lw_p42 : lw_okq (⟨"SquareAlbumModel", "thoseOn", "(III)I"⟩, 38) := ⟨⟨by decide +kernel, by decide +kernel⟩, List.mem_of_getElem? (i := 674) (by decide +kernel), List.mem_of_getElem? (i := 881) (by decide +kernel), List.mem_of_getElem? (i := 882) (by decide +kernel)⟩
theorem lw_p43 : lw_okq (⟨"SquareAlbumModel", "showsOf", "(I)I"⟩, 38) := ⟨⟨by decide +kernel, by decide +kernel⟩, List.mem_of_getElem? (i := 674) (by decide +kernel), List.mem_of_getElem? (i := 889) (by decide +kernel), List.mem_of_getElem? (i := 890) (by decide +kernel)⟩
theorem lw_p44 : lw_okq (⟨"SquareAlbumModel", "lookAs", "(II)V"⟩, 38) := ⟨⟨by decide +kernel, by decide +kernel⟩, List.mem_of_getElem? (i := 674) (by decide +kernel), List.mem_of_getElem? (i := 893) (by decide +kernel), List.mem_of_getElem? (i := 894) (by decide +kernel)⟩
theorem lw_p45 : lw_okq (⟨"SquareAlbumModel", "lookFrom", "(IIII)V"⟩, 38) := ⟨⟨by decide +kernel, by decide +kernel⟩, List.mem_of_getElem? (i := 674) (by decide +kernel), List.mem_of_getElem? (i := 897) (by decide +kernel), List.mem_of_getElem? (i := 898) (by decide +kernel)⟩
theorem lw_p46 : lw_okq (⟨"SquareAlbumModel", "shown", "(I)I"⟩, 38) := ⟨⟨by decide +kernel, by decide +kernel⟩, List.mem_of_getElem? (i := 674) (by decide +kernel), List.mem_of_getElem? (i := 901) (by decide +kernel), List.mem_of_getElem? (i := 902) (by decide +kernel)⟩
theorem lw_p47 : lw_okq (⟨"SquareAlbumModel", "xAt", "(II)I"⟩, 38) := ⟨⟨by decide +kernel, by decide +kernel⟩, List.mem_of_getElem? (i := 674) (by decide +kernel), List.mem_of_getElem? (i := 905) (by decide +kernel), List.mem_of_getElem? (i := 906) (by decide +kernel)⟩
def lw_privs_3 : List (MethodName × Nat) := [(⟨"SquareAlbumModel", "next", "()V"⟩, 38), (⟨"SquareAlbumModel", "here", "()I"⟩, 38), (⟨"SquareAlbumModel", "item", "(II)V"⟩, 38), (⟨"SquareAlbumModel", "due", "(Z)I"⟩, 38), (⟨"SquareAlbumModel", "number", "(II)I"⟩, 38), (⟨"SquareAlbumModel", "isOn", "(II)Z"⟩, 38), (⟨"SquareAlbumModel", "isWall", "(II)Z"⟩, 38), (⟨"SquareAlbumModel", "isPerson", "(I)Z"⟩, 38), (⟨"SquareAlbumModel", "isPicture", "(I)Z"⟩, 38), (⟨"SquareAlbumModel", "cellOf", "(II)I"⟩, 38), (⟨"SquareAlbumModel", "thoseOn", "(III)I"⟩, 38), (⟨"SquareAlbumModel", "showsOf", "(I)I"⟩, 38), (⟨"SquareAlbumModel", "lookAs", "(II)V"⟩, 38), (⟨"SquareAlbumModel", "lookFrom", "(IIII)V"⟩, 38), (⟨"SquareAlbumModel", "shown", "(I)I"⟩, 38), (⟨"SquareAlbumModel", "xAt", "(II)I"⟩, 38)]
theorem lw_r3 : ∀ q ∈ lw_privs_3, lw_okq q := List.forall_mem_cons.mpr ⟨lw_p32, List.forall_mem_cons.mpr ⟨lw_p33, List.forall_mem_cons.mpr ⟨lw_p34, List.forall_mem_cons.mpr ⟨lw_p35, List.forall_mem_cons.mpr ⟨lw_p36, List.forall_mem_cons.mpr ⟨lw_p37, List.forall_mem_cons.mpr ⟨lw_p38, List.forall_mem_cons.mpr ⟨lw_p39, List.forall_mem_cons.mpr ⟨lw_p40, List.forall_mem_cons.mpr ⟨lw_p41, List.forall_mem_cons.mpr ⟨lw_p42, List.forall_mem_cons.mpr ⟨lw_p43, List.forall_mem_cons.mpr ⟨lw_p44, List.forall_mem_cons.mpr ⟨lw_p45, List.forall_mem_cons.mpr ⟨lw_p46, List.forall_mem_cons.mpr ⟨lw_p47, fun _ h => absurd h List.not_mem_nil⟩⟩⟩⟩⟩⟩⟩⟩⟩⟩⟩⟩⟩⟩⟩⟩
theorem lw_p48 : lw_okq (⟨"SquareAlbumModel", "yAt", "(II)I"⟩, 38) := ⟨⟨by decide +kernel, by decide +kernel⟩, List.mem_of_getElem? (i := 674) (by decide +kernel), List.mem_of_getElem? (i := 909) (by decide +kernel), List.mem_of_getElem? (i := 910) (by decide +kernel)⟩
theorem lw_p49 : lw_okq (⟨"SquareAlbumModel", "hides", "(II)I"⟩, 38) := ⟨⟨by decide +kernel, by decide +kernel⟩, List.mem_of_getElem? (i := 674) (by decide +kernel), List.mem_of_getElem? (i := 913) (by decide +kernel), List.mem_of_getElem? (i := 914) (by decide +kernel)⟩
theorem lw_p50 : lw_okq (⟨"SquareAlbumModel", "aheadOf", "(II)I"⟩, 38) := ⟨⟨by decide +kernel, by decide +kernel⟩, List.mem_of_getElem? (i := 674) (by decide +kernel), List.mem_of_getElem? (i := 925) (by decide +kernel), List.mem_of_getElem? (i := 926) (by decide +kernel)⟩
theorem lw_p51 : lw_okq (⟨"SquareAlbumModel", "isSet", "(I)Z"⟩, 38) := ⟨⟨by decide +kernel, by decide +kernel⟩, List.mem_of_getElem? (i := 674) (by decide +kernel), List.mem_of_getElem? (i := 933) (by decide +kernel), List.mem_of_getElem? (i := 934) (by decide +kernel)⟩
theorem lw_p52 : lw_okq (⟨"SquareAlbumModel", "heldNow", "()I"⟩, 38) := ⟨⟨by decide +kernel, by decide +kernel⟩, List.mem_of_getElem? (i := 674) (by decide +kernel), List.mem_of_getElem? (i := 947) (by decide +kernel), List.mem_of_getElem? (i := 948) (by decide +kernel)⟩
theorem lw_p53 : lw_okq (⟨"SquareAlbumModel", "isChain", "(I)Z"⟩, 38) := ⟨⟨by decide +kernel, by decide +kernel⟩, List.mem_of_getElem? (i := 674) (by decide +kernel), List.mem_of_getElem? (i := 959) (by decide +kernel), List.mem_of_getElem? (i := 960) (by decide +kernel)⟩
theorem lw_p54 : lw_okq (⟨"SquareAlbumModel", "isOne", "(II)Z"⟩, 38) := ⟨⟨by decide +kernel, by decide +kernel⟩, List.mem_of_getElem? (i := 674) (by decide +kernel), List.mem_of_getElem? (i := 963) (by decide +kernel), List.mem_of_getElem? (i := 964) (by decide +kernel)⟩
theorem lw_p55 : lw_okq (⟨"SquareAlbumModel", "withNow", "()I"⟩, 38) := ⟨⟨by decide +kernel, by decide +kernel⟩, List.mem_of_getElem? (i := 674) (by decide +kernel), List.mem_of_getElem? (i := 992) (by decide +kernel), List.mem_of_getElem? (i := 993) (by decide +kernel)⟩
theorem lw_p56 : lw_okq (⟨"SquareAlbumModel", "withoutNow", "()I"⟩, 38) := ⟨⟨by decide +kernel, by decide +kernel⟩, List.mem_of_getElem? (i := 674) (by decide +kernel), List.mem_of_getElem? (i := 996) (by decide +kernel), List.mem_of_getElem? (i := 997) (by decide +kernel)⟩
theorem lw_p57 : lw_okq (⟨"SquareAlbumModel", "findFree", "(I)V"⟩, 38) := ⟨⟨by decide +kernel, by decide +kernel⟩, List.mem_of_getElem? (i := 674) (by decide +kernel), List.mem_of_getElem? (i := 1008) (by decide +kernel), List.mem_of_getElem? (i := 1009) (by decide +kernel)⟩
theorem lw_p58 : lw_okq (⟨"SquareAlbumModel", "freeIn", "(III)I"⟩, 38) := ⟨⟨by decide +kernel, by decide +kernel⟩, List.mem_of_getElem? (i := 674) (by decide +kernel), List.mem_of_getElem? (i := 1012) (by decide +kernel), List.mem_of_getElem? (i := 1013) (by decide +kernel)⟩
theorem lw_p59 : lw_okq (⟨"SquareAlbumModel", "isAlike", "(II)Z"⟩, 38) := ⟨⟨by decide +kernel, by decide +kernel⟩, List.mem_of_getElem? (i := 674) (by decide +kernel), List.mem_of_getElem? (i := 1016) (by decide +kernel), List.mem_of_getElem? (i := 1017) (by decide +kernel)⟩
theorem lw_p60 : lw_okq (⟨"SquareAlbumModel", "waitOf", "(I)I"⟩, 38) := ⟨⟨by decide +kernel, by decide +kernel⟩, List.mem_of_getElem? (i := 674) (by decide +kernel), List.mem_of_getElem? (i := 1024) (by decide +kernel), List.mem_of_getElem? (i := 1025) (by decide +kernel)⟩
theorem lw_p61 : lw_okq (⟨"SquareAlbumModel", "manyTo", "(II)I"⟩, 38) := ⟨⟨by decide +kernel, by decide +kernel⟩, List.mem_of_getElem? (i := 674) (by decide +kernel), List.mem_of_getElem? (i := 1040) (by decide +kernel), List.mem_of_getElem? (i := 1041) (by decide +kernel)⟩
theorem lw_p62 : lw_okq (⟨"SquareAlbumModel", "copy", "(II)V"⟩, 38) := ⟨⟨by decide +kernel, by decide +kernel⟩, List.mem_of_getElem? (i := 674) (by decide +kernel), List.mem_of_getElem? (i := 1061) (by decide +kernel), List.mem_of_getElem? (i := 1062) (by decide +kernel)⟩
def lw_privs_4 : List (MethodName × Nat) := [(⟨"SquareAlbumModel", "yAt", "(II)I"⟩, 38), (⟨"SquareAlbumModel", "hides", "(II)I"⟩, 38), (⟨"SquareAlbumModel", "aheadOf", "(II)I"⟩, 38), (⟨"SquareAlbumModel", "isSet", "(I)Z"⟩, 38), (⟨"SquareAlbumModel", "heldNow", "()I"⟩, 38), (⟨"SquareAlbumModel", "isChain", "(I)Z"⟩, 38), (⟨"SquareAlbumModel", "isOne", "(II)Z"⟩, 38), (⟨"SquareAlbumModel", "withNow", "()I"⟩, 38), (⟨"SquareAlbumModel", "withoutNow", "()I"⟩, 38), (⟨"SquareAlbumModel", "findFree", "(I)V"⟩, 38), (⟨"SquareAlbumModel", "freeIn", "(III)I"⟩, 38), (⟨"SquareAlbumModel", "isAlike", "(II)Z"⟩, 38), (⟨"SquareAlbumModel", "waitOf", "(I)I"⟩, 38), (⟨"SquareAlbumModel", "manyTo", "(II)I"⟩, 38), (⟨"SquareAlbumModel", "copy", "(II)V"⟩, 38)]
theorem lw_r4 : ∀ q ∈ lw_privs_4, lw_okq q := List.forall_mem_cons.mpr ⟨lw_p48, List.forall_mem_cons.mpr ⟨lw_p49, List.forall_mem_cons.mpr ⟨lw_p50, List.forall_mem_cons.mpr ⟨lw_p51, List.forall_mem_cons.mpr ⟨lw_p52, List.forall_mem_cons.mpr ⟨lw_p53, List.forall_mem_cons.mpr ⟨lw_p54, List.forall_mem_cons.mpr ⟨lw_p55, List.forall_mem_cons.mpr ⟨lw_p56, List.forall_mem_cons.mpr ⟨lw_p57, List.forall_mem_cons.mpr ⟨lw_p58, List.forall_mem_cons.mpr ⟨lw_p59, List.forall_mem_cons.mpr ⟨lw_p60, List.forall_mem_cons.mpr ⟨lw_p61, List.forall_mem_cons.mpr ⟨lw_p62, fun _ h => absurd h List.not_mem_nil⟩⟩⟩⟩⟩⟩⟩⟩⟩⟩⟩⟩⟩⟩⟩
def lw_privs : List (MethodName × Nat) := lw_privs_1 ++ (lw_privs_2 ++ (lw_privs_3 ++ (lw_privs_4)))
def lw_tbl : List Cond := k2_sels lw_privs ++ tables_1
theorem lw_privs_ok : ∀ q ∈ lw_privs, lw_okq q := by
  show ∀ q ∈ lw_privs_1 ++ (lw_privs_2 ++ (lw_privs_3 ++ (lw_privs_4))), lw_okq q
  exact List.forall_mem_append.mpr ⟨lw_r1, List.forall_mem_append.mpr ⟨lw_r2, List.forall_mem_append.mpr ⟨lw_r3, lw_r4⟩⟩⟩
abbrev RX0 : String := "SquareAlbum$ClockSetter"
def TX0 : u_T := fun k => match k with
  | 0 => ("SquareAlbum$ClockSetter", "tallies", "[I", true)
  | 1 => ("SquareAlbum$ClockSetter", "ahead", "[I", true)
  | 2 => ("SquareAlbum$ClockSetter", "ofLastClock", "I", false)
  | 3 => ("SquareAlbum$ClockSetter", "held", "I", false)
  | _ => ("SquareAlbum$ClockSetter", "outliers", "I", false)
def tyX0 : Nat → FieldType := fun k => match k with
  | 0 => .array .int
  | 1 => .array .int
  | 2 => .int
  | 3 => .int
  | _ => .int
abbrev wsX00 : List Cond := u_ws RX0 TX0 5
theorem nmX0 : ∀ a, a < 5 → ∀ b, b < 5 → a ≠ b → (TX0 a).2.1 ≠ (TX0 b).2.1 := by decide +kernel
theorem tyX0_ok : ∀ k, k < 5 → parseFieldDescriptor (TX0 k).2.2.1 = some (tyX0 k) := by decide +kernel
abbrev cX0_init : ByteArray := prog_2_method_1_code
abbrev yX0_init : MethodName := ⟨RX0, "<init>", "()V"⟩
abbrev cX0_putRight : ByteArray := prog_2_method_2_code
abbrev yX0_putRight : MethodName := ⟨RX0, "putRight", "(LSquareAlbum$Notes;)V"⟩
abbrev cX0_tryLastClock : ByteArray := prog_2_method_3_code
abbrev yX0_tryLastClock : MethodName := ⟨RX0, "tryLastClock", "(III)V"⟩
abbrev cX0_tallyOf : ByteArray := prog_2_method_4_code
abbrev yX0_tallyOf : MethodName := ⟨RX0, "tallyOf", "(III)I"⟩
abbrev cX0_tally : ByteArray := prog_2_method_5_code
abbrev yX0_tally : MethodName := ⟨RX0, "tally", "(III)I"⟩
abbrev cX0_countFacts : ByteArray := prog_2_method_6_code
abbrev yX0_countFacts : MethodName := ⟨RX0, "countFacts", "(LSquareAlbum$Notes;)V"⟩
abbrev cX0_countFact : ByteArray := prog_2_method_7_code
abbrev yX0_countFact : MethodName := ⟨RX0, "countFact", "(III)V"⟩
abbrev RX1 : String := "SquareAlbum$Notes"
def TX1 : u_T := fun k => match k with
  | 0 => ("SquareAlbum$Notes", "facts", "[I", true)
  | 1 => ("SquareAlbum$Notes", "sightings", "[I", true)
  | 2 => ("SquareAlbum$Notes", "hat", "[I", true)
  | 3 => ("SquareAlbum$Notes", "joinable", "[I", true)
  | 4 => ("SquareAlbum$Notes", "factCount", "I", false)
  | _ => ("SquareAlbum$Notes", "seenCount", "I", false)
def tyX1 : Nat → FieldType := fun k => match k with
  | 0 => .array .int
  | 1 => .array .int
  | 2 => .array .int
  | 3 => .array .int
  | 4 => .int
  | _ => .int
abbrev wsX10 : List Cond := u_ws RX1 TX1 6
theorem nmX1 : ∀ a, a < 6 → ∀ b, b < 6 → a ≠ b → (TX1 a).2.1 ≠ (TX1 b).2.1 := by decide +kernel
theorem tyX1_ok : ∀ k, k < 6 → parseFieldDescriptor (TX1 k).2.2.1 = some (tyX1 k) := by decide +kernel
abbrev cX1_init : ByteArray := prog_3_method_1_code
abbrev yX1_init : MethodName := ⟨RX1, "<init>", "()V"⟩
abbrev cX1_tellNothingOfHat : ByteArray := prog_3_method_2_code
abbrev yX1_tellNothingOfHat : MethodName := ⟨RX1, "tellNothingOfHat", "()V"⟩
abbrev cX1_become : ByteArray := prog_3_method_3_code
abbrev yX1_become : MethodName := ⟨RX1, "become", "(LSquareAlbum$Notes;)V"⟩
abbrev cX1_addFact : ByteArray := prog_3_method_4_code
abbrev yX1_addFact : MethodName := ⟨RX1, "addFact", "(IIII)I"⟩
abbrev cX1_addSeen : ByteArray := prog_3_method_5_code
abbrev yX1_addSeen : MethodName := ⟨RX1, "addSeen", "(IIII)I"⟩
abbrev cX1_putRow : ByteArray := prog_3_method_6_code
abbrev yX1_putRow : MethodName := ⟨RX1, "putRow", "([IIIIII)V"⟩
abbrev cX1_ofFact : ByteArray := prog_3_method_7_code
abbrev yX1_ofFact : MethodName := ⟨RX1, "ofFact", "(II)I"⟩
abbrev cX1_ofSeen : ByteArray := prog_3_method_8_code
abbrev yX1_ofSeen : MethodName := ⟨RX1, "ofSeen", "(II)I"⟩
abbrev cX1_canBeOne : ByteArray := prog_3_method_9_code
abbrev yX1_canBeOne : MethodName := ⟨RX1, "canBeOne", "(II)Z"⟩
abbrev cX1_findJoinable : ByteArray := prog_3_method_10_code
abbrev yX1_findJoinable : MethodName := ⟨RX1, "findJoinable", "()V"⟩
abbrev cX1_areAllUnlike : ByteArray := prog_3_method_11_code
abbrev yX1_areAllUnlike : MethodName := ⟨RX1, "areAllUnlike", "(I)Z"⟩
abbrev cX1_fewestPeople : ByteArray := prog_3_method_12_code
abbrev yX1_fewestPeople : MethodName := ⟨RX1, "fewestPeople", "()I"⟩
abbrev RX2 : String := "SquareAlbum$Scene"
def TX2 : u_T := fun k => match k with
  | 0 => ("SquareAlbum$Scene", "walls", "[Z", true)
  | 1 => ("SquareAlbum$Scene", "people", "[I", true)
  | 2 => ("SquareAlbum$Scene", "pictures", "[I", true)
  | 3 => ("SquareAlbum$Scene", "wide", "I", false)
  | 4 => ("SquareAlbum$Scene", "high", "I", false)
  | 5 => ("SquareAlbum$Scene", "wallCount", "I", false)
  | 6 => ("SquareAlbum$Scene", "personCount", "I", false)
  | 7 => ("SquareAlbum$Scene", "pictureCount", "I", false)
  | 8 => ("SquareAlbum$Scene", "cells", "[I", true)
  | 9 => ("SquareAlbum$Scene", "crowd", "[I", true)
  | 10 => ("SquareAlbum$Scene", "standing", "I", false)
  | 11 => ("SquareAlbum$Scene", "shown", "[I", true)
  | 12 => ("SquareAlbum$Scene", "shownNear", "[I", true)
  | _ => ("SquareAlbum$Scene", "empties", "[J", true)
def tyX2 : Nat → FieldType := fun k => match k with
  | 0 => .array .boolean
  | 1 => .array .int
  | 2 => .array .int
  | 3 => .int
  | 4 => .int
  | 5 => .int
  | 6 => .int
  | 7 => .int
  | 8 => .array .int
  | 9 => .array .int
  | 10 => .int
  | 11 => .array .int
  | 12 => .array .int
  | _ => .array .long
abbrev wsX20 : List Cond := u_ws RX2 TX2 14
theorem nmX2 : ∀ a, a < 14 → ∀ b, b < 14 → a ≠ b → (TX2 a).2.1 ≠ (TX2 b).2.1 := by decide +kernel
theorem tyX2_ok : ∀ k, k < 14 → parseFieldDescriptor (TX2 k).2.2.1 = some (tyX2 k) := by decide +kernel
abbrev cX2_init : ByteArray := prog_4_method_1_code
abbrev yX2_init : MethodName := ⟨RX2, "<init>", "()V"⟩
abbrev cX2_beginAnew : ByteArray := prog_4_method_2_code
abbrev yX2_beginAnew : MethodName := ⟨RX2, "beginAnew", "()V"⟩
abbrev cX2_hasRoomFor : ByteArray := prog_4_method_3_code
abbrev yX2_hasRoomFor : MethodName := ⟨RX2, "hasRoomFor", "(I)Z"⟩
abbrev cX2_addItem : ByteArray := prog_4_method_4_code
abbrev yX2_addItem : MethodName := ⟨RX2, "addItem", "(I[I)V"⟩
abbrev cX2_addWall : ByteArray := prog_4_method_5_code
abbrev yX2_addWall : MethodName := ⟨RX2, "addWall", "(II)V"⟩
abbrev cX2_isCell : ByteArray := prog_4_method_6_code
abbrev yX2_isCell : MethodName := ⟨RX2, "isCell", "(II)Z"⟩
abbrev cX2_isWall : ByteArray := prog_4_method_7_code
abbrev yX2_isWall : MethodName := ⟨RX2, "isWall", "(II)Z"⟩
abbrev cX2_isGround : ByteArray := prog_4_method_8_code
abbrev yX2_isGround : MethodName := ⟨RX2, "isGround", "(II)Z"⟩
abbrev cX2_isPerson : ByteArray := prog_4_method_9_code
abbrev yX2_isPerson : MethodName := ⟨RX2, "isPerson", "(I)Z"⟩
abbrev cX2_isPicture : ByteArray := prog_4_method_10_code
abbrev yX2_isPicture : MethodName := ⟨RX2, "isPicture", "(I)Z"⟩
abbrev cX2_isSetOfPeople : ByteArray := prog_4_method_11_code
abbrev yX2_isSetOfPeople : MethodName := ⟨RX2, "isSetOfPeople", "(I)Z"⟩
abbrev cX2_ofPerson : ByteArray := prog_4_method_12_code
abbrev yX2_ofPerson : MethodName := ⟨RX2, "ofPerson", "(II)I"⟩
abbrev cX2_ofPicture : ByteArray := prog_4_method_13_code
abbrev yX2_ofPicture : MethodName := ⟨RX2, "ofPicture", "(II)I"⟩
abbrev cX2_cellOf : ByteArray := prog_4_method_14_code
abbrev yX2_cellOf : MethodName := ⟨RX2, "cellOf", "(II)I"⟩
abbrev cX2_standAt : ByteArray := prog_4_method_15_code
abbrev yX2_standAt : MethodName := ⟨RX2, "standAt", "(I)V"⟩
abbrev cX2_peopleOn : ByteArray := prog_4_method_16_code
abbrev yX2_peopleOn : MethodName := ⟨RX2, "peopleOn", "(III)I"⟩
abbrev cX2_peopleNear : ByteArray := prog_4_method_17_code
abbrev yX2_peopleNear : MethodName := ⟨RX2, "peopleNear", "(IIII)I"⟩
abbrev cX2_goneX : ByteArray := prog_4_method_18_code
abbrev yX2_goneX : MethodName := ⟨RX2, "goneX", "(III)I"⟩
abbrev cX2_goneY : ByteArray := prog_4_method_19_code
abbrev yX2_goneY : MethodName := ⟨RX2, "goneY", "(III)I"⟩
abbrev cX2_stateOfCell : ByteArray := prog_4_method_20_code
abbrev yX2_stateOfCell : MethodName := ⟨RX2, "stateOfCell", "(IIIII)I"⟩
abbrev cX2_stateOf : ByteArray := prog_4_method_21_code
abbrev yX2_stateOf : MethodName := ⟨RX2, "stateOf", "(IIIII)I"⟩
abbrev cX2_shownFrom : ByteArray := prog_4_method_22_code
abbrev yX2_shownFrom : MethodName := ⟨RX2, "shownFrom", "(IIIII)I"⟩
abbrev cX2_showAll : ByteArray := prog_4_method_23_code
abbrev yX2_showAll : MethodName := ⟨RX2, "showAll", "(I[I)V"⟩
abbrev cX2_stateInPicture : ByteArray := prog_4_method_24_code
abbrev yX2_stateInPicture : MethodName := ⟨RX2, "stateInPicture", "(II)I"⟩
abbrev cX2_isPlaceOf : ByteArray := prog_4_method_25_code
abbrev yX2_isPlaceOf : MethodName := ⟨RX2, "isPlaceOf", "(IIII)Z"⟩
abbrev cX2_countPlacesOf : ByteArray := prog_4_method_26_code
abbrev yX2_countPlacesOf : MethodName := ⟨RX2, "countPlacesOf", "(III)I"⟩
abbrev cX2_firstPlaceOf : ByteArray := prog_4_method_27_code
abbrev yX2_firstPlaceOf : MethodName := ⟨RX2, "firstPlaceOf", "(III)I"⟩
abbrev cX2_groundOf : ByteArray := prog_4_method_28_code
abbrev yX2_groundOf : MethodName := ⟨RX2, "groundOf", "(IZ)J"⟩
abbrev cX2_isEmptyGround : ByteArray := prog_4_method_29_code
abbrev yX2_isEmptyGround : MethodName := ⟨RX2, "isEmptyGround", "(II)Z"⟩
abbrev cX2_haveOneView : ByteArray := prog_4_method_30_code
abbrev yX2_haveOneView : MethodName := ⟨RX2, "haveOneView", "(II)Z"⟩
abbrev cX2_findEmpties : ByteArray := prog_4_method_31_code
abbrev yX2_findEmpties : MethodName := ⟨RX2, "findEmpties", "(I)I"⟩
abbrev cX2_emptyInSomeOf : ByteArray := prog_4_method_32_code
abbrev yX2_emptyInSomeOf : MethodName := ⟨RX2, "emptyInSomeOf", "(I)J"⟩
abbrev cX2_fewestForEmpty : ByteArray := prog_4_method_33_code
abbrev yX2_fewestForEmpty : MethodName := ⟨RX2, "fewestForEmpty", "(I)I"⟩
abbrev cX2_countNeverEmpty : ByteArray := prog_4_method_34_code
abbrev yX2_countNeverEmpty : MethodName := ⟨RX2, "countNeverEmpty", "(I)I"⟩
abbrev cX2_waitOf : ByteArray := prog_4_method_35_code
abbrev yX2_waitOf : MethodName := ⟨RX2, "waitOf", "(I)I"⟩
abbrev cX2_mostOftenWith : ByteArray := prog_4_method_36_code
abbrev yX2_mostOftenWith : MethodName := ⟨RX2, "mostOftenWith", "(I)I"⟩
abbrev cX2_firstSecondOf : ByteArray := prog_4_method_37_code
abbrev yX2_firstSecondOf : MethodName := ⟨RX2, "firstSecondOf", "(I)I"⟩
abbrev cX2_lastSecondOf : ByteArray := prog_4_method_38_code
abbrev yX2_lastSecondOf : MethodName := ⟨RX2, "lastSecondOf", "(I)I"⟩
abbrev cX2_mostPicturesOfOne : ByteArray := prog_4_method_39_code
abbrev yX2_mostPicturesOfOne : MethodName := ⟨RX2, "mostPicturesOfOne", "(I)I"⟩
abbrev RX3 : String := "SquareAlbum$TextReader"
def TX3 : u_T := fun k => match k with
  | 0 => ("SquareAlbum$TextReader", "bytes", "[B", true)
  | 1 => ("SquareAlbum$TextReader", "numbers", "[I", true)
  | 2 => ("SquareAlbum$TextReader", "length", "I", false)
  | 3 => ("SquareAlbum$TextReader", "place", "I", false)
  | 4 => ("SquareAlbum$TextReader", "token", "I", false)
  | 5 => ("SquareAlbum$TextReader", "start", "I", false)
  | _ => ("SquareAlbum$TextReader", "number", "I", false)
def tyX3 : Nat → FieldType := fun k => match k with
  | 0 => .array .byte
  | 1 => .array .int
  | 2 => .int
  | 3 => .int
  | 4 => .int
  | 5 => .int
  | _ => .int
abbrev wsX30 : List Cond := u_ws RX3 TX3 7
theorem nmX3 : ∀ a, a < 7 → ∀ b, b < 7 → a ≠ b → (TX3 a).2.1 ≠ (TX3 b).2.1 := by decide +kernel
theorem tyX3_ok : ∀ k, k < 7 → parseFieldDescriptor (TX3 k).2.2.1 = some (tyX3 k) := by decide +kernel
abbrev cX3_init : ByteArray := prog_5_method_1_code
abbrev yX3_init : MethodName := ⟨RX3, "<init>", "()V"⟩
abbrev cX3_append : ByteArray := prog_5_method_2_code
abbrev yX3_append : MethodName := ⟨RX3, "append", "(JI)I"⟩
abbrev cX3_readInto : ByteArray := prog_5_method_3_code
abbrev yX3_readInto : MethodName := ⟨RX3, "readInto", "(LSquareAlbum$Scene;)I"⟩
abbrev cX3_readItem : ByteArray := prog_5_method_4_code
abbrev yX3_readItem : MethodName := ⟨RX3, "readItem", "(LSquareAlbum$Scene;Z)Z"⟩
abbrev cX3_readNumber : ByteArray := prog_5_method_5_code
abbrev yX3_readNumber : MethodName := ⟨RX3, "readNumber", "(II)Z"⟩
abbrev cX3_nextToken : ByteArray := prog_5_method_6_code
abbrev yX3_nextToken : MethodName := ⟨RX3, "nextToken", "()V"⟩
abbrev cX3_takeNumber : ByteArray := prog_5_method_7_code
abbrev yX3_takeNumber : MethodName := ⟨RX3, "takeNumber", "()V"⟩
abbrev cX3_takeWord : ByteArray := prog_5_method_8_code
abbrev yX3_takeWord : MethodName := ⟨RX3, "takeWord", "()V"⟩
abbrev RX4 : String := "SquareAlbum"
def TX4 : u_T := fun k => match k with
  | 0 => ("SquareAlbum", "reader", "LSquareAlbum$TextReader;", true)
  | 1 => ("SquareAlbum", "notes", "LSquareAlbum$Notes;", true)
  | 2 => ("SquareAlbum", "images", "[LSquareAlbum$Notes;", true)
  | 3 => ("SquareAlbum", "kept", "[Z", true)
  | 4 => ("SquareAlbum", "clocks", "LSquareAlbum$ClockSetter;", true)
  | 5 => ("SquareAlbum", "scene", "LSquareAlbum$Scene;", false)
  | 6 => ("SquareAlbum", "spare", "LSquareAlbum$Scene;", false)
  | _ => ("SquareAlbum", "traced", "J", false)
def tyX4 : Nat → FieldType := fun k => match k with
  | 0 => .object "SquareAlbum$TextReader"
  | 1 => .object "SquareAlbum$Notes"
  | 2 => .array (.object "SquareAlbum$Notes")
  | 3 => .array .boolean
  | 4 => .object "SquareAlbum$ClockSetter"
  | 5 => .object "SquareAlbum$Scene"
  | 6 => .object "SquareAlbum$Scene"
  | _ => .long
abbrev wsX40 : List Cond := u_ws RX4 TX4 8
theorem nmX4 : ∀ a, a < 8 → ∀ b, b < 8 → a ≠ b → (TX4 a).2.1 ≠ (TX4 b).2.1 := by decide +kernel
theorem tyX4_ok : ∀ k, k < 8 → parseFieldDescriptor (TX4 k).2.2.1 = some (tyX4 k) := by decide +kernel
abbrev cX4_init : ByteArray := prog_1_method_1_code
abbrev yX4_init : MethodName := ⟨RX4, "<init>", "()V"⟩
abbrev cX4_type : ByteArray := prog_1_method_2_code
abbrev yX4_type : MethodName := ⟨RX4, "type", "(JI)I"⟩
abbrev cX4_clear : ByteArray := prog_1_method_3_code
abbrev yX4_clear : MethodName := ⟨RX4, "clear", "()I"⟩
abbrev cX4_square : ByteArray := prog_1_method_4_code
abbrev yX4_square : MethodName := ⟨RX4, "square", "()I"⟩
abbrev cX4_wall : ByteArray := prog_1_method_5_code
abbrev yX4_wall : MethodName := ⟨RX4, "wall", "(II)I"⟩
abbrev cX4_person : ByteArray := prog_1_method_6_code
abbrev yX4_person : MethodName := ⟨RX4, "person", "(II)I"⟩
abbrev cX4_picture : ByteArray := prog_1_method_7_code
abbrev yX4_picture : MethodName := ⟨RX4, "picture", "(II)I"⟩
abbrev cX4_where : ByteArray := prog_1_method_8_code
abbrev yX4_where : MethodName := ⟨RX4, "where", "(II)I"⟩
abbrev cX4_on : ByteArray := prog_1_method_9_code
abbrev yX4_on : MethodName := ⟨RX4, "on", "(III)I"⟩
abbrev cX4_shows : ByteArray := prog_1_method_10_code
abbrev yX4_shows : MethodName := ⟨RX4, "shows", "(I)I"⟩
abbrev cX4_view : ByteArray := prog_1_method_11_code
abbrev yX4_view : MethodName := ⟨RX4, "view", "(IIIII)I"⟩
abbrev cX4_hidden : ByteArray := prog_1_method_12_code
abbrev yX4_hidden : MethodName := ⟨RX4, "hidden", "(II)I"⟩
abbrev cX4_from : ByteArray := prog_1_method_13_code
abbrev yX4_from : MethodName := ⟨RX4, "from", "(IIII)I"⟩
abbrev cX4_fact : ByteArray := prog_1_method_14_code
abbrev yX4_fact : MethodName := ⟨RX4, "fact", "(IIII)I"⟩
abbrev cX4_right : ByteArray := prog_1_method_15_code
abbrev yX4_right : MethodName := ⟨RX4, "right", "(I)I"⟩
abbrev cX4_seen : ByteArray := prog_1_method_16_code
abbrev yX4_seen : MethodName := ⟨RX4, "seen", "(IIII)I"⟩
abbrev cX4_joined : ByteArray := prog_1_method_17_code
abbrev yX4_joined : MethodName := ⟨RX4, "joined", "()I"⟩
abbrev cX4_forget : ByteArray := prog_1_method_18_code
abbrev yX4_forget : MethodName := ⟨RX4, "forget", "()I"⟩
abbrev cX4_all : ByteArray := prog_1_method_19_code
abbrev yX4_all : MethodName := ⟨RX4, "all", "(III)I"⟩
abbrev cX4_has : ByteArray := prog_1_method_20_code
abbrev yX4_has : MethodName := ⟨RX4, "has", "(II)I"⟩
abbrev cX4_hat : ByteArray := prog_1_method_21_code
abbrev yX4_hat : MethodName := ⟨RX4, "hat", "(I)I"⟩
abbrev cX4_near : ByteArray := prog_1_method_22_code
abbrev yX4_near : MethodName := ⟨RX4, "near", "(III)I"⟩
abbrev cX4_empty : ByteArray := prog_1_method_23_code
abbrev yX4_empty : MethodName := ⟨RX4, "empty", "(II)I"⟩
abbrev cX4_waits : ByteArray := prog_1_method_24_code
abbrev yX4_waits : MethodName := ⟨RX4, "waits", "(I)I"⟩
abbrev cX4_lost : ByteArray := prog_1_method_25_code
abbrev yX4_lost : MethodName := ⟨RX4, "lost", "()I"⟩
abbrev cX4_told : ByteArray := prog_1_method_26_code
abbrev yX4_told : MethodName := ⟨RX4, "told", "(II)I"⟩
abbrev cX4_rule : ByteArray := prog_1_method_27_code
abbrev yX4_rule : MethodName := ⟨RX4, "rule", "(I)I"⟩
abbrev cX4_untrue : ByteArray := prog_1_method_28_code
abbrev yX4_untrue : MethodName := ⟨RX4, "untrue", "(II)I"⟩
abbrev cX4_rate : ByteArray := prog_1_method_29_code
abbrev yX4_rate : MethodName := ⟨RX4, "rate", "(II)I"⟩
abbrev cX4_keep : ByteArray := prog_1_method_30_code
abbrev yX4_keep : MethodName := ⟨RX4, "keep", "(I)I"⟩
abbrev cX4_back : ByteArray := prog_1_method_31_code
abbrev yX4_back : MethodName := ⟨RX4, "back", "(I)I"⟩
abbrev cX4_count : ByteArray := prog_1_method_32_code
abbrev yX4_count : MethodName := ⟨RX4, "count", "(I)I"⟩
abbrev cX4_trace : ByteArray := prog_1_method_33_code
abbrev yX4_trace : MethodName := ⟨RX4, "trace", "()J"⟩
abbrev cX4_isBetween : ByteArray := prog_1_method_34_code
abbrev yX4_isBetween : MethodName := ⟨RX4, "isBetween", "(III)Z"⟩
abbrev cX4_countShowing : ByteArray := prog_1_method_35_code
abbrev yX4_countShowing : MethodName := ⟨RX4, "countShowing", "([III)I"⟩
abbrev cX4_greatestDivisor : ByteArray := prog_1_method_36_code
abbrev yX4_greatestDivisor : MethodName := ⟨RX4, "greatestDivisor", "(II)I"⟩
abbrev cX4_lastWithHat : ByteArray := prog_1_method_37_code
abbrev yX4_lastWithHat : MethodName := ⟨RX4, "lastWithHat", "()I"⟩
abbrev cX4_firstWithoutHat : ByteArray := prog_1_method_38_code
abbrev yX4_firstWithoutHat : MethodName := ⟨RX4, "firstWithoutHat", "()I"⟩
abbrev cX4_ratePicture : ByteArray := prog_1_method_39_code
abbrev yX4_ratePicture : MethodName := ⟨RX4, "ratePicture", "(I)I"⟩
abbrev cX4_ratePosed : ByteArray := prog_1_method_40_code
abbrev yX4_ratePosed : MethodName := ⟨RX4, "ratePosed", "(I)I"⟩
abbrev cX4_rateCrossed : ByteArray := prog_1_method_41_code
abbrev yX4_rateCrossed : MethodName := ⟨RX4, "rateCrossed", "(I)I"⟩
abbrev cX4_rateWaitedFor : ByteArray := prog_1_method_42_code
abbrev yX4_rateWaitedFor : MethodName := ⟨RX4, "rateWaitedFor", "(I)I"⟩
abbrev cX4_rateCopied : ByteArray := prog_1_method_43_code
abbrev yX4_rateCopied : MethodName := ⟨RX4, "rateCopied", "(I)I"⟩
abbrev cX4_rateClocked : ByteArray := prog_1_method_44_code
abbrev yX4_rateClocked : MethodName := ⟨RX4, "rateClocked", "(I)I"⟩
abbrev RX5 : String := "SquareAlbumModel"
def TX5 : u_T := fun k => match k with
  | 0 => ("SquareAlbumModel", "trace", "J", false)
  | 1 => ("SquareAlbumModel", "text", "[B", true)
  | 2 => ("SquareAlbumModel", "typed", "I", false)
  | 3 => ("SquareAlbumModel", "wides", "[I", true)
  | 4 => ("SquareAlbumModel", "highs", "[I", true)
  | 5 => ("SquareAlbumModel", "walls", "[Z", true)
  | 6 => ("SquareAlbumModel", "people", "[I", true)
  | 7 => ("SquareAlbumModel", "person", "[I", true)
  | 8 => ("SquareAlbumModel", "pictures", "[I", true)
  | 9 => ("SquareAlbumModel", "picture", "[I", true)
  | 10 => ("SquareAlbumModel", "at", "I", false)
  | 11 => ("SquareAlbumModel", "start", "I", false)
  | 12 => ("SquareAlbumModel", "sort", "I", false)
  | 13 => ("SquareAlbumModel", "value", "I", false)
  | 14 => ("SquareAlbumModel", "fault", "I", false)
  | 15 => ("SquareAlbumModel", "fromX", "I", false)
  | 16 => ("SquareAlbumModel", "fromY", "I", false)
  | 17 => ("SquareAlbumModel", "toward", "I", false)
  | 18 => ("SquareAlbumModel", "second", "I", false)
  | 19 => ("SquareAlbumModel", "sideNow", "I", false)
  | 20 => ("SquareAlbumModel", "facts", "[I", true)
  | 21 => ("SquareAlbumModel", "factA", "[I", true)
  | 22 => ("SquareAlbumModel", "factU", "[I", true)
  | 23 => ("SquareAlbumModel", "factB", "[I", true)
  | 24 => ("SquareAlbumModel", "factV", "[I", true)
  | 25 => ("SquareAlbumModel", "seen", "[I", true)
  | 26 => ("SquareAlbumModel", "seenX", "[I", true)
  | 27 => ("SquareAlbumModel", "seenY", "[I", true)
  | 28 => ("SquareAlbumModel", "seenT", "[I", true)
  | 29 => ("SquareAlbumModel", "seenMark", "[I", true)
  | 30 => ("SquareAlbumModel", "hats", "[I", true)
  | 31 => ("SquareAlbumModel", "isKept", "[Z", true)
  | 32 => ("SquareAlbumModel", "offs", "[I", true)
  | 33 => ("SquareAlbumModel", "bestOffs", "[I", true)
  | 34 => ("SquareAlbumModel", "fewest", "[I", true)
  | 35 => ("SquareAlbumModel", "free", "[I", true)
  | 36 => ("SquareAlbumModel", "cells", "I", false)
  | _ => ("SquareAlbumModel", "withs", "[I", true)
def tyX5 : Nat → FieldType := fun k => match k with
  | 0 => .long
  | 1 => .array .byte
  | 2 => .int
  | 3 => .array .int
  | 4 => .array .int
  | 5 => .array .boolean
  | 6 => .array .int
  | 7 => .array .int
  | 8 => .array .int
  | 9 => .array .int
  | 10 => .int
  | 11 => .int
  | 12 => .int
  | 13 => .int
  | 14 => .int
  | 15 => .int
  | 16 => .int
  | 17 => .int
  | 18 => .int
  | 19 => .int
  | 20 => .array .int
  | 21 => .array .int
  | 22 => .array .int
  | 23 => .array .int
  | 24 => .array .int
  | 25 => .array .int
  | 26 => .array .int
  | 27 => .array .int
  | 28 => .array .int
  | 29 => .array .int
  | 30 => .array .int
  | 31 => .array .boolean
  | 32 => .array .int
  | 33 => .array .int
  | 34 => .array .int
  | 35 => .array .int
  | 36 => .int
  | _ => .array .int
abbrev wsX50 : List Cond := u_ws RX5 TX5 38
theorem nmX5 : ∀ a, a < 38 → ∀ b, b < 38 → a ≠ b → (TX5 a).2.1 ≠ (TX5 b).2.1 := by decide +kernel
theorem tyX5_ok : ∀ k, k < 38 → parseFieldDescriptor (TX5 k).2.2.1 = some (tyX5 k) := by decide +kernel
abbrev cX5_init : ByteArray := prog_7_method_1_code
abbrev yX5_init : MethodName := ⟨RX5, "<init>", "()V"⟩
abbrev cX5_in : ByteArray := prog_7_method_3_code
abbrev yX5_in : MethodName := ⟨RX5, "in", "(III)Z"⟩
abbrev cX5_type : ByteArray := prog_7_method_4_code
abbrev yX5_type : MethodName := ⟨RX5, "type", "(JI)I"⟩
abbrev cX5_clear : ByteArray := prog_7_method_5_code
abbrev yX5_clear : MethodName := ⟨RX5, "clear", "()I"⟩
abbrev cX5_here : ByteArray := prog_7_method_6_code
abbrev yX5_here : MethodName := ⟨RX5, "here", "()I"⟩
abbrev cX5_meaning : ByteArray := prog_7_method_7_code
abbrev yX5_meaning : MethodName := ⟨RX5, "meaning", "(II)I"⟩
abbrev cX5_next : ByteArray := prog_7_method_8_code
abbrev yX5_next : MethodName := ⟨RX5, "next", "()V"⟩
abbrev cX5_due : ByteArray := prog_7_method_9_code
abbrev yX5_due : MethodName := ⟨RX5, "due", "(Z)I"⟩
abbrev cX5_number : ByteArray := prog_7_method_10_code
abbrev yX5_number : MethodName := ⟨RX5, "number", "(II)I"⟩
abbrev cX5_item : ByteArray := prog_7_method_11_code
abbrev yX5_item : MethodName := ⟨RX5, "item", "(II)V"⟩
abbrev cX5_square : ByteArray := prog_7_method_12_code
abbrev yX5_square : MethodName := ⟨RX5, "square", "()I"⟩
abbrev cX5_isOn : ByteArray := prog_7_method_13_code
abbrev yX5_isOn : MethodName := ⟨RX5, "isOn", "(II)Z"⟩
abbrev cX5_isWall : ByteArray := prog_7_method_14_code
abbrev yX5_isWall : MethodName := ⟨RX5, "isWall", "(II)Z"⟩
abbrev cX5_isPerson : ByteArray := prog_7_method_15_code
abbrev yX5_isPerson : MethodName := ⟨RX5, "isPerson", "(I)Z"⟩
abbrev cX5_isPicture : ByteArray := prog_7_method_16_code
abbrev yX5_isPicture : MethodName := ⟨RX5, "isPicture", "(I)Z"⟩
abbrev cX5_wall : ByteArray := prog_7_method_17_code
abbrev yX5_wall : MethodName := ⟨RX5, "wall", "(II)I"⟩
abbrev cX5_person : ByteArray := prog_7_method_18_code
abbrev yX5_person : MethodName := ⟨RX5, "person", "(II)I"⟩
abbrev cX5_picture : ByteArray := prog_7_method_19_code
abbrev yX5_picture : MethodName := ⟨RX5, "picture", "(II)I"⟩
abbrev cX5_asideOf : ByteArray := prog_7_method_20_code
abbrev yX5_asideOf : MethodName := ⟨RX5, "asideOf", "(I)I"⟩
abbrev cX5_downOf : ByteArray := prog_7_method_21_code
abbrev yX5_downOf : MethodName := ⟨RX5, "downOf", "(I)I"⟩
abbrev cX5_cellOf : ByteArray := prog_7_method_22_code
abbrev yX5_cellOf : MethodName := ⟨RX5, "cellOf", "(II)I"⟩
abbrev cX5_thoseOn : ByteArray := prog_7_method_23_code
abbrev yX5_thoseOn : MethodName := ⟨RX5, "thoseOn", "(III)I"⟩
abbrev cX5_where : ByteArray := prog_7_method_24_code
abbrev yX5_where : MethodName := ⟨RX5, "where", "(II)I"⟩
abbrev cX5_on : ByteArray := prog_7_method_25_code
abbrev yX5_on : MethodName := ⟨RX5, "on", "(III)I"⟩
abbrev cX5_xAt : ByteArray := prog_7_method_26_code
abbrev yX5_xAt : MethodName := ⟨RX5, "xAt", "(II)I"⟩
abbrev cX5_yAt : ByteArray := prog_7_method_27_code
abbrev yX5_yAt : MethodName := ⟨RX5, "yAt", "(II)I"⟩
abbrev cX5_hides : ByteArray := prog_7_method_28_code
abbrev yX5_hides : MethodName := ⟨RX5, "hides", "(II)I"⟩
abbrev cX5_lookFrom : ByteArray := prog_7_method_29_code
abbrev yX5_lookFrom : MethodName := ⟨RX5, "lookFrom", "(IIII)V"⟩
abbrev cX5_lookAs : ByteArray := prog_7_method_30_code
abbrev yX5_lookAs : MethodName := ⟨RX5, "lookAs", "(II)V"⟩
abbrev cX5_shown : ByteArray := prog_7_method_31_code
abbrev yX5_shown : MethodName := ⟨RX5, "shown", "(I)I"⟩
abbrev cX5_showsOf : ByteArray := prog_7_method_32_code
abbrev yX5_showsOf : MethodName := ⟨RX5, "showsOf", "(I)I"⟩
abbrev cX5_shows : ByteArray := prog_7_method_33_code
abbrev yX5_shows : MethodName := ⟨RX5, "shows", "(I)I"⟩
abbrev cX5_view : ByteArray := prog_7_method_34_code
abbrev yX5_view : MethodName := ⟨RX5, "view", "(IIIII)I"⟩
abbrev cX5_aheadOf : ByteArray := prog_7_method_35_code
abbrev yX5_aheadOf : MethodName := ⟨RX5, "aheadOf", "(II)I"⟩
abbrev cX5_hidden : ByteArray := prog_7_method_36_code
abbrev yX5_hidden : MethodName := ⟨RX5, "hidden", "(II)I"⟩
abbrev cX5_isSet : ByteArray := prog_7_method_37_code
abbrev yX5_isSet : MethodName := ⟨RX5, "isSet", "(I)Z"⟩
abbrev cX5_from : ByteArray := prog_7_method_38_code
abbrev yX5_from : MethodName := ⟨RX5, "from", "(IIII)I"⟩
abbrev cX5_fact : ByteArray := prog_7_method_39_code
abbrev yX5_fact : MethodName := ⟨RX5, "fact", "(IIII)I"⟩
abbrev cX5_heldNow : ByteArray := prog_7_method_40_code
abbrev yX5_heldNow : MethodName := ⟨RX5, "heldNow", "()I"⟩
abbrev cX5_right : ByteArray := prog_7_method_41_code
abbrev yX5_right : MethodName := ⟨RX5, "right", "(I)I"⟩
abbrev cX5_seen : ByteArray := prog_7_method_42_code
abbrev yX5_seen : MethodName := ⟨RX5, "seen", "(IIII)I"⟩
abbrev cX5_size : ByteArray := prog_7_method_43_code
abbrev yX5_size : MethodName := ⟨RX5, "size", "(I)I"⟩
abbrev cX5_isOne : ByteArray := prog_7_method_44_code
abbrev yX5_isOne : MethodName := ⟨RX5, "isOne", "(II)Z"⟩
abbrev cX5_isChain : ByteArray := prog_7_method_45_code
abbrev yX5_isChain : MethodName := ⟨RX5, "isChain", "(I)Z"⟩
abbrev cX5_joined : ByteArray := prog_7_method_46_code
abbrev yX5_joined : MethodName := ⟨RX5, "joined", "()I"⟩
abbrev cX5_forget : ByteArray := prog_7_method_47_code
abbrev yX5_forget : MethodName := ⟨RX5, "forget", "()I"⟩
abbrev cX5_bitsIn : ByteArray := prog_7_method_48_code
abbrev yX5_bitsIn : MethodName := ⟨RX5, "bitsIn", "(I)I"⟩
abbrev cX5_common : ByteArray := prog_7_method_49_code
abbrev yX5_common : MethodName := ⟨RX5, "common", "(II)I"⟩
abbrev cX5_all : ByteArray := prog_7_method_50_code
abbrev yX5_all : MethodName := ⟨RX5, "all", "(III)I"⟩
abbrev cX5_has : ByteArray := prog_7_method_51_code
abbrev yX5_has : MethodName := ⟨RX5, "has", "(II)I"⟩
abbrev cX5_withNow : ByteArray := prog_7_method_52_code
abbrev yX5_withNow : MethodName := ⟨RX5, "withNow", "()I"⟩
abbrev cX5_withoutNow : ByteArray := prog_7_method_53_code
abbrev yX5_withoutNow : MethodName := ⟨RX5, "withoutNow", "()I"⟩
abbrev cX5_hat : ByteArray := prog_7_method_54_code
abbrev yX5_hat : MethodName := ⟨RX5, "hat", "(I)I"⟩
abbrev cX5_near : ByteArray := prog_7_method_55_code
abbrev yX5_near : MethodName := ⟨RX5, "near", "(III)I"⟩
abbrev cX5_isAlike : ByteArray := prog_7_method_56_code
abbrev yX5_isAlike : MethodName := ⟨RX5, "isAlike", "(II)Z"⟩
abbrev cX5_freeIn : ByteArray := prog_7_method_57_code
abbrev yX5_freeIn : MethodName := ⟨RX5, "freeIn", "(III)I"⟩
abbrev cX5_findFree : ByteArray := prog_7_method_58_code
abbrev yX5_findFree : MethodName := ⟨RX5, "findFree", "(I)V"⟩
abbrev cX5_empty : ByteArray := prog_7_method_59_code
abbrev yX5_empty : MethodName := ⟨RX5, "empty", "(II)I"⟩
abbrev cX5_waitOf : ByteArray := prog_7_method_60_code
abbrev yX5_waitOf : MethodName := ⟨RX5, "waitOf", "(I)I"⟩
abbrev cX5_waits : ByteArray := prog_7_method_61_code
abbrev yX5_waits : MethodName := ⟨RX5, "waits", "(I)I"⟩
abbrev cX5_lost : ByteArray := prog_7_method_62_code
abbrev yX5_lost : MethodName := ⟨RX5, "lost", "()I"⟩
abbrev cX5_told : ByteArray := prog_7_method_63_code
abbrev yX5_told : MethodName := ⟨RX5, "told", "(II)I"⟩
abbrev cX5_manyTo : ByteArray := prog_7_method_64_code
abbrev yX5_manyTo : MethodName := ⟨RX5, "manyTo", "(II)I"⟩
abbrev cX5_rule : ByteArray := prog_7_method_65_code
abbrev yX5_rule : MethodName := ⟨RX5, "rule", "(I)I"⟩
abbrev cX5_untrue : ByteArray := prog_7_method_66_code
abbrev yX5_untrue : MethodName := ⟨RX5, "untrue", "(II)I"⟩
abbrev cX5_rate : ByteArray := prog_7_method_67_code
abbrev yX5_rate : MethodName := ⟨RX5, "rate", "(II)I"⟩
abbrev cX5_copy : ByteArray := prog_7_method_68_code
abbrev yX5_copy : MethodName := ⟨RX5, "copy", "(II)V"⟩
abbrev cX5_keep : ByteArray := prog_7_method_69_code
abbrev yX5_keep : MethodName := ⟨RX5, "keep", "(I)I"⟩
abbrev cX5_back : ByteArray := prog_7_method_70_code
abbrev yX5_back : MethodName := ⟨RX5, "back", "(I)I"⟩
abbrev cX5_count : ByteArray := prog_7_method_71_code
abbrev yX5_count : MethodName := ⟨RX5, "count", "(I)I"⟩
abbrev cX5_trace : ByteArray := prog_7_method_72_code
abbrev yX5_trace : MethodName := ⟨RX5, "trace", "()J"⟩
abbrev RJ6 : String := "java/lang/Integer"
def TJ6 : u_T := fun k => match k with
  | _ => ("", "", "", false)
def tyJ6 : Nat → FieldType := fun k => match k with
  | _ => .int
abbrev wsJ60 : List Cond := u_ws RJ6 TJ6 0
theorem nmJ6 : ∀ a, a < 0 → ∀ b, b < 0 → a ≠ b → (TJ6 a).2.1 ≠ (TJ6 b).2.1 := by decide +kernel
theorem tyJ6_ok : ∀ k, k < 0 → parseFieldDescriptor (TJ6 k).2.2.1 = some (tyJ6 k) := by decide +kernel
abbrev cJ6_bitCount_0f7a4 : ByteArray := prog_8_method_49_code
abbrev yJ6_bitCount_0f7a4 : MethodName := ⟨RJ6, "bitCount", "(I)I"⟩
abbrev RJ13 : String := "java/lang/Long"
def TJ13 : u_T := fun k => match k with
  | _ => ("", "", "", false)
def tyJ13 : Nat → FieldType := fun k => match k with
  | _ => .int
abbrev wsJ130 : List Cond := u_ws RJ13 TJ13 0
theorem nmJ13 : ∀ a, a < 0 → ∀ b, b < 0 → a ≠ b → (TJ13 a).2.1 ≠ (TJ13 b).2.1 := by decide +kernel
theorem tyJ13_ok : ∀ k, k < 0 → parseFieldDescriptor (TJ13 k).2.2.1 = some (tyJ13 k) := by decide +kernel
abbrev cJ13_bitCount_95d88 : ByteArray := prog_9_method_50_code
abbrev yJ13_bitCount_95d88 : MethodName := ⟨RJ13, "bitCount", "(J)I"⟩
abbrev RJ9 : String := "java/lang/Math"
def TJ9 : u_T := fun k => match k with
  | _ => ("", "", "", false)
def tyJ9 : Nat → FieldType := fun k => match k with
  | _ => .int
abbrev wsJ90 : List Cond := u_ws RJ9 TJ9 0
theorem nmJ9 : ∀ a, a < 0 → ∀ b, b < 0 → a ≠ b → (TJ9 a).2.1 ≠ (TJ9 b).2.1 := by decide +kernel
theorem tyJ9_ok : ∀ k, k < 0 → parseFieldDescriptor (TJ9 k).2.2.1 = some (tyJ9 k) := by decide +kernel
abbrev cJ9_abs_0f7a4 : ByteArray := prog_10_method_59_code
abbrev yJ9_abs_0f7a4 : MethodName := ⟨RJ9, "abs", "(I)I"⟩
abbrev cJ9_max_7cf53 : ByteArray := prog_10_method_65_code
abbrev yJ9_max_7cf53 : MethodName := ⟨RJ9, "max", "(II)I"⟩
abbrev cJ9_min_7cf53 : ByteArray := prog_10_method_69_code
abbrev yJ9_min_7cf53 : MethodName := ⟨RJ9, "min", "(II)I"⟩
abbrev RJ10 : String := "java/lang/System"
def TJ10 : u_T := fun k => match k with
  | _ => ("", "", "", false)
def tyJ10 : Nat → FieldType := fun k => match k with
  | _ => .int
abbrev wsJ100 : List Cond := u_ws RJ10 TJ10 0
theorem nmJ10 : ∀ a, a < 0 → ∀ b, b < 0 → a ≠ b → (TJ10 a).2.1 ≠ (TJ10 b).2.1 := by decide +kernel
theorem tyJ10_ok : ∀ k, k < 0 → parseFieldDescriptor (TJ10 k).2.2.1 = some (tyJ10 k) := by decide +kernel
abbrev RJ7 : String := "java/util/Arrays"
def TJ7 : u_T := fun k => match k with
  | _ => ("", "", "", false)
def tyJ7 : Nat → FieldType := fun k => match k with
  | _ => .int
abbrev wsJ70 : List Cond := u_ws RJ7 TJ7 0
theorem nmJ7 : ∀ a, a < 0 → ∀ b, b < 0 → a ≠ b → (TJ7 a).2.1 ≠ (TJ7 b).2.1 := by decide +kernel
theorem tyJ7_ok : ∀ k, k < 0 → parseFieldDescriptor (TJ7 k).2.2.1 = some (tyJ7 k) := by decide +kernel
abbrev cJ7_fill_53178 : ByteArray := prog_12_method_103_code
abbrev yJ7_fill_53178 : MethodName := ⟨RJ7, "fill", "([II)V"⟩
abbrev RL : String := "SquareAlbumLaw"
abbrev cL_law : ByteArray := code
abbrev yL_law : MethodName := ⟨RL, "law", "([I)Z"⟩
def gtbl : List Cond := lw_tbl.filter goodWord
theorem gtbl_in : ∀ w ∈ gtbl, w ∈ lw_tbl := fun _ h => (List.mem_filter.mp h).1
theorem gtbl_good : ∀ w ∈ gtbl, goodWord w = true := fun _ h => (List.mem_filter.mp h).2
theorem gtbl_of {w : Cond} (h : w ∈ tables_1) (g : goodWord w = true) : w ∈ gtbl := List.mem_filter.mpr ⟨List.mem_append_right _ h, g⟩
theorem inX0 : ∀ w ∈ wsX00, w ∈ gtbl := by decide +kernel
theorem inX1 : ∀ w ∈ wsX10, w ∈ gtbl := by decide +kernel
theorem inX2 : ∀ w ∈ wsX20, w ∈ gtbl := by decide +kernel
theorem inX3 : ∀ w ∈ wsX30, w ∈ gtbl := by decide +kernel
theorem inX4 : ∀ w ∈ wsX40, w ∈ gtbl := by decide +kernel
theorem inX5 : ∀ w ∈ wsX50, w ∈ gtbl := by decide +kernel
