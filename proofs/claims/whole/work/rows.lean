section
-- ===== PART A: goes FIRST, ahead of the names: the tables' words, and 'selects' of the private methods out of them =====
/-- a private method of a class that the tables say can be made, by its rows of tables_1 -/
def lw_okq (q : MethodName × Nat) : Prop := (q.1.cls ≠ "java/lang/invoke/MethodHandle" ∧ q.1.cls ≠ "java/lang/invoke/VarHandle") ∧ Cond.instantiable q.1.cls q.2 ∈ tables_1 ∧ Cond.privateMethod q.1 ∈ tables_1 ∧ Cond.instanceMethod q.1 ∈ tables_1
theorem lw_p0 : lw_okq (⟨"EchoSeats$Text", "nextToken", "()V"⟩, 6) := ⟨⟨by decide +kernel, by decide +kernel⟩, List.mem_of_getElem? (i := 106) (by decide +kernel), List.mem_of_getElem? (i := 277) (by decide +kernel), List.mem_of_getElem? (i := 278) (by decide +kernel)⟩
theorem lw_p1 : lw_okq (⟨"EchoSeats$Text", "takeFigures", "()V"⟩, 6) := ⟨⟨by decide +kernel, by decide +kernel⟩, List.mem_of_getElem? (i := 106) (by decide +kernel), List.mem_of_getElem? (i := 284) (by decide +kernel), List.mem_of_getElem? (i := 285) (by decide +kernel)⟩
theorem lw_p2 : lw_okq (⟨"EchoSeats$Text", "readItem", "(LEchoSeats$Scene;I)Z"⟩, 6) := ⟨⟨by decide +kernel, by decide +kernel⟩, List.mem_of_getElem? (i := 106) (by decide +kernel), List.mem_of_getElem? (i := 291) (by decide +kernel), List.mem_of_getElem? (i := 292) (by decide +kernel)⟩
theorem lw_p3 : lw_okq (⟨"EchoSeats$Text", "readSides", "(LEchoSeats$Scene;)Z"⟩, 6) := ⟨⟨by decide +kernel, by decide +kernel⟩, List.mem_of_getElem? (i := 106) (by decide +kernel), List.mem_of_getElem? (i := 295) (by decide +kernel), List.mem_of_getElem? (i := 296) (by decide +kernel)⟩
theorem lw_p4 : lw_okq (⟨"EchoSeats$Text", "readNumber", "(II)Z"⟩, 6) := ⟨⟨by decide +kernel, by decide +kernel⟩, List.mem_of_getElem? (i := 106) (by decide +kernel), List.mem_of_getElem? (i := 299) (by decide +kernel), List.mem_of_getElem? (i := 300) (by decide +kernel)⟩
theorem lw_p5 : lw_okq (⟨"EchoSeats$Text", "readSwallows", "(LEchoSeats$Scene;)Z"⟩, 6) := ⟨⟨by decide +kernel, by decide +kernel⟩, List.mem_of_getElem? (i := 106) (by decide +kernel), List.mem_of_getElem? (i := 304) (by decide +kernel), List.mem_of_getElem? (i := 305) (by decide +kernel)⟩
theorem lw_p6 : lw_okq (⟨"EchoSeats$Text", "readSource", "(LEchoSeats$Scene;)Z"⟩, 6) := ⟨⟨by decide +kernel, by decide +kernel⟩, List.mem_of_getElem? (i := 106) (by decide +kernel), List.mem_of_getElem? (i := 308) (by decide +kernel), List.mem_of_getElem? (i := 309) (by decide +kernel)⟩
theorem lw_p7 : lw_okq (⟨"EchoSeats$Text", "readSeat", "(LEchoSeats$Scene;)Z"⟩, 6) := ⟨⟨by decide +kernel, by decide +kernel⟩, List.mem_of_getElem? (i := 106) (by decide +kernel), List.mem_of_getElem? (i := 312) (by decide +kernel), List.mem_of_getElem? (i := 313) (by decide +kernel)⟩
theorem lw_p8 : lw_okq (⟨"EchoSeats$Text", "readCurtain", "(LEchoSeats$Scene;)Z"⟩, 6) := ⟨⟨by decide +kernel, by decide +kernel⟩, List.mem_of_getElem? (i := 106) (by decide +kernel), List.mem_of_getElem? (i := 316) (by decide +kernel), List.mem_of_getElem? (i := 317) (by decide +kernel)⟩
theorem lw_p9 : lw_okq (⟨"EchoSeats$Text", "readEnd", "()Z"⟩, 6) := ⟨⟨by decide +kernel, by decide +kernel⟩, List.mem_of_getElem? (i := 106) (by decide +kernel), List.mem_of_getElem? (i := 320) (by decide +kernel), List.mem_of_getElem? (i := 321) (by decide +kernel)⟩
theorem lw_p10 : lw_okq (⟨"EchoSeats", "dropKept", "()V"⟩, 8) := ⟨⟨by decide +kernel, by decide +kernel⟩, List.mem_of_getElem? (i := 12) (by decide +kernel), List.mem_of_getElem? (i := 331) (by decide +kernel), List.mem_of_getElem? (i := 332) (by decide +kernel)⟩
theorem lw_p11 : lw_okq (⟨"EchoSeats$Past", "loseOldest", "()V"⟩, 5) := ⟨⟨by decide +kernel, by decide +kernel⟩, List.mem_of_getElem? (i := 133) (by decide +kernel), List.mem_of_getElem? (i := 363) (by decide +kernel), List.mem_of_getElem? (i := 364) (by decide +kernel)⟩
theorem lw_p12 : lw_okq (⟨"EchoSeats$Scene", "curtainMeets", "(III)Z"⟩, 12) := ⟨⟨by decide +kernel, by decide +kernel⟩, List.mem_of_getElem? (i := 20) (by decide +kernel), List.mem_of_getElem? (i := 451) (by decide +kernel), List.mem_of_getElem? (i := 452) (by decide +kernel)⟩
theorem lw_p13 : lw_okq (⟨"EchoSeats$Ear", "insert", "(LEchoSeats$Scene;III)V"⟩, 8) := ⟨⟨by decide +kernel, by decide +kernel⟩, List.mem_of_getElem? (i := 156) (by decide +kernel), List.mem_of_getElem? (i := 470) (by decide +kernel), List.mem_of_getElem? (i := 471) (by decide +kernel)⟩
theorem lw_p14 : lw_okq (⟨"EchoSeats$Ear", "shiftUp", "(I)V"⟩, 8) := ⟨⟨by decide +kernel, by decide +kernel⟩, List.mem_of_getElem? (i := 156) (by decide +kernel), List.mem_of_getElem? (i := 475) (by decide +kernel), List.mem_of_getElem? (i := 476) (by decide +kernel)⟩
theorem lw_p15 : lw_okq (⟨"EchoSeats$Finder", "isPossible", "(LEchoSeats$Scene;II)Z"⟩, 8) := ⟨⟨by decide +kernel, by decide +kernel⟩, List.mem_of_getElem? (i := 193) (by decide +kernel), List.mem_of_getElem? (i := 549) (by decide +kernel), List.mem_of_getElem? (i := 550) (by decide +kernel)⟩
def lw_privs_1 : List (MethodName × Nat) := [(⟨"EchoSeats$Text", "nextToken", "()V"⟩, 6), (⟨"EchoSeats$Text", "takeFigures", "()V"⟩, 6), (⟨"EchoSeats$Text", "readItem", "(LEchoSeats$Scene;I)Z"⟩, 6), (⟨"EchoSeats$Text", "readSides", "(LEchoSeats$Scene;)Z"⟩, 6), (⟨"EchoSeats$Text", "readNumber", "(II)Z"⟩, 6), (⟨"EchoSeats$Text", "readSwallows", "(LEchoSeats$Scene;)Z"⟩, 6), (⟨"EchoSeats$Text", "readSource", "(LEchoSeats$Scene;)Z"⟩, 6), (⟨"EchoSeats$Text", "readSeat", "(LEchoSeats$Scene;)Z"⟩, 6), (⟨"EchoSeats$Text", "readCurtain", "(LEchoSeats$Scene;)Z"⟩, 6), (⟨"EchoSeats$Text", "readEnd", "()Z"⟩, 6), (⟨"EchoSeats", "dropKept", "()V"⟩, 8), (⟨"EchoSeats$Past", "loseOldest", "()V"⟩, 5), (⟨"EchoSeats$Scene", "curtainMeets", "(III)Z"⟩, 12), (⟨"EchoSeats$Ear", "insert", "(LEchoSeats$Scene;III)V"⟩, 8), (⟨"EchoSeats$Ear", "shiftUp", "(I)V"⟩, 8), (⟨"EchoSeats$Finder", "isPossible", "(LEchoSeats$Scene;II)Z"⟩, 8)]
theorem lw_r1 : ∀ q ∈ lw_privs_1, lw_okq q := List.forall_mem_cons.mpr ⟨lw_p0, List.forall_mem_cons.mpr ⟨lw_p1, List.forall_mem_cons.mpr ⟨lw_p2, List.forall_mem_cons.mpr ⟨lw_p3, List.forall_mem_cons.mpr ⟨lw_p4, List.forall_mem_cons.mpr ⟨lw_p5, List.forall_mem_cons.mpr ⟨lw_p6, List.forall_mem_cons.mpr ⟨lw_p7, List.forall_mem_cons.mpr ⟨lw_p8, List.forall_mem_cons.mpr ⟨lw_p9, List.forall_mem_cons.mpr ⟨lw_p10, List.forall_mem_cons.mpr ⟨lw_p11, List.forall_mem_cons.mpr ⟨lw_p12, List.forall_mem_cons.mpr ⟨lw_p13, List.forall_mem_cons.mpr ⟨lw_p14, List.forall_mem_cons.mpr ⟨lw_p15, fun _ h => absurd h List.not_mem_nil⟩⟩⟩⟩⟩⟩⟩⟩⟩⟩⟩⟩⟩⟩⟩⟩
theorem lw_p16 : lw_okq (⟨"EchoSeats$Finder", "unlikeTimes", "(LEchoSeats$Scene;III)I"⟩, 8) := ⟨⟨by decide +kernel, by decide +kernel⟩, List.mem_of_getElem? (i := 193) (by decide +kernel), List.mem_of_getElem? (i := 565) (by decide +kernel), List.mem_of_getElem? (i := 566) (by decide +kernel)⟩
theorem lw_p17 : lw_okq (⟨"EchoSeatsModel", "begins", "()V"⟩, 22) := ⟨⟨by decide +kernel, by decide +kernel⟩, List.mem_of_getElem? (i := 585) (by decide +kernel), List.mem_of_getElem? (i := 591) (by decide +kernel), List.mem_of_getElem? (i := 592) (by decide +kernel)⟩
theorem lw_p18 : lw_okq (⟨"EchoSeatsModel", "becomes", "()V"⟩, 22) := ⟨⟨by decide +kernel, by decide +kernel⟩, List.mem_of_getElem? (i := 585) (by decide +kernel), List.mem_of_getElem? (i := 595) (by decide +kernel), List.mem_of_getElem? (i := 596) (by decide +kernel)⟩
theorem lw_p19 : lw_okq (⟨"EchoSeatsModel", "parts", "()V"⟩, 22) := ⟨⟨by decide +kernel, by decide +kernel⟩, List.mem_of_getElem? (i := 585) (by decide +kernel), List.mem_of_getElem? (i := 681) (by decide +kernel), List.mem_of_getElem? (i := 682) (by decide +kernel)⟩
theorem lw_p20 : lw_okq (⟨"EchoSeatsModel", "numbered", "(I)I"⟩, 22) := ⟨⟨by decide +kernel, by decide +kernel⟩, List.mem_of_getElem? (i := 585) (by decide +kernel), List.mem_of_getElem? (i := 688) (by decide +kernel), List.mem_of_getElem? (i := 689) (by decide +kernel)⟩
theorem lw_p21 : lw_okq (⟨"EchoSeatsModel", "firstWrong", "(I)I"⟩, 22) := ⟨⟨by decide +kernel, by decide +kernel⟩, List.mem_of_getElem? (i := 585) (by decide +kernel), List.mem_of_getElem? (i := 695) (by decide +kernel), List.mem_of_getElem? (i := 696) (by decide +kernel)⟩
theorem lw_p22 : lw_okq (⟨"EchoSeatsModel", "token", "(I)I"⟩, 22) := ⟨⟨by decide +kernel, by decide +kernel⟩, List.mem_of_getElem? (i := 585) (by decide +kernel), List.mem_of_getElem? (i := 699) (by decide +kernel), List.mem_of_getElem? (i := 700) (by decide +kernel)⟩
theorem lw_p23 : lw_okq (⟨"EchoSeatsModel", "isNumber", "(III)Z"⟩, 22) := ⟨⟨by decide +kernel, by decide +kernel⟩, List.mem_of_getElem? (i := 585) (by decide +kernel), List.mem_of_getElem? (i := 703) (by decide +kernel), List.mem_of_getElem? (i := 704) (by decide +kernel)⟩
theorem lw_p24 : lw_okq (⟨"EchoSeatsModel", "isKind", "(II)Z"⟩, 22) := ⟨⟨by decide +kernel, by decide +kernel⟩, List.mem_of_getElem? (i := 585) (by decide +kernel), List.mem_of_getElem? (i := 707) (by decide +kernel), List.mem_of_getElem? (i := 708) (by decide +kernel)⟩
theorem lw_p25 : lw_okq (⟨"EchoSeatsModel", "placeOf", "(I)I"⟩, 22) := ⟨⟨by decide +kernel, by decide +kernel⟩, List.mem_of_getElem? (i := 585) (by decide +kernel), List.mem_of_getElem? (i := 711) (by decide +kernel), List.mem_of_getElem? (i := 712) (by decide +kernel)⟩
theorem lw_p26 : lw_okq (⟨"EchoSeatsModel", "lay", "(I)V"⟩, 22) := ⟨⟨by decide +kernel, by decide +kernel⟩, List.mem_of_getElem? (i := 585) (by decide +kernel), List.mem_of_getElem? (i := 715) (by decide +kernel), List.mem_of_getElem? (i := 716) (by decide +kernel)⟩
theorem lw_p27 : lw_okq (⟨"EchoSeatsModel", "isSeat", "(I)Z"⟩, 22) := ⟨⟨by decide +kernel, by decide +kernel⟩, List.mem_of_getElem? (i := 585) (by decide +kernel), List.mem_of_getElem? (i := 727) (by decide +kernel), List.mem_of_getElem? (i := 728) (by decide +kernel)⟩
theorem lw_p28 : lw_okq (⟨"EchoSeatsModel", "isCurtain", "(I)Z"⟩, 22) := ⟨⟨by decide +kernel, by decide +kernel⟩, List.mem_of_getElem? (i := 585) (by decide +kernel), List.mem_of_getElem? (i := 735) (by decide +kernel), List.mem_of_getElem? (i := 736) (by decide +kernel)⟩
theorem lw_p29 : lw_okq (⟨"EchoSeatsModel", "known", "(II)V"⟩, 22) := ⟨⟨by decide +kernel, by decide +kernel⟩, List.mem_of_getElem? (i := 585) (by decide +kernel), List.mem_of_getElem? (i := 743) (by decide +kernel), List.mem_of_getElem? (i := 744) (by decide +kernel)⟩
theorem lw_p30 : lw_okq (⟨"EchoSeatsModel", "isWithin", "(II)Z"⟩, 22) := ⟨⟨by decide +kernel, by decide +kernel⟩, List.mem_of_getElem? (i := 585) (by decide +kernel), List.mem_of_getElem? (i := 755) (by decide +kernel), List.mem_of_getElem? (i := 756) (by decide +kernel)⟩
theorem lw_p31 : lw_okq (⟨"EchoSeatsModel", "sourceAt", "()I"⟩, 22) := ⟨⟨by decide +kernel, by decide +kernel⟩, List.mem_of_getElem? (i := 585) (by decide +kernel), List.mem_of_getElem? (i := 759) (by decide +kernel), List.mem_of_getElem? (i := 760) (by decide +kernel)⟩
def lw_privs_2 : List (MethodName × Nat) := [(⟨"EchoSeats$Finder", "unlikeTimes", "(LEchoSeats$Scene;III)I"⟩, 8), (⟨"EchoSeatsModel", "begins", "()V"⟩, 22), (⟨"EchoSeatsModel", "becomes", "()V"⟩, 22), (⟨"EchoSeatsModel", "parts", "()V"⟩, 22), (⟨"EchoSeatsModel", "numbered", "(I)I"⟩, 22), (⟨"EchoSeatsModel", "firstWrong", "(I)I"⟩, 22), (⟨"EchoSeatsModel", "token", "(I)I"⟩, 22), (⟨"EchoSeatsModel", "isNumber", "(III)Z"⟩, 22), (⟨"EchoSeatsModel", "isKind", "(II)Z"⟩, 22), (⟨"EchoSeatsModel", "placeOf", "(I)I"⟩, 22), (⟨"EchoSeatsModel", "lay", "(I)V"⟩, 22), (⟨"EchoSeatsModel", "isSeat", "(I)Z"⟩, 22), (⟨"EchoSeatsModel", "isCurtain", "(I)Z"⟩, 22), (⟨"EchoSeatsModel", "known", "(II)V"⟩, 22), (⟨"EchoSeatsModel", "isWithin", "(II)Z"⟩, 22), (⟨"EchoSeatsModel", "sourceAt", "()I"⟩, 22)]
theorem lw_r2 : ∀ q ∈ lw_privs_2, lw_okq q := List.forall_mem_cons.mpr ⟨lw_p16, List.forall_mem_cons.mpr ⟨lw_p17, List.forall_mem_cons.mpr ⟨lw_p18, List.forall_mem_cons.mpr ⟨lw_p19, List.forall_mem_cons.mpr ⟨lw_p20, List.forall_mem_cons.mpr ⟨lw_p21, List.forall_mem_cons.mpr ⟨lw_p22, List.forall_mem_cons.mpr ⟨lw_p23, List.forall_mem_cons.mpr ⟨lw_p24, List.forall_mem_cons.mpr ⟨lw_p25, List.forall_mem_cons.mpr ⟨lw_p26, List.forall_mem_cons.mpr ⟨lw_p27, List.forall_mem_cons.mpr ⟨lw_p28, List.forall_mem_cons.mpr ⟨lw_p29, List.forall_mem_cons.mpr ⟨lw_p30, List.forall_mem_cons.mpr ⟨lw_p31, fun _ h => absurd h List.not_mem_nil⟩⟩⟩⟩⟩⟩⟩⟩⟩⟩⟩⟩⟩⟩⟩⟩
theorem lw_p32 : lw_okq (⟨"EchoSeatsModel", "softTimes", "(II)I"⟩, 22) := ⟨⟨by decide +kernel, by decide +kernel⟩, List.mem_of_getElem? (i := 585) (by decide +kernel), List.mem_of_getElem? (i := 781) (by decide +kernel), List.mem_of_getElem? (i := 782) (by decide +kernel)⟩
theorem lw_p33 : lw_okq (⟨"EchoSeatsModel", "wayOf", "(IIII)I"⟩, 22) := ⟨⟨by decide +kernel, by decide +kernel⟩, List.mem_of_getElem? (i := 585) (by decide +kernel), List.mem_of_getElem? (i := 792) (by decide +kernel), List.mem_of_getElem? (i := 793) (by decide +kernel)⟩
theorem lw_p34 : lw_okq (⟨"EchoSeatsModel", "swallowsNow", "()V"⟩, 22) := ⟨⟨by decide +kernel, by decide +kernel⟩, List.mem_of_getElem? (i := 585) (by decide +kernel), List.mem_of_getElem? (i := 796) (by decide +kernel), List.mem_of_getElem? (i := 797) (by decide +kernel)⟩
theorem lw_p35 : lw_okq (⟨"EchoSeatsModel", "strengthOf", "(III)I"⟩, 22) := ⟨⟨by decide +kernel, by decide +kernel⟩, List.mem_of_getElem? (i := 585) (by decide +kernel), List.mem_of_getElem? (i := 803) (by decide +kernel), List.mem_of_getElem? (i := 804) (by decide +kernel)⟩
theorem lw_p36 : lw_okq (⟨"EchoSeatsModel", "isHidden", "(IIII)Z"⟩, 22) := ⟨⟨by decide +kernel, by decide +kernel⟩, List.mem_of_getElem? (i := 585) (by decide +kernel), List.mem_of_getElem? (i := 808) (by decide +kernel), List.mem_of_getElem? (i := 809) (by decide +kernel)⟩
theorem lw_p37 : lw_okq (⟨"EchoSeatsModel", "meets", "(IIIIII)Z"⟩, 22) := ⟨⟨by decide +kernel, by decide +kernel⟩, List.mem_of_getElem? (i := 585) (by decide +kernel), List.mem_of_getElem? (i := 812) (by decide +kernel), List.mem_of_getElem? (i := 813) (by decide +kernel)⟩
theorem lw_p38 : lw_okq (⟨"EchoSeatsModel", "hearsNow", "(I)V"⟩, 22) := ⟨⟨by decide +kernel, by decide +kernel⟩, List.mem_of_getElem? (i := 585) (by decide +kernel), List.mem_of_getElem? (i := 820) (by decide +kernel), List.mem_of_getElem? (i := 821) (by decide +kernel)⟩
theorem lw_p39 : lw_okq (⟨"EchoSeatsModel", "hears", "(I)V"⟩, 22) := ⟨⟨by decide +kernel, by decide +kernel⟩, List.mem_of_getElem? (i := 585) (by decide +kernel), List.mem_of_getElem? (i := 824) (by decide +kernel), List.mem_of_getElem? (i := 825) (by decide +kernel)⟩
theorem lw_p40 : lw_okq (⟨"EchoSeatsModel", "rankedAt", "(I)I"⟩, 22) := ⟨⟨by decide +kernel, by decide +kernel⟩, List.mem_of_getElem? (i := 585) (by decide +kernel), List.mem_of_getElem? (i := 828) (by decide +kernel), List.mem_of_getElem? (i := 829) (by decide +kernel)⟩
theorem lw_p41 : lw_okq (⟨"EchoSeatsModel", "soundAll", "()I"⟩, 22) := ⟨⟨by decide +kernel, by decide +kernel⟩, List.mem_of_getElem? (i := 585) (by decide +kernel), List.mem_of_getElem? (i := 836) (by decide +kernel), List.mem_of_getElem? (i := 837) (by decide +kernel)⟩
theorem lw_p42 : lw_okq (⟨"EchoSeatsModel", "soundBy", "(I)I"⟩, 22) := ⟨⟨by decide +kernel, by decide +kernel⟩, List.mem_of_getElem? (i := 585) (by decide +kernel), List.mem_of_getElem? (i := 840) (by decide +kernel), List.mem_of_getElem? (i := 841) (by decide +kernel)⟩
theorem lw_p43 : lw_okq (⟨"EchoSeatsModel", "places", "(Z)I"⟩, 22) := ⟨⟨by decide +kernel, by decide +kernel⟩, List.mem_of_getElem? (i := 585) (by decide +kernel), List.mem_of_getElem? (i := 880) (by decide +kernel), List.mem_of_getElem? (i := 881) (by decide +kernel)⟩
theorem lw_p44 : lw_okq (⟨"EchoSeatsModel", "mayBe", "(II)Z"⟩, 22) := ⟨⟨by decide +kernel, by decide +kernel⟩, List.mem_of_getElem? (i := 585) (by decide +kernel), List.mem_of_getElem? (i := 884) (by decide +kernel), List.mem_of_getElem? (i := 885) (by decide +kernel)⟩
theorem lw_p45 : lw_okq (⟨"EchoSeatsModel", "unlike", "(II)I"⟩, 22) := ⟨⟨by decide +kernel, by decide +kernel⟩, List.mem_of_getElem? (i := 585) (by decide +kernel), List.mem_of_getElem? (i := 892) (by decide +kernel), List.mem_of_getElem? (i := 893) (by decide +kernel)⟩
def lw_privs_3 : List (MethodName × Nat) := [(⟨"EchoSeatsModel", "softTimes", "(II)I"⟩, 22), (⟨"EchoSeatsModel", "wayOf", "(IIII)I"⟩, 22), (⟨"EchoSeatsModel", "swallowsNow", "()V"⟩, 22), (⟨"EchoSeatsModel", "strengthOf", "(III)I"⟩, 22), (⟨"EchoSeatsModel", "isHidden", "(IIII)Z"⟩, 22), (⟨"EchoSeatsModel", "meets", "(IIIIII)Z"⟩, 22), (⟨"EchoSeatsModel", "hearsNow", "(I)V"⟩, 22), (⟨"EchoSeatsModel", "hears", "(I)V"⟩, 22), (⟨"EchoSeatsModel", "rankedAt", "(I)I"⟩, 22), (⟨"EchoSeatsModel", "soundAll", "()I"⟩, 22), (⟨"EchoSeatsModel", "soundBy", "(I)I"⟩, 22), (⟨"EchoSeatsModel", "places", "(Z)I"⟩, 22), (⟨"EchoSeatsModel", "mayBe", "(II)Z"⟩, 22), (⟨"EchoSeatsModel", "unlike", "(II)I"⟩, 22)]
theorem lw_r3 : ∀ q ∈ lw_privs_3, lw_okq q := List.forall_mem_cons.mpr ⟨lw_p32, List.forall_mem_cons.mpr ⟨lw_p33, List.forall_mem_cons.mpr ⟨lw_p34, List.forall_mem_cons.mpr ⟨lw_p35, List.forall_mem_cons.mpr ⟨lw_p36, List.forall_mem_cons.mpr ⟨lw_p37, List.forall_mem_cons.mpr ⟨lw_p38, List.forall_mem_cons.mpr ⟨lw_p39, List.forall_mem_cons.mpr ⟨lw_p40, List.forall_mem_cons.mpr ⟨lw_p41, List.forall_mem_cons.mpr ⟨lw_p42, List.forall_mem_cons.mpr ⟨lw_p43, List.forall_mem_cons.mpr ⟨lw_p44, List.forall_mem_cons.mpr ⟨lw_p45, fun _ h => absurd h List.not_mem_nil⟩⟩⟩⟩⟩⟩⟩⟩⟩⟩⟩⟩⟩⟩
def lw_privs : List (MethodName × Nat) := lw_privs_1 ++ (lw_privs_2 ++ (lw_privs_3))
def lw_tbl : List Cond := k2_sels lw_privs ++ tables_1
theorem lw_privs_ok : ∀ q ∈ lw_privs, lw_okq q := by
  show ∀ q ∈ lw_privs_1 ++ (lw_privs_2 ++ (lw_privs_3)), lw_okq q
  exact List.forall_mem_append.mpr ⟨lw_r1, List.forall_mem_append.mpr ⟨lw_r2, lw_r3⟩⟩
-- ===== end of PART A; then your names; then what follows =====
end
section
/-! ===== BEGIN words of one list among another's, by their places ===== -/
theorem goodIn_r {big : List Cond} (ws : List Cond) (ps : List Nat) (hp : ws = ps.filterMap (fun i => big[i]?)) (h : ws.all goodWord = true) : GoodIn big ws := by
  intro w hw
  have h1 := List.all_eq_true.mp h w hw
  rw [hp] at hw
  obtain ⟨i, -, hi⟩ := List.mem_filterMap.mp hw
  have hm : w ∈ big := by first | exact List.mem_of_getElem? hi | exact List.getElem?_mem hi
  exact ⟨hm, good_of_word h1⟩
theorem goodIn_app {big a b : List Cond} (ha : GoodIn big a) (hb : GoodIn big b) : GoodIn big (a ++ b) := fun w h => (List.mem_append.mp h).elim (ha w) (hb w)
theorem goodIn_ca {big a b : List Cond} {c : Cond} (ha : GoodIn big (c :: a)) (hb : GoodIn big b) : GoodIn big (c :: (a ++ b)) := fun w h => (List.mem_cons.mp h).elim (fun e => ha w (List.mem_cons.mpr (Or.inl e))) (fun h => (List.mem_append.mp h).elim (fun h => ha w (List.mem_cons.mpr (Or.inr h))) (hb w))
theorem goodIn_sub {big ws : List Cond} (hm : ∀ w ∈ ws, w ∈ big) (h : ws.all goodWord = true) : GoodIn big ws := fun w hw => ⟨hm w hw, good_of_word (List.all_eq_true.mp h w hw)⟩
/-! ===== END ===== -/

/-! ===== BEGIN printed: names, fields, word lists, decode rows ===== -/
def RX0 : String := "EchoSeats$Ear"
def TX0 : u_T := fun k => match k with
  | 0 => ("EchoSeats$Ear", "is", "[I", true)
  | 1 => ("EchoSeats$Ear", "js", "[I", true)
  | 2 => ("EchoSeats$Ear", "ways", "[I", true)
  | 3 => ("EchoSeats$Ear", "times", "[I", true)
  | 4 => ("EchoSeats$Ear", "strengths", "[I", true)
  | 5 => ("EchoSeats$Ear", "deafened", "[I", true)
  | 6 => ("EchoSeats$Ear", "size", "I", false)
  | _ => ("EchoSeats$Ear", "total", "I", false)
def tyX0 : Nat → FieldType := fun k => match k with
  | 0 => .array .int
  | 1 => .array .int
  | 2 => .array .int
  | 3 => .array .int
  | 4 => .array .int
  | 5 => .array .int
  | 6 => .int
  | _ => .int
abbrev wsX00 : List Cond := u_ws RX0 TX0 8
theorem nmX0 : ∀ a, a < 8 → ∀ b, b < 8 → a ≠ b → (TX0 a).2.1 ≠ (TX0 b).2.1 := by decide +kernel
theorem tyX0_ok : ∀ k, k < 8 → parseFieldDescriptor (TX0 k).2.2.1 = some (tyX0 k) := by decide +kernel
abbrev cX0_init : ByteArray := prog_2_method_1_code
def yX0_init : MethodName := ⟨RX0, "<init>", "()V"⟩
abbrev cX0_hearAtSeat : ByteArray := prog_2_method_2_code
def yX0_hearAtSeat : MethodName := ⟨RX0, "hearAtSeat", "(LEchoSeats$Scene;I)V"⟩
abbrev cX0_insert : ByteArray := prog_2_method_3_code
def yX0_insert : MethodName := ⟨RX0, "insert", "(LEchoSeats$Scene;III)V"⟩
abbrev cX0_shiftUp : ByteArray := prog_2_method_4_code
def yX0_shiftUp : MethodName := ⟨RX0, "shiftUp", "(I)V"⟩
abbrev cX0_firstGap : ByteArray := prog_2_method_5_code
def yX0_firstGap : MethodName := ⟨RX0, "firstGap", "()I"⟩
abbrev cX0_strengthUpTo : ByteArray := prog_2_method_6_code
def yX0_strengthUpTo : MethodName := ⟨RX0, "strengthUpTo", "(I)I"⟩
abbrev cX0_fadeTime : ByteArray := prog_2_method_7_code
def yX0_fadeTime : MethodName := ⟨RX0, "fadeTime", "(I)I"⟩
abbrev cX0_soundIfDeaf : ByteArray := prog_2_method_8_code
def yX0_soundIfDeaf : MethodName := ⟨RX0, "soundIfDeaf", "([II)I"⟩
def RX1 : String := "EchoSeats$Finder"
def TX1 : u_T := fun k => match k with
  | 0 => ("EchoSeats$Finder", "is", "[I", true)
  | 1 => ("EchoSeats$Finder", "js", "[I", true)
  | 2 => ("EchoSeats$Finder", "times", "[I", true)
  | 3 => ("EchoSeats$Finder", "seen", "I", false)
  | 4 => ("EchoSeats$Finder", "placeX", "[I", true)
  | 5 => ("EchoSeats$Finder", "placeY", "[I", true)
  | 6 => ("EchoSeats$Finder", "found", "I", false)
  | _ => ("EchoSeats$Finder", "toldBy", "[I", true)
def tyX1 : Nat → FieldType := fun k => match k with
  | 0 => .array .int
  | 1 => .array .int
  | 2 => .array .int
  | 3 => .int
  | 4 => .array .int
  | 5 => .array .int
  | 6 => .int
  | _ => .array .int
abbrev wsX10 : List Cond := u_ws RX1 TX1 8
theorem nmX1 : ∀ a, a < 8 → ∀ b, b < 8 → a ≠ b → (TX1 a).2.1 ≠ (TX1 b).2.1 := by decide +kernel
theorem tyX1_ok : ∀ k, k < 8 → parseFieldDescriptor (TX1 k).2.2.1 = some (tyX1 k) := by decide +kernel
abbrev cX1_init : ByteArray := prog_3_method_1_code
def yX1_init : MethodName := ⟨RX1, "<init>", "()V"⟩
abbrev cX1_addSeen : ByteArray := prog_3_method_2_code
def yX1_addSeen : MethodName := ⟨RX1, "addSeen", "(III)Z"⟩
abbrev cX1_findPlaces : ByteArray := prog_3_method_3_code
def yX1_findPlaces : MethodName := ⟨RX1, "findPlaces", "(LEchoSeats$Scene;)V"⟩
abbrev cX1_isPossible : ByteArray := prog_3_method_4_code
def yX1_isPossible : MethodName := ⟨RX1, "isPossible", "(LEchoSeats$Scene;II)Z"⟩
abbrev cX1_tellingImage : ByteArray := prog_3_method_5_code
def yX1_tellingImage : MethodName := ⟨RX1, "tellingImage", "(LEchoSeats$Scene;)I"⟩
abbrev cX1_unlikeTimes : ByteArray := prog_3_method_6_code
def yX1_unlikeTimes : MethodName := ⟨RX1, "unlikeTimes", "(LEchoSeats$Scene;III)I"⟩
def RX2 : String := "EchoSeats$Past"
def TX2 : u_T := fun k => match k with
  | 0 => ("EchoSeats$Past", "kinds", "[I", true)
  | 1 => ("EchoSeats$Past", "which", "[I", true)
  | 2 => ("EchoSeats$Past", "firsts", "[I", true)
  | 3 => ("EchoSeats$Past", "seconds", "[I", true)
  | _ => ("EchoSeats$Past", "size", "I", false)
def tyX2 : Nat → FieldType := fun k => match k with
  | 0 => .array .int
  | 1 => .array .int
  | 2 => .array .int
  | 3 => .array .int
  | _ => .int
abbrev wsX20 : List Cond := u_ws RX2 TX2 5
theorem nmX2 : ∀ a, a < 5 → ∀ b, b < 5 → a ≠ b → (TX2 a).2.1 ≠ (TX2 b).2.1 := by decide +kernel
theorem tyX2_ok : ∀ k, k < 5 → parseFieldDescriptor (TX2 k).2.2.1 = some (tyX2 k) := by decide +kernel
abbrev cX2_init : ByteArray := prog_4_method_1_code
def yX2_init : MethodName := ⟨RX2, "<init>", "()V"⟩
abbrev cX2_add : ByteArray := prog_4_method_2_code
def yX2_add : MethodName := ⟨RX2, "add", "(IIII)V"⟩
abbrev cX2_loseOldest : ByteArray := prog_4_method_3_code
def yX2_loseOldest : MethodName := ⟨RX2, "loseOldest", "()V"⟩
abbrev cX2_takeBackIn : ByteArray := prog_4_method_4_code
def yX2_takeBackIn : MethodName := ⟨RX2, "takeBackIn", "(LEchoSeats$Scene;)V"⟩
def RX3 : String := "EchoSeats$Scene"
def TX3 : u_T := fun k => match k with
  | 0 => ("EchoSeats$Scene", "length", "I", false)
  | 1 => ("EchoSeats$Scene", "breadth", "I", false)
  | 2 => ("EchoSeats$Scene", "sourceX", "I", false)
  | 3 => ("EchoSeats$Scene", "sourceY", "I", false)
  | 4 => ("EchoSeats$Scene", "seats", "I", false)
  | 5 => ("EchoSeats$Scene", "curtains", "I", false)
  | 6 => ("EchoSeats$Scene", "swallows", "[I", true)
  | 7 => ("EchoSeats$Scene", "seatX", "[I", true)
  | 8 => ("EchoSeats$Scene", "seatY", "[I", true)
  | 9 => ("EchoSeats$Scene", "curtainX", "[I", true)
  | 10 => ("EchoSeats$Scene", "curtainFrom", "[I", true)
  | _ => ("EchoSeats$Scene", "curtainTo", "[I", true)
def tyX3 : Nat → FieldType := fun k => match k with
  | 0 => .int
  | 1 => .int
  | 2 => .int
  | 3 => .int
  | 4 => .int
  | 5 => .int
  | 6 => .array .int
  | 7 => .array .int
  | 8 => .array .int
  | 9 => .array .int
  | 10 => .array .int
  | _ => .array .int
abbrev wsX30 : List Cond := u_ws RX3 TX3 12
theorem nmX3 : ∀ a, a < 12 → ∀ b, b < 12 → a ≠ b → (TX3 a).2.1 ≠ (TX3 b).2.1 := by decide +kernel
theorem tyX3_ok : ∀ k, k < 12 → parseFieldDescriptor (TX3 k).2.2.1 = some (tyX3 k) := by decide +kernel
abbrev cX3_init : ByteArray := prog_5_method_1_code
def yX3_init : MethodName := ⟨RX3, "<init>", "()V"⟩
abbrev cX3_beAsAtFirst : ByteArray := prog_5_method_2_code
def yX3_beAsAtFirst : MethodName := ⟨RX3, "beAsAtFirst", "()V"⟩
abbrev cX3_copyFrom : ByteArray := prog_5_method_3_code
def yX3_copyFrom : MethodName := ⟨RX3, "copyFrom", "(LEchoSeats$Scene;)V"⟩
abbrev cX3_hasSeat : ByteArray := prog_5_method_4_code
def yX3_hasSeat : MethodName := ⟨RX3, "hasSeat", "(I)Z"⟩
abbrev cX3_hasCurtain : ByteArray := prog_5_method_5_code
def yX3_hasCurtain : MethodName := ⟨RX3, "hasCurtain", "(I)Z"⟩
abbrev cX3_sourceCode : ByteArray := prog_5_method_6_code
def yX3_sourceCode : MethodName := ⟨RX3, "sourceCode", "()I"⟩
abbrev cX3_imageX : ByteArray := prog_5_method_7_code
def yX3_imageX : MethodName := ⟨RX3, "imageX", "(I)I"⟩
abbrev cX3_imageY : ByteArray := prog_5_method_8_code
def yX3_imageY : MethodName := ⟨RX3, "imageY", "(I)I"⟩
abbrev cX3_softPasses : ByteArray := prog_5_method_9_code
def yX3_softPasses : MethodName := ⟨RX3, "softPasses", "(II)I"⟩
abbrev cX3_waySquared : ByteArray := prog_5_method_10_code
def yX3_waySquared : MethodName := ⟨RX3, "waySquared", "(IIII)I"⟩
abbrev cX3_isHidden : ByteArray := prog_5_method_11_code
def yX3_isHidden : MethodName := ⟨RX3, "isHidden", "(IIII)Z"⟩
abbrev cX3_curtainMeets : ByteArray := prog_5_method_12_code
def yX3_curtainMeets : MethodName := ⟨RX3, "curtainMeets", "(III)Z"⟩
def RX4 : String := "EchoSeats$Text"
def TX4 : u_T := fun k => match k with
  | 0 => ("EchoSeats$Text", "letters", "[I", true)
  | 1 => ("EchoSeats$Text", "size", "I", false)
  | 2 => ("EchoSeats$Text", "next", "I", false)
  | 3 => ("EchoSeats$Text", "token", "I", false)
  | 4 => ("EchoSeats$Text", "start", "I", false)
  | _ => ("EchoSeats$Text", "number", "I", false)
def tyX4 : Nat → FieldType := fun k => match k with
  | 0 => .array .int
  | 1 => .int
  | 2 => .int
  | 3 => .int
  | 4 => .int
  | _ => .int
abbrev wsX40 : List Cond := u_ws RX4 TX4 6
theorem nmX4 : ∀ a, a < 6 → ∀ b, b < 6 → a ≠ b → (TX4 a).2.1 ≠ (TX4 b).2.1 := by decide +kernel
theorem tyX4_ok : ∀ k, k < 6 → parseFieldDescriptor (TX4 k).2.2.1 = some (tyX4 k) := by decide +kernel
abbrev cX4_init : ByteArray := prog_6_method_1_code
def yX4_init : MethodName := ⟨RX4, "<init>", "()V"⟩
abbrev cX4_append : ByteArray := prog_6_method_2_code
def yX4_append : MethodName := ⟨RX4, "append", "(I)Z"⟩
abbrev cX4_readInto : ByteArray := prog_6_method_3_code
def yX4_readInto : MethodName := ⟨RX4, "readInto", "(LEchoSeats$Scene;)I"⟩
abbrev cX4_readItem : ByteArray := prog_6_method_4_code
def yX4_readItem : MethodName := ⟨RX4, "readItem", "(LEchoSeats$Scene;I)Z"⟩
abbrev cX4_readSides : ByteArray := prog_6_method_5_code
def yX4_readSides : MethodName := ⟨RX4, "readSides", "(LEchoSeats$Scene;)Z"⟩
abbrev cX4_readSwallows : ByteArray := prog_6_method_6_code
def yX4_readSwallows : MethodName := ⟨RX4, "readSwallows", "(LEchoSeats$Scene;)Z"⟩
abbrev cX4_readSource : ByteArray := prog_6_method_7_code
def yX4_readSource : MethodName := ⟨RX4, "readSource", "(LEchoSeats$Scene;)Z"⟩
abbrev cX4_readSeat : ByteArray := prog_6_method_8_code
def yX4_readSeat : MethodName := ⟨RX4, "readSeat", "(LEchoSeats$Scene;)Z"⟩
abbrev cX4_readCurtain : ByteArray := prog_6_method_9_code
def yX4_readCurtain : MethodName := ⟨RX4, "readCurtain", "(LEchoSeats$Scene;)Z"⟩
abbrev cX4_readNumber : ByteArray := prog_6_method_10_code
def yX4_readNumber : MethodName := ⟨RX4, "readNumber", "(II)Z"⟩
abbrev cX4_readEnd : ByteArray := prog_6_method_11_code
def yX4_readEnd : MethodName := ⟨RX4, "readEnd", "()Z"⟩
abbrev cX4_nextToken : ByteArray := prog_6_method_12_code
def yX4_nextToken : MethodName := ⟨RX4, "nextToken", "()V"⟩
abbrev cX4_takeFigures : ByteArray := prog_6_method_13_code
def yX4_takeFigures : MethodName := ⟨RX4, "takeFigures", "()V"⟩
abbrev cX4_isFigure : ByteArray := prog_6_method_14_code
def yX4_isFigure : MethodName := ⟨RX4, "isFigure", "(I)Z"⟩
def RX5 : String := "EchoSeats"
def TX5 : u_T := fun k => match k with
  | 0 => ("EchoSeats", "now", "LEchoSeats$Scene;", true)
  | 1 => ("EchoSeats", "draft", "LEchoSeats$Scene;", true)
  | 2 => ("EchoSeats", "kept", "[LEchoSeats$Scene;", true)
  | 3 => ("EchoSeats", "isKept", "[Z", true)
  | 4 => ("EchoSeats", "text", "LEchoSeats$Text;", true)
  | 5 => ("EchoSeats", "past", "LEchoSeats$Past;", true)
  | 6 => ("EchoSeats", "ear", "LEchoSeats$Ear;", true)
  | _ => ("EchoSeats", "finder", "LEchoSeats$Finder;", true)
def tyX5 : Nat → FieldType := fun k => match k with
  | 0 => .object "EchoSeats$Scene"
  | 1 => .object "EchoSeats$Scene"
  | 2 => .array (.object "EchoSeats$Scene")
  | 3 => .array .boolean
  | 4 => .object "EchoSeats$Text"
  | 5 => .object "EchoSeats$Past"
  | 6 => .object "EchoSeats$Ear"
  | _ => .object "EchoSeats$Finder"
abbrev wsX50 : List Cond := u_ws RX5 TX5 8
theorem nmX5 : ∀ a, a < 8 → ∀ b, b < 8 → a ≠ b → (TX5 a).2.1 ≠ (TX5 b).2.1 := by decide +kernel
theorem tyX5_ok : ∀ k, k < 8 → parseFieldDescriptor (TX5 k).2.2.1 = some (tyX5 k) := by decide +kernel
abbrev cX5_init : ByteArray := prog_1_method_1_code
def yX5_init : MethodName := ⟨RX5, "<init>", "()V"⟩
abbrev cX5_type : ByteArray := prog_1_method_2_code
def yX5_type : MethodName := ⟨RX5, "type", "(I)I"⟩
abbrev cX5_clear : ByteArray := prog_1_method_3_code
def yX5_clear : MethodName := ⟨RX5, "clear", "()I"⟩
abbrev cX5_room : ByteArray := prog_1_method_4_code
def yX5_room : MethodName := ⟨RX5, "room", "()I"⟩
abbrev cX5_wall : ByteArray := prog_1_method_5_code
def yX5_wall : MethodName := ⟨RX5, "wall", "(I)I"⟩
abbrev cX5_seat : ByteArray := prog_1_method_6_code
def yX5_seat : MethodName := ⟨RX5, "seat", "(II)I"⟩
abbrev cX5_curtain : ByteArray := prog_1_method_7_code
def yX5_curtain : MethodName := ⟨RX5, "curtain", "(II)I"⟩
abbrev cX5_pads : ByteArray := prog_1_method_8_code
def yX5_pads : MethodName := ⟨RX5, "pads", "(II)I"⟩
abbrev cX5_draws : ByteArray := prog_1_method_9_code
def yX5_draws : MethodName := ⟨RX5, "draws", "(III)I"⟩
abbrev cX5_moves : ByteArray := prog_1_method_10_code
def yX5_moves : MethodName := ⟨RX5, "moves", "(II)I"⟩
abbrev cX5_undo : ByteArray := prog_1_method_11_code
def yX5_undo : MethodName := ⟨RX5, "undo", "()I"⟩
abbrev cX5_mirror : ByteArray := prog_1_method_12_code
def yX5_mirror : MethodName := ⟨RX5, "mirror", "(III)I"⟩
abbrev cX5_path : ByteArray := prog_1_method_13_code
def yX5_path : MethodName := ⟨RX5, "path", "(IIII)I"⟩
abbrev cX5_heard : ByteArray := prog_1_method_14_code
def yX5_heard : MethodName := ⟨RX5, "heard", "(III)I"⟩
abbrev cX5_sound : ByteArray := prog_1_method_15_code
def yX5_sound : MethodName := ⟨RX5, "sound", "(II)I"⟩
abbrev cX5_early : ByteArray := prog_1_method_16_code
def yX5_early : MethodName := ⟨RX5, "early", "(III)I"⟩
abbrev cX5_fade : ByteArray := prog_1_method_17_code
def yX5_fade : MethodName := ⟨RX5, "fade", "(II)I"⟩
abbrev cX5_best : ByteArray := prog_1_method_18_code
def yX5_best : MethodName := ⟨RX5, "best", "(I)I"⟩
abbrev cX5_odds : ByteArray := prog_1_method_19_code
def yX5_odds : MethodName := ⟨RX5, "odds", "(IIII)I"⟩
abbrev cX5_sees : ByteArray := prog_1_method_20_code
def yX5_sees : MethodName := ⟨RX5, "sees", "(III)I"⟩
abbrev cX5_forget : ByteArray := prog_1_method_21_code
def yX5_forget : MethodName := ⟨RX5, "forget", "()I"⟩
abbrev cX5_unseen : ByteArray := prog_1_method_22_code
def yX5_unseen : MethodName := ⟨RX5, "unseen", "(I)I"⟩
abbrev cX5_listen : ByteArray := prog_1_method_23_code
def yX5_listen : MethodName := ⟨RX5, "listen", "()I"⟩
abbrev cX5_keep : ByteArray := prog_1_method_24_code
def yX5_keep : MethodName := ⟨RX5, "keep", "(I)I"⟩
abbrev cX5_back : ByteArray := prog_1_method_25_code
def yX5_back : MethodName := ⟨RX5, "back", "(I)I"⟩
abbrev cX5_count : ByteArray := prog_1_method_26_code
def yX5_count : MethodName := ⟨RX5, "count", "(I)I"⟩
abbrev cX5_dropKept : ByteArray := prog_1_method_27_code
def yX5_dropKept : MethodName := ⟨RX5, "dropKept", "()V"⟩
abbrev cX5_isWithin : ByteArray := prog_1_method_28_code
def yX5_isWithin : MethodName := ⟨RX5, "isWithin", "(III)Z"⟩
abbrev cX5_isImage : ByteArray := prog_1_method_29_code
def yX5_isImage : MethodName := ⟨RX5, "isImage", "(II)Z"⟩
abbrev cX5_imageCode : ByteArray := prog_1_method_30_code
def yX5_imageCode : MethodName := ⟨RX5, "imageCode", "(II)I"⟩
abbrev cX5_mirrored : ByteArray := prog_1_method_31_code
def yX5_mirrored : MethodName := ⟨RX5, "mirrored", "(III)I"⟩
abbrev cX5_farPasses : ByteArray := prog_1_method_32_code
def yX5_farPasses : MethodName := ⟨RX5, "farPasses", "(I)I"⟩
abbrev cX5_passes : ByteArray := prog_1_method_33_code
def yX5_passes : MethodName := ⟨RX5, "passes", "(III)I"⟩
abbrev cX5_squares : ByteArray := prog_1_method_34_code
def yX5_squares : MethodName := ⟨RX5, "squares", "(II)I"⟩
abbrev cX5_timeOf : ByteArray := prog_1_method_35_code
def yX5_timeOf : MethodName := ⟨RX5, "timeOf", "(I)I"⟩
abbrev cX5_strengthOf : ByteArray := prog_1_method_36_code
def yX5_strengthOf : MethodName := ⟨RX5, "strengthOf", "([IIII)I"⟩
abbrev cX5_chanceOf : ByteArray := prog_1_method_37_code
def yX5_chanceOf : MethodName := ⟨RX5, "chanceOf", "(II)I"⟩
abbrev cX5_leastTerm : ByteArray := prog_1_method_38_code
def yX5_leastTerm : MethodName := ⟨RX5, "leastTerm", "(III)I"⟩
abbrev cX5_commonDivisor : ByteArray := prog_1_method_39_code
def yX5_commonDivisor : MethodName := ⟨RX5, "commonDivisor", "(II)I"⟩
def RX6 : String := "EchoSeatsModel"
def TX6 : u_T := fun k => match k with
  | 0 => ("EchoSeatsModel", "s", "[I", true)
  | 1 => ("EchoSeatsModel", "draft", "[I", true)
  | 2 => ("EchoSeatsModel", "kept", "[I", true)
  | 3 => ("EchoSeatsModel", "isKept", "[Z", true)
  | 4 => ("EchoSeatsModel", "undone", "[I", true)
  | 5 => ("EchoSeatsModel", "known", "I", false)
  | 6 => ("EchoSeatsModel", "seenI", "[I", true)
  | 7 => ("EchoSeatsModel", "seenJ", "[I", true)
  | 8 => ("EchoSeatsModel", "seenTime", "[I", true)
  | 9 => ("EchoSeatsModel", "seen", "I", false)
  | 10 => ("EchoSeatsModel", "text", "[I", true)
  | 11 => ("EchoSeatsModel", "typed", "I", false)
  | 12 => ("EchoSeatsModel", "kind", "[I", true)
  | 13 => ("EchoSeatsModel", "place", "[I", true)
  | 14 => ("EchoSeatsModel", "value", "[I", true)
  | 15 => ("EchoSeatsModel", "tokens", "I", false)
  | 16 => ("EchoSeatsModel", "swallows", "[I", true)
  | 17 => ("EchoSeatsModel", "time", "[I", true)
  | 18 => ("EchoSeatsModel", "strength", "[I", true)
  | 19 => ("EchoSeatsModel", "which", "[I", true)
  | 20 => ("EchoSeatsModel", "heard", "I", false)
  | _ => ("EchoSeatsModel", "told", "[Z", true)
def tyX6 : Nat → FieldType := fun k => match k with
  | 0 => .array .int
  | 1 => .array .int
  | 2 => .array .int
  | 3 => .array .boolean
  | 4 => .array .int
  | 5 => .int
  | 6 => .array .int
  | 7 => .array .int
  | 8 => .array .int
  | 9 => .int
  | 10 => .array .int
  | 11 => .int
  | 12 => .array .int
  | 13 => .array .int
  | 14 => .array .int
  | 15 => .int
  | 16 => .array .int
  | 17 => .array .int
  | 18 => .array .int
  | 19 => .array .int
  | 20 => .int
  | _ => .array .boolean
abbrev wsX60 : List Cond := u_ws RX6 TX6 22
theorem nmX6 : ∀ a, a < 22 → ∀ b, b < 22 → a ≠ b → (TX6 a).2.1 ≠ (TX6 b).2.1 := by decide +kernel
theorem tyX6_ok : ∀ k, k < 22 → parseFieldDescriptor (TX6 k).2.2.1 = some (tyX6 k) := by decide +kernel
abbrev cX6_init : ByteArray := prog_8_method_1_code
def yX6_init : MethodName := ⟨RX6, "<init>", "()V"⟩
abbrev cX6_in : ByteArray := prog_8_method_3_code
def yX6_in : MethodName := ⟨RX6, "in", "(III)Z"⟩
abbrev cX6_size : ByteArray := prog_8_method_4_code
def yX6_size : MethodName := ⟨RX6, "size", "(I)I"⟩
abbrev cX6_begins : ByteArray := prog_8_method_5_code
def yX6_begins : MethodName := ⟨RX6, "begins", "()V"⟩
abbrev cX6_becomes : ByteArray := prog_8_method_6_code
def yX6_becomes : MethodName := ⟨RX6, "becomes", "()V"⟩
abbrev cX6_isWithin : ByteArray := prog_8_method_7_code
def yX6_isWithin : MethodName := ⟨RX6, "isWithin", "(II)Z"⟩
abbrev cX6_isSeat : ByteArray := prog_8_method_8_code
def yX6_isSeat : MethodName := ⟨RX6, "isSeat", "(I)Z"⟩
abbrev cX6_isCurtain : ByteArray := prog_8_method_9_code
def yX6_isCurtain : MethodName := ⟨RX6, "isCurtain", "(I)Z"⟩
abbrev cX6_isImage : ByteArray := prog_8_method_10_code
def yX6_isImage : MethodName := ⟨RX6, "isImage", "(II)Z"⟩
abbrev cX6_type : ByteArray := prog_8_method_11_code
def yX6_type : MethodName := ⟨RX6, "type", "(I)I"⟩
abbrev cX6_clear : ByteArray := prog_8_method_12_code
def yX6_clear : MethodName := ⟨RX6, "clear", "()I"⟩
abbrev cX6_isFigure : ByteArray := prog_8_method_13_code
def yX6_isFigure : MethodName := ⟨RX6, "isFigure", "(I)Z"⟩
abbrev cX6_numbered : ByteArray := prog_8_method_14_code
def yX6_numbered : MethodName := ⟨RX6, "numbered", "(I)I"⟩
abbrev cX6_isLetter : ByteArray := prog_8_method_15_code
def yX6_isLetter : MethodName := ⟨RX6, "isLetter", "(I)Z"⟩
abbrev cX6_parts : ByteArray := prog_8_method_16_code
def yX6_parts : MethodName := ⟨RX6, "parts", "()V"⟩
abbrev cX6_placeOf : ByteArray := prog_8_method_17_code
def yX6_placeOf : MethodName := ⟨RX6, "placeOf", "(I)I"⟩
abbrev cX6_isKind : ByteArray := prog_8_method_18_code
def yX6_isKind : MethodName := ⟨RX6, "isKind", "(II)Z"⟩
abbrev cX6_isNumber : ByteArray := prog_8_method_19_code
def yX6_isNumber : MethodName := ⟨RX6, "isNumber", "(III)Z"⟩
abbrev cX6_firstWrong : ByteArray := prog_8_method_20_code
def yX6_firstWrong : MethodName := ⟨RX6, "firstWrong", "(I)I"⟩
abbrev cX6_token : ByteArray := prog_8_method_21_code
def yX6_token : MethodName := ⟨RX6, "token", "(I)I"⟩
abbrev cX6_lay : ByteArray := prog_8_method_22_code
def yX6_lay : MethodName := ⟨RX6, "lay", "(I)V"⟩
abbrev cX6_room : ByteArray := prog_8_method_23_code
def yX6_room : MethodName := ⟨RX6, "room", "()I"⟩
abbrev cX6_wall : ByteArray := prog_8_method_24_code
def yX6_wall : MethodName := ⟨RX6, "wall", "(I)I"⟩
abbrev cX6_seat : ByteArray := prog_8_method_25_code
def yX6_seat : MethodName := ⟨RX6, "seat", "(II)I"⟩
abbrev cX6_curtain : ByteArray := prog_8_method_26_code
def yX6_curtain : MethodName := ⟨RX6, "curtain", "(II)I"⟩
abbrev cX6_known : ByteArray := prog_8_method_27_code
def yX6_known : MethodName := ⟨RX6, "known", "(II)V"⟩
abbrev cX6_pads : ByteArray := prog_8_method_28_code
def yX6_pads : MethodName := ⟨RX6, "pads", "(II)I"⟩
abbrev cX6_draws : ByteArray := prog_8_method_29_code
def yX6_draws : MethodName := ⟨RX6, "draws", "(III)I"⟩
abbrev cX6_sourceAt : ByteArray := prog_8_method_30_code
def yX6_sourceAt : MethodName := ⟨RX6, "sourceAt", "()I"⟩
abbrev cX6_moves : ByteArray := prog_8_method_31_code
def yX6_moves : MethodName := ⟨RX6, "moves", "(II)I"⟩
abbrev cX6_undo : ByteArray := prog_8_method_32_code
def yX6_undo : MethodName := ⟨RX6, "undo", "()I"⟩
abbrev cX6_mirrored : ByteArray := prog_8_method_33_code
def yX6_mirrored : MethodName := ⟨RX6, "mirrored", "(III)I"⟩
abbrev cX6_times : ByteArray := prog_8_method_34_code
def yX6_times : MethodName := ⟨RX6, "times", "(III)I"⟩
abbrev cX6_softTimes : ByteArray := prog_8_method_35_code
def yX6_softTimes : MethodName := ⟨RX6, "softTimes", "(II)I"⟩
abbrev cX6_mirror : ByteArray := prog_8_method_36_code
def yX6_mirror : MethodName := ⟨RX6, "mirror", "(III)I"⟩
abbrev cX6_wayOf : ByteArray := prog_8_method_37_code
def yX6_wayOf : MethodName := ⟨RX6, "wayOf", "(IIII)I"⟩
abbrev cX6_timeOf : ByteArray := prog_8_method_38_code
def yX6_timeOf : MethodName := ⟨RX6, "timeOf", "(I)I"⟩
abbrev cX6_strengthOf : ByteArray := prog_8_method_39_code
def yX6_strengthOf : MethodName := ⟨RX6, "strengthOf", "(III)I"⟩
abbrev cX6_swallowsNow : ByteArray := prog_8_method_40_code
def yX6_swallowsNow : MethodName := ⟨RX6, "swallowsNow", "()V"⟩
abbrev cX6_meets : ByteArray := prog_8_method_41_code
def yX6_meets : MethodName := ⟨RX6, "meets", "(IIIIII)Z"⟩
abbrev cX6_isHidden : ByteArray := prog_8_method_42_code
def yX6_isHidden : MethodName := ⟨RX6, "isHidden", "(IIII)Z"⟩
abbrev cX6_path : ByteArray := prog_8_method_43_code
def yX6_path : MethodName := ⟨RX6, "path", "(IIII)I"⟩
abbrev cX6_hears : ByteArray := prog_8_method_44_code
def yX6_hears : MethodName := ⟨RX6, "hears", "(I)V"⟩
abbrev cX6_hearsNow : ByteArray := prog_8_method_45_code
def yX6_hearsNow : MethodName := ⟨RX6, "hearsNow", "(I)V"⟩
abbrev cX6_rankedAt : ByteArray := prog_8_method_46_code
def yX6_rankedAt : MethodName := ⟨RX6, "rankedAt", "(I)I"⟩
abbrev cX6_heard : ByteArray := prog_8_method_47_code
def yX6_heard : MethodName := ⟨RX6, "heard", "(III)I"⟩
abbrev cX6_soundBy : ByteArray := prog_8_method_48_code
def yX6_soundBy : MethodName := ⟨RX6, "soundBy", "(I)I"⟩
abbrev cX6_soundAll : ByteArray := prog_8_method_49_code
def yX6_soundAll : MethodName := ⟨RX6, "soundAll", "()I"⟩
abbrev cX6_sound : ByteArray := prog_8_method_50_code
def yX6_sound : MethodName := ⟨RX6, "sound", "(II)I"⟩
abbrev cX6_common : ByteArray := prog_8_method_51_code
def yX6_common : MethodName := ⟨RX6, "common", "(II)I"⟩
abbrev cX6_fraction : ByteArray := prog_8_method_52_code
def yX6_fraction : MethodName := ⟨RX6, "fraction", "(III)I"⟩
abbrev cX6_early : ByteArray := prog_8_method_53_code
def yX6_early : MethodName := ⟨RX6, "early", "(III)I"⟩
abbrev cX6_fade : ByteArray := prog_8_method_54_code
def yX6_fade : MethodName := ⟨RX6, "fade", "(II)I"⟩
abbrev cX6_best : ByteArray := prog_8_method_55_code
def yX6_best : MethodName := ⟨RX6, "best", "(I)I"⟩
abbrev cX6_odds : ByteArray := prog_8_method_56_code
def yX6_odds : MethodName := ⟨RX6, "odds", "(IIII)I"⟩
abbrev cX6_sees : ByteArray := prog_8_method_57_code
def yX6_sees : MethodName := ⟨RX6, "sees", "(III)I"⟩
abbrev cX6_forget : ByteArray := prog_8_method_58_code
def yX6_forget : MethodName := ⟨RX6, "forget", "()I"⟩
abbrev cX6_mayBe : ByteArray := prog_8_method_59_code
def yX6_mayBe : MethodName := ⟨RX6, "mayBe", "(II)Z"⟩
abbrev cX6_places : ByteArray := prog_8_method_60_code
def yX6_places : MethodName := ⟨RX6, "places", "(Z)I"⟩
abbrev cX6_unseen : ByteArray := prog_8_method_61_code
def yX6_unseen : MethodName := ⟨RX6, "unseen", "(I)I"⟩
abbrev cX6_unlike : ByteArray := prog_8_method_62_code
def yX6_unlike : MethodName := ⟨RX6, "unlike", "(II)I"⟩
abbrev cX6_listen : ByteArray := prog_8_method_63_code
def yX6_listen : MethodName := ⟨RX6, "listen", "()I"⟩
abbrev cX6_keep : ByteArray := prog_8_method_64_code
def yX6_keep : MethodName := ⟨RX6, "keep", "(I)I"⟩
abbrev cX6_back : ByteArray := prog_8_method_65_code
def yX6_back : MethodName := ⟨RX6, "back", "(I)I"⟩
abbrev cX6_count : ByteArray := prog_8_method_66_code
def yX6_count : MethodName := ⟨RX6, "count", "(I)I"⟩
def RJ9 : String := "java/lang/Math"
def TJ9 : u_T := fun k => match k with
  | _ => ("", "", "", false)
def tyJ9 : Nat → FieldType := fun k => match k with
  | _ => .int
abbrev wsJ90 : List Cond := u_ws RJ9 TJ9 0
theorem nmJ9 : ∀ a, a < 0 → ∀ b, b < 0 → a ≠ b → (TJ9 a).2.1 ≠ (TJ9 b).2.1 := by decide +kernel
theorem tyJ9_ok : ∀ k, k < 0 → parseFieldDescriptor (TJ9 k).2.2.1 = some (tyJ9 k) := by decide +kernel
abbrev cJ9_floorDiv_7cf53 : ByteArray := prog_9_method_47_code
def yJ9_floorDiv_7cf53 : MethodName := ⟨RJ9, "floorDiv", "(II)I"⟩
abbrev cJ9_abs_0f7a4 : ByteArray := prog_9_method_59_code
def yJ9_abs_0f7a4 : MethodName := ⟨RJ9, "abs", "(I)I"⟩
abbrev cJ9_max_7cf53 : ByteArray := prog_9_method_65_code
def yJ9_max_7cf53 : MethodName := ⟨RJ9, "max", "(II)I"⟩
abbrev cJ9_min_7cf53 : ByteArray := prog_9_method_69_code
def yJ9_min_7cf53 : MethodName := ⟨RJ9, "min", "(II)I"⟩
def RJ10 : String := "java/lang/System"
def TJ10 : u_T := fun k => match k with
  | _ => ("", "", "", false)
def tyJ10 : Nat → FieldType := fun k => match k with
  | _ => .int
abbrev wsJ100 : List Cond := u_ws RJ10 TJ10 0
theorem nmJ10 : ∀ a, a < 0 → ∀ b, b < 0 → a ≠ b → (TJ10 a).2.1 ≠ (TJ10 b).2.1 := by decide +kernel
theorem tyJ10_ok : ∀ k, k < 0 → parseFieldDescriptor (TJ10 k).2.2.1 = some (tyJ10 k) := by decide +kernel
def RJ7 : String := "java/util/Arrays"
def TJ7 : u_T := fun k => match k with
  | _ => ("", "", "", false)
def tyJ7 : Nat → FieldType := fun k => match k with
  | _ => .int
abbrev wsJ70 : List Cond := u_ws RJ7 TJ7 0
theorem nmJ7 : ∀ a, a < 0 → ∀ b, b < 0 → a ≠ b → (TJ7 a).2.1 ≠ (TJ7 b).2.1 := by decide +kernel
theorem tyJ7_ok : ∀ k, k < 0 → parseFieldDescriptor (TJ7 k).2.2.1 = some (tyJ7 k) := by decide +kernel
abbrev cJ7_fill_53178 : ByteArray := prog_11_method_103_code
def yJ7_fill_53178 : MethodName := ⟨RJ7, "fill", "([II)V"⟩
def RL : String := "EchoSeatsLaw"
abbrev cL_law : ByteArray := code
def yL_law : MethodName := ⟨RL, "law", "([I)Z"⟩
def wsX0_init : List Cond := .code yX0_init cX0_init 1 none :: ([.methodLink RX0 3 objectInit, .instanceMethod objectInit, .code objectInit ⟨#[0xb1]⟩ 1 none, .arrayClass .int, .fieldLink RX0 9 "EchoSeats$Ear" "is" "[I", .fieldLink RX0 15 "EchoSeats$Ear" "js" "[I", .fieldLink RX0 18 "EchoSeats$Ear" "ways" "[I", .fieldLink RX0 21 "EchoSeats$Ear" "times" "[I", .fieldLink RX0 24 "EchoSeats$Ear" "strengths" "[I", .fieldLink RX0 27 "EchoSeats$Ear" "deafened" "[I"] ++ wsX00)
def wsX3_hasSeat : List Cond := .code yX3_hasSeat cX3_hasSeat 2 (some .boolean) :: ([.fieldLink RX3 46 "EchoSeats$Scene" "seats" "I"] ++ wsX30)
def wsX5_mirrored : List Cond := .code yX5_mirrored cX5_mirrored 3 (some .int) :: ([])
def wsX3_imageX : List Cond := .code yX3_imageX cX3_imageX 2 (some .int) :: ([.fieldLink RX3 33 "EchoSeats$Scene" "length" "I", .fieldLink RX3 40 "EchoSeats$Scene" "sourceX" "I", .static yX5_mirrored, .initialized RX5, .code yX5_mirrored cX5_mirrored 3 (some .int)] ++ wsX30)
def wsX3_imageY : List Cond := .code yX3_imageY cX3_imageY 2 (some .int) :: ([.fieldLink RX3 37 "EchoSeats$Scene" "breadth" "I", .fieldLink RX3 43 "EchoSeats$Scene" "sourceY" "I", .static yX5_mirrored, .initialized RX5, .code yX5_mirrored cX5_mirrored 3 (some .int)] ++ wsX30)
def wsJ9_floorDiv_7cf53 : List Cond := .code yJ9_floorDiv_7cf53 cJ9_floorDiv_7cf53 3 (some .int) :: ([])
def wsX3_curtainMeets : List Cond := .code yX3_curtainMeets cX3_curtainMeets 8 (some .boolean) :: ([.fieldLink RX3 37 "EchoSeats$Scene" "breadth" "I", .fieldLink RX3 24 "EchoSeats$Scene" "curtainFrom" "[I", .fieldLink RX3 27 "EchoSeats$Scene" "curtainTo" "[I", .methodLink RX3 97 yJ9_floorDiv_7cf53, .static yJ9_floorDiv_7cf53, .initialized RJ9, .code yJ9_floorDiv_7cf53 cJ9_floorDiv_7cf53 3 (some .int)] ++ wsX30)
def wsX3_isHidden_r1 : List Cond := [Cond.fieldLink RX3 49 "EchoSeats$Scene" "curtains" "I", Cond.fieldLink RX3 33 "EchoSeats$Scene" "length" "I", Cond.fieldLink RX3 21 "EchoSeats$Scene" "curtainX" "[I", Cond.methodLink RX3 82 Lib.Math.abs.name, Cond.static Lib.Math.abs.name, Cond.initialized "java/lang/Math", Cond.code Lib.Math.abs.name Lib.Math.abs.code 1 (some .int), Cond.methodLink RX3 87 Lib.Math.min.name, Cond.static Lib.Math.min.name, Cond.code Lib.Math.min.name Lib.Math.min.code 2 (some .int), Cond.methodLink RX3 90 Lib.Math.max.name, Cond.static Lib.Math.max.name, Cond.code Lib.Math.max.name Lib.Math.max.code 2 (some .int), Cond.methodLink RX3 71 yX3_imageX, Cond.instanceMethod yX3_imageX, Cond.selects RX3 yX3_imageX yX3_imageX, Cond.initialized RX3, Cond.code yX3_imageX cX3_imageX 2 (some .int), Cond.fieldLink RX3 40 "EchoSeats$Scene" "sourceX" "I", Cond.static yX5_mirrored, Cond.initialized RX5, Cond.code yX5_mirrored cX5_mirrored 3 (some .int), Cond.methodLink RX3 75 yX3_imageY, Cond.instanceMethod yX3_imageY]
def wsX3_isHidden_r2 : List Cond := [Cond.selects RX3 yX3_imageY yX3_imageY, Cond.code yX3_imageY cX3_imageY 2 (some .int), Cond.fieldLink RX3 37 "EchoSeats$Scene" "breadth" "I", Cond.fieldLink RX3 43 "EchoSeats$Scene" "sourceY" "I", Cond.methodLink RX3 93 yX3_curtainMeets, Cond.instanceMethod yX3_curtainMeets, Cond.selects RX3 yX3_curtainMeets yX3_curtainMeets, Cond.code yX3_curtainMeets cX3_curtainMeets 8 (some .boolean), Cond.fieldLink RX3 24 "EchoSeats$Scene" "curtainFrom" "[I", Cond.fieldLink RX3 27 "EchoSeats$Scene" "curtainTo" "[I", Cond.methodLink RX3 97 yJ9_floorDiv_7cf53, Cond.static yJ9_floorDiv_7cf53, Cond.initialized RJ9, Cond.code yJ9_floorDiv_7cf53 cJ9_floorDiv_7cf53 3 (some .int)]
def wsX3_isHidden : List Cond := .code yX3_isHidden cX3_isHidden 13 (some .boolean) :: ((wsX3_isHidden_r1 ++ wsX3_isHidden_r2) ++ wsX30)
def wsX5_squares : List Cond := .code yX5_squares cX5_squares 2 (some .int) :: ([])
def wsX3_waySquared : List Cond := .code yX3_waySquared cX3_waySquared 5 (some .int) :: ([.methodLink RX3 71 yX3_imageX, .instanceMethod yX3_imageX, .selects RX3 yX3_imageX yX3_imageX, .initialized RX3, .code yX3_imageX cX3_imageX 2 (some .int), .fieldLink RX3 33 "EchoSeats$Scene" "length" "I", .fieldLink RX3 40 "EchoSeats$Scene" "sourceX" "I", .static yX5_mirrored, .initialized RX5, .code yX5_mirrored cX5_mirrored 3 (some .int), .methodLink RX3 75 yX3_imageY, .instanceMethod yX3_imageY, .selects RX3 yX3_imageY yX3_imageY, .code yX3_imageY cX3_imageY 2 (some .int), .fieldLink RX3 37 "EchoSeats$Scene" "breadth" "I", .fieldLink RX3 43 "EchoSeats$Scene" "sourceY" "I", .static yX5_squares, .code yX5_squares cX5_squares 2 (some .int)] ++ wsX30)
def wsX5_timeOf : List Cond := .code yX5_timeOf cX5_timeOf 5 (some .int) :: ([])
def wsX0_shiftUp : List Cond := .code yX0_shiftUp cX0_shiftUp 2 none :: ([.fieldLink RX0 9 "EchoSeats$Ear" "is" "[I", .fieldLink RX0 15 "EchoSeats$Ear" "js" "[I", .fieldLink RX0 18 "EchoSeats$Ear" "ways" "[I", .fieldLink RX0 21 "EchoSeats$Ear" "times" "[I", .fieldLink RX0 24 "EchoSeats$Ear" "strengths" "[I"] ++ wsX00)
def wsX5_farPasses : List Cond := .code yX5_farPasses cX5_farPasses 1 (some .int) :: ([])
def wsX5_passes : List Cond := .code yX5_passes cX5_passes 3 (some .int) :: ([.methodLink RX5 237 yX5_farPasses, .static yX5_farPasses, .initialized RX5, .code yX5_farPasses cX5_farPasses 1 (some .int)])
def wsX5_strengthOf : List Cond := .code yX5_strengthOf cX5_strengthOf 8 (some .int) :: ([.constant RX5 240 (1000000), .methodLink RX5 205 Lib.Math.max.name, .static Lib.Math.max.name, .initialized "java/lang/Math", .code Lib.Math.max.name Lib.Math.max.code 2 (some .int), .methodLink RX5 241 yX5_passes, .static yX5_passes, .initialized RX5, .code yX5_passes cX5_passes 3 (some .int), .methodLink RX5 237 yX5_farPasses, .static yX5_farPasses, .code yX5_farPasses cX5_farPasses 1 (some .int)])
def wsX0_insert_r1 : List Cond := [Cond.fieldLink RX0 30 "EchoSeats$Ear" "size" "I", Cond.fieldLink RX0 21 "EchoSeats$Ear" "times" "[I", Cond.fieldLink RX0 9 "EchoSeats$Ear" "is" "[I", Cond.fieldLink RX0 15 "EchoSeats$Ear" "js" "[I", Cond.fieldLink RX0 18 "EchoSeats$Ear" "ways" "[I", Cond.fieldLink RX0 24 "EchoSeats$Ear" "strengths" "[I", Cond.fieldLink RX0 74 "EchoSeats$Scene" "swallows" "[I", Cond.fieldLink RX0 34 "EchoSeats$Ear" "total" "I", Cond.static yX5_timeOf, Cond.initialized RX5, Cond.code yX5_timeOf cX5_timeOf 5 (some .int), Cond.methodLink RX0 70 yX0_shiftUp, Cond.instanceMethod yX0_shiftUp, Cond.selects RX0 yX0_shiftUp yX0_shiftUp, Cond.initialized RX0, Cond.code yX0_shiftUp cX0_shiftUp 2 none, Cond.static yX5_strengthOf, Cond.code yX5_strengthOf cX5_strengthOf 8 (some .int), Cond.constant RX5 240 (1000000), Cond.methodLink RX5 205 Lib.Math.max.name, Cond.static Lib.Math.max.name, Cond.initialized "java/lang/Math", Cond.code Lib.Math.max.name Lib.Math.max.code 2 (some .int), Cond.methodLink RX5 241 yX5_passes]
def wsX0_insert_r2 : List Cond := [Cond.static yX5_passes, Cond.code yX5_passes cX5_passes 3 (some .int), Cond.methodLink RX5 237 yX5_farPasses, Cond.static yX5_farPasses, Cond.code yX5_farPasses cX5_farPasses 1 (some .int)]
def wsX0_insert : List Cond := .code yX0_insert cX0_insert 7 none :: ((wsX0_insert_r1 ++ wsX0_insert_r2) ++ wsX00 ++ wsX30)
def wsX0_hearAtSeat_r1 : List Cond := [Cond.fieldLink RX0 30 "EchoSeats$Ear" "size" "I", Cond.fieldLink RX0 34 "EchoSeats$Ear" "total" "I", Cond.fieldLink RX0 43 "EchoSeats$Scene" "seatX" "[I", Cond.fieldLink RX0 46 "EchoSeats$Scene" "seatY" "[I", Cond.methodLink RX0 49 Lib.Math.abs.name, Cond.static Lib.Math.abs.name, Cond.initialized "java/lang/Math", Cond.code Lib.Math.abs.name Lib.Math.abs.code 1 (some .int), Cond.methodLink RX0 37 yX3_hasSeat, Cond.instanceMethod yX3_hasSeat, Cond.selects RX3 yX3_hasSeat yX3_hasSeat, Cond.initialized RX3, Cond.code yX3_hasSeat cX3_hasSeat 2 (some .boolean), Cond.fieldLink RX3 46 "EchoSeats$Scene" "seats" "I", Cond.methodLink RX0 55 yX3_isHidden, Cond.instanceMethod yX3_isHidden, Cond.selects RX3 yX3_isHidden yX3_isHidden, Cond.code yX3_isHidden cX3_isHidden 13 (some .boolean), Cond.fieldLink RX3 49 "EchoSeats$Scene" "curtains" "I", Cond.fieldLink RX3 33 "EchoSeats$Scene" "length" "I", Cond.fieldLink RX3 21 "EchoSeats$Scene" "curtainX" "[I", Cond.methodLink RX3 82 Lib.Math.abs.name, Cond.methodLink RX3 87 Lib.Math.min.name, Cond.static Lib.Math.min.name]
def wsX0_hearAtSeat_r2 : List Cond := [Cond.code Lib.Math.min.name Lib.Math.min.code 2 (some .int), Cond.methodLink RX3 90 Lib.Math.max.name, Cond.static Lib.Math.max.name, Cond.code Lib.Math.max.name Lib.Math.max.code 2 (some .int), Cond.methodLink RX3 71 yX3_imageX, Cond.instanceMethod yX3_imageX, Cond.selects RX3 yX3_imageX yX3_imageX, Cond.code yX3_imageX cX3_imageX 2 (some .int), Cond.fieldLink RX3 40 "EchoSeats$Scene" "sourceX" "I", Cond.static yX5_mirrored, Cond.initialized RX5, Cond.code yX5_mirrored cX5_mirrored 3 (some .int), Cond.methodLink RX3 75 yX3_imageY, Cond.instanceMethod yX3_imageY, Cond.selects RX3 yX3_imageY yX3_imageY, Cond.code yX3_imageY cX3_imageY 2 (some .int), Cond.fieldLink RX3 37 "EchoSeats$Scene" "breadth" "I", Cond.fieldLink RX3 43 "EchoSeats$Scene" "sourceY" "I", Cond.methodLink RX3 93 yX3_curtainMeets, Cond.instanceMethod yX3_curtainMeets, Cond.selects RX3 yX3_curtainMeets yX3_curtainMeets, Cond.code yX3_curtainMeets cX3_curtainMeets 8 (some .boolean), Cond.fieldLink RX3 24 "EchoSeats$Scene" "curtainFrom" "[I", Cond.fieldLink RX3 27 "EchoSeats$Scene" "curtainTo" "[I"]
def wsX0_hearAtSeat_r3 : List Cond := [Cond.methodLink RX3 97 yJ9_floorDiv_7cf53, Cond.static yJ9_floorDiv_7cf53, Cond.initialized RJ9, Cond.code yJ9_floorDiv_7cf53 cJ9_floorDiv_7cf53 3 (some .int), Cond.methodLink RX0 59 yX3_waySquared, Cond.instanceMethod yX3_waySquared, Cond.selects RX3 yX3_waySquared yX3_waySquared, Cond.code yX3_waySquared cX3_waySquared 5 (some .int), Cond.static yX5_squares, Cond.code yX5_squares cX5_squares 2 (some .int), Cond.methodLink RX0 63 yX0_insert, Cond.instanceMethod yX0_insert, Cond.selects RX0 yX0_insert yX0_insert, Cond.initialized RX0, Cond.code yX0_insert cX0_insert 7 none, Cond.fieldLink RX0 21 "EchoSeats$Ear" "times" "[I", Cond.fieldLink RX0 9 "EchoSeats$Ear" "is" "[I", Cond.fieldLink RX0 15 "EchoSeats$Ear" "js" "[I", Cond.fieldLink RX0 18 "EchoSeats$Ear" "ways" "[I", Cond.fieldLink RX0 24 "EchoSeats$Ear" "strengths" "[I", Cond.fieldLink RX0 74 "EchoSeats$Scene" "swallows" "[I", Cond.static yX5_timeOf, Cond.code yX5_timeOf cX5_timeOf 5 (some .int), Cond.methodLink RX0 70 yX0_shiftUp]
def wsX0_hearAtSeat_r4 : List Cond := [Cond.instanceMethod yX0_shiftUp, Cond.selects RX0 yX0_shiftUp yX0_shiftUp, Cond.code yX0_shiftUp cX0_shiftUp 2 none, Cond.static yX5_strengthOf, Cond.code yX5_strengthOf cX5_strengthOf 8 (some .int), Cond.constant RX5 240 (1000000), Cond.methodLink RX5 205 Lib.Math.max.name, Cond.methodLink RX5 241 yX5_passes, Cond.static yX5_passes, Cond.code yX5_passes cX5_passes 3 (some .int), Cond.methodLink RX5 237 yX5_farPasses, Cond.static yX5_farPasses, Cond.code yX5_farPasses cX5_farPasses 1 (some .int)]
def wsX0_hearAtSeat : List Cond := .code yX0_hearAtSeat cX0_hearAtSeat 8 none :: ((wsX0_hearAtSeat_r1 ++ (wsX0_hearAtSeat_r2 ++ (wsX0_hearAtSeat_r3 ++ wsX0_hearAtSeat_r4))) ++ wsX00 ++ wsX30)
def wsX0_firstGap : List Cond := .code yX0_firstGap cX0_firstGap 1 (some .int) :: ([.fieldLink RX0 30 "EchoSeats$Ear" "size" "I", .fieldLink RX0 21 "EchoSeats$Ear" "times" "[I"] ++ wsX00)
def wsX0_strengthUpTo : List Cond := .code yX0_strengthUpTo cX0_strengthUpTo 4 (some .int) :: ([.fieldLink RX0 30 "EchoSeats$Ear" "size" "I", .fieldLink RX0 21 "EchoSeats$Ear" "times" "[I", .fieldLink RX0 24 "EchoSeats$Ear" "strengths" "[I"] ++ wsX00)
def wsX0_fadeTime : List Cond := .code yX0_fadeTime cX0_fadeTime 4 (some .int) :: ([.fieldLink RX0 34 "EchoSeats$Ear" "total" "I", .fieldLink RX0 30 "EchoSeats$Ear" "size" "I", .fieldLink RX0 24 "EchoSeats$Ear" "strengths" "[I", .fieldLink RX0 21 "EchoSeats$Ear" "times" "[I"] ++ wsX00)
def wsX0_soundIfDeaf : List Cond := .code yX0_soundIfDeaf cX0_soundIfDeaf 5 (some .int) :: ([.fieldLink RX0 27 "EchoSeats$Ear" "deafened" "[I", .fieldLink RX0 30 "EchoSeats$Ear" "size" "I", .fieldLink RX0 9 "EchoSeats$Ear" "is" "[I", .fieldLink RX0 15 "EchoSeats$Ear" "js" "[I", .fieldLink RX0 18 "EchoSeats$Ear" "ways" "[I", .static yX5_strengthOf, .initialized RX5, .code yX5_strengthOf cX5_strengthOf 8 (some .int), .constant RX5 240 (1000000), .methodLink RX5 205 Lib.Math.max.name, .static Lib.Math.max.name, .initialized "java/lang/Math", .code Lib.Math.max.name Lib.Math.max.code 2 (some .int), .methodLink RX5 241 yX5_passes, .static yX5_passes, .code yX5_passes cX5_passes 3 (some .int), .methodLink RX5 237 yX5_farPasses, .static yX5_farPasses, .code yX5_farPasses cX5_farPasses 1 (some .int)] ++ wsX00)
def wsX1_init : List Cond := .code yX1_init cX1_init 1 none :: ([.methodLink RX1 3 objectInit, .instanceMethod objectInit, .code objectInit ⟨#[0xb1]⟩ 1 none, .arrayClass .int, .fieldLink RX1 9 "EchoSeats$Finder" "is" "[I", .fieldLink RX1 15 "EchoSeats$Finder" "js" "[I", .fieldLink RX1 18 "EchoSeats$Finder" "times" "[I", .fieldLink RX1 21 "EchoSeats$Finder" "placeX" "[I", .fieldLink RX1 24 "EchoSeats$Finder" "placeY" "[I", .fieldLink RX1 27 "EchoSeats$Finder" "toldBy" "[I"] ++ wsX10)
def wsX1_addSeen : List Cond := .code yX1_addSeen cX1_addSeen 4 (some .boolean) :: ([.fieldLink RX1 30 "EchoSeats$Finder" "seen" "I", .fieldLink RX1 9 "EchoSeats$Finder" "is" "[I", .fieldLink RX1 15 "EchoSeats$Finder" "js" "[I", .fieldLink RX1 18 "EchoSeats$Finder" "times" "[I"] ++ wsX10)
def wsX1_isPossible_r1 : List Cond := [Cond.fieldLink RX1 30 "EchoSeats$Finder" "seen" "I", Cond.fieldLink RX1 9 "EchoSeats$Finder" "is" "[I", Cond.fieldLink RX1 15 "EchoSeats$Finder" "js" "[I", Cond.fieldLink RX1 18 "EchoSeats$Finder" "times" "[I", Cond.methodLink RX1 49 yX3_waySquared, Cond.instanceMethod yX3_waySquared, Cond.selects RX3 yX3_waySquared yX3_waySquared, Cond.initialized RX3, Cond.code yX3_waySquared cX3_waySquared 5 (some .int), Cond.methodLink RX3 71 yX3_imageX, Cond.instanceMethod yX3_imageX, Cond.selects RX3 yX3_imageX yX3_imageX, Cond.code yX3_imageX cX3_imageX 2 (some .int), Cond.fieldLink RX3 33 "EchoSeats$Scene" "length" "I", Cond.fieldLink RX3 40 "EchoSeats$Scene" "sourceX" "I", Cond.static yX5_mirrored, Cond.initialized RX5, Cond.code yX5_mirrored cX5_mirrored 3 (some .int), Cond.methodLink RX3 75 yX3_imageY, Cond.instanceMethod yX3_imageY, Cond.selects RX3 yX3_imageY yX3_imageY, Cond.code yX3_imageY cX3_imageY 2 (some .int), Cond.fieldLink RX3 37 "EchoSeats$Scene" "breadth" "I", Cond.fieldLink RX3 43 "EchoSeats$Scene" "sourceY" "I"]
def wsX1_isPossible_r2 : List Cond := [Cond.static yX5_squares, Cond.code yX5_squares cX5_squares 2 (some .int), Cond.static yX5_timeOf, Cond.code yX5_timeOf cX5_timeOf 5 (some .int)]
def wsX1_isPossible : List Cond := .code yX1_isPossible cX1_isPossible 5 (some .boolean) :: ((wsX1_isPossible_r1 ++ wsX1_isPossible_r2) ++ wsX10 ++ wsX30)
def wsX1_findPlaces_r1 : List Cond := [Cond.fieldLink RX1 34 "EchoSeats$Finder" "found" "I", Cond.fieldLink RX1 37 "EchoSeats$Scene" "length" "I", Cond.fieldLink RX1 42 "EchoSeats$Scene" "breadth" "I", Cond.fieldLink RX1 21 "EchoSeats$Finder" "placeX" "[I", Cond.fieldLink RX1 24 "EchoSeats$Finder" "placeY" "[I", Cond.methodLink RX1 45 yX1_isPossible, Cond.instanceMethod yX1_isPossible, Cond.selects RX1 yX1_isPossible yX1_isPossible, Cond.initialized RX1, Cond.code yX1_isPossible cX1_isPossible 5 (some .boolean), Cond.fieldLink RX1 30 "EchoSeats$Finder" "seen" "I", Cond.fieldLink RX1 9 "EchoSeats$Finder" "is" "[I", Cond.fieldLink RX1 15 "EchoSeats$Finder" "js" "[I", Cond.fieldLink RX1 18 "EchoSeats$Finder" "times" "[I", Cond.methodLink RX1 49 yX3_waySquared, Cond.instanceMethod yX3_waySquared, Cond.selects RX3 yX3_waySquared yX3_waySquared, Cond.initialized RX3, Cond.code yX3_waySquared cX3_waySquared 5 (some .int), Cond.methodLink RX3 71 yX3_imageX, Cond.instanceMethod yX3_imageX, Cond.selects RX3 yX3_imageX yX3_imageX, Cond.code yX3_imageX cX3_imageX 2 (some .int), Cond.fieldLink RX3 33 "EchoSeats$Scene" "length" "I"]
def wsX1_findPlaces_r2 : List Cond := [Cond.fieldLink RX3 40 "EchoSeats$Scene" "sourceX" "I", Cond.static yX5_mirrored, Cond.initialized RX5, Cond.code yX5_mirrored cX5_mirrored 3 (some .int), Cond.methodLink RX3 75 yX3_imageY, Cond.instanceMethod yX3_imageY, Cond.selects RX3 yX3_imageY yX3_imageY, Cond.code yX3_imageY cX3_imageY 2 (some .int), Cond.fieldLink RX3 37 "EchoSeats$Scene" "breadth" "I", Cond.fieldLink RX3 43 "EchoSeats$Scene" "sourceY" "I", Cond.static yX5_squares, Cond.code yX5_squares cX5_squares 2 (some .int), Cond.static yX5_timeOf, Cond.code yX5_timeOf cX5_timeOf 5 (some .int)]
def wsX1_findPlaces : List Cond := .code yX1_findPlaces cX1_findPlaces 4 none :: ((wsX1_findPlaces_r1 ++ wsX1_findPlaces_r2) ++ wsX10 ++ wsX30)
def wsJ7_fill_53178 : List Cond := .code yJ7_fill_53178 cJ7_fill_53178 4 none :: ([])
def wsX1_unlikeTimes : List Cond := .code yX1_unlikeTimes cX1_unlikeTimes 10 (some .int) :: ([.fieldLink RX1 34 "EchoSeats$Finder" "found" "I", .fieldLink RX1 21 "EchoSeats$Finder" "placeX" "[I", .fieldLink RX1 24 "EchoSeats$Finder" "placeY" "[I", .fieldLink RX1 27 "EchoSeats$Finder" "toldBy" "[I", .methodLink RX1 76 yX3_imageX, .instanceMethod yX3_imageX, .selects RX3 yX3_imageX yX3_imageX, .initialized RX3, .code yX3_imageX cX3_imageX 2 (some .int), .fieldLink RX3 33 "EchoSeats$Scene" "length" "I", .fieldLink RX3 40 "EchoSeats$Scene" "sourceX" "I", .static yX5_mirrored, .initialized RX5, .code yX5_mirrored cX5_mirrored 3 (some .int), .methodLink RX1 79 yX3_imageY, .instanceMethod yX3_imageY, .selects RX3 yX3_imageY yX3_imageY, .code yX3_imageY cX3_imageY 2 (some .int), .fieldLink RX3 37 "EchoSeats$Scene" "breadth" "I", .fieldLink RX3 43 "EchoSeats$Scene" "sourceY" "I", .static yX5_squares, .code yX5_squares cX5_squares 2 (some .int), .static yX5_timeOf, .code yX5_timeOf cX5_timeOf 5 (some .int)] ++ wsX10 ++ wsX30)
def wsX5_imageCode : List Cond := .code yX5_imageCode cX5_imageCode 2 (some .int) :: ([])
def wsX1_tellingImage_r1 : List Cond := [Cond.fieldLink RX1 27 "EchoSeats$Finder" "toldBy" "[I", Cond.methodLink RX1 63 Lib.Math.abs.name, Cond.static Lib.Math.abs.name, Cond.initialized "java/lang/Math", Cond.code Lib.Math.abs.name Lib.Math.abs.code 1 (some .int), Cond.methodLink RX1 57 yJ7_fill_53178, Cond.static yJ7_fill_53178, Cond.initialized RJ7, Cond.code yJ7_fill_53178 cJ7_fill_53178 4 none, Cond.methodLink RX1 68 yX1_unlikeTimes, Cond.instanceMethod yX1_unlikeTimes, Cond.selects RX1 yX1_unlikeTimes yX1_unlikeTimes, Cond.initialized RX1, Cond.code yX1_unlikeTimes cX1_unlikeTimes 10 (some .int), Cond.fieldLink RX1 34 "EchoSeats$Finder" "found" "I", Cond.fieldLink RX1 21 "EchoSeats$Finder" "placeX" "[I", Cond.fieldLink RX1 24 "EchoSeats$Finder" "placeY" "[I", Cond.methodLink RX1 76 yX3_imageX, Cond.instanceMethod yX3_imageX, Cond.selects RX3 yX3_imageX yX3_imageX, Cond.initialized RX3, Cond.code yX3_imageX cX3_imageX 2 (some .int), Cond.fieldLink RX3 33 "EchoSeats$Scene" "length" "I", Cond.fieldLink RX3 40 "EchoSeats$Scene" "sourceX" "I"]
def wsX1_tellingImage_r2 : List Cond := [Cond.static yX5_mirrored, Cond.initialized RX5, Cond.code yX5_mirrored cX5_mirrored 3 (some .int), Cond.methodLink RX1 79 yX3_imageY, Cond.instanceMethod yX3_imageY, Cond.selects RX3 yX3_imageY yX3_imageY, Cond.code yX3_imageY cX3_imageY 2 (some .int), Cond.fieldLink RX3 37 "EchoSeats$Scene" "breadth" "I", Cond.fieldLink RX3 43 "EchoSeats$Scene" "sourceY" "I", Cond.static yX5_squares, Cond.code yX5_squares cX5_squares 2 (some .int), Cond.static yX5_timeOf, Cond.code yX5_timeOf cX5_timeOf 5 (some .int), Cond.static yX5_imageCode, Cond.code yX5_imageCode cX5_imageCode 2 (some .int)]
def wsX1_tellingImage : List Cond := .code yX1_tellingImage cX1_tellingImage 9 (some .int) :: ((wsX1_tellingImage_r1 ++ wsX1_tellingImage_r2) ++ wsX10 ++ wsX30)
def wsX2_init : List Cond := .code yX2_init cX2_init 1 none :: ([.methodLink RX2 3 objectInit, .instanceMethod objectInit, .code objectInit ⟨#[0xb1]⟩ 1 none, .arrayClass .int, .fieldLink RX2 9 "EchoSeats$Past" "kinds" "[I", .fieldLink RX2 15 "EchoSeats$Past" "which" "[I", .fieldLink RX2 18 "EchoSeats$Past" "firsts" "[I", .fieldLink RX2 21 "EchoSeats$Past" "seconds" "[I"] ++ wsX20)
def wsX2_loseOldest : List Cond := .code yX2_loseOldest cX2_loseOldest 1 none :: ([.fieldLink RX2 24 "EchoSeats$Past" "size" "I", .fieldLink RX2 9 "EchoSeats$Past" "kinds" "[I", .methodLink RX2 31 arraycopyName, .native arraycopyName, .static arraycopyName, .initialized "java/lang/System", .fieldLink RX2 15 "EchoSeats$Past" "which" "[I", .fieldLink RX2 18 "EchoSeats$Past" "firsts" "[I", .fieldLink RX2 21 "EchoSeats$Past" "seconds" "[I"] ++ wsX20)
def wsX2_add : List Cond := .code yX2_add cX2_add 5 none :: ([.fieldLink RX2 24 "EchoSeats$Past" "size" "I", .fieldLink RX2 9 "EchoSeats$Past" "kinds" "[I", .fieldLink RX2 15 "EchoSeats$Past" "which" "[I", .fieldLink RX2 18 "EchoSeats$Past" "firsts" "[I", .fieldLink RX2 21 "EchoSeats$Past" "seconds" "[I", .methodLink RX2 28 yX2_loseOldest, .instanceMethod yX2_loseOldest, .selects RX2 yX2_loseOldest yX2_loseOldest, .initialized RX2, .code yX2_loseOldest cX2_loseOldest 1 none, .methodLink RX2 31 arraycopyName, .native arraycopyName, .static arraycopyName, .initialized "java/lang/System"] ++ wsX20)
def wsX2_takeBackIn : List Cond := .code yX2_takeBackIn cX2_takeBackIn 3 none :: ([.fieldLink RX2 24 "EchoSeats$Past" "size" "I", .fieldLink RX2 15 "EchoSeats$Past" "which" "[I", .fieldLink RX2 9 "EchoSeats$Past" "kinds" "[I", .fieldLink RX2 37 "EchoSeats$Scene" "swallows" "[I", .fieldLink RX2 18 "EchoSeats$Past" "firsts" "[I", .fieldLink RX2 42 "EchoSeats$Scene" "curtainFrom" "[I", .fieldLink RX2 45 "EchoSeats$Scene" "curtainTo" "[I", .fieldLink RX2 21 "EchoSeats$Past" "seconds" "[I", .fieldLink RX2 48 "EchoSeats$Scene" "sourceX" "I", .fieldLink RX2 51 "EchoSeats$Scene" "sourceY" "I"] ++ wsX20 ++ wsX30)
def wsX3_beAsAtFirst : List Cond := .code yX3_beAsAtFirst cX3_beAsAtFirst 1 none :: ([.fieldLink RX3 33 "EchoSeats$Scene" "length" "I", .fieldLink RX3 37 "EchoSeats$Scene" "breadth" "I", .fieldLink RX3 40 "EchoSeats$Scene" "sourceX" "I", .fieldLink RX3 43 "EchoSeats$Scene" "sourceY" "I", .fieldLink RX3 46 "EchoSeats$Scene" "seats" "I", .fieldLink RX3 49 "EchoSeats$Scene" "curtains" "I", .fieldLink RX3 9 "EchoSeats$Scene" "swallows" "[I", .methodLink RX3 52 yJ7_fill_53178, .static yJ7_fill_53178, .initialized RJ7, .code yJ7_fill_53178 cJ7_fill_53178 4 none] ++ wsX30)
def wsX3_init_r1 : List Cond := [Cond.methodLink RX3 3 objectInit, Cond.instanceMethod objectInit, Cond.code objectInit ⟨#[0xb1]⟩ 1 none, Cond.arrayClass .int, Cond.fieldLink RX3 9 "EchoSeats$Scene" "swallows" "[I", Cond.fieldLink RX3 15 "EchoSeats$Scene" "seatX" "[I", Cond.fieldLink RX3 18 "EchoSeats$Scene" "seatY" "[I", Cond.fieldLink RX3 21 "EchoSeats$Scene" "curtainX" "[I", Cond.fieldLink RX3 24 "EchoSeats$Scene" "curtainFrom" "[I", Cond.fieldLink RX3 27 "EchoSeats$Scene" "curtainTo" "[I", Cond.methodLink RX3 30 yX3_beAsAtFirst, Cond.instanceMethod yX3_beAsAtFirst, Cond.selects RX3 yX3_beAsAtFirst yX3_beAsAtFirst, Cond.initialized RX3, Cond.code yX3_beAsAtFirst cX3_beAsAtFirst 1 none, Cond.fieldLink RX3 33 "EchoSeats$Scene" "length" "I", Cond.fieldLink RX3 37 "EchoSeats$Scene" "breadth" "I", Cond.fieldLink RX3 40 "EchoSeats$Scene" "sourceX" "I", Cond.fieldLink RX3 43 "EchoSeats$Scene" "sourceY" "I", Cond.fieldLink RX3 46 "EchoSeats$Scene" "seats" "I", Cond.fieldLink RX3 49 "EchoSeats$Scene" "curtains" "I", Cond.methodLink RX3 52 yJ7_fill_53178, Cond.static yJ7_fill_53178, Cond.initialized RJ7]
def wsX3_init_r2 : List Cond := [Cond.code yJ7_fill_53178 cJ7_fill_53178 4 none]
def wsX3_init : List Cond := .code yX3_init cX3_init 1 none :: ((wsX3_init_r1 ++ wsX3_init_r2) ++ wsX30)
def wsX3_copyFrom : List Cond := .code yX3_copyFrom cX3_copyFrom 2 none :: ([.fieldLink RX3 33 "EchoSeats$Scene" "length" "I", .fieldLink RX3 37 "EchoSeats$Scene" "breadth" "I", .fieldLink RX3 40 "EchoSeats$Scene" "sourceX" "I", .fieldLink RX3 43 "EchoSeats$Scene" "sourceY" "I", .fieldLink RX3 46 "EchoSeats$Scene" "seats" "I", .fieldLink RX3 49 "EchoSeats$Scene" "curtains" "I", .fieldLink RX3 9 "EchoSeats$Scene" "swallows" "[I", .methodLink RX3 58 arraycopyName, .native arraycopyName, .static arraycopyName, .initialized "java/lang/System", .fieldLink RX3 15 "EchoSeats$Scene" "seatX" "[I", .fieldLink RX3 18 "EchoSeats$Scene" "seatY" "[I", .fieldLink RX3 21 "EchoSeats$Scene" "curtainX" "[I", .fieldLink RX3 24 "EchoSeats$Scene" "curtainFrom" "[I", .fieldLink RX3 27 "EchoSeats$Scene" "curtainTo" "[I"] ++ wsX30)
def wsX3_hasCurtain : List Cond := .code yX3_hasCurtain cX3_hasCurtain 2 (some .boolean) :: ([.fieldLink RX3 49 "EchoSeats$Scene" "curtains" "I"] ++ wsX30)
def wsX3_sourceCode : List Cond := .code yX3_sourceCode cX3_sourceCode 1 (some .int) :: ([.fieldLink RX3 40 "EchoSeats$Scene" "sourceX" "I", .fieldLink RX3 43 "EchoSeats$Scene" "sourceY" "I"] ++ wsX30)
def wsX3_softPasses : List Cond := .code yX3_softPasses cX3_softPasses 5 (some .int) :: ([.fieldLink RX3 9 "EchoSeats$Scene" "swallows" "[I", .static yX5_passes, .initialized RX5, .code yX5_passes cX5_passes 3 (some .int), .methodLink RX5 237 yX5_farPasses, .static yX5_farPasses, .code yX5_farPasses cX5_farPasses 1 (some .int)] ++ wsX30)
def wsX4_init : List Cond := .code yX4_init cX4_init 1 none :: ([.methodLink RX4 3 objectInit, .instanceMethod objectInit, .code objectInit ⟨#[0xb1]⟩ 1 none, .arrayClass .int, .fieldLink RX4 9 "EchoSeats$Text" "letters" "[I"] ++ wsX40)
def wsX4_append : List Cond := .code yX4_append cX4_append 2 (some .boolean) :: ([.fieldLink RX4 15 "EchoSeats$Text" "size" "I", .fieldLink RX4 9 "EchoSeats$Text" "letters" "[I"] ++ wsX40)
def wsX4_isFigure : List Cond := .code yX4_isFigure cX4_isFigure 1 (some .boolean) :: ([])
def wsX4_takeFigures : List Cond := .code yX4_takeFigures cX4_takeFigures 2 none :: ([.fieldLink RX4 70 "EchoSeats$Text" "number" "I", .fieldLink RX4 24 "EchoSeats$Text" "next" "I", .fieldLink RX4 15 "EchoSeats$Text" "size" "I", .fieldLink RX4 9 "EchoSeats$Text" "letters" "[I", .methodLink RX4 114 Lib.Math.min.name, .static Lib.Math.min.name, .initialized "java/lang/Math", .code Lib.Math.min.name Lib.Math.min.code 2 (some .int), .fieldLink RX4 41 "EchoSeats$Text" "start" "I", .fieldLink RX4 30 "EchoSeats$Text" "token" "I", .methodLink RX4 107 yX4_isFigure, .static yX4_isFigure, .initialized RX4, .code yX4_isFigure cX4_isFigure 1 (some .boolean)] ++ wsX40)
def wsX4_nextToken : List Cond := .code yX4_nextToken cX4_nextToken 1 none :: ([.fieldLink RX4 24 "EchoSeats$Text" "next" "I", .fieldLink RX4 15 "EchoSeats$Text" "size" "I", .fieldLink RX4 9 "EchoSeats$Text" "letters" "[I", .fieldLink RX4 41 "EchoSeats$Text" "start" "I", .fieldLink RX4 30 "EchoSeats$Text" "token" "I", .methodLink RX4 107 yX4_isFigure, .static yX4_isFigure, .initialized RX4, .code yX4_isFigure cX4_isFigure 1 (some .boolean), .methodLink RX4 111 yX4_takeFigures, .instanceMethod yX4_takeFigures, .selects RX4 yX4_takeFigures yX4_takeFigures, .code yX4_takeFigures cX4_takeFigures 2 none, .fieldLink RX4 70 "EchoSeats$Text" "number" "I", .methodLink RX4 114 Lib.Math.min.name, .static Lib.Math.min.name, .initialized "java/lang/Math", .code Lib.Math.min.name Lib.Math.min.code 2 (some .int)] ++ wsX40)
def wsX5_isWithin : List Cond := .code yX5_isWithin cX5_isWithin 3 (some .boolean) :: ([])
def wsX4_readNumber_r1 : List Cond := [Cond.fieldLink RX4 30 "EchoSeats$Text" "token" "I", Cond.fieldLink RX4 70 "EchoSeats$Text" "number" "I", Cond.methodLink RX4 27 yX4_nextToken, Cond.instanceMethod yX4_nextToken, Cond.selects RX4 yX4_nextToken yX4_nextToken, Cond.initialized RX4, Cond.code yX4_nextToken cX4_nextToken 1 none, Cond.fieldLink RX4 24 "EchoSeats$Text" "next" "I", Cond.fieldLink RX4 15 "EchoSeats$Text" "size" "I", Cond.fieldLink RX4 9 "EchoSeats$Text" "letters" "[I", Cond.fieldLink RX4 41 "EchoSeats$Text" "start" "I", Cond.methodLink RX4 107 yX4_isFigure, Cond.static yX4_isFigure, Cond.code yX4_isFigure cX4_isFigure 1 (some .boolean), Cond.methodLink RX4 111 yX4_takeFigures, Cond.instanceMethod yX4_takeFigures, Cond.selects RX4 yX4_takeFigures yX4_takeFigures, Cond.code yX4_takeFigures cX4_takeFigures 2 none, Cond.methodLink RX4 114 Lib.Math.min.name, Cond.static Lib.Math.min.name, Cond.initialized "java/lang/Math", Cond.code Lib.Math.min.name Lib.Math.min.code 2 (some .int), Cond.static yX5_isWithin, Cond.initialized RX5]
def wsX4_readNumber_r2 : List Cond := [Cond.code yX5_isWithin cX5_isWithin 3 (some .boolean)]
def wsX4_readNumber : List Cond := .code yX4_readNumber cX4_readNumber 3 (some .boolean) :: ((wsX4_readNumber_r1 ++ wsX4_readNumber_r2) ++ wsX40)
def wsX4_readSides_r1 : List Cond := [Cond.fieldLink RX4 70 "EchoSeats$Text" "number" "I", Cond.fieldLink RX4 73 "EchoSeats$Scene" "length" "I", Cond.fieldLink RX4 76 "EchoSeats$Scene" "breadth" "I", Cond.methodLink RX4 66 yX4_readNumber, Cond.instanceMethod yX4_readNumber, Cond.selects RX4 yX4_readNumber yX4_readNumber, Cond.initialized RX4, Cond.code yX4_readNumber cX4_readNumber 3 (some .boolean), Cond.fieldLink RX4 30 "EchoSeats$Text" "token" "I", Cond.methodLink RX4 27 yX4_nextToken, Cond.instanceMethod yX4_nextToken, Cond.selects RX4 yX4_nextToken yX4_nextToken, Cond.code yX4_nextToken cX4_nextToken 1 none, Cond.fieldLink RX4 24 "EchoSeats$Text" "next" "I", Cond.fieldLink RX4 15 "EchoSeats$Text" "size" "I", Cond.fieldLink RX4 9 "EchoSeats$Text" "letters" "[I", Cond.fieldLink RX4 41 "EchoSeats$Text" "start" "I", Cond.methodLink RX4 107 yX4_isFigure, Cond.static yX4_isFigure, Cond.code yX4_isFigure cX4_isFigure 1 (some .boolean), Cond.methodLink RX4 111 yX4_takeFigures, Cond.instanceMethod yX4_takeFigures, Cond.selects RX4 yX4_takeFigures yX4_takeFigures, Cond.code yX4_takeFigures cX4_takeFigures 2 none]
def wsX4_readSides_r2 : List Cond := [Cond.methodLink RX4 114 Lib.Math.min.name, Cond.static Lib.Math.min.name, Cond.initialized "java/lang/Math", Cond.code Lib.Math.min.name Lib.Math.min.code 2 (some .int), Cond.static yX5_isWithin, Cond.initialized RX5, Cond.code yX5_isWithin cX5_isWithin 3 (some .boolean)]
def wsX4_readSides : List Cond := .code yX4_readSides cX4_readSides 2 (some .boolean) :: ((wsX4_readSides_r1 ++ wsX4_readSides_r2) ++ wsX40 ++ wsX30)
def wsX4_readSwallows_r1 : List Cond := [Cond.fieldLink RX4 70 "EchoSeats$Text" "number" "I", Cond.fieldLink RX4 79 "EchoSeats$Scene" "swallows" "[I", Cond.methodLink RX4 66 yX4_readNumber, Cond.instanceMethod yX4_readNumber, Cond.selects RX4 yX4_readNumber yX4_readNumber, Cond.initialized RX4, Cond.code yX4_readNumber cX4_readNumber 3 (some .boolean), Cond.fieldLink RX4 30 "EchoSeats$Text" "token" "I", Cond.methodLink RX4 27 yX4_nextToken, Cond.instanceMethod yX4_nextToken, Cond.selects RX4 yX4_nextToken yX4_nextToken, Cond.code yX4_nextToken cX4_nextToken 1 none, Cond.fieldLink RX4 24 "EchoSeats$Text" "next" "I", Cond.fieldLink RX4 15 "EchoSeats$Text" "size" "I", Cond.fieldLink RX4 9 "EchoSeats$Text" "letters" "[I", Cond.fieldLink RX4 41 "EchoSeats$Text" "start" "I", Cond.methodLink RX4 107 yX4_isFigure, Cond.static yX4_isFigure, Cond.code yX4_isFigure cX4_isFigure 1 (some .boolean), Cond.methodLink RX4 111 yX4_takeFigures, Cond.instanceMethod yX4_takeFigures, Cond.selects RX4 yX4_takeFigures yX4_takeFigures, Cond.code yX4_takeFigures cX4_takeFigures 2 none, Cond.methodLink RX4 114 Lib.Math.min.name]
def wsX4_readSwallows_r2 : List Cond := [Cond.static Lib.Math.min.name, Cond.initialized "java/lang/Math", Cond.code Lib.Math.min.name Lib.Math.min.code 2 (some .int), Cond.static yX5_isWithin, Cond.initialized RX5, Cond.code yX5_isWithin cX5_isWithin 3 (some .boolean)]
def wsX4_readSwallows : List Cond := .code yX4_readSwallows cX4_readSwallows 3 (some .boolean) :: ((wsX4_readSwallows_r1 ++ wsX4_readSwallows_r2) ++ wsX40 ++ wsX30)
def wsX4_readSource_r1 : List Cond := [Cond.fieldLink RX4 73 "EchoSeats$Scene" "length" "I", Cond.fieldLink RX4 70 "EchoSeats$Text" "number" "I", Cond.fieldLink RX4 82 "EchoSeats$Scene" "sourceX" "I", Cond.fieldLink RX4 76 "EchoSeats$Scene" "breadth" "I", Cond.fieldLink RX4 85 "EchoSeats$Scene" "sourceY" "I", Cond.methodLink RX4 66 yX4_readNumber, Cond.instanceMethod yX4_readNumber, Cond.selects RX4 yX4_readNumber yX4_readNumber, Cond.initialized RX4, Cond.code yX4_readNumber cX4_readNumber 3 (some .boolean), Cond.fieldLink RX4 30 "EchoSeats$Text" "token" "I", Cond.methodLink RX4 27 yX4_nextToken, Cond.instanceMethod yX4_nextToken, Cond.selects RX4 yX4_nextToken yX4_nextToken, Cond.code yX4_nextToken cX4_nextToken 1 none, Cond.fieldLink RX4 24 "EchoSeats$Text" "next" "I", Cond.fieldLink RX4 15 "EchoSeats$Text" "size" "I", Cond.fieldLink RX4 9 "EchoSeats$Text" "letters" "[I", Cond.fieldLink RX4 41 "EchoSeats$Text" "start" "I", Cond.methodLink RX4 107 yX4_isFigure, Cond.static yX4_isFigure, Cond.code yX4_isFigure cX4_isFigure 1 (some .boolean), Cond.methodLink RX4 111 yX4_takeFigures, Cond.instanceMethod yX4_takeFigures]
def wsX4_readSource_r2 : List Cond := [Cond.selects RX4 yX4_takeFigures yX4_takeFigures, Cond.code yX4_takeFigures cX4_takeFigures 2 none, Cond.methodLink RX4 114 Lib.Math.min.name, Cond.static Lib.Math.min.name, Cond.initialized "java/lang/Math", Cond.code Lib.Math.min.name Lib.Math.min.code 2 (some .int), Cond.static yX5_isWithin, Cond.initialized RX5, Cond.code yX5_isWithin cX5_isWithin 3 (some .boolean)]
def wsX4_readSource : List Cond := .code yX4_readSource cX4_readSource 2 (some .boolean) :: ((wsX4_readSource_r1 ++ wsX4_readSource_r2) ++ wsX30 ++ wsX40)
def wsX4_readSeat_r1 : List Cond := [Cond.fieldLink RX4 73 "EchoSeats$Scene" "length" "I", Cond.fieldLink RX4 88 "EchoSeats$Scene" "seatX" "[I", Cond.fieldLink RX4 54 "EchoSeats$Scene" "seats" "I", Cond.fieldLink RX4 70 "EchoSeats$Text" "number" "I", Cond.fieldLink RX4 76 "EchoSeats$Scene" "breadth" "I", Cond.fieldLink RX4 91 "EchoSeats$Scene" "seatY" "[I", Cond.methodLink RX4 66 yX4_readNumber, Cond.instanceMethod yX4_readNumber, Cond.selects RX4 yX4_readNumber yX4_readNumber, Cond.initialized RX4, Cond.code yX4_readNumber cX4_readNumber 3 (some .boolean), Cond.fieldLink RX4 30 "EchoSeats$Text" "token" "I", Cond.methodLink RX4 27 yX4_nextToken, Cond.instanceMethod yX4_nextToken, Cond.selects RX4 yX4_nextToken yX4_nextToken, Cond.code yX4_nextToken cX4_nextToken 1 none, Cond.fieldLink RX4 24 "EchoSeats$Text" "next" "I", Cond.fieldLink RX4 15 "EchoSeats$Text" "size" "I", Cond.fieldLink RX4 9 "EchoSeats$Text" "letters" "[I", Cond.fieldLink RX4 41 "EchoSeats$Text" "start" "I", Cond.methodLink RX4 107 yX4_isFigure, Cond.static yX4_isFigure, Cond.code yX4_isFigure cX4_isFigure 1 (some .boolean), Cond.methodLink RX4 111 yX4_takeFigures]
def wsX4_readSeat_r2 : List Cond := [Cond.instanceMethod yX4_takeFigures, Cond.selects RX4 yX4_takeFigures yX4_takeFigures, Cond.code yX4_takeFigures cX4_takeFigures 2 none, Cond.methodLink RX4 114 Lib.Math.min.name, Cond.static Lib.Math.min.name, Cond.initialized "java/lang/Math", Cond.code Lib.Math.min.name Lib.Math.min.code 2 (some .int), Cond.static yX5_isWithin, Cond.initialized RX5, Cond.code yX5_isWithin cX5_isWithin 3 (some .boolean)]
def wsX4_readSeat : List Cond := .code yX4_readSeat cX4_readSeat 2 (some .boolean) :: ((wsX4_readSeat_r1 ++ wsX4_readSeat_r2) ++ wsX30 ++ wsX40)
def wsX4_readCurtain_r1 : List Cond := [Cond.fieldLink RX4 60 "EchoSeats$Scene" "curtains" "I", Cond.fieldLink RX4 73 "EchoSeats$Scene" "length" "I", Cond.fieldLink RX4 94 "EchoSeats$Scene" "curtainX" "[I", Cond.fieldLink RX4 70 "EchoSeats$Text" "number" "I", Cond.fieldLink RX4 76 "EchoSeats$Scene" "breadth" "I", Cond.fieldLink RX4 97 "EchoSeats$Scene" "curtainFrom" "[I", Cond.fieldLink RX4 100 "EchoSeats$Scene" "curtainTo" "[I", Cond.methodLink RX4 66 yX4_readNumber, Cond.instanceMethod yX4_readNumber, Cond.selects RX4 yX4_readNumber yX4_readNumber, Cond.initialized RX4, Cond.code yX4_readNumber cX4_readNumber 3 (some .boolean), Cond.fieldLink RX4 30 "EchoSeats$Text" "token" "I", Cond.methodLink RX4 27 yX4_nextToken, Cond.instanceMethod yX4_nextToken, Cond.selects RX4 yX4_nextToken yX4_nextToken, Cond.code yX4_nextToken cX4_nextToken 1 none, Cond.fieldLink RX4 24 "EchoSeats$Text" "next" "I", Cond.fieldLink RX4 15 "EchoSeats$Text" "size" "I", Cond.fieldLink RX4 9 "EchoSeats$Text" "letters" "[I", Cond.fieldLink RX4 41 "EchoSeats$Text" "start" "I", Cond.methodLink RX4 107 yX4_isFigure, Cond.static yX4_isFigure, Cond.code yX4_isFigure cX4_isFigure 1 (some .boolean)]
def wsX4_readCurtain_r2 : List Cond := [Cond.methodLink RX4 111 yX4_takeFigures, Cond.instanceMethod yX4_takeFigures, Cond.selects RX4 yX4_takeFigures yX4_takeFigures, Cond.code yX4_takeFigures cX4_takeFigures 2 none, Cond.methodLink RX4 114 Lib.Math.min.name, Cond.static Lib.Math.min.name, Cond.initialized "java/lang/Math", Cond.code Lib.Math.min.name Lib.Math.min.code 2 (some .int), Cond.static yX5_isWithin, Cond.initialized RX5, Cond.code yX5_isWithin cX5_isWithin 3 (some .boolean)]
def wsX4_readCurtain : List Cond := .code yX4_readCurtain cX4_readCurtain 3 (some .boolean) :: ((wsX4_readCurtain_r1 ++ wsX4_readCurtain_r2) ++ wsX30 ++ wsX40)
def wsX4_readItem_r1 : List Cond := [Cond.fieldLink RX4 30 "EchoSeats$Text" "token" "I", Cond.fieldLink RX4 54 "EchoSeats$Scene" "seats" "I", Cond.fieldLink RX4 60 "EchoSeats$Scene" "curtains" "I", Cond.methodLink RX4 44 yX4_readSides, Cond.instanceMethod yX4_readSides, Cond.selects RX4 yX4_readSides yX4_readSides, Cond.initialized RX4, Cond.code yX4_readSides cX4_readSides 2 (some .boolean), Cond.fieldLink RX4 70 "EchoSeats$Text" "number" "I", Cond.fieldLink RX4 73 "EchoSeats$Scene" "length" "I", Cond.fieldLink RX4 76 "EchoSeats$Scene" "breadth" "I", Cond.methodLink RX4 66 yX4_readNumber, Cond.instanceMethod yX4_readNumber, Cond.selects RX4 yX4_readNumber yX4_readNumber, Cond.code yX4_readNumber cX4_readNumber 3 (some .boolean), Cond.methodLink RX4 27 yX4_nextToken, Cond.instanceMethod yX4_nextToken, Cond.selects RX4 yX4_nextToken yX4_nextToken, Cond.code yX4_nextToken cX4_nextToken 1 none, Cond.fieldLink RX4 24 "EchoSeats$Text" "next" "I", Cond.fieldLink RX4 15 "EchoSeats$Text" "size" "I", Cond.fieldLink RX4 9 "EchoSeats$Text" "letters" "[I", Cond.fieldLink RX4 41 "EchoSeats$Text" "start" "I", Cond.methodLink RX4 107 yX4_isFigure]
def wsX4_readItem_r2 : List Cond := [Cond.static yX4_isFigure, Cond.code yX4_isFigure cX4_isFigure 1 (some .boolean), Cond.methodLink RX4 111 yX4_takeFigures, Cond.instanceMethod yX4_takeFigures, Cond.selects RX4 yX4_takeFigures yX4_takeFigures, Cond.code yX4_takeFigures cX4_takeFigures 2 none, Cond.methodLink RX4 114 Lib.Math.min.name, Cond.static Lib.Math.min.name, Cond.initialized "java/lang/Math", Cond.code Lib.Math.min.name Lib.Math.min.code 2 (some .int), Cond.static yX5_isWithin, Cond.initialized RX5, Cond.code yX5_isWithin cX5_isWithin 3 (some .boolean), Cond.methodLink RX4 48 yX4_readSwallows, Cond.instanceMethod yX4_readSwallows, Cond.selects RX4 yX4_readSwallows yX4_readSwallows, Cond.code yX4_readSwallows cX4_readSwallows 3 (some .boolean), Cond.fieldLink RX4 79 "EchoSeats$Scene" "swallows" "[I", Cond.methodLink RX4 51 yX4_readSource, Cond.instanceMethod yX4_readSource, Cond.selects RX4 yX4_readSource yX4_readSource, Cond.code yX4_readSource cX4_readSource 2 (some .boolean), Cond.fieldLink RX4 82 "EchoSeats$Scene" "sourceX" "I", Cond.fieldLink RX4 85 "EchoSeats$Scene" "sourceY" "I"]
def wsX4_readItem_r3 : List Cond := [Cond.methodLink RX4 57 yX4_readSeat, Cond.instanceMethod yX4_readSeat, Cond.selects RX4 yX4_readSeat yX4_readSeat, Cond.code yX4_readSeat cX4_readSeat 2 (some .boolean), Cond.fieldLink RX4 88 "EchoSeats$Scene" "seatX" "[I", Cond.fieldLink RX4 91 "EchoSeats$Scene" "seatY" "[I", Cond.methodLink RX4 63 yX4_readCurtain, Cond.instanceMethod yX4_readCurtain, Cond.selects RX4 yX4_readCurtain yX4_readCurtain, Cond.code yX4_readCurtain cX4_readCurtain 3 (some .boolean), Cond.fieldLink RX4 94 "EchoSeats$Scene" "curtainX" "[I", Cond.fieldLink RX4 97 "EchoSeats$Scene" "curtainFrom" "[I", Cond.fieldLink RX4 100 "EchoSeats$Scene" "curtainTo" "[I"]
def wsX4_readItem : List Cond := .code yX4_readItem cX4_readItem 3 (some .boolean) :: ((wsX4_readItem_r1 ++ (wsX4_readItem_r2 ++ wsX4_readItem_r3)) ++ wsX40 ++ wsX30)
def wsX4_readEnd : List Cond := .code yX4_readEnd cX4_readEnd 1 (some .boolean) :: ([.fieldLink RX4 30 "EchoSeats$Text" "token" "I", .methodLink RX4 27 yX4_nextToken, .instanceMethod yX4_nextToken, .selects RX4 yX4_nextToken yX4_nextToken, .initialized RX4, .code yX4_nextToken cX4_nextToken 1 none, .fieldLink RX4 24 "EchoSeats$Text" "next" "I", .fieldLink RX4 15 "EchoSeats$Text" "size" "I", .fieldLink RX4 9 "EchoSeats$Text" "letters" "[I", .fieldLink RX4 41 "EchoSeats$Text" "start" "I", .methodLink RX4 107 yX4_isFigure, .static yX4_isFigure, .code yX4_isFigure cX4_isFigure 1 (some .boolean), .methodLink RX4 111 yX4_takeFigures, .instanceMethod yX4_takeFigures, .selects RX4 yX4_takeFigures yX4_takeFigures, .code yX4_takeFigures cX4_takeFigures 2 none, .fieldLink RX4 70 "EchoSeats$Text" "number" "I", .methodLink RX4 114 Lib.Math.min.name, .static Lib.Math.min.name, .initialized "java/lang/Math", .code Lib.Math.min.name Lib.Math.min.code 2 (some .int)] ++ wsX40)
def wsX4_readInto_r1 : List Cond := [Cond.fieldLink RX4 24 "EchoSeats$Text" "next" "I", Cond.fieldLink RX4 30 "EchoSeats$Text" "token" "I", Cond.fieldLink RX4 41 "EchoSeats$Text" "start" "I", Cond.methodLink RX4 19 yX3_beAsAtFirst, Cond.instanceMethod yX3_beAsAtFirst, Cond.selects RX3 yX3_beAsAtFirst yX3_beAsAtFirst, Cond.initialized RX3, Cond.code yX3_beAsAtFirst cX3_beAsAtFirst 1 none, Cond.fieldLink RX3 33 "EchoSeats$Scene" "length" "I", Cond.fieldLink RX3 37 "EchoSeats$Scene" "breadth" "I", Cond.fieldLink RX3 40 "EchoSeats$Scene" "sourceX" "I", Cond.fieldLink RX3 43 "EchoSeats$Scene" "sourceY" "I", Cond.fieldLink RX3 46 "EchoSeats$Scene" "seats" "I", Cond.fieldLink RX3 49 "EchoSeats$Scene" "curtains" "I", Cond.fieldLink RX3 9 "EchoSeats$Scene" "swallows" "[I", Cond.methodLink RX3 52 yJ7_fill_53178, Cond.static yJ7_fill_53178, Cond.initialized RJ7, Cond.code yJ7_fill_53178 cJ7_fill_53178 4 none, Cond.methodLink RX4 27 yX4_nextToken, Cond.instanceMethod yX4_nextToken, Cond.selects RX4 yX4_nextToken yX4_nextToken, Cond.initialized RX4, Cond.code yX4_nextToken cX4_nextToken 1 none]
def wsX4_readInto_r2 : List Cond := [Cond.fieldLink RX4 15 "EchoSeats$Text" "size" "I", Cond.fieldLink RX4 9 "EchoSeats$Text" "letters" "[I", Cond.methodLink RX4 107 yX4_isFigure, Cond.static yX4_isFigure, Cond.code yX4_isFigure cX4_isFigure 1 (some .boolean), Cond.methodLink RX4 111 yX4_takeFigures, Cond.instanceMethod yX4_takeFigures, Cond.selects RX4 yX4_takeFigures yX4_takeFigures, Cond.code yX4_takeFigures cX4_takeFigures 2 none, Cond.fieldLink RX4 70 "EchoSeats$Text" "number" "I", Cond.methodLink RX4 114 Lib.Math.min.name, Cond.static Lib.Math.min.name, Cond.initialized "java/lang/Math", Cond.code Lib.Math.min.name Lib.Math.min.code 2 (some .int), Cond.methodLink RX4 33 yX4_readItem, Cond.instanceMethod yX4_readItem, Cond.selects RX4 yX4_readItem yX4_readItem, Cond.code yX4_readItem cX4_readItem 3 (some .boolean), Cond.fieldLink RX4 54 "EchoSeats$Scene" "seats" "I", Cond.fieldLink RX4 60 "EchoSeats$Scene" "curtains" "I", Cond.methodLink RX4 44 yX4_readSides, Cond.instanceMethod yX4_readSides, Cond.selects RX4 yX4_readSides yX4_readSides, Cond.code yX4_readSides cX4_readSides 2 (some .boolean)]
def wsX4_readInto_r3 : List Cond := [Cond.fieldLink RX4 73 "EchoSeats$Scene" "length" "I", Cond.fieldLink RX4 76 "EchoSeats$Scene" "breadth" "I", Cond.methodLink RX4 66 yX4_readNumber, Cond.instanceMethod yX4_readNumber, Cond.selects RX4 yX4_readNumber yX4_readNumber, Cond.code yX4_readNumber cX4_readNumber 3 (some .boolean), Cond.static yX5_isWithin, Cond.initialized RX5, Cond.code yX5_isWithin cX5_isWithin 3 (some .boolean), Cond.methodLink RX4 48 yX4_readSwallows, Cond.instanceMethod yX4_readSwallows, Cond.selects RX4 yX4_readSwallows yX4_readSwallows, Cond.code yX4_readSwallows cX4_readSwallows 3 (some .boolean), Cond.fieldLink RX4 79 "EchoSeats$Scene" "swallows" "[I", Cond.methodLink RX4 51 yX4_readSource, Cond.instanceMethod yX4_readSource, Cond.selects RX4 yX4_readSource yX4_readSource, Cond.code yX4_readSource cX4_readSource 2 (some .boolean), Cond.fieldLink RX4 82 "EchoSeats$Scene" "sourceX" "I", Cond.fieldLink RX4 85 "EchoSeats$Scene" "sourceY" "I", Cond.methodLink RX4 57 yX4_readSeat, Cond.instanceMethod yX4_readSeat, Cond.selects RX4 yX4_readSeat yX4_readSeat, Cond.code yX4_readSeat cX4_readSeat 2 (some .boolean)]
def wsX4_readInto_r4 : List Cond := [Cond.fieldLink RX4 88 "EchoSeats$Scene" "seatX" "[I", Cond.fieldLink RX4 91 "EchoSeats$Scene" "seatY" "[I", Cond.methodLink RX4 63 yX4_readCurtain, Cond.instanceMethod yX4_readCurtain, Cond.selects RX4 yX4_readCurtain yX4_readCurtain, Cond.code yX4_readCurtain cX4_readCurtain 3 (some .boolean), Cond.fieldLink RX4 94 "EchoSeats$Scene" "curtainX" "[I", Cond.fieldLink RX4 97 "EchoSeats$Scene" "curtainFrom" "[I", Cond.fieldLink RX4 100 "EchoSeats$Scene" "curtainTo" "[I", Cond.methodLink RX4 37 yX4_readEnd, Cond.instanceMethod yX4_readEnd, Cond.selects RX4 yX4_readEnd yX4_readEnd, Cond.code yX4_readEnd cX4_readEnd 1 (some .boolean)]
def wsX4_readInto : List Cond := .code yX4_readInto cX4_readInto 3 (some .int) :: ((wsX4_readInto_r1 ++ (wsX4_readInto_r2 ++ (wsX4_readInto_r3 ++ wsX4_readInto_r4))) ++ wsX40 ++ wsX30)
def wsX5_init_r1 : List Cond := [Cond.methodLink RX5 1 objectInit, Cond.instanceMethod objectInit, Cond.code objectInit ⟨#[0xb1]⟩ 1 none, Cond.classLink RX5 7 RX3, Cond.instantiable RX3 12, Cond.initialized RX3, Cond.fieldLink RX5 10 "EchoSeats" "now" "LEchoSeats$Scene;", Cond.fieldLink RX5 16 "EchoSeats" "draft" "LEchoSeats$Scene;", Cond.fieldLink RX5 19 "EchoSeats" "kept" "[LEchoSeats$Scene;", Cond.arrayClass .boolean, Cond.fieldLink RX5 23 "EchoSeats" "isKept" "[Z", Cond.classLink RX5 27 RX4, Cond.instantiable RX4 6, Cond.initialized RX4, Cond.fieldLink RX5 30 "EchoSeats" "text" "LEchoSeats$Text;", Cond.classLink RX5 34 RX2, Cond.instantiable RX2 5, Cond.initialized RX2, Cond.fieldLink RX5 37 "EchoSeats" "past" "LEchoSeats$Past;", Cond.classLink RX5 41 RX0, Cond.instantiable RX0 8, Cond.initialized RX0, Cond.fieldLink RX5 44 "EchoSeats" "ear" "LEchoSeats$Ear;", Cond.classLink RX5 48 RX1]
def wsX5_init_r2 : List Cond := [Cond.instantiable RX1 8, Cond.initialized RX1, Cond.fieldLink RX5 51 "EchoSeats" "finder" "LEchoSeats$Finder;", Cond.methodLink RX5 9 yX3_init, Cond.instanceMethod yX3_init, Cond.code yX3_init cX3_init 1 none, Cond.methodLink RX3 3 objectInit, Cond.arrayClass .int, Cond.fieldLink RX3 9 "EchoSeats$Scene" "swallows" "[I", Cond.fieldLink RX3 15 "EchoSeats$Scene" "seatX" "[I", Cond.fieldLink RX3 18 "EchoSeats$Scene" "seatY" "[I", Cond.fieldLink RX3 21 "EchoSeats$Scene" "curtainX" "[I", Cond.fieldLink RX3 24 "EchoSeats$Scene" "curtainFrom" "[I", Cond.fieldLink RX3 27 "EchoSeats$Scene" "curtainTo" "[I", Cond.methodLink RX3 30 yX3_beAsAtFirst, Cond.instanceMethod yX3_beAsAtFirst, Cond.selects RX3 yX3_beAsAtFirst yX3_beAsAtFirst, Cond.code yX3_beAsAtFirst cX3_beAsAtFirst 1 none, Cond.fieldLink RX3 33 "EchoSeats$Scene" "length" "I", Cond.fieldLink RX3 37 "EchoSeats$Scene" "breadth" "I", Cond.fieldLink RX3 40 "EchoSeats$Scene" "sourceX" "I", Cond.fieldLink RX3 43 "EchoSeats$Scene" "sourceY" "I", Cond.fieldLink RX3 46 "EchoSeats$Scene" "seats" "I", Cond.fieldLink RX3 49 "EchoSeats$Scene" "curtains" "I"]
def wsX5_init_r3 : List Cond := [Cond.methodLink RX3 52 yJ7_fill_53178, Cond.static yJ7_fill_53178, Cond.initialized RJ7, Cond.code yJ7_fill_53178 cJ7_fill_53178 4 none, Cond.methodLink RX5 29 yX4_init, Cond.instanceMethod yX4_init, Cond.code yX4_init cX4_init 1 none, Cond.methodLink RX4 3 objectInit, Cond.fieldLink RX4 9 "EchoSeats$Text" "letters" "[I", Cond.methodLink RX5 36 yX2_init, Cond.instanceMethod yX2_init, Cond.code yX2_init cX2_init 1 none, Cond.methodLink RX2 3 objectInit, Cond.fieldLink RX2 9 "EchoSeats$Past" "kinds" "[I", Cond.fieldLink RX2 15 "EchoSeats$Past" "which" "[I", Cond.fieldLink RX2 18 "EchoSeats$Past" "firsts" "[I", Cond.fieldLink RX2 21 "EchoSeats$Past" "seconds" "[I", Cond.methodLink RX5 43 yX0_init, Cond.instanceMethod yX0_init, Cond.code yX0_init cX0_init 1 none, Cond.methodLink RX0 3 objectInit, Cond.fieldLink RX0 9 "EchoSeats$Ear" "is" "[I", Cond.fieldLink RX0 15 "EchoSeats$Ear" "js" "[I", Cond.fieldLink RX0 18 "EchoSeats$Ear" "ways" "[I"]
def wsX5_init_r4 : List Cond := [Cond.fieldLink RX0 21 "EchoSeats$Ear" "times" "[I", Cond.fieldLink RX0 24 "EchoSeats$Ear" "strengths" "[I", Cond.fieldLink RX0 27 "EchoSeats$Ear" "deafened" "[I", Cond.methodLink RX5 50 yX1_init, Cond.instanceMethod yX1_init, Cond.code yX1_init cX1_init 1 none, Cond.methodLink RX1 3 objectInit, Cond.fieldLink RX1 9 "EchoSeats$Finder" "is" "[I", Cond.fieldLink RX1 15 "EchoSeats$Finder" "js" "[I", Cond.fieldLink RX1 18 "EchoSeats$Finder" "times" "[I", Cond.fieldLink RX1 21 "EchoSeats$Finder" "placeX" "[I", Cond.fieldLink RX1 24 "EchoSeats$Finder" "placeY" "[I", Cond.fieldLink RX1 27 "EchoSeats$Finder" "toldBy" "[I"]
def wsX5_init : List Cond := .code yX5_init cX5_init 2 none :: ((wsX5_init_r1 ++ (wsX5_init_r2 ++ (wsX5_init_r3 ++ wsX5_init_r4))) ++ wsX30 ++ wsX50 ++ wsX40 ++ wsX20 ++ wsX00 ++ wsX10)
def wsX5_type : List Cond := .code yX5_type cX5_type 2 (some .int) :: ([.fieldLink RX5 30 "EchoSeats" "text" "LEchoSeats$Text;", .fieldLink RX5 63 "EchoSeats$Text" "size" "I", .methodLink RX5 55 yX5_isWithin, .static yX5_isWithin, .initialized RX5, .code yX5_isWithin cX5_isWithin 3 (some .boolean), .methodLink RX5 59 yX4_append, .instanceMethod yX4_append, .selects RX4 yX4_append yX4_append, .initialized RX4, .code yX4_append cX4_append 2 (some .boolean), .fieldLink RX4 15 "EchoSeats$Text" "size" "I", .fieldLink RX4 9 "EchoSeats$Text" "letters" "[I"] ++ wsX50 ++ wsX40)
def wsX5_clear : List Cond := .code yX5_clear cX5_clear 2 (some .int) :: ([.fieldLink RX5 30 "EchoSeats" "text" "LEchoSeats$Text;", .fieldLink RX5 63 "EchoSeats$Text" "size" "I"] ++ wsX50 ++ wsX40)
def wsX5_dropKept : List Cond := .code yX5_dropKept cX5_dropKept 2 none :: ([.fieldLink RX5 23 "EchoSeats" "isKept" "[Z"] ++ wsX50)
def wsX5_room_r1 : List Cond := [Cond.fieldLink RX5 30 "EchoSeats" "text" "LEchoSeats$Text;", Cond.fieldLink RX5 16 "EchoSeats" "draft" "LEchoSeats$Scene;", Cond.fieldLink RX5 10 "EchoSeats" "now" "LEchoSeats$Scene;", Cond.fieldLink RX5 63 "EchoSeats$Text" "size" "I", Cond.fieldLink RX5 37 "EchoSeats" "past" "LEchoSeats$Past;", Cond.fieldLink RX5 75 "EchoSeats$Past" "size" "I", Cond.fieldLink RX5 51 "EchoSeats" "finder" "LEchoSeats$Finder;", Cond.fieldLink RX5 76 "EchoSeats$Finder" "seen" "I", Cond.methodLink RX5 67 yX4_readInto, Cond.instanceMethod yX4_readInto, Cond.selects RX4 yX4_readInto yX4_readInto, Cond.initialized RX4, Cond.code yX4_readInto cX4_readInto 3 (some .int), Cond.fieldLink RX4 24 "EchoSeats$Text" "next" "I", Cond.fieldLink RX4 30 "EchoSeats$Text" "token" "I", Cond.fieldLink RX4 41 "EchoSeats$Text" "start" "I", Cond.methodLink RX4 19 yX3_beAsAtFirst, Cond.instanceMethod yX3_beAsAtFirst, Cond.selects RX3 yX3_beAsAtFirst yX3_beAsAtFirst, Cond.initialized RX3, Cond.code yX3_beAsAtFirst cX3_beAsAtFirst 1 none, Cond.fieldLink RX3 33 "EchoSeats$Scene" "length" "I", Cond.fieldLink RX3 37 "EchoSeats$Scene" "breadth" "I", Cond.fieldLink RX3 40 "EchoSeats$Scene" "sourceX" "I"]
def wsX5_room_r2 : List Cond := [Cond.fieldLink RX3 43 "EchoSeats$Scene" "sourceY" "I", Cond.fieldLink RX3 46 "EchoSeats$Scene" "seats" "I", Cond.fieldLink RX3 49 "EchoSeats$Scene" "curtains" "I", Cond.fieldLink RX3 9 "EchoSeats$Scene" "swallows" "[I", Cond.methodLink RX3 52 yJ7_fill_53178, Cond.static yJ7_fill_53178, Cond.initialized RJ7, Cond.code yJ7_fill_53178 cJ7_fill_53178 4 none, Cond.methodLink RX4 27 yX4_nextToken, Cond.instanceMethod yX4_nextToken, Cond.selects RX4 yX4_nextToken yX4_nextToken, Cond.code yX4_nextToken cX4_nextToken 1 none, Cond.fieldLink RX4 15 "EchoSeats$Text" "size" "I", Cond.fieldLink RX4 9 "EchoSeats$Text" "letters" "[I", Cond.methodLink RX4 107 yX4_isFigure, Cond.static yX4_isFigure, Cond.code yX4_isFigure cX4_isFigure 1 (some .boolean), Cond.methodLink RX4 111 yX4_takeFigures, Cond.instanceMethod yX4_takeFigures, Cond.selects RX4 yX4_takeFigures yX4_takeFigures, Cond.code yX4_takeFigures cX4_takeFigures 2 none, Cond.fieldLink RX4 70 "EchoSeats$Text" "number" "I", Cond.methodLink RX4 114 Lib.Math.min.name, Cond.static Lib.Math.min.name]
def wsX5_room_r3 : List Cond := [Cond.initialized "java/lang/Math", Cond.code Lib.Math.min.name Lib.Math.min.code 2 (some .int), Cond.methodLink RX4 33 yX4_readItem, Cond.instanceMethod yX4_readItem, Cond.selects RX4 yX4_readItem yX4_readItem, Cond.code yX4_readItem cX4_readItem 3 (some .boolean), Cond.fieldLink RX4 54 "EchoSeats$Scene" "seats" "I", Cond.fieldLink RX4 60 "EchoSeats$Scene" "curtains" "I", Cond.methodLink RX4 44 yX4_readSides, Cond.instanceMethod yX4_readSides, Cond.selects RX4 yX4_readSides yX4_readSides, Cond.code yX4_readSides cX4_readSides 2 (some .boolean), Cond.fieldLink RX4 73 "EchoSeats$Scene" "length" "I", Cond.fieldLink RX4 76 "EchoSeats$Scene" "breadth" "I", Cond.methodLink RX4 66 yX4_readNumber, Cond.instanceMethod yX4_readNumber, Cond.selects RX4 yX4_readNumber yX4_readNumber, Cond.code yX4_readNumber cX4_readNumber 3 (some .boolean), Cond.static yX5_isWithin, Cond.initialized RX5, Cond.code yX5_isWithin cX5_isWithin 3 (some .boolean), Cond.methodLink RX4 48 yX4_readSwallows, Cond.instanceMethod yX4_readSwallows, Cond.selects RX4 yX4_readSwallows yX4_readSwallows]
def wsX5_room_r4 : List Cond := [Cond.code yX4_readSwallows cX4_readSwallows 3 (some .boolean), Cond.fieldLink RX4 79 "EchoSeats$Scene" "swallows" "[I", Cond.methodLink RX4 51 yX4_readSource, Cond.instanceMethod yX4_readSource, Cond.selects RX4 yX4_readSource yX4_readSource, Cond.code yX4_readSource cX4_readSource 2 (some .boolean), Cond.fieldLink RX4 82 "EchoSeats$Scene" "sourceX" "I", Cond.fieldLink RX4 85 "EchoSeats$Scene" "sourceY" "I", Cond.methodLink RX4 57 yX4_readSeat, Cond.instanceMethod yX4_readSeat, Cond.selects RX4 yX4_readSeat yX4_readSeat, Cond.code yX4_readSeat cX4_readSeat 2 (some .boolean), Cond.fieldLink RX4 88 "EchoSeats$Scene" "seatX" "[I", Cond.fieldLink RX4 91 "EchoSeats$Scene" "seatY" "[I", Cond.methodLink RX4 63 yX4_readCurtain, Cond.instanceMethod yX4_readCurtain, Cond.selects RX4 yX4_readCurtain yX4_readCurtain, Cond.code yX4_readCurtain cX4_readCurtain 3 (some .boolean), Cond.fieldLink RX4 94 "EchoSeats$Scene" "curtainX" "[I", Cond.fieldLink RX4 97 "EchoSeats$Scene" "curtainFrom" "[I", Cond.fieldLink RX4 100 "EchoSeats$Scene" "curtainTo" "[I", Cond.methodLink RX4 37 yX4_readEnd, Cond.instanceMethod yX4_readEnd, Cond.selects RX4 yX4_readEnd yX4_readEnd]
def wsX5_room_r5 : List Cond := [Cond.code yX4_readEnd cX4_readEnd 1 (some .boolean), Cond.methodLink RX5 71 yX3_copyFrom, Cond.instanceMethod yX3_copyFrom, Cond.selects RX3 yX3_copyFrom yX3_copyFrom, Cond.code yX3_copyFrom cX3_copyFrom 2 none, Cond.methodLink RX3 58 arraycopyName, Cond.native arraycopyName, Cond.static arraycopyName, Cond.initialized "java/lang/System", Cond.fieldLink RX3 15 "EchoSeats$Scene" "seatX" "[I", Cond.fieldLink RX3 18 "EchoSeats$Scene" "seatY" "[I", Cond.fieldLink RX3 21 "EchoSeats$Scene" "curtainX" "[I", Cond.fieldLink RX3 24 "EchoSeats$Scene" "curtainFrom" "[I", Cond.fieldLink RX3 27 "EchoSeats$Scene" "curtainTo" "[I", Cond.methodLink RX5 79 yX5_dropKept, Cond.instanceMethod yX5_dropKept, Cond.selects RX5 yX5_dropKept yX5_dropKept, Cond.code yX5_dropKept cX5_dropKept 2 none, Cond.fieldLink RX5 23 "EchoSeats" "isKept" "[Z"]
def wsX5_room : List Cond := .code yX5_room cX5_room 2 (some .int) :: ((wsX5_room_r1 ++ (wsX5_room_r2 ++ (wsX5_room_r3 ++ (wsX5_room_r4 ++ wsX5_room_r5)))) ++ wsX50 ++ wsX40 ++ wsX20 ++ wsX10 ++ wsX30)
def wsX5_wall : List Cond := .code yX5_wall cX5_wall 2 (some .int) :: ([.fieldLink RX5 10 "EchoSeats" "now" "LEchoSeats$Scene;", .fieldLink RX5 82 "EchoSeats$Scene" "swallows" "[I", .methodLink RX5 55 yX5_isWithin, .static yX5_isWithin, .initialized RX5, .code yX5_isWithin cX5_isWithin 3 (some .boolean)] ++ wsX50 ++ wsX30)
def wsX5_seat : List Cond := .code yX5_seat cX5_seat 3 (some .int) :: ([.fieldLink RX5 10 "EchoSeats" "now" "LEchoSeats$Scene;", .fieldLink RX5 89 "EchoSeats$Scene" "seatX" "[I", .fieldLink RX5 92 "EchoSeats$Scene" "seatY" "[I", .methodLink RX5 86 yX3_hasSeat, .instanceMethod yX3_hasSeat, .selects RX3 yX3_hasSeat yX3_hasSeat, .initialized RX3, .code yX3_hasSeat cX3_hasSeat 2 (some .boolean), .fieldLink RX3 46 "EchoSeats$Scene" "seats" "I", .methodLink RX5 55 yX5_isWithin, .static yX5_isWithin, .initialized RX5, .code yX5_isWithin cX5_isWithin 3 (some .boolean)] ++ wsX50 ++ wsX30)
def wsX5_curtain : List Cond := .code yX5_curtain cX5_curtain 3 (some .int) :: ([.fieldLink RX5 10 "EchoSeats" "now" "LEchoSeats$Scene;", .fieldLink RX5 98 "EchoSeats$Scene" "curtainX" "[I", .fieldLink RX5 101 "EchoSeats$Scene" "curtainFrom" "[I", .fieldLink RX5 104 "EchoSeats$Scene" "curtainTo" "[I", .methodLink RX5 95 yX3_hasCurtain, .instanceMethod yX3_hasCurtain, .selects RX3 yX3_hasCurtain yX3_hasCurtain, .initialized RX3, .code yX3_hasCurtain cX3_hasCurtain 2 (some .boolean), .fieldLink RX3 49 "EchoSeats$Scene" "curtains" "I"] ++ wsX50 ++ wsX30)
def wsX5_pads_r1 : List Cond := [Cond.fieldLink RX5 10 "EchoSeats" "now" "LEchoSeats$Scene;", Cond.fieldLink RX5 82 "EchoSeats$Scene" "swallows" "[I", Cond.fieldLink RX5 37 "EchoSeats" "past" "LEchoSeats$Past;", Cond.methodLink RX5 55 yX5_isWithin, Cond.static yX5_isWithin, Cond.initialized RX5, Cond.code yX5_isWithin cX5_isWithin 3 (some .boolean), Cond.methodLink RX5 107 yX2_add, Cond.instanceMethod yX2_add, Cond.selects RX2 yX2_add yX2_add, Cond.initialized RX2, Cond.code yX2_add cX2_add 5 none, Cond.fieldLink RX2 24 "EchoSeats$Past" "size" "I", Cond.fieldLink RX2 9 "EchoSeats$Past" "kinds" "[I", Cond.fieldLink RX2 15 "EchoSeats$Past" "which" "[I", Cond.fieldLink RX2 18 "EchoSeats$Past" "firsts" "[I", Cond.fieldLink RX2 21 "EchoSeats$Past" "seconds" "[I", Cond.methodLink RX2 28 yX2_loseOldest, Cond.instanceMethod yX2_loseOldest, Cond.selects RX2 yX2_loseOldest yX2_loseOldest, Cond.code yX2_loseOldest cX2_loseOldest 1 none, Cond.methodLink RX2 31 arraycopyName, Cond.native arraycopyName, Cond.static arraycopyName]
def wsX5_pads_r2 : List Cond := [Cond.initialized "java/lang/System"]
def wsX5_pads : List Cond := .code yX5_pads cX5_pads 4 (some .int) :: ((wsX5_pads_r1 ++ wsX5_pads_r2) ++ wsX50 ++ wsX30 ++ wsX20)
def wsX5_draws_r1 : List Cond := [Cond.fieldLink RX5 10 "EchoSeats" "now" "LEchoSeats$Scene;", Cond.fieldLink RX5 111 "EchoSeats$Scene" "breadth" "I", Cond.fieldLink RX5 101 "EchoSeats$Scene" "curtainFrom" "[I", Cond.fieldLink RX5 104 "EchoSeats$Scene" "curtainTo" "[I", Cond.fieldLink RX5 37 "EchoSeats" "past" "LEchoSeats$Past;", Cond.methodLink RX5 95 yX3_hasCurtain, Cond.instanceMethod yX3_hasCurtain, Cond.selects RX3 yX3_hasCurtain yX3_hasCurtain, Cond.initialized RX3, Cond.code yX3_hasCurtain cX3_hasCurtain 2 (some .boolean), Cond.fieldLink RX3 49 "EchoSeats$Scene" "curtains" "I", Cond.methodLink RX5 55 yX5_isWithin, Cond.static yX5_isWithin, Cond.initialized RX5, Cond.code yX5_isWithin cX5_isWithin 3 (some .boolean), Cond.methodLink RX5 107 yX2_add, Cond.instanceMethod yX2_add, Cond.selects RX2 yX2_add yX2_add, Cond.initialized RX2, Cond.code yX2_add cX2_add 5 none, Cond.fieldLink RX2 24 "EchoSeats$Past" "size" "I", Cond.fieldLink RX2 9 "EchoSeats$Past" "kinds" "[I", Cond.fieldLink RX2 15 "EchoSeats$Past" "which" "[I", Cond.fieldLink RX2 18 "EchoSeats$Past" "firsts" "[I"]
def wsX5_draws_r2 : List Cond := [Cond.fieldLink RX2 21 "EchoSeats$Past" "seconds" "[I", Cond.methodLink RX2 28 yX2_loseOldest, Cond.instanceMethod yX2_loseOldest, Cond.selects RX2 yX2_loseOldest yX2_loseOldest, Cond.code yX2_loseOldest cX2_loseOldest 1 none, Cond.methodLink RX2 31 arraycopyName, Cond.native arraycopyName, Cond.static arraycopyName, Cond.initialized "java/lang/System"]
def wsX5_draws : List Cond := .code yX5_draws cX5_draws 6 (some .int) :: ((wsX5_draws_r1 ++ wsX5_draws_r2) ++ wsX50 ++ wsX30 ++ wsX20)
def wsX5_moves_r1 : List Cond := [Cond.fieldLink RX5 10 "EchoSeats" "now" "LEchoSeats$Scene;", Cond.fieldLink RX5 114 "EchoSeats$Scene" "length" "I", Cond.fieldLink RX5 111 "EchoSeats$Scene" "breadth" "I", Cond.fieldLink RX5 117 "EchoSeats$Scene" "sourceX" "I", Cond.fieldLink RX5 120 "EchoSeats$Scene" "sourceY" "I", Cond.fieldLink RX5 37 "EchoSeats" "past" "LEchoSeats$Past;", Cond.methodLink RX5 55 yX5_isWithin, Cond.static yX5_isWithin, Cond.initialized RX5, Cond.code yX5_isWithin cX5_isWithin 3 (some .boolean), Cond.methodLink RX5 123 yX3_sourceCode, Cond.instanceMethod yX3_sourceCode, Cond.selects RX3 yX3_sourceCode yX3_sourceCode, Cond.initialized RX3, Cond.code yX3_sourceCode cX3_sourceCode 1 (some .int), Cond.fieldLink RX3 40 "EchoSeats$Scene" "sourceX" "I", Cond.fieldLink RX3 43 "EchoSeats$Scene" "sourceY" "I", Cond.methodLink RX5 107 yX2_add, Cond.instanceMethod yX2_add, Cond.selects RX2 yX2_add yX2_add, Cond.initialized RX2, Cond.code yX2_add cX2_add 5 none, Cond.fieldLink RX2 24 "EchoSeats$Past" "size" "I", Cond.fieldLink RX2 9 "EchoSeats$Past" "kinds" "[I"]
def wsX5_moves_r2 : List Cond := [Cond.fieldLink RX2 15 "EchoSeats$Past" "which" "[I", Cond.fieldLink RX2 18 "EchoSeats$Past" "firsts" "[I", Cond.fieldLink RX2 21 "EchoSeats$Past" "seconds" "[I", Cond.methodLink RX2 28 yX2_loseOldest, Cond.instanceMethod yX2_loseOldest, Cond.selects RX2 yX2_loseOldest yX2_loseOldest, Cond.code yX2_loseOldest cX2_loseOldest 1 none, Cond.methodLink RX2 31 arraycopyName, Cond.native arraycopyName, Cond.static arraycopyName, Cond.initialized "java/lang/System"]
def wsX5_moves : List Cond := .code yX5_moves cX5_moves 4 (some .int) :: ((wsX5_moves_r1 ++ wsX5_moves_r2) ++ wsX50 ++ wsX30 ++ wsX20)
def wsX5_undo : List Cond := .code yX5_undo cX5_undo 1 (some .int) :: ([.fieldLink RX5 37 "EchoSeats" "past" "LEchoSeats$Past;", .fieldLink RX5 75 "EchoSeats$Past" "size" "I", .fieldLink RX5 10 "EchoSeats" "now" "LEchoSeats$Scene;", .methodLink RX5 127 yX2_takeBackIn, .instanceMethod yX2_takeBackIn, .selects RX2 yX2_takeBackIn yX2_takeBackIn, .initialized RX2, .code yX2_takeBackIn cX2_takeBackIn 3 none, .fieldLink RX2 24 "EchoSeats$Past" "size" "I", .fieldLink RX2 15 "EchoSeats$Past" "which" "[I", .fieldLink RX2 9 "EchoSeats$Past" "kinds" "[I", .fieldLink RX2 37 "EchoSeats$Scene" "swallows" "[I", .fieldLink RX2 18 "EchoSeats$Past" "firsts" "[I", .fieldLink RX2 42 "EchoSeats$Scene" "curtainFrom" "[I", .fieldLink RX2 45 "EchoSeats$Scene" "curtainTo" "[I", .fieldLink RX2 21 "EchoSeats$Past" "seconds" "[I", .fieldLink RX2 48 "EchoSeats$Scene" "sourceX" "I", .fieldLink RX2 51 "EchoSeats$Scene" "sourceY" "I"] ++ wsX50 ++ wsX20 ++ wsX30)
def wsX5_isImage : List Cond := .code yX5_isImage cX5_isImage 2 (some .boolean) :: ([.methodLink RX5 142 Lib.Math.abs.name, .static Lib.Math.abs.name, .initialized "java/lang/Math", .code Lib.Math.abs.name Lib.Math.abs.code 1 (some .int), .methodLink RX5 55 yX5_isWithin, .static yX5_isWithin, .initialized RX5, .code yX5_isWithin cX5_isWithin 3 (some .boolean)])
def wsX5_mirror_r1 : List Cond := [Cond.constant RX5 134 (-1000000), Cond.fieldLink RX5 10 "EchoSeats" "now" "LEchoSeats$Scene;", Cond.methodLink RX5 142 Lib.Math.abs.name, Cond.static Lib.Math.abs.name, Cond.initialized "java/lang/Math", Cond.code Lib.Math.abs.name Lib.Math.abs.code 1 (some .int), Cond.methodLink RX5 130 yX5_isImage, Cond.static yX5_isImage, Cond.initialized RX5, Cond.code yX5_isImage cX5_isImage 2 (some .boolean), Cond.methodLink RX5 55 yX5_isWithin, Cond.static yX5_isWithin, Cond.code yX5_isWithin cX5_isWithin 3 (some .boolean), Cond.methodLink RX5 135 yX3_imageX, Cond.instanceMethod yX3_imageX, Cond.selects RX3 yX3_imageX yX3_imageX, Cond.initialized RX3, Cond.code yX3_imageX cX3_imageX 2 (some .int), Cond.fieldLink RX3 33 "EchoSeats$Scene" "length" "I", Cond.fieldLink RX3 40 "EchoSeats$Scene" "sourceX" "I", Cond.static yX5_mirrored, Cond.code yX5_mirrored cX5_mirrored 3 (some .int), Cond.methodLink RX5 139 yX3_imageY, Cond.instanceMethod yX3_imageY]
def wsX5_mirror_r2 : List Cond := [Cond.selects RX3 yX3_imageY yX3_imageY, Cond.code yX3_imageY cX3_imageY 2 (some .int), Cond.fieldLink RX3 37 "EchoSeats$Scene" "breadth" "I", Cond.fieldLink RX3 43 "EchoSeats$Scene" "sourceY" "I", Cond.methodLink RX5 147 yX3_softPasses, Cond.instanceMethod yX3_softPasses, Cond.selects RX3 yX3_softPasses yX3_softPasses, Cond.code yX3_softPasses cX3_softPasses 5 (some .int), Cond.fieldLink RX3 9 "EchoSeats$Scene" "swallows" "[I", Cond.static yX5_passes, Cond.code yX5_passes cX5_passes 3 (some .int), Cond.methodLink RX5 237 yX5_farPasses, Cond.static yX5_farPasses, Cond.code yX5_farPasses cX5_farPasses 1 (some .int)]
def wsX5_mirror : List Cond := .code yX5_mirror cX5_mirror 4 (some .int) :: ((wsX5_mirror_r1 ++ wsX5_mirror_r2) ++ wsX50 ++ wsX30)
def wsX5_path_r1 : List Cond := [Cond.fieldLink RX5 10 "EchoSeats" "now" "LEchoSeats$Scene;", Cond.fieldLink RX5 89 "EchoSeats$Scene" "seatX" "[I", Cond.fieldLink RX5 92 "EchoSeats$Scene" "seatY" "[I", Cond.fieldLink RX5 82 "EchoSeats$Scene" "swallows" "[I", Cond.methodLink RX5 86 yX3_hasSeat, Cond.instanceMethod yX3_hasSeat, Cond.selects RX3 yX3_hasSeat yX3_hasSeat, Cond.initialized RX3, Cond.code yX3_hasSeat cX3_hasSeat 2 (some .boolean), Cond.fieldLink RX3 46 "EchoSeats$Scene" "seats" "I", Cond.methodLink RX5 130 yX5_isImage, Cond.static yX5_isImage, Cond.initialized RX5, Cond.code yX5_isImage cX5_isImage 2 (some .boolean), Cond.methodLink RX5 142 Lib.Math.abs.name, Cond.static Lib.Math.abs.name, Cond.initialized "java/lang/Math", Cond.code Lib.Math.abs.name Lib.Math.abs.code 1 (some .int), Cond.methodLink RX5 55 yX5_isWithin, Cond.static yX5_isWithin, Cond.code yX5_isWithin cX5_isWithin 3 (some .boolean), Cond.methodLink RX5 151 yX3_waySquared, Cond.instanceMethod yX3_waySquared, Cond.selects RX3 yX3_waySquared yX3_waySquared]
def wsX5_path_r2 : List Cond := [Cond.code yX3_waySquared cX3_waySquared 5 (some .int), Cond.methodLink RX3 71 yX3_imageX, Cond.instanceMethod yX3_imageX, Cond.selects RX3 yX3_imageX yX3_imageX, Cond.code yX3_imageX cX3_imageX 2 (some .int), Cond.fieldLink RX3 33 "EchoSeats$Scene" "length" "I", Cond.fieldLink RX3 40 "EchoSeats$Scene" "sourceX" "I", Cond.static yX5_mirrored, Cond.code yX5_mirrored cX5_mirrored 3 (some .int), Cond.methodLink RX3 75 yX3_imageY, Cond.instanceMethod yX3_imageY, Cond.selects RX3 yX3_imageY yX3_imageY, Cond.code yX3_imageY cX3_imageY 2 (some .int), Cond.fieldLink RX3 37 "EchoSeats$Scene" "breadth" "I", Cond.fieldLink RX3 43 "EchoSeats$Scene" "sourceY" "I", Cond.static yX5_squares, Cond.code yX5_squares cX5_squares 2 (some .int), Cond.methodLink RX5 155 yX5_timeOf, Cond.static yX5_timeOf, Cond.code yX5_timeOf cX5_timeOf 5 (some .int), Cond.methodLink RX5 158 yX5_strengthOf, Cond.static yX5_strengthOf, Cond.code yX5_strengthOf cX5_strengthOf 8 (some .int), Cond.constant RX5 240 (1000000)]
def wsX5_path_r3 : List Cond := [Cond.methodLink RX5 205 Lib.Math.max.name, Cond.static Lib.Math.max.name, Cond.code Lib.Math.max.name Lib.Math.max.code 2 (some .int), Cond.methodLink RX5 241 yX5_passes, Cond.static yX5_passes, Cond.code yX5_passes cX5_passes 3 (some .int), Cond.methodLink RX5 237 yX5_farPasses, Cond.static yX5_farPasses, Cond.code yX5_farPasses cX5_farPasses 1 (some .int), Cond.methodLink RX5 162 yX3_isHidden, Cond.instanceMethod yX3_isHidden, Cond.selects RX3 yX3_isHidden yX3_isHidden, Cond.code yX3_isHidden cX3_isHidden 13 (some .boolean), Cond.fieldLink RX3 49 "EchoSeats$Scene" "curtains" "I", Cond.fieldLink RX3 21 "EchoSeats$Scene" "curtainX" "[I", Cond.methodLink RX3 82 Lib.Math.abs.name, Cond.methodLink RX3 87 Lib.Math.min.name, Cond.static Lib.Math.min.name, Cond.code Lib.Math.min.name Lib.Math.min.code 2 (some .int), Cond.methodLink RX3 90 Lib.Math.max.name, Cond.methodLink RX3 93 yX3_curtainMeets, Cond.instanceMethod yX3_curtainMeets, Cond.selects RX3 yX3_curtainMeets yX3_curtainMeets, Cond.code yX3_curtainMeets cX3_curtainMeets 8 (some .boolean)]
def wsX5_path_r4 : List Cond := [Cond.fieldLink RX3 24 "EchoSeats$Scene" "curtainFrom" "[I", Cond.fieldLink RX3 27 "EchoSeats$Scene" "curtainTo" "[I", Cond.methodLink RX3 97 yJ9_floorDiv_7cf53, Cond.static yJ9_floorDiv_7cf53, Cond.initialized RJ9, Cond.code yJ9_floorDiv_7cf53 cJ9_floorDiv_7cf53 3 (some .int)]
def wsX5_path : List Cond := .code yX5_path cX5_path 8 (some .int) :: ((wsX5_path_r1 ++ (wsX5_path_r2 ++ (wsX5_path_r3 ++ wsX5_path_r4))) ++ wsX50 ++ wsX30)
def wsX5_heard_r1 : List Cond := [Cond.fieldLink RX5 10 "EchoSeats" "now" "LEchoSeats$Scene;", Cond.fieldLink RX5 44 "EchoSeats" "ear" "LEchoSeats$Ear;", Cond.fieldLink RX5 170 "EchoSeats$Ear" "size" "I", Cond.fieldLink RX5 171 "EchoSeats$Ear" "times" "[I", Cond.fieldLink RX5 174 "EchoSeats$Ear" "strengths" "[I", Cond.fieldLink RX5 177 "EchoSeats$Ear" "is" "[I", Cond.fieldLink RX5 180 "EchoSeats$Ear" "js" "[I", Cond.methodLink RX5 86 yX3_hasSeat, Cond.instanceMethod yX3_hasSeat, Cond.selects RX3 yX3_hasSeat yX3_hasSeat, Cond.initialized RX3, Cond.code yX3_hasSeat cX3_hasSeat 2 (some .boolean), Cond.fieldLink RX3 46 "EchoSeats$Scene" "seats" "I", Cond.methodLink RX5 55 yX5_isWithin, Cond.static yX5_isWithin, Cond.initialized RX5, Cond.code yX5_isWithin cX5_isWithin 3 (some .boolean), Cond.methodLink RX5 166 yX0_hearAtSeat, Cond.instanceMethod yX0_hearAtSeat, Cond.selects RX0 yX0_hearAtSeat yX0_hearAtSeat, Cond.initialized RX0, Cond.code yX0_hearAtSeat cX0_hearAtSeat 8 none, Cond.fieldLink RX0 30 "EchoSeats$Ear" "size" "I", Cond.fieldLink RX0 34 "EchoSeats$Ear" "total" "I"]
def wsX5_heard_r2 : List Cond := [Cond.fieldLink RX0 43 "EchoSeats$Scene" "seatX" "[I", Cond.fieldLink RX0 46 "EchoSeats$Scene" "seatY" "[I", Cond.methodLink RX0 49 Lib.Math.abs.name, Cond.static Lib.Math.abs.name, Cond.initialized "java/lang/Math", Cond.code Lib.Math.abs.name Lib.Math.abs.code 1 (some .int), Cond.methodLink RX0 37 yX3_hasSeat, Cond.methodLink RX0 55 yX3_isHidden, Cond.instanceMethod yX3_isHidden, Cond.selects RX3 yX3_isHidden yX3_isHidden, Cond.code yX3_isHidden cX3_isHidden 13 (some .boolean), Cond.fieldLink RX3 49 "EchoSeats$Scene" "curtains" "I", Cond.fieldLink RX3 33 "EchoSeats$Scene" "length" "I", Cond.fieldLink RX3 21 "EchoSeats$Scene" "curtainX" "[I", Cond.methodLink RX3 82 Lib.Math.abs.name, Cond.methodLink RX3 87 Lib.Math.min.name, Cond.static Lib.Math.min.name, Cond.code Lib.Math.min.name Lib.Math.min.code 2 (some .int), Cond.methodLink RX3 90 Lib.Math.max.name, Cond.static Lib.Math.max.name, Cond.code Lib.Math.max.name Lib.Math.max.code 2 (some .int), Cond.methodLink RX3 71 yX3_imageX, Cond.instanceMethod yX3_imageX, Cond.selects RX3 yX3_imageX yX3_imageX]
def wsX5_heard_r3 : List Cond := [Cond.code yX3_imageX cX3_imageX 2 (some .int), Cond.fieldLink RX3 40 "EchoSeats$Scene" "sourceX" "I", Cond.static yX5_mirrored, Cond.code yX5_mirrored cX5_mirrored 3 (some .int), Cond.methodLink RX3 75 yX3_imageY, Cond.instanceMethod yX3_imageY, Cond.selects RX3 yX3_imageY yX3_imageY, Cond.code yX3_imageY cX3_imageY 2 (some .int), Cond.fieldLink RX3 37 "EchoSeats$Scene" "breadth" "I", Cond.fieldLink RX3 43 "EchoSeats$Scene" "sourceY" "I", Cond.methodLink RX3 93 yX3_curtainMeets, Cond.instanceMethod yX3_curtainMeets, Cond.selects RX3 yX3_curtainMeets yX3_curtainMeets, Cond.code yX3_curtainMeets cX3_curtainMeets 8 (some .boolean), Cond.fieldLink RX3 24 "EchoSeats$Scene" "curtainFrom" "[I", Cond.fieldLink RX3 27 "EchoSeats$Scene" "curtainTo" "[I", Cond.methodLink RX3 97 yJ9_floorDiv_7cf53, Cond.static yJ9_floorDiv_7cf53, Cond.initialized RJ9, Cond.code yJ9_floorDiv_7cf53 cJ9_floorDiv_7cf53 3 (some .int), Cond.methodLink RX0 59 yX3_waySquared, Cond.instanceMethod yX3_waySquared, Cond.selects RX3 yX3_waySquared yX3_waySquared, Cond.code yX3_waySquared cX3_waySquared 5 (some .int)]
def wsX5_heard_r4 : List Cond := [Cond.static yX5_squares, Cond.code yX5_squares cX5_squares 2 (some .int), Cond.methodLink RX0 63 yX0_insert, Cond.instanceMethod yX0_insert, Cond.selects RX0 yX0_insert yX0_insert, Cond.code yX0_insert cX0_insert 7 none, Cond.fieldLink RX0 21 "EchoSeats$Ear" "times" "[I", Cond.fieldLink RX0 9 "EchoSeats$Ear" "is" "[I", Cond.fieldLink RX0 15 "EchoSeats$Ear" "js" "[I", Cond.fieldLink RX0 18 "EchoSeats$Ear" "ways" "[I", Cond.fieldLink RX0 24 "EchoSeats$Ear" "strengths" "[I", Cond.fieldLink RX0 74 "EchoSeats$Scene" "swallows" "[I", Cond.static yX5_timeOf, Cond.code yX5_timeOf cX5_timeOf 5 (some .int), Cond.methodLink RX0 70 yX0_shiftUp, Cond.instanceMethod yX0_shiftUp, Cond.selects RX0 yX0_shiftUp yX0_shiftUp, Cond.code yX0_shiftUp cX0_shiftUp 2 none, Cond.static yX5_strengthOf, Cond.code yX5_strengthOf cX5_strengthOf 8 (some .int), Cond.constant RX5 240 (1000000), Cond.methodLink RX5 205 Lib.Math.max.name, Cond.methodLink RX5 241 yX5_passes, Cond.static yX5_passes]
def wsX5_heard_r5 : List Cond := [Cond.code yX5_passes cX5_passes 3 (some .int), Cond.methodLink RX5 237 yX5_farPasses, Cond.static yX5_farPasses, Cond.code yX5_farPasses cX5_farPasses 1 (some .int), Cond.methodLink RX5 183 yX5_imageCode, Cond.static yX5_imageCode, Cond.code yX5_imageCode cX5_imageCode 2 (some .int)]
def wsX5_heard : List Cond := .code yX5_heard cX5_heard 4 (some .int) :: ((wsX5_heard_r1 ++ (wsX5_heard_r2 ++ (wsX5_heard_r3 ++ (wsX5_heard_r4 ++ wsX5_heard_r5)))) ++ wsX50 ++ wsX00 ++ wsX30)
def wsX5_sound_r1 : List Cond := [Cond.fieldLink RX5 10 "EchoSeats" "now" "LEchoSeats$Scene;", Cond.fieldLink RX5 44 "EchoSeats" "ear" "LEchoSeats$Ear;", Cond.fieldLink RX5 170 "EchoSeats$Ear" "size" "I", Cond.fieldLink RX5 186 "EchoSeats$Ear" "total" "I", Cond.methodLink RX5 86 yX3_hasSeat, Cond.instanceMethod yX3_hasSeat, Cond.selects RX3 yX3_hasSeat yX3_hasSeat, Cond.initialized RX3, Cond.code yX3_hasSeat cX3_hasSeat 2 (some .boolean), Cond.fieldLink RX3 46 "EchoSeats$Scene" "seats" "I", Cond.methodLink RX5 55 yX5_isWithin, Cond.static yX5_isWithin, Cond.initialized RX5, Cond.code yX5_isWithin cX5_isWithin 3 (some .boolean), Cond.methodLink RX5 166 yX0_hearAtSeat, Cond.instanceMethod yX0_hearAtSeat, Cond.selects RX0 yX0_hearAtSeat yX0_hearAtSeat, Cond.initialized RX0, Cond.code yX0_hearAtSeat cX0_hearAtSeat 8 none, Cond.fieldLink RX0 30 "EchoSeats$Ear" "size" "I", Cond.fieldLink RX0 34 "EchoSeats$Ear" "total" "I", Cond.fieldLink RX0 43 "EchoSeats$Scene" "seatX" "[I", Cond.fieldLink RX0 46 "EchoSeats$Scene" "seatY" "[I", Cond.methodLink RX0 49 Lib.Math.abs.name]
def wsX5_sound_r2 : List Cond := [Cond.static Lib.Math.abs.name, Cond.initialized "java/lang/Math", Cond.code Lib.Math.abs.name Lib.Math.abs.code 1 (some .int), Cond.methodLink RX0 37 yX3_hasSeat, Cond.methodLink RX0 55 yX3_isHidden, Cond.instanceMethod yX3_isHidden, Cond.selects RX3 yX3_isHidden yX3_isHidden, Cond.code yX3_isHidden cX3_isHidden 13 (some .boolean), Cond.fieldLink RX3 49 "EchoSeats$Scene" "curtains" "I", Cond.fieldLink RX3 33 "EchoSeats$Scene" "length" "I", Cond.fieldLink RX3 21 "EchoSeats$Scene" "curtainX" "[I", Cond.methodLink RX3 82 Lib.Math.abs.name, Cond.methodLink RX3 87 Lib.Math.min.name, Cond.static Lib.Math.min.name, Cond.code Lib.Math.min.name Lib.Math.min.code 2 (some .int), Cond.methodLink RX3 90 Lib.Math.max.name, Cond.static Lib.Math.max.name, Cond.code Lib.Math.max.name Lib.Math.max.code 2 (some .int), Cond.methodLink RX3 71 yX3_imageX, Cond.instanceMethod yX3_imageX, Cond.selects RX3 yX3_imageX yX3_imageX, Cond.code yX3_imageX cX3_imageX 2 (some .int), Cond.fieldLink RX3 40 "EchoSeats$Scene" "sourceX" "I", Cond.static yX5_mirrored]
def wsX5_sound_r3 : List Cond := [Cond.code yX5_mirrored cX5_mirrored 3 (some .int), Cond.methodLink RX3 75 yX3_imageY, Cond.instanceMethod yX3_imageY, Cond.selects RX3 yX3_imageY yX3_imageY, Cond.code yX3_imageY cX3_imageY 2 (some .int), Cond.fieldLink RX3 37 "EchoSeats$Scene" "breadth" "I", Cond.fieldLink RX3 43 "EchoSeats$Scene" "sourceY" "I", Cond.methodLink RX3 93 yX3_curtainMeets, Cond.instanceMethod yX3_curtainMeets, Cond.selects RX3 yX3_curtainMeets yX3_curtainMeets, Cond.code yX3_curtainMeets cX3_curtainMeets 8 (some .boolean), Cond.fieldLink RX3 24 "EchoSeats$Scene" "curtainFrom" "[I", Cond.fieldLink RX3 27 "EchoSeats$Scene" "curtainTo" "[I", Cond.methodLink RX3 97 yJ9_floorDiv_7cf53, Cond.static yJ9_floorDiv_7cf53, Cond.initialized RJ9, Cond.code yJ9_floorDiv_7cf53 cJ9_floorDiv_7cf53 3 (some .int), Cond.methodLink RX0 59 yX3_waySquared, Cond.instanceMethod yX3_waySquared, Cond.selects RX3 yX3_waySquared yX3_waySquared, Cond.code yX3_waySquared cX3_waySquared 5 (some .int), Cond.static yX5_squares, Cond.code yX5_squares cX5_squares 2 (some .int), Cond.methodLink RX0 63 yX0_insert]
def wsX5_sound_r4 : List Cond := [Cond.instanceMethod yX0_insert, Cond.selects RX0 yX0_insert yX0_insert, Cond.code yX0_insert cX0_insert 7 none, Cond.fieldLink RX0 21 "EchoSeats$Ear" "times" "[I", Cond.fieldLink RX0 9 "EchoSeats$Ear" "is" "[I", Cond.fieldLink RX0 15 "EchoSeats$Ear" "js" "[I", Cond.fieldLink RX0 18 "EchoSeats$Ear" "ways" "[I", Cond.fieldLink RX0 24 "EchoSeats$Ear" "strengths" "[I", Cond.fieldLink RX0 74 "EchoSeats$Scene" "swallows" "[I", Cond.static yX5_timeOf, Cond.code yX5_timeOf cX5_timeOf 5 (some .int), Cond.methodLink RX0 70 yX0_shiftUp, Cond.instanceMethod yX0_shiftUp, Cond.selects RX0 yX0_shiftUp yX0_shiftUp, Cond.code yX0_shiftUp cX0_shiftUp 2 none, Cond.static yX5_strengthOf, Cond.code yX5_strengthOf cX5_strengthOf 8 (some .int), Cond.constant RX5 240 (1000000), Cond.methodLink RX5 205 Lib.Math.max.name, Cond.methodLink RX5 241 yX5_passes, Cond.static yX5_passes, Cond.code yX5_passes cX5_passes 3 (some .int), Cond.methodLink RX5 237 yX5_farPasses, Cond.static yX5_farPasses]
def wsX5_sound_r5 : List Cond := [Cond.code yX5_farPasses cX5_farPasses 1 (some .int), Cond.methodLink RX5 189 yX0_firstGap, Cond.instanceMethod yX0_firstGap, Cond.selects RX0 yX0_firstGap yX0_firstGap, Cond.code yX0_firstGap cX0_firstGap 1 (some .int)]
def wsX5_sound : List Cond := .code yX5_sound cX5_sound 3 (some .int) :: ((wsX5_sound_r1 ++ (wsX5_sound_r2 ++ (wsX5_sound_r3 ++ (wsX5_sound_r4 ++ wsX5_sound_r5)))) ++ wsX50 ++ wsX00 ++ wsX30)
def wsX5_commonDivisor : List Cond := .code yX5_commonDivisor cX5_commonDivisor 6 (some .int) :: ([])
def wsX5_leastTerm : List Cond := .code yX5_leastTerm cX5_leastTerm 4 (some .int) :: ([.methodLink RX5 205 Lib.Math.max.name, .static Lib.Math.max.name, .initialized "java/lang/Math", .code Lib.Math.max.name Lib.Math.max.code 2 (some .int), .methodLink RX5 244 yX5_commonDivisor, .static yX5_commonDivisor, .initialized RX5, .code yX5_commonDivisor cX5_commonDivisor 6 (some .int)])
def wsX5_early_r1 : List Cond := [Cond.fieldLink RX5 10 "EchoSeats" "now" "LEchoSeats$Scene;", Cond.fieldLink RX5 44 "EchoSeats" "ear" "LEchoSeats$Ear;", Cond.fieldLink RX5 186 "EchoSeats$Ear" "total" "I", Cond.methodLink RX5 86 yX3_hasSeat, Cond.instanceMethod yX3_hasSeat, Cond.selects RX3 yX3_hasSeat yX3_hasSeat, Cond.initialized RX3, Cond.code yX3_hasSeat cX3_hasSeat 2 (some .boolean), Cond.fieldLink RX3 46 "EchoSeats$Scene" "seats" "I", Cond.methodLink RX5 55 yX5_isWithin, Cond.static yX5_isWithin, Cond.initialized RX5, Cond.code yX5_isWithin cX5_isWithin 3 (some .boolean), Cond.methodLink RX5 166 yX0_hearAtSeat, Cond.instanceMethod yX0_hearAtSeat, Cond.selects RX0 yX0_hearAtSeat yX0_hearAtSeat, Cond.initialized RX0, Cond.code yX0_hearAtSeat cX0_hearAtSeat 8 none, Cond.fieldLink RX0 30 "EchoSeats$Ear" "size" "I", Cond.fieldLink RX0 34 "EchoSeats$Ear" "total" "I", Cond.fieldLink RX0 43 "EchoSeats$Scene" "seatX" "[I", Cond.fieldLink RX0 46 "EchoSeats$Scene" "seatY" "[I", Cond.methodLink RX0 49 Lib.Math.abs.name, Cond.static Lib.Math.abs.name]
def wsX5_early_r2 : List Cond := [Cond.initialized "java/lang/Math", Cond.code Lib.Math.abs.name Lib.Math.abs.code 1 (some .int), Cond.methodLink RX0 37 yX3_hasSeat, Cond.methodLink RX0 55 yX3_isHidden, Cond.instanceMethod yX3_isHidden, Cond.selects RX3 yX3_isHidden yX3_isHidden, Cond.code yX3_isHidden cX3_isHidden 13 (some .boolean), Cond.fieldLink RX3 49 "EchoSeats$Scene" "curtains" "I", Cond.fieldLink RX3 33 "EchoSeats$Scene" "length" "I", Cond.fieldLink RX3 21 "EchoSeats$Scene" "curtainX" "[I", Cond.methodLink RX3 82 Lib.Math.abs.name, Cond.methodLink RX3 87 Lib.Math.min.name, Cond.static Lib.Math.min.name, Cond.code Lib.Math.min.name Lib.Math.min.code 2 (some .int), Cond.methodLink RX3 90 Lib.Math.max.name, Cond.static Lib.Math.max.name, Cond.code Lib.Math.max.name Lib.Math.max.code 2 (some .int), Cond.methodLink RX3 71 yX3_imageX, Cond.instanceMethod yX3_imageX, Cond.selects RX3 yX3_imageX yX3_imageX, Cond.code yX3_imageX cX3_imageX 2 (some .int), Cond.fieldLink RX3 40 "EchoSeats$Scene" "sourceX" "I", Cond.static yX5_mirrored, Cond.code yX5_mirrored cX5_mirrored 3 (some .int)]
def wsX5_early_r3 : List Cond := [Cond.methodLink RX3 75 yX3_imageY, Cond.instanceMethod yX3_imageY, Cond.selects RX3 yX3_imageY yX3_imageY, Cond.code yX3_imageY cX3_imageY 2 (some .int), Cond.fieldLink RX3 37 "EchoSeats$Scene" "breadth" "I", Cond.fieldLink RX3 43 "EchoSeats$Scene" "sourceY" "I", Cond.methodLink RX3 93 yX3_curtainMeets, Cond.instanceMethod yX3_curtainMeets, Cond.selects RX3 yX3_curtainMeets yX3_curtainMeets, Cond.code yX3_curtainMeets cX3_curtainMeets 8 (some .boolean), Cond.fieldLink RX3 24 "EchoSeats$Scene" "curtainFrom" "[I", Cond.fieldLink RX3 27 "EchoSeats$Scene" "curtainTo" "[I", Cond.methodLink RX3 97 yJ9_floorDiv_7cf53, Cond.static yJ9_floorDiv_7cf53, Cond.initialized RJ9, Cond.code yJ9_floorDiv_7cf53 cJ9_floorDiv_7cf53 3 (some .int), Cond.methodLink RX0 59 yX3_waySquared, Cond.instanceMethod yX3_waySquared, Cond.selects RX3 yX3_waySquared yX3_waySquared, Cond.code yX3_waySquared cX3_waySquared 5 (some .int), Cond.static yX5_squares, Cond.code yX5_squares cX5_squares 2 (some .int), Cond.methodLink RX0 63 yX0_insert, Cond.instanceMethod yX0_insert]
def wsX5_early_r4 : List Cond := [Cond.selects RX0 yX0_insert yX0_insert, Cond.code yX0_insert cX0_insert 7 none, Cond.fieldLink RX0 21 "EchoSeats$Ear" "times" "[I", Cond.fieldLink RX0 9 "EchoSeats$Ear" "is" "[I", Cond.fieldLink RX0 15 "EchoSeats$Ear" "js" "[I", Cond.fieldLink RX0 18 "EchoSeats$Ear" "ways" "[I", Cond.fieldLink RX0 24 "EchoSeats$Ear" "strengths" "[I", Cond.fieldLink RX0 74 "EchoSeats$Scene" "swallows" "[I", Cond.static yX5_timeOf, Cond.code yX5_timeOf cX5_timeOf 5 (some .int), Cond.methodLink RX0 70 yX0_shiftUp, Cond.instanceMethod yX0_shiftUp, Cond.selects RX0 yX0_shiftUp yX0_shiftUp, Cond.code yX0_shiftUp cX0_shiftUp 2 none, Cond.static yX5_strengthOf, Cond.code yX5_strengthOf cX5_strengthOf 8 (some .int), Cond.constant RX5 240 (1000000), Cond.methodLink RX5 205 Lib.Math.max.name, Cond.methodLink RX5 241 yX5_passes, Cond.static yX5_passes, Cond.code yX5_passes cX5_passes 3 (some .int), Cond.methodLink RX5 237 yX5_farPasses, Cond.static yX5_farPasses, Cond.code yX5_farPasses cX5_farPasses 1 (some .int)]
def wsX5_early_r5 : List Cond := [Cond.methodLink RX5 192 yX0_strengthUpTo, Cond.instanceMethod yX0_strengthUpTo, Cond.selects RX0 yX0_strengthUpTo yX0_strengthUpTo, Cond.code yX0_strengthUpTo cX0_strengthUpTo 4 (some .int), Cond.methodLink RX5 195 yX5_leastTerm, Cond.static yX5_leastTerm, Cond.code yX5_leastTerm cX5_leastTerm 4 (some .int), Cond.methodLink RX5 244 yX5_commonDivisor, Cond.static yX5_commonDivisor, Cond.code yX5_commonDivisor cX5_commonDivisor 6 (some .int)]
def wsX5_early : List Cond := .code yX5_early cX5_early 4 (some .int) :: ((wsX5_early_r1 ++ (wsX5_early_r2 ++ (wsX5_early_r3 ++ (wsX5_early_r4 ++ wsX5_early_r5)))) ++ wsX50 ++ wsX00 ++ wsX30)
def wsX5_fade_r1 : List Cond := [Cond.fieldLink RX5 10 "EchoSeats" "now" "LEchoSeats$Scene;", Cond.fieldLink RX5 44 "EchoSeats" "ear" "LEchoSeats$Ear;", Cond.methodLink RX5 86 yX3_hasSeat, Cond.instanceMethod yX3_hasSeat, Cond.selects RX3 yX3_hasSeat yX3_hasSeat, Cond.initialized RX3, Cond.code yX3_hasSeat cX3_hasSeat 2 (some .boolean), Cond.fieldLink RX3 46 "EchoSeats$Scene" "seats" "I", Cond.methodLink RX5 55 yX5_isWithin, Cond.static yX5_isWithin, Cond.initialized RX5, Cond.code yX5_isWithin cX5_isWithin 3 (some .boolean), Cond.methodLink RX5 166 yX0_hearAtSeat, Cond.instanceMethod yX0_hearAtSeat, Cond.selects RX0 yX0_hearAtSeat yX0_hearAtSeat, Cond.initialized RX0, Cond.code yX0_hearAtSeat cX0_hearAtSeat 8 none, Cond.fieldLink RX0 30 "EchoSeats$Ear" "size" "I", Cond.fieldLink RX0 34 "EchoSeats$Ear" "total" "I", Cond.fieldLink RX0 43 "EchoSeats$Scene" "seatX" "[I", Cond.fieldLink RX0 46 "EchoSeats$Scene" "seatY" "[I", Cond.methodLink RX0 49 Lib.Math.abs.name, Cond.static Lib.Math.abs.name, Cond.initialized "java/lang/Math"]
def wsX5_fade_r2 : List Cond := [Cond.code Lib.Math.abs.name Lib.Math.abs.code 1 (some .int), Cond.methodLink RX0 37 yX3_hasSeat, Cond.methodLink RX0 55 yX3_isHidden, Cond.instanceMethod yX3_isHidden, Cond.selects RX3 yX3_isHidden yX3_isHidden, Cond.code yX3_isHidden cX3_isHidden 13 (some .boolean), Cond.fieldLink RX3 49 "EchoSeats$Scene" "curtains" "I", Cond.fieldLink RX3 33 "EchoSeats$Scene" "length" "I", Cond.fieldLink RX3 21 "EchoSeats$Scene" "curtainX" "[I", Cond.methodLink RX3 82 Lib.Math.abs.name, Cond.methodLink RX3 87 Lib.Math.min.name, Cond.static Lib.Math.min.name, Cond.code Lib.Math.min.name Lib.Math.min.code 2 (some .int), Cond.methodLink RX3 90 Lib.Math.max.name, Cond.static Lib.Math.max.name, Cond.code Lib.Math.max.name Lib.Math.max.code 2 (some .int), Cond.methodLink RX3 71 yX3_imageX, Cond.instanceMethod yX3_imageX, Cond.selects RX3 yX3_imageX yX3_imageX, Cond.code yX3_imageX cX3_imageX 2 (some .int), Cond.fieldLink RX3 40 "EchoSeats$Scene" "sourceX" "I", Cond.static yX5_mirrored, Cond.code yX5_mirrored cX5_mirrored 3 (some .int), Cond.methodLink RX3 75 yX3_imageY]
def wsX5_fade_r3 : List Cond := [Cond.instanceMethod yX3_imageY, Cond.selects RX3 yX3_imageY yX3_imageY, Cond.code yX3_imageY cX3_imageY 2 (some .int), Cond.fieldLink RX3 37 "EchoSeats$Scene" "breadth" "I", Cond.fieldLink RX3 43 "EchoSeats$Scene" "sourceY" "I", Cond.methodLink RX3 93 yX3_curtainMeets, Cond.instanceMethod yX3_curtainMeets, Cond.selects RX3 yX3_curtainMeets yX3_curtainMeets, Cond.code yX3_curtainMeets cX3_curtainMeets 8 (some .boolean), Cond.fieldLink RX3 24 "EchoSeats$Scene" "curtainFrom" "[I", Cond.fieldLink RX3 27 "EchoSeats$Scene" "curtainTo" "[I", Cond.methodLink RX3 97 yJ9_floorDiv_7cf53, Cond.static yJ9_floorDiv_7cf53, Cond.initialized RJ9, Cond.code yJ9_floorDiv_7cf53 cJ9_floorDiv_7cf53 3 (some .int), Cond.methodLink RX0 59 yX3_waySquared, Cond.instanceMethod yX3_waySquared, Cond.selects RX3 yX3_waySquared yX3_waySquared, Cond.code yX3_waySquared cX3_waySquared 5 (some .int), Cond.static yX5_squares, Cond.code yX5_squares cX5_squares 2 (some .int), Cond.methodLink RX0 63 yX0_insert, Cond.instanceMethod yX0_insert, Cond.selects RX0 yX0_insert yX0_insert]
def wsX5_fade_r4 : List Cond := [Cond.code yX0_insert cX0_insert 7 none, Cond.fieldLink RX0 21 "EchoSeats$Ear" "times" "[I", Cond.fieldLink RX0 9 "EchoSeats$Ear" "is" "[I", Cond.fieldLink RX0 15 "EchoSeats$Ear" "js" "[I", Cond.fieldLink RX0 18 "EchoSeats$Ear" "ways" "[I", Cond.fieldLink RX0 24 "EchoSeats$Ear" "strengths" "[I", Cond.fieldLink RX0 74 "EchoSeats$Scene" "swallows" "[I", Cond.static yX5_timeOf, Cond.code yX5_timeOf cX5_timeOf 5 (some .int), Cond.methodLink RX0 70 yX0_shiftUp, Cond.instanceMethod yX0_shiftUp, Cond.selects RX0 yX0_shiftUp yX0_shiftUp, Cond.code yX0_shiftUp cX0_shiftUp 2 none, Cond.static yX5_strengthOf, Cond.code yX5_strengthOf cX5_strengthOf 8 (some .int), Cond.constant RX5 240 (1000000), Cond.methodLink RX5 205 Lib.Math.max.name, Cond.methodLink RX5 241 yX5_passes, Cond.static yX5_passes, Cond.code yX5_passes cX5_passes 3 (some .int), Cond.methodLink RX5 237 yX5_farPasses, Cond.static yX5_farPasses, Cond.code yX5_farPasses cX5_farPasses 1 (some .int), Cond.methodLink RX5 199 yX0_fadeTime]
def wsX5_fade_r5 : List Cond := [Cond.instanceMethod yX0_fadeTime, Cond.selects RX0 yX0_fadeTime yX0_fadeTime, Cond.code yX0_fadeTime cX0_fadeTime 4 (some .int)]
def wsX5_fade : List Cond := .code yX5_fade cX5_fade 3 (some .int) :: ((wsX5_fade_r1 ++ (wsX5_fade_r2 ++ (wsX5_fade_r3 ++ (wsX5_fade_r4 ++ wsX5_fade_r5)))) ++ wsX50 ++ wsX30 ++ wsX00)
def wsX5_best_r1 : List Cond := [Cond.fieldLink RX5 10 "EchoSeats" "now" "LEchoSeats$Scene;", Cond.fieldLink RX5 202 "EchoSeats$Scene" "seats" "I", Cond.fieldLink RX5 44 "EchoSeats" "ear" "LEchoSeats$Ear;", Cond.fieldLink RX5 186 "EchoSeats$Ear" "total" "I", Cond.methodLink RX5 205 Lib.Math.max.name, Cond.static Lib.Math.max.name, Cond.initialized "java/lang/Math", Cond.code Lib.Math.max.name Lib.Math.max.code 2 (some .int), Cond.methodLink RX5 55 yX5_isWithin, Cond.static yX5_isWithin, Cond.initialized RX5, Cond.code yX5_isWithin cX5_isWithin 3 (some .boolean), Cond.methodLink RX5 166 yX0_hearAtSeat, Cond.instanceMethod yX0_hearAtSeat, Cond.selects RX0 yX0_hearAtSeat yX0_hearAtSeat, Cond.initialized RX0, Cond.code yX0_hearAtSeat cX0_hearAtSeat 8 none, Cond.fieldLink RX0 30 "EchoSeats$Ear" "size" "I", Cond.fieldLink RX0 34 "EchoSeats$Ear" "total" "I", Cond.fieldLink RX0 43 "EchoSeats$Scene" "seatX" "[I", Cond.fieldLink RX0 46 "EchoSeats$Scene" "seatY" "[I", Cond.methodLink RX0 49 Lib.Math.abs.name, Cond.static Lib.Math.abs.name, Cond.code Lib.Math.abs.name Lib.Math.abs.code 1 (some .int)]
def wsX5_best_r2 : List Cond := [Cond.methodLink RX0 37 yX3_hasSeat, Cond.instanceMethod yX3_hasSeat, Cond.selects RX3 yX3_hasSeat yX3_hasSeat, Cond.initialized RX3, Cond.code yX3_hasSeat cX3_hasSeat 2 (some .boolean), Cond.fieldLink RX3 46 "EchoSeats$Scene" "seats" "I", Cond.methodLink RX0 55 yX3_isHidden, Cond.instanceMethod yX3_isHidden, Cond.selects RX3 yX3_isHidden yX3_isHidden, Cond.code yX3_isHidden cX3_isHidden 13 (some .boolean), Cond.fieldLink RX3 49 "EchoSeats$Scene" "curtains" "I", Cond.fieldLink RX3 33 "EchoSeats$Scene" "length" "I", Cond.fieldLink RX3 21 "EchoSeats$Scene" "curtainX" "[I", Cond.methodLink RX3 82 Lib.Math.abs.name, Cond.methodLink RX3 87 Lib.Math.min.name, Cond.static Lib.Math.min.name, Cond.code Lib.Math.min.name Lib.Math.min.code 2 (some .int), Cond.methodLink RX3 90 Lib.Math.max.name, Cond.methodLink RX3 71 yX3_imageX, Cond.instanceMethod yX3_imageX, Cond.selects RX3 yX3_imageX yX3_imageX, Cond.code yX3_imageX cX3_imageX 2 (some .int), Cond.fieldLink RX3 40 "EchoSeats$Scene" "sourceX" "I", Cond.static yX5_mirrored]
def wsX5_best_r3 : List Cond := [Cond.code yX5_mirrored cX5_mirrored 3 (some .int), Cond.methodLink RX3 75 yX3_imageY, Cond.instanceMethod yX3_imageY, Cond.selects RX3 yX3_imageY yX3_imageY, Cond.code yX3_imageY cX3_imageY 2 (some .int), Cond.fieldLink RX3 37 "EchoSeats$Scene" "breadth" "I", Cond.fieldLink RX3 43 "EchoSeats$Scene" "sourceY" "I", Cond.methodLink RX3 93 yX3_curtainMeets, Cond.instanceMethod yX3_curtainMeets, Cond.selects RX3 yX3_curtainMeets yX3_curtainMeets, Cond.code yX3_curtainMeets cX3_curtainMeets 8 (some .boolean), Cond.fieldLink RX3 24 "EchoSeats$Scene" "curtainFrom" "[I", Cond.fieldLink RX3 27 "EchoSeats$Scene" "curtainTo" "[I", Cond.methodLink RX3 97 yJ9_floorDiv_7cf53, Cond.static yJ9_floorDiv_7cf53, Cond.initialized RJ9, Cond.code yJ9_floorDiv_7cf53 cJ9_floorDiv_7cf53 3 (some .int), Cond.methodLink RX0 59 yX3_waySquared, Cond.instanceMethod yX3_waySquared, Cond.selects RX3 yX3_waySquared yX3_waySquared, Cond.code yX3_waySquared cX3_waySquared 5 (some .int), Cond.static yX5_squares, Cond.code yX5_squares cX5_squares 2 (some .int), Cond.methodLink RX0 63 yX0_insert]
def wsX5_best_r4 : List Cond := [Cond.instanceMethod yX0_insert, Cond.selects RX0 yX0_insert yX0_insert, Cond.code yX0_insert cX0_insert 7 none, Cond.fieldLink RX0 21 "EchoSeats$Ear" "times" "[I", Cond.fieldLink RX0 9 "EchoSeats$Ear" "is" "[I", Cond.fieldLink RX0 15 "EchoSeats$Ear" "js" "[I", Cond.fieldLink RX0 18 "EchoSeats$Ear" "ways" "[I", Cond.fieldLink RX0 24 "EchoSeats$Ear" "strengths" "[I", Cond.fieldLink RX0 74 "EchoSeats$Scene" "swallows" "[I", Cond.static yX5_timeOf, Cond.code yX5_timeOf cX5_timeOf 5 (some .int), Cond.methodLink RX0 70 yX0_shiftUp, Cond.instanceMethod yX0_shiftUp, Cond.selects RX0 yX0_shiftUp yX0_shiftUp, Cond.code yX0_shiftUp cX0_shiftUp 2 none, Cond.static yX5_strengthOf, Cond.code yX5_strengthOf cX5_strengthOf 8 (some .int), Cond.constant RX5 240 (1000000), Cond.methodLink RX5 241 yX5_passes, Cond.static yX5_passes, Cond.code yX5_passes cX5_passes 3 (some .int), Cond.methodLink RX5 237 yX5_farPasses, Cond.static yX5_farPasses, Cond.code yX5_farPasses cX5_farPasses 1 (some .int)]
def wsX5_best_r5 : List Cond := [Cond.methodLink RX5 192 yX0_strengthUpTo, Cond.instanceMethod yX0_strengthUpTo, Cond.selects RX0 yX0_strengthUpTo yX0_strengthUpTo, Cond.code yX0_strengthUpTo cX0_strengthUpTo 4 (some .int)]
def wsX5_best : List Cond := .code yX5_best cX5_best 12 (some .int) :: ((wsX5_best_r1 ++ (wsX5_best_r2 ++ (wsX5_best_r3 ++ (wsX5_best_r4 ++ wsX5_best_r5)))) ++ wsX50 ++ wsX30 ++ wsX00)
def wsX5_chanceOf : List Cond := .code yX5_chanceOf cX5_chanceOf 4 (some .int) :: ([])
def wsX5_odds_r1 : List Cond := [Cond.fieldLink RX5 10 "EchoSeats" "now" "LEchoSeats$Scene;", Cond.constant RX5 208 (999999), Cond.fieldLink RX5 44 "EchoSeats" "ear" "LEchoSeats$Ear;", Cond.fieldLink RX5 82 "EchoSeats$Scene" "swallows" "[I", Cond.methodLink RX5 55 yX5_isWithin, Cond.static yX5_isWithin, Cond.initialized RX5, Cond.code yX5_isWithin cX5_isWithin 3 (some .boolean), Cond.methodLink RX5 86 yX3_hasSeat, Cond.instanceMethod yX3_hasSeat, Cond.selects RX3 yX3_hasSeat yX3_hasSeat, Cond.initialized RX3, Cond.code yX3_hasSeat cX3_hasSeat 2 (some .boolean), Cond.fieldLink RX3 46 "EchoSeats$Scene" "seats" "I", Cond.methodLink RX5 166 yX0_hearAtSeat, Cond.instanceMethod yX0_hearAtSeat, Cond.selects RX0 yX0_hearAtSeat yX0_hearAtSeat, Cond.initialized RX0, Cond.code yX0_hearAtSeat cX0_hearAtSeat 8 none, Cond.fieldLink RX0 30 "EchoSeats$Ear" "size" "I", Cond.fieldLink RX0 34 "EchoSeats$Ear" "total" "I", Cond.fieldLink RX0 43 "EchoSeats$Scene" "seatX" "[I", Cond.fieldLink RX0 46 "EchoSeats$Scene" "seatY" "[I", Cond.methodLink RX0 49 Lib.Math.abs.name]
def wsX5_odds_r2 : List Cond := [Cond.static Lib.Math.abs.name, Cond.initialized "java/lang/Math", Cond.code Lib.Math.abs.name Lib.Math.abs.code 1 (some .int), Cond.methodLink RX0 37 yX3_hasSeat, Cond.methodLink RX0 55 yX3_isHidden, Cond.instanceMethod yX3_isHidden, Cond.selects RX3 yX3_isHidden yX3_isHidden, Cond.code yX3_isHidden cX3_isHidden 13 (some .boolean), Cond.fieldLink RX3 49 "EchoSeats$Scene" "curtains" "I", Cond.fieldLink RX3 33 "EchoSeats$Scene" "length" "I", Cond.fieldLink RX3 21 "EchoSeats$Scene" "curtainX" "[I", Cond.methodLink RX3 82 Lib.Math.abs.name, Cond.methodLink RX3 87 Lib.Math.min.name, Cond.static Lib.Math.min.name, Cond.code Lib.Math.min.name Lib.Math.min.code 2 (some .int), Cond.methodLink RX3 90 Lib.Math.max.name, Cond.static Lib.Math.max.name, Cond.code Lib.Math.max.name Lib.Math.max.code 2 (some .int), Cond.methodLink RX3 71 yX3_imageX, Cond.instanceMethod yX3_imageX, Cond.selects RX3 yX3_imageX yX3_imageX, Cond.code yX3_imageX cX3_imageX 2 (some .int), Cond.fieldLink RX3 40 "EchoSeats$Scene" "sourceX" "I", Cond.static yX5_mirrored]
def wsX5_odds_r3 : List Cond := [Cond.code yX5_mirrored cX5_mirrored 3 (some .int), Cond.methodLink RX3 75 yX3_imageY, Cond.instanceMethod yX3_imageY, Cond.selects RX3 yX3_imageY yX3_imageY, Cond.code yX3_imageY cX3_imageY 2 (some .int), Cond.fieldLink RX3 37 "EchoSeats$Scene" "breadth" "I", Cond.fieldLink RX3 43 "EchoSeats$Scene" "sourceY" "I", Cond.methodLink RX3 93 yX3_curtainMeets, Cond.instanceMethod yX3_curtainMeets, Cond.selects RX3 yX3_curtainMeets yX3_curtainMeets, Cond.code yX3_curtainMeets cX3_curtainMeets 8 (some .boolean), Cond.fieldLink RX3 24 "EchoSeats$Scene" "curtainFrom" "[I", Cond.fieldLink RX3 27 "EchoSeats$Scene" "curtainTo" "[I", Cond.methodLink RX3 97 yJ9_floorDiv_7cf53, Cond.static yJ9_floorDiv_7cf53, Cond.initialized RJ9, Cond.code yJ9_floorDiv_7cf53 cJ9_floorDiv_7cf53 3 (some .int), Cond.methodLink RX0 59 yX3_waySquared, Cond.instanceMethod yX3_waySquared, Cond.selects RX3 yX3_waySquared yX3_waySquared, Cond.code yX3_waySquared cX3_waySquared 5 (some .int), Cond.static yX5_squares, Cond.code yX5_squares cX5_squares 2 (some .int), Cond.methodLink RX0 63 yX0_insert]
def wsX5_odds_r4 : List Cond := [Cond.instanceMethod yX0_insert, Cond.selects RX0 yX0_insert yX0_insert, Cond.code yX0_insert cX0_insert 7 none, Cond.fieldLink RX0 21 "EchoSeats$Ear" "times" "[I", Cond.fieldLink RX0 9 "EchoSeats$Ear" "is" "[I", Cond.fieldLink RX0 15 "EchoSeats$Ear" "js" "[I", Cond.fieldLink RX0 18 "EchoSeats$Ear" "ways" "[I", Cond.fieldLink RX0 24 "EchoSeats$Ear" "strengths" "[I", Cond.fieldLink RX0 74 "EchoSeats$Scene" "swallows" "[I", Cond.static yX5_timeOf, Cond.code yX5_timeOf cX5_timeOf 5 (some .int), Cond.methodLink RX0 70 yX0_shiftUp, Cond.instanceMethod yX0_shiftUp, Cond.selects RX0 yX0_shiftUp yX0_shiftUp, Cond.code yX0_shiftUp cX0_shiftUp 2 none, Cond.static yX5_strengthOf, Cond.code yX5_strengthOf cX5_strengthOf 8 (some .int), Cond.constant RX5 240 (1000000), Cond.methodLink RX5 205 Lib.Math.max.name, Cond.methodLink RX5 241 yX5_passes, Cond.static yX5_passes, Cond.code yX5_passes cX5_passes 3 (some .int), Cond.methodLink RX5 237 yX5_farPasses, Cond.static yX5_farPasses]
def wsX5_odds_r5 : List Cond := [Cond.code yX5_farPasses cX5_farPasses 1 (some .int), Cond.methodLink RX5 209 yX0_soundIfDeaf, Cond.instanceMethod yX0_soundIfDeaf, Cond.selects RX0 yX0_soundIfDeaf yX0_soundIfDeaf, Cond.code yX0_soundIfDeaf cX0_soundIfDeaf 5 (some .int), Cond.fieldLink RX0 27 "EchoSeats$Ear" "deafened" "[I", Cond.methodLink RX5 213 yX5_chanceOf, Cond.static yX5_chanceOf, Cond.code yX5_chanceOf cX5_chanceOf 4 (some .int), Cond.methodLink RX5 195 yX5_leastTerm, Cond.static yX5_leastTerm, Cond.code yX5_leastTerm cX5_leastTerm 4 (some .int), Cond.methodLink RX5 244 yX5_commonDivisor, Cond.static yX5_commonDivisor, Cond.code yX5_commonDivisor cX5_commonDivisor 6 (some .int)]
def wsX5_odds : List Cond := .code yX5_odds cX5_odds 7 (some .int) :: ((wsX5_odds_r1 ++ (wsX5_odds_r2 ++ (wsX5_odds_r3 ++ (wsX5_odds_r4 ++ wsX5_odds_r5)))) ++ wsX50 ++ wsX30 ++ wsX00)
def wsX5_sees : List Cond := .code yX5_sees cX5_sees 4 (some .int) :: ([.fieldLink RX5 51 "EchoSeats" "finder" "LEchoSeats$Finder;", .fieldLink RX5 76 "EchoSeats$Finder" "seen" "I", .methodLink RX5 130 yX5_isImage, .static yX5_isImage, .initialized RX5, .code yX5_isImage cX5_isImage 2 (some .boolean), .methodLink RX5 142 Lib.Math.abs.name, .static Lib.Math.abs.name, .initialized "java/lang/Math", .code Lib.Math.abs.name Lib.Math.abs.code 1 (some .int), .methodLink RX5 55 yX5_isWithin, .static yX5_isWithin, .code yX5_isWithin cX5_isWithin 3 (some .boolean), .methodLink RX5 216 yX1_addSeen, .instanceMethod yX1_addSeen, .selects RX1 yX1_addSeen yX1_addSeen, .initialized RX1, .code yX1_addSeen cX1_addSeen 4 (some .boolean), .fieldLink RX1 30 "EchoSeats$Finder" "seen" "I", .fieldLink RX1 9 "EchoSeats$Finder" "is" "[I", .fieldLink RX1 15 "EchoSeats$Finder" "js" "[I", .fieldLink RX1 18 "EchoSeats$Finder" "times" "[I"] ++ wsX50 ++ wsX10)
def wsX5_forget : List Cond := .code yX5_forget cX5_forget 2 (some .int) :: ([.fieldLink RX5 51 "EchoSeats" "finder" "LEchoSeats$Finder;", .fieldLink RX5 76 "EchoSeats$Finder" "seen" "I"] ++ wsX50 ++ wsX10)
def wsX5_unseen_r1 : List Cond := [Cond.fieldLink RX5 51 "EchoSeats" "finder" "LEchoSeats$Finder;", Cond.fieldLink RX5 10 "EchoSeats" "now" "LEchoSeats$Scene;", Cond.fieldLink RX5 222 "EchoSeats$Finder" "found" "I", Cond.fieldLink RX5 225 "EchoSeats$Finder" "placeX" "[I", Cond.fieldLink RX5 228 "EchoSeats$Finder" "placeY" "[I", Cond.methodLink RX5 55 yX5_isWithin, Cond.static yX5_isWithin, Cond.initialized RX5, Cond.code yX5_isWithin cX5_isWithin 3 (some .boolean), Cond.methodLink RX5 219 yX1_findPlaces, Cond.instanceMethod yX1_findPlaces, Cond.selects RX1 yX1_findPlaces yX1_findPlaces, Cond.initialized RX1, Cond.code yX1_findPlaces cX1_findPlaces 4 none, Cond.fieldLink RX1 34 "EchoSeats$Finder" "found" "I", Cond.fieldLink RX1 37 "EchoSeats$Scene" "length" "I", Cond.fieldLink RX1 42 "EchoSeats$Scene" "breadth" "I", Cond.fieldLink RX1 21 "EchoSeats$Finder" "placeX" "[I", Cond.fieldLink RX1 24 "EchoSeats$Finder" "placeY" "[I", Cond.methodLink RX1 45 yX1_isPossible, Cond.instanceMethod yX1_isPossible, Cond.selects RX1 yX1_isPossible yX1_isPossible, Cond.code yX1_isPossible cX1_isPossible 5 (some .boolean), Cond.fieldLink RX1 30 "EchoSeats$Finder" "seen" "I"]
def wsX5_unseen_r2 : List Cond := [Cond.fieldLink RX1 9 "EchoSeats$Finder" "is" "[I", Cond.fieldLink RX1 15 "EchoSeats$Finder" "js" "[I", Cond.fieldLink RX1 18 "EchoSeats$Finder" "times" "[I", Cond.methodLink RX1 49 yX3_waySquared, Cond.instanceMethod yX3_waySquared, Cond.selects RX3 yX3_waySquared yX3_waySquared, Cond.initialized RX3, Cond.code yX3_waySquared cX3_waySquared 5 (some .int), Cond.methodLink RX3 71 yX3_imageX, Cond.instanceMethod yX3_imageX, Cond.selects RX3 yX3_imageX yX3_imageX, Cond.code yX3_imageX cX3_imageX 2 (some .int), Cond.fieldLink RX3 33 "EchoSeats$Scene" "length" "I", Cond.fieldLink RX3 40 "EchoSeats$Scene" "sourceX" "I", Cond.static yX5_mirrored, Cond.code yX5_mirrored cX5_mirrored 3 (some .int), Cond.methodLink RX3 75 yX3_imageY, Cond.instanceMethod yX3_imageY, Cond.selects RX3 yX3_imageY yX3_imageY, Cond.code yX3_imageY cX3_imageY 2 (some .int), Cond.fieldLink RX3 37 "EchoSeats$Scene" "breadth" "I", Cond.fieldLink RX3 43 "EchoSeats$Scene" "sourceY" "I", Cond.static yX5_squares, Cond.code yX5_squares cX5_squares 2 (some .int)]
def wsX5_unseen_r3 : List Cond := [Cond.static yX5_timeOf, Cond.code yX5_timeOf cX5_timeOf 5 (some .int)]
def wsX5_unseen : List Cond := .code yX5_unseen cX5_unseen 2 (some .int) :: ((wsX5_unseen_r1 ++ (wsX5_unseen_r2 ++ wsX5_unseen_r3)) ++ wsX50 ++ wsX10 ++ wsX30)
def wsX5_listen_r1 : List Cond := [Cond.fieldLink RX5 51 "EchoSeats" "finder" "LEchoSeats$Finder;", Cond.fieldLink RX5 10 "EchoSeats" "now" "LEchoSeats$Scene;", Cond.fieldLink RX5 222 "EchoSeats$Finder" "found" "I", Cond.methodLink RX5 219 yX1_findPlaces, Cond.instanceMethod yX1_findPlaces, Cond.selects RX1 yX1_findPlaces yX1_findPlaces, Cond.initialized RX1, Cond.code yX1_findPlaces cX1_findPlaces 4 none, Cond.fieldLink RX1 34 "EchoSeats$Finder" "found" "I", Cond.fieldLink RX1 37 "EchoSeats$Scene" "length" "I", Cond.fieldLink RX1 42 "EchoSeats$Scene" "breadth" "I", Cond.fieldLink RX1 21 "EchoSeats$Finder" "placeX" "[I", Cond.fieldLink RX1 24 "EchoSeats$Finder" "placeY" "[I", Cond.methodLink RX1 45 yX1_isPossible, Cond.instanceMethod yX1_isPossible, Cond.selects RX1 yX1_isPossible yX1_isPossible, Cond.code yX1_isPossible cX1_isPossible 5 (some .boolean), Cond.fieldLink RX1 30 "EchoSeats$Finder" "seen" "I", Cond.fieldLink RX1 9 "EchoSeats$Finder" "is" "[I", Cond.fieldLink RX1 15 "EchoSeats$Finder" "js" "[I", Cond.fieldLink RX1 18 "EchoSeats$Finder" "times" "[I", Cond.methodLink RX1 49 yX3_waySquared, Cond.instanceMethod yX3_waySquared, Cond.selects RX3 yX3_waySquared yX3_waySquared]
def wsX5_listen_r2 : List Cond := [Cond.initialized RX3, Cond.code yX3_waySquared cX3_waySquared 5 (some .int), Cond.methodLink RX3 71 yX3_imageX, Cond.instanceMethod yX3_imageX, Cond.selects RX3 yX3_imageX yX3_imageX, Cond.code yX3_imageX cX3_imageX 2 (some .int), Cond.fieldLink RX3 33 "EchoSeats$Scene" "length" "I", Cond.fieldLink RX3 40 "EchoSeats$Scene" "sourceX" "I", Cond.static yX5_mirrored, Cond.initialized RX5, Cond.code yX5_mirrored cX5_mirrored 3 (some .int), Cond.methodLink RX3 75 yX3_imageY, Cond.instanceMethod yX3_imageY, Cond.selects RX3 yX3_imageY yX3_imageY, Cond.code yX3_imageY cX3_imageY 2 (some .int), Cond.fieldLink RX3 37 "EchoSeats$Scene" "breadth" "I", Cond.fieldLink RX3 43 "EchoSeats$Scene" "sourceY" "I", Cond.static yX5_squares, Cond.code yX5_squares cX5_squares 2 (some .int), Cond.static yX5_timeOf, Cond.code yX5_timeOf cX5_timeOf 5 (some .int), Cond.methodLink RX5 231 yX1_tellingImage, Cond.instanceMethod yX1_tellingImage, Cond.selects RX1 yX1_tellingImage yX1_tellingImage]
def wsX5_listen_r3 : List Cond := [Cond.code yX1_tellingImage cX1_tellingImage 9 (some .int), Cond.fieldLink RX1 27 "EchoSeats$Finder" "toldBy" "[I", Cond.methodLink RX1 63 Lib.Math.abs.name, Cond.static Lib.Math.abs.name, Cond.initialized "java/lang/Math", Cond.code Lib.Math.abs.name Lib.Math.abs.code 1 (some .int), Cond.methodLink RX1 57 yJ7_fill_53178, Cond.static yJ7_fill_53178, Cond.initialized RJ7, Cond.code yJ7_fill_53178 cJ7_fill_53178 4 none, Cond.methodLink RX1 68 yX1_unlikeTimes, Cond.instanceMethod yX1_unlikeTimes, Cond.selects RX1 yX1_unlikeTimes yX1_unlikeTimes, Cond.code yX1_unlikeTimes cX1_unlikeTimes 10 (some .int), Cond.methodLink RX1 76 yX3_imageX, Cond.methodLink RX1 79 yX3_imageY, Cond.static yX5_imageCode, Cond.code yX5_imageCode cX5_imageCode 2 (some .int)]
def wsX5_listen : List Cond := .code yX5_listen cX5_listen 1 (some .int) :: ((wsX5_listen_r1 ++ (wsX5_listen_r2 ++ wsX5_listen_r3)) ++ wsX50 ++ wsX10 ++ wsX30)
def wsX5_keep_r1 : List Cond := [Cond.fieldLink RX5 19 "EchoSeats" "kept" "[LEchoSeats$Scene;", Cond.fieldLink RX5 10 "EchoSeats" "now" "LEchoSeats$Scene;", Cond.fieldLink RX5 23 "EchoSeats" "isKept" "[Z", Cond.methodLink RX5 55 yX5_isWithin, Cond.static yX5_isWithin, Cond.initialized RX5, Cond.code yX5_isWithin cX5_isWithin 3 (some .boolean), Cond.methodLink RX5 71 yX3_copyFrom, Cond.instanceMethod yX3_copyFrom, Cond.selects RX3 yX3_copyFrom yX3_copyFrom, Cond.initialized RX3, Cond.code yX3_copyFrom cX3_copyFrom 2 none, Cond.fieldLink RX3 33 "EchoSeats$Scene" "length" "I", Cond.fieldLink RX3 37 "EchoSeats$Scene" "breadth" "I", Cond.fieldLink RX3 40 "EchoSeats$Scene" "sourceX" "I", Cond.fieldLink RX3 43 "EchoSeats$Scene" "sourceY" "I", Cond.fieldLink RX3 46 "EchoSeats$Scene" "seats" "I", Cond.fieldLink RX3 49 "EchoSeats$Scene" "curtains" "I", Cond.fieldLink RX3 9 "EchoSeats$Scene" "swallows" "[I", Cond.methodLink RX3 58 arraycopyName, Cond.native arraycopyName, Cond.static arraycopyName, Cond.initialized "java/lang/System", Cond.fieldLink RX3 15 "EchoSeats$Scene" "seatX" "[I"]
def wsX5_keep_r2 : List Cond := [Cond.fieldLink RX3 18 "EchoSeats$Scene" "seatY" "[I", Cond.fieldLink RX3 21 "EchoSeats$Scene" "curtainX" "[I", Cond.fieldLink RX3 24 "EchoSeats$Scene" "curtainFrom" "[I", Cond.fieldLink RX3 27 "EchoSeats$Scene" "curtainTo" "[I", Cond.methodLink RX5 123 yX3_sourceCode, Cond.instanceMethod yX3_sourceCode, Cond.selects RX3 yX3_sourceCode yX3_sourceCode, Cond.code yX3_sourceCode cX3_sourceCode 1 (some .int)]
def wsX5_keep : List Cond := .code yX5_keep cX5_keep 2 (some .int) :: ((wsX5_keep_r1 ++ wsX5_keep_r2) ++ wsX50 ++ wsX30)
def wsX5_back_r1 : List Cond := [Cond.fieldLink RX5 23 "EchoSeats" "isKept" "[Z", Cond.fieldLink RX5 10 "EchoSeats" "now" "LEchoSeats$Scene;", Cond.fieldLink RX5 19 "EchoSeats" "kept" "[LEchoSeats$Scene;", Cond.fieldLink RX5 37 "EchoSeats" "past" "LEchoSeats$Past;", Cond.fieldLink RX5 75 "EchoSeats$Past" "size" "I", Cond.methodLink RX5 55 yX5_isWithin, Cond.static yX5_isWithin, Cond.initialized RX5, Cond.code yX5_isWithin cX5_isWithin 3 (some .boolean), Cond.methodLink RX5 71 yX3_copyFrom, Cond.instanceMethod yX3_copyFrom, Cond.selects RX3 yX3_copyFrom yX3_copyFrom, Cond.initialized RX3, Cond.code yX3_copyFrom cX3_copyFrom 2 none, Cond.fieldLink RX3 33 "EchoSeats$Scene" "length" "I", Cond.fieldLink RX3 37 "EchoSeats$Scene" "breadth" "I", Cond.fieldLink RX3 40 "EchoSeats$Scene" "sourceX" "I", Cond.fieldLink RX3 43 "EchoSeats$Scene" "sourceY" "I", Cond.fieldLink RX3 46 "EchoSeats$Scene" "seats" "I", Cond.fieldLink RX3 49 "EchoSeats$Scene" "curtains" "I", Cond.fieldLink RX3 9 "EchoSeats$Scene" "swallows" "[I", Cond.methodLink RX3 58 arraycopyName, Cond.native arraycopyName, Cond.static arraycopyName]
def wsX5_back_r2 : List Cond := [Cond.initialized "java/lang/System", Cond.fieldLink RX3 15 "EchoSeats$Scene" "seatX" "[I", Cond.fieldLink RX3 18 "EchoSeats$Scene" "seatY" "[I", Cond.fieldLink RX3 21 "EchoSeats$Scene" "curtainX" "[I", Cond.fieldLink RX3 24 "EchoSeats$Scene" "curtainFrom" "[I", Cond.fieldLink RX3 27 "EchoSeats$Scene" "curtainTo" "[I", Cond.methodLink RX5 123 yX3_sourceCode, Cond.instanceMethod yX3_sourceCode, Cond.selects RX3 yX3_sourceCode yX3_sourceCode, Cond.code yX3_sourceCode cX3_sourceCode 1 (some .int)]
def wsX5_back : List Cond := .code yX5_back cX5_back 2 (some .int) :: ((wsX5_back_r1 ++ wsX5_back_r2) ++ wsX50 ++ wsX20 ++ wsX30)
def wsX5_count : List Cond := .code yX5_count cX5_count 2 (some .int) :: ([.fieldLink RX5 10 "EchoSeats" "now" "LEchoSeats$Scene;", .fieldLink RX5 114 "EchoSeats$Scene" "length" "I", .fieldLink RX5 111 "EchoSeats$Scene" "breadth" "I", .fieldLink RX5 117 "EchoSeats$Scene" "sourceX" "I", .fieldLink RX5 120 "EchoSeats$Scene" "sourceY" "I", .fieldLink RX5 202 "EchoSeats$Scene" "seats" "I", .fieldLink RX5 234 "EchoSeats$Scene" "curtains" "I", .fieldLink RX5 51 "EchoSeats" "finder" "LEchoSeats$Finder;", .fieldLink RX5 76 "EchoSeats$Finder" "seen" "I", .fieldLink RX5 30 "EchoSeats" "text" "LEchoSeats$Text;", .fieldLink RX5 63 "EchoSeats$Text" "size" "I", .fieldLink RX5 37 "EchoSeats" "past" "LEchoSeats$Past;", .fieldLink RX5 75 "EchoSeats$Past" "size" "I"] ++ wsX50 ++ wsX30 ++ wsX10 ++ wsX40 ++ wsX20)
def wsX6_begins : List Cond := .code yX6_begins cX6_begins 2 none :: ([.fieldLink RX6 13 "EchoSeatsModel" "draft" "[I"] ++ wsX60)
def wsX6_becomes : List Cond := .code yX6_becomes cX6_becomes 2 none :: ([.fieldLink RX6 7 "EchoSeatsModel" "s" "[I", .fieldLink RX6 13 "EchoSeatsModel" "draft" "[I", .fieldLink RX6 19 "EchoSeatsModel" "isKept" "[Z", .fieldLink RX6 68 "EchoSeatsModel" "known" "I", .fieldLink RX6 72 "EchoSeatsModel" "seen" "I"] ++ wsX60)
def wsX6_init_r1 : List Cond := [Cond.methodLink RX6 1 objectInit, Cond.instanceMethod objectInit, Cond.code objectInit ⟨#[0xb1]⟩ 1 none, Cond.arrayClass .int, Cond.fieldLink RX6 7 "EchoSeatsModel" "s" "[I", Cond.fieldLink RX6 13 "EchoSeatsModel" "draft" "[I", Cond.fieldLink RX6 16 "EchoSeatsModel" "kept" "[I", Cond.arrayClass .boolean, Cond.fieldLink RX6 19 "EchoSeatsModel" "isKept" "[Z", Cond.fieldLink RX6 23 "EchoSeatsModel" "undone" "[I", Cond.fieldLink RX6 26 "EchoSeatsModel" "seenI" "[I", Cond.fieldLink RX6 29 "EchoSeatsModel" "seenJ" "[I", Cond.fieldLink RX6 32 "EchoSeatsModel" "seenTime" "[I", Cond.fieldLink RX6 35 "EchoSeatsModel" "text" "[I", Cond.fieldLink RX6 38 "EchoSeatsModel" "kind" "[I", Cond.fieldLink RX6 41 "EchoSeatsModel" "place" "[I", Cond.fieldLink RX6 44 "EchoSeatsModel" "value" "[I", Cond.fieldLink RX6 47 "EchoSeatsModel" "swallows" "[I", Cond.fieldLink RX6 50 "EchoSeatsModel" "time" "[I", Cond.fieldLink RX6 53 "EchoSeatsModel" "strength" "[I", Cond.fieldLink RX6 56 "EchoSeatsModel" "which" "[I", Cond.fieldLink RX6 59 "EchoSeatsModel" "told" "[Z", Cond.methodLink RX6 62 yX6_begins, Cond.instanceMethod yX6_begins]
def wsX6_init_r2 : List Cond := [Cond.selects RX6 yX6_begins yX6_begins, Cond.initialized RX6, Cond.code yX6_begins cX6_begins 2 none, Cond.methodLink RX6 65 yX6_becomes, Cond.instanceMethod yX6_becomes, Cond.selects RX6 yX6_becomes yX6_becomes, Cond.code yX6_becomes cX6_becomes 2 none, Cond.fieldLink RX6 68 "EchoSeatsModel" "known" "I", Cond.fieldLink RX6 72 "EchoSeatsModel" "seen" "I"]
def wsX6_init : List Cond := .code yX6_init cX6_init 1 none :: ((wsX6_init_r1 ++ wsX6_init_r2) ++ wsX60)
def wsX6_in : List Cond := .code yX6_in cX6_in 3 (some .boolean) :: ([])
def wsX6_size : List Cond := .code yX6_size cX6_size 1 (some .int) :: ([])
def wsX6_isWithin : List Cond := .code yX6_isWithin cX6_isWithin 3 (some .boolean) :: ([.fieldLink RX6 7 "EchoSeatsModel" "s" "[I", .methodLink RX6 75 yX6_in, .static yX6_in, .initialized RX6, .code yX6_in cX6_in 3 (some .boolean)] ++ wsX60)
def wsX6_isSeat : List Cond := .code yX6_isSeat cX6_isSeat 2 (some .boolean) :: ([.fieldLink RX6 7 "EchoSeatsModel" "s" "[I", .methodLink RX6 75 yX6_in, .static yX6_in, .initialized RX6, .code yX6_in cX6_in 3 (some .boolean)] ++ wsX60)
def wsX6_isCurtain : List Cond := .code yX6_isCurtain cX6_isCurtain 2 (some .boolean) :: ([.fieldLink RX6 7 "EchoSeatsModel" "s" "[I", .methodLink RX6 75 yX6_in, .static yX6_in, .initialized RX6, .code yX6_in cX6_in 3 (some .boolean)] ++ wsX60)
def wsX6_isImage : List Cond := .code yX6_isImage cX6_isImage 2 (some .boolean) :: ([.methodLink RX6 75 yX6_in, .static yX6_in, .initialized RX6, .code yX6_in cX6_in 3 (some .boolean), .methodLink RX6 79 yX6_size, .static yX6_size, .code yX6_size cX6_size 1 (some .int)])
def wsX6_type : List Cond := .code yX6_type cX6_type 2 (some .int) :: ([.fieldLink RX6 83 "EchoSeatsModel" "typed" "I", .fieldLink RX6 35 "EchoSeatsModel" "text" "[I", .methodLink RX6 75 yX6_in, .static yX6_in, .initialized RX6, .code yX6_in cX6_in 3 (some .boolean)] ++ wsX60)
def wsX6_clear : List Cond := .code yX6_clear cX6_clear 2 (some .int) :: ([.fieldLink RX6 83 "EchoSeatsModel" "typed" "I"] ++ wsX60)
def wsX6_isFigure : List Cond := .code yX6_isFigure cX6_isFigure 1 (some .boolean) :: ([.methodLink RX6 75 yX6_in, .static yX6_in, .initialized RX6, .code yX6_in cX6_in 3 (some .boolean)])
def wsX6_numbered : List Cond := .code yX6_numbered cX6_numbered 5 (some .int) :: ([.fieldLink RX6 83 "EchoSeatsModel" "typed" "I", .fieldLink RX6 35 "EchoSeatsModel" "text" "[I", .fieldLink RX6 38 "EchoSeatsModel" "kind" "[I", .fieldLink RX6 90 "EchoSeatsModel" "tokens" "I", .fieldLink RX6 44 "EchoSeatsModel" "value" "[I", .methodLink RX6 86 yX6_isFigure, .static yX6_isFigure, .initialized RX6, .code yX6_isFigure cX6_isFigure 1 (some .boolean), .methodLink RX6 75 yX6_in, .static yX6_in, .code yX6_in cX6_in 3 (some .boolean)] ++ wsX60)
def wsX6_isLetter : List Cond := .code yX6_isLetter cX6_isLetter 1 (some .boolean) :: ([])
def wsX6_parts : List Cond := .code yX6_parts cX6_parts 2 none :: ([.fieldLink RX6 90 "EchoSeatsModel" "tokens" "I", .fieldLink RX6 83 "EchoSeatsModel" "typed" "I", .fieldLink RX6 35 "EchoSeatsModel" "text" "[I", .fieldLink RX6 41 "EchoSeatsModel" "place" "[I", .fieldLink RX6 38 "EchoSeatsModel" "kind" "[I", .methodLink RX6 86 yX6_isFigure, .static yX6_isFigure, .initialized RX6, .code yX6_isFigure cX6_isFigure 1 (some .boolean), .methodLink RX6 75 yX6_in, .static yX6_in, .code yX6_in cX6_in 3 (some .boolean), .methodLink RX6 93 yX6_numbered, .instanceMethod yX6_numbered, .selects RX6 yX6_numbered yX6_numbered, .code yX6_numbered cX6_numbered 5 (some .int), .fieldLink RX6 44 "EchoSeatsModel" "value" "[I", .methodLink RX6 96 yX6_isLetter, .static yX6_isLetter, .code yX6_isLetter cX6_isLetter 1 (some .boolean)] ++ wsX60)
def wsX6_placeOf : List Cond := .code yX6_placeOf cX6_placeOf 2 (some .int) :: ([.fieldLink RX6 90 "EchoSeatsModel" "tokens" "I", .fieldLink RX6 41 "EchoSeatsModel" "place" "[I", .fieldLink RX6 83 "EchoSeatsModel" "typed" "I"] ++ wsX60)
def wsX6_isKind : List Cond := .code yX6_isKind cX6_isKind 3 (some .boolean) :: ([.fieldLink RX6 90 "EchoSeatsModel" "tokens" "I", .fieldLink RX6 38 "EchoSeatsModel" "kind" "[I"] ++ wsX60)
def wsX6_isNumber : List Cond := .code yX6_isNumber cX6_isNumber 4 (some .boolean) :: ([.fieldLink RX6 44 "EchoSeatsModel" "value" "[I", .methodLink RX6 99 yX6_isKind, .instanceMethod yX6_isKind, .selects RX6 yX6_isKind yX6_isKind, .initialized RX6, .code yX6_isKind cX6_isKind 3 (some .boolean), .fieldLink RX6 90 "EchoSeatsModel" "tokens" "I", .fieldLink RX6 38 "EchoSeatsModel" "kind" "[I", .methodLink RX6 75 yX6_in, .static yX6_in, .code yX6_in cX6_in 3 (some .boolean)] ++ wsX60)
def wsX6_token : List Cond := .code yX6_token cX6_token 2 (some .int) :: ([.fieldLink RX6 90 "EchoSeatsModel" "tokens" "I", .fieldLink RX6 38 "EchoSeatsModel" "kind" "[I"] ++ wsX60)
def wsX6_firstWrong : List Cond := .code yX6_firstWrong cX6_firstWrong 9 (some .int) :: ([.fieldLink RX6 13 "EchoSeatsModel" "draft" "[I", .fieldLink RX6 44 "EchoSeatsModel" "value" "[I", .methodLink RX6 103 yX6_token, .instanceMethod yX6_token, .selects RX6 yX6_token yX6_token, .initialized RX6, .code yX6_token cX6_token 2 (some .int), .fieldLink RX6 90 "EchoSeatsModel" "tokens" "I", .fieldLink RX6 38 "EchoSeatsModel" "kind" "[I", .methodLink RX6 106 yX6_isNumber, .instanceMethod yX6_isNumber, .selects RX6 yX6_isNumber yX6_isNumber, .code yX6_isNumber cX6_isNumber 4 (some .boolean), .methodLink RX6 99 yX6_isKind, .instanceMethod yX6_isKind, .selects RX6 yX6_isKind yX6_isKind, .code yX6_isKind cX6_isKind 3 (some .boolean), .methodLink RX6 75 yX6_in, .static yX6_in, .code yX6_in cX6_in 3 (some .boolean)] ++ wsX60)
def wsX6_lay : List Cond := .code yX6_lay cX6_lay 4 none :: ([.fieldLink RX6 44 "EchoSeatsModel" "value" "[I", .fieldLink RX6 38 "EchoSeatsModel" "kind" "[I", .fieldLink RX6 13 "EchoSeatsModel" "draft" "[I"] ++ wsX60)
def wsX6_room_r1 : List Cond := [Cond.fieldLink RX6 90 "EchoSeatsModel" "tokens" "I", Cond.fieldLink RX6 38 "EchoSeatsModel" "kind" "[I", Cond.fieldLink RX6 83 "EchoSeatsModel" "typed" "I", Cond.methodLink RX6 109 yX6_parts, Cond.instanceMethod yX6_parts, Cond.selects RX6 yX6_parts yX6_parts, Cond.initialized RX6, Cond.code yX6_parts cX6_parts 2 none, Cond.fieldLink RX6 35 "EchoSeatsModel" "text" "[I", Cond.fieldLink RX6 41 "EchoSeatsModel" "place" "[I", Cond.methodLink RX6 86 yX6_isFigure, Cond.static yX6_isFigure, Cond.code yX6_isFigure cX6_isFigure 1 (some .boolean), Cond.methodLink RX6 75 yX6_in, Cond.static yX6_in, Cond.code yX6_in cX6_in 3 (some .boolean), Cond.methodLink RX6 93 yX6_numbered, Cond.instanceMethod yX6_numbered, Cond.selects RX6 yX6_numbered yX6_numbered, Cond.code yX6_numbered cX6_numbered 5 (some .int), Cond.fieldLink RX6 44 "EchoSeatsModel" "value" "[I", Cond.methodLink RX6 96 yX6_isLetter, Cond.static yX6_isLetter, Cond.code yX6_isLetter cX6_isLetter 1 (some .boolean)]
def wsX6_room_r2 : List Cond := [Cond.methodLink RX6 62 yX6_begins, Cond.instanceMethod yX6_begins, Cond.selects RX6 yX6_begins yX6_begins, Cond.code yX6_begins cX6_begins 2 none, Cond.fieldLink RX6 13 "EchoSeatsModel" "draft" "[I", Cond.methodLink RX6 112 yX6_firstWrong, Cond.instanceMethod yX6_firstWrong, Cond.selects RX6 yX6_firstWrong yX6_firstWrong, Cond.code yX6_firstWrong cX6_firstWrong 9 (some .int), Cond.methodLink RX6 103 yX6_token, Cond.instanceMethod yX6_token, Cond.selects RX6 yX6_token yX6_token, Cond.code yX6_token cX6_token 2 (some .int), Cond.methodLink RX6 106 yX6_isNumber, Cond.instanceMethod yX6_isNumber, Cond.selects RX6 yX6_isNumber yX6_isNumber, Cond.code yX6_isNumber cX6_isNumber 4 (some .boolean), Cond.methodLink RX6 99 yX6_isKind, Cond.instanceMethod yX6_isKind, Cond.selects RX6 yX6_isKind yX6_isKind, Cond.code yX6_isKind cX6_isKind 3 (some .boolean), Cond.methodLink RX6 115 yX6_placeOf, Cond.instanceMethod yX6_placeOf, Cond.selects RX6 yX6_placeOf yX6_placeOf]
def wsX6_room_r3 : List Cond := [Cond.code yX6_placeOf cX6_placeOf 2 (some .int), Cond.methodLink RX6 118 yX6_lay, Cond.instanceMethod yX6_lay, Cond.selects RX6 yX6_lay yX6_lay, Cond.code yX6_lay cX6_lay 4 none, Cond.methodLink RX6 65 yX6_becomes, Cond.instanceMethod yX6_becomes, Cond.selects RX6 yX6_becomes yX6_becomes, Cond.code yX6_becomes cX6_becomes 2 none, Cond.fieldLink RX6 7 "EchoSeatsModel" "s" "[I", Cond.fieldLink RX6 19 "EchoSeatsModel" "isKept" "[Z", Cond.fieldLink RX6 68 "EchoSeatsModel" "known" "I", Cond.fieldLink RX6 72 "EchoSeatsModel" "seen" "I"]
def wsX6_room : List Cond := .code yX6_room cX6_room 4 (some .int) :: ((wsX6_room_r1 ++ (wsX6_room_r2 ++ wsX6_room_r3)) ++ wsX60)
def wsX6_wall : List Cond := .code yX6_wall cX6_wall 2 (some .int) :: ([.fieldLink RX6 7 "EchoSeatsModel" "s" "[I", .methodLink RX6 75 yX6_in, .static yX6_in, .initialized RX6, .code yX6_in cX6_in 3 (some .boolean)] ++ wsX60)
def wsX6_seat : List Cond := .code yX6_seat cX6_seat 3 (some .int) :: ([.fieldLink RX6 7 "EchoSeatsModel" "s" "[I", .methodLink RX6 122 yX6_isSeat, .instanceMethod yX6_isSeat, .selects RX6 yX6_isSeat yX6_isSeat, .initialized RX6, .code yX6_isSeat cX6_isSeat 2 (some .boolean), .methodLink RX6 75 yX6_in, .static yX6_in, .code yX6_in cX6_in 3 (some .boolean)] ++ wsX60)
def wsX6_curtain : List Cond := .code yX6_curtain cX6_curtain 3 (some .int) :: ([.fieldLink RX6 7 "EchoSeatsModel" "s" "[I", .methodLink RX6 125 yX6_isCurtain, .instanceMethod yX6_isCurtain, .selects RX6 yX6_isCurtain yX6_isCurtain, .initialized RX6, .code yX6_isCurtain cX6_isCurtain 2 (some .boolean), .methodLink RX6 75 yX6_in, .static yX6_in, .code yX6_in cX6_in 3 (some .boolean)] ++ wsX60)
def wsX6_known : List Cond := .code yX6_known cX6_known 4 none :: ([.fieldLink RX6 68 "EchoSeatsModel" "known" "I", .fieldLink RX6 23 "EchoSeatsModel" "undone" "[I", .fieldLink RX6 7 "EchoSeatsModel" "s" "[I"] ++ wsX60)
def wsX6_pads : List Cond := .code yX6_pads cX6_pads 4 (some .int) :: ([.fieldLink RX6 7 "EchoSeatsModel" "s" "[I", .methodLink RX6 75 yX6_in, .static yX6_in, .initialized RX6, .code yX6_in cX6_in 3 (some .boolean), .methodLink RX6 128 yX6_known, .instanceMethod yX6_known, .selects RX6 yX6_known yX6_known, .code yX6_known cX6_known 4 none, .fieldLink RX6 68 "EchoSeatsModel" "known" "I", .fieldLink RX6 23 "EchoSeatsModel" "undone" "[I"] ++ wsX60)
def wsX6_draws : List Cond := .code yX6_draws cX6_draws 5 (some .int) :: ([.fieldLink RX6 7 "EchoSeatsModel" "s" "[I", .methodLink RX6 125 yX6_isCurtain, .instanceMethod yX6_isCurtain, .selects RX6 yX6_isCurtain yX6_isCurtain, .initialized RX6, .code yX6_isCurtain cX6_isCurtain 2 (some .boolean), .methodLink RX6 75 yX6_in, .static yX6_in, .code yX6_in cX6_in 3 (some .boolean), .methodLink RX6 128 yX6_known, .instanceMethod yX6_known, .selects RX6 yX6_known yX6_known, .code yX6_known cX6_known 4 none, .fieldLink RX6 68 "EchoSeatsModel" "known" "I", .fieldLink RX6 23 "EchoSeatsModel" "undone" "[I"] ++ wsX60)
def wsX6_sourceAt : List Cond := .code yX6_sourceAt cX6_sourceAt 1 (some .int) :: ([.fieldLink RX6 7 "EchoSeatsModel" "s" "[I"] ++ wsX60)
def wsX6_moves : List Cond := .code yX6_moves cX6_moves 4 (some .int) :: ([.fieldLink RX6 7 "EchoSeatsModel" "s" "[I", .methodLink RX6 131 yX6_isWithin, .instanceMethod yX6_isWithin, .selects RX6 yX6_isWithin yX6_isWithin, .initialized RX6, .code yX6_isWithin cX6_isWithin 3 (some .boolean), .methodLink RX6 75 yX6_in, .static yX6_in, .code yX6_in cX6_in 3 (some .boolean), .methodLink RX6 134 yX6_sourceAt, .instanceMethod yX6_sourceAt, .selects RX6 yX6_sourceAt yX6_sourceAt, .code yX6_sourceAt cX6_sourceAt 1 (some .int), .methodLink RX6 128 yX6_known, .instanceMethod yX6_known, .selects RX6 yX6_known yX6_known, .code yX6_known cX6_known 4 none, .fieldLink RX6 68 "EchoSeatsModel" "known" "I", .fieldLink RX6 23 "EchoSeatsModel" "undone" "[I"] ++ wsX60)
def wsX6_undo : List Cond := .code yX6_undo cX6_undo 1 (some .int) :: ([.fieldLink RX6 68 "EchoSeatsModel" "known" "I", .fieldLink RX6 7 "EchoSeatsModel" "s" "[I", .fieldLink RX6 23 "EchoSeatsModel" "undone" "[I"] ++ wsX60)
def wsX6_mirrored : List Cond := .code yX6_mirrored cX6_mirrored 3 (some .int) :: ([])
def wsX6_times : List Cond := .code yX6_times cX6_times 5 (some .int) :: ([.methodLink RX6 79 yX6_size, .static yX6_size, .initialized RX6, .code yX6_size cX6_size 1 (some .int)])
def wsX6_softTimes : List Cond := .code yX6_softTimes cX6_softTimes 5 (some .int) :: ([.fieldLink RX6 7 "EchoSeatsModel" "s" "[I", .methodLink RX6 138 yX6_times, .static yX6_times, .initialized RX6, .code yX6_times cX6_times 5 (some .int), .methodLink RX6 79 yX6_size, .static yX6_size, .code yX6_size cX6_size 1 (some .int)] ++ wsX60)
def wsX6_mirror : List Cond := .code yX6_mirror cX6_mirror 4 (some .int) :: ([.constant RX6 145 (-1000000), .fieldLink RX6 7 "EchoSeatsModel" "s" "[I", .methodLink RX6 142 yX6_isImage, .static yX6_isImage, .initialized RX6, .code yX6_isImage cX6_isImage 2 (some .boolean), .methodLink RX6 75 yX6_in, .static yX6_in, .code yX6_in cX6_in 3 (some .boolean), .methodLink RX6 79 yX6_size, .static yX6_size, .code yX6_size cX6_size 1 (some .int), .methodLink RX6 146 yX6_mirrored, .static yX6_mirrored, .code yX6_mirrored cX6_mirrored 3 (some .int), .methodLink RX6 149 yX6_softTimes, .instanceMethod yX6_softTimes, .selects RX6 yX6_softTimes yX6_softTimes, .code yX6_softTimes cX6_softTimes 5 (some .int), .methodLink RX6 138 yX6_times, .static yX6_times, .code yX6_times cX6_times 5 (some .int)] ++ wsX60)
def wsX6_wayOf : List Cond := .code yX6_wayOf cX6_wayOf 7 (some .int) :: ([.fieldLink RX6 7 "EchoSeatsModel" "s" "[I", .methodLink RX6 146 yX6_mirrored, .static yX6_mirrored, .initialized RX6, .code yX6_mirrored cX6_mirrored 3 (some .int)] ++ wsX60)
def wsX6_timeOf : List Cond := .code yX6_timeOf cX6_timeOf 4 (some .int) :: ([])
def wsX6_strengthOf : List Cond := .code yX6_strengthOf cX6_strengthOf 7 (some .int) :: ([.constant RX6 153 (1000000), .fieldLink RX6 47 "EchoSeatsModel" "swallows" "[I", .methodLink RX6 138 yX6_times, .static yX6_times, .initialized RX6, .code yX6_times cX6_times 5 (some .int), .methodLink RX6 79 yX6_size, .static yX6_size, .code yX6_size cX6_size 1 (some .int)] ++ wsX60)
def wsX6_swallowsNow : List Cond := .code yX6_swallowsNow cX6_swallowsNow 2 none :: ([.fieldLink RX6 47 "EchoSeatsModel" "swallows" "[I", .fieldLink RX6 7 "EchoSeatsModel" "s" "[I"] ++ wsX60)
def wsX6_meets : List Cond := .code yX6_meets cX6_meets 14 (some .boolean) :: ([.fieldLink RX6 7 "EchoSeatsModel" "s" "[I", .methodLink RX6 146 yX6_mirrored, .static yX6_mirrored, .initialized RX6, .code yX6_mirrored cX6_mirrored 3 (some .int), .methodLink RX6 79 yX6_size, .static yX6_size, .code yX6_size cX6_size 1 (some .int)] ++ wsX60)
def wsX6_isHidden : List Cond := .code yX6_isHidden cX6_isHidden 8 (some .boolean) :: ([.fieldLink RX6 7 "EchoSeatsModel" "s" "[I", .methodLink RX6 154 yX6_meets, .instanceMethod yX6_meets, .selects RX6 yX6_meets yX6_meets, .initialized RX6, .code yX6_meets cX6_meets 14 (some .boolean), .methodLink RX6 146 yX6_mirrored, .static yX6_mirrored, .code yX6_mirrored cX6_mirrored 3 (some .int), .methodLink RX6 79 yX6_size, .static yX6_size, .code yX6_size cX6_size 1 (some .int)] ++ wsX60)
def wsX6_path_r1 : List Cond := [Cond.fieldLink RX6 7 "EchoSeatsModel" "s" "[I", Cond.methodLink RX6 122 yX6_isSeat, Cond.instanceMethod yX6_isSeat, Cond.selects RX6 yX6_isSeat yX6_isSeat, Cond.initialized RX6, Cond.code yX6_isSeat cX6_isSeat 2 (some .boolean), Cond.methodLink RX6 75 yX6_in, Cond.static yX6_in, Cond.code yX6_in cX6_in 3 (some .boolean), Cond.methodLink RX6 142 yX6_isImage, Cond.static yX6_isImage, Cond.code yX6_isImage cX6_isImage 2 (some .boolean), Cond.methodLink RX6 79 yX6_size, Cond.static yX6_size, Cond.code yX6_size cX6_size 1 (some .int), Cond.methodLink RX6 158 yX6_wayOf, Cond.instanceMethod yX6_wayOf, Cond.selects RX6 yX6_wayOf yX6_wayOf, Cond.code yX6_wayOf cX6_wayOf 7 (some .int), Cond.methodLink RX6 146 yX6_mirrored, Cond.static yX6_mirrored, Cond.code yX6_mirrored cX6_mirrored 3 (some .int), Cond.methodLink RX6 162 yX6_swallowsNow, Cond.instanceMethod yX6_swallowsNow]
def wsX6_path_r2 : List Cond := [Cond.selects RX6 yX6_swallowsNow yX6_swallowsNow, Cond.code yX6_swallowsNow cX6_swallowsNow 2 none, Cond.fieldLink RX6 47 "EchoSeatsModel" "swallows" "[I", Cond.methodLink RX6 165 yX6_timeOf, Cond.static yX6_timeOf, Cond.code yX6_timeOf cX6_timeOf 4 (some .int), Cond.methodLink RX6 168 yX6_strengthOf, Cond.instanceMethod yX6_strengthOf, Cond.selects RX6 yX6_strengthOf yX6_strengthOf, Cond.code yX6_strengthOf cX6_strengthOf 7 (some .int), Cond.constant RX6 153 (1000000), Cond.methodLink RX6 138 yX6_times, Cond.static yX6_times, Cond.code yX6_times cX6_times 5 (some .int), Cond.methodLink RX6 171 yX6_isHidden, Cond.instanceMethod yX6_isHidden, Cond.selects RX6 yX6_isHidden yX6_isHidden, Cond.code yX6_isHidden cX6_isHidden 8 (some .boolean), Cond.methodLink RX6 154 yX6_meets, Cond.instanceMethod yX6_meets, Cond.selects RX6 yX6_meets yX6_meets, Cond.code yX6_meets cX6_meets 14 (some .boolean)]
def wsX6_path : List Cond := .code yX6_path cX6_path 8 (some .int) :: ((wsX6_path_r1 ++ wsX6_path_r2) ++ wsX60)
def wsX6_hears_r1 : List Cond := [Cond.fieldLink RX6 7 "EchoSeatsModel" "s" "[I", Cond.fieldLink RX6 175 "EchoSeatsModel" "heard" "I", Cond.fieldLink RX6 50 "EchoSeatsModel" "time" "[I", Cond.fieldLink RX6 53 "EchoSeatsModel" "strength" "[I", Cond.fieldLink RX6 56 "EchoSeatsModel" "which" "[I", Cond.methodLink RX6 142 yX6_isImage, Cond.static yX6_isImage, Cond.initialized RX6, Cond.code yX6_isImage cX6_isImage 2 (some .boolean), Cond.methodLink RX6 75 yX6_in, Cond.static yX6_in, Cond.code yX6_in cX6_in 3 (some .boolean), Cond.methodLink RX6 79 yX6_size, Cond.static yX6_size, Cond.code yX6_size cX6_size 1 (some .int), Cond.methodLink RX6 171 yX6_isHidden, Cond.instanceMethod yX6_isHidden, Cond.selects RX6 yX6_isHidden yX6_isHidden, Cond.code yX6_isHidden cX6_isHidden 8 (some .boolean), Cond.methodLink RX6 154 yX6_meets, Cond.instanceMethod yX6_meets, Cond.selects RX6 yX6_meets yX6_meets, Cond.code yX6_meets cX6_meets 14 (some .boolean), Cond.methodLink RX6 146 yX6_mirrored]
def wsX6_hears_r2 : List Cond := [Cond.static yX6_mirrored, Cond.code yX6_mirrored cX6_mirrored 3 (some .int), Cond.methodLink RX6 158 yX6_wayOf, Cond.instanceMethod yX6_wayOf, Cond.selects RX6 yX6_wayOf yX6_wayOf, Cond.code yX6_wayOf cX6_wayOf 7 (some .int), Cond.methodLink RX6 165 yX6_timeOf, Cond.static yX6_timeOf, Cond.code yX6_timeOf cX6_timeOf 4 (some .int), Cond.methodLink RX6 168 yX6_strengthOf, Cond.instanceMethod yX6_strengthOf, Cond.selects RX6 yX6_strengthOf yX6_strengthOf, Cond.code yX6_strengthOf cX6_strengthOf 7 (some .int), Cond.constant RX6 153 (1000000), Cond.fieldLink RX6 47 "EchoSeatsModel" "swallows" "[I", Cond.methodLink RX6 138 yX6_times, Cond.static yX6_times, Cond.code yX6_times cX6_times 5 (some .int)]
def wsX6_hears : List Cond := .code yX6_hears cX6_hears 7 none :: ((wsX6_hears_r1 ++ wsX6_hears_r2) ++ wsX60)
def wsX6_hearsNow_r1 : List Cond := [Cond.methodLink RX6 162 yX6_swallowsNow, Cond.instanceMethod yX6_swallowsNow, Cond.selects RX6 yX6_swallowsNow yX6_swallowsNow, Cond.initialized RX6, Cond.code yX6_swallowsNow cX6_swallowsNow 2 none, Cond.fieldLink RX6 47 "EchoSeatsModel" "swallows" "[I", Cond.fieldLink RX6 7 "EchoSeatsModel" "s" "[I", Cond.methodLink RX6 178 yX6_hears, Cond.instanceMethod yX6_hears, Cond.selects RX6 yX6_hears yX6_hears, Cond.code yX6_hears cX6_hears 7 none, Cond.fieldLink RX6 175 "EchoSeatsModel" "heard" "I", Cond.fieldLink RX6 50 "EchoSeatsModel" "time" "[I", Cond.fieldLink RX6 53 "EchoSeatsModel" "strength" "[I", Cond.fieldLink RX6 56 "EchoSeatsModel" "which" "[I", Cond.methodLink RX6 142 yX6_isImage, Cond.static yX6_isImage, Cond.code yX6_isImage cX6_isImage 2 (some .boolean), Cond.methodLink RX6 75 yX6_in, Cond.static yX6_in, Cond.code yX6_in cX6_in 3 (some .boolean), Cond.methodLink RX6 79 yX6_size, Cond.static yX6_size, Cond.code yX6_size cX6_size 1 (some .int)]
def wsX6_hearsNow_r2 : List Cond := [Cond.methodLink RX6 171 yX6_isHidden, Cond.instanceMethod yX6_isHidden, Cond.selects RX6 yX6_isHidden yX6_isHidden, Cond.code yX6_isHidden cX6_isHidden 8 (some .boolean), Cond.methodLink RX6 154 yX6_meets, Cond.instanceMethod yX6_meets, Cond.selects RX6 yX6_meets yX6_meets, Cond.code yX6_meets cX6_meets 14 (some .boolean), Cond.methodLink RX6 146 yX6_mirrored, Cond.static yX6_mirrored, Cond.code yX6_mirrored cX6_mirrored 3 (some .int), Cond.methodLink RX6 158 yX6_wayOf, Cond.instanceMethod yX6_wayOf, Cond.selects RX6 yX6_wayOf yX6_wayOf, Cond.code yX6_wayOf cX6_wayOf 7 (some .int), Cond.methodLink RX6 165 yX6_timeOf, Cond.static yX6_timeOf, Cond.code yX6_timeOf cX6_timeOf 4 (some .int), Cond.methodLink RX6 168 yX6_strengthOf, Cond.instanceMethod yX6_strengthOf, Cond.selects RX6 yX6_strengthOf yX6_strengthOf, Cond.code yX6_strengthOf cX6_strengthOf 7 (some .int), Cond.constant RX6 153 (1000000), Cond.methodLink RX6 138 yX6_times]
def wsX6_hearsNow_r3 : List Cond := [Cond.static yX6_times, Cond.code yX6_times cX6_times 5 (some .int)]
def wsX6_hearsNow : List Cond := .code yX6_hearsNow cX6_hearsNow 2 none :: ((wsX6_hearsNow_r1 ++ (wsX6_hearsNow_r2 ++ wsX6_hearsNow_r3)) ++ wsX60)
def wsX6_rankedAt : List Cond := .code yX6_rankedAt cX6_rankedAt 6 (some .int) :: ([.fieldLink RX6 175 "EchoSeatsModel" "heard" "I", .fieldLink RX6 50 "EchoSeatsModel" "time" "[I"] ++ wsX60)
def wsX6_heard_r1 : List Cond := [Cond.fieldLink RX6 175 "EchoSeatsModel" "heard" "I", Cond.fieldLink RX6 50 "EchoSeatsModel" "time" "[I", Cond.fieldLink RX6 53 "EchoSeatsModel" "strength" "[I", Cond.fieldLink RX6 56 "EchoSeatsModel" "which" "[I", Cond.methodLink RX6 122 yX6_isSeat, Cond.instanceMethod yX6_isSeat, Cond.selects RX6 yX6_isSeat yX6_isSeat, Cond.initialized RX6, Cond.code yX6_isSeat cX6_isSeat 2 (some .boolean), Cond.fieldLink RX6 7 "EchoSeatsModel" "s" "[I", Cond.methodLink RX6 75 yX6_in, Cond.static yX6_in, Cond.code yX6_in cX6_in 3 (some .boolean), Cond.methodLink RX6 181 yX6_hearsNow, Cond.instanceMethod yX6_hearsNow, Cond.selects RX6 yX6_hearsNow yX6_hearsNow, Cond.code yX6_hearsNow cX6_hearsNow 2 none, Cond.methodLink RX6 162 yX6_swallowsNow, Cond.instanceMethod yX6_swallowsNow, Cond.selects RX6 yX6_swallowsNow yX6_swallowsNow, Cond.code yX6_swallowsNow cX6_swallowsNow 2 none, Cond.fieldLink RX6 47 "EchoSeatsModel" "swallows" "[I", Cond.methodLink RX6 178 yX6_hears, Cond.instanceMethod yX6_hears]
def wsX6_heard_r2 : List Cond := [Cond.selects RX6 yX6_hears yX6_hears, Cond.code yX6_hears cX6_hears 7 none, Cond.methodLink RX6 142 yX6_isImage, Cond.static yX6_isImage, Cond.code yX6_isImage cX6_isImage 2 (some .boolean), Cond.methodLink RX6 79 yX6_size, Cond.static yX6_size, Cond.code yX6_size cX6_size 1 (some .int), Cond.methodLink RX6 171 yX6_isHidden, Cond.instanceMethod yX6_isHidden, Cond.selects RX6 yX6_isHidden yX6_isHidden, Cond.code yX6_isHidden cX6_isHidden 8 (some .boolean), Cond.methodLink RX6 154 yX6_meets, Cond.instanceMethod yX6_meets, Cond.selects RX6 yX6_meets yX6_meets, Cond.code yX6_meets cX6_meets 14 (some .boolean), Cond.methodLink RX6 146 yX6_mirrored, Cond.static yX6_mirrored, Cond.code yX6_mirrored cX6_mirrored 3 (some .int), Cond.methodLink RX6 158 yX6_wayOf, Cond.instanceMethod yX6_wayOf, Cond.selects RX6 yX6_wayOf yX6_wayOf, Cond.code yX6_wayOf cX6_wayOf 7 (some .int), Cond.methodLink RX6 165 yX6_timeOf]
def wsX6_heard_r3 : List Cond := [Cond.static yX6_timeOf, Cond.code yX6_timeOf cX6_timeOf 4 (some .int), Cond.methodLink RX6 168 yX6_strengthOf, Cond.instanceMethod yX6_strengthOf, Cond.selects RX6 yX6_strengthOf yX6_strengthOf, Cond.code yX6_strengthOf cX6_strengthOf 7 (some .int), Cond.constant RX6 153 (1000000), Cond.methodLink RX6 138 yX6_times, Cond.static yX6_times, Cond.code yX6_times cX6_times 5 (some .int), Cond.methodLink RX6 184 yX6_rankedAt, Cond.instanceMethod yX6_rankedAt, Cond.selects RX6 yX6_rankedAt yX6_rankedAt, Cond.code yX6_rankedAt cX6_rankedAt 6 (some .int)]
def wsX6_heard : List Cond := .code yX6_heard cX6_heard 5 (some .int) :: ((wsX6_heard_r1 ++ (wsX6_heard_r2 ++ wsX6_heard_r3)) ++ wsX60)
def wsX6_soundBy : List Cond := .code yX6_soundBy cX6_soundBy 4 (some .int) :: ([.fieldLink RX6 175 "EchoSeatsModel" "heard" "I", .fieldLink RX6 50 "EchoSeatsModel" "time" "[I", .fieldLink RX6 53 "EchoSeatsModel" "strength" "[I"] ++ wsX60)
def wsX6_soundAll : List Cond := .code yX6_soundAll cX6_soundAll 1 (some .int) :: ([.methodLink RX6 187 yX6_soundBy, .instanceMethod yX6_soundBy, .selects RX6 yX6_soundBy yX6_soundBy, .initialized RX6, .code yX6_soundBy cX6_soundBy 4 (some .int), .fieldLink RX6 175 "EchoSeatsModel" "heard" "I", .fieldLink RX6 50 "EchoSeatsModel" "time" "[I", .fieldLink RX6 53 "EchoSeatsModel" "strength" "[I"] ++ wsX60)
def wsX6_sound_r1 : List Cond := [Cond.fieldLink RX6 175 "EchoSeatsModel" "heard" "I", Cond.fieldLink RX6 50 "EchoSeatsModel" "time" "[I", Cond.methodLink RX6 122 yX6_isSeat, Cond.instanceMethod yX6_isSeat, Cond.selects RX6 yX6_isSeat yX6_isSeat, Cond.initialized RX6, Cond.code yX6_isSeat cX6_isSeat 2 (some .boolean), Cond.fieldLink RX6 7 "EchoSeatsModel" "s" "[I", Cond.methodLink RX6 75 yX6_in, Cond.static yX6_in, Cond.code yX6_in cX6_in 3 (some .boolean), Cond.methodLink RX6 181 yX6_hearsNow, Cond.instanceMethod yX6_hearsNow, Cond.selects RX6 yX6_hearsNow yX6_hearsNow, Cond.code yX6_hearsNow cX6_hearsNow 2 none, Cond.methodLink RX6 162 yX6_swallowsNow, Cond.instanceMethod yX6_swallowsNow, Cond.selects RX6 yX6_swallowsNow yX6_swallowsNow, Cond.code yX6_swallowsNow cX6_swallowsNow 2 none, Cond.fieldLink RX6 47 "EchoSeatsModel" "swallows" "[I", Cond.methodLink RX6 178 yX6_hears, Cond.instanceMethod yX6_hears, Cond.selects RX6 yX6_hears yX6_hears, Cond.code yX6_hears cX6_hears 7 none]
def wsX6_sound_r2 : List Cond := [Cond.fieldLink RX6 53 "EchoSeatsModel" "strength" "[I", Cond.fieldLink RX6 56 "EchoSeatsModel" "which" "[I", Cond.methodLink RX6 142 yX6_isImage, Cond.static yX6_isImage, Cond.code yX6_isImage cX6_isImage 2 (some .boolean), Cond.methodLink RX6 79 yX6_size, Cond.static yX6_size, Cond.code yX6_size cX6_size 1 (some .int), Cond.methodLink RX6 171 yX6_isHidden, Cond.instanceMethod yX6_isHidden, Cond.selects RX6 yX6_isHidden yX6_isHidden, Cond.code yX6_isHidden cX6_isHidden 8 (some .boolean), Cond.methodLink RX6 154 yX6_meets, Cond.instanceMethod yX6_meets, Cond.selects RX6 yX6_meets yX6_meets, Cond.code yX6_meets cX6_meets 14 (some .boolean), Cond.methodLink RX6 146 yX6_mirrored, Cond.static yX6_mirrored, Cond.code yX6_mirrored cX6_mirrored 3 (some .int), Cond.methodLink RX6 158 yX6_wayOf, Cond.instanceMethod yX6_wayOf, Cond.selects RX6 yX6_wayOf yX6_wayOf, Cond.code yX6_wayOf cX6_wayOf 7 (some .int), Cond.methodLink RX6 165 yX6_timeOf]
def wsX6_sound_r3 : List Cond := [Cond.static yX6_timeOf, Cond.code yX6_timeOf cX6_timeOf 4 (some .int), Cond.methodLink RX6 168 yX6_strengthOf, Cond.instanceMethod yX6_strengthOf, Cond.selects RX6 yX6_strengthOf yX6_strengthOf, Cond.code yX6_strengthOf cX6_strengthOf 7 (some .int), Cond.constant RX6 153 (1000000), Cond.methodLink RX6 138 yX6_times, Cond.static yX6_times, Cond.code yX6_times cX6_times 5 (some .int), Cond.methodLink RX6 190 yX6_soundAll, Cond.instanceMethod yX6_soundAll, Cond.selects RX6 yX6_soundAll yX6_soundAll, Cond.code yX6_soundAll cX6_soundAll 1 (some .int), Cond.methodLink RX6 187 yX6_soundBy, Cond.instanceMethod yX6_soundBy, Cond.selects RX6 yX6_soundBy yX6_soundBy, Cond.code yX6_soundBy cX6_soundBy 4 (some .int), Cond.methodLink RX6 184 yX6_rankedAt, Cond.instanceMethod yX6_rankedAt, Cond.selects RX6 yX6_rankedAt yX6_rankedAt, Cond.code yX6_rankedAt cX6_rankedAt 6 (some .int)]
def wsX6_sound : List Cond := .code yX6_sound cX6_sound 3 (some .int) :: ((wsX6_sound_r1 ++ (wsX6_sound_r2 ++ wsX6_sound_r3)) ++ wsX60)
def wsX6_common : List Cond := .code yX6_common cX6_common 5 (some .int) :: ([])
def wsX6_fraction : List Cond := .code yX6_fraction cX6_fraction 4 (some .int) :: ([.methodLink RX6 193 yX6_common, .static yX6_common, .initialized RX6, .code yX6_common cX6_common 5 (some .int)])
def wsX6_early_r1 : List Cond := [Cond.methodLink RX6 122 yX6_isSeat, Cond.instanceMethod yX6_isSeat, Cond.selects RX6 yX6_isSeat yX6_isSeat, Cond.initialized RX6, Cond.code yX6_isSeat cX6_isSeat 2 (some .boolean), Cond.fieldLink RX6 7 "EchoSeatsModel" "s" "[I", Cond.methodLink RX6 75 yX6_in, Cond.static yX6_in, Cond.code yX6_in cX6_in 3 (some .boolean), Cond.methodLink RX6 181 yX6_hearsNow, Cond.instanceMethod yX6_hearsNow, Cond.selects RX6 yX6_hearsNow yX6_hearsNow, Cond.code yX6_hearsNow cX6_hearsNow 2 none, Cond.methodLink RX6 162 yX6_swallowsNow, Cond.instanceMethod yX6_swallowsNow, Cond.selects RX6 yX6_swallowsNow yX6_swallowsNow, Cond.code yX6_swallowsNow cX6_swallowsNow 2 none, Cond.fieldLink RX6 47 "EchoSeatsModel" "swallows" "[I", Cond.methodLink RX6 178 yX6_hears, Cond.instanceMethod yX6_hears, Cond.selects RX6 yX6_hears yX6_hears, Cond.code yX6_hears cX6_hears 7 none, Cond.fieldLink RX6 175 "EchoSeatsModel" "heard" "I", Cond.fieldLink RX6 50 "EchoSeatsModel" "time" "[I"]
def wsX6_early_r2 : List Cond := [Cond.fieldLink RX6 53 "EchoSeatsModel" "strength" "[I", Cond.fieldLink RX6 56 "EchoSeatsModel" "which" "[I", Cond.methodLink RX6 142 yX6_isImage, Cond.static yX6_isImage, Cond.code yX6_isImage cX6_isImage 2 (some .boolean), Cond.methodLink RX6 79 yX6_size, Cond.static yX6_size, Cond.code yX6_size cX6_size 1 (some .int), Cond.methodLink RX6 171 yX6_isHidden, Cond.instanceMethod yX6_isHidden, Cond.selects RX6 yX6_isHidden yX6_isHidden, Cond.code yX6_isHidden cX6_isHidden 8 (some .boolean), Cond.methodLink RX6 154 yX6_meets, Cond.instanceMethod yX6_meets, Cond.selects RX6 yX6_meets yX6_meets, Cond.code yX6_meets cX6_meets 14 (some .boolean), Cond.methodLink RX6 146 yX6_mirrored, Cond.static yX6_mirrored, Cond.code yX6_mirrored cX6_mirrored 3 (some .int), Cond.methodLink RX6 158 yX6_wayOf, Cond.instanceMethod yX6_wayOf, Cond.selects RX6 yX6_wayOf yX6_wayOf, Cond.code yX6_wayOf cX6_wayOf 7 (some .int), Cond.methodLink RX6 165 yX6_timeOf]
def wsX6_early_r3 : List Cond := [Cond.static yX6_timeOf, Cond.code yX6_timeOf cX6_timeOf 4 (some .int), Cond.methodLink RX6 168 yX6_strengthOf, Cond.instanceMethod yX6_strengthOf, Cond.selects RX6 yX6_strengthOf yX6_strengthOf, Cond.code yX6_strengthOf cX6_strengthOf 7 (some .int), Cond.constant RX6 153 (1000000), Cond.methodLink RX6 138 yX6_times, Cond.static yX6_times, Cond.code yX6_times cX6_times 5 (some .int), Cond.methodLink RX6 190 yX6_soundAll, Cond.instanceMethod yX6_soundAll, Cond.selects RX6 yX6_soundAll yX6_soundAll, Cond.code yX6_soundAll cX6_soundAll 1 (some .int), Cond.methodLink RX6 187 yX6_soundBy, Cond.instanceMethod yX6_soundBy, Cond.selects RX6 yX6_soundBy yX6_soundBy, Cond.code yX6_soundBy cX6_soundBy 4 (some .int), Cond.methodLink RX6 196 yX6_fraction, Cond.static yX6_fraction, Cond.code yX6_fraction cX6_fraction 4 (some .int), Cond.methodLink RX6 193 yX6_common, Cond.static yX6_common, Cond.code yX6_common cX6_common 5 (some .int)]
def wsX6_early : List Cond := .code yX6_early cX6_early 5 (some .int) :: ((wsX6_early_r1 ++ (wsX6_early_r2 ++ wsX6_early_r3)) ++ wsX60)
def wsX6_fade_r1 : List Cond := [Cond.fieldLink RX6 175 "EchoSeatsModel" "heard" "I", Cond.fieldLink RX6 50 "EchoSeatsModel" "time" "[I", Cond.constantLong RX6 199 (10), Cond.methodLink RX6 122 yX6_isSeat, Cond.instanceMethod yX6_isSeat, Cond.selects RX6 yX6_isSeat yX6_isSeat, Cond.initialized RX6, Cond.code yX6_isSeat cX6_isSeat 2 (some .boolean), Cond.fieldLink RX6 7 "EchoSeatsModel" "s" "[I", Cond.methodLink RX6 75 yX6_in, Cond.static yX6_in, Cond.code yX6_in cX6_in 3 (some .boolean), Cond.methodLink RX6 181 yX6_hearsNow, Cond.instanceMethod yX6_hearsNow, Cond.selects RX6 yX6_hearsNow yX6_hearsNow, Cond.code yX6_hearsNow cX6_hearsNow 2 none, Cond.methodLink RX6 162 yX6_swallowsNow, Cond.instanceMethod yX6_swallowsNow, Cond.selects RX6 yX6_swallowsNow yX6_swallowsNow, Cond.code yX6_swallowsNow cX6_swallowsNow 2 none, Cond.fieldLink RX6 47 "EchoSeatsModel" "swallows" "[I", Cond.methodLink RX6 178 yX6_hears, Cond.instanceMethod yX6_hears, Cond.selects RX6 yX6_hears yX6_hears]
def wsX6_fade_r2 : List Cond := [Cond.code yX6_hears cX6_hears 7 none, Cond.fieldLink RX6 53 "EchoSeatsModel" "strength" "[I", Cond.fieldLink RX6 56 "EchoSeatsModel" "which" "[I", Cond.methodLink RX6 142 yX6_isImage, Cond.static yX6_isImage, Cond.code yX6_isImage cX6_isImage 2 (some .boolean), Cond.methodLink RX6 79 yX6_size, Cond.static yX6_size, Cond.code yX6_size cX6_size 1 (some .int), Cond.methodLink RX6 171 yX6_isHidden, Cond.instanceMethod yX6_isHidden, Cond.selects RX6 yX6_isHidden yX6_isHidden, Cond.code yX6_isHidden cX6_isHidden 8 (some .boolean), Cond.methodLink RX6 154 yX6_meets, Cond.instanceMethod yX6_meets, Cond.selects RX6 yX6_meets yX6_meets, Cond.code yX6_meets cX6_meets 14 (some .boolean), Cond.methodLink RX6 146 yX6_mirrored, Cond.static yX6_mirrored, Cond.code yX6_mirrored cX6_mirrored 3 (some .int), Cond.methodLink RX6 158 yX6_wayOf, Cond.instanceMethod yX6_wayOf, Cond.selects RX6 yX6_wayOf yX6_wayOf, Cond.code yX6_wayOf cX6_wayOf 7 (some .int)]
def wsX6_fade_r3 : List Cond := [Cond.methodLink RX6 165 yX6_timeOf, Cond.static yX6_timeOf, Cond.code yX6_timeOf cX6_timeOf 4 (some .int), Cond.methodLink RX6 168 yX6_strengthOf, Cond.instanceMethod yX6_strengthOf, Cond.selects RX6 yX6_strengthOf yX6_strengthOf, Cond.code yX6_strengthOf cX6_strengthOf 7 (some .int), Cond.constant RX6 153 (1000000), Cond.methodLink RX6 138 yX6_times, Cond.static yX6_times, Cond.code yX6_times cX6_times 5 (some .int), Cond.methodLink RX6 190 yX6_soundAll, Cond.instanceMethod yX6_soundAll, Cond.selects RX6 yX6_soundAll yX6_soundAll, Cond.code yX6_soundAll cX6_soundAll 1 (some .int), Cond.methodLink RX6 187 yX6_soundBy, Cond.instanceMethod yX6_soundBy, Cond.selects RX6 yX6_soundBy yX6_soundBy, Cond.code yX6_soundBy cX6_soundBy 4 (some .int)]
def wsX6_fade : List Cond := .code yX6_fade cX6_fade 10 (some .int) :: ((wsX6_fade_r1 ++ (wsX6_fade_r2 ++ wsX6_fade_r3)) ++ wsX60)
def wsX6_best_r1 : List Cond := [Cond.fieldLink RX6 7 "EchoSeatsModel" "s" "[I", Cond.methodLink RX6 75 yX6_in, Cond.static yX6_in, Cond.initialized RX6, Cond.code yX6_in cX6_in 3 (some .boolean), Cond.methodLink RX6 181 yX6_hearsNow, Cond.instanceMethod yX6_hearsNow, Cond.selects RX6 yX6_hearsNow yX6_hearsNow, Cond.code yX6_hearsNow cX6_hearsNow 2 none, Cond.methodLink RX6 162 yX6_swallowsNow, Cond.instanceMethod yX6_swallowsNow, Cond.selects RX6 yX6_swallowsNow yX6_swallowsNow, Cond.code yX6_swallowsNow cX6_swallowsNow 2 none, Cond.fieldLink RX6 47 "EchoSeatsModel" "swallows" "[I", Cond.methodLink RX6 178 yX6_hears, Cond.instanceMethod yX6_hears, Cond.selects RX6 yX6_hears yX6_hears, Cond.code yX6_hears cX6_hears 7 none, Cond.fieldLink RX6 175 "EchoSeatsModel" "heard" "I", Cond.fieldLink RX6 50 "EchoSeatsModel" "time" "[I", Cond.fieldLink RX6 53 "EchoSeatsModel" "strength" "[I", Cond.fieldLink RX6 56 "EchoSeatsModel" "which" "[I", Cond.methodLink RX6 142 yX6_isImage, Cond.static yX6_isImage]
def wsX6_best_r2 : List Cond := [Cond.code yX6_isImage cX6_isImage 2 (some .boolean), Cond.methodLink RX6 79 yX6_size, Cond.static yX6_size, Cond.code yX6_size cX6_size 1 (some .int), Cond.methodLink RX6 171 yX6_isHidden, Cond.instanceMethod yX6_isHidden, Cond.selects RX6 yX6_isHidden yX6_isHidden, Cond.code yX6_isHidden cX6_isHidden 8 (some .boolean), Cond.methodLink RX6 154 yX6_meets, Cond.instanceMethod yX6_meets, Cond.selects RX6 yX6_meets yX6_meets, Cond.code yX6_meets cX6_meets 14 (some .boolean), Cond.methodLink RX6 146 yX6_mirrored, Cond.static yX6_mirrored, Cond.code yX6_mirrored cX6_mirrored 3 (some .int), Cond.methodLink RX6 158 yX6_wayOf, Cond.instanceMethod yX6_wayOf, Cond.selects RX6 yX6_wayOf yX6_wayOf, Cond.code yX6_wayOf cX6_wayOf 7 (some .int), Cond.methodLink RX6 165 yX6_timeOf, Cond.static yX6_timeOf, Cond.code yX6_timeOf cX6_timeOf 4 (some .int), Cond.methodLink RX6 168 yX6_strengthOf, Cond.instanceMethod yX6_strengthOf]
def wsX6_best_r3 : List Cond := [Cond.selects RX6 yX6_strengthOf yX6_strengthOf, Cond.code yX6_strengthOf cX6_strengthOf 7 (some .int), Cond.constant RX6 153 (1000000), Cond.methodLink RX6 138 yX6_times, Cond.static yX6_times, Cond.code yX6_times cX6_times 5 (some .int), Cond.methodLink RX6 190 yX6_soundAll, Cond.instanceMethod yX6_soundAll, Cond.selects RX6 yX6_soundAll yX6_soundAll, Cond.code yX6_soundAll cX6_soundAll 1 (some .int), Cond.methodLink RX6 187 yX6_soundBy, Cond.instanceMethod yX6_soundBy, Cond.selects RX6 yX6_soundBy yX6_soundBy, Cond.code yX6_soundBy cX6_soundBy 4 (some .int)]
def wsX6_best : List Cond := .code yX6_best cX6_best 12 (some .int) :: ((wsX6_best_r1 ++ (wsX6_best_r2 ++ wsX6_best_r3)) ++ wsX60)
def wsX6_odds_r1 : List Cond := [Cond.constant RX6 201 (999999), Cond.fieldLink RX6 47 "EchoSeatsModel" "swallows" "[I", Cond.fieldLink RX6 7 "EchoSeatsModel" "s" "[I", Cond.methodLink RX6 75 yX6_in, Cond.static yX6_in, Cond.initialized RX6, Cond.code yX6_in cX6_in 3 (some .boolean), Cond.methodLink RX6 122 yX6_isSeat, Cond.instanceMethod yX6_isSeat, Cond.selects RX6 yX6_isSeat yX6_isSeat, Cond.code yX6_isSeat cX6_isSeat 2 (some .boolean), Cond.methodLink RX6 178 yX6_hears, Cond.instanceMethod yX6_hears, Cond.selects RX6 yX6_hears yX6_hears, Cond.code yX6_hears cX6_hears 7 none, Cond.fieldLink RX6 175 "EchoSeatsModel" "heard" "I", Cond.fieldLink RX6 50 "EchoSeatsModel" "time" "[I", Cond.fieldLink RX6 53 "EchoSeatsModel" "strength" "[I", Cond.fieldLink RX6 56 "EchoSeatsModel" "which" "[I", Cond.methodLink RX6 142 yX6_isImage, Cond.static yX6_isImage, Cond.code yX6_isImage cX6_isImage 2 (some .boolean), Cond.methodLink RX6 79 yX6_size, Cond.static yX6_size]
def wsX6_odds_r2 : List Cond := [Cond.code yX6_size cX6_size 1 (some .int), Cond.methodLink RX6 171 yX6_isHidden, Cond.instanceMethod yX6_isHidden, Cond.selects RX6 yX6_isHidden yX6_isHidden, Cond.code yX6_isHidden cX6_isHidden 8 (some .boolean), Cond.methodLink RX6 154 yX6_meets, Cond.instanceMethod yX6_meets, Cond.selects RX6 yX6_meets yX6_meets, Cond.code yX6_meets cX6_meets 14 (some .boolean), Cond.methodLink RX6 146 yX6_mirrored, Cond.static yX6_mirrored, Cond.code yX6_mirrored cX6_mirrored 3 (some .int), Cond.methodLink RX6 158 yX6_wayOf, Cond.instanceMethod yX6_wayOf, Cond.selects RX6 yX6_wayOf yX6_wayOf, Cond.code yX6_wayOf cX6_wayOf 7 (some .int), Cond.methodLink RX6 165 yX6_timeOf, Cond.static yX6_timeOf, Cond.code yX6_timeOf cX6_timeOf 4 (some .int), Cond.methodLink RX6 168 yX6_strengthOf, Cond.instanceMethod yX6_strengthOf, Cond.selects RX6 yX6_strengthOf yX6_strengthOf, Cond.code yX6_strengthOf cX6_strengthOf 7 (some .int), Cond.constant RX6 153 (1000000)]
def wsX6_odds_r3 : List Cond := [Cond.methodLink RX6 138 yX6_times, Cond.static yX6_times, Cond.code yX6_times cX6_times 5 (some .int), Cond.methodLink RX6 190 yX6_soundAll, Cond.instanceMethod yX6_soundAll, Cond.selects RX6 yX6_soundAll yX6_soundAll, Cond.code yX6_soundAll cX6_soundAll 1 (some .int), Cond.methodLink RX6 187 yX6_soundBy, Cond.instanceMethod yX6_soundBy, Cond.selects RX6 yX6_soundBy yX6_soundBy, Cond.code yX6_soundBy cX6_soundBy 4 (some .int), Cond.methodLink RX6 196 yX6_fraction, Cond.static yX6_fraction, Cond.code yX6_fraction cX6_fraction 4 (some .int), Cond.methodLink RX6 193 yX6_common, Cond.static yX6_common, Cond.code yX6_common cX6_common 5 (some .int)]
def wsX6_odds : List Cond := .code yX6_odds cX6_odds 10 (some .int) :: ((wsX6_odds_r1 ++ (wsX6_odds_r2 ++ wsX6_odds_r3)) ++ wsX60)
def wsX6_sees : List Cond := .code yX6_sees cX6_sees 4 (some .int) :: ([.fieldLink RX6 72 "EchoSeatsModel" "seen" "I", .fieldLink RX6 26 "EchoSeatsModel" "seenI" "[I", .fieldLink RX6 29 "EchoSeatsModel" "seenJ" "[I", .fieldLink RX6 32 "EchoSeatsModel" "seenTime" "[I", .methodLink RX6 142 yX6_isImage, .static yX6_isImage, .initialized RX6, .code yX6_isImage cX6_isImage 2 (some .boolean), .methodLink RX6 75 yX6_in, .static yX6_in, .code yX6_in cX6_in 3 (some .boolean), .methodLink RX6 79 yX6_size, .static yX6_size, .code yX6_size cX6_size 1 (some .int)] ++ wsX60)
def wsX6_forget : List Cond := .code yX6_forget cX6_forget 2 (some .int) :: ([.fieldLink RX6 72 "EchoSeatsModel" "seen" "I"] ++ wsX60)
def wsX6_mayBe : List Cond := .code yX6_mayBe cX6_mayBe 5 (some .boolean) :: ([.fieldLink RX6 72 "EchoSeatsModel" "seen" "I", .fieldLink RX6 26 "EchoSeatsModel" "seenI" "[I", .fieldLink RX6 29 "EchoSeatsModel" "seenJ" "[I", .fieldLink RX6 32 "EchoSeatsModel" "seenTime" "[I", .methodLink RX6 158 yX6_wayOf, .instanceMethod yX6_wayOf, .selects RX6 yX6_wayOf yX6_wayOf, .initialized RX6, .code yX6_wayOf cX6_wayOf 7 (some .int), .fieldLink RX6 7 "EchoSeatsModel" "s" "[I", .methodLink RX6 146 yX6_mirrored, .static yX6_mirrored, .code yX6_mirrored cX6_mirrored 3 (some .int), .methodLink RX6 165 yX6_timeOf, .static yX6_timeOf, .code yX6_timeOf cX6_timeOf 4 (some .int)] ++ wsX60)
def wsX6_places : List Cond := .code yX6_places cX6_places 5 (some .int) :: ([.fieldLink RX6 7 "EchoSeatsModel" "s" "[I", .methodLink RX6 202 yX6_mayBe, .instanceMethod yX6_mayBe, .selects RX6 yX6_mayBe yX6_mayBe, .initialized RX6, .code yX6_mayBe cX6_mayBe 5 (some .boolean), .fieldLink RX6 72 "EchoSeatsModel" "seen" "I", .fieldLink RX6 26 "EchoSeatsModel" "seenI" "[I", .fieldLink RX6 29 "EchoSeatsModel" "seenJ" "[I", .fieldLink RX6 32 "EchoSeatsModel" "seenTime" "[I", .methodLink RX6 158 yX6_wayOf, .instanceMethod yX6_wayOf, .selects RX6 yX6_wayOf yX6_wayOf, .code yX6_wayOf cX6_wayOf 7 (some .int), .methodLink RX6 146 yX6_mirrored, .static yX6_mirrored, .code yX6_mirrored cX6_mirrored 3 (some .int), .methodLink RX6 165 yX6_timeOf, .static yX6_timeOf, .code yX6_timeOf cX6_timeOf 4 (some .int)] ++ wsX60)
def wsX6_unseen_r1 : List Cond := [Cond.methodLink RX6 75 yX6_in, Cond.static yX6_in, Cond.initialized RX6, Cond.code yX6_in cX6_in 3 (some .boolean), Cond.methodLink RX6 205 yX6_places, Cond.instanceMethod yX6_places, Cond.selects RX6 yX6_places yX6_places, Cond.code yX6_places cX6_places 5 (some .int), Cond.fieldLink RX6 7 "EchoSeatsModel" "s" "[I", Cond.methodLink RX6 202 yX6_mayBe, Cond.instanceMethod yX6_mayBe, Cond.selects RX6 yX6_mayBe yX6_mayBe, Cond.code yX6_mayBe cX6_mayBe 5 (some .boolean), Cond.fieldLink RX6 72 "EchoSeatsModel" "seen" "I", Cond.fieldLink RX6 26 "EchoSeatsModel" "seenI" "[I", Cond.fieldLink RX6 29 "EchoSeatsModel" "seenJ" "[I", Cond.fieldLink RX6 32 "EchoSeatsModel" "seenTime" "[I", Cond.methodLink RX6 158 yX6_wayOf, Cond.instanceMethod yX6_wayOf, Cond.selects RX6 yX6_wayOf yX6_wayOf, Cond.code yX6_wayOf cX6_wayOf 7 (some .int), Cond.methodLink RX6 146 yX6_mirrored, Cond.static yX6_mirrored, Cond.code yX6_mirrored cX6_mirrored 3 (some .int)]
def wsX6_unseen_r2 : List Cond := [Cond.methodLink RX6 165 yX6_timeOf, Cond.static yX6_timeOf, Cond.code yX6_timeOf cX6_timeOf 4 (some .int)]
def wsX6_unseen : List Cond := .code yX6_unseen cX6_unseen 2 (some .int) :: ((wsX6_unseen_r1 ++ wsX6_unseen_r2) ++ wsX60)
def wsX6_unlike : List Cond := .code yX6_unlike cX6_unlike 7 (some .int) :: ([.fieldLink RX6 59 "EchoSeatsModel" "told" "[Z", .fieldLink RX6 7 "EchoSeatsModel" "s" "[I", .methodLink RX6 202 yX6_mayBe, .instanceMethod yX6_mayBe, .selects RX6 yX6_mayBe yX6_mayBe, .initialized RX6, .code yX6_mayBe cX6_mayBe 5 (some .boolean), .fieldLink RX6 72 "EchoSeatsModel" "seen" "I", .fieldLink RX6 26 "EchoSeatsModel" "seenI" "[I", .fieldLink RX6 29 "EchoSeatsModel" "seenJ" "[I", .fieldLink RX6 32 "EchoSeatsModel" "seenTime" "[I", .methodLink RX6 158 yX6_wayOf, .instanceMethod yX6_wayOf, .selects RX6 yX6_wayOf yX6_wayOf, .code yX6_wayOf cX6_wayOf 7 (some .int), .methodLink RX6 146 yX6_mirrored, .static yX6_mirrored, .code yX6_mirrored cX6_mirrored 3 (some .int), .methodLink RX6 165 yX6_timeOf, .static yX6_timeOf, .code yX6_timeOf cX6_timeOf 4 (some .int)] ++ wsX60)
def wsX6_listen_r1 : List Cond := [Cond.methodLink RX6 205 yX6_places, Cond.instanceMethod yX6_places, Cond.selects RX6 yX6_places yX6_places, Cond.initialized RX6, Cond.code yX6_places cX6_places 5 (some .int), Cond.fieldLink RX6 7 "EchoSeatsModel" "s" "[I", Cond.methodLink RX6 202 yX6_mayBe, Cond.instanceMethod yX6_mayBe, Cond.selects RX6 yX6_mayBe yX6_mayBe, Cond.code yX6_mayBe cX6_mayBe 5 (some .boolean), Cond.fieldLink RX6 72 "EchoSeatsModel" "seen" "I", Cond.fieldLink RX6 26 "EchoSeatsModel" "seenI" "[I", Cond.fieldLink RX6 29 "EchoSeatsModel" "seenJ" "[I", Cond.fieldLink RX6 32 "EchoSeatsModel" "seenTime" "[I", Cond.methodLink RX6 158 yX6_wayOf, Cond.instanceMethod yX6_wayOf, Cond.selects RX6 yX6_wayOf yX6_wayOf, Cond.code yX6_wayOf cX6_wayOf 7 (some .int), Cond.methodLink RX6 146 yX6_mirrored, Cond.static yX6_mirrored, Cond.code yX6_mirrored cX6_mirrored 3 (some .int), Cond.methodLink RX6 165 yX6_timeOf, Cond.static yX6_timeOf, Cond.code yX6_timeOf cX6_timeOf 4 (some .int)]
def wsX6_listen_r2 : List Cond := [Cond.methodLink RX6 142 yX6_isImage, Cond.static yX6_isImage, Cond.code yX6_isImage cX6_isImage 2 (some .boolean), Cond.methodLink RX6 75 yX6_in, Cond.static yX6_in, Cond.code yX6_in cX6_in 3 (some .boolean), Cond.methodLink RX6 79 yX6_size, Cond.static yX6_size, Cond.code yX6_size cX6_size 1 (some .int), Cond.methodLink RX6 209 yX6_unlike, Cond.instanceMethod yX6_unlike, Cond.selects RX6 yX6_unlike yX6_unlike, Cond.code yX6_unlike cX6_unlike 7 (some .int), Cond.fieldLink RX6 59 "EchoSeatsModel" "told" "[Z"]
def wsX6_listen : List Cond := .code yX6_listen cX6_listen 6 (some .int) :: ((wsX6_listen_r1 ++ wsX6_listen_r2) ++ wsX60)
def wsX6_keep : List Cond := .code yX6_keep cX6_keep 3 (some .int) :: ([.fieldLink RX6 16 "EchoSeatsModel" "kept" "[I", .fieldLink RX6 7 "EchoSeatsModel" "s" "[I", .fieldLink RX6 19 "EchoSeatsModel" "isKept" "[Z", .methodLink RX6 75 yX6_in, .static yX6_in, .initialized RX6, .code yX6_in cX6_in 3 (some .boolean), .methodLink RX6 134 yX6_sourceAt, .instanceMethod yX6_sourceAt, .selects RX6 yX6_sourceAt yX6_sourceAt, .code yX6_sourceAt cX6_sourceAt 1 (some .int)] ++ wsX60)
def wsX6_back : List Cond := .code yX6_back cX6_back 3 (some .int) :: ([.fieldLink RX6 19 "EchoSeatsModel" "isKept" "[Z", .fieldLink RX6 7 "EchoSeatsModel" "s" "[I", .fieldLink RX6 16 "EchoSeatsModel" "kept" "[I", .fieldLink RX6 68 "EchoSeatsModel" "known" "I", .methodLink RX6 75 yX6_in, .static yX6_in, .initialized RX6, .code yX6_in cX6_in 3 (some .boolean), .methodLink RX6 134 yX6_sourceAt, .instanceMethod yX6_sourceAt, .selects RX6 yX6_sourceAt yX6_sourceAt, .code yX6_sourceAt cX6_sourceAt 1 (some .int)] ++ wsX60)
def wsX6_count : List Cond := .code yX6_count cX6_count 2 (some .int) :: ([.fieldLink RX6 7 "EchoSeatsModel" "s" "[I", .fieldLink RX6 72 "EchoSeatsModel" "seen" "I", .fieldLink RX6 83 "EchoSeatsModel" "typed" "I", .fieldLink RX6 68 "EchoSeatsModel" "known" "I"] ++ wsX60)
def wsJ9_abs_0f7a4 : List Cond := .code yJ9_abs_0f7a4 cJ9_abs_0f7a4 1 (some .int) :: ([])
def wsJ9_max_7cf53 : List Cond := .code yJ9_max_7cf53 cJ9_max_7cf53 2 (some .int) :: ([])
def wsJ9_min_7cf53 : List Cond := .code yJ9_min_7cf53 cJ9_min_7cf53 2 (some .int) :: ([])
def wsL_law_r1 : List Cond := [Cond.classLink RL 7 RX5, Cond.instantiable RX5 8, Cond.initialized RX5, Cond.classLink RL 10 RX6, Cond.instantiable RX6 22, Cond.initialized RX6, Cond.methodLink RL 9 yX5_init, Cond.instanceMethod yX5_init, Cond.code yX5_init cX5_init 2 none, Cond.methodLink RX5 1 objectInit, Cond.instanceMethod objectInit, Cond.code objectInit ⟨#[0xb1]⟩ 1 none, Cond.classLink RX5 7 RX3, Cond.instantiable RX3 12, Cond.initialized RX3, Cond.fieldLink RX5 10 "EchoSeats" "now" "LEchoSeats$Scene;", Cond.fieldLink RX5 16 "EchoSeats" "draft" "LEchoSeats$Scene;", Cond.fieldLink RX5 19 "EchoSeats" "kept" "[LEchoSeats$Scene;", Cond.arrayClass .boolean, Cond.fieldLink RX5 23 "EchoSeats" "isKept" "[Z", Cond.classLink RX5 27 RX4, Cond.instantiable RX4 6, Cond.initialized RX4, Cond.fieldLink RX5 30 "EchoSeats" "text" "LEchoSeats$Text;"]
def wsL_law_r2 : List Cond := [Cond.classLink RX5 34 RX2, Cond.instantiable RX2 5, Cond.initialized RX2, Cond.fieldLink RX5 37 "EchoSeats" "past" "LEchoSeats$Past;", Cond.classLink RX5 41 RX0, Cond.instantiable RX0 8, Cond.initialized RX0, Cond.fieldLink RX5 44 "EchoSeats" "ear" "LEchoSeats$Ear;", Cond.classLink RX5 48 RX1, Cond.instantiable RX1 8, Cond.initialized RX1, Cond.fieldLink RX5 51 "EchoSeats" "finder" "LEchoSeats$Finder;", Cond.methodLink RX5 9 yX3_init, Cond.instanceMethod yX3_init, Cond.code yX3_init cX3_init 1 none, Cond.methodLink RX3 3 objectInit, Cond.arrayClass .int, Cond.fieldLink RX3 9 "EchoSeats$Scene" "swallows" "[I", Cond.fieldLink RX3 15 "EchoSeats$Scene" "seatX" "[I", Cond.fieldLink RX3 18 "EchoSeats$Scene" "seatY" "[I", Cond.fieldLink RX3 21 "EchoSeats$Scene" "curtainX" "[I", Cond.fieldLink RX3 24 "EchoSeats$Scene" "curtainFrom" "[I", Cond.fieldLink RX3 27 "EchoSeats$Scene" "curtainTo" "[I", Cond.methodLink RX3 30 yX3_beAsAtFirst]
def wsL_law_r3 : List Cond := [Cond.instanceMethod yX3_beAsAtFirst, Cond.selects RX3 yX3_beAsAtFirst yX3_beAsAtFirst, Cond.code yX3_beAsAtFirst cX3_beAsAtFirst 1 none, Cond.fieldLink RX3 33 "EchoSeats$Scene" "length" "I", Cond.fieldLink RX3 37 "EchoSeats$Scene" "breadth" "I", Cond.fieldLink RX3 40 "EchoSeats$Scene" "sourceX" "I", Cond.fieldLink RX3 43 "EchoSeats$Scene" "sourceY" "I", Cond.fieldLink RX3 46 "EchoSeats$Scene" "seats" "I", Cond.fieldLink RX3 49 "EchoSeats$Scene" "curtains" "I", Cond.methodLink RX3 52 yJ7_fill_53178, Cond.static yJ7_fill_53178, Cond.initialized RJ7, Cond.code yJ7_fill_53178 cJ7_fill_53178 4 none, Cond.methodLink RX5 29 yX4_init, Cond.instanceMethod yX4_init, Cond.code yX4_init cX4_init 1 none, Cond.methodLink RX4 3 objectInit, Cond.fieldLink RX4 9 "EchoSeats$Text" "letters" "[I", Cond.methodLink RX5 36 yX2_init, Cond.instanceMethod yX2_init, Cond.code yX2_init cX2_init 1 none, Cond.methodLink RX2 3 objectInit, Cond.fieldLink RX2 9 "EchoSeats$Past" "kinds" "[I", Cond.fieldLink RX2 15 "EchoSeats$Past" "which" "[I"]
def wsL_law_r4 : List Cond := [Cond.fieldLink RX2 18 "EchoSeats$Past" "firsts" "[I", Cond.fieldLink RX2 21 "EchoSeats$Past" "seconds" "[I", Cond.methodLink RX5 43 yX0_init, Cond.instanceMethod yX0_init, Cond.code yX0_init cX0_init 1 none, Cond.methodLink RX0 3 objectInit, Cond.fieldLink RX0 9 "EchoSeats$Ear" "is" "[I", Cond.fieldLink RX0 15 "EchoSeats$Ear" "js" "[I", Cond.fieldLink RX0 18 "EchoSeats$Ear" "ways" "[I", Cond.fieldLink RX0 21 "EchoSeats$Ear" "times" "[I", Cond.fieldLink RX0 24 "EchoSeats$Ear" "strengths" "[I", Cond.fieldLink RX0 27 "EchoSeats$Ear" "deafened" "[I", Cond.methodLink RX5 50 yX1_init, Cond.instanceMethod yX1_init, Cond.code yX1_init cX1_init 1 none, Cond.methodLink RX1 3 objectInit, Cond.fieldLink RX1 9 "EchoSeats$Finder" "is" "[I", Cond.fieldLink RX1 15 "EchoSeats$Finder" "js" "[I", Cond.fieldLink RX1 18 "EchoSeats$Finder" "times" "[I", Cond.fieldLink RX1 21 "EchoSeats$Finder" "placeX" "[I", Cond.fieldLink RX1 24 "EchoSeats$Finder" "placeY" "[I", Cond.fieldLink RX1 27 "EchoSeats$Finder" "toldBy" "[I", Cond.methodLink RL 12 yX6_init, Cond.instanceMethod yX6_init]
def wsL_law_r5 : List Cond := [Cond.code yX6_init cX6_init 1 none, Cond.methodLink RX6 1 objectInit, Cond.fieldLink RX6 7 "EchoSeatsModel" "s" "[I", Cond.fieldLink RX6 13 "EchoSeatsModel" "draft" "[I", Cond.fieldLink RX6 16 "EchoSeatsModel" "kept" "[I", Cond.fieldLink RX6 19 "EchoSeatsModel" "isKept" "[Z", Cond.fieldLink RX6 23 "EchoSeatsModel" "undone" "[I", Cond.fieldLink RX6 26 "EchoSeatsModel" "seenI" "[I", Cond.fieldLink RX6 29 "EchoSeatsModel" "seenJ" "[I", Cond.fieldLink RX6 32 "EchoSeatsModel" "seenTime" "[I", Cond.fieldLink RX6 35 "EchoSeatsModel" "text" "[I", Cond.fieldLink RX6 38 "EchoSeatsModel" "kind" "[I", Cond.fieldLink RX6 41 "EchoSeatsModel" "place" "[I", Cond.fieldLink RX6 44 "EchoSeatsModel" "value" "[I", Cond.fieldLink RX6 47 "EchoSeatsModel" "swallows" "[I", Cond.fieldLink RX6 50 "EchoSeatsModel" "time" "[I", Cond.fieldLink RX6 53 "EchoSeatsModel" "strength" "[I", Cond.fieldLink RX6 56 "EchoSeatsModel" "which" "[I", Cond.fieldLink RX6 59 "EchoSeatsModel" "told" "[Z", Cond.methodLink RX6 62 yX6_begins, Cond.instanceMethod yX6_begins, Cond.selects RX6 yX6_begins yX6_begins, Cond.code yX6_begins cX6_begins 2 none, Cond.methodLink RX6 65 yX6_becomes]
def wsL_law_r6 : List Cond := [Cond.instanceMethod yX6_becomes, Cond.selects RX6 yX6_becomes yX6_becomes, Cond.code yX6_becomes cX6_becomes 2 none, Cond.fieldLink RX6 68 "EchoSeatsModel" "known" "I", Cond.fieldLink RX6 72 "EchoSeatsModel" "seen" "I", Cond.methodLink RL 13 yX5_type, Cond.instanceMethod yX5_type, Cond.selects RX5 yX5_type yX5_type, Cond.code yX5_type cX5_type 2 (some .int), Cond.fieldLink RX5 63 "EchoSeats$Text" "size" "I", Cond.methodLink RX5 55 yX5_isWithin, Cond.static yX5_isWithin, Cond.code yX5_isWithin cX5_isWithin 3 (some .boolean), Cond.methodLink RX5 59 yX4_append, Cond.instanceMethod yX4_append, Cond.selects RX4 yX4_append yX4_append, Cond.code yX4_append cX4_append 2 (some .boolean), Cond.fieldLink RX4 15 "EchoSeats$Text" "size" "I", Cond.methodLink RL 17 yX6_type, Cond.instanceMethod yX6_type, Cond.selects RX6 yX6_type yX6_type, Cond.code yX6_type cX6_type 2 (some .int), Cond.fieldLink RX6 83 "EchoSeatsModel" "typed" "I", Cond.methodLink RX6 75 yX6_in]
def wsL_law_r7 : List Cond := [Cond.static yX6_in, Cond.code yX6_in cX6_in 3 (some .boolean), Cond.methodLink RL 18 yX5_clear, Cond.instanceMethod yX5_clear, Cond.selects RX5 yX5_clear yX5_clear, Cond.code yX5_clear cX5_clear 2 (some .int), Cond.methodLink RL 22 yX6_clear, Cond.instanceMethod yX6_clear, Cond.selects RX6 yX6_clear yX6_clear, Cond.code yX6_clear cX6_clear 2 (some .int), Cond.methodLink RL 23 yX5_room, Cond.instanceMethod yX5_room, Cond.selects RX5 yX5_room yX5_room, Cond.code yX5_room cX5_room 2 (some .int), Cond.fieldLink RX5 75 "EchoSeats$Past" "size" "I", Cond.fieldLink RX5 76 "EchoSeats$Finder" "seen" "I", Cond.methodLink RX5 67 yX4_readInto, Cond.instanceMethod yX4_readInto, Cond.selects RX4 yX4_readInto yX4_readInto, Cond.code yX4_readInto cX4_readInto 3 (some .int), Cond.fieldLink RX4 24 "EchoSeats$Text" "next" "I", Cond.fieldLink RX4 30 "EchoSeats$Text" "token" "I", Cond.fieldLink RX4 41 "EchoSeats$Text" "start" "I", Cond.methodLink RX4 19 yX3_beAsAtFirst]
def wsL_law_r8 : List Cond := [Cond.methodLink RX4 27 yX4_nextToken, Cond.instanceMethod yX4_nextToken, Cond.selects RX4 yX4_nextToken yX4_nextToken, Cond.code yX4_nextToken cX4_nextToken 1 none, Cond.methodLink RX4 107 yX4_isFigure, Cond.static yX4_isFigure, Cond.code yX4_isFigure cX4_isFigure 1 (some .boolean), Cond.methodLink RX4 111 yX4_takeFigures, Cond.instanceMethod yX4_takeFigures, Cond.selects RX4 yX4_takeFigures yX4_takeFigures, Cond.code yX4_takeFigures cX4_takeFigures 2 none, Cond.fieldLink RX4 70 "EchoSeats$Text" "number" "I", Cond.methodLink RX4 114 Lib.Math.min.name, Cond.static Lib.Math.min.name, Cond.initialized "java/lang/Math", Cond.code Lib.Math.min.name Lib.Math.min.code 2 (some .int), Cond.methodLink RX4 33 yX4_readItem, Cond.instanceMethod yX4_readItem, Cond.selects RX4 yX4_readItem yX4_readItem, Cond.code yX4_readItem cX4_readItem 3 (some .boolean), Cond.fieldLink RX4 54 "EchoSeats$Scene" "seats" "I", Cond.fieldLink RX4 60 "EchoSeats$Scene" "curtains" "I", Cond.methodLink RX4 44 yX4_readSides, Cond.instanceMethod yX4_readSides]
def wsL_law_r9 : List Cond := [Cond.selects RX4 yX4_readSides yX4_readSides, Cond.code yX4_readSides cX4_readSides 2 (some .boolean), Cond.fieldLink RX4 73 "EchoSeats$Scene" "length" "I", Cond.fieldLink RX4 76 "EchoSeats$Scene" "breadth" "I", Cond.methodLink RX4 66 yX4_readNumber, Cond.instanceMethod yX4_readNumber, Cond.selects RX4 yX4_readNumber yX4_readNumber, Cond.code yX4_readNumber cX4_readNumber 3 (some .boolean), Cond.methodLink RX4 48 yX4_readSwallows, Cond.instanceMethod yX4_readSwallows, Cond.selects RX4 yX4_readSwallows yX4_readSwallows, Cond.code yX4_readSwallows cX4_readSwallows 3 (some .boolean), Cond.fieldLink RX4 79 "EchoSeats$Scene" "swallows" "[I", Cond.methodLink RX4 51 yX4_readSource, Cond.instanceMethod yX4_readSource, Cond.selects RX4 yX4_readSource yX4_readSource, Cond.code yX4_readSource cX4_readSource 2 (some .boolean), Cond.fieldLink RX4 82 "EchoSeats$Scene" "sourceX" "I", Cond.fieldLink RX4 85 "EchoSeats$Scene" "sourceY" "I", Cond.methodLink RX4 57 yX4_readSeat, Cond.instanceMethod yX4_readSeat, Cond.selects RX4 yX4_readSeat yX4_readSeat, Cond.code yX4_readSeat cX4_readSeat 2 (some .boolean), Cond.fieldLink RX4 88 "EchoSeats$Scene" "seatX" "[I"]
def wsL_law_r10 : List Cond := [Cond.fieldLink RX4 91 "EchoSeats$Scene" "seatY" "[I", Cond.methodLink RX4 63 yX4_readCurtain, Cond.instanceMethod yX4_readCurtain, Cond.selects RX4 yX4_readCurtain yX4_readCurtain, Cond.code yX4_readCurtain cX4_readCurtain 3 (some .boolean), Cond.fieldLink RX4 94 "EchoSeats$Scene" "curtainX" "[I", Cond.fieldLink RX4 97 "EchoSeats$Scene" "curtainFrom" "[I", Cond.fieldLink RX4 100 "EchoSeats$Scene" "curtainTo" "[I", Cond.methodLink RX4 37 yX4_readEnd, Cond.instanceMethod yX4_readEnd, Cond.selects RX4 yX4_readEnd yX4_readEnd, Cond.code yX4_readEnd cX4_readEnd 1 (some .boolean), Cond.methodLink RX5 71 yX3_copyFrom, Cond.instanceMethod yX3_copyFrom, Cond.selects RX3 yX3_copyFrom yX3_copyFrom, Cond.code yX3_copyFrom cX3_copyFrom 2 none, Cond.methodLink RX3 58 arraycopyName, Cond.native arraycopyName, Cond.static arraycopyName, Cond.initialized "java/lang/System", Cond.methodLink RX5 79 yX5_dropKept, Cond.instanceMethod yX5_dropKept, Cond.selects RX5 yX5_dropKept yX5_dropKept, Cond.code yX5_dropKept cX5_dropKept 2 none]
def wsL_law_r11 : List Cond := [Cond.methodLink RL 26 yX6_room, Cond.instanceMethod yX6_room, Cond.selects RX6 yX6_room yX6_room, Cond.code yX6_room cX6_room 4 (some .int), Cond.fieldLink RX6 90 "EchoSeatsModel" "tokens" "I", Cond.methodLink RX6 109 yX6_parts, Cond.instanceMethod yX6_parts, Cond.selects RX6 yX6_parts yX6_parts, Cond.code yX6_parts cX6_parts 2 none, Cond.methodLink RX6 86 yX6_isFigure, Cond.static yX6_isFigure, Cond.code yX6_isFigure cX6_isFigure 1 (some .boolean), Cond.methodLink RX6 93 yX6_numbered, Cond.instanceMethod yX6_numbered, Cond.selects RX6 yX6_numbered yX6_numbered, Cond.code yX6_numbered cX6_numbered 5 (some .int), Cond.methodLink RX6 96 yX6_isLetter, Cond.static yX6_isLetter, Cond.code yX6_isLetter cX6_isLetter 1 (some .boolean), Cond.methodLink RX6 112 yX6_firstWrong, Cond.instanceMethod yX6_firstWrong, Cond.selects RX6 yX6_firstWrong yX6_firstWrong, Cond.code yX6_firstWrong cX6_firstWrong 9 (some .int), Cond.methodLink RX6 103 yX6_token]
def wsL_law_r12 : List Cond := [Cond.instanceMethod yX6_token, Cond.selects RX6 yX6_token yX6_token, Cond.code yX6_token cX6_token 2 (some .int), Cond.methodLink RX6 106 yX6_isNumber, Cond.instanceMethod yX6_isNumber, Cond.selects RX6 yX6_isNumber yX6_isNumber, Cond.code yX6_isNumber cX6_isNumber 4 (some .boolean), Cond.methodLink RX6 99 yX6_isKind, Cond.instanceMethod yX6_isKind, Cond.selects RX6 yX6_isKind yX6_isKind, Cond.code yX6_isKind cX6_isKind 3 (some .boolean), Cond.methodLink RX6 115 yX6_placeOf, Cond.instanceMethod yX6_placeOf, Cond.selects RX6 yX6_placeOf yX6_placeOf, Cond.code yX6_placeOf cX6_placeOf 2 (some .int), Cond.methodLink RX6 118 yX6_lay, Cond.instanceMethod yX6_lay, Cond.selects RX6 yX6_lay yX6_lay, Cond.code yX6_lay cX6_lay 4 none, Cond.methodLink RL 27 yX5_wall, Cond.instanceMethod yX5_wall, Cond.selects RX5 yX5_wall yX5_wall, Cond.code yX5_wall cX5_wall 2 (some .int), Cond.fieldLink RX5 82 "EchoSeats$Scene" "swallows" "[I"]
def wsL_law_r13 : List Cond := [Cond.methodLink RL 30 yX6_wall, Cond.instanceMethod yX6_wall, Cond.selects RX6 yX6_wall yX6_wall, Cond.code yX6_wall cX6_wall 2 (some .int), Cond.methodLink RL 31 yX5_seat, Cond.instanceMethod yX5_seat, Cond.selects RX5 yX5_seat yX5_seat, Cond.code yX5_seat cX5_seat 3 (some .int), Cond.fieldLink RX5 89 "EchoSeats$Scene" "seatX" "[I", Cond.fieldLink RX5 92 "EchoSeats$Scene" "seatY" "[I", Cond.methodLink RX5 86 yX3_hasSeat, Cond.instanceMethod yX3_hasSeat, Cond.selects RX3 yX3_hasSeat yX3_hasSeat, Cond.code yX3_hasSeat cX3_hasSeat 2 (some .boolean), Cond.methodLink RL 35 yX6_seat, Cond.instanceMethod yX6_seat, Cond.selects RX6 yX6_seat yX6_seat, Cond.code yX6_seat cX6_seat 3 (some .int), Cond.methodLink RX6 122 yX6_isSeat, Cond.instanceMethod yX6_isSeat, Cond.selects RX6 yX6_isSeat yX6_isSeat, Cond.code yX6_isSeat cX6_isSeat 2 (some .boolean), Cond.methodLink RL 36 yX5_curtain, Cond.instanceMethod yX5_curtain]
def wsL_law_r14 : List Cond := [Cond.selects RX5 yX5_curtain yX5_curtain, Cond.code yX5_curtain cX5_curtain 3 (some .int), Cond.fieldLink RX5 98 "EchoSeats$Scene" "curtainX" "[I", Cond.fieldLink RX5 101 "EchoSeats$Scene" "curtainFrom" "[I", Cond.fieldLink RX5 104 "EchoSeats$Scene" "curtainTo" "[I", Cond.methodLink RX5 95 yX3_hasCurtain, Cond.instanceMethod yX3_hasCurtain, Cond.selects RX3 yX3_hasCurtain yX3_hasCurtain, Cond.code yX3_hasCurtain cX3_hasCurtain 2 (some .boolean), Cond.methodLink RL 39 yX6_curtain, Cond.instanceMethod yX6_curtain, Cond.selects RX6 yX6_curtain yX6_curtain, Cond.code yX6_curtain cX6_curtain 3 (some .int), Cond.methodLink RX6 125 yX6_isCurtain, Cond.instanceMethod yX6_isCurtain, Cond.selects RX6 yX6_isCurtain yX6_isCurtain, Cond.code yX6_isCurtain cX6_isCurtain 2 (some .boolean), Cond.methodLink RL 40 yX5_pads, Cond.instanceMethod yX5_pads, Cond.selects RX5 yX5_pads yX5_pads, Cond.code yX5_pads cX5_pads 4 (some .int), Cond.methodLink RX5 107 yX2_add, Cond.instanceMethod yX2_add, Cond.selects RX2 yX2_add yX2_add]
def wsL_law_r15 : List Cond := [Cond.code yX2_add cX2_add 5 none, Cond.fieldLink RX2 24 "EchoSeats$Past" "size" "I", Cond.methodLink RX2 28 yX2_loseOldest, Cond.instanceMethod yX2_loseOldest, Cond.selects RX2 yX2_loseOldest yX2_loseOldest, Cond.code yX2_loseOldest cX2_loseOldest 1 none, Cond.methodLink RX2 31 arraycopyName, Cond.methodLink RL 43 yX6_pads, Cond.instanceMethod yX6_pads, Cond.selects RX6 yX6_pads yX6_pads, Cond.code yX6_pads cX6_pads 4 (some .int), Cond.methodLink RX6 128 yX6_known, Cond.instanceMethod yX6_known, Cond.selects RX6 yX6_known yX6_known, Cond.code yX6_known cX6_known 4 none, Cond.methodLink RL 44 yX5_draws, Cond.instanceMethod yX5_draws, Cond.selects RX5 yX5_draws yX5_draws, Cond.code yX5_draws cX5_draws 6 (some .int), Cond.fieldLink RX5 111 "EchoSeats$Scene" "breadth" "I", Cond.methodLink RL 48 yX6_draws, Cond.instanceMethod yX6_draws, Cond.selects RX6 yX6_draws yX6_draws, Cond.code yX6_draws cX6_draws 5 (some .int)]
def wsL_law_r16 : List Cond := [Cond.methodLink RL 49 yX5_moves, Cond.instanceMethod yX5_moves, Cond.selects RX5 yX5_moves yX5_moves, Cond.code yX5_moves cX5_moves 4 (some .int), Cond.fieldLink RX5 114 "EchoSeats$Scene" "length" "I", Cond.fieldLink RX5 117 "EchoSeats$Scene" "sourceX" "I", Cond.fieldLink RX5 120 "EchoSeats$Scene" "sourceY" "I", Cond.methodLink RX5 123 yX3_sourceCode, Cond.instanceMethod yX3_sourceCode, Cond.selects RX3 yX3_sourceCode yX3_sourceCode, Cond.code yX3_sourceCode cX3_sourceCode 1 (some .int), Cond.methodLink RL 52 yX6_moves, Cond.instanceMethod yX6_moves, Cond.selects RX6 yX6_moves yX6_moves, Cond.code yX6_moves cX6_moves 4 (some .int), Cond.methodLink RX6 131 yX6_isWithin, Cond.instanceMethod yX6_isWithin, Cond.selects RX6 yX6_isWithin yX6_isWithin, Cond.code yX6_isWithin cX6_isWithin 3 (some .boolean), Cond.methodLink RX6 134 yX6_sourceAt, Cond.instanceMethod yX6_sourceAt, Cond.selects RX6 yX6_sourceAt yX6_sourceAt, Cond.code yX6_sourceAt cX6_sourceAt 1 (some .int), Cond.methodLink RL 53 yX5_undo]
def wsL_law_r17 : List Cond := [Cond.instanceMethod yX5_undo, Cond.selects RX5 yX5_undo yX5_undo, Cond.code yX5_undo cX5_undo 1 (some .int), Cond.methodLink RX5 127 yX2_takeBackIn, Cond.instanceMethod yX2_takeBackIn, Cond.selects RX2 yX2_takeBackIn yX2_takeBackIn, Cond.code yX2_takeBackIn cX2_takeBackIn 3 none, Cond.fieldLink RX2 37 "EchoSeats$Scene" "swallows" "[I", Cond.fieldLink RX2 42 "EchoSeats$Scene" "curtainFrom" "[I", Cond.fieldLink RX2 45 "EchoSeats$Scene" "curtainTo" "[I", Cond.fieldLink RX2 48 "EchoSeats$Scene" "sourceX" "I", Cond.fieldLink RX2 51 "EchoSeats$Scene" "sourceY" "I", Cond.methodLink RL 56 yX6_undo, Cond.instanceMethod yX6_undo, Cond.selects RX6 yX6_undo yX6_undo, Cond.code yX6_undo cX6_undo 1 (some .int), Cond.methodLink RL 57 yX5_mirror, Cond.instanceMethod yX5_mirror, Cond.selects RX5 yX5_mirror yX5_mirror, Cond.code yX5_mirror cX5_mirror 4 (some .int), Cond.constant RX5 134 (-1000000), Cond.methodLink RX5 142 Lib.Math.abs.name, Cond.static Lib.Math.abs.name, Cond.code Lib.Math.abs.name Lib.Math.abs.code 1 (some .int)]
def wsL_law_r18 : List Cond := [Cond.methodLink RX5 130 yX5_isImage, Cond.static yX5_isImage, Cond.code yX5_isImage cX5_isImage 2 (some .boolean), Cond.methodLink RX5 135 yX3_imageX, Cond.instanceMethod yX3_imageX, Cond.selects RX3 yX3_imageX yX3_imageX, Cond.code yX3_imageX cX3_imageX 2 (some .int), Cond.static yX5_mirrored, Cond.code yX5_mirrored cX5_mirrored 3 (some .int), Cond.methodLink RX5 139 yX3_imageY, Cond.instanceMethod yX3_imageY, Cond.selects RX3 yX3_imageY yX3_imageY, Cond.code yX3_imageY cX3_imageY 2 (some .int), Cond.methodLink RX5 147 yX3_softPasses, Cond.instanceMethod yX3_softPasses, Cond.selects RX3 yX3_softPasses yX3_softPasses, Cond.code yX3_softPasses cX3_softPasses 5 (some .int), Cond.static yX5_passes, Cond.code yX5_passes cX5_passes 3 (some .int), Cond.methodLink RX5 237 yX5_farPasses, Cond.static yX5_farPasses, Cond.code yX5_farPasses cX5_farPasses 1 (some .int), Cond.methodLink RL 60 yX6_mirror, Cond.instanceMethod yX6_mirror]
def wsL_law_r19 : List Cond := [Cond.selects RX6 yX6_mirror yX6_mirror, Cond.code yX6_mirror cX6_mirror 4 (some .int), Cond.constant RX6 145 (-1000000), Cond.methodLink RX6 142 yX6_isImage, Cond.static yX6_isImage, Cond.code yX6_isImage cX6_isImage 2 (some .boolean), Cond.methodLink RX6 79 yX6_size, Cond.static yX6_size, Cond.code yX6_size cX6_size 1 (some .int), Cond.methodLink RX6 146 yX6_mirrored, Cond.static yX6_mirrored, Cond.code yX6_mirrored cX6_mirrored 3 (some .int), Cond.methodLink RX6 149 yX6_softTimes, Cond.instanceMethod yX6_softTimes, Cond.selects RX6 yX6_softTimes yX6_softTimes, Cond.code yX6_softTimes cX6_softTimes 5 (some .int), Cond.methodLink RX6 138 yX6_times, Cond.static yX6_times, Cond.code yX6_times cX6_times 5 (some .int), Cond.methodLink RL 61 yX5_path, Cond.instanceMethod yX5_path, Cond.selects RX5 yX5_path yX5_path, Cond.code yX5_path cX5_path 8 (some .int), Cond.methodLink RX5 151 yX3_waySquared]
def wsL_law_r20 : List Cond := [Cond.instanceMethod yX3_waySquared, Cond.selects RX3 yX3_waySquared yX3_waySquared, Cond.code yX3_waySquared cX3_waySquared 5 (some .int), Cond.methodLink RX3 71 yX3_imageX, Cond.methodLink RX3 75 yX3_imageY, Cond.static yX5_squares, Cond.code yX5_squares cX5_squares 2 (some .int), Cond.methodLink RX5 155 yX5_timeOf, Cond.static yX5_timeOf, Cond.code yX5_timeOf cX5_timeOf 5 (some .int), Cond.methodLink RX5 158 yX5_strengthOf, Cond.static yX5_strengthOf, Cond.code yX5_strengthOf cX5_strengthOf 8 (some .int), Cond.constant RX5 240 (1000000), Cond.methodLink RX5 205 Lib.Math.max.name, Cond.static Lib.Math.max.name, Cond.code Lib.Math.max.name Lib.Math.max.code 2 (some .int), Cond.methodLink RX5 241 yX5_passes, Cond.methodLink RX5 162 yX3_isHidden, Cond.instanceMethod yX3_isHidden, Cond.selects RX3 yX3_isHidden yX3_isHidden, Cond.code yX3_isHidden cX3_isHidden 13 (some .boolean), Cond.methodLink RX3 82 Lib.Math.abs.name, Cond.methodLink RX3 87 Lib.Math.min.name]
def wsL_law_r21 : List Cond := [Cond.methodLink RX3 90 Lib.Math.max.name, Cond.methodLink RX3 93 yX3_curtainMeets, Cond.instanceMethod yX3_curtainMeets, Cond.selects RX3 yX3_curtainMeets yX3_curtainMeets, Cond.code yX3_curtainMeets cX3_curtainMeets 8 (some .boolean), Cond.methodLink RX3 97 yJ9_floorDiv_7cf53, Cond.static yJ9_floorDiv_7cf53, Cond.initialized RJ9, Cond.code yJ9_floorDiv_7cf53 cJ9_floorDiv_7cf53 3 (some .int), Cond.methodLink RL 65 yX6_path, Cond.instanceMethod yX6_path, Cond.selects RX6 yX6_path yX6_path, Cond.code yX6_path cX6_path 8 (some .int), Cond.methodLink RX6 158 yX6_wayOf, Cond.instanceMethod yX6_wayOf, Cond.selects RX6 yX6_wayOf yX6_wayOf, Cond.code yX6_wayOf cX6_wayOf 7 (some .int), Cond.methodLink RX6 162 yX6_swallowsNow, Cond.instanceMethod yX6_swallowsNow, Cond.selects RX6 yX6_swallowsNow yX6_swallowsNow, Cond.code yX6_swallowsNow cX6_swallowsNow 2 none, Cond.methodLink RX6 165 yX6_timeOf, Cond.static yX6_timeOf, Cond.code yX6_timeOf cX6_timeOf 4 (some .int)]
def wsL_law_r22 : List Cond := [Cond.methodLink RX6 168 yX6_strengthOf, Cond.instanceMethod yX6_strengthOf, Cond.selects RX6 yX6_strengthOf yX6_strengthOf, Cond.code yX6_strengthOf cX6_strengthOf 7 (some .int), Cond.constant RX6 153 (1000000), Cond.methodLink RX6 171 yX6_isHidden, Cond.instanceMethod yX6_isHidden, Cond.selects RX6 yX6_isHidden yX6_isHidden, Cond.code yX6_isHidden cX6_isHidden 8 (some .boolean), Cond.methodLink RX6 154 yX6_meets, Cond.instanceMethod yX6_meets, Cond.selects RX6 yX6_meets yX6_meets, Cond.code yX6_meets cX6_meets 14 (some .boolean), Cond.methodLink RL 66 yX5_heard, Cond.instanceMethod yX5_heard, Cond.selects RX5 yX5_heard yX5_heard, Cond.code yX5_heard cX5_heard 4 (some .int), Cond.fieldLink RX5 170 "EchoSeats$Ear" "size" "I", Cond.fieldLink RX5 171 "EchoSeats$Ear" "times" "[I", Cond.fieldLink RX5 174 "EchoSeats$Ear" "strengths" "[I", Cond.fieldLink RX5 177 "EchoSeats$Ear" "is" "[I", Cond.fieldLink RX5 180 "EchoSeats$Ear" "js" "[I", Cond.methodLink RX5 166 yX0_hearAtSeat, Cond.instanceMethod yX0_hearAtSeat]
def wsL_law_r23 : List Cond := [Cond.selects RX0 yX0_hearAtSeat yX0_hearAtSeat, Cond.code yX0_hearAtSeat cX0_hearAtSeat 8 none, Cond.fieldLink RX0 30 "EchoSeats$Ear" "size" "I", Cond.fieldLink RX0 34 "EchoSeats$Ear" "total" "I", Cond.fieldLink RX0 43 "EchoSeats$Scene" "seatX" "[I", Cond.fieldLink RX0 46 "EchoSeats$Scene" "seatY" "[I", Cond.methodLink RX0 49 Lib.Math.abs.name, Cond.methodLink RX0 37 yX3_hasSeat, Cond.methodLink RX0 55 yX3_isHidden, Cond.methodLink RX0 59 yX3_waySquared, Cond.methodLink RX0 63 yX0_insert, Cond.instanceMethod yX0_insert, Cond.selects RX0 yX0_insert yX0_insert, Cond.code yX0_insert cX0_insert 7 none, Cond.fieldLink RX0 74 "EchoSeats$Scene" "swallows" "[I", Cond.methodLink RX0 70 yX0_shiftUp, Cond.instanceMethod yX0_shiftUp, Cond.selects RX0 yX0_shiftUp yX0_shiftUp, Cond.code yX0_shiftUp cX0_shiftUp 2 none, Cond.methodLink RX5 183 yX5_imageCode, Cond.static yX5_imageCode, Cond.code yX5_imageCode cX5_imageCode 2 (some .int), Cond.methodLink RL 69 yX6_heard, Cond.instanceMethod yX6_heard]
def wsL_law_r24 : List Cond := [Cond.selects RX6 yX6_heard yX6_heard, Cond.code yX6_heard cX6_heard 5 (some .int), Cond.fieldLink RX6 175 "EchoSeatsModel" "heard" "I", Cond.methodLink RX6 181 yX6_hearsNow, Cond.instanceMethod yX6_hearsNow, Cond.selects RX6 yX6_hearsNow yX6_hearsNow, Cond.code yX6_hearsNow cX6_hearsNow 2 none, Cond.methodLink RX6 178 yX6_hears, Cond.instanceMethod yX6_hears, Cond.selects RX6 yX6_hears yX6_hears, Cond.code yX6_hears cX6_hears 7 none, Cond.methodLink RX6 184 yX6_rankedAt, Cond.instanceMethod yX6_rankedAt, Cond.selects RX6 yX6_rankedAt yX6_rankedAt, Cond.code yX6_rankedAt cX6_rankedAt 6 (some .int), Cond.methodLink RL 70 yX5_sound, Cond.instanceMethod yX5_sound, Cond.selects RX5 yX5_sound yX5_sound, Cond.code yX5_sound cX5_sound 3 (some .int), Cond.fieldLink RX5 186 "EchoSeats$Ear" "total" "I", Cond.methodLink RX5 189 yX0_firstGap, Cond.instanceMethod yX0_firstGap, Cond.selects RX0 yX0_firstGap yX0_firstGap, Cond.code yX0_firstGap cX0_firstGap 1 (some .int)]
def wsL_law_r25 : List Cond := [Cond.methodLink RL 73 yX6_sound, Cond.instanceMethod yX6_sound, Cond.selects RX6 yX6_sound yX6_sound, Cond.code yX6_sound cX6_sound 3 (some .int), Cond.methodLink RX6 190 yX6_soundAll, Cond.instanceMethod yX6_soundAll, Cond.selects RX6 yX6_soundAll yX6_soundAll, Cond.code yX6_soundAll cX6_soundAll 1 (some .int), Cond.methodLink RX6 187 yX6_soundBy, Cond.instanceMethod yX6_soundBy, Cond.selects RX6 yX6_soundBy yX6_soundBy, Cond.code yX6_soundBy cX6_soundBy 4 (some .int), Cond.methodLink RL 74 yX5_early, Cond.instanceMethod yX5_early, Cond.selects RX5 yX5_early yX5_early, Cond.code yX5_early cX5_early 4 (some .int), Cond.methodLink RX5 192 yX0_strengthUpTo, Cond.instanceMethod yX0_strengthUpTo, Cond.selects RX0 yX0_strengthUpTo yX0_strengthUpTo, Cond.code yX0_strengthUpTo cX0_strengthUpTo 4 (some .int), Cond.methodLink RX5 195 yX5_leastTerm, Cond.static yX5_leastTerm, Cond.code yX5_leastTerm cX5_leastTerm 4 (some .int), Cond.methodLink RX5 244 yX5_commonDivisor]
def wsL_law_r26 : List Cond := [Cond.static yX5_commonDivisor, Cond.code yX5_commonDivisor cX5_commonDivisor 6 (some .int), Cond.methodLink RL 77 yX6_early, Cond.instanceMethod yX6_early, Cond.selects RX6 yX6_early yX6_early, Cond.code yX6_early cX6_early 5 (some .int), Cond.methodLink RX6 196 yX6_fraction, Cond.static yX6_fraction, Cond.code yX6_fraction cX6_fraction 4 (some .int), Cond.methodLink RX6 193 yX6_common, Cond.static yX6_common, Cond.code yX6_common cX6_common 5 (some .int), Cond.methodLink RL 78 yX5_fade, Cond.instanceMethod yX5_fade, Cond.selects RX5 yX5_fade yX5_fade, Cond.code yX5_fade cX5_fade 3 (some .int), Cond.methodLink RX5 199 yX0_fadeTime, Cond.instanceMethod yX0_fadeTime, Cond.selects RX0 yX0_fadeTime yX0_fadeTime, Cond.code yX0_fadeTime cX0_fadeTime 4 (some .int), Cond.methodLink RL 81 yX6_fade, Cond.instanceMethod yX6_fade, Cond.selects RX6 yX6_fade yX6_fade, Cond.code yX6_fade cX6_fade 10 (some .int)]
def wsL_law_r27 : List Cond := [Cond.constantLong RX6 199 (10), Cond.methodLink RL 82 yX5_best, Cond.instanceMethod yX5_best, Cond.selects RX5 yX5_best yX5_best, Cond.code yX5_best cX5_best 12 (some .int), Cond.fieldLink RX5 202 "EchoSeats$Scene" "seats" "I", Cond.methodLink RL 85 yX6_best, Cond.instanceMethod yX6_best, Cond.selects RX6 yX6_best yX6_best, Cond.code yX6_best cX6_best 12 (some .int), Cond.methodLink RL 86 yX5_odds, Cond.instanceMethod yX5_odds, Cond.selects RX5 yX5_odds yX5_odds, Cond.code yX5_odds cX5_odds 7 (some .int), Cond.constant RX5 208 (999999), Cond.methodLink RX5 209 yX0_soundIfDeaf, Cond.instanceMethod yX0_soundIfDeaf, Cond.selects RX0 yX0_soundIfDeaf yX0_soundIfDeaf, Cond.code yX0_soundIfDeaf cX0_soundIfDeaf 5 (some .int), Cond.methodLink RX5 213 yX5_chanceOf, Cond.static yX5_chanceOf, Cond.code yX5_chanceOf cX5_chanceOf 4 (some .int), Cond.methodLink RL 89 yX6_odds, Cond.instanceMethod yX6_odds]
def wsL_law_r28 : List Cond := [Cond.selects RX6 yX6_odds yX6_odds, Cond.code yX6_odds cX6_odds 10 (some .int), Cond.constant RX6 201 (999999), Cond.methodLink RL 90 yX5_sees, Cond.instanceMethod yX5_sees, Cond.selects RX5 yX5_sees yX5_sees, Cond.code yX5_sees cX5_sees 4 (some .int), Cond.methodLink RX5 216 yX1_addSeen, Cond.instanceMethod yX1_addSeen, Cond.selects RX1 yX1_addSeen yX1_addSeen, Cond.code yX1_addSeen cX1_addSeen 4 (some .boolean), Cond.fieldLink RX1 30 "EchoSeats$Finder" "seen" "I", Cond.methodLink RL 93 yX6_sees, Cond.instanceMethod yX6_sees, Cond.selects RX6 yX6_sees yX6_sees, Cond.code yX6_sees cX6_sees 4 (some .int), Cond.methodLink RL 94 yX5_forget, Cond.instanceMethod yX5_forget, Cond.selects RX5 yX5_forget yX5_forget, Cond.code yX5_forget cX5_forget 2 (some .int), Cond.methodLink RL 97 yX6_forget, Cond.instanceMethod yX6_forget, Cond.selects RX6 yX6_forget yX6_forget, Cond.code yX6_forget cX6_forget 2 (some .int)]
def wsL_law_r29 : List Cond := [Cond.methodLink RL 98 yX5_unseen, Cond.instanceMethod yX5_unseen, Cond.selects RX5 yX5_unseen yX5_unseen, Cond.code yX5_unseen cX5_unseen 2 (some .int), Cond.fieldLink RX5 222 "EchoSeats$Finder" "found" "I", Cond.fieldLink RX5 225 "EchoSeats$Finder" "placeX" "[I", Cond.fieldLink RX5 228 "EchoSeats$Finder" "placeY" "[I", Cond.methodLink RX5 219 yX1_findPlaces, Cond.instanceMethod yX1_findPlaces, Cond.selects RX1 yX1_findPlaces yX1_findPlaces, Cond.code yX1_findPlaces cX1_findPlaces 4 none, Cond.fieldLink RX1 34 "EchoSeats$Finder" "found" "I", Cond.fieldLink RX1 37 "EchoSeats$Scene" "length" "I", Cond.fieldLink RX1 42 "EchoSeats$Scene" "breadth" "I", Cond.methodLink RX1 45 yX1_isPossible, Cond.instanceMethod yX1_isPossible, Cond.selects RX1 yX1_isPossible yX1_isPossible, Cond.code yX1_isPossible cX1_isPossible 5 (some .boolean), Cond.methodLink RX1 49 yX3_waySquared, Cond.methodLink RL 101 yX6_unseen, Cond.instanceMethod yX6_unseen, Cond.selects RX6 yX6_unseen yX6_unseen, Cond.code yX6_unseen cX6_unseen 2 (some .int), Cond.methodLink RX6 205 yX6_places]
def wsL_law_r30 : List Cond := [Cond.instanceMethod yX6_places, Cond.selects RX6 yX6_places yX6_places, Cond.code yX6_places cX6_places 5 (some .int), Cond.methodLink RX6 202 yX6_mayBe, Cond.instanceMethod yX6_mayBe, Cond.selects RX6 yX6_mayBe yX6_mayBe, Cond.code yX6_mayBe cX6_mayBe 5 (some .boolean), Cond.methodLink RL 102 yX5_listen, Cond.instanceMethod yX5_listen, Cond.selects RX5 yX5_listen yX5_listen, Cond.code yX5_listen cX5_listen 1 (some .int), Cond.methodLink RX5 231 yX1_tellingImage, Cond.instanceMethod yX1_tellingImage, Cond.selects RX1 yX1_tellingImage yX1_tellingImage, Cond.code yX1_tellingImage cX1_tellingImage 9 (some .int), Cond.methodLink RX1 63 Lib.Math.abs.name, Cond.methodLink RX1 57 yJ7_fill_53178, Cond.methodLink RX1 68 yX1_unlikeTimes, Cond.instanceMethod yX1_unlikeTimes, Cond.selects RX1 yX1_unlikeTimes yX1_unlikeTimes, Cond.code yX1_unlikeTimes cX1_unlikeTimes 10 (some .int), Cond.methodLink RX1 76 yX3_imageX, Cond.methodLink RX1 79 yX3_imageY, Cond.methodLink RL 105 yX6_listen]
def wsL_law_r31 : List Cond := [Cond.instanceMethod yX6_listen, Cond.selects RX6 yX6_listen yX6_listen, Cond.code yX6_listen cX6_listen 6 (some .int), Cond.methodLink RX6 209 yX6_unlike, Cond.instanceMethod yX6_unlike, Cond.selects RX6 yX6_unlike yX6_unlike, Cond.code yX6_unlike cX6_unlike 7 (some .int), Cond.methodLink RL 106 yX5_keep, Cond.instanceMethod yX5_keep, Cond.selects RX5 yX5_keep yX5_keep, Cond.code yX5_keep cX5_keep 2 (some .int), Cond.methodLink RL 109 yX6_keep, Cond.instanceMethod yX6_keep, Cond.selects RX6 yX6_keep yX6_keep, Cond.code yX6_keep cX6_keep 3 (some .int), Cond.methodLink RL 110 yX5_back, Cond.instanceMethod yX5_back, Cond.selects RX5 yX5_back yX5_back, Cond.code yX5_back cX5_back 2 (some .int), Cond.methodLink RL 113 yX6_back, Cond.instanceMethod yX6_back, Cond.selects RX6 yX6_back yX6_back, Cond.code yX6_back cX6_back 3 (some .int), Cond.methodLink RL 114 yX5_count]
def wsL_law_r32 : List Cond := [Cond.instanceMethod yX5_count, Cond.selects RX5 yX5_count yX5_count, Cond.code yX5_count cX5_count 2 (some .int), Cond.fieldLink RX5 234 "EchoSeats$Scene" "curtains" "I", Cond.methodLink RL 117 yX6_count, Cond.instanceMethod yX6_count, Cond.selects RX6 yX6_count yX6_count, Cond.code yX6_count cX6_count 2 (some .int)]
def wsL_law : List Cond := (wsL_law_r1 ++ (wsL_law_r2 ++ (wsL_law_r3 ++ (wsL_law_r4 ++ (wsL_law_r5 ++ (wsL_law_r6 ++ (wsL_law_r7 ++ (wsL_law_r8 ++ (wsL_law_r9 ++ (wsL_law_r10 ++ (wsL_law_r11 ++ (wsL_law_r12 ++ (wsL_law_r13 ++ (wsL_law_r14 ++ (wsL_law_r15 ++ (wsL_law_r16 ++ (wsL_law_r17 ++ (wsL_law_r18 ++ (wsL_law_r19 ++ (wsL_law_r20 ++ (wsL_law_r21 ++ (wsL_law_r22 ++ (wsL_law_r23 ++ (wsL_law_r24 ++ (wsL_law_r25 ++ (wsL_law_r26 ++ (wsL_law_r27 ++ (wsL_law_r28 ++ (wsL_law_r29 ++ (wsL_law_r30 ++ (wsL_law_r31 ++ wsL_law_r32))))))))))))))))))))))))))))))) ++ wsX50 ++ wsX60 ++ wsX30 ++ wsX40 ++ wsX20 ++ wsX00 ++ wsX10 ++ ([] : List Cond)
theorem inlX0 : ∀ w ∈ wsX00, w ∈ wsL_law := fun _ h => List.mem_append_left _ (List.mem_append_left _ (List.mem_append_right _ h))
theorem inlX1 : ∀ w ∈ wsX10, w ∈ wsL_law := fun _ h => List.mem_append_left _ (List.mem_append_right _ h)
theorem inlX2 : ∀ w ∈ wsX20, w ∈ wsL_law := fun _ h => List.mem_append_left _ (List.mem_append_left _ (List.mem_append_left _ (List.mem_append_right _ h)))
theorem inlX3 : ∀ w ∈ wsX30, w ∈ wsL_law := fun _ h => List.mem_append_left _ (List.mem_append_left _ (List.mem_append_left _ (List.mem_append_left _ (List.mem_append_left _ (List.mem_append_right _ h)))))
theorem inlX4 : ∀ w ∈ wsX40, w ∈ wsL_law := fun _ h => List.mem_append_left _ (List.mem_append_left _ (List.mem_append_left _ (List.mem_append_left _ (List.mem_append_right _ h))))
theorem inlX5 : ∀ w ∈ wsX50, w ∈ wsL_law := fun _ h => List.mem_append_left _ (List.mem_append_left _ (List.mem_append_left _ (List.mem_append_left _ (List.mem_append_left _ (List.mem_append_left _ (List.mem_append_left _ (List.mem_append_right _ h)))))))
theorem inlX6 : ∀ w ∈ wsX60, w ∈ wsL_law := fun _ h => List.mem_append_left _ (List.mem_append_left _ (List.mem_append_left _ (List.mem_append_left _ (List.mem_append_left _ (List.mem_append_left _ (List.mem_append_right _ h))))))
theorem inJ9 : ∀ w ∈ wsJ90, w ∈ lw_tbl := by decide +kernel
theorem inJ10 : ∀ w ∈ wsJ100, w ∈ lw_tbl := by decide +kernel
theorem inJ7 : ∀ w ∈ wsJ70, w ∈ lw_tbl := by decide +kernel
theorem dX0_init_0 : decode cX0_init 0 = .ok (.aload_n 0, 1) := by decide +kernel
theorem dX0_init_1 : decode cX0_init 1 = .ok (.invokespecial 3, 3) := by decide +kernel
theorem dX0_init_4 : decode cX0_init 4 = .ok (.aload_n 0, 1) := by decide +kernel
theorem dX0_init_5 : decode cX0_init 5 = .ok (.bipush 25, 2) := by decide +kernel
theorem dX0_init_7 : decode cX0_init 7 = .ok (.newarray .int, 2) := by decide +kernel
theorem dX0_init_9 : decode cX0_init 9 = .ok (.putfield 9, 3) := by decide +kernel
theorem dX0_init_12 : decode cX0_init 12 = .ok (.aload_n 0, 1) := by decide +kernel
theorem dX0_init_13 : decode cX0_init 13 = .ok (.bipush 25, 2) := by decide +kernel
theorem dX0_init_15 : decode cX0_init 15 = .ok (.newarray .int, 2) := by decide +kernel
theorem dX0_init_17 : decode cX0_init 17 = .ok (.putfield 15, 3) := by decide +kernel
theorem dX0_init_20 : decode cX0_init 20 = .ok (.aload_n 0, 1) := by decide +kernel
theorem dX0_init_21 : decode cX0_init 21 = .ok (.bipush 25, 2) := by decide +kernel
theorem dX0_init_23 : decode cX0_init 23 = .ok (.newarray .int, 2) := by decide +kernel
theorem dX0_init_25 : decode cX0_init 25 = .ok (.putfield 18, 3) := by decide +kernel
theorem dX0_init_28 : decode cX0_init 28 = .ok (.aload_n 0, 1) := by decide +kernel
theorem dX0_init_29 : decode cX0_init 29 = .ok (.bipush 25, 2) := by decide +kernel
theorem dX0_init_31 : decode cX0_init 31 = .ok (.newarray .int, 2) := by decide +kernel
theorem dX0_init_33 : decode cX0_init 33 = .ok (.putfield 21, 3) := by decide +kernel
theorem dX0_init_36 : decode cX0_init 36 = .ok (.aload_n 0, 1) := by decide +kernel
theorem dX0_init_37 : decode cX0_init 37 = .ok (.bipush 25, 2) := by decide +kernel
theorem dX0_init_39 : decode cX0_init 39 = .ok (.newarray .int, 2) := by decide +kernel
theorem dX0_init_41 : decode cX0_init 41 = .ok (.putfield 24, 3) := by decide +kernel
theorem dX0_init_44 : decode cX0_init 44 = .ok (.aload_n 0, 1) := by decide +kernel
theorem dX0_init_45 : decode cX0_init 45 = .ok (.iconst 4, 1) := by decide +kernel
theorem dX0_init_46 : decode cX0_init 46 = .ok (.newarray .int, 2) := by decide +kernel
theorem dX0_init_48 : decode cX0_init 48 = .ok (.putfield 27, 3) := by decide +kernel
theorem dX0_init_51 : decode cX0_init 51 = .ok (.return_, 1) := by decide +kernel
set_option maxRecDepth 20000 in
theorem ggX0_hearAtSeat_X3_hasSeat : GoodIn wsX0_hearAtSeat wsX3_hasSeat := goodIn_r _ [13, 14, 94, 95, 96, 97, 98, 99, 100, 101, 102, 103, 104, 105] (by decide +kernel) (by decide +kernel)
set_option maxRecDepth 20000 in
theorem gX0_hearAtSeat_X3_hasSeat : GoodIn wsX0_hearAtSeat (wsV RX0 37 RX3 yX3_hasSeat wsX3_hasSeat) := goodIn_app (goodIn_of _ (by decide +kernel)) ggX0_hearAtSeat_X3_hasSeat
set_option maxRecDepth 20000 in
theorem ggX0_hearAtSeat_X3_isHidden : GoodIn wsX0_hearAtSeat wsX3_isHidden := goodIn_r _ [18, 19, 20, 21, 22, 6, 7, 8, 23, 24, 25, 26, 27, 28, 29, 30, 31, 12, 32, 33, 34, 35, 36, 37, 38, 39, 40, 41, 42, 43, 44, 45, 46, 47, 48, 49, 50, 51, 52, 94, 95, 96, 97, 98, 99, 100, 101, 102, 103, 104, 105] (by decide +kernel) (by decide +kernel)
set_option maxRecDepth 20000 in
theorem gX0_hearAtSeat_X3_isHidden : GoodIn wsX0_hearAtSeat (wsV RX0 55 RX3 yX3_isHidden wsX3_isHidden) := goodIn_app (goodIn_of _ (by decide +kernel)) ggX0_hearAtSeat_X3_isHidden
set_option maxRecDepth 20000 in
theorem ggX0_hearAtSeat_X3_waySquared : GoodIn wsX0_hearAtSeat wsX3_waySquared := goodIn_r _ [56, 29, 30, 31, 12, 32, 20, 33, 34, 35, 36, 37, 38, 39, 40, 41, 42, 57, 58, 94, 95, 96, 97, 98, 99, 100, 101, 102, 103, 104, 105] (by decide +kernel) (by decide +kernel)
set_option maxRecDepth 20000 in
theorem gX0_hearAtSeat_X3_waySquared : GoodIn wsX0_hearAtSeat (wsV RX0 59 RX3 yX3_waySquared wsX3_waySquared) := goodIn_app (goodIn_of _ (by decide +kernel)) ggX0_hearAtSeat_X3_waySquared
set_option maxRecDepth 20000 in
theorem ggX0_hearAtSeat_X0_insert : GoodIn wsX0_hearAtSeat wsX0_insert := goodIn_r _ [63, 1, 64, 65, 66, 67, 68, 69, 2, 70, 35, 71, 72, 73, 74, 62, 75, 76, 77, 78, 79, 27, 7, 28, 80, 81, 82, 83, 84, 85, 86, 87, 88, 89, 90, 91, 92, 93, 94, 95, 96, 97, 98, 99, 100, 101, 102, 103, 104, 105] (by decide +kernel) (by decide +kernel)
set_option maxRecDepth 20000 in
theorem gX0_hearAtSeat_X0_insert : GoodIn wsX0_hearAtSeat (wsV RX0 63 RX0 yX0_insert wsX0_insert) := goodIn_app (goodIn_of _ (by decide +kernel)) ggX0_hearAtSeat_X0_insert
theorem dX0_hearAtSeat_0 : decode cX0_hearAtSeat 0 = .ok (.aload_n 0, 1) := by decide +kernel
theorem dX0_hearAtSeat_1 : decode cX0_hearAtSeat 1 = .ok (.iconst 0, 1) := by decide +kernel
theorem dX0_hearAtSeat_2 : decode cX0_hearAtSeat 2 = .ok (.putfield 30, 3) := by decide +kernel
theorem dX0_hearAtSeat_5 : decode cX0_hearAtSeat 5 = .ok (.aload_n 0, 1) := by decide +kernel
theorem dX0_hearAtSeat_6 : decode cX0_hearAtSeat 6 = .ok (.iconst 0, 1) := by decide +kernel
theorem dX0_hearAtSeat_7 : decode cX0_hearAtSeat 7 = .ok (.putfield 34, 3) := by decide +kernel
theorem dX0_hearAtSeat_10 : decode cX0_hearAtSeat 10 = .ok (.aload_n 1, 1) := by decide +kernel
theorem dX0_hearAtSeat_11 : decode cX0_hearAtSeat 11 = .ok (.iload_n 2, 1) := by decide +kernel
theorem dX0_hearAtSeat_12 : decode cX0_hearAtSeat 12 = .ok (.invokevirtual 37, 3) := by decide +kernel
theorem dX0_hearAtSeat_15 : decode cX0_hearAtSeat 15 = .ok (.ifCond .ne 4, 3) := by decide +kernel
theorem dX0_hearAtSeat_18 : decode cX0_hearAtSeat 18 = .ok (.return_, 1) := by decide +kernel
theorem dX0_hearAtSeat_19 : decode cX0_hearAtSeat 19 = .ok (.aload_n 1, 1) := by decide +kernel
theorem dX0_hearAtSeat_20 : decode cX0_hearAtSeat 20 = .ok (.getfield 43, 3) := by decide +kernel
theorem dX0_hearAtSeat_23 : decode cX0_hearAtSeat 23 = .ok (.iload_n 2, 1) := by decide +kernel
theorem dX0_hearAtSeat_24 : decode cX0_hearAtSeat 24 = .ok (.iaload, 1) := by decide +kernel
theorem dX0_hearAtSeat_25 : decode cX0_hearAtSeat 25 = .ok (.istore_n 3, 1) := by decide +kernel
theorem dX0_hearAtSeat_26 : decode cX0_hearAtSeat 26 = .ok (.aload_n 1, 1) := by decide +kernel
theorem dX0_hearAtSeat_27 : decode cX0_hearAtSeat 27 = .ok (.getfield 46, 3) := by decide +kernel
theorem dX0_hearAtSeat_30 : decode cX0_hearAtSeat 30 = .ok (.iload_n 2, 1) := by decide +kernel
theorem dX0_hearAtSeat_31 : decode cX0_hearAtSeat 31 = .ok (.iaload, 1) := by decide +kernel
theorem dX0_hearAtSeat_32 : decode cX0_hearAtSeat 32 = .ok (.istore 4, 2) := by decide +kernel
theorem dX0_hearAtSeat_34 : decode cX0_hearAtSeat 34 = .ok (.bipush (-3), 2) := by decide +kernel
theorem dX0_hearAtSeat_36 : decode cX0_hearAtSeat 36 = .ok (.istore 5, 2) := by decide +kernel
theorem dX0_hearAtSeat_38 : decode cX0_hearAtSeat 38 = .ok (.iload 5, 2) := by decide +kernel
theorem dX0_hearAtSeat_40 : decode cX0_hearAtSeat 40 = .ok (.iconst 3, 1) := by decide +kernel
theorem dX0_hearAtSeat_41 : decode cX0_hearAtSeat 41 = .ok (.if_icmp .gt 70, 3) := by decide +kernel
theorem dX0_hearAtSeat_44 : decode cX0_hearAtSeat 44 = .ok (.iconst 3, 1) := by decide +kernel
theorem dX0_hearAtSeat_45 : decode cX0_hearAtSeat 45 = .ok (.iload 5, 2) := by decide +kernel
theorem dX0_hearAtSeat_47 : decode cX0_hearAtSeat 47 = .ok (.invokestatic 49, 3) := by decide +kernel
theorem dX0_hearAtSeat_50 : decode cX0_hearAtSeat 50 = .ok (.isub, 1) := by decide +kernel
theorem dX0_hearAtSeat_51 : decode cX0_hearAtSeat 51 = .ok (.istore 6, 2) := by decide +kernel
theorem dX0_hearAtSeat_53 : decode cX0_hearAtSeat 53 = .ok (.iload 6, 2) := by decide +kernel
theorem dX0_hearAtSeat_55 : decode cX0_hearAtSeat 55 = .ok (.ineg, 1) := by decide +kernel
theorem dX0_hearAtSeat_56 : decode cX0_hearAtSeat 56 = .ok (.istore 7, 2) := by decide +kernel
theorem dX0_hearAtSeat_58 : decode cX0_hearAtSeat 58 = .ok (.iload 7, 2) := by decide +kernel
theorem dX0_hearAtSeat_60 : decode cX0_hearAtSeat 60 = .ok (.iload 6, 2) := by decide +kernel
theorem dX0_hearAtSeat_62 : decode cX0_hearAtSeat 62 = .ok (.if_icmp .gt 43, 3) := by decide +kernel
theorem dX0_hearAtSeat_65 : decode cX0_hearAtSeat 65 = .ok (.aload_n 1, 1) := by decide +kernel
theorem dX0_hearAtSeat_66 : decode cX0_hearAtSeat 66 = .ok (.iload 5, 2) := by decide +kernel
theorem dX0_hearAtSeat_68 : decode cX0_hearAtSeat 68 = .ok (.iload 7, 2) := by decide +kernel
theorem dX0_hearAtSeat_70 : decode cX0_hearAtSeat 70 = .ok (.iload_n 3, 1) := by decide +kernel
theorem dX0_hearAtSeat_71 : decode cX0_hearAtSeat 71 = .ok (.iload 4, 2) := by decide +kernel
theorem dX0_hearAtSeat_73 : decode cX0_hearAtSeat 73 = .ok (.invokevirtual 55, 3) := by decide +kernel
theorem dX0_hearAtSeat_76 : decode cX0_hearAtSeat 76 = .ok (.ifCond .ne 23, 3) := by decide +kernel
theorem dX0_hearAtSeat_79 : decode cX0_hearAtSeat 79 = .ok (.aload_n 0, 1) := by decide +kernel
theorem dX0_hearAtSeat_80 : decode cX0_hearAtSeat 80 = .ok (.aload_n 1, 1) := by decide +kernel
theorem dX0_hearAtSeat_81 : decode cX0_hearAtSeat 81 = .ok (.iload 5, 2) := by decide +kernel
theorem dX0_hearAtSeat_83 : decode cX0_hearAtSeat 83 = .ok (.iload 7, 2) := by decide +kernel
theorem dX0_hearAtSeat_85 : decode cX0_hearAtSeat 85 = .ok (.aload_n 1, 1) := by decide +kernel
theorem dX0_hearAtSeat_86 : decode cX0_hearAtSeat 86 = .ok (.iload 5, 2) := by decide +kernel
theorem dX0_hearAtSeat_88 : decode cX0_hearAtSeat 88 = .ok (.iload 7, 2) := by decide +kernel
theorem dX0_hearAtSeat_90 : decode cX0_hearAtSeat 90 = .ok (.iload_n 3, 1) := by decide +kernel
theorem dX0_hearAtSeat_91 : decode cX0_hearAtSeat 91 = .ok (.iload 4, 2) := by decide +kernel
theorem dX0_hearAtSeat_93 : decode cX0_hearAtSeat 93 = .ok (.invokevirtual 59, 3) := by decide +kernel
theorem dX0_hearAtSeat_96 : decode cX0_hearAtSeat 96 = .ok (.invokevirtual 63, 3) := by decide +kernel
theorem dX0_hearAtSeat_99 : decode cX0_hearAtSeat 99 = .ok (.iinc 7 1, 3) := by decide +kernel
theorem dX0_hearAtSeat_102 : decode cX0_hearAtSeat 102 = .ok (.goto (-44), 3) := by decide +kernel
theorem dX0_hearAtSeat_105 : decode cX0_hearAtSeat 105 = .ok (.iinc 5 1, 3) := by decide +kernel
theorem dX0_hearAtSeat_108 : decode cX0_hearAtSeat 108 = .ok (.goto (-70), 3) := by decide +kernel
theorem dX0_hearAtSeat_111 : decode cX0_hearAtSeat 111 = .ok (.return_, 1) := by decide +kernel
set_option maxRecDepth 20000 in
theorem ggX0_insert_X5_timeOf : GoodIn wsX0_insert wsX5_timeOf := goodIn_r _ [11] (by decide +kernel) (by decide +kernel)
set_option maxRecDepth 20000 in
theorem gX0_insert_X5_timeOf_n67 : GoodIn wsX0_insert (wsX5_timeOf) := ggX0_insert_X5_timeOf
set_option maxRecDepth 20000 in
theorem ggX0_insert_X0_shiftUp : GoodIn wsX0_insert wsX0_shiftUp := goodIn_r _ [16, 3, 4, 5, 2, 6, 30, 31, 32, 33, 34, 35, 36, 37] (by decide +kernel) (by decide +kernel)
set_option maxRecDepth 20000 in
theorem gX0_insert_X0_shiftUp : GoodIn wsX0_insert (wsV RX0 70 RX0 yX0_shiftUp wsX0_shiftUp) := goodIn_app (goodIn_of _ (by decide +kernel)) ggX0_insert_X0_shiftUp
set_option maxRecDepth 20000 in
theorem ggX0_insert_X5_strengthOf : GoodIn wsX0_insert wsX5_strengthOf := goodIn_r _ [18, 19, 20, 21, 22, 23, 24, 25, 10, 26, 27, 28, 29] (by decide +kernel) (by decide +kernel)
set_option maxRecDepth 20000 in
theorem gX0_insert_X5_strengthOf_n77 : GoodIn wsX0_insert (wsX5_strengthOf) := ggX0_insert_X5_strengthOf
theorem dX0_insert_0 : decode cX0_insert 0 = .ok (.aload_n 0, 1) := by decide +kernel
theorem dX0_insert_1 : decode cX0_insert 1 = .ok (.getfield 30, 3) := by decide +kernel
theorem dX0_insert_4 : decode cX0_insert 4 = .ok (.bipush 25, 2) := by decide +kernel
theorem dX0_insert_6 : decode cX0_insert 6 = .ok (.if_icmp .lt 4, 3) := by decide +kernel
theorem dX0_insert_9 : decode cX0_insert 9 = .ok (.return_, 1) := by decide +kernel
theorem dX0_insert_10 : decode cX0_insert 10 = .ok (.iload 4, 2) := by decide +kernel
theorem dX0_insert_12 : decode cX0_insert 12 = .ok (.invokestatic 67, 3) := by decide +kernel
theorem dX0_insert_15 : decode cX0_insert 15 = .ok (.istore 5, 2) := by decide +kernel
theorem dX0_insert_17 : decode cX0_insert 17 = .ok (.aload_n 0, 1) := by decide +kernel
theorem dX0_insert_18 : decode cX0_insert 18 = .ok (.getfield 30, 3) := by decide +kernel
theorem dX0_insert_21 : decode cX0_insert 21 = .ok (.istore 6, 2) := by decide +kernel
theorem dX0_insert_23 : decode cX0_insert 23 = .ok (.iload 6, 2) := by decide +kernel
theorem dX0_insert_25 : decode cX0_insert 25 = .ok (.ifCond .le 29, 3) := by decide +kernel
theorem dX0_insert_28 : decode cX0_insert 28 = .ok (.aload_n 0, 1) := by decide +kernel
theorem dX0_insert_29 : decode cX0_insert 29 = .ok (.getfield 21, 3) := by decide +kernel
theorem dX0_insert_32 : decode cX0_insert 32 = .ok (.iload 6, 2) := by decide +kernel
theorem dX0_insert_34 : decode cX0_insert 34 = .ok (.iconst 1, 1) := by decide +kernel
theorem dX0_insert_35 : decode cX0_insert 35 = .ok (.isub, 1) := by decide +kernel
theorem dX0_insert_36 : decode cX0_insert 36 = .ok (.iaload, 1) := by decide +kernel
theorem dX0_insert_37 : decode cX0_insert 37 = .ok (.iload 5, 2) := by decide +kernel
theorem dX0_insert_39 : decode cX0_insert 39 = .ok (.if_icmp .le 15, 3) := by decide +kernel
theorem dX0_insert_42 : decode cX0_insert 42 = .ok (.aload_n 0, 1) := by decide +kernel
theorem dX0_insert_43 : decode cX0_insert 43 = .ok (.iload 6, 2) := by decide +kernel
theorem dX0_insert_45 : decode cX0_insert 45 = .ok (.invokevirtual 70, 3) := by decide +kernel
theorem dX0_insert_48 : decode cX0_insert 48 = .ok (.iinc 6 (-1), 3) := by decide +kernel
theorem dX0_insert_51 : decode cX0_insert 51 = .ok (.goto (-28), 3) := by decide +kernel
theorem dX0_insert_54 : decode cX0_insert 54 = .ok (.aload_n 0, 1) := by decide +kernel
theorem dX0_insert_55 : decode cX0_insert 55 = .ok (.getfield 9, 3) := by decide +kernel
theorem dX0_insert_58 : decode cX0_insert 58 = .ok (.iload 6, 2) := by decide +kernel
theorem dX0_insert_60 : decode cX0_insert 60 = .ok (.iload_n 2, 1) := by decide +kernel
theorem dX0_insert_61 : decode cX0_insert 61 = .ok (.iastore, 1) := by decide +kernel
theorem dX0_insert_62 : decode cX0_insert 62 = .ok (.aload_n 0, 1) := by decide +kernel
end
section
theorem dX0_insert_63 : decode cX0_insert 63 = .ok (.getfield 15, 3) := by decide +kernel
theorem dX0_insert_66 : decode cX0_insert 66 = .ok (.iload 6, 2) := by decide +kernel
theorem dX0_insert_68 : decode cX0_insert 68 = .ok (.iload_n 3, 1) := by decide +kernel
theorem dX0_insert_69 : decode cX0_insert 69 = .ok (.iastore, 1) := by decide +kernel
theorem dX0_insert_70 : decode cX0_insert 70 = .ok (.aload_n 0, 1) := by decide +kernel
theorem dX0_insert_71 : decode cX0_insert 71 = .ok (.getfield 18, 3) := by decide +kernel
theorem dX0_insert_74 : decode cX0_insert 74 = .ok (.iload 6, 2) := by decide +kernel
theorem dX0_insert_76 : decode cX0_insert 76 = .ok (.iload 4, 2) := by decide +kernel
theorem dX0_insert_78 : decode cX0_insert 78 = .ok (.iastore, 1) := by decide +kernel
theorem dX0_insert_79 : decode cX0_insert 79 = .ok (.aload_n 0, 1) := by decide +kernel
theorem dX0_insert_80 : decode cX0_insert 80 = .ok (.getfield 21, 3) := by decide +kernel
theorem dX0_insert_83 : decode cX0_insert 83 = .ok (.iload 6, 2) := by decide +kernel
theorem dX0_insert_85 : decode cX0_insert 85 = .ok (.iload 5, 2) := by decide +kernel
theorem dX0_insert_87 : decode cX0_insert 87 = .ok (.iastore, 1) := by decide +kernel
theorem dX0_insert_88 : decode cX0_insert 88 = .ok (.aload_n 0, 1) := by decide +kernel
theorem dX0_insert_89 : decode cX0_insert 89 = .ok (.getfield 24, 3) := by decide +kernel
theorem dX0_insert_92 : decode cX0_insert 92 = .ok (.iload 6, 2) := by decide +kernel
theorem dX0_insert_94 : decode cX0_insert 94 = .ok (.aload_n 1, 1) := by decide +kernel
theorem dX0_insert_95 : decode cX0_insert 95 = .ok (.getfield 74, 3) := by decide +kernel
theorem dX0_insert_98 : decode cX0_insert 98 = .ok (.iload_n 2, 1) := by decide +kernel
theorem dX0_insert_99 : decode cX0_insert 99 = .ok (.iload_n 3, 1) := by decide +kernel
theorem dX0_insert_100 : decode cX0_insert 100 = .ok (.iload 4, 2) := by decide +kernel
theorem dX0_insert_102 : decode cX0_insert 102 = .ok (.invokestatic 77, 3) := by decide +kernel
theorem dX0_insert_105 : decode cX0_insert 105 = .ok (.iastore, 1) := by decide +kernel
theorem dX0_insert_106 : decode cX0_insert 106 = .ok (.aload_n 0, 1) := by decide +kernel
theorem dX0_insert_107 : decode cX0_insert 107 = .ok (.dup, 1) := by decide +kernel
theorem dX0_insert_108 : decode cX0_insert 108 = .ok (.getfield 34, 3) := by decide +kernel
theorem dX0_insert_111 : decode cX0_insert 111 = .ok (.aload_n 0, 1) := by decide +kernel
theorem dX0_insert_112 : decode cX0_insert 112 = .ok (.getfield 24, 3) := by decide +kernel
theorem dX0_insert_115 : decode cX0_insert 115 = .ok (.iload 6, 2) := by decide +kernel
theorem dX0_insert_117 : decode cX0_insert 117 = .ok (.iaload, 1) := by decide +kernel
theorem dX0_insert_118 : decode cX0_insert 118 = .ok (.iadd, 1) := by decide +kernel
theorem dX0_insert_119 : decode cX0_insert 119 = .ok (.putfield 34, 3) := by decide +kernel
theorem dX0_insert_122 : decode cX0_insert 122 = .ok (.aload_n 0, 1) := by decide +kernel
theorem dX0_insert_123 : decode cX0_insert 123 = .ok (.dup, 1) := by decide +kernel
theorem dX0_insert_124 : decode cX0_insert 124 = .ok (.getfield 30, 3) := by decide +kernel
theorem dX0_insert_127 : decode cX0_insert 127 = .ok (.iconst 1, 1) := by decide +kernel
theorem dX0_insert_128 : decode cX0_insert 128 = .ok (.iadd, 1) := by decide +kernel
theorem dX0_insert_129 : decode cX0_insert 129 = .ok (.putfield 30, 3) := by decide +kernel
theorem dX0_insert_132 : decode cX0_insert 132 = .ok (.return_, 1) := by decide +kernel
theorem dX0_shiftUp_0 : decode cX0_shiftUp 0 = .ok (.aload_n 0, 1) := by decide +kernel
theorem dX0_shiftUp_1 : decode cX0_shiftUp 1 = .ok (.getfield 9, 3) := by decide +kernel
theorem dX0_shiftUp_4 : decode cX0_shiftUp 4 = .ok (.iload_n 1, 1) := by decide +kernel
theorem dX0_shiftUp_5 : decode cX0_shiftUp 5 = .ok (.aload_n 0, 1) := by decide +kernel
theorem dX0_shiftUp_6 : decode cX0_shiftUp 6 = .ok (.getfield 9, 3) := by decide +kernel
theorem dX0_shiftUp_9 : decode cX0_shiftUp 9 = .ok (.iload_n 1, 1) := by decide +kernel
theorem dX0_shiftUp_10 : decode cX0_shiftUp 10 = .ok (.iconst 1, 1) := by decide +kernel
theorem dX0_shiftUp_11 : decode cX0_shiftUp 11 = .ok (.isub, 1) := by decide +kernel
theorem dX0_shiftUp_12 : decode cX0_shiftUp 12 = .ok (.iaload, 1) := by decide +kernel
theorem dX0_shiftUp_13 : decode cX0_shiftUp 13 = .ok (.iastore, 1) := by decide +kernel
theorem dX0_shiftUp_14 : decode cX0_shiftUp 14 = .ok (.aload_n 0, 1) := by decide +kernel
theorem dX0_shiftUp_15 : decode cX0_shiftUp 15 = .ok (.getfield 15, 3) := by decide +kernel
theorem dX0_shiftUp_18 : decode cX0_shiftUp 18 = .ok (.iload_n 1, 1) := by decide +kernel
theorem dX0_shiftUp_19 : decode cX0_shiftUp 19 = .ok (.aload_n 0, 1) := by decide +kernel
theorem dX0_shiftUp_20 : decode cX0_shiftUp 20 = .ok (.getfield 15, 3) := by decide +kernel
theorem dX0_shiftUp_23 : decode cX0_shiftUp 23 = .ok (.iload_n 1, 1) := by decide +kernel
theorem dX0_shiftUp_24 : decode cX0_shiftUp 24 = .ok (.iconst 1, 1) := by decide +kernel
theorem dX0_shiftUp_25 : decode cX0_shiftUp 25 = .ok (.isub, 1) := by decide +kernel
theorem dX0_shiftUp_26 : decode cX0_shiftUp 26 = .ok (.iaload, 1) := by decide +kernel
theorem dX0_shiftUp_27 : decode cX0_shiftUp 27 = .ok (.iastore, 1) := by decide +kernel
theorem dX0_shiftUp_28 : decode cX0_shiftUp 28 = .ok (.aload_n 0, 1) := by decide +kernel
theorem dX0_shiftUp_29 : decode cX0_shiftUp 29 = .ok (.getfield 18, 3) := by decide +kernel
theorem dX0_shiftUp_32 : decode cX0_shiftUp 32 = .ok (.iload_n 1, 1) := by decide +kernel
theorem dX0_shiftUp_33 : decode cX0_shiftUp 33 = .ok (.aload_n 0, 1) := by decide +kernel
theorem dX0_shiftUp_34 : decode cX0_shiftUp 34 = .ok (.getfield 18, 3) := by decide +kernel
theorem dX0_shiftUp_37 : decode cX0_shiftUp 37 = .ok (.iload_n 1, 1) := by decide +kernel
theorem dX0_shiftUp_38 : decode cX0_shiftUp 38 = .ok (.iconst 1, 1) := by decide +kernel
theorem dX0_shiftUp_39 : decode cX0_shiftUp 39 = .ok (.isub, 1) := by decide +kernel
theorem dX0_shiftUp_40 : decode cX0_shiftUp 40 = .ok (.iaload, 1) := by decide +kernel
theorem dX0_shiftUp_41 : decode cX0_shiftUp 41 = .ok (.iastore, 1) := by decide +kernel
theorem dX0_shiftUp_42 : decode cX0_shiftUp 42 = .ok (.aload_n 0, 1) := by decide +kernel
theorem dX0_shiftUp_43 : decode cX0_shiftUp 43 = .ok (.getfield 21, 3) := by decide +kernel
theorem dX0_shiftUp_46 : decode cX0_shiftUp 46 = .ok (.iload_n 1, 1) := by decide +kernel
theorem dX0_shiftUp_47 : decode cX0_shiftUp 47 = .ok (.aload_n 0, 1) := by decide +kernel
theorem dX0_shiftUp_48 : decode cX0_shiftUp 48 = .ok (.getfield 21, 3) := by decide +kernel
theorem dX0_shiftUp_51 : decode cX0_shiftUp 51 = .ok (.iload_n 1, 1) := by decide +kernel
theorem dX0_shiftUp_52 : decode cX0_shiftUp 52 = .ok (.iconst 1, 1) := by decide +kernel
theorem dX0_shiftUp_53 : decode cX0_shiftUp 53 = .ok (.isub, 1) := by decide +kernel
theorem dX0_shiftUp_54 : decode cX0_shiftUp 54 = .ok (.iaload, 1) := by decide +kernel
theorem dX0_shiftUp_55 : decode cX0_shiftUp 55 = .ok (.iastore, 1) := by decide +kernel
theorem dX0_shiftUp_56 : decode cX0_shiftUp 56 = .ok (.aload_n 0, 1) := by decide +kernel
theorem dX0_shiftUp_57 : decode cX0_shiftUp 57 = .ok (.getfield 24, 3) := by decide +kernel
theorem dX0_shiftUp_60 : decode cX0_shiftUp 60 = .ok (.iload_n 1, 1) := by decide +kernel
theorem dX0_shiftUp_61 : decode cX0_shiftUp 61 = .ok (.aload_n 0, 1) := by decide +kernel
theorem dX0_shiftUp_62 : decode cX0_shiftUp 62 = .ok (.getfield 24, 3) := by decide +kernel
theorem dX0_shiftUp_65 : decode cX0_shiftUp 65 = .ok (.iload_n 1, 1) := by decide +kernel
theorem dX0_shiftUp_66 : decode cX0_shiftUp 66 = .ok (.iconst 1, 1) := by decide +kernel
theorem dX0_shiftUp_67 : decode cX0_shiftUp 67 = .ok (.isub, 1) := by decide +kernel
theorem dX0_shiftUp_68 : decode cX0_shiftUp 68 = .ok (.iaload, 1) := by decide +kernel
theorem dX0_shiftUp_69 : decode cX0_shiftUp 69 = .ok (.iastore, 1) := by decide +kernel
theorem dX0_shiftUp_70 : decode cX0_shiftUp 70 = .ok (.return_, 1) := by decide +kernel
theorem dX0_firstGap_0 : decode cX0_firstGap 0 = .ok (.aload_n 0, 1) := by decide +kernel
theorem dX0_firstGap_1 : decode cX0_firstGap 1 = .ok (.getfield 30, 3) := by decide +kernel
theorem dX0_firstGap_4 : decode cX0_firstGap 4 = .ok (.iconst 1, 1) := by decide +kernel
theorem dX0_firstGap_5 : decode cX0_firstGap 5 = .ok (.if_icmp .le 19, 3) := by decide +kernel
theorem dX0_firstGap_8 : decode cX0_firstGap 8 = .ok (.aload_n 0, 1) := by decide +kernel
theorem dX0_firstGap_9 : decode cX0_firstGap 9 = .ok (.getfield 21, 3) := by decide +kernel
theorem dX0_firstGap_12 : decode cX0_firstGap 12 = .ok (.iconst 1, 1) := by decide +kernel
theorem dX0_firstGap_13 : decode cX0_firstGap 13 = .ok (.iaload, 1) := by decide +kernel
theorem dX0_firstGap_14 : decode cX0_firstGap 14 = .ok (.aload_n 0, 1) := by decide +kernel
theorem dX0_firstGap_15 : decode cX0_firstGap 15 = .ok (.getfield 21, 3) := by decide +kernel
theorem dX0_firstGap_18 : decode cX0_firstGap 18 = .ok (.iconst 0, 1) := by decide +kernel
theorem dX0_firstGap_19 : decode cX0_firstGap 19 = .ok (.iaload, 1) := by decide +kernel
theorem dX0_firstGap_20 : decode cX0_firstGap 20 = .ok (.isub, 1) := by decide +kernel
theorem dX0_firstGap_21 : decode cX0_firstGap 21 = .ok (.goto 5, 3) := by decide +kernel
theorem dX0_firstGap_24 : decode cX0_firstGap 24 = .ok (.bipush (-9), 2) := by decide +kernel
theorem dX0_firstGap_26 : decode cX0_firstGap 26 = .ok (.ireturn, 1) := by decide +kernel
theorem dX0_strengthUpTo_0 : decode cX0_strengthUpTo 0 = .ok (.iconst 0, 1) := by decide +kernel
theorem dX0_strengthUpTo_1 : decode cX0_strengthUpTo 1 = .ok (.istore_n 2, 1) := by decide +kernel
theorem dX0_strengthUpTo_2 : decode cX0_strengthUpTo 2 = .ok (.iconst 0, 1) := by decide +kernel
theorem dX0_strengthUpTo_3 : decode cX0_strengthUpTo 3 = .ok (.istore_n 3, 1) := by decide +kernel
theorem dX0_strengthUpTo_4 : decode cX0_strengthUpTo 4 = .ok (.iload_n 3, 1) := by decide +kernel
theorem dX0_strengthUpTo_5 : decode cX0_strengthUpTo 5 = .ok (.aload_n 0, 1) := by decide +kernel
theorem dX0_strengthUpTo_6 : decode cX0_strengthUpTo 6 = .ok (.getfield 30, 3) := by decide +kernel
theorem dX0_strengthUpTo_9 : decode cX0_strengthUpTo 9 = .ok (.if_icmp .ge 28, 3) := by decide +kernel
theorem dX0_strengthUpTo_12 : decode cX0_strengthUpTo 12 = .ok (.aload_n 0, 1) := by decide +kernel
theorem dX0_strengthUpTo_13 : decode cX0_strengthUpTo 13 = .ok (.getfield 21, 3) := by decide +kernel
theorem dX0_strengthUpTo_16 : decode cX0_strengthUpTo 16 = .ok (.iload_n 3, 1) := by decide +kernel
theorem dX0_strengthUpTo_17 : decode cX0_strengthUpTo 17 = .ok (.iaload, 1) := by decide +kernel
theorem dX0_strengthUpTo_18 : decode cX0_strengthUpTo 18 = .ok (.iload_n 1, 1) := by decide +kernel
theorem dX0_strengthUpTo_19 : decode cX0_strengthUpTo 19 = .ok (.if_icmp .gt 18, 3) := by decide +kernel
theorem dX0_strengthUpTo_22 : decode cX0_strengthUpTo 22 = .ok (.iload_n 2, 1) := by decide +kernel
theorem dX0_strengthUpTo_23 : decode cX0_strengthUpTo 23 = .ok (.aload_n 0, 1) := by decide +kernel
theorem dX0_strengthUpTo_24 : decode cX0_strengthUpTo 24 = .ok (.getfield 24, 3) := by decide +kernel
theorem dX0_strengthUpTo_27 : decode cX0_strengthUpTo 27 = .ok (.iload_n 3, 1) := by decide +kernel
theorem dX0_strengthUpTo_28 : decode cX0_strengthUpTo 28 = .ok (.iaload, 1) := by decide +kernel
theorem dX0_strengthUpTo_29 : decode cX0_strengthUpTo 29 = .ok (.iadd, 1) := by decide +kernel
theorem dX0_strengthUpTo_30 : decode cX0_strengthUpTo 30 = .ok (.istore_n 2, 1) := by decide +kernel
theorem dX0_strengthUpTo_31 : decode cX0_strengthUpTo 31 = .ok (.iinc 3 1, 3) := by decide +kernel
theorem dX0_strengthUpTo_34 : decode cX0_strengthUpTo 34 = .ok (.goto (-30), 3) := by decide +kernel
theorem dX0_strengthUpTo_37 : decode cX0_strengthUpTo 37 = .ok (.iload_n 2, 1) := by decide +kernel
theorem dX0_strengthUpTo_38 : decode cX0_strengthUpTo 38 = .ok (.ireturn, 1) := by decide +kernel
theorem dX0_fadeTime_0 : decode cX0_fadeTime 0 = .ok (.aload_n 0, 1) := by decide +kernel
theorem dX0_fadeTime_1 : decode cX0_fadeTime 1 = .ok (.getfield 34, 3) := by decide +kernel
theorem dX0_fadeTime_4 : decode cX0_fadeTime 4 = .ok (.istore_n 2, 1) := by decide +kernel
theorem dX0_fadeTime_5 : decode cX0_fadeTime 5 = .ok (.iconst 0, 1) := by decide +kernel
theorem dX0_fadeTime_6 : decode cX0_fadeTime 6 = .ok (.istore_n 3, 1) := by decide +kernel
theorem dX0_fadeTime_7 : decode cX0_fadeTime 7 = .ok (.iload_n 3, 1) := by decide +kernel
theorem dX0_fadeTime_8 : decode cX0_fadeTime 8 = .ok (.aload_n 0, 1) := by decide +kernel
theorem dX0_fadeTime_9 : decode cX0_fadeTime 9 = .ok (.getfield 30, 3) := by decide +kernel
theorem dX0_fadeTime_12 : decode cX0_fadeTime 12 = .ok (.if_icmp .ge 38, 3) := by decide +kernel
theorem dX0_fadeTime_15 : decode cX0_fadeTime 15 = .ok (.iload_n 2, 1) := by decide +kernel
theorem dX0_fadeTime_16 : decode cX0_fadeTime 16 = .ok (.aload_n 0, 1) := by decide +kernel
theorem dX0_fadeTime_17 : decode cX0_fadeTime 17 = .ok (.getfield 24, 3) := by decide +kernel
theorem dX0_fadeTime_20 : decode cX0_fadeTime 20 = .ok (.iload_n 3, 1) := by decide +kernel
theorem dX0_fadeTime_21 : decode cX0_fadeTime 21 = .ok (.iaload, 1) := by decide +kernel
theorem dX0_fadeTime_22 : decode cX0_fadeTime 22 = .ok (.isub, 1) := by decide +kernel
theorem dX0_fadeTime_23 : decode cX0_fadeTime 23 = .ok (.istore_n 2, 1) := by decide +kernel
theorem dX0_fadeTime_24 : decode cX0_fadeTime 24 = .ok (.bipush 10, 2) := by decide +kernel
theorem dX0_fadeTime_26 : decode cX0_fadeTime 26 = .ok (.iload_n 2, 1) := by decide +kernel
theorem dX0_fadeTime_27 : decode cX0_fadeTime 27 = .ok (.imul, 1) := by decide +kernel
theorem dX0_fadeTime_28 : decode cX0_fadeTime 28 = .ok (.iload_n 1, 1) := by decide +kernel
theorem dX0_fadeTime_29 : decode cX0_fadeTime 29 = .ok (.aload_n 0, 1) := by decide +kernel
theorem dX0_fadeTime_30 : decode cX0_fadeTime 30 = .ok (.getfield 34, 3) := by decide +kernel
theorem dX0_fadeTime_33 : decode cX0_fadeTime 33 = .ok (.imul, 1) := by decide +kernel
theorem dX0_fadeTime_34 : decode cX0_fadeTime 34 = .ok (.if_icmp .gt 10, 3) := by decide +kernel
theorem dX0_fadeTime_37 : decode cX0_fadeTime 37 = .ok (.aload_n 0, 1) := by decide +kernel
theorem dX0_fadeTime_38 : decode cX0_fadeTime 38 = .ok (.getfield 21, 3) := by decide +kernel
theorem dX0_fadeTime_41 : decode cX0_fadeTime 41 = .ok (.iload_n 3, 1) := by decide +kernel
theorem dX0_fadeTime_42 : decode cX0_fadeTime 42 = .ok (.iaload, 1) := by decide +kernel
theorem dX0_fadeTime_43 : decode cX0_fadeTime 43 = .ok (.ireturn, 1) := by decide +kernel
theorem dX0_fadeTime_44 : decode cX0_fadeTime 44 = .ok (.iinc 3 1, 3) := by decide +kernel
theorem dX0_fadeTime_47 : decode cX0_fadeTime 47 = .ok (.goto (-40), 3) := by decide +kernel
theorem dX0_fadeTime_50 : decode cX0_fadeTime 50 = .ok (.bipush (-9), 2) := by decide +kernel
theorem dX0_fadeTime_52 : decode cX0_fadeTime 52 = .ok (.ireturn, 1) := by decide +kernel
set_option maxRecDepth 20000 in
theorem ggX0_soundIfDeaf_X5_strengthOf : GoodIn wsX0_soundIfDeaf wsX5_strengthOf := goodIn_r _ [8, 9, 10, 11, 12, 13, 14, 15, 7, 16, 17, 18, 19] (by decide +kernel) (by decide +kernel)
set_option maxRecDepth 20000 in
theorem gX0_soundIfDeaf_X5_strengthOf_n77 : GoodIn wsX0_soundIfDeaf (wsX5_strengthOf) := ggX0_soundIfDeaf_X5_strengthOf
theorem dX0_soundIfDeaf_0 : decode cX0_soundIfDeaf 0 = .ok (.iconst 0, 1) := by decide +kernel
theorem dX0_soundIfDeaf_1 : decode cX0_soundIfDeaf 1 = .ok (.istore_n 3, 1) := by decide +kernel
theorem dX0_soundIfDeaf_2 : decode cX0_soundIfDeaf 2 = .ok (.iload_n 3, 1) := by decide +kernel
theorem dX0_soundIfDeaf_3 : decode cX0_soundIfDeaf 3 = .ok (.iconst 3, 1) := by decide +kernel
theorem dX0_soundIfDeaf_4 : decode cX0_soundIfDeaf 4 = .ok (.if_icmp .gt 32, 3) := by decide +kernel
theorem dX0_soundIfDeaf_7 : decode cX0_soundIfDeaf 7 = .ok (.aload_n 0, 1) := by decide +kernel
theorem dX0_soundIfDeaf_8 : decode cX0_soundIfDeaf 8 = .ok (.getfield 27, 3) := by decide +kernel
theorem dX0_soundIfDeaf_11 : decode cX0_soundIfDeaf 11 = .ok (.iload_n 3, 1) := by decide +kernel
theorem dX0_soundIfDeaf_12 : decode cX0_soundIfDeaf 12 = .ok (.iload_n 2, 1) := by decide +kernel
theorem dX0_soundIfDeaf_13 : decode cX0_soundIfDeaf 13 = .ok (.iload_n 3, 1) := by decide +kernel
theorem dX0_soundIfDeaf_14 : decode cX0_soundIfDeaf 14 = .ok (.ishr, 1) := by decide +kernel
theorem dX0_soundIfDeaf_15 : decode cX0_soundIfDeaf 15 = .ok (.iconst 1, 1) := by decide +kernel
theorem dX0_soundIfDeaf_16 : decode cX0_soundIfDeaf 16 = .ok (.iand, 1) := by decide +kernel
theorem dX0_soundIfDeaf_17 : decode cX0_soundIfDeaf 17 = .ok (.iconst 1, 1) := by decide +kernel
theorem dX0_soundIfDeaf_18 : decode cX0_soundIfDeaf 18 = .ok (.if_icmp .ne 8, 3) := by decide +kernel
theorem dX0_soundIfDeaf_21 : decode cX0_soundIfDeaf 21 = .ok (.bipush 10, 2) := by decide +kernel
theorem dX0_soundIfDeaf_23 : decode cX0_soundIfDeaf 23 = .ok (.goto 6, 3) := by decide +kernel
theorem dX0_soundIfDeaf_26 : decode cX0_soundIfDeaf 26 = .ok (.aload_n 1, 1) := by decide +kernel
theorem dX0_soundIfDeaf_27 : decode cX0_soundIfDeaf 27 = .ok (.iload_n 3, 1) := by decide +kernel
theorem dX0_soundIfDeaf_28 : decode cX0_soundIfDeaf 28 = .ok (.iaload, 1) := by decide +kernel
theorem dX0_soundIfDeaf_29 : decode cX0_soundIfDeaf 29 = .ok (.iastore, 1) := by decide +kernel
theorem dX0_soundIfDeaf_30 : decode cX0_soundIfDeaf 30 = .ok (.iinc 3 1, 3) := by decide +kernel
theorem dX0_soundIfDeaf_33 : decode cX0_soundIfDeaf 33 = .ok (.goto (-31), 3) := by decide +kernel
theorem dX0_soundIfDeaf_36 : decode cX0_soundIfDeaf 36 = .ok (.iconst 0, 1) := by decide +kernel
theorem dX0_soundIfDeaf_37 : decode cX0_soundIfDeaf 37 = .ok (.istore_n 3, 1) := by decide +kernel
theorem dX0_soundIfDeaf_38 : decode cX0_soundIfDeaf 38 = .ok (.iconst 0, 1) := by decide +kernel
theorem dX0_soundIfDeaf_39 : decode cX0_soundIfDeaf 39 = .ok (.istore 4, 2) := by decide +kernel
theorem dX0_soundIfDeaf_41 : decode cX0_soundIfDeaf 41 = .ok (.iload 4, 2) := by decide +kernel
theorem dX0_soundIfDeaf_43 : decode cX0_soundIfDeaf 43 = .ok (.aload_n 0, 1) := by decide +kernel
theorem dX0_soundIfDeaf_44 : decode cX0_soundIfDeaf 44 = .ok (.getfield 30, 3) := by decide +kernel
theorem dX0_soundIfDeaf_47 : decode cX0_soundIfDeaf 47 = .ok (.if_icmp .ge 40, 3) := by decide +kernel
theorem dX0_soundIfDeaf_50 : decode cX0_soundIfDeaf 50 = .ok (.iload_n 3, 1) := by decide +kernel
theorem dX0_soundIfDeaf_51 : decode cX0_soundIfDeaf 51 = .ok (.aload_n 0, 1) := by decide +kernel
theorem dX0_soundIfDeaf_52 : decode cX0_soundIfDeaf 52 = .ok (.getfield 27, 3) := by decide +kernel
theorem dX0_soundIfDeaf_55 : decode cX0_soundIfDeaf 55 = .ok (.aload_n 0, 1) := by decide +kernel
theorem dX0_soundIfDeaf_56 : decode cX0_soundIfDeaf 56 = .ok (.getfield 9, 3) := by decide +kernel
theorem dX0_soundIfDeaf_59 : decode cX0_soundIfDeaf 59 = .ok (.iload 4, 2) := by decide +kernel
theorem dX0_soundIfDeaf_61 : decode cX0_soundIfDeaf 61 = .ok (.iaload, 1) := by decide +kernel
theorem dX0_soundIfDeaf_62 : decode cX0_soundIfDeaf 62 = .ok (.aload_n 0, 1) := by decide +kernel
theorem dX0_soundIfDeaf_63 : decode cX0_soundIfDeaf 63 = .ok (.getfield 15, 3) := by decide +kernel
theorem dX0_soundIfDeaf_66 : decode cX0_soundIfDeaf 66 = .ok (.iload 4, 2) := by decide +kernel
theorem dX0_soundIfDeaf_68 : decode cX0_soundIfDeaf 68 = .ok (.iaload, 1) := by decide +kernel
theorem dX0_soundIfDeaf_69 : decode cX0_soundIfDeaf 69 = .ok (.aload_n 0, 1) := by decide +kernel
theorem dX0_soundIfDeaf_70 : decode cX0_soundIfDeaf 70 = .ok (.getfield 18, 3) := by decide +kernel
theorem dX0_soundIfDeaf_73 : decode cX0_soundIfDeaf 73 = .ok (.iload 4, 2) := by decide +kernel
theorem dX0_soundIfDeaf_75 : decode cX0_soundIfDeaf 75 = .ok (.iaload, 1) := by decide +kernel
theorem dX0_soundIfDeaf_76 : decode cX0_soundIfDeaf 76 = .ok (.invokestatic 77, 3) := by decide +kernel
theorem dX0_soundIfDeaf_79 : decode cX0_soundIfDeaf 79 = .ok (.iadd, 1) := by decide +kernel
theorem dX0_soundIfDeaf_80 : decode cX0_soundIfDeaf 80 = .ok (.istore_n 3, 1) := by decide +kernel
theorem dX0_soundIfDeaf_81 : decode cX0_soundIfDeaf 81 = .ok (.iinc 4 1, 3) := by decide +kernel
theorem dX0_soundIfDeaf_84 : decode cX0_soundIfDeaf 84 = .ok (.goto (-43), 3) := by decide +kernel
theorem dX0_soundIfDeaf_87 : decode cX0_soundIfDeaf 87 = .ok (.iload_n 3, 1) := by decide +kernel
theorem dX0_soundIfDeaf_88 : decode cX0_soundIfDeaf 88 = .ok (.ireturn, 1) := by decide +kernel
theorem dX1_init_0 : decode cX1_init 0 = .ok (.aload_n 0, 1) := by decide +kernel
theorem dX1_init_1 : decode cX1_init 1 = .ok (.invokespecial 3, 3) := by decide +kernel
theorem dX1_init_4 : decode cX1_init 4 = .ok (.aload_n 0, 1) := by decide +kernel
theorem dX1_init_5 : decode cX1_init 5 = .ok (.iconst 4, 1) := by decide +kernel
theorem dX1_init_6 : decode cX1_init 6 = .ok (.newarray .int, 2) := by decide +kernel
theorem dX1_init_8 : decode cX1_init 8 = .ok (.putfield 9, 3) := by decide +kernel
theorem dX1_init_11 : decode cX1_init 11 = .ok (.aload_n 0, 1) := by decide +kernel
theorem dX1_init_12 : decode cX1_init 12 = .ok (.iconst 4, 1) := by decide +kernel
theorem dX1_init_13 : decode cX1_init 13 = .ok (.newarray .int, 2) := by decide +kernel
theorem dX1_init_15 : decode cX1_init 15 = .ok (.putfield 15, 3) := by decide +kernel
theorem dX1_init_18 : decode cX1_init 18 = .ok (.aload_n 0, 1) := by decide +kernel
theorem dX1_init_19 : decode cX1_init 19 = .ok (.iconst 4, 1) := by decide +kernel
theorem dX1_init_20 : decode cX1_init 20 = .ok (.newarray .int, 2) := by decide +kernel
theorem dX1_init_22 : decode cX1_init 22 = .ok (.putfield 18, 3) := by decide +kernel
theorem dX1_init_25 : decode cX1_init 25 = .ok (.aload_n 0, 1) := by decide +kernel
theorem dX1_init_26 : decode cX1_init 26 = .ok (.sipush 441, 3) := by decide +kernel
theorem dX1_init_29 : decode cX1_init 29 = .ok (.newarray .int, 2) := by decide +kernel
theorem dX1_init_31 : decode cX1_init 31 = .ok (.putfield 21, 3) := by decide +kernel
theorem dX1_init_34 : decode cX1_init 34 = .ok (.aload_n 0, 1) := by decide +kernel
theorem dX1_init_35 : decode cX1_init 35 = .ok (.sipush 441, 3) := by decide +kernel
theorem dX1_init_38 : decode cX1_init 38 = .ok (.newarray .int, 2) := by decide +kernel
theorem dX1_init_40 : decode cX1_init 40 = .ok (.putfield 24, 3) := by decide +kernel
theorem dX1_init_43 : decode cX1_init 43 = .ok (.aload_n 0, 1) := by decide +kernel
theorem dX1_init_44 : decode cX1_init 44 = .ok (.sipush 1024, 3) := by decide +kernel
theorem dX1_init_47 : decode cX1_init 47 = .ok (.newarray .int, 2) := by decide +kernel
theorem dX1_init_49 : decode cX1_init 49 = .ok (.putfield 27, 3) := by decide +kernel
theorem dX1_init_52 : decode cX1_init 52 = .ok (.return_, 1) := by decide +kernel
theorem dX1_addSeen_0 : decode cX1_addSeen 0 = .ok (.aload_n 0, 1) := by decide +kernel
theorem dX1_addSeen_1 : decode cX1_addSeen 1 = .ok (.getfield 30, 3) := by decide +kernel
theorem dX1_addSeen_4 : decode cX1_addSeen 4 = .ok (.iconst 4, 1) := by decide +kernel
theorem dX1_addSeen_5 : decode cX1_addSeen 5 = .ok (.if_icmp .lt 5, 3) := by decide +kernel
theorem dX1_addSeen_8 : decode cX1_addSeen 8 = .ok (.iconst 0, 1) := by decide +kernel
theorem dX1_addSeen_9 : decode cX1_addSeen 9 = .ok (.ireturn, 1) := by decide +kernel
theorem dX1_addSeen_10 : decode cX1_addSeen 10 = .ok (.aload_n 0, 1) := by decide +kernel
theorem dX1_addSeen_11 : decode cX1_addSeen 11 = .ok (.getfield 9, 3) := by decide +kernel
theorem dX1_addSeen_14 : decode cX1_addSeen 14 = .ok (.aload_n 0, 1) := by decide +kernel
theorem dX1_addSeen_15 : decode cX1_addSeen 15 = .ok (.getfield 30, 3) := by decide +kernel
theorem dX1_addSeen_18 : decode cX1_addSeen 18 = .ok (.iload_n 1, 1) := by decide +kernel
theorem dX1_addSeen_19 : decode cX1_addSeen 19 = .ok (.iastore, 1) := by decide +kernel
theorem dX1_addSeen_20 : decode cX1_addSeen 20 = .ok (.aload_n 0, 1) := by decide +kernel
theorem dX1_addSeen_21 : decode cX1_addSeen 21 = .ok (.getfield 15, 3) := by decide +kernel
theorem dX1_addSeen_24 : decode cX1_addSeen 24 = .ok (.aload_n 0, 1) := by decide +kernel
theorem dX1_addSeen_25 : decode cX1_addSeen 25 = .ok (.getfield 30, 3) := by decide +kernel
theorem dX1_addSeen_28 : decode cX1_addSeen 28 = .ok (.iload_n 2, 1) := by decide +kernel
theorem dX1_addSeen_29 : decode cX1_addSeen 29 = .ok (.iastore, 1) := by decide +kernel
theorem dX1_addSeen_30 : decode cX1_addSeen 30 = .ok (.aload_n 0, 1) := by decide +kernel
theorem dX1_addSeen_31 : decode cX1_addSeen 31 = .ok (.getfield 18, 3) := by decide +kernel
theorem dX1_addSeen_34 : decode cX1_addSeen 34 = .ok (.aload_n 0, 1) := by decide +kernel
theorem dX1_addSeen_35 : decode cX1_addSeen 35 = .ok (.getfield 30, 3) := by decide +kernel
theorem dX1_addSeen_38 : decode cX1_addSeen 38 = .ok (.iload_n 3, 1) := by decide +kernel
theorem dX1_addSeen_39 : decode cX1_addSeen 39 = .ok (.iastore, 1) := by decide +kernel
theorem dX1_addSeen_40 : decode cX1_addSeen 40 = .ok (.aload_n 0, 1) := by decide +kernel
theorem dX1_addSeen_41 : decode cX1_addSeen 41 = .ok (.dup, 1) := by decide +kernel
theorem dX1_addSeen_42 : decode cX1_addSeen 42 = .ok (.getfield 30, 3) := by decide +kernel
theorem dX1_addSeen_45 : decode cX1_addSeen 45 = .ok (.iconst 1, 1) := by decide +kernel
theorem dX1_addSeen_46 : decode cX1_addSeen 46 = .ok (.iadd, 1) := by decide +kernel
theorem dX1_addSeen_47 : decode cX1_addSeen 47 = .ok (.putfield 30, 3) := by decide +kernel
theorem dX1_addSeen_50 : decode cX1_addSeen 50 = .ok (.iconst 1, 1) := by decide +kernel
theorem dX1_addSeen_51 : decode cX1_addSeen 51 = .ok (.ireturn, 1) := by decide +kernel
set_option maxRecDepth 20000 in
theorem ggX1_findPlaces_X1_isPossible : GoodIn wsX1_findPlaces wsX1_isPossible := goodIn_r _ [10, 11, 12, 13, 14, 15, 16, 17, 18, 19, 20, 21, 22, 23, 24, 25, 26, 27, 28, 29, 30, 31, 32, 33, 34, 35, 36, 37, 38, 39, 40, 41, 42, 43, 44, 45, 46, 47, 48, 49, 50, 51, 52, 53, 54, 55, 56, 57, 58] (by decide +kernel) (by decide +kernel)
set_option maxRecDepth 20000 in
theorem gX1_findPlaces_X1_isPossible : GoodIn wsX1_findPlaces (wsV RX1 45 RX1 yX1_isPossible wsX1_isPossible) := goodIn_app (goodIn_of _ (by decide +kernel)) ggX1_findPlaces_X1_isPossible
theorem dX1_findPlaces_0 : decode cX1_findPlaces 0 = .ok (.aload_n 0, 1) := by decide +kernel
theorem dX1_findPlaces_1 : decode cX1_findPlaces 1 = .ok (.iconst 0, 1) := by decide +kernel
theorem dX1_findPlaces_2 : decode cX1_findPlaces 2 = .ok (.putfield 34, 3) := by decide +kernel
theorem dX1_findPlaces_5 : decode cX1_findPlaces 5 = .ok (.iconst 0, 1) := by decide +kernel
theorem dX1_findPlaces_6 : decode cX1_findPlaces 6 = .ok (.istore_n 2, 1) := by decide +kernel
theorem dX1_findPlaces_7 : decode cX1_findPlaces 7 = .ok (.iload_n 2, 1) := by decide +kernel
theorem dX1_findPlaces_8 : decode cX1_findPlaces 8 = .ok (.aload_n 1, 1) := by decide +kernel
theorem dX1_findPlaces_9 : decode cX1_findPlaces 9 = .ok (.getfield 37, 3) := by decide +kernel
theorem dX1_findPlaces_12 : decode cX1_findPlaces 12 = .ok (.if_icmp .gt 75, 3) := by decide +kernel
theorem dX1_findPlaces_15 : decode cX1_findPlaces 15 = .ok (.iconst 0, 1) := by decide +kernel
theorem dX1_findPlaces_16 : decode cX1_findPlaces 16 = .ok (.istore_n 3, 1) := by decide +kernel
theorem dX1_findPlaces_17 : decode cX1_findPlaces 17 = .ok (.iload_n 3, 1) := by decide +kernel
theorem dX1_findPlaces_18 : decode cX1_findPlaces 18 = .ok (.aload_n 1, 1) := by decide +kernel
theorem dX1_findPlaces_19 : decode cX1_findPlaces 19 = .ok (.getfield 42, 3) := by decide +kernel
theorem dX1_findPlaces_22 : decode cX1_findPlaces 22 = .ok (.if_icmp .gt 59, 3) := by decide +kernel
theorem dX1_findPlaces_25 : decode cX1_findPlaces 25 = .ok (.aload_n 0, 1) := by decide +kernel
theorem dX1_findPlaces_26 : decode cX1_findPlaces 26 = .ok (.getfield 34, 3) := by decide +kernel
theorem dX1_findPlaces_29 : decode cX1_findPlaces 29 = .ok (.sipush 441, 3) := by decide +kernel
theorem dX1_findPlaces_32 : decode cX1_findPlaces 32 = .ok (.if_icmp .ge 43, 3) := by decide +kernel
theorem dX1_findPlaces_35 : decode cX1_findPlaces 35 = .ok (.aload_n 0, 1) := by decide +kernel
theorem dX1_findPlaces_36 : decode cX1_findPlaces 36 = .ok (.aload_n 1, 1) := by decide +kernel
theorem dX1_findPlaces_37 : decode cX1_findPlaces 37 = .ok (.iload_n 2, 1) := by decide +kernel
theorem dX1_findPlaces_38 : decode cX1_findPlaces 38 = .ok (.iload_n 3, 1) := by decide +kernel
theorem dX1_findPlaces_39 : decode cX1_findPlaces 39 = .ok (.invokevirtual 45, 3) := by decide +kernel
theorem dX1_findPlaces_42 : decode cX1_findPlaces 42 = .ok (.ifCond .eq 33, 3) := by decide +kernel
theorem dX1_findPlaces_45 : decode cX1_findPlaces 45 = .ok (.aload_n 0, 1) := by decide +kernel
theorem dX1_findPlaces_46 : decode cX1_findPlaces 46 = .ok (.getfield 21, 3) := by decide +kernel
theorem dX1_findPlaces_49 : decode cX1_findPlaces 49 = .ok (.aload_n 0, 1) := by decide +kernel
theorem dX1_findPlaces_50 : decode cX1_findPlaces 50 = .ok (.getfield 34, 3) := by decide +kernel
theorem dX1_findPlaces_53 : decode cX1_findPlaces 53 = .ok (.iload_n 2, 1) := by decide +kernel
theorem dX1_findPlaces_54 : decode cX1_findPlaces 54 = .ok (.iastore, 1) := by decide +kernel
theorem dX1_findPlaces_55 : decode cX1_findPlaces 55 = .ok (.aload_n 0, 1) := by decide +kernel
theorem dX1_findPlaces_56 : decode cX1_findPlaces 56 = .ok (.getfield 24, 3) := by decide +kernel
theorem dX1_findPlaces_59 : decode cX1_findPlaces 59 = .ok (.aload_n 0, 1) := by decide +kernel
theorem dX1_findPlaces_60 : decode cX1_findPlaces 60 = .ok (.getfield 34, 3) := by decide +kernel
theorem dX1_findPlaces_63 : decode cX1_findPlaces 63 = .ok (.iload_n 3, 1) := by decide +kernel
theorem dX1_findPlaces_64 : decode cX1_findPlaces 64 = .ok (.iastore, 1) := by decide +kernel
theorem dX1_findPlaces_65 : decode cX1_findPlaces 65 = .ok (.aload_n 0, 1) := by decide +kernel
theorem dX1_findPlaces_66 : decode cX1_findPlaces 66 = .ok (.dup, 1) := by decide +kernel
theorem dX1_findPlaces_67 : decode cX1_findPlaces 67 = .ok (.getfield 34, 3) := by decide +kernel
theorem dX1_findPlaces_70 : decode cX1_findPlaces 70 = .ok (.iconst 1, 1) := by decide +kernel
theorem dX1_findPlaces_71 : decode cX1_findPlaces 71 = .ok (.iadd, 1) := by decide +kernel
theorem dX1_findPlaces_72 : decode cX1_findPlaces 72 = .ok (.putfield 34, 3) := by decide +kernel
theorem dX1_findPlaces_75 : decode cX1_findPlaces 75 = .ok (.iinc 3 1, 3) := by decide +kernel
theorem dX1_findPlaces_78 : decode cX1_findPlaces 78 = .ok (.goto (-61), 3) := by decide +kernel
theorem dX1_findPlaces_81 : decode cX1_findPlaces 81 = .ok (.iinc 2 1, 3) := by decide +kernel
theorem dX1_findPlaces_84 : decode cX1_findPlaces 84 = .ok (.goto (-77), 3) := by decide +kernel
theorem dX1_findPlaces_87 : decode cX1_findPlaces 87 = .ok (.return_, 1) := by decide +kernel
set_option maxRecDepth 20000 in
theorem ggX1_isPossible_X3_waySquared : GoodIn wsX1_isPossible wsX3_waySquared := goodIn_r _ [9, 10, 11, 12, 8, 13, 14, 15, 16, 17, 18, 19, 20, 21, 22, 23, 24, 25, 26, 37, 38, 39, 40, 41, 42, 43, 44, 45, 46, 47, 48] (by decide +kernel) (by decide +kernel)
set_option maxRecDepth 20000 in
theorem gX1_isPossible_X3_waySquared : GoodIn wsX1_isPossible (wsV RX1 49 RX3 yX3_waySquared wsX3_waySquared) := goodIn_app (goodIn_of _ (by decide +kernel)) ggX1_isPossible_X3_waySquared
set_option maxRecDepth 20000 in
theorem ggX1_isPossible_X5_timeOf : GoodIn wsX1_isPossible wsX5_timeOf := goodIn_r _ [28] (by decide +kernel) (by decide +kernel)
set_option maxRecDepth 20000 in
theorem gX1_isPossible_X5_timeOf_n53 : GoodIn wsX1_isPossible (wsX5_timeOf) := ggX1_isPossible_X5_timeOf
theorem dX1_isPossible_0 : decode cX1_isPossible 0 = .ok (.iconst 0, 1) := by decide +kernel
theorem dX1_isPossible_1 : decode cX1_isPossible 1 = .ok (.istore 4, 2) := by decide +kernel
theorem dX1_isPossible_3 : decode cX1_isPossible 3 = .ok (.iload 4, 2) := by decide +kernel
theorem dX1_isPossible_5 : decode cX1_isPossible 5 = .ok (.aload_n 0, 1) := by decide +kernel
theorem dX1_isPossible_6 : decode cX1_isPossible 6 = .ok (.getfield 30, 3) := by decide +kernel
theorem dX1_isPossible_9 : decode cX1_isPossible 9 = .ok (.if_icmp .ge 44, 3) := by decide +kernel
theorem dX1_isPossible_12 : decode cX1_isPossible 12 = .ok (.aload_n 1, 1) := by decide +kernel
theorem dX1_isPossible_13 : decode cX1_isPossible 13 = .ok (.aload_n 0, 1) := by decide +kernel
theorem dX1_isPossible_14 : decode cX1_isPossible 14 = .ok (.getfield 9, 3) := by decide +kernel
theorem dX1_isPossible_17 : decode cX1_isPossible 17 = .ok (.iload 4, 2) := by decide +kernel
theorem dX1_isPossible_19 : decode cX1_isPossible 19 = .ok (.iaload, 1) := by decide +kernel
theorem dX1_isPossible_20 : decode cX1_isPossible 20 = .ok (.aload_n 0, 1) := by decide +kernel
theorem dX1_isPossible_21 : decode cX1_isPossible 21 = .ok (.getfield 15, 3) := by decide +kernel
theorem dX1_isPossible_24 : decode cX1_isPossible 24 = .ok (.iload 4, 2) := by decide +kernel
theorem dX1_isPossible_26 : decode cX1_isPossible 26 = .ok (.iaload, 1) := by decide +kernel
theorem dX1_isPossible_27 : decode cX1_isPossible 27 = .ok (.iload_n 2, 1) := by decide +kernel
theorem dX1_isPossible_28 : decode cX1_isPossible 28 = .ok (.iload_n 3, 1) := by decide +kernel
theorem dX1_isPossible_29 : decode cX1_isPossible 29 = .ok (.invokevirtual 49, 3) := by decide +kernel
theorem dX1_isPossible_32 : decode cX1_isPossible 32 = .ok (.invokestatic 53, 3) := by decide +kernel
theorem dX1_isPossible_35 : decode cX1_isPossible 35 = .ok (.aload_n 0, 1) := by decide +kernel
theorem dX1_isPossible_36 : decode cX1_isPossible 36 = .ok (.getfield 18, 3) := by decide +kernel
theorem dX1_isPossible_39 : decode cX1_isPossible 39 = .ok (.iload 4, 2) := by decide +kernel
theorem dX1_isPossible_41 : decode cX1_isPossible 41 = .ok (.iaload, 1) := by decide +kernel
theorem dX1_isPossible_42 : decode cX1_isPossible 42 = .ok (.if_icmp .eq 5, 3) := by decide +kernel
theorem dX1_isPossible_45 : decode cX1_isPossible 45 = .ok (.iconst 0, 1) := by decide +kernel
theorem dX1_isPossible_46 : decode cX1_isPossible 46 = .ok (.ireturn, 1) := by decide +kernel
theorem dX1_isPossible_47 : decode cX1_isPossible 47 = .ok (.iinc 4 1, 3) := by decide +kernel
theorem dX1_isPossible_50 : decode cX1_isPossible 50 = .ok (.goto (-47), 3) := by decide +kernel
theorem dX1_isPossible_53 : decode cX1_isPossible 53 = .ok (.iconst 1, 1) := by decide +kernel
theorem dX1_isPossible_54 : decode cX1_isPossible 54 = .ok (.ireturn, 1) := by decide +kernel
set_option maxRecDepth 20000 in
theorem ggX1_tellingImage_J7_fill_53178 : GoodIn wsX1_tellingImage wsJ7_fill_53178 := goodIn_r _ [9] (by decide +kernel) (by decide +kernel)
set_option maxRecDepth 20000 in
theorem gX1_tellingImage_J7_fill_53178 : GoodIn wsX1_tellingImage (va_wsS RX1 57 yJ7_fill_53178 wsJ7_fill_53178) := goodIn_app (goodIn_of _ (by decide +kernel)) ggX1_tellingImage_J7_fill_53178
set_option maxRecDepth 20000 in
theorem ggX1_tellingImage_X1_unlikeTimes : GoodIn wsX1_tellingImage wsX1_unlikeTimes := goodIn_r _ [14, 15, 16, 17, 1, 18, 19, 20, 21, 22, 23, 24, 25, 26, 27, 28, 29, 30, 31, 32, 33, 34, 35, 36, 37, 40, 41, 42, 43, 44, 45, 46, 47, 48, 49, 50, 51, 52, 53, 54, 55, 56, 57, 58, 59] (by decide +kernel) (by decide +kernel)
set_option maxRecDepth 20000 in
theorem gX1_tellingImage_X1_unlikeTimes : GoodIn wsX1_tellingImage (wsV RX1 68 RX1 yX1_unlikeTimes wsX1_unlikeTimes) := goodIn_app (goodIn_of _ (by decide +kernel)) ggX1_tellingImage_X1_unlikeTimes
set_option maxRecDepth 20000 in
theorem ggX1_tellingImage_X5_imageCode : GoodIn wsX1_tellingImage wsX5_imageCode := goodIn_r _ [39] (by decide +kernel) (by decide +kernel)
set_option maxRecDepth 20000 in
theorem gX1_tellingImage_X5_imageCode_n72 : GoodIn wsX1_tellingImage (wsX5_imageCode) := ggX1_tellingImage_X5_imageCode
theorem dX1_tellingImage_0 : decode cX1_tellingImage 0 = .ok (.bipush (-9), 2) := by decide +kernel
theorem dX1_tellingImage_2 : decode cX1_tellingImage 2 = .ok (.istore_n 2, 1) := by decide +kernel
theorem dX1_tellingImage_3 : decode cX1_tellingImage 3 = .ok (.iconst 0, 1) := by decide +kernel
theorem dX1_tellingImage_4 : decode cX1_tellingImage 4 = .ok (.istore_n 3, 1) := by decide +kernel
theorem dX1_tellingImage_5 : decode cX1_tellingImage 5 = .ok (.iconst 0, 1) := by decide +kernel
theorem dX1_tellingImage_6 : decode cX1_tellingImage 6 = .ok (.istore 4, 2) := by decide +kernel
theorem dX1_tellingImage_8 : decode cX1_tellingImage 8 = .ok (.aload_n 0, 1) := by decide +kernel
theorem dX1_tellingImage_9 : decode cX1_tellingImage 9 = .ok (.getfield 27, 3) := by decide +kernel
theorem dX1_tellingImage_12 : decode cX1_tellingImage 12 = .ok (.iconst 0, 1) := by decide +kernel
theorem dX1_tellingImage_13 : decode cX1_tellingImage 13 = .ok (.invokestatic 57, 3) := by decide +kernel
theorem dX1_tellingImage_16 : decode cX1_tellingImage 16 = .ok (.bipush (-3), 2) := by decide +kernel
theorem dX1_tellingImage_18 : decode cX1_tellingImage 18 = .ok (.istore 5, 2) := by decide +kernel
theorem dX1_tellingImage_20 : decode cX1_tellingImage 20 = .ok (.iload 5, 2) := by decide +kernel
theorem dX1_tellingImage_22 : decode cX1_tellingImage 22 = .ok (.iconst 3, 1) := by decide +kernel
theorem dX1_tellingImage_23 : decode cX1_tellingImage 23 = .ok (.if_icmp .gt 69, 3) := by decide +kernel
theorem dX1_tellingImage_26 : decode cX1_tellingImage 26 = .ok (.iconst 3, 1) := by decide +kernel
theorem dX1_tellingImage_27 : decode cX1_tellingImage 27 = .ok (.iload 5, 2) := by decide +kernel
theorem dX1_tellingImage_29 : decode cX1_tellingImage 29 = .ok (.invokestatic 63, 3) := by decide +kernel
theorem dX1_tellingImage_32 : decode cX1_tellingImage 32 = .ok (.isub, 1) := by decide +kernel
theorem dX1_tellingImage_33 : decode cX1_tellingImage 33 = .ok (.istore 6, 2) := by decide +kernel
theorem dX1_tellingImage_35 : decode cX1_tellingImage 35 = .ok (.iload 6, 2) := by decide +kernel
theorem dX1_tellingImage_37 : decode cX1_tellingImage 37 = .ok (.ineg, 1) := by decide +kernel
theorem dX1_tellingImage_38 : decode cX1_tellingImage 38 = .ok (.istore 7, 2) := by decide +kernel
theorem dX1_tellingImage_40 : decode cX1_tellingImage 40 = .ok (.iload 7, 2) := by decide +kernel
theorem dX1_tellingImage_42 : decode cX1_tellingImage 42 = .ok (.iload 6, 2) := by decide +kernel
theorem dX1_tellingImage_44 : decode cX1_tellingImage 44 = .ok (.if_icmp .gt 42, 3) := by decide +kernel
theorem dX1_tellingImage_47 : decode cX1_tellingImage 47 = .ok (.iinc 4 1, 3) := by decide +kernel
theorem dX1_tellingImage_50 : decode cX1_tellingImage 50 = .ok (.aload_n 0, 1) := by decide +kernel
theorem dX1_tellingImage_51 : decode cX1_tellingImage 51 = .ok (.aload_n 1, 1) := by decide +kernel
theorem dX1_tellingImage_52 : decode cX1_tellingImage 52 = .ok (.iload 5, 2) := by decide +kernel
theorem dX1_tellingImage_54 : decode cX1_tellingImage 54 = .ok (.iload 7, 2) := by decide +kernel
theorem dX1_tellingImage_56 : decode cX1_tellingImage 56 = .ok (.iload 4, 2) := by decide +kernel
theorem dX1_tellingImage_58 : decode cX1_tellingImage 58 = .ok (.invokevirtual 68, 3) := by decide +kernel
theorem dX1_tellingImage_61 : decode cX1_tellingImage 61 = .ok (.istore 8, 2) := by decide +kernel
theorem dX1_tellingImage_63 : decode cX1_tellingImage 63 = .ok (.iload 8, 2) := by decide +kernel
theorem dX1_tellingImage_65 : decode cX1_tellingImage 65 = .ok (.iload_n 3, 1) := by decide +kernel
theorem dX1_tellingImage_66 : decode cX1_tellingImage 66 = .ok (.if_icmp .le 14, 3) := by decide +kernel
theorem dX1_tellingImage_69 : decode cX1_tellingImage 69 = .ok (.iload 8, 2) := by decide +kernel
theorem dX1_tellingImage_71 : decode cX1_tellingImage 71 = .ok (.istore_n 3, 1) := by decide +kernel
theorem dX1_tellingImage_72 : decode cX1_tellingImage 72 = .ok (.iload 5, 2) := by decide +kernel
theorem dX1_tellingImage_74 : decode cX1_tellingImage 74 = .ok (.iload 7, 2) := by decide +kernel
theorem dX1_tellingImage_76 : decode cX1_tellingImage 76 = .ok (.invokestatic 72, 3) := by decide +kernel
theorem dX1_tellingImage_79 : decode cX1_tellingImage 79 = .ok (.istore_n 2, 1) := by decide +kernel
theorem dX1_tellingImage_80 : decode cX1_tellingImage 80 = .ok (.iinc 7 1, 3) := by decide +kernel
theorem dX1_tellingImage_83 : decode cX1_tellingImage 83 = .ok (.goto (-43), 3) := by decide +kernel
theorem dX1_tellingImage_86 : decode cX1_tellingImage 86 = .ok (.iinc 5 1, 3) := by decide +kernel
theorem dX1_tellingImage_89 : decode cX1_tellingImage 89 = .ok (.goto (-69), 3) := by decide +kernel
theorem dX1_tellingImage_92 : decode cX1_tellingImage 92 = .ok (.iload_n 2, 1) := by decide +kernel
theorem dX1_tellingImage_93 : decode cX1_tellingImage 93 = .ok (.ireturn, 1) := by decide +kernel
set_option maxRecDepth 20000 in
theorem ggX1_unlikeTimes_X3_imageX : GoodIn wsX1_unlikeTimes wsX3_imageX := goodIn_r _ [9, 10, 11, 12, 13, 14, 33, 34, 35, 36, 37, 38, 39, 40, 41, 42, 43, 44] (by decide +kernel) (by decide +kernel)
set_option maxRecDepth 20000 in
theorem gX1_unlikeTimes_X3_imageX : GoodIn wsX1_unlikeTimes (wsV RX1 76 RX3 yX3_imageX wsX3_imageX) := goodIn_app (goodIn_of _ (by decide +kernel)) ggX1_unlikeTimes_X3_imageX
set_option maxRecDepth 20000 in
theorem ggX1_unlikeTimes_X3_imageY : GoodIn wsX1_unlikeTimes wsX3_imageY := goodIn_r _ [18, 19, 20, 12, 13, 14, 33, 34, 35, 36, 37, 38, 39, 40, 41, 42, 43, 44] (by decide +kernel) (by decide +kernel)
set_option maxRecDepth 20000 in
theorem gX1_unlikeTimes_X3_imageY : GoodIn wsX1_unlikeTimes (wsV RX1 79 RX3 yX3_imageY wsX3_imageY) := goodIn_app (goodIn_of _ (by decide +kernel)) ggX1_unlikeTimes_X3_imageY
set_option maxRecDepth 20000 in
theorem ggX1_unlikeTimes_X5_squares : GoodIn wsX1_unlikeTimes wsX5_squares := goodIn_r _ [22] (by decide +kernel) (by decide +kernel)
set_option maxRecDepth 20000 in
theorem gX1_unlikeTimes_X5_squares_n82 : GoodIn wsX1_unlikeTimes (wsX5_squares) := ggX1_unlikeTimes_X5_squares
set_option maxRecDepth 20000 in
theorem ggX1_unlikeTimes_X5_timeOf : GoodIn wsX1_unlikeTimes wsX5_timeOf := goodIn_r _ [24] (by decide +kernel) (by decide +kernel)
set_option maxRecDepth 20000 in
theorem gX1_unlikeTimes_X5_timeOf_n53 : GoodIn wsX1_unlikeTimes (wsX5_timeOf) := ggX1_unlikeTimes_X5_timeOf
theorem dX1_unlikeTimes_0 : decode cX1_unlikeTimes 0 = .ok (.aload_n 1, 1) := by decide +kernel
theorem dX1_unlikeTimes_1 : decode cX1_unlikeTimes 1 = .ok (.iload_n 2, 1) := by decide +kernel
theorem dX1_unlikeTimes_2 : decode cX1_unlikeTimes 2 = .ok (.invokevirtual 76, 3) := by decide +kernel
theorem dX1_unlikeTimes_5 : decode cX1_unlikeTimes 5 = .ok (.istore 5, 2) := by decide +kernel
theorem dX1_unlikeTimes_7 : decode cX1_unlikeTimes 7 = .ok (.aload_n 1, 1) := by decide +kernel
theorem dX1_unlikeTimes_8 : decode cX1_unlikeTimes 8 = .ok (.iload_n 3, 1) := by decide +kernel
theorem dX1_unlikeTimes_9 : decode cX1_unlikeTimes 9 = .ok (.invokevirtual 79, 3) := by decide +kernel
theorem dX1_unlikeTimes_12 : decode cX1_unlikeTimes 12 = .ok (.istore 6, 2) := by decide +kernel
theorem dX1_unlikeTimes_14 : decode cX1_unlikeTimes 14 = .ok (.iconst 0, 1) := by decide +kernel
theorem dX1_unlikeTimes_15 : decode cX1_unlikeTimes 15 = .ok (.istore 7, 2) := by decide +kernel
theorem dX1_unlikeTimes_17 : decode cX1_unlikeTimes 17 = .ok (.iconst 0, 1) := by decide +kernel
theorem dX1_unlikeTimes_18 : decode cX1_unlikeTimes 18 = .ok (.istore 8, 2) := by decide +kernel
theorem dX1_unlikeTimes_20 : decode cX1_unlikeTimes 20 = .ok (.iload 8, 2) := by decide +kernel
theorem dX1_unlikeTimes_22 : decode cX1_unlikeTimes 22 = .ok (.aload_n 0, 1) := by decide +kernel
theorem dX1_unlikeTimes_23 : decode cX1_unlikeTimes 23 = .ok (.getfield 34, 3) := by decide +kernel
theorem dX1_unlikeTimes_26 : decode cX1_unlikeTimes 26 = .ok (.if_icmp .ge 69, 3) := by decide +kernel
theorem dX1_unlikeTimes_29 : decode cX1_unlikeTimes 29 = .ok (.iload 5, 2) := by decide +kernel
theorem dX1_unlikeTimes_31 : decode cX1_unlikeTimes 31 = .ok (.aload_n 0, 1) := by decide +kernel
theorem dX1_unlikeTimes_32 : decode cX1_unlikeTimes 32 = .ok (.getfield 21, 3) := by decide +kernel
theorem dX1_unlikeTimes_35 : decode cX1_unlikeTimes 35 = .ok (.iload 8, 2) := by decide +kernel
theorem dX1_unlikeTimes_37 : decode cX1_unlikeTimes 37 = .ok (.iaload, 1) := by decide +kernel
theorem dX1_unlikeTimes_38 : decode cX1_unlikeTimes 38 = .ok (.isub, 1) := by decide +kernel
theorem dX1_unlikeTimes_39 : decode cX1_unlikeTimes 39 = .ok (.iload 6, 2) := by decide +kernel
theorem dX1_unlikeTimes_41 : decode cX1_unlikeTimes 41 = .ok (.aload_n 0, 1) := by decide +kernel
theorem dX1_unlikeTimes_42 : decode cX1_unlikeTimes 42 = .ok (.getfield 24, 3) := by decide +kernel
theorem dX1_unlikeTimes_45 : decode cX1_unlikeTimes 45 = .ok (.iload 8, 2) := by decide +kernel
theorem dX1_unlikeTimes_47 : decode cX1_unlikeTimes 47 = .ok (.iaload, 1) := by decide +kernel
theorem dX1_unlikeTimes_48 : decode cX1_unlikeTimes 48 = .ok (.isub, 1) := by decide +kernel
theorem dX1_unlikeTimes_49 : decode cX1_unlikeTimes 49 = .ok (.invokestatic 82, 3) := by decide +kernel
theorem dX1_unlikeTimes_52 : decode cX1_unlikeTimes 52 = .ok (.invokestatic 53, 3) := by decide +kernel
theorem dX1_unlikeTimes_55 : decode cX1_unlikeTimes 55 = .ok (.istore 9, 2) := by decide +kernel
theorem dX1_unlikeTimes_57 : decode cX1_unlikeTimes 57 = .ok (.iload 9, 2) := by decide +kernel
theorem dX1_unlikeTimes_59 : decode cX1_unlikeTimes 59 = .ok (.sipush 1024, 3) := by decide +kernel
theorem dX1_unlikeTimes_62 : decode cX1_unlikeTimes 62 = .ok (.if_icmp .ge 27, 3) := by decide +kernel
theorem dX1_unlikeTimes_65 : decode cX1_unlikeTimes 65 = .ok (.aload_n 0, 1) := by decide +kernel
theorem dX1_unlikeTimes_66 : decode cX1_unlikeTimes 66 = .ok (.getfield 27, 3) := by decide +kernel
theorem dX1_unlikeTimes_69 : decode cX1_unlikeTimes 69 = .ok (.iload 9, 2) := by decide +kernel
theorem dX1_unlikeTimes_71 : decode cX1_unlikeTimes 71 = .ok (.iaload, 1) := by decide +kernel
theorem dX1_unlikeTimes_72 : decode cX1_unlikeTimes 72 = .ok (.iload 4, 2) := by decide +kernel
theorem dX1_unlikeTimes_74 : decode cX1_unlikeTimes 74 = .ok (.if_icmp .eq 15, 3) := by decide +kernel
theorem dX1_unlikeTimes_77 : decode cX1_unlikeTimes 77 = .ok (.aload_n 0, 1) := by decide +kernel
theorem dX1_unlikeTimes_78 : decode cX1_unlikeTimes 78 = .ok (.getfield 27, 3) := by decide +kernel
theorem dX1_unlikeTimes_81 : decode cX1_unlikeTimes 81 = .ok (.iload 9, 2) := by decide +kernel
theorem dX1_unlikeTimes_83 : decode cX1_unlikeTimes 83 = .ok (.iload 4, 2) := by decide +kernel
theorem dX1_unlikeTimes_85 : decode cX1_unlikeTimes 85 = .ok (.iastore, 1) := by decide +kernel
theorem dX1_unlikeTimes_86 : decode cX1_unlikeTimes 86 = .ok (.iinc 7 1, 3) := by decide +kernel
theorem dX1_unlikeTimes_89 : decode cX1_unlikeTimes 89 = .ok (.iinc 8 1, 3) := by decide +kernel
theorem dX1_unlikeTimes_92 : decode cX1_unlikeTimes 92 = .ok (.goto (-72), 3) := by decide +kernel
theorem dX1_unlikeTimes_95 : decode cX1_unlikeTimes 95 = .ok (.iload 7, 2) := by decide +kernel
theorem dX1_unlikeTimes_97 : decode cX1_unlikeTimes 97 = .ok (.ireturn, 1) := by decide +kernel
theorem dX2_init_0 : decode cX2_init 0 = .ok (.aload_n 0, 1) := by decide +kernel
theorem dX2_init_1 : decode cX2_init 1 = .ok (.invokespecial 3, 3) := by decide +kernel
theorem dX2_init_4 : decode cX2_init 4 = .ok (.aload_n 0, 1) := by decide +kernel
theorem dX2_init_5 : decode cX2_init 5 = .ok (.bipush 10, 2) := by decide +kernel
theorem dX2_init_7 : decode cX2_init 7 = .ok (.newarray .int, 2) := by decide +kernel
theorem dX2_init_9 : decode cX2_init 9 = .ok (.putfield 9, 3) := by decide +kernel
theorem dX2_init_12 : decode cX2_init 12 = .ok (.aload_n 0, 1) := by decide +kernel
theorem dX2_init_13 : decode cX2_init 13 = .ok (.bipush 10, 2) := by decide +kernel
theorem dX2_init_15 : decode cX2_init 15 = .ok (.newarray .int, 2) := by decide +kernel
theorem dX2_init_17 : decode cX2_init 17 = .ok (.putfield 15, 3) := by decide +kernel
theorem dX2_init_20 : decode cX2_init 20 = .ok (.aload_n 0, 1) := by decide +kernel
theorem dX2_init_21 : decode cX2_init 21 = .ok (.bipush 10, 2) := by decide +kernel
theorem dX2_init_23 : decode cX2_init 23 = .ok (.newarray .int, 2) := by decide +kernel
theorem dX2_init_25 : decode cX2_init 25 = .ok (.putfield 18, 3) := by decide +kernel
theorem dX2_init_28 : decode cX2_init 28 = .ok (.aload_n 0, 1) := by decide +kernel
theorem dX2_init_29 : decode cX2_init 29 = .ok (.bipush 10, 2) := by decide +kernel
theorem dX2_init_31 : decode cX2_init 31 = .ok (.newarray .int, 2) := by decide +kernel
theorem dX2_init_33 : decode cX2_init 33 = .ok (.putfield 21, 3) := by decide +kernel
theorem dX2_init_36 : decode cX2_init 36 = .ok (.return_, 1) := by decide +kernel
set_option maxRecDepth 20000 in
theorem ggX2_add_X2_loseOldest : GoodIn wsX2_add wsX2_loseOldest := goodIn_r _ [10, 1, 2, 11, 12, 13, 14, 3, 4, 5, 15, 16, 17, 18, 19] (by decide +kernel) (by decide +kernel)
set_option maxRecDepth 20000 in
theorem gX2_add_X2_loseOldest : GoodIn wsX2_add (wsV RX2 28 RX2 yX2_loseOldest wsX2_loseOldest) := goodIn_app (goodIn_of _ (by decide +kernel)) ggX2_add_X2_loseOldest
theorem dX2_add_0 : decode cX2_add 0 = .ok (.aload_n 0, 1) := by decide +kernel
theorem dX2_add_1 : decode cX2_add 1 = .ok (.getfield 24, 3) := by decide +kernel
theorem dX2_add_4 : decode cX2_add 4 = .ok (.bipush 10, 2) := by decide +kernel
theorem dX2_add_6 : decode cX2_add 6 = .ok (.if_icmp .lt 7, 3) := by decide +kernel
theorem dX2_add_9 : decode cX2_add 9 = .ok (.aload_n 0, 1) := by decide +kernel
theorem dX2_add_10 : decode cX2_add 10 = .ok (.invokevirtual 28, 3) := by decide +kernel
theorem dX2_add_13 : decode cX2_add 13 = .ok (.aload_n 0, 1) := by decide +kernel
theorem dX2_add_14 : decode cX2_add 14 = .ok (.getfield 9, 3) := by decide +kernel
theorem dX2_add_17 : decode cX2_add 17 = .ok (.aload_n 0, 1) := by decide +kernel
theorem dX2_add_18 : decode cX2_add 18 = .ok (.getfield 24, 3) := by decide +kernel
theorem dX2_add_21 : decode cX2_add 21 = .ok (.iload_n 1, 1) := by decide +kernel
theorem dX2_add_22 : decode cX2_add 22 = .ok (.iastore, 1) := by decide +kernel
theorem dX2_add_23 : decode cX2_add 23 = .ok (.aload_n 0, 1) := by decide +kernel
theorem dX2_add_24 : decode cX2_add 24 = .ok (.getfield 15, 3) := by decide +kernel
theorem dX2_add_27 : decode cX2_add 27 = .ok (.aload_n 0, 1) := by decide +kernel
theorem dX2_add_28 : decode cX2_add 28 = .ok (.getfield 24, 3) := by decide +kernel
theorem dX2_add_31 : decode cX2_add 31 = .ok (.iload_n 2, 1) := by decide +kernel
theorem dX2_add_32 : decode cX2_add 32 = .ok (.iastore, 1) := by decide +kernel
theorem dX2_add_33 : decode cX2_add 33 = .ok (.aload_n 0, 1) := by decide +kernel
theorem dX2_add_34 : decode cX2_add 34 = .ok (.getfield 18, 3) := by decide +kernel
theorem dX2_add_37 : decode cX2_add 37 = .ok (.aload_n 0, 1) := by decide +kernel
theorem dX2_add_38 : decode cX2_add 38 = .ok (.getfield 24, 3) := by decide +kernel
theorem dX2_add_41 : decode cX2_add 41 = .ok (.iload_n 3, 1) := by decide +kernel
theorem dX2_add_42 : decode cX2_add 42 = .ok (.iastore, 1) := by decide +kernel
theorem dX2_add_43 : decode cX2_add 43 = .ok (.aload_n 0, 1) := by decide +kernel
theorem dX2_add_44 : decode cX2_add 44 = .ok (.getfield 21, 3) := by decide +kernel
theorem dX2_add_47 : decode cX2_add 47 = .ok (.aload_n 0, 1) := by decide +kernel
theorem dX2_add_48 : decode cX2_add 48 = .ok (.getfield 24, 3) := by decide +kernel
theorem dX2_add_51 : decode cX2_add 51 = .ok (.iload 4, 2) := by decide +kernel
theorem dX2_add_53 : decode cX2_add 53 = .ok (.iastore, 1) := by decide +kernel
theorem dX2_add_54 : decode cX2_add 54 = .ok (.aload_n 0, 1) := by decide +kernel
theorem dX2_add_55 : decode cX2_add 55 = .ok (.dup, 1) := by decide +kernel
theorem dX2_add_56 : decode cX2_add 56 = .ok (.getfield 24, 3) := by decide +kernel
theorem dX2_add_59 : decode cX2_add 59 = .ok (.iconst 1, 1) := by decide +kernel
theorem dX2_add_60 : decode cX2_add 60 = .ok (.iadd, 1) := by decide +kernel
theorem dX2_add_61 : decode cX2_add 61 = .ok (.putfield 24, 3) := by decide +kernel
theorem dX2_add_64 : decode cX2_add 64 = .ok (.return_, 1) := by decide +kernel
theorem dX2_loseOldest_0 : decode cX2_loseOldest 0 = .ok (.aload_n 0, 1) := by decide +kernel
theorem dX2_loseOldest_1 : decode cX2_loseOldest 1 = .ok (.bipush 9, 2) := by decide +kernel
theorem dX2_loseOldest_3 : decode cX2_loseOldest 3 = .ok (.putfield 24, 3) := by decide +kernel
theorem dX2_loseOldest_6 : decode cX2_loseOldest 6 = .ok (.aload_n 0, 1) := by decide +kernel
theorem dX2_loseOldest_7 : decode cX2_loseOldest 7 = .ok (.getfield 9, 3) := by decide +kernel
theorem dX2_loseOldest_10 : decode cX2_loseOldest 10 = .ok (.iconst 1, 1) := by decide +kernel
theorem dX2_loseOldest_11 : decode cX2_loseOldest 11 = .ok (.aload_n 0, 1) := by decide +kernel
theorem dX2_loseOldest_12 : decode cX2_loseOldest 12 = .ok (.getfield 9, 3) := by decide +kernel
theorem dX2_loseOldest_15 : decode cX2_loseOldest 15 = .ok (.iconst 0, 1) := by decide +kernel
theorem dX2_loseOldest_16 : decode cX2_loseOldest 16 = .ok (.aload_n 0, 1) := by decide +kernel
theorem dX2_loseOldest_17 : decode cX2_loseOldest 17 = .ok (.getfield 24, 3) := by decide +kernel
theorem dX2_loseOldest_20 : decode cX2_loseOldest 20 = .ok (.invokestatic 31, 3) := by decide +kernel
theorem dX2_loseOldest_23 : decode cX2_loseOldest 23 = .ok (.aload_n 0, 1) := by decide +kernel
theorem dX2_loseOldest_24 : decode cX2_loseOldest 24 = .ok (.getfield 15, 3) := by decide +kernel
theorem dX2_loseOldest_27 : decode cX2_loseOldest 27 = .ok (.iconst 1, 1) := by decide +kernel
theorem dX2_loseOldest_28 : decode cX2_loseOldest 28 = .ok (.aload_n 0, 1) := by decide +kernel
theorem dX2_loseOldest_29 : decode cX2_loseOldest 29 = .ok (.getfield 15, 3) := by decide +kernel
theorem dX2_loseOldest_32 : decode cX2_loseOldest 32 = .ok (.iconst 0, 1) := by decide +kernel
theorem dX2_loseOldest_33 : decode cX2_loseOldest 33 = .ok (.aload_n 0, 1) := by decide +kernel
theorem dX2_loseOldest_34 : decode cX2_loseOldest 34 = .ok (.getfield 24, 3) := by decide +kernel
theorem dX2_loseOldest_37 : decode cX2_loseOldest 37 = .ok (.invokestatic 31, 3) := by decide +kernel
theorem dX2_loseOldest_40 : decode cX2_loseOldest 40 = .ok (.aload_n 0, 1) := by decide +kernel
theorem dX2_loseOldest_41 : decode cX2_loseOldest 41 = .ok (.getfield 18, 3) := by decide +kernel
theorem dX2_loseOldest_44 : decode cX2_loseOldest 44 = .ok (.iconst 1, 1) := by decide +kernel
theorem dX2_loseOldest_45 : decode cX2_loseOldest 45 = .ok (.aload_n 0, 1) := by decide +kernel
theorem dX2_loseOldest_46 : decode cX2_loseOldest 46 = .ok (.getfield 18, 3) := by decide +kernel
theorem dX2_loseOldest_49 : decode cX2_loseOldest 49 = .ok (.iconst 0, 1) := by decide +kernel
theorem dX2_loseOldest_50 : decode cX2_loseOldest 50 = .ok (.aload_n 0, 1) := by decide +kernel
theorem dX2_loseOldest_51 : decode cX2_loseOldest 51 = .ok (.getfield 24, 3) := by decide +kernel
theorem dX2_loseOldest_54 : decode cX2_loseOldest 54 = .ok (.invokestatic 31, 3) := by decide +kernel
theorem dX2_loseOldest_57 : decode cX2_loseOldest 57 = .ok (.aload_n 0, 1) := by decide +kernel
theorem dX2_loseOldest_58 : decode cX2_loseOldest 58 = .ok (.getfield 21, 3) := by decide +kernel
theorem dX2_loseOldest_61 : decode cX2_loseOldest 61 = .ok (.iconst 1, 1) := by decide +kernel
theorem dX2_loseOldest_62 : decode cX2_loseOldest 62 = .ok (.aload_n 0, 1) := by decide +kernel
theorem dX2_loseOldest_63 : decode cX2_loseOldest 63 = .ok (.getfield 21, 3) := by decide +kernel
theorem dX2_loseOldest_66 : decode cX2_loseOldest 66 = .ok (.iconst 0, 1) := by decide +kernel
theorem dX2_loseOldest_67 : decode cX2_loseOldest 67 = .ok (.aload_n 0, 1) := by decide +kernel
theorem dX2_loseOldest_68 : decode cX2_loseOldest 68 = .ok (.getfield 24, 3) := by decide +kernel
theorem dX2_loseOldest_71 : decode cX2_loseOldest 71 = .ok (.invokestatic 31, 3) := by decide +kernel
theorem dX2_loseOldest_74 : decode cX2_loseOldest 74 = .ok (.return_, 1) := by decide +kernel
theorem dX2_takeBackIn_0 : decode cX2_takeBackIn 0 = .ok (.aload_n 0, 1) := by decide +kernel
theorem dX2_takeBackIn_1 : decode cX2_takeBackIn 1 = .ok (.getfield 24, 3) := by decide +kernel
theorem dX2_takeBackIn_4 : decode cX2_takeBackIn 4 = .ok (.ifCond .gt 4, 3) := by decide +kernel
theorem dX2_takeBackIn_7 : decode cX2_takeBackIn 7 = .ok (.return_, 1) := by decide +kernel
theorem dX2_takeBackIn_8 : decode cX2_takeBackIn 8 = .ok (.aload_n 0, 1) := by decide +kernel
theorem dX2_takeBackIn_9 : decode cX2_takeBackIn 9 = .ok (.dup, 1) := by decide +kernel
theorem dX2_takeBackIn_10 : decode cX2_takeBackIn 10 = .ok (.getfield 24, 3) := by decide +kernel
theorem dX2_takeBackIn_13 : decode cX2_takeBackIn 13 = .ok (.iconst 1, 1) := by decide +kernel
theorem dX2_takeBackIn_14 : decode cX2_takeBackIn 14 = .ok (.isub, 1) := by decide +kernel
theorem dX2_takeBackIn_15 : decode cX2_takeBackIn 15 = .ok (.putfield 24, 3) := by decide +kernel
theorem dX2_takeBackIn_18 : decode cX2_takeBackIn 18 = .ok (.aload_n 0, 1) := by decide +kernel
theorem dX2_takeBackIn_19 : decode cX2_takeBackIn 19 = .ok (.getfield 15, 3) := by decide +kernel
theorem dX2_takeBackIn_22 : decode cX2_takeBackIn 22 = .ok (.aload_n 0, 1) := by decide +kernel
theorem dX2_takeBackIn_23 : decode cX2_takeBackIn 23 = .ok (.getfield 24, 3) := by decide +kernel
theorem dX2_takeBackIn_26 : decode cX2_takeBackIn 26 = .ok (.iaload, 1) := by decide +kernel
theorem dX2_takeBackIn_27 : decode cX2_takeBackIn 27 = .ok (.istore_n 2, 1) := by decide +kernel
theorem dX2_takeBackIn_28 : decode cX2_takeBackIn 28 = .ok (.aload_n 0, 1) := by decide +kernel
theorem dX2_takeBackIn_29 : decode cX2_takeBackIn 29 = .ok (.getfield 9, 3) := by decide +kernel
theorem dX2_takeBackIn_32 : decode cX2_takeBackIn 32 = .ok (.aload_n 0, 1) := by decide +kernel
theorem dX2_takeBackIn_33 : decode cX2_takeBackIn 33 = .ok (.getfield 24, 3) := by decide +kernel
theorem dX2_takeBackIn_36 : decode cX2_takeBackIn 36 = .ok (.iaload, 1) := by decide +kernel
theorem dX2_takeBackIn_37 : decode cX2_takeBackIn 37 = .ok (.ifCond .ne 21, 3) := by decide +kernel
theorem dX2_takeBackIn_40 : decode cX2_takeBackIn 40 = .ok (.aload_n 1, 1) := by decide +kernel
theorem dX2_takeBackIn_41 : decode cX2_takeBackIn 41 = .ok (.getfield 37, 3) := by decide +kernel
theorem dX2_takeBackIn_44 : decode cX2_takeBackIn 44 = .ok (.iload_n 2, 1) := by decide +kernel
theorem dX2_takeBackIn_45 : decode cX2_takeBackIn 45 = .ok (.aload_n 0, 1) := by decide +kernel
theorem dX2_takeBackIn_46 : decode cX2_takeBackIn 46 = .ok (.getfield 18, 3) := by decide +kernel
theorem dX2_takeBackIn_49 : decode cX2_takeBackIn 49 = .ok (.aload_n 0, 1) := by decide +kernel
theorem dX2_takeBackIn_50 : decode cX2_takeBackIn 50 = .ok (.getfield 24, 3) := by decide +kernel
theorem dX2_takeBackIn_53 : decode cX2_takeBackIn 53 = .ok (.iaload, 1) := by decide +kernel
theorem dX2_takeBackIn_54 : decode cX2_takeBackIn 54 = .ok (.iastore, 1) := by decide +kernel
theorem dX2_takeBackIn_55 : decode cX2_takeBackIn 55 = .ok (.goto 75, 3) := by decide +kernel
theorem dX2_takeBackIn_58 : decode cX2_takeBackIn 58 = .ok (.aload_n 0, 1) := by decide +kernel
theorem dX2_takeBackIn_59 : decode cX2_takeBackIn 59 = .ok (.getfield 9, 3) := by decide +kernel
theorem dX2_takeBackIn_62 : decode cX2_takeBackIn 62 = .ok (.aload_n 0, 1) := by decide +kernel
theorem dX2_takeBackIn_63 : decode cX2_takeBackIn 63 = .ok (.getfield 24, 3) := by decide +kernel
theorem dX2_takeBackIn_66 : decode cX2_takeBackIn 66 = .ok (.iaload, 1) := by decide +kernel
theorem dX2_takeBackIn_67 : decode cX2_takeBackIn 67 = .ok (.iconst 1, 1) := by decide +kernel
theorem dX2_takeBackIn_68 : decode cX2_takeBackIn 68 = .ok (.if_icmp .ne 36, 3) := by decide +kernel
theorem dX2_takeBackIn_71 : decode cX2_takeBackIn 71 = .ok (.aload_n 1, 1) := by decide +kernel
theorem dX2_takeBackIn_72 : decode cX2_takeBackIn 72 = .ok (.getfield 42, 3) := by decide +kernel
theorem dX2_takeBackIn_75 : decode cX2_takeBackIn 75 = .ok (.iload_n 2, 1) := by decide +kernel
theorem dX2_takeBackIn_76 : decode cX2_takeBackIn 76 = .ok (.aload_n 0, 1) := by decide +kernel
theorem dX2_takeBackIn_77 : decode cX2_takeBackIn 77 = .ok (.getfield 18, 3) := by decide +kernel
theorem dX2_takeBackIn_80 : decode cX2_takeBackIn 80 = .ok (.aload_n 0, 1) := by decide +kernel
theorem dX2_takeBackIn_81 : decode cX2_takeBackIn 81 = .ok (.getfield 24, 3) := by decide +kernel
theorem dX2_takeBackIn_84 : decode cX2_takeBackIn 84 = .ok (.iaload, 1) := by decide +kernel
theorem dX2_takeBackIn_85 : decode cX2_takeBackIn 85 = .ok (.iastore, 1) := by decide +kernel
theorem dX2_takeBackIn_86 : decode cX2_takeBackIn 86 = .ok (.aload_n 1, 1) := by decide +kernel
theorem dX2_takeBackIn_87 : decode cX2_takeBackIn 87 = .ok (.getfield 45, 3) := by decide +kernel
theorem dX2_takeBackIn_90 : decode cX2_takeBackIn 90 = .ok (.iload_n 2, 1) := by decide +kernel
theorem dX2_takeBackIn_91 : decode cX2_takeBackIn 91 = .ok (.aload_n 0, 1) := by decide +kernel
theorem dX2_takeBackIn_92 : decode cX2_takeBackIn 92 = .ok (.getfield 21, 3) := by decide +kernel
theorem dX2_takeBackIn_95 : decode cX2_takeBackIn 95 = .ok (.aload_n 0, 1) := by decide +kernel
theorem dX2_takeBackIn_96 : decode cX2_takeBackIn 96 = .ok (.getfield 24, 3) := by decide +kernel
theorem dX2_takeBackIn_99 : decode cX2_takeBackIn 99 = .ok (.iaload, 1) := by decide +kernel
theorem dX2_takeBackIn_100 : decode cX2_takeBackIn 100 = .ok (.iastore, 1) := by decide +kernel
theorem dX2_takeBackIn_101 : decode cX2_takeBackIn 101 = .ok (.goto 29, 3) := by decide +kernel
theorem dX2_takeBackIn_104 : decode cX2_takeBackIn 104 = .ok (.aload_n 1, 1) := by decide +kernel
theorem dX2_takeBackIn_105 : decode cX2_takeBackIn 105 = .ok (.aload_n 0, 1) := by decide +kernel
theorem dX2_takeBackIn_106 : decode cX2_takeBackIn 106 = .ok (.getfield 18, 3) := by decide +kernel
theorem dX2_takeBackIn_109 : decode cX2_takeBackIn 109 = .ok (.aload_n 0, 1) := by decide +kernel
theorem dX2_takeBackIn_110 : decode cX2_takeBackIn 110 = .ok (.getfield 24, 3) := by decide +kernel
theorem dX2_takeBackIn_113 : decode cX2_takeBackIn 113 = .ok (.iaload, 1) := by decide +kernel
theorem dX2_takeBackIn_114 : decode cX2_takeBackIn 114 = .ok (.putfield 48, 3) := by decide +kernel
theorem dX2_takeBackIn_117 : decode cX2_takeBackIn 117 = .ok (.aload_n 1, 1) := by decide +kernel
theorem dX2_takeBackIn_118 : decode cX2_takeBackIn 118 = .ok (.aload_n 0, 1) := by decide +kernel
theorem dX2_takeBackIn_119 : decode cX2_takeBackIn 119 = .ok (.getfield 21, 3) := by decide +kernel
theorem dX2_takeBackIn_122 : decode cX2_takeBackIn 122 = .ok (.aload_n 0, 1) := by decide +kernel
theorem dX2_takeBackIn_123 : decode cX2_takeBackIn 123 = .ok (.getfield 24, 3) := by decide +kernel
theorem dX2_takeBackIn_126 : decode cX2_takeBackIn 126 = .ok (.iaload, 1) := by decide +kernel
theorem dX2_takeBackIn_127 : decode cX2_takeBackIn 127 = .ok (.putfield 51, 3) := by decide +kernel
theorem dX2_takeBackIn_130 : decode cX2_takeBackIn 130 = .ok (.return_, 1) := by decide +kernel
set_option maxRecDepth 20000 in
theorem ggX3_init_X3_beAsAtFirst : GoodIn wsX3_init wsX3_beAsAtFirst := goodIn_r _ [15, 16, 17, 18, 19, 20, 21, 5, 22, 23, 24, 25, 26, 27, 28, 29, 30, 31, 32, 33, 34, 35, 36, 37] (by decide +kernel) (by decide +kernel)
set_option maxRecDepth 20000 in
theorem gX3_init_X3_beAsAtFirst : GoodIn wsX3_init (wsV RX3 30 RX3 yX3_beAsAtFirst wsX3_beAsAtFirst) := goodIn_app (goodIn_of _ (by decide +kernel)) ggX3_init_X3_beAsAtFirst
theorem dX3_init_0 : decode cX3_init 0 = .ok (.aload_n 0, 1) := by decide +kernel
theorem dX3_init_1 : decode cX3_init 1 = .ok (.invokespecial 3, 3) := by decide +kernel
theorem dX3_init_4 : decode cX3_init 4 = .ok (.aload_n 0, 1) := by decide +kernel
theorem dX3_init_5 : decode cX3_init 5 = .ok (.iconst 4, 1) := by decide +kernel
theorem dX3_init_6 : decode cX3_init 6 = .ok (.newarray .int, 2) := by decide +kernel
theorem dX3_init_8 : decode cX3_init 8 = .ok (.putfield 9, 3) := by decide +kernel
theorem dX3_init_11 : decode cX3_init 11 = .ok (.aload_n 0, 1) := by decide +kernel
theorem dX3_init_12 : decode cX3_init 12 = .ok (.iconst 4, 1) := by decide +kernel
theorem dX3_init_13 : decode cX3_init 13 = .ok (.newarray .int, 2) := by decide +kernel
theorem dX3_init_15 : decode cX3_init 15 = .ok (.putfield 15, 3) := by decide +kernel
theorem dX3_init_18 : decode cX3_init 18 = .ok (.aload_n 0, 1) := by decide +kernel
theorem dX3_init_19 : decode cX3_init 19 = .ok (.iconst 4, 1) := by decide +kernel
theorem dX3_init_20 : decode cX3_init 20 = .ok (.newarray .int, 2) := by decide +kernel
theorem dX3_init_22 : decode cX3_init 22 = .ok (.putfield 18, 3) := by decide +kernel
theorem dX3_init_25 : decode cX3_init 25 = .ok (.aload_n 0, 1) := by decide +kernel
theorem dX3_init_26 : decode cX3_init 26 = .ok (.iconst 3, 1) := by decide +kernel
theorem dX3_init_27 : decode cX3_init 27 = .ok (.newarray .int, 2) := by decide +kernel
theorem dX3_init_29 : decode cX3_init 29 = .ok (.putfield 21, 3) := by decide +kernel
theorem dX3_init_32 : decode cX3_init 32 = .ok (.aload_n 0, 1) := by decide +kernel
theorem dX3_init_33 : decode cX3_init 33 = .ok (.iconst 3, 1) := by decide +kernel
theorem dX3_init_34 : decode cX3_init 34 = .ok (.newarray .int, 2) := by decide +kernel
theorem dX3_init_36 : decode cX3_init 36 = .ok (.putfield 24, 3) := by decide +kernel
theorem dX3_init_39 : decode cX3_init 39 = .ok (.aload_n 0, 1) := by decide +kernel
theorem dX3_init_40 : decode cX3_init 40 = .ok (.iconst 3, 1) := by decide +kernel
theorem dX3_init_41 : decode cX3_init 41 = .ok (.newarray .int, 2) := by decide +kernel
theorem dX3_init_43 : decode cX3_init 43 = .ok (.putfield 27, 3) := by decide +kernel
theorem dX3_init_46 : decode cX3_init 46 = .ok (.aload_n 0, 1) := by decide +kernel
theorem dX3_init_47 : decode cX3_init 47 = .ok (.invokevirtual 30, 3) := by decide +kernel
theorem dX3_init_50 : decode cX3_init 50 = .ok (.return_, 1) := by decide +kernel
set_option maxRecDepth 20000 in
theorem ggX3_beAsAtFirst_J7_fill_53178 : GoodIn wsX3_beAsAtFirst wsJ7_fill_53178 := goodIn_r _ [11] (by decide +kernel) (by decide +kernel)
set_option maxRecDepth 20000 in
theorem gX3_beAsAtFirst_J7_fill_53178 : GoodIn wsX3_beAsAtFirst (va_wsS RX3 52 yJ7_fill_53178 wsJ7_fill_53178) := goodIn_app (goodIn_of _ (by decide +kernel)) ggX3_beAsAtFirst_J7_fill_53178
theorem dX3_beAsAtFirst_0 : decode cX3_beAsAtFirst 0 = .ok (.aload_n 0, 1) := by decide +kernel
theorem dX3_beAsAtFirst_1 : decode cX3_beAsAtFirst 1 = .ok (.bipush 10, 2) := by decide +kernel
theorem dX3_beAsAtFirst_3 : decode cX3_beAsAtFirst 3 = .ok (.putfield 33, 3) := by decide +kernel
theorem dX3_beAsAtFirst_6 : decode cX3_beAsAtFirst 6 = .ok (.aload_n 0, 1) := by decide +kernel
theorem dX3_beAsAtFirst_7 : decode cX3_beAsAtFirst 7 = .ok (.bipush 8, 2) := by decide +kernel
theorem dX3_beAsAtFirst_9 : decode cX3_beAsAtFirst 9 = .ok (.putfield 37, 3) := by decide +kernel
theorem dX3_beAsAtFirst_12 : decode cX3_beAsAtFirst 12 = .ok (.aload_n 0, 1) := by decide +kernel
theorem dX3_beAsAtFirst_13 : decode cX3_beAsAtFirst 13 = .ok (.iconst 1, 1) := by decide +kernel
theorem dX3_beAsAtFirst_14 : decode cX3_beAsAtFirst 14 = .ok (.putfield 40, 3) := by decide +kernel
theorem dX3_beAsAtFirst_17 : decode cX3_beAsAtFirst 17 = .ok (.aload_n 0, 1) := by decide +kernel
theorem dX3_beAsAtFirst_18 : decode cX3_beAsAtFirst 18 = .ok (.iconst 1, 1) := by decide +kernel
theorem dX3_beAsAtFirst_19 : decode cX3_beAsAtFirst 19 = .ok (.putfield 43, 3) := by decide +kernel
theorem dX3_beAsAtFirst_22 : decode cX3_beAsAtFirst 22 = .ok (.aload_n 0, 1) := by decide +kernel
theorem dX3_beAsAtFirst_23 : decode cX3_beAsAtFirst 23 = .ok (.iconst 0, 1) := by decide +kernel
theorem dX3_beAsAtFirst_24 : decode cX3_beAsAtFirst 24 = .ok (.putfield 46, 3) := by decide +kernel
theorem dX3_beAsAtFirst_27 : decode cX3_beAsAtFirst 27 = .ok (.aload_n 0, 1) := by decide +kernel
theorem dX3_beAsAtFirst_28 : decode cX3_beAsAtFirst 28 = .ok (.iconst 0, 1) := by decide +kernel
theorem dX3_beAsAtFirst_29 : decode cX3_beAsAtFirst 29 = .ok (.putfield 49, 3) := by decide +kernel
theorem dX3_beAsAtFirst_32 : decode cX3_beAsAtFirst 32 = .ok (.aload_n 0, 1) := by decide +kernel
theorem dX3_beAsAtFirst_33 : decode cX3_beAsAtFirst 33 = .ok (.getfield 9, 3) := by decide +kernel
theorem dX3_beAsAtFirst_36 : decode cX3_beAsAtFirst 36 = .ok (.iconst 2, 1) := by decide +kernel
theorem dX3_beAsAtFirst_37 : decode cX3_beAsAtFirst 37 = .ok (.invokestatic 52, 3) := by decide +kernel
theorem dX3_beAsAtFirst_40 : decode cX3_beAsAtFirst 40 = .ok (.return_, 1) := by decide +kernel
theorem dX3_copyFrom_0 : decode cX3_copyFrom 0 = .ok (.aload_n 0, 1) := by decide +kernel
theorem dX3_copyFrom_1 : decode cX3_copyFrom 1 = .ok (.aload_n 1, 1) := by decide +kernel
theorem dX3_copyFrom_2 : decode cX3_copyFrom 2 = .ok (.getfield 33, 3) := by decide +kernel
theorem dX3_copyFrom_5 : decode cX3_copyFrom 5 = .ok (.putfield 33, 3) := by decide +kernel
theorem dX3_copyFrom_8 : decode cX3_copyFrom 8 = .ok (.aload_n 0, 1) := by decide +kernel
theorem dX3_copyFrom_9 : decode cX3_copyFrom 9 = .ok (.aload_n 1, 1) := by decide +kernel
theorem dX3_copyFrom_10 : decode cX3_copyFrom 10 = .ok (.getfield 37, 3) := by decide +kernel
theorem dX3_copyFrom_13 : decode cX3_copyFrom 13 = .ok (.putfield 37, 3) := by decide +kernel
theorem dX3_copyFrom_16 : decode cX3_copyFrom 16 = .ok (.aload_n 0, 1) := by decide +kernel
theorem dX3_copyFrom_17 : decode cX3_copyFrom 17 = .ok (.aload_n 1, 1) := by decide +kernel
theorem dX3_copyFrom_18 : decode cX3_copyFrom 18 = .ok (.getfield 40, 3) := by decide +kernel
theorem dX3_copyFrom_21 : decode cX3_copyFrom 21 = .ok (.putfield 40, 3) := by decide +kernel
theorem dX3_copyFrom_24 : decode cX3_copyFrom 24 = .ok (.aload_n 0, 1) := by decide +kernel
theorem dX3_copyFrom_25 : decode cX3_copyFrom 25 = .ok (.aload_n 1, 1) := by decide +kernel
theorem dX3_copyFrom_26 : decode cX3_copyFrom 26 = .ok (.getfield 43, 3) := by decide +kernel
theorem dX3_copyFrom_29 : decode cX3_copyFrom 29 = .ok (.putfield 43, 3) := by decide +kernel
theorem dX3_copyFrom_32 : decode cX3_copyFrom 32 = .ok (.aload_n 0, 1) := by decide +kernel
theorem dX3_copyFrom_33 : decode cX3_copyFrom 33 = .ok (.aload_n 1, 1) := by decide +kernel
theorem dX3_copyFrom_34 : decode cX3_copyFrom 34 = .ok (.getfield 46, 3) := by decide +kernel
theorem dX3_copyFrom_37 : decode cX3_copyFrom 37 = .ok (.putfield 46, 3) := by decide +kernel
theorem dX3_copyFrom_40 : decode cX3_copyFrom 40 = .ok (.aload_n 0, 1) := by decide +kernel
theorem dX3_copyFrom_41 : decode cX3_copyFrom 41 = .ok (.aload_n 1, 1) := by decide +kernel
theorem dX3_copyFrom_42 : decode cX3_copyFrom 42 = .ok (.getfield 49, 3) := by decide +kernel
theorem dX3_copyFrom_45 : decode cX3_copyFrom 45 = .ok (.putfield 49, 3) := by decide +kernel
theorem dX3_copyFrom_48 : decode cX3_copyFrom 48 = .ok (.aload_n 1, 1) := by decide +kernel
theorem dX3_copyFrom_49 : decode cX3_copyFrom 49 = .ok (.getfield 9, 3) := by decide +kernel
theorem dX3_copyFrom_52 : decode cX3_copyFrom 52 = .ok (.iconst 0, 1) := by decide +kernel
theorem dX3_copyFrom_53 : decode cX3_copyFrom 53 = .ok (.aload_n 0, 1) := by decide +kernel
theorem dX3_copyFrom_54 : decode cX3_copyFrom 54 = .ok (.getfield 9, 3) := by decide +kernel
theorem dX3_copyFrom_57 : decode cX3_copyFrom 57 = .ok (.iconst 0, 1) := by decide +kernel
theorem dX3_copyFrom_58 : decode cX3_copyFrom 58 = .ok (.iconst 4, 1) := by decide +kernel
theorem dX3_copyFrom_59 : decode cX3_copyFrom 59 = .ok (.invokestatic 58, 3) := by decide +kernel
theorem dX3_copyFrom_62 : decode cX3_copyFrom 62 = .ok (.aload_n 1, 1) := by decide +kernel
theorem dX3_copyFrom_63 : decode cX3_copyFrom 63 = .ok (.getfield 15, 3) := by decide +kernel
theorem dX3_copyFrom_66 : decode cX3_copyFrom 66 = .ok (.iconst 0, 1) := by decide +kernel
theorem dX3_copyFrom_67 : decode cX3_copyFrom 67 = .ok (.aload_n 0, 1) := by decide +kernel
theorem dX3_copyFrom_68 : decode cX3_copyFrom 68 = .ok (.getfield 15, 3) := by decide +kernel
theorem dX3_copyFrom_71 : decode cX3_copyFrom 71 = .ok (.iconst 0, 1) := by decide +kernel
theorem dX3_copyFrom_72 : decode cX3_copyFrom 72 = .ok (.iconst 4, 1) := by decide +kernel
theorem dX3_copyFrom_73 : decode cX3_copyFrom 73 = .ok (.invokestatic 58, 3) := by decide +kernel
theorem dX3_copyFrom_76 : decode cX3_copyFrom 76 = .ok (.aload_n 1, 1) := by decide +kernel
theorem dX3_copyFrom_77 : decode cX3_copyFrom 77 = .ok (.getfield 18, 3) := by decide +kernel
theorem dX3_copyFrom_80 : decode cX3_copyFrom 80 = .ok (.iconst 0, 1) := by decide +kernel
theorem dX3_copyFrom_81 : decode cX3_copyFrom 81 = .ok (.aload_n 0, 1) := by decide +kernel
theorem dX3_copyFrom_82 : decode cX3_copyFrom 82 = .ok (.getfield 18, 3) := by decide +kernel
theorem dX3_copyFrom_85 : decode cX3_copyFrom 85 = .ok (.iconst 0, 1) := by decide +kernel
theorem dX3_copyFrom_86 : decode cX3_copyFrom 86 = .ok (.iconst 4, 1) := by decide +kernel
theorem dX3_copyFrom_87 : decode cX3_copyFrom 87 = .ok (.invokestatic 58, 3) := by decide +kernel
theorem dX3_copyFrom_90 : decode cX3_copyFrom 90 = .ok (.aload_n 1, 1) := by decide +kernel
theorem dX3_copyFrom_91 : decode cX3_copyFrom 91 = .ok (.getfield 21, 3) := by decide +kernel
theorem dX3_copyFrom_94 : decode cX3_copyFrom 94 = .ok (.iconst 0, 1) := by decide +kernel
theorem dX3_copyFrom_95 : decode cX3_copyFrom 95 = .ok (.aload_n 0, 1) := by decide +kernel
theorem dX3_copyFrom_96 : decode cX3_copyFrom 96 = .ok (.getfield 21, 3) := by decide +kernel
theorem dX3_copyFrom_99 : decode cX3_copyFrom 99 = .ok (.iconst 0, 1) := by decide +kernel
theorem dX3_copyFrom_100 : decode cX3_copyFrom 100 = .ok (.iconst 3, 1) := by decide +kernel
theorem dX3_copyFrom_101 : decode cX3_copyFrom 101 = .ok (.invokestatic 58, 3) := by decide +kernel
theorem dX3_copyFrom_104 : decode cX3_copyFrom 104 = .ok (.aload_n 1, 1) := by decide +kernel
theorem dX3_copyFrom_105 : decode cX3_copyFrom 105 = .ok (.getfield 24, 3) := by decide +kernel
theorem dX3_copyFrom_108 : decode cX3_copyFrom 108 = .ok (.iconst 0, 1) := by decide +kernel
theorem dX3_copyFrom_109 : decode cX3_copyFrom 109 = .ok (.aload_n 0, 1) := by decide +kernel
theorem dX3_copyFrom_110 : decode cX3_copyFrom 110 = .ok (.getfield 24, 3) := by decide +kernel
theorem dX3_copyFrom_113 : decode cX3_copyFrom 113 = .ok (.iconst 0, 1) := by decide +kernel
theorem dX3_copyFrom_114 : decode cX3_copyFrom 114 = .ok (.iconst 3, 1) := by decide +kernel
theorem dX3_copyFrom_115 : decode cX3_copyFrom 115 = .ok (.invokestatic 58, 3) := by decide +kernel
theorem dX3_copyFrom_118 : decode cX3_copyFrom 118 = .ok (.aload_n 1, 1) := by decide +kernel
theorem dX3_copyFrom_119 : decode cX3_copyFrom 119 = .ok (.getfield 27, 3) := by decide +kernel
theorem dX3_copyFrom_122 : decode cX3_copyFrom 122 = .ok (.iconst 0, 1) := by decide +kernel
theorem dX3_copyFrom_123 : decode cX3_copyFrom 123 = .ok (.aload_n 0, 1) := by decide +kernel
theorem dX3_copyFrom_124 : decode cX3_copyFrom 124 = .ok (.getfield 27, 3) := by decide +kernel
theorem dX3_copyFrom_127 : decode cX3_copyFrom 127 = .ok (.iconst 0, 1) := by decide +kernel
theorem dX3_copyFrom_128 : decode cX3_copyFrom 128 = .ok (.iconst 3, 1) := by decide +kernel
theorem dX3_copyFrom_129 : decode cX3_copyFrom 129 = .ok (.invokestatic 58, 3) := by decide +kernel
theorem dX3_copyFrom_132 : decode cX3_copyFrom 132 = .ok (.return_, 1) := by decide +kernel
theorem dX3_hasSeat_0 : decode cX3_hasSeat 0 = .ok (.iload_n 1, 1) := by decide +kernel
theorem dX3_hasSeat_1 : decode cX3_hasSeat 1 = .ok (.ifCond .lt 15, 3) := by decide +kernel
theorem dX3_hasSeat_4 : decode cX3_hasSeat 4 = .ok (.iload_n 1, 1) := by decide +kernel
theorem dX3_hasSeat_5 : decode cX3_hasSeat 5 = .ok (.aload_n 0, 1) := by decide +kernel
theorem dX3_hasSeat_6 : decode cX3_hasSeat 6 = .ok (.getfield 46, 3) := by decide +kernel
theorem dX3_hasSeat_9 : decode cX3_hasSeat 9 = .ok (.if_icmp .ge 7, 3) := by decide +kernel
theorem dX3_hasSeat_12 : decode cX3_hasSeat 12 = .ok (.iconst 1, 1) := by decide +kernel
theorem dX3_hasSeat_13 : decode cX3_hasSeat 13 = .ok (.goto 4, 3) := by decide +kernel
theorem dX3_hasSeat_16 : decode cX3_hasSeat 16 = .ok (.iconst 0, 1) := by decide +kernel
theorem dX3_hasSeat_17 : decode cX3_hasSeat 17 = .ok (.ireturn, 1) := by decide +kernel
theorem dX3_hasCurtain_0 : decode cX3_hasCurtain 0 = .ok (.iload_n 1, 1) := by decide +kernel
theorem dX3_hasCurtain_1 : decode cX3_hasCurtain 1 = .ok (.ifCond .lt 15, 3) := by decide +kernel
theorem dX3_hasCurtain_4 : decode cX3_hasCurtain 4 = .ok (.iload_n 1, 1) := by decide +kernel
theorem dX3_hasCurtain_5 : decode cX3_hasCurtain 5 = .ok (.aload_n 0, 1) := by decide +kernel
theorem dX3_hasCurtain_6 : decode cX3_hasCurtain 6 = .ok (.getfield 49, 3) := by decide +kernel
theorem dX3_hasCurtain_9 : decode cX3_hasCurtain 9 = .ok (.if_icmp .ge 7, 3) := by decide +kernel
theorem dX3_hasCurtain_12 : decode cX3_hasCurtain 12 = .ok (.iconst 1, 1) := by decide +kernel
theorem dX3_hasCurtain_13 : decode cX3_hasCurtain 13 = .ok (.goto 4, 3) := by decide +kernel
theorem dX3_hasCurtain_16 : decode cX3_hasCurtain 16 = .ok (.iconst 0, 1) := by decide +kernel
theorem dX3_hasCurtain_17 : decode cX3_hasCurtain 17 = .ok (.ireturn, 1) := by decide +kernel
theorem dX3_sourceCode_0 : decode cX3_sourceCode 0 = .ok (.bipush 100, 2) := by decide +kernel
theorem dX3_sourceCode_2 : decode cX3_sourceCode 2 = .ok (.aload_n 0, 1) := by decide +kernel
theorem dX3_sourceCode_3 : decode cX3_sourceCode 3 = .ok (.getfield 40, 3) := by decide +kernel
theorem dX3_sourceCode_6 : decode cX3_sourceCode 6 = .ok (.imul, 1) := by decide +kernel
theorem dX3_sourceCode_7 : decode cX3_sourceCode 7 = .ok (.aload_n 0, 1) := by decide +kernel
theorem dX3_sourceCode_8 : decode cX3_sourceCode 8 = .ok (.getfield 43, 3) := by decide +kernel
theorem dX3_sourceCode_11 : decode cX3_sourceCode 11 = .ok (.iadd, 1) := by decide +kernel
theorem dX3_sourceCode_12 : decode cX3_sourceCode 12 = .ok (.ireturn, 1) := by decide +kernel
set_option maxRecDepth 20000 in
theorem ggX3_imageX_X5_mirrored : GoodIn wsX3_imageX wsX5_mirrored := goodIn_r _ [5] (by decide +kernel) (by decide +kernel)
set_option maxRecDepth 20000 in
theorem gX3_imageX_X5_mirrored_n64 : GoodIn wsX3_imageX (wsX5_mirrored) := ggX3_imageX_X5_mirrored
theorem dX3_imageX_0 : decode cX3_imageX 0 = .ok (.iload_n 1, 1) := by decide +kernel
theorem dX3_imageX_1 : decode cX3_imageX 1 = .ok (.aload_n 0, 1) := by decide +kernel
theorem dX3_imageX_2 : decode cX3_imageX 2 = .ok (.getfield 33, 3) := by decide +kernel
theorem dX3_imageX_5 : decode cX3_imageX 5 = .ok (.aload_n 0, 1) := by decide +kernel
theorem dX3_imageX_6 : decode cX3_imageX 6 = .ok (.getfield 40, 3) := by decide +kernel
theorem dX3_imageX_9 : decode cX3_imageX 9 = .ok (.invokestatic 64, 3) := by decide +kernel
theorem dX3_imageX_12 : decode cX3_imageX 12 = .ok (.ireturn, 1) := by decide +kernel
set_option maxRecDepth 20000 in
theorem ggX3_imageY_X5_mirrored : GoodIn wsX3_imageY wsX5_mirrored := goodIn_r _ [5] (by decide +kernel) (by decide +kernel)
set_option maxRecDepth 20000 in
theorem gX3_imageY_X5_mirrored_n64 : GoodIn wsX3_imageY (wsX5_mirrored) := ggX3_imageY_X5_mirrored
theorem dX3_imageY_0 : decode cX3_imageY 0 = .ok (.iload_n 1, 1) := by decide +kernel
theorem dX3_imageY_1 : decode cX3_imageY 1 = .ok (.aload_n 0, 1) := by decide +kernel
theorem dX3_imageY_2 : decode cX3_imageY 2 = .ok (.getfield 37, 3) := by decide +kernel
theorem dX3_imageY_5 : decode cX3_imageY 5 = .ok (.aload_n 0, 1) := by decide +kernel
theorem dX3_imageY_6 : decode cX3_imageY 6 = .ok (.getfield 43, 3) := by decide +kernel
theorem dX3_imageY_9 : decode cX3_imageY 9 = .ok (.invokestatic 64, 3) := by decide +kernel
theorem dX3_imageY_12 : decode cX3_imageY 12 = .ok (.ireturn, 1) := by decide +kernel
set_option maxRecDepth 20000 in
theorem ggX3_softPasses_X5_passes : GoodIn wsX3_softPasses wsX5_passes := goodIn_r _ [4, 5, 6, 3, 7] (by decide +kernel) (by decide +kernel)
set_option maxRecDepth 20000 in
theorem gX3_softPasses_X5_passes_n68 : GoodIn wsX3_softPasses (wsX5_passes) := ggX3_softPasses_X5_passes
theorem dX3_softPasses_0 : decode cX3_softPasses 0 = .ok (.iconst 0, 1) := by decide +kernel
theorem dX3_softPasses_1 : decode cX3_softPasses 1 = .ok (.istore_n 3, 1) := by decide +kernel
theorem dX3_softPasses_2 : decode cX3_softPasses 2 = .ok (.iconst 0, 1) := by decide +kernel
theorem dX3_softPasses_3 : decode cX3_softPasses 3 = .ok (.istore 4, 2) := by decide +kernel
theorem dX3_softPasses_5 : decode cX3_softPasses 5 = .ok (.iload 4, 2) := by decide +kernel
theorem dX3_softPasses_7 : decode cX3_softPasses 7 = .ok (.iconst 3, 1) := by decide +kernel
theorem dX3_softPasses_8 : decode cX3_softPasses 8 = .ok (.if_icmp .gt 29, 3) := by decide +kernel
theorem dX3_softPasses_11 : decode cX3_softPasses 11 = .ok (.aload_n 0, 1) := by decide +kernel
theorem dX3_softPasses_12 : decode cX3_softPasses 12 = .ok (.getfield 9, 3) := by decide +kernel
theorem dX3_softPasses_15 : decode cX3_softPasses 15 = .ok (.iload 4, 2) := by decide +kernel
theorem dX3_softPasses_17 : decode cX3_softPasses 17 = .ok (.iaload, 1) := by decide +kernel
theorem dX3_softPasses_18 : decode cX3_softPasses 18 = .ok (.ifCond .le 13, 3) := by decide +kernel
theorem dX3_softPasses_21 : decode cX3_softPasses 21 = .ok (.iload_n 3, 1) := by decide +kernel
theorem dX3_softPasses_22 : decode cX3_softPasses 22 = .ok (.iload 4, 2) := by decide +kernel
theorem dX3_softPasses_24 : decode cX3_softPasses 24 = .ok (.iload_n 1, 1) := by decide +kernel
theorem dX3_softPasses_25 : decode cX3_softPasses 25 = .ok (.iload_n 2, 1) := by decide +kernel
theorem dX3_softPasses_26 : decode cX3_softPasses 26 = .ok (.invokestatic 68, 3) := by decide +kernel
theorem dX3_softPasses_29 : decode cX3_softPasses 29 = .ok (.iadd, 1) := by decide +kernel
theorem dX3_softPasses_30 : decode cX3_softPasses 30 = .ok (.istore_n 3, 1) := by decide +kernel
theorem dX3_softPasses_31 : decode cX3_softPasses 31 = .ok (.iinc 4 1, 3) := by decide +kernel
theorem dX3_softPasses_34 : decode cX3_softPasses 34 = .ok (.goto (-29), 3) := by decide +kernel
theorem dX3_softPasses_37 : decode cX3_softPasses 37 = .ok (.iload_n 3, 1) := by decide +kernel
theorem dX3_softPasses_38 : decode cX3_softPasses 38 = .ok (.ireturn, 1) := by decide +kernel
set_option maxRecDepth 20000 in
theorem ggX3_waySquared_X3_imageX : GoodIn wsX3_waySquared wsX3_imageX := goodIn_r _ [5, 6, 7, 8, 9, 10, 19, 20, 21, 22, 23, 24, 25, 26, 27, 28, 29, 30] (by decide +kernel) (by decide +kernel)
set_option maxRecDepth 20000 in
theorem gX3_waySquared_X3_imageX : GoodIn wsX3_waySquared (wsV RX3 71 RX3 yX3_imageX wsX3_imageX) := goodIn_app (goodIn_of _ (by decide +kernel)) ggX3_waySquared_X3_imageX
set_option maxRecDepth 20000 in
theorem ggX3_waySquared_X3_imageY : GoodIn wsX3_waySquared wsX3_imageY := goodIn_r _ [14, 15, 16, 8, 9, 10, 19, 20, 21, 22, 23, 24, 25, 26, 27, 28, 29, 30] (by decide +kernel) (by decide +kernel)
set_option maxRecDepth 20000 in
theorem gX3_waySquared_X3_imageY : GoodIn wsX3_waySquared (wsV RX3 75 RX3 yX3_imageY wsX3_imageY) := goodIn_app (goodIn_of _ (by decide +kernel)) ggX3_waySquared_X3_imageY
set_option maxRecDepth 20000 in
theorem ggX3_waySquared_X5_squares : GoodIn wsX3_waySquared wsX5_squares := goodIn_r _ [18] (by decide +kernel) (by decide +kernel)
set_option maxRecDepth 20000 in
theorem gX3_waySquared_X5_squares_n78 : GoodIn wsX3_waySquared (wsX5_squares) := ggX3_waySquared_X5_squares
theorem dX3_waySquared_0 : decode cX3_waySquared 0 = .ok (.aload_n 0, 1) := by decide +kernel
theorem dX3_waySquared_1 : decode cX3_waySquared 1 = .ok (.iload_n 1, 1) := by decide +kernel
theorem dX3_waySquared_2 : decode cX3_waySquared 2 = .ok (.invokevirtual 71, 3) := by decide +kernel
theorem dX3_waySquared_5 : decode cX3_waySquared 5 = .ok (.iload_n 3, 1) := by decide +kernel
theorem dX3_waySquared_6 : decode cX3_waySquared 6 = .ok (.isub, 1) := by decide +kernel
theorem dX3_waySquared_7 : decode cX3_waySquared 7 = .ok (.aload_n 0, 1) := by decide +kernel
theorem dX3_waySquared_8 : decode cX3_waySquared 8 = .ok (.iload_n 2, 1) := by decide +kernel
theorem dX3_waySquared_9 : decode cX3_waySquared 9 = .ok (.invokevirtual 75, 3) := by decide +kernel
theorem dX3_waySquared_12 : decode cX3_waySquared 12 = .ok (.iload 4, 2) := by decide +kernel
theorem dX3_waySquared_14 : decode cX3_waySquared 14 = .ok (.isub, 1) := by decide +kernel
theorem dX3_waySquared_15 : decode cX3_waySquared 15 = .ok (.invokestatic 78, 3) := by decide +kernel
theorem dX3_waySquared_18 : decode cX3_waySquared 18 = .ok (.ireturn, 1) := by decide +kernel
set_option maxRecDepth 20000 in
theorem ggX3_isHidden_X3_imageX : GoodIn wsX3_isHidden wsX3_imageX := goodIn_r _ [18, 2, 19, 20, 21, 22, 39, 40, 41, 42, 43, 44, 45, 46, 47, 48, 49, 50] (by decide +kernel) (by decide +kernel)
set_option maxRecDepth 20000 in
theorem gX3_isHidden_X3_imageX : GoodIn wsX3_isHidden (wsV RX3 71 RX3 yX3_imageX wsX3_imageX) := goodIn_app (goodIn_of _ (by decide +kernel)) ggX3_isHidden_X3_imageX
set_option maxRecDepth 20000 in
theorem ggX3_isHidden_X3_imageY : GoodIn wsX3_isHidden wsX3_imageY := goodIn_r _ [26, 27, 28, 20, 21, 22, 39, 40, 41, 42, 43, 44, 45, 46, 47, 48, 49, 50] (by decide +kernel) (by decide +kernel)
set_option maxRecDepth 20000 in
theorem gX3_isHidden_X3_imageY : GoodIn wsX3_isHidden (wsV RX3 75 RX3 yX3_imageY wsX3_imageY) := goodIn_app (goodIn_of _ (by decide +kernel)) ggX3_isHidden_X3_imageY
set_option maxRecDepth 20000 in
theorem ggX3_isHidden_X5_mirrored : GoodIn wsX3_isHidden wsX5_mirrored := goodIn_r _ [22] (by decide +kernel) (by decide +kernel)
set_option maxRecDepth 20000 in
theorem gX3_isHidden_X5_mirrored_n64 : GoodIn wsX3_isHidden (wsX5_mirrored) := ggX3_isHidden_X5_mirrored
set_option maxRecDepth 20000 in
theorem ggX3_isHidden_X3_curtainMeets : GoodIn wsX3_isHidden wsX3_curtainMeets := goodIn_r _ [32, 27, 33, 34, 35, 36, 37, 38, 39, 40, 41, 42, 43, 44, 45, 46, 47, 48, 49, 50] (by decide +kernel) (by decide +kernel)
set_option maxRecDepth 20000 in
theorem gX3_isHidden_X3_curtainMeets : GoodIn wsX3_isHidden (wsV RX3 93 RX3 yX3_curtainMeets wsX3_curtainMeets) := goodIn_app (goodIn_of _ (by decide +kernel)) ggX3_isHidden_X3_curtainMeets
theorem dX3_isHidden_0 : decode cX3_isHidden 0 = .ok (.aload_n 0, 1) := by decide +kernel
theorem dX3_isHidden_1 : decode cX3_isHidden 1 = .ok (.iload_n 1, 1) := by decide +kernel
theorem dX3_isHidden_2 : decode cX3_isHidden 2 = .ok (.invokevirtual 71, 3) := by decide +kernel
theorem dX3_isHidden_5 : decode cX3_isHidden 5 = .ok (.istore 5, 2) := by decide +kernel
theorem dX3_isHidden_7 : decode cX3_isHidden 7 = .ok (.aload_n 0, 1) := by decide +kernel
theorem dX3_isHidden_8 : decode cX3_isHidden 8 = .ok (.iload_n 2, 1) := by decide +kernel
theorem dX3_isHidden_9 : decode cX3_isHidden 9 = .ok (.invokevirtual 75, 3) := by decide +kernel
theorem dX3_isHidden_12 : decode cX3_isHidden 12 = .ok (.istore 6, 2) := by decide +kernel
theorem dX3_isHidden_14 : decode cX3_isHidden 14 = .ok (.iconst 0, 1) := by decide +kernel
theorem dX3_isHidden_15 : decode cX3_isHidden 15 = .ok (.istore 7, 2) := by decide +kernel
theorem dX3_isHidden_17 : decode cX3_isHidden 17 = .ok (.iload 7, 2) := by decide +kernel
theorem dX3_isHidden_19 : decode cX3_isHidden 19 = .ok (.aload_n 0, 1) := by decide +kernel
theorem dX3_isHidden_20 : decode cX3_isHidden 20 = .ok (.getfield 49, 3) := by decide +kernel
theorem dX3_isHidden_23 : decode cX3_isHidden 23 = .ok (.if_icmp .ge 123, 3) := by decide +kernel
theorem dX3_isHidden_26 : decode cX3_isHidden 26 = .ok (.bipush (-3), 2) := by decide +kernel
theorem dX3_isHidden_28 : decode cX3_isHidden 28 = .ok (.istore 8, 2) := by decide +kernel
theorem dX3_isHidden_30 : decode cX3_isHidden 30 = .ok (.iload 8, 2) := by decide +kernel
theorem dX3_isHidden_32 : decode cX3_isHidden 32 = .ok (.iconst 3, 1) := by decide +kernel
theorem dX3_isHidden_33 : decode cX3_isHidden 33 = .ok (.if_icmp .gt 107, 3) := by decide +kernel
theorem dX3_isHidden_36 : decode cX3_isHidden 36 = .ok (.iload 8, 2) := by decide +kernel
theorem dX3_isHidden_38 : decode cX3_isHidden 38 = .ok (.aload_n 0, 1) := by decide +kernel
theorem dX3_isHidden_39 : decode cX3_isHidden 39 = .ok (.getfield 33, 3) := by decide +kernel
theorem dX3_isHidden_42 : decode cX3_isHidden 42 = .ok (.aload_n 0, 1) := by decide +kernel
theorem dX3_isHidden_43 : decode cX3_isHidden 43 = .ok (.getfield 21, 3) := by decide +kernel
theorem dX3_isHidden_46 : decode cX3_isHidden 46 = .ok (.iload 7, 2) := by decide +kernel
theorem dX3_isHidden_48 : decode cX3_isHidden 48 = .ok (.iaload, 1) := by decide +kernel
theorem dX3_isHidden_49 : decode cX3_isHidden 49 = .ok (.invokestatic 64, 3) := by decide +kernel
theorem dX3_isHidden_52 : decode cX3_isHidden 52 = .ok (.istore 9, 2) := by decide +kernel
theorem dX3_isHidden_54 : decode cX3_isHidden 54 = .ok (.iload 9, 2) := by decide +kernel
theorem dX3_isHidden_56 : decode cX3_isHidden 56 = .ok (.iload 5, 2) := by decide +kernel
theorem dX3_isHidden_58 : decode cX3_isHidden 58 = .ok (.isub, 1) := by decide +kernel
theorem dX3_isHidden_59 : decode cX3_isHidden 59 = .ok (.invokestatic 82, 3) := by decide +kernel
theorem dX3_isHidden_62 : decode cX3_isHidden 62 = .ok (.istore 10, 2) := by decide +kernel
theorem dX3_isHidden_64 : decode cX3_isHidden 64 = .ok (.iload_n 3, 1) := by decide +kernel
theorem dX3_isHidden_65 : decode cX3_isHidden 65 = .ok (.iload 5, 2) := by decide +kernel
theorem dX3_isHidden_67 : decode cX3_isHidden 67 = .ok (.isub, 1) := by decide +kernel
theorem dX3_isHidden_68 : decode cX3_isHidden 68 = .ok (.invokestatic 82, 3) := by decide +kernel
theorem dX3_isHidden_71 : decode cX3_isHidden 71 = .ok (.istore 11, 2) := by decide +kernel
theorem dX3_isHidden_73 : decode cX3_isHidden 73 = .ok (.iload 9, 2) := by decide +kernel
theorem dX3_isHidden_75 : decode cX3_isHidden 75 = .ok (.iload 5, 2) := by decide +kernel
theorem dX3_isHidden_77 : decode cX3_isHidden 77 = .ok (.iload_n 3, 1) := by decide +kernel
theorem dX3_isHidden_78 : decode cX3_isHidden 78 = .ok (.invokestatic 87, 3) := by decide +kernel
theorem dX3_isHidden_81 : decode cX3_isHidden 81 = .ok (.if_icmp .le 18, 3) := by decide +kernel
theorem dX3_isHidden_84 : decode cX3_isHidden 84 = .ok (.iload 9, 2) := by decide +kernel
theorem dX3_isHidden_86 : decode cX3_isHidden 86 = .ok (.iload 5, 2) := by decide +kernel
theorem dX3_isHidden_88 : decode cX3_isHidden 88 = .ok (.iload_n 3, 1) := by decide +kernel
theorem dX3_isHidden_89 : decode cX3_isHidden 89 = .ok (.invokestatic 90, 3) := by decide +kernel
theorem dX3_isHidden_92 : decode cX3_isHidden 92 = .ok (.if_icmp .ge 7, 3) := by decide +kernel
theorem dX3_isHidden_95 : decode cX3_isHidden 95 = .ok (.iconst 1, 1) := by decide +kernel
theorem dX3_isHidden_96 : decode cX3_isHidden 96 = .ok (.goto 4, 3) := by decide +kernel
theorem dX3_isHidden_99 : decode cX3_isHidden 99 = .ok (.iconst 0, 1) := by decide +kernel
theorem dX3_isHidden_100 : decode cX3_isHidden 100 = .ok (.istore 12, 2) := by decide +kernel
theorem dX3_isHidden_102 : decode cX3_isHidden 102 = .ok (.iload 12, 2) := by decide +kernel
theorem dX3_isHidden_104 : decode cX3_isHidden 104 = .ok (.ifCond .eq 30, 3) := by decide +kernel
theorem dX3_isHidden_107 : decode cX3_isHidden 107 = .ok (.aload_n 0, 1) := by decide +kernel
theorem dX3_isHidden_108 : decode cX3_isHidden 108 = .ok (.iload 7, 2) := by decide +kernel
theorem dX3_isHidden_110 : decode cX3_isHidden 110 = .ok (.iload 6, 2) := by decide +kernel
theorem dX3_isHidden_112 : decode cX3_isHidden 112 = .ok (.iload 11, 2) := by decide +kernel
theorem dX3_isHidden_114 : decode cX3_isHidden 114 = .ok (.imul, 1) := by decide +kernel
theorem dX3_isHidden_115 : decode cX3_isHidden 115 = .ok (.iload 4, 2) := by decide +kernel
theorem dX3_isHidden_117 : decode cX3_isHidden 117 = .ok (.iload 6, 2) := by decide +kernel
theorem dX3_isHidden_119 : decode cX3_isHidden 119 = .ok (.isub, 1) := by decide +kernel
theorem dX3_isHidden_120 : decode cX3_isHidden 120 = .ok (.iload 10, 2) := by decide +kernel
theorem dX3_isHidden_122 : decode cX3_isHidden 122 = .ok (.imul, 1) := by decide +kernel
theorem dX3_isHidden_123 : decode cX3_isHidden 123 = .ok (.iadd, 1) := by decide +kernel
theorem dX3_isHidden_124 : decode cX3_isHidden 124 = .ok (.iload 11, 2) := by decide +kernel
theorem dX3_isHidden_126 : decode cX3_isHidden 126 = .ok (.invokevirtual 93, 3) := by decide +kernel
theorem dX3_isHidden_129 : decode cX3_isHidden 129 = .ok (.ifCond .eq 5, 3) := by decide +kernel
theorem dX3_isHidden_132 : decode cX3_isHidden 132 = .ok (.iconst 1, 1) := by decide +kernel
theorem dX3_isHidden_133 : decode cX3_isHidden 133 = .ok (.ireturn, 1) := by decide +kernel
theorem dX3_isHidden_134 : decode cX3_isHidden 134 = .ok (.iinc 8 1, 3) := by decide +kernel
theorem dX3_isHidden_137 : decode cX3_isHidden 137 = .ok (.goto (-107), 3) := by decide +kernel
theorem dX3_isHidden_140 : decode cX3_isHidden 140 = .ok (.iinc 7 1, 3) := by decide +kernel
theorem dX3_isHidden_143 : decode cX3_isHidden 143 = .ok (.goto (-126), 3) := by decide +kernel
theorem dX3_isHidden_146 : decode cX3_isHidden 146 = .ok (.iconst 0, 1) := by decide +kernel
theorem dX3_isHidden_147 : decode cX3_isHidden 147 = .ok (.ireturn, 1) := by decide +kernel
set_option maxRecDepth 20000 in
theorem ggX3_curtainMeets_J9_floorDiv_7cf53 : GoodIn wsX3_curtainMeets wsJ9_floorDiv_7cf53 := goodIn_r _ [7] (by decide +kernel) (by decide +kernel)
end
section
set_option maxRecDepth 20000 in
theorem gX3_curtainMeets_J9_floorDiv_7cf53 : GoodIn wsX3_curtainMeets (va_wsS RX3 97 yJ9_floorDiv_7cf53 wsJ9_floorDiv_7cf53) := goodIn_app (goodIn_of _ (by decide +kernel)) ggX3_curtainMeets_J9_floorDiv_7cf53
theorem dX3_curtainMeets_0 : decode cX3_curtainMeets 0 = .ok (.aload_n 0, 1) := by decide +kernel
theorem dX3_curtainMeets_1 : decode cX3_curtainMeets 1 = .ok (.getfield 37, 3) := by decide +kernel
theorem dX3_curtainMeets_4 : decode cX3_curtainMeets 4 = .ok (.iload_n 3, 1) := by decide +kernel
theorem dX3_curtainMeets_5 : decode cX3_curtainMeets 5 = .ok (.imul, 1) := by decide +kernel
theorem dX3_curtainMeets_6 : decode cX3_curtainMeets 6 = .ok (.istore 4, 2) := by decide +kernel
theorem dX3_curtainMeets_8 : decode cX3_curtainMeets 8 = .ok (.iload 4, 2) := by decide +kernel
theorem dX3_curtainMeets_10 : decode cX3_curtainMeets 10 = .ok (.ifCond .gt 5, 3) := by decide +kernel
theorem dX3_curtainMeets_13 : decode cX3_curtainMeets 13 = .ok (.iconst 0, 1) := by decide +kernel
theorem dX3_curtainMeets_14 : decode cX3_curtainMeets 14 = .ok (.ireturn, 1) := by decide +kernel
theorem dX3_curtainMeets_15 : decode cX3_curtainMeets 15 = .ok (.iload_n 2, 1) := by decide +kernel
theorem dX3_curtainMeets_16 : decode cX3_curtainMeets 16 = .ok (.iload 4, 2) := by decide +kernel
theorem dX3_curtainMeets_18 : decode cX3_curtainMeets 18 = .ok (.invokestatic 97, 3) := by decide +kernel
theorem dX3_curtainMeets_21 : decode cX3_curtainMeets 21 = .ok (.istore 5, 2) := by decide +kernel
theorem dX3_curtainMeets_23 : decode cX3_curtainMeets 23 = .ok (.iload_n 2, 1) := by decide +kernel
theorem dX3_curtainMeets_24 : decode cX3_curtainMeets 24 = .ok (.iload 5, 2) := by decide +kernel
theorem dX3_curtainMeets_26 : decode cX3_curtainMeets 26 = .ok (.iload 4, 2) := by decide +kernel
theorem dX3_curtainMeets_28 : decode cX3_curtainMeets 28 = .ok (.imul, 1) := by decide +kernel
theorem dX3_curtainMeets_29 : decode cX3_curtainMeets 29 = .ok (.isub, 1) := by decide +kernel
theorem dX3_curtainMeets_30 : decode cX3_curtainMeets 30 = .ok (.istore 6, 2) := by decide +kernel
theorem dX3_curtainMeets_32 : decode cX3_curtainMeets 32 = .ok (.iload 5, 2) := by decide +kernel
theorem dX3_curtainMeets_34 : decode cX3_curtainMeets 34 = .ok (.iconst 1, 1) := by decide +kernel
theorem dX3_curtainMeets_35 : decode cX3_curtainMeets 35 = .ok (.iand, 1) := by decide +kernel
theorem dX3_curtainMeets_36 : decode cX3_curtainMeets 36 = .ok (.ifCond .ne 8, 3) := by decide +kernel
theorem dX3_curtainMeets_39 : decode cX3_curtainMeets 39 = .ok (.iload 6, 2) := by decide +kernel
theorem dX3_curtainMeets_41 : decode cX3_curtainMeets 41 = .ok (.goto 8, 3) := by decide +kernel
theorem dX3_curtainMeets_44 : decode cX3_curtainMeets 44 = .ok (.iload 4, 2) := by decide +kernel
theorem dX3_curtainMeets_46 : decode cX3_curtainMeets 46 = .ok (.iload 6, 2) := by decide +kernel
theorem dX3_curtainMeets_48 : decode cX3_curtainMeets 48 = .ok (.isub, 1) := by decide +kernel
theorem dX3_curtainMeets_49 : decode cX3_curtainMeets 49 = .ok (.istore 7, 2) := by decide +kernel
theorem dX3_curtainMeets_51 : decode cX3_curtainMeets 51 = .ok (.iload 7, 2) := by decide +kernel
theorem dX3_curtainMeets_53 : decode cX3_curtainMeets 53 = .ok (.aload_n 0, 1) := by decide +kernel
theorem dX3_curtainMeets_54 : decode cX3_curtainMeets 54 = .ok (.getfield 24, 3) := by decide +kernel
theorem dX3_curtainMeets_57 : decode cX3_curtainMeets 57 = .ok (.iload_n 1, 1) := by decide +kernel
theorem dX3_curtainMeets_58 : decode cX3_curtainMeets 58 = .ok (.iaload, 1) := by decide +kernel
theorem dX3_curtainMeets_59 : decode cX3_curtainMeets 59 = .ok (.iload_n 3, 1) := by decide +kernel
theorem dX3_curtainMeets_60 : decode cX3_curtainMeets 60 = .ok (.imul, 1) := by decide +kernel
theorem dX3_curtainMeets_61 : decode cX3_curtainMeets 61 = .ok (.if_icmp .lt 20, 3) := by decide +kernel
theorem dX3_curtainMeets_64 : decode cX3_curtainMeets 64 = .ok (.iload 7, 2) := by decide +kernel
theorem dX3_curtainMeets_66 : decode cX3_curtainMeets 66 = .ok (.aload_n 0, 1) := by decide +kernel
theorem dX3_curtainMeets_67 : decode cX3_curtainMeets 67 = .ok (.getfield 27, 3) := by decide +kernel
theorem dX3_curtainMeets_70 : decode cX3_curtainMeets 70 = .ok (.iload_n 1, 1) := by decide +kernel
theorem dX3_curtainMeets_71 : decode cX3_curtainMeets 71 = .ok (.iaload, 1) := by decide +kernel
theorem dX3_curtainMeets_72 : decode cX3_curtainMeets 72 = .ok (.iload_n 3, 1) := by decide +kernel
theorem dX3_curtainMeets_73 : decode cX3_curtainMeets 73 = .ok (.imul, 1) := by decide +kernel
theorem dX3_curtainMeets_74 : decode cX3_curtainMeets 74 = .ok (.if_icmp .gt 7, 3) := by decide +kernel
theorem dX3_curtainMeets_77 : decode cX3_curtainMeets 77 = .ok (.iconst 1, 1) := by decide +kernel
theorem dX3_curtainMeets_78 : decode cX3_curtainMeets 78 = .ok (.goto 4, 3) := by decide +kernel
theorem dX3_curtainMeets_81 : decode cX3_curtainMeets 81 = .ok (.iconst 0, 1) := by decide +kernel
theorem dX3_curtainMeets_82 : decode cX3_curtainMeets 82 = .ok (.ireturn, 1) := by decide +kernel
theorem dX4_init_0 : decode cX4_init 0 = .ok (.aload_n 0, 1) := by decide +kernel
theorem dX4_init_1 : decode cX4_init 1 = .ok (.invokespecial 3, 3) := by decide +kernel
theorem dX4_init_4 : decode cX4_init 4 = .ok (.aload_n 0, 1) := by decide +kernel
theorem dX4_init_5 : decode cX4_init 5 = .ok (.bipush 100, 2) := by decide +kernel
theorem dX4_init_7 : decode cX4_init 7 = .ok (.newarray .int, 2) := by decide +kernel
theorem dX4_init_9 : decode cX4_init 9 = .ok (.putfield 9, 3) := by decide +kernel
theorem dX4_init_12 : decode cX4_init 12 = .ok (.return_, 1) := by decide +kernel
theorem dX4_append_0 : decode cX4_append 0 = .ok (.aload_n 0, 1) := by decide +kernel
theorem dX4_append_1 : decode cX4_append 1 = .ok (.getfield 15, 3) := by decide +kernel
theorem dX4_append_4 : decode cX4_append 4 = .ok (.bipush 100, 2) := by decide +kernel
theorem dX4_append_6 : decode cX4_append 6 = .ok (.if_icmp .lt 5, 3) := by decide +kernel
theorem dX4_append_9 : decode cX4_append 9 = .ok (.iconst 0, 1) := by decide +kernel
theorem dX4_append_10 : decode cX4_append 10 = .ok (.ireturn, 1) := by decide +kernel
theorem dX4_append_11 : decode cX4_append 11 = .ok (.aload_n 0, 1) := by decide +kernel
theorem dX4_append_12 : decode cX4_append 12 = .ok (.getfield 9, 3) := by decide +kernel
theorem dX4_append_15 : decode cX4_append 15 = .ok (.aload_n 0, 1) := by decide +kernel
theorem dX4_append_16 : decode cX4_append 16 = .ok (.getfield 15, 3) := by decide +kernel
theorem dX4_append_19 : decode cX4_append 19 = .ok (.iload_n 1, 1) := by decide +kernel
theorem dX4_append_20 : decode cX4_append 20 = .ok (.iastore, 1) := by decide +kernel
theorem dX4_append_21 : decode cX4_append 21 = .ok (.aload_n 0, 1) := by decide +kernel
theorem dX4_append_22 : decode cX4_append 22 = .ok (.dup, 1) := by decide +kernel
theorem dX4_append_23 : decode cX4_append 23 = .ok (.getfield 15, 3) := by decide +kernel
theorem dX4_append_26 : decode cX4_append 26 = .ok (.iconst 1, 1) := by decide +kernel
theorem dX4_append_27 : decode cX4_append 27 = .ok (.iadd, 1) := by decide +kernel
theorem dX4_append_28 : decode cX4_append 28 = .ok (.putfield 15, 3) := by decide +kernel
theorem dX4_append_31 : decode cX4_append 31 = .ok (.iconst 1, 1) := by decide +kernel
theorem dX4_append_32 : decode cX4_append 32 = .ok (.ireturn, 1) := by decide +kernel
set_option maxRecDepth 20000 in
theorem ggX4_readInto_X3_beAsAtFirst : GoodIn wsX4_readInto wsX3_beAsAtFirst := goodIn_r _ [8, 9, 10, 11, 12, 13, 14, 15, 16, 17, 18, 19, 92, 93, 94, 95, 96, 97, 98, 99, 100, 101, 102, 103] (by decide +kernel) (by decide +kernel)
set_option maxRecDepth 20000 in
theorem gX4_readInto_X3_beAsAtFirst : GoodIn wsX4_readInto (wsV RX4 19 RX3 yX3_beAsAtFirst wsX3_beAsAtFirst) := goodIn_app (goodIn_of _ (by decide +kernel)) ggX4_readInto_X3_beAsAtFirst
set_option maxRecDepth 20000 in
theorem ggX4_readInto_X4_nextToken : GoodIn wsX4_readInto wsX4_nextToken := goodIn_r _ [24, 1, 25, 26, 3, 2, 27, 28, 23, 29, 30, 31, 32, 33, 34, 35, 36, 37, 38, 86, 87, 88, 89, 90, 91] (by decide +kernel) (by decide +kernel)
set_option maxRecDepth 20000 in
theorem gX4_readInto_X4_nextToken : GoodIn wsX4_readInto (wsV RX4 27 RX4 yX4_nextToken wsX4_nextToken) := goodIn_app (goodIn_of _ (by decide +kernel)) ggX4_readInto_X4_nextToken
set_option maxRecDepth 20000 in
theorem ggX4_readInto_X4_readItem : GoodIn wsX4_readInto wsX4_readItem := goodIn_r _ [42, 2, 43, 44, 45, 46, 47, 23, 48, 34, 49, 50, 51, 52, 53, 54, 20, 21, 22, 24, 1, 25, 26, 3, 27, 28, 29, 30, 31, 32, 33, 35, 36, 37, 38, 55, 56, 57, 58, 59, 60, 61, 62, 63, 64, 65, 66, 67, 68, 69, 70, 71, 72, 73, 74, 75, 76, 77, 78, 79, 80, 81, 86, 87, 88, 89, 90, 91, 92, 93, 94, 95, 96, 97, 98, 99, 100, 101, 102, 103] (by decide +kernel) (by decide +kernel)
set_option maxRecDepth 20000 in
theorem gX4_readInto_X4_readItem : GoodIn wsX4_readInto (wsV RX4 33 RX4 yX4_readItem wsX4_readItem) := goodIn_app (goodIn_of _ (by decide +kernel)) ggX4_readInto_X4_readItem
set_option maxRecDepth 20000 in
theorem ggX4_readInto_X4_readEnd : GoodIn wsX4_readInto wsX4_readEnd := goodIn_r _ [85, 2, 20, 21, 22, 23, 24, 1, 25, 26, 3, 27, 28, 29, 30, 31, 32, 33, 34, 35, 36, 37, 38, 86, 87, 88, 89, 90, 91] (by decide +kernel) (by decide +kernel)
set_option maxRecDepth 20000 in
theorem gX4_readInto_X4_readEnd : GoodIn wsX4_readInto (wsV RX4 37 RX4 yX4_readEnd wsX4_readEnd) := goodIn_app (goodIn_of _ (by decide +kernel)) ggX4_readInto_X4_readEnd
theorem dX4_readInto_0 : decode cX4_readInto 0 = .ok (.aload_n 1, 1) := by decide +kernel
theorem dX4_readInto_1 : decode cX4_readInto 1 = .ok (.invokevirtual 19, 3) := by decide +kernel
theorem dX4_readInto_4 : decode cX4_readInto 4 = .ok (.aload_n 0, 1) := by decide +kernel
theorem dX4_readInto_5 : decode cX4_readInto 5 = .ok (.iconst 0, 1) := by decide +kernel
theorem dX4_readInto_6 : decode cX4_readInto 6 = .ok (.putfield 24, 3) := by decide +kernel
theorem dX4_readInto_9 : decode cX4_readInto 9 = .ok (.iconst 0, 1) := by decide +kernel
theorem dX4_readInto_10 : decode cX4_readInto 10 = .ok (.istore_n 2, 1) := by decide +kernel
theorem dX4_readInto_11 : decode cX4_readInto 11 = .ok (.iload_n 2, 1) := by decide +kernel
theorem dX4_readInto_12 : decode cX4_readInto 12 = .ok (.bipush 100, 2) := by decide +kernel
theorem dX4_readInto_14 : decode cX4_readInto 14 = .ok (.if_icmp .gt 47, 3) := by decide +kernel
theorem dX4_readInto_17 : decode cX4_readInto 17 = .ok (.aload_n 0, 1) := by decide +kernel
theorem dX4_readInto_18 : decode cX4_readInto 18 = .ok (.invokevirtual 27, 3) := by decide +kernel
theorem dX4_readInto_21 : decode cX4_readInto 21 = .ok (.aload_n 0, 1) := by decide +kernel
theorem dX4_readInto_22 : decode cX4_readInto 22 = .ok (.getfield 30, 3) := by decide +kernel
theorem dX4_readInto_25 : decode cX4_readInto 25 = .ok (.iconst (-1), 1) := by decide +kernel
theorem dX4_readInto_26 : decode cX4_readInto 26 = .ok (.if_icmp .ne 5, 3) := by decide +kernel
theorem dX4_readInto_29 : decode cX4_readInto 29 = .ok (.iload_n 2, 1) := by decide +kernel
theorem dX4_readInto_30 : decode cX4_readInto 30 = .ok (.ireturn, 1) := by decide +kernel
theorem dX4_readInto_31 : decode cX4_readInto 31 = .ok (.aload_n 0, 1) := by decide +kernel
theorem dX4_readInto_32 : decode cX4_readInto 32 = .ok (.aload_n 1, 1) := by decide +kernel
theorem dX4_readInto_33 : decode cX4_readInto 33 = .ok (.iload_n 2, 1) := by decide +kernel
theorem dX4_readInto_34 : decode cX4_readInto 34 = .ok (.invokevirtual 33, 3) := by decide +kernel
theorem dX4_readInto_37 : decode cX4_readInto 37 = .ok (.ifCond .eq 10, 3) := by decide +kernel
theorem dX4_readInto_40 : decode cX4_readInto 40 = .ok (.aload_n 0, 1) := by decide +kernel
theorem dX4_readInto_41 : decode cX4_readInto 41 = .ok (.invokevirtual 37, 3) := by decide +kernel
theorem dX4_readInto_44 : decode cX4_readInto 44 = .ok (.ifCond .ne 11, 3) := by decide +kernel
theorem dX4_readInto_47 : decode cX4_readInto 47 = .ok (.bipush (-10), 2) := by decide +kernel
theorem dX4_readInto_49 : decode cX4_readInto 49 = .ok (.aload_n 0, 1) := by decide +kernel
theorem dX4_readInto_50 : decode cX4_readInto 50 = .ok (.getfield 41, 3) := by decide +kernel
theorem dX4_readInto_53 : decode cX4_readInto 53 = .ok (.isub, 1) := by decide +kernel
theorem dX4_readInto_54 : decode cX4_readInto 54 = .ok (.ireturn, 1) := by decide +kernel
theorem dX4_readInto_55 : decode cX4_readInto 55 = .ok (.iinc 2 1, 3) := by decide +kernel
theorem dX4_readInto_58 : decode cX4_readInto 58 = .ok (.goto (-47), 3) := by decide +kernel
theorem dX4_readInto_61 : decode cX4_readInto 61 = .ok (.iload_n 2, 1) := by decide +kernel
theorem dX4_readInto_62 : decode cX4_readInto 62 = .ok (.ireturn, 1) := by decide +kernel
set_option maxRecDepth 20000 in
theorem ggX4_readItem_X4_readSides : GoodIn wsX4_readItem wsX4_readSides := goodIn_r _ [8, 9, 10, 11, 12, 13, 14, 7, 15, 1, 16, 17, 18, 19, 20, 21, 22, 23, 24, 25, 26, 27, 28, 29, 30, 31, 32, 33, 34, 35, 36, 37, 62, 63, 64, 65, 66, 67, 68, 69, 70, 71, 72, 73, 74, 75, 76, 77, 78, 79] (by decide +kernel) (by decide +kernel)
set_option maxRecDepth 20000 in
theorem gX4_readItem_X4_readSides : GoodIn wsX4_readItem (wsV RX4 44 RX4 yX4_readSides wsX4_readSides) := goodIn_app (goodIn_of _ (by decide +kernel)) ggX4_readItem_X4_readSides
set_option maxRecDepth 20000 in
theorem ggX4_readItem_X4_readSwallows : GoodIn wsX4_readItem wsX4_readSwallows := goodIn_r _ [41, 9, 42, 12, 13, 14, 7, 15, 1, 16, 17, 18, 19, 20, 21, 22, 23, 24, 25, 26, 27, 28, 29, 30, 31, 32, 33, 34, 35, 36, 37, 62, 63, 64, 65, 66, 67, 68, 69, 70, 71, 72, 73, 74, 75, 76, 77, 78, 79] (by decide +kernel) (by decide +kernel)
set_option maxRecDepth 20000 in
theorem gX4_readItem_X4_readSwallows : GoodIn wsX4_readItem (wsV RX4 48 RX4 yX4_readSwallows wsX4_readSwallows) := goodIn_app (goodIn_of _ (by decide +kernel)) ggX4_readItem_X4_readSwallows
set_option maxRecDepth 20000 in
theorem ggX4_readItem_X4_readSource : GoodIn wsX4_readItem wsX4_readSource := goodIn_r _ [46, 10, 9, 47, 11, 48, 12, 13, 14, 7, 15, 1, 16, 17, 18, 19, 20, 21, 22, 23, 24, 25, 26, 27, 28, 29, 30, 31, 32, 33, 34, 35, 36, 37, 68, 69, 70, 71, 72, 73, 74, 75, 76, 77, 78, 79, 62, 63, 64, 65, 66, 67] (by decide +kernel) (by decide +kernel)
set_option maxRecDepth 20000 in
theorem gX4_readItem_X4_readSource : GoodIn wsX4_readItem (wsV RX4 51 RX4 yX4_readSource wsX4_readSource) := goodIn_app (goodIn_of _ (by decide +kernel)) ggX4_readItem_X4_readSource
set_option maxRecDepth 20000 in
theorem ggX4_readItem_X4_readSeat : GoodIn wsX4_readItem wsX4_readSeat := goodIn_r _ [52, 10, 53, 2, 9, 11, 54, 12, 13, 14, 7, 15, 1, 16, 17, 18, 19, 20, 21, 22, 23, 24, 25, 26, 27, 28, 29, 30, 31, 32, 33, 34, 35, 36, 37, 68, 69, 70, 71, 72, 73, 74, 75, 76, 77, 78, 79, 62, 63, 64, 65, 66, 67] (by decide +kernel) (by decide +kernel)
set_option maxRecDepth 20000 in
theorem gX4_readItem_X4_readSeat : GoodIn wsX4_readItem (wsV RX4 57 RX4 yX4_readSeat wsX4_readSeat) := goodIn_app (goodIn_of _ (by decide +kernel)) ggX4_readItem_X4_readSeat
set_option maxRecDepth 20000 in
theorem ggX4_readItem_X4_readCurtain : GoodIn wsX4_readItem wsX4_readCurtain := goodIn_r _ [58, 3, 10, 59, 9, 11, 60, 61, 12, 13, 14, 7, 15, 1, 16, 17, 18, 19, 20, 21, 22, 23, 24, 25, 26, 27, 28, 29, 30, 31, 32, 33, 34, 35, 36, 37, 68, 69, 70, 71, 72, 73, 74, 75, 76, 77, 78, 79, 62, 63, 64, 65, 66, 67] (by decide +kernel) (by decide +kernel)
set_option maxRecDepth 20000 in
theorem gX4_readItem_X4_readCurtain : GoodIn wsX4_readItem (wsV RX4 63 RX4 yX4_readCurtain wsX4_readCurtain) := goodIn_app (goodIn_of _ (by decide +kernel)) ggX4_readItem_X4_readCurtain
theorem dX4_readItem_0 : decode cX4_readItem 0 = .ok (.aload_n 0, 1) := by decide +kernel
theorem dX4_readItem_1 : decode cX4_readItem 1 = .ok (.getfield 30, 3) := by decide +kernel
theorem dX4_readItem_4 : decode cX4_readItem 4 = .ok (.lookupswitch 126 #[(99, 104), (113, 76), (114, 52), (115, 82), (119, 70)], 52) := by decide +kernel
theorem dX4_readItem_56 : decode cX4_readItem 56 = .ok (.iload_n 2, 1) := by decide +kernel
theorem dX4_readItem_57 : decode cX4_readItem 57 = .ok (.ifCond .ne 15, 3) := by decide +kernel
theorem dX4_readItem_60 : decode cX4_readItem 60 = .ok (.aload_n 0, 1) := by decide +kernel
theorem dX4_readItem_61 : decode cX4_readItem 61 = .ok (.aload_n 1, 1) := by decide +kernel
theorem dX4_readItem_62 : decode cX4_readItem 62 = .ok (.invokevirtual 44, 3) := by decide +kernel
theorem dX4_readItem_65 : decode cX4_readItem 65 = .ok (.ifCond .eq 7, 3) := by decide +kernel
theorem dX4_readItem_68 : decode cX4_readItem 68 = .ok (.iconst 1, 1) := by decide +kernel
theorem dX4_readItem_69 : decode cX4_readItem 69 = .ok (.goto 4, 3) := by decide +kernel
theorem dX4_readItem_72 : decode cX4_readItem 72 = .ok (.iconst 0, 1) := by decide +kernel
theorem dX4_readItem_73 : decode cX4_readItem 73 = .ok (.ireturn, 1) := by decide +kernel
theorem dX4_readItem_74 : decode cX4_readItem 74 = .ok (.aload_n 0, 1) := by decide +kernel
theorem dX4_readItem_75 : decode cX4_readItem 75 = .ok (.aload_n 1, 1) := by decide +kernel
theorem dX4_readItem_76 : decode cX4_readItem 76 = .ok (.invokevirtual 48, 3) := by decide +kernel
theorem dX4_readItem_79 : decode cX4_readItem 79 = .ok (.ireturn, 1) := by decide +kernel
theorem dX4_readItem_80 : decode cX4_readItem 80 = .ok (.aload_n 0, 1) := by decide +kernel
theorem dX4_readItem_81 : decode cX4_readItem 81 = .ok (.aload_n 1, 1) := by decide +kernel
theorem dX4_readItem_82 : decode cX4_readItem 82 = .ok (.invokevirtual 51, 3) := by decide +kernel
theorem dX4_readItem_85 : decode cX4_readItem 85 = .ok (.ireturn, 1) := by decide +kernel
theorem dX4_readItem_86 : decode cX4_readItem 86 = .ok (.aload_n 1, 1) := by decide +kernel
theorem dX4_readItem_87 : decode cX4_readItem 87 = .ok (.getfield 54, 3) := by decide +kernel
theorem dX4_readItem_90 : decode cX4_readItem 90 = .ok (.iconst 4, 1) := by decide +kernel
theorem dX4_readItem_91 : decode cX4_readItem 91 = .ok (.if_icmp .ge 15, 3) := by decide +kernel
theorem dX4_readItem_94 : decode cX4_readItem 94 = .ok (.aload_n 0, 1) := by decide +kernel
theorem dX4_readItem_95 : decode cX4_readItem 95 = .ok (.aload_n 1, 1) := by decide +kernel
theorem dX4_readItem_96 : decode cX4_readItem 96 = .ok (.invokevirtual 57, 3) := by decide +kernel
theorem dX4_readItem_99 : decode cX4_readItem 99 = .ok (.ifCond .eq 7, 3) := by decide +kernel
theorem dX4_readItem_102 : decode cX4_readItem 102 = .ok (.iconst 1, 1) := by decide +kernel
theorem dX4_readItem_103 : decode cX4_readItem 103 = .ok (.goto 4, 3) := by decide +kernel
theorem dX4_readItem_106 : decode cX4_readItem 106 = .ok (.iconst 0, 1) := by decide +kernel
theorem dX4_readItem_107 : decode cX4_readItem 107 = .ok (.ireturn, 1) := by decide +kernel
theorem dX4_readItem_108 : decode cX4_readItem 108 = .ok (.aload_n 1, 1) := by decide +kernel
theorem dX4_readItem_109 : decode cX4_readItem 109 = .ok (.getfield 60, 3) := by decide +kernel
theorem dX4_readItem_112 : decode cX4_readItem 112 = .ok (.iconst 3, 1) := by decide +kernel
theorem dX4_readItem_113 : decode cX4_readItem 113 = .ok (.if_icmp .ge 15, 3) := by decide +kernel
theorem dX4_readItem_116 : decode cX4_readItem 116 = .ok (.aload_n 0, 1) := by decide +kernel
theorem dX4_readItem_117 : decode cX4_readItem 117 = .ok (.aload_n 1, 1) := by decide +kernel
theorem dX4_readItem_118 : decode cX4_readItem 118 = .ok (.invokevirtual 63, 3) := by decide +kernel
theorem dX4_readItem_121 : decode cX4_readItem 121 = .ok (.ifCond .eq 7, 3) := by decide +kernel
theorem dX4_readItem_124 : decode cX4_readItem 124 = .ok (.iconst 1, 1) := by decide +kernel
theorem dX4_readItem_125 : decode cX4_readItem 125 = .ok (.goto 4, 3) := by decide +kernel
theorem dX4_readItem_128 : decode cX4_readItem 128 = .ok (.iconst 0, 1) := by decide +kernel
theorem dX4_readItem_129 : decode cX4_readItem 129 = .ok (.ireturn, 1) := by decide +kernel
theorem dX4_readItem_130 : decode cX4_readItem 130 = .ok (.iconst 0, 1) := by decide +kernel
theorem dX4_readItem_131 : decode cX4_readItem 131 = .ok (.ireturn, 1) := by decide +kernel
set_option maxRecDepth 20000 in
theorem ggX4_readSides_X4_readNumber : GoodIn wsX4_readSides wsX4_readNumber := goodIn_r _ [8, 9, 1, 10, 11, 12, 7, 13, 14, 15, 16, 17, 18, 19, 20, 21, 22, 23, 24, 25, 26, 27, 28, 29, 30, 31, 32, 33, 34, 35, 36, 37] (by decide +kernel) (by decide +kernel)
set_option maxRecDepth 20000 in
theorem gX4_readSides_X4_readNumber : GoodIn wsX4_readSides (wsV RX4 66 RX4 yX4_readNumber wsX4_readNumber) := goodIn_app (goodIn_of _ (by decide +kernel)) ggX4_readSides_X4_readNumber
theorem dX4_readSides_0 : decode cX4_readSides 0 = .ok (.aload_n 0, 1) := by decide +kernel
theorem dX4_readSides_1 : decode cX4_readSides 1 = .ok (.iconst 2, 1) := by decide +kernel
theorem dX4_readSides_2 : decode cX4_readSides 2 = .ok (.bipush 20, 2) := by decide +kernel
theorem dX4_readSides_4 : decode cX4_readSides 4 = .ok (.invokevirtual 66, 3) := by decide +kernel
theorem dX4_readSides_7 : decode cX4_readSides 7 = .ok (.ifCond .ne 5, 3) := by decide +kernel
theorem dX4_readSides_10 : decode cX4_readSides 10 = .ok (.iconst 0, 1) := by decide +kernel
theorem dX4_readSides_11 : decode cX4_readSides 11 = .ok (.ireturn, 1) := by decide +kernel
theorem dX4_readSides_12 : decode cX4_readSides 12 = .ok (.aload_n 1, 1) := by decide +kernel
theorem dX4_readSides_13 : decode cX4_readSides 13 = .ok (.aload_n 0, 1) := by decide +kernel
theorem dX4_readSides_14 : decode cX4_readSides 14 = .ok (.getfield 70, 3) := by decide +kernel
theorem dX4_readSides_17 : decode cX4_readSides 17 = .ok (.putfield 73, 3) := by decide +kernel
theorem dX4_readSides_20 : decode cX4_readSides 20 = .ok (.aload_n 0, 1) := by decide +kernel
theorem dX4_readSides_21 : decode cX4_readSides 21 = .ok (.iconst 2, 1) := by decide +kernel
theorem dX4_readSides_22 : decode cX4_readSides 22 = .ok (.bipush 20, 2) := by decide +kernel
theorem dX4_readSides_24 : decode cX4_readSides 24 = .ok (.invokevirtual 66, 3) := by decide +kernel
theorem dX4_readSides_27 : decode cX4_readSides 27 = .ok (.ifCond .ne 5, 3) := by decide +kernel
theorem dX4_readSides_30 : decode cX4_readSides 30 = .ok (.iconst 0, 1) := by decide +kernel
theorem dX4_readSides_31 : decode cX4_readSides 31 = .ok (.ireturn, 1) := by decide +kernel
theorem dX4_readSides_32 : decode cX4_readSides 32 = .ok (.aload_n 1, 1) := by decide +kernel
theorem dX4_readSides_33 : decode cX4_readSides 33 = .ok (.aload_n 0, 1) := by decide +kernel
theorem dX4_readSides_34 : decode cX4_readSides 34 = .ok (.getfield 70, 3) := by decide +kernel
theorem dX4_readSides_37 : decode cX4_readSides 37 = .ok (.putfield 76, 3) := by decide +kernel
theorem dX4_readSides_40 : decode cX4_readSides 40 = .ok (.iconst 1, 1) := by decide +kernel
theorem dX4_readSides_41 : decode cX4_readSides 41 = .ok (.ireturn, 1) := by decide +kernel
set_option maxRecDepth 20000 in
theorem ggX4_readSwallows_X4_readNumber : GoodIn wsX4_readSwallows wsX4_readNumber := goodIn_r _ [7, 8, 1, 9, 10, 11, 6, 12, 13, 14, 15, 16, 17, 18, 19, 20, 21, 22, 23, 24, 25, 26, 27, 28, 29, 30, 31, 32, 33, 34, 35, 36] (by decide +kernel) (by decide +kernel)
set_option maxRecDepth 20000 in
theorem gX4_readSwallows_X4_readNumber : GoodIn wsX4_readSwallows (wsV RX4 66 RX4 yX4_readNumber wsX4_readNumber) := goodIn_app (goodIn_of _ (by decide +kernel)) ggX4_readSwallows_X4_readNumber
theorem dX4_readSwallows_0 : decode cX4_readSwallows 0 = .ok (.aload_n 0, 1) := by decide +kernel
theorem dX4_readSwallows_1 : decode cX4_readSwallows 1 = .ok (.iconst 0, 1) := by decide +kernel
theorem dX4_readSwallows_2 : decode cX4_readSwallows 2 = .ok (.iconst 3, 1) := by decide +kernel
theorem dX4_readSwallows_3 : decode cX4_readSwallows 3 = .ok (.invokevirtual 66, 3) := by decide +kernel
theorem dX4_readSwallows_6 : decode cX4_readSwallows 6 = .ok (.ifCond .ne 5, 3) := by decide +kernel
theorem dX4_readSwallows_9 : decode cX4_readSwallows 9 = .ok (.iconst 0, 1) := by decide +kernel
theorem dX4_readSwallows_10 : decode cX4_readSwallows 10 = .ok (.ireturn, 1) := by decide +kernel
theorem dX4_readSwallows_11 : decode cX4_readSwallows 11 = .ok (.aload_n 0, 1) := by decide +kernel
theorem dX4_readSwallows_12 : decode cX4_readSwallows 12 = .ok (.getfield 70, 3) := by decide +kernel
theorem dX4_readSwallows_15 : decode cX4_readSwallows 15 = .ok (.istore_n 2, 1) := by decide +kernel
theorem dX4_readSwallows_16 : decode cX4_readSwallows 16 = .ok (.aload_n 0, 1) := by decide +kernel
theorem dX4_readSwallows_17 : decode cX4_readSwallows 17 = .ok (.iconst 0, 1) := by decide +kernel
theorem dX4_readSwallows_18 : decode cX4_readSwallows 18 = .ok (.bipush 10, 2) := by decide +kernel
theorem dX4_readSwallows_20 : decode cX4_readSwallows 20 = .ok (.invokevirtual 66, 3) := by decide +kernel
theorem dX4_readSwallows_23 : decode cX4_readSwallows 23 = .ok (.ifCond .ne 5, 3) := by decide +kernel
theorem dX4_readSwallows_26 : decode cX4_readSwallows 26 = .ok (.iconst 0, 1) := by decide +kernel
theorem dX4_readSwallows_27 : decode cX4_readSwallows 27 = .ok (.ireturn, 1) := by decide +kernel
theorem dX4_readSwallows_28 : decode cX4_readSwallows 28 = .ok (.aload_n 1, 1) := by decide +kernel
theorem dX4_readSwallows_29 : decode cX4_readSwallows 29 = .ok (.getfield 79, 3) := by decide +kernel
theorem dX4_readSwallows_32 : decode cX4_readSwallows 32 = .ok (.iload_n 2, 1) := by decide +kernel
theorem dX4_readSwallows_33 : decode cX4_readSwallows 33 = .ok (.aload_n 0, 1) := by decide +kernel
theorem dX4_readSwallows_34 : decode cX4_readSwallows 34 = .ok (.getfield 70, 3) := by decide +kernel
theorem dX4_readSwallows_37 : decode cX4_readSwallows 37 = .ok (.iastore, 1) := by decide +kernel
theorem dX4_readSwallows_38 : decode cX4_readSwallows 38 = .ok (.iconst 1, 1) := by decide +kernel
theorem dX4_readSwallows_39 : decode cX4_readSwallows 39 = .ok (.ireturn, 1) := by decide +kernel
set_option maxRecDepth 20000 in
theorem ggX4_readSource_X4_readNumber : GoodIn wsX4_readSource wsX4_readNumber := goodIn_r _ [10, 11, 2, 12, 13, 14, 9, 15, 16, 17, 18, 19, 20, 21, 22, 23, 24, 25, 26, 27, 28, 29, 30, 31, 32, 33, 46, 47, 48, 49, 50, 51] (by decide +kernel) (by decide +kernel)
set_option maxRecDepth 20000 in
theorem gX4_readSource_X4_readNumber : GoodIn wsX4_readSource (wsV RX4 66 RX4 yX4_readNumber wsX4_readNumber) := goodIn_app (goodIn_of _ (by decide +kernel)) ggX4_readSource_X4_readNumber
theorem dX4_readSource_0 : decode cX4_readSource 0 = .ok (.aload_n 0, 1) := by decide +kernel
theorem dX4_readSource_1 : decode cX4_readSource 1 = .ok (.iconst 0, 1) := by decide +kernel
theorem dX4_readSource_2 : decode cX4_readSource 2 = .ok (.aload_n 1, 1) := by decide +kernel
theorem dX4_readSource_3 : decode cX4_readSource 3 = .ok (.getfield 73, 3) := by decide +kernel
theorem dX4_readSource_6 : decode cX4_readSource 6 = .ok (.invokevirtual 66, 3) := by decide +kernel
theorem dX4_readSource_9 : decode cX4_readSource 9 = .ok (.ifCond .ne 5, 3) := by decide +kernel
theorem dX4_readSource_12 : decode cX4_readSource 12 = .ok (.iconst 0, 1) := by decide +kernel
theorem dX4_readSource_13 : decode cX4_readSource 13 = .ok (.ireturn, 1) := by decide +kernel
theorem dX4_readSource_14 : decode cX4_readSource 14 = .ok (.aload_n 1, 1) := by decide +kernel
theorem dX4_readSource_15 : decode cX4_readSource 15 = .ok (.aload_n 0, 1) := by decide +kernel
theorem dX4_readSource_16 : decode cX4_readSource 16 = .ok (.getfield 70, 3) := by decide +kernel
theorem dX4_readSource_19 : decode cX4_readSource 19 = .ok (.putfield 82, 3) := by decide +kernel
theorem dX4_readSource_22 : decode cX4_readSource 22 = .ok (.aload_n 0, 1) := by decide +kernel
theorem dX4_readSource_23 : decode cX4_readSource 23 = .ok (.iconst 0, 1) := by decide +kernel
theorem dX4_readSource_24 : decode cX4_readSource 24 = .ok (.aload_n 1, 1) := by decide +kernel
theorem dX4_readSource_25 : decode cX4_readSource 25 = .ok (.getfield 76, 3) := by decide +kernel
theorem dX4_readSource_28 : decode cX4_readSource 28 = .ok (.invokevirtual 66, 3) := by decide +kernel
theorem dX4_readSource_31 : decode cX4_readSource 31 = .ok (.ifCond .ne 5, 3) := by decide +kernel
theorem dX4_readSource_34 : decode cX4_readSource 34 = .ok (.iconst 0, 1) := by decide +kernel
theorem dX4_readSource_35 : decode cX4_readSource 35 = .ok (.ireturn, 1) := by decide +kernel
theorem dX4_readSource_36 : decode cX4_readSource 36 = .ok (.aload_n 1, 1) := by decide +kernel
theorem dX4_readSource_37 : decode cX4_readSource 37 = .ok (.aload_n 0, 1) := by decide +kernel
theorem dX4_readSource_38 : decode cX4_readSource 38 = .ok (.getfield 70, 3) := by decide +kernel
theorem dX4_readSource_41 : decode cX4_readSource 41 = .ok (.putfield 85, 3) := by decide +kernel
theorem dX4_readSource_44 : decode cX4_readSource 44 = .ok (.iconst 1, 1) := by decide +kernel
theorem dX4_readSource_45 : decode cX4_readSource 45 = .ok (.ireturn, 1) := by decide +kernel
set_option maxRecDepth 20000 in
theorem ggX4_readSeat_X4_readNumber : GoodIn wsX4_readSeat wsX4_readNumber := goodIn_r _ [11, 12, 4, 13, 14, 15, 10, 16, 17, 18, 19, 20, 21, 22, 23, 24, 25, 26, 27, 28, 29, 30, 31, 32, 33, 34, 47, 48, 49, 50, 51, 52] (by decide +kernel) (by decide +kernel)
set_option maxRecDepth 20000 in
theorem gX4_readSeat_X4_readNumber : GoodIn wsX4_readSeat (wsV RX4 66 RX4 yX4_readNumber wsX4_readNumber) := goodIn_app (goodIn_of _ (by decide +kernel)) ggX4_readSeat_X4_readNumber
theorem dX4_readSeat_0 : decode cX4_readSeat 0 = .ok (.aload_n 0, 1) := by decide +kernel
theorem dX4_readSeat_1 : decode cX4_readSeat 1 = .ok (.iconst 0, 1) := by decide +kernel
theorem dX4_readSeat_2 : decode cX4_readSeat 2 = .ok (.aload_n 1, 1) := by decide +kernel
theorem dX4_readSeat_3 : decode cX4_readSeat 3 = .ok (.getfield 73, 3) := by decide +kernel
theorem dX4_readSeat_6 : decode cX4_readSeat 6 = .ok (.invokevirtual 66, 3) := by decide +kernel
theorem dX4_readSeat_9 : decode cX4_readSeat 9 = .ok (.ifCond .ne 5, 3) := by decide +kernel
theorem dX4_readSeat_12 : decode cX4_readSeat 12 = .ok (.iconst 0, 1) := by decide +kernel
theorem dX4_readSeat_13 : decode cX4_readSeat 13 = .ok (.ireturn, 1) := by decide +kernel
theorem dX4_readSeat_14 : decode cX4_readSeat 14 = .ok (.aload_n 1, 1) := by decide +kernel
theorem dX4_readSeat_15 : decode cX4_readSeat 15 = .ok (.getfield 88, 3) := by decide +kernel
theorem dX4_readSeat_18 : decode cX4_readSeat 18 = .ok (.aload_n 1, 1) := by decide +kernel
theorem dX4_readSeat_19 : decode cX4_readSeat 19 = .ok (.getfield 54, 3) := by decide +kernel
theorem dX4_readSeat_22 : decode cX4_readSeat 22 = .ok (.aload_n 0, 1) := by decide +kernel
theorem dX4_readSeat_23 : decode cX4_readSeat 23 = .ok (.getfield 70, 3) := by decide +kernel
theorem dX4_readSeat_26 : decode cX4_readSeat 26 = .ok (.iastore, 1) := by decide +kernel
theorem dX4_readSeat_27 : decode cX4_readSeat 27 = .ok (.aload_n 0, 1) := by decide +kernel
theorem dX4_readSeat_28 : decode cX4_readSeat 28 = .ok (.iconst 0, 1) := by decide +kernel
theorem dX4_readSeat_29 : decode cX4_readSeat 29 = .ok (.aload_n 1, 1) := by decide +kernel
theorem dX4_readSeat_30 : decode cX4_readSeat 30 = .ok (.getfield 76, 3) := by decide +kernel
theorem dX4_readSeat_33 : decode cX4_readSeat 33 = .ok (.invokevirtual 66, 3) := by decide +kernel
theorem dX4_readSeat_36 : decode cX4_readSeat 36 = .ok (.ifCond .ne 5, 3) := by decide +kernel
theorem dX4_readSeat_39 : decode cX4_readSeat 39 = .ok (.iconst 0, 1) := by decide +kernel
theorem dX4_readSeat_40 : decode cX4_readSeat 40 = .ok (.ireturn, 1) := by decide +kernel
theorem dX4_readSeat_41 : decode cX4_readSeat 41 = .ok (.aload_n 1, 1) := by decide +kernel
theorem dX4_readSeat_42 : decode cX4_readSeat 42 = .ok (.getfield 91, 3) := by decide +kernel
theorem dX4_readSeat_45 : decode cX4_readSeat 45 = .ok (.aload_n 1, 1) := by decide +kernel
theorem dX4_readSeat_46 : decode cX4_readSeat 46 = .ok (.getfield 54, 3) := by decide +kernel
theorem dX4_readSeat_49 : decode cX4_readSeat 49 = .ok (.aload_n 0, 1) := by decide +kernel
theorem dX4_readSeat_50 : decode cX4_readSeat 50 = .ok (.getfield 70, 3) := by decide +kernel
theorem dX4_readSeat_53 : decode cX4_readSeat 53 = .ok (.iastore, 1) := by decide +kernel
theorem dX4_readSeat_54 : decode cX4_readSeat 54 = .ok (.aload_n 1, 1) := by decide +kernel
theorem dX4_readSeat_55 : decode cX4_readSeat 55 = .ok (.dup, 1) := by decide +kernel
theorem dX4_readSeat_56 : decode cX4_readSeat 56 = .ok (.getfield 54, 3) := by decide +kernel
theorem dX4_readSeat_59 : decode cX4_readSeat 59 = .ok (.iconst 1, 1) := by decide +kernel
theorem dX4_readSeat_60 : decode cX4_readSeat 60 = .ok (.iadd, 1) := by decide +kernel
theorem dX4_readSeat_61 : decode cX4_readSeat 61 = .ok (.putfield 54, 3) := by decide +kernel
theorem dX4_readSeat_64 : decode cX4_readSeat 64 = .ok (.iconst 1, 1) := by decide +kernel
theorem dX4_readSeat_65 : decode cX4_readSeat 65 = .ok (.ireturn, 1) := by decide +kernel
set_option maxRecDepth 20000 in
theorem ggX4_readCurtain_X4_readNumber : GoodIn wsX4_readCurtain wsX4_readNumber := goodIn_r _ [12, 13, 4, 14, 15, 16, 11, 17, 18, 19, 20, 21, 22, 23, 24, 25, 26, 27, 28, 29, 30, 31, 32, 33, 34, 35, 48, 49, 50, 51, 52, 53] (by decide +kernel) (by decide +kernel)
set_option maxRecDepth 20000 in
theorem gX4_readCurtain_X4_readNumber : GoodIn wsX4_readCurtain (wsV RX4 66 RX4 yX4_readNumber wsX4_readNumber) := goodIn_app (goodIn_of _ (by decide +kernel)) ggX4_readCurtain_X4_readNumber
theorem dX4_readCurtain_0 : decode cX4_readCurtain 0 = .ok (.aload_n 1, 1) := by decide +kernel
theorem dX4_readCurtain_1 : decode cX4_readCurtain 1 = .ok (.getfield 60, 3) := by decide +kernel
theorem dX4_readCurtain_4 : decode cX4_readCurtain 4 = .ok (.istore_n 2, 1) := by decide +kernel
theorem dX4_readCurtain_5 : decode cX4_readCurtain 5 = .ok (.aload_n 0, 1) := by decide +kernel
theorem dX4_readCurtain_6 : decode cX4_readCurtain 6 = .ok (.iconst 1, 1) := by decide +kernel
theorem dX4_readCurtain_7 : decode cX4_readCurtain 7 = .ok (.aload_n 1, 1) := by decide +kernel
theorem dX4_readCurtain_8 : decode cX4_readCurtain 8 = .ok (.getfield 73, 3) := by decide +kernel
theorem dX4_readCurtain_11 : decode cX4_readCurtain 11 = .ok (.iconst 1, 1) := by decide +kernel
theorem dX4_readCurtain_12 : decode cX4_readCurtain 12 = .ok (.isub, 1) := by decide +kernel
theorem dX4_readCurtain_13 : decode cX4_readCurtain 13 = .ok (.invokevirtual 66, 3) := by decide +kernel
theorem dX4_readCurtain_16 : decode cX4_readCurtain 16 = .ok (.ifCond .ne 5, 3) := by decide +kernel
theorem dX4_readCurtain_19 : decode cX4_readCurtain 19 = .ok (.iconst 0, 1) := by decide +kernel
theorem dX4_readCurtain_20 : decode cX4_readCurtain 20 = .ok (.ireturn, 1) := by decide +kernel
theorem dX4_readCurtain_21 : decode cX4_readCurtain 21 = .ok (.aload_n 1, 1) := by decide +kernel
theorem dX4_readCurtain_22 : decode cX4_readCurtain 22 = .ok (.getfield 94, 3) := by decide +kernel
theorem dX4_readCurtain_25 : decode cX4_readCurtain 25 = .ok (.iload_n 2, 1) := by decide +kernel
theorem dX4_readCurtain_26 : decode cX4_readCurtain 26 = .ok (.aload_n 0, 1) := by decide +kernel
theorem dX4_readCurtain_27 : decode cX4_readCurtain 27 = .ok (.getfield 70, 3) := by decide +kernel
theorem dX4_readCurtain_30 : decode cX4_readCurtain 30 = .ok (.iastore, 1) := by decide +kernel
theorem dX4_readCurtain_31 : decode cX4_readCurtain 31 = .ok (.aload_n 0, 1) := by decide +kernel
theorem dX4_readCurtain_32 : decode cX4_readCurtain 32 = .ok (.iconst 0, 1) := by decide +kernel
theorem dX4_readCurtain_33 : decode cX4_readCurtain 33 = .ok (.aload_n 1, 1) := by decide +kernel
theorem dX4_readCurtain_34 : decode cX4_readCurtain 34 = .ok (.getfield 76, 3) := by decide +kernel
theorem dX4_readCurtain_37 : decode cX4_readCurtain 37 = .ok (.invokevirtual 66, 3) := by decide +kernel
theorem dX4_readCurtain_40 : decode cX4_readCurtain 40 = .ok (.ifCond .ne 5, 3) := by decide +kernel
theorem dX4_readCurtain_43 : decode cX4_readCurtain 43 = .ok (.iconst 0, 1) := by decide +kernel
theorem dX4_readCurtain_44 : decode cX4_readCurtain 44 = .ok (.ireturn, 1) := by decide +kernel
theorem dX4_readCurtain_45 : decode cX4_readCurtain 45 = .ok (.aload_n 1, 1) := by decide +kernel
theorem dX4_readCurtain_46 : decode cX4_readCurtain 46 = .ok (.getfield 97, 3) := by decide +kernel
theorem dX4_readCurtain_49 : decode cX4_readCurtain 49 = .ok (.iload_n 2, 1) := by decide +kernel
theorem dX4_readCurtain_50 : decode cX4_readCurtain 50 = .ok (.aload_n 0, 1) := by decide +kernel
theorem dX4_readCurtain_51 : decode cX4_readCurtain 51 = .ok (.getfield 70, 3) := by decide +kernel
theorem dX4_readCurtain_54 : decode cX4_readCurtain 54 = .ok (.iastore, 1) := by decide +kernel
theorem dX4_readCurtain_55 : decode cX4_readCurtain 55 = .ok (.aload_n 0, 1) := by decide +kernel
theorem dX4_readCurtain_56 : decode cX4_readCurtain 56 = .ok (.aload_n 0, 1) := by decide +kernel
theorem dX4_readCurtain_57 : decode cX4_readCurtain 57 = .ok (.getfield 70, 3) := by decide +kernel
theorem dX4_readCurtain_60 : decode cX4_readCurtain 60 = .ok (.aload_n 1, 1) := by decide +kernel
theorem dX4_readCurtain_61 : decode cX4_readCurtain 61 = .ok (.getfield 76, 3) := by decide +kernel
theorem dX4_readCurtain_64 : decode cX4_readCurtain 64 = .ok (.invokevirtual 66, 3) := by decide +kernel
theorem dX4_readCurtain_67 : decode cX4_readCurtain 67 = .ok (.ifCond .ne 5, 3) := by decide +kernel
theorem dX4_readCurtain_70 : decode cX4_readCurtain 70 = .ok (.iconst 0, 1) := by decide +kernel
theorem dX4_readCurtain_71 : decode cX4_readCurtain 71 = .ok (.ireturn, 1) := by decide +kernel
theorem dX4_readCurtain_72 : decode cX4_readCurtain 72 = .ok (.aload_n 1, 1) := by decide +kernel
theorem dX4_readCurtain_73 : decode cX4_readCurtain 73 = .ok (.getfield 100, 3) := by decide +kernel
theorem dX4_readCurtain_76 : decode cX4_readCurtain 76 = .ok (.iload_n 2, 1) := by decide +kernel
theorem dX4_readCurtain_77 : decode cX4_readCurtain 77 = .ok (.aload_n 0, 1) := by decide +kernel
theorem dX4_readCurtain_78 : decode cX4_readCurtain 78 = .ok (.getfield 70, 3) := by decide +kernel
theorem dX4_readCurtain_81 : decode cX4_readCurtain 81 = .ok (.iastore, 1) := by decide +kernel
theorem dX4_readCurtain_82 : decode cX4_readCurtain 82 = .ok (.aload_n 1, 1) := by decide +kernel
theorem dX4_readCurtain_83 : decode cX4_readCurtain 83 = .ok (.dup, 1) := by decide +kernel
theorem dX4_readCurtain_84 : decode cX4_readCurtain 84 = .ok (.getfield 60, 3) := by decide +kernel
theorem dX4_readCurtain_87 : decode cX4_readCurtain 87 = .ok (.iconst 1, 1) := by decide +kernel
theorem dX4_readCurtain_88 : decode cX4_readCurtain 88 = .ok (.iadd, 1) := by decide +kernel
theorem dX4_readCurtain_89 : decode cX4_readCurtain 89 = .ok (.putfield 60, 3) := by decide +kernel
theorem dX4_readCurtain_92 : decode cX4_readCurtain 92 = .ok (.iconst 1, 1) := by decide +kernel
theorem dX4_readCurtain_93 : decode cX4_readCurtain 93 = .ok (.ireturn, 1) := by decide +kernel
set_option maxRecDepth 20000 in
theorem ggX4_readNumber_X4_nextToken : GoodIn wsX4_readNumber wsX4_nextToken := goodIn_r _ [7, 8, 9, 10, 11, 1, 12, 13, 6, 14, 15, 16, 17, 18, 2, 19, 20, 21, 22, 26, 27, 28, 29, 30, 31] (by decide +kernel) (by decide +kernel)
set_option maxRecDepth 20000 in
theorem gX4_readNumber_X4_nextToken : GoodIn wsX4_readNumber (wsV RX4 27 RX4 yX4_nextToken wsX4_nextToken) := goodIn_app (goodIn_of _ (by decide +kernel)) ggX4_readNumber_X4_nextToken
set_option maxRecDepth 20000 in
theorem ggX4_readNumber_X5_isWithin : GoodIn wsX4_readNumber wsX5_isWithin := goodIn_r _ [25] (by decide +kernel) (by decide +kernel)
set_option maxRecDepth 20000 in
theorem gX4_readNumber_X5_isWithin_n103 : GoodIn wsX4_readNumber (wsX5_isWithin) := ggX4_readNumber_X5_isWithin
theorem dX4_readNumber_0 : decode cX4_readNumber 0 = .ok (.aload_n 0, 1) := by decide +kernel
theorem dX4_readNumber_1 : decode cX4_readNumber 1 = .ok (.invokevirtual 27, 3) := by decide +kernel
theorem dX4_readNumber_4 : decode cX4_readNumber 4 = .ok (.aload_n 0, 1) := by decide +kernel
theorem dX4_readNumber_5 : decode cX4_readNumber 5 = .ok (.getfield 30, 3) := by decide +kernel
theorem dX4_readNumber_8 : decode cX4_readNumber 8 = .ok (.bipush (-2), 2) := by decide +kernel
theorem dX4_readNumber_10 : decode cX4_readNumber 10 = .ok (.if_icmp .ne 19, 3) := by decide +kernel
theorem dX4_readNumber_13 : decode cX4_readNumber 13 = .ok (.aload_n 0, 1) := by decide +kernel
theorem dX4_readNumber_14 : decode cX4_readNumber 14 = .ok (.getfield 70, 3) := by decide +kernel
theorem dX4_readNumber_17 : decode cX4_readNumber 17 = .ok (.iload_n 1, 1) := by decide +kernel
theorem dX4_readNumber_18 : decode cX4_readNumber 18 = .ok (.iload_n 2, 1) := by decide +kernel
theorem dX4_readNumber_19 : decode cX4_readNumber 19 = .ok (.invokestatic 103, 3) := by decide +kernel
theorem dX4_readNumber_22 : decode cX4_readNumber 22 = .ok (.ifCond .eq 7, 3) := by decide +kernel
theorem dX4_readNumber_25 : decode cX4_readNumber 25 = .ok (.iconst 1, 1) := by decide +kernel
theorem dX4_readNumber_26 : decode cX4_readNumber 26 = .ok (.goto 4, 3) := by decide +kernel
theorem dX4_readNumber_29 : decode cX4_readNumber 29 = .ok (.iconst 0, 1) := by decide +kernel
theorem dX4_readNumber_30 : decode cX4_readNumber 30 = .ok (.ireturn, 1) := by decide +kernel
set_option maxRecDepth 20000 in
theorem ggX4_readEnd_X4_nextToken : GoodIn wsX4_readEnd wsX4_nextToken := goodIn_r _ [6, 7, 8, 9, 10, 1, 11, 12, 5, 13, 14, 15, 16, 17, 18, 19, 20, 21, 22, 23, 24, 25, 26, 27, 28] (by decide +kernel) (by decide +kernel)
set_option maxRecDepth 20000 in
theorem gX4_readEnd_X4_nextToken : GoodIn wsX4_readEnd (wsV RX4 27 RX4 yX4_nextToken wsX4_nextToken) := goodIn_app (goodIn_of _ (by decide +kernel)) ggX4_readEnd_X4_nextToken
theorem dX4_readEnd_0 : decode cX4_readEnd 0 = .ok (.aload_n 0, 1) := by decide +kernel
theorem dX4_readEnd_1 : decode cX4_readEnd 1 = .ok (.invokevirtual 27, 3) := by decide +kernel
theorem dX4_readEnd_4 : decode cX4_readEnd 4 = .ok (.aload_n 0, 1) := by decide +kernel
theorem dX4_readEnd_5 : decode cX4_readEnd 5 = .ok (.getfield 30, 3) := by decide +kernel
theorem dX4_readEnd_8 : decode cX4_readEnd 8 = .ok (.bipush 59, 2) := by decide +kernel
theorem dX4_readEnd_10 : decode cX4_readEnd 10 = .ok (.if_icmp .ne 7, 3) := by decide +kernel
theorem dX4_readEnd_13 : decode cX4_readEnd 13 = .ok (.iconst 1, 1) := by decide +kernel
theorem dX4_readEnd_14 : decode cX4_readEnd 14 = .ok (.goto 4, 3) := by decide +kernel
theorem dX4_readEnd_17 : decode cX4_readEnd 17 = .ok (.iconst 0, 1) := by decide +kernel
theorem dX4_readEnd_18 : decode cX4_readEnd 18 = .ok (.ireturn, 1) := by decide +kernel
set_option maxRecDepth 20000 in
theorem ggX4_nextToken_X4_isFigure : GoodIn wsX4_nextToken wsX4_isFigure := goodIn_r _ [9] (by decide +kernel) (by decide +kernel)
set_option maxRecDepth 20000 in
theorem gX4_nextToken_X4_isFigure : GoodIn wsX4_nextToken (va_wsS RX4 107 yX4_isFigure wsX4_isFigure) := goodIn_app (goodIn_of _ (by decide +kernel)) ggX4_nextToken_X4_isFigure
set_option maxRecDepth 20000 in
theorem ggX4_nextToken_X4_takeFigures : GoodIn wsX4_nextToken wsX4_takeFigures := goodIn_r _ [13, 14, 1, 2, 3, 15, 16, 17, 18, 4, 5, 6, 7, 8, 9, 19, 20, 21, 22, 23, 24] (by decide +kernel) (by decide +kernel)
set_option maxRecDepth 20000 in
theorem gX4_nextToken_X4_takeFigures : GoodIn wsX4_nextToken (wsV RX4 111 RX4 yX4_takeFigures wsX4_takeFigures) := goodIn_app (goodIn_of _ (by decide +kernel)) ggX4_nextToken_X4_takeFigures
theorem dX4_nextToken_0 : decode cX4_nextToken 0 = .ok (.aload_n 0, 1) := by decide +kernel
theorem dX4_nextToken_1 : decode cX4_nextToken 1 = .ok (.getfield 24, 3) := by decide +kernel
theorem dX4_nextToken_4 : decode cX4_nextToken 4 = .ok (.aload_n 0, 1) := by decide +kernel
theorem dX4_nextToken_5 : decode cX4_nextToken 5 = .ok (.getfield 15, 3) := by decide +kernel
theorem dX4_nextToken_8 : decode cX4_nextToken 8 = .ok (.if_icmp .ge 30, 3) := by decide +kernel
theorem dX4_nextToken_11 : decode cX4_nextToken 11 = .ok (.aload_n 0, 1) := by decide +kernel
theorem dX4_nextToken_12 : decode cX4_nextToken 12 = .ok (.getfield 9, 3) := by decide +kernel
theorem dX4_nextToken_15 : decode cX4_nextToken 15 = .ok (.aload_n 0, 1) := by decide +kernel
theorem dX4_nextToken_16 : decode cX4_nextToken 16 = .ok (.getfield 24, 3) := by decide +kernel
theorem dX4_nextToken_19 : decode cX4_nextToken 19 = .ok (.iaload, 1) := by decide +kernel
theorem dX4_nextToken_20 : decode cX4_nextToken 20 = .ok (.bipush 32, 2) := by decide +kernel
theorem dX4_nextToken_22 : decode cX4_nextToken 22 = .ok (.if_icmp .ne 16, 3) := by decide +kernel
theorem dX4_nextToken_25 : decode cX4_nextToken 25 = .ok (.aload_n 0, 1) := by decide +kernel
theorem dX4_nextToken_26 : decode cX4_nextToken 26 = .ok (.dup, 1) := by decide +kernel
theorem dX4_nextToken_27 : decode cX4_nextToken 27 = .ok (.getfield 24, 3) := by decide +kernel
theorem dX4_nextToken_30 : decode cX4_nextToken 30 = .ok (.iconst 1, 1) := by decide +kernel
theorem dX4_nextToken_31 : decode cX4_nextToken 31 = .ok (.iadd, 1) := by decide +kernel
theorem dX4_nextToken_32 : decode cX4_nextToken 32 = .ok (.putfield 24, 3) := by decide +kernel
theorem dX4_nextToken_35 : decode cX4_nextToken 35 = .ok (.goto (-35), 3) := by decide +kernel
theorem dX4_nextToken_38 : decode cX4_nextToken 38 = .ok (.aload_n 0, 1) := by decide +kernel
theorem dX4_nextToken_39 : decode cX4_nextToken 39 = .ok (.aload_n 0, 1) := by decide +kernel
theorem dX4_nextToken_40 : decode cX4_nextToken 40 = .ok (.getfield 24, 3) := by decide +kernel
theorem dX4_nextToken_43 : decode cX4_nextToken 43 = .ok (.putfield 41, 3) := by decide +kernel
theorem dX4_nextToken_46 : decode cX4_nextToken 46 = .ok (.aload_n 0, 1) := by decide +kernel
theorem dX4_nextToken_47 : decode cX4_nextToken 47 = .ok (.getfield 24, 3) := by decide +kernel
theorem dX4_nextToken_50 : decode cX4_nextToken 50 = .ok (.aload_n 0, 1) := by decide +kernel
theorem dX4_nextToken_51 : decode cX4_nextToken 51 = .ok (.getfield 15, 3) := by decide +kernel
theorem dX4_nextToken_54 : decode cX4_nextToken 54 = .ok (.if_icmp .lt 11, 3) := by decide +kernel
theorem dX4_nextToken_57 : decode cX4_nextToken 57 = .ok (.aload_n 0, 1) := by decide +kernel
theorem dX4_nextToken_58 : decode cX4_nextToken 58 = .ok (.iconst (-1), 1) := by decide +kernel
theorem dX4_nextToken_59 : decode cX4_nextToken 59 = .ok (.putfield 30, 3) := by decide +kernel
theorem dX4_nextToken_62 : decode cX4_nextToken 62 = .ok (.goto 48, 3) := by decide +kernel
theorem dX4_nextToken_65 : decode cX4_nextToken 65 = .ok (.aload_n 0, 1) := by decide +kernel
theorem dX4_nextToken_66 : decode cX4_nextToken 66 = .ok (.getfield 9, 3) := by decide +kernel
theorem dX4_nextToken_69 : decode cX4_nextToken 69 = .ok (.aload_n 0, 1) := by decide +kernel
theorem dX4_nextToken_70 : decode cX4_nextToken 70 = .ok (.getfield 24, 3) := by decide +kernel
theorem dX4_nextToken_73 : decode cX4_nextToken 73 = .ok (.iaload, 1) := by decide +kernel
theorem dX4_nextToken_74 : decode cX4_nextToken 74 = .ok (.invokestatic 107, 3) := by decide +kernel
theorem dX4_nextToken_77 : decode cX4_nextToken 77 = .ok (.ifCond .eq 10, 3) := by decide +kernel
theorem dX4_nextToken_80 : decode cX4_nextToken 80 = .ok (.aload_n 0, 1) := by decide +kernel
theorem dX4_nextToken_81 : decode cX4_nextToken 81 = .ok (.invokevirtual 111, 3) := by decide +kernel
theorem dX4_nextToken_84 : decode cX4_nextToken 84 = .ok (.goto 26, 3) := by decide +kernel
theorem dX4_nextToken_87 : decode cX4_nextToken 87 = .ok (.aload_n 0, 1) := by decide +kernel
theorem dX4_nextToken_88 : decode cX4_nextToken 88 = .ok (.aload_n 0, 1) := by decide +kernel
theorem dX4_nextToken_89 : decode cX4_nextToken 89 = .ok (.getfield 9, 3) := by decide +kernel
theorem dX4_nextToken_92 : decode cX4_nextToken 92 = .ok (.aload_n 0, 1) := by decide +kernel
theorem dX4_nextToken_93 : decode cX4_nextToken 93 = .ok (.getfield 24, 3) := by decide +kernel
theorem dX4_nextToken_96 : decode cX4_nextToken 96 = .ok (.iaload, 1) := by decide +kernel
theorem dX4_nextToken_97 : decode cX4_nextToken 97 = .ok (.putfield 30, 3) := by decide +kernel
theorem dX4_nextToken_100 : decode cX4_nextToken 100 = .ok (.aload_n 0, 1) := by decide +kernel
theorem dX4_nextToken_101 : decode cX4_nextToken 101 = .ok (.dup, 1) := by decide +kernel
theorem dX4_nextToken_102 : decode cX4_nextToken 102 = .ok (.getfield 24, 3) := by decide +kernel
theorem dX4_nextToken_105 : decode cX4_nextToken 105 = .ok (.iconst 1, 1) := by decide +kernel
theorem dX4_nextToken_106 : decode cX4_nextToken 106 = .ok (.iadd, 1) := by decide +kernel
theorem dX4_nextToken_107 : decode cX4_nextToken 107 = .ok (.putfield 24, 3) := by decide +kernel
theorem dX4_nextToken_110 : decode cX4_nextToken 110 = .ok (.return_, 1) := by decide +kernel
set_option maxRecDepth 20000 in
theorem ggX4_takeFigures_X4_isFigure : GoodIn wsX4_takeFigures wsX4_isFigure := goodIn_r _ [14] (by decide +kernel) (by decide +kernel)
set_option maxRecDepth 20000 in
theorem gX4_takeFigures_X4_isFigure : GoodIn wsX4_takeFigures (va_wsS RX4 107 yX4_isFigure wsX4_isFigure) := goodIn_app (goodIn_of _ (by decide +kernel)) ggX4_takeFigures_X4_isFigure
theorem dX4_takeFigures_0 : decode cX4_takeFigures 0 = .ok (.aload_n 0, 1) := by decide +kernel
theorem dX4_takeFigures_1 : decode cX4_takeFigures 1 = .ok (.iconst 0, 1) := by decide +kernel
theorem dX4_takeFigures_2 : decode cX4_takeFigures 2 = .ok (.putfield 70, 3) := by decide +kernel
theorem dX4_takeFigures_5 : decode cX4_takeFigures 5 = .ok (.aload_n 0, 1) := by decide +kernel
theorem dX4_takeFigures_6 : decode cX4_takeFigures 6 = .ok (.getfield 24, 3) := by decide +kernel
theorem dX4_takeFigures_9 : decode cX4_takeFigures 9 = .ok (.aload_n 0, 1) := by decide +kernel
theorem dX4_takeFigures_10 : decode cX4_takeFigures 10 = .ok (.getfield 15, 3) := by decide +kernel
theorem dX4_takeFigures_13 : decode cX4_takeFigures 13 = .ok (.if_icmp .ge 60, 3) := by decide +kernel
theorem dX4_takeFigures_16 : decode cX4_takeFigures 16 = .ok (.aload_n 0, 1) := by decide +kernel
theorem dX4_takeFigures_17 : decode cX4_takeFigures 17 = .ok (.getfield 9, 3) := by decide +kernel
theorem dX4_takeFigures_20 : decode cX4_takeFigures 20 = .ok (.aload_n 0, 1) := by decide +kernel
theorem dX4_takeFigures_21 : decode cX4_takeFigures 21 = .ok (.getfield 24, 3) := by decide +kernel
theorem dX4_takeFigures_24 : decode cX4_takeFigures 24 = .ok (.iaload, 1) := by decide +kernel
theorem dX4_takeFigures_25 : decode cX4_takeFigures 25 = .ok (.invokestatic 107, 3) := by decide +kernel
theorem dX4_takeFigures_28 : decode cX4_takeFigures 28 = .ok (.ifCond .eq 45, 3) := by decide +kernel
theorem dX4_takeFigures_31 : decode cX4_takeFigures 31 = .ok (.aload_n 0, 1) := by decide +kernel
theorem dX4_takeFigures_32 : decode cX4_takeFigures 32 = .ok (.bipush 100, 2) := by decide +kernel
theorem dX4_takeFigures_34 : decode cX4_takeFigures 34 = .ok (.bipush 10, 2) := by decide +kernel
theorem dX4_takeFigures_36 : decode cX4_takeFigures 36 = .ok (.aload_n 0, 1) := by decide +kernel
theorem dX4_takeFigures_37 : decode cX4_takeFigures 37 = .ok (.getfield 70, 3) := by decide +kernel
theorem dX4_takeFigures_40 : decode cX4_takeFigures 40 = .ok (.imul, 1) := by decide +kernel
theorem dX4_takeFigures_41 : decode cX4_takeFigures 41 = .ok (.aload_n 0, 1) := by decide +kernel
theorem dX4_takeFigures_42 : decode cX4_takeFigures 42 = .ok (.getfield 9, 3) := by decide +kernel
theorem dX4_takeFigures_45 : decode cX4_takeFigures 45 = .ok (.aload_n 0, 1) := by decide +kernel
theorem dX4_takeFigures_46 : decode cX4_takeFigures 46 = .ok (.getfield 24, 3) := by decide +kernel
theorem dX4_takeFigures_49 : decode cX4_takeFigures 49 = .ok (.iaload, 1) := by decide +kernel
theorem dX4_takeFigures_50 : decode cX4_takeFigures 50 = .ok (.iadd, 1) := by decide +kernel
theorem dX4_takeFigures_51 : decode cX4_takeFigures 51 = .ok (.bipush 48, 2) := by decide +kernel
theorem dX4_takeFigures_53 : decode cX4_takeFigures 53 = .ok (.isub, 1) := by decide +kernel
theorem dX4_takeFigures_54 : decode cX4_takeFigures 54 = .ok (.invokestatic 114, 3) := by decide +kernel
theorem dX4_takeFigures_57 : decode cX4_takeFigures 57 = .ok (.putfield 70, 3) := by decide +kernel
theorem dX4_takeFigures_60 : decode cX4_takeFigures 60 = .ok (.aload_n 0, 1) := by decide +kernel
theorem dX4_takeFigures_61 : decode cX4_takeFigures 61 = .ok (.dup, 1) := by decide +kernel
theorem dX4_takeFigures_62 : decode cX4_takeFigures 62 = .ok (.getfield 24, 3) := by decide +kernel
theorem dX4_takeFigures_65 : decode cX4_takeFigures 65 = .ok (.iconst 1, 1) := by decide +kernel
theorem dX4_takeFigures_66 : decode cX4_takeFigures 66 = .ok (.iadd, 1) := by decide +kernel
theorem dX4_takeFigures_67 : decode cX4_takeFigures 67 = .ok (.putfield 24, 3) := by decide +kernel
theorem dX4_takeFigures_70 : decode cX4_takeFigures 70 = .ok (.goto (-65), 3) := by decide +kernel
theorem dX4_takeFigures_73 : decode cX4_takeFigures 73 = .ok (.aload_n 0, 1) := by decide +kernel
theorem dX4_takeFigures_74 : decode cX4_takeFigures 74 = .ok (.getfield 9, 3) := by decide +kernel
theorem dX4_takeFigures_77 : decode cX4_takeFigures 77 = .ok (.aload_n 0, 1) := by decide +kernel
theorem dX4_takeFigures_78 : decode cX4_takeFigures 78 = .ok (.getfield 41, 3) := by decide +kernel
theorem dX4_takeFigures_81 : decode cX4_takeFigures 81 = .ok (.iaload, 1) := by decide +kernel
theorem dX4_takeFigures_82 : decode cX4_takeFigures 82 = .ok (.bipush 48, 2) := by decide +kernel
theorem dX4_takeFigures_84 : decode cX4_takeFigures 84 = .ok (.if_icmp .ne 20, 3) := by decide +kernel
theorem dX4_takeFigures_87 : decode cX4_takeFigures 87 = .ok (.aload_n 0, 1) := by decide +kernel
theorem dX4_takeFigures_88 : decode cX4_takeFigures 88 = .ok (.getfield 24, 3) := by decide +kernel
theorem dX4_takeFigures_91 : decode cX4_takeFigures 91 = .ok (.aload_n 0, 1) := by decide +kernel
theorem dX4_takeFigures_92 : decode cX4_takeFigures 92 = .ok (.getfield 41, 3) := by decide +kernel
theorem dX4_takeFigures_95 : decode cX4_takeFigures 95 = .ok (.isub, 1) := by decide +kernel
theorem dX4_takeFigures_96 : decode cX4_takeFigures 96 = .ok (.iconst 1, 1) := by decide +kernel
theorem dX4_takeFigures_97 : decode cX4_takeFigures 97 = .ok (.if_icmp .le 7, 3) := by decide +kernel
theorem dX4_takeFigures_100 : decode cX4_takeFigures 100 = .ok (.iconst 1, 1) := by decide +kernel
theorem dX4_takeFigures_101 : decode cX4_takeFigures 101 = .ok (.goto 4, 3) := by decide +kernel
theorem dX4_takeFigures_104 : decode cX4_takeFigures 104 = .ok (.iconst 0, 1) := by decide +kernel
theorem dX4_takeFigures_105 : decode cX4_takeFigures 105 = .ok (.istore_n 1, 1) := by decide +kernel
theorem dX4_takeFigures_106 : decode cX4_takeFigures 106 = .ok (.aload_n 0, 1) := by decide +kernel
theorem dX4_takeFigures_107 : decode cX4_takeFigures 107 = .ok (.aload_n 0, 1) := by decide +kernel
theorem dX4_takeFigures_108 : decode cX4_takeFigures 108 = .ok (.getfield 70, 3) := by decide +kernel
theorem dX4_takeFigures_111 : decode cX4_takeFigures 111 = .ok (.bipush 99, 2) := by decide +kernel
theorem dX4_takeFigures_113 : decode cX4_takeFigures 113 = .ok (.if_icmp .gt 7, 3) := by decide +kernel
theorem dX4_takeFigures_116 : decode cX4_takeFigures 116 = .ok (.iload_n 1, 1) := by decide +kernel
theorem dX4_takeFigures_117 : decode cX4_takeFigures 117 = .ok (.ifCond .eq 8, 3) := by decide +kernel
theorem dX4_takeFigures_120 : decode cX4_takeFigures 120 = .ok (.bipush (-3), 2) := by decide +kernel
theorem dX4_takeFigures_122 : decode cX4_takeFigures 122 = .ok (.goto 5, 3) := by decide +kernel
theorem dX4_takeFigures_125 : decode cX4_takeFigures 125 = .ok (.bipush (-2), 2) := by decide +kernel
theorem dX4_takeFigures_127 : decode cX4_takeFigures 127 = .ok (.putfield 30, 3) := by decide +kernel
theorem dX4_takeFigures_130 : decode cX4_takeFigures 130 = .ok (.return_, 1) := by decide +kernel
theorem dX4_isFigure_0 : decode cX4_isFigure 0 = .ok (.iload_n 0, 1) := by decide +kernel
theorem dX4_isFigure_1 : decode cX4_isFigure 1 = .ok (.bipush 48, 2) := by decide +kernel
theorem dX4_isFigure_3 : decode cX4_isFigure 3 = .ok (.if_icmp .lt 13, 3) := by decide +kernel
theorem dX4_isFigure_6 : decode cX4_isFigure 6 = .ok (.iload_n 0, 1) := by decide +kernel
theorem dX4_isFigure_7 : decode cX4_isFigure 7 = .ok (.bipush 57, 2) := by decide +kernel
theorem dX4_isFigure_9 : decode cX4_isFigure 9 = .ok (.if_icmp .gt 7, 3) := by decide +kernel
theorem dX4_isFigure_12 : decode cX4_isFigure 12 = .ok (.iconst 1, 1) := by decide +kernel
theorem dX4_isFigure_13 : decode cX4_isFigure 13 = .ok (.goto 4, 3) := by decide +kernel
theorem dX4_isFigure_16 : decode cX4_isFigure 16 = .ok (.iconst 0, 1) := by decide +kernel
theorem dX4_isFigure_17 : decode cX4_isFigure 17 = .ok (.ireturn, 1) := by decide +kernel
set_option maxRecDepth 20000 in
theorem ggX5_init_X3_init : GoodIn wsX5_init wsX3_init := goodIn_r _ [30, 31, 2, 3, 32, 33, 34, 35, 36, 37, 38, 39, 40, 41, 6, 42, 43, 44, 45, 46, 47, 48, 49, 50, 51, 52, 86, 87, 88, 89, 90, 91, 92, 93, 94, 95, 96, 97] (by decide +kernel) (by decide +kernel)
set_option maxRecDepth 20000 in
theorem gX5_init_X3_init : GoodIn wsX5_init (wsX3_init) := ggX5_init_X3_init
set_option maxRecDepth 20000 in
theorem ggX5_init_X4_init : GoodIn wsX5_init wsX4_init := goodIn_r _ [55, 56, 2, 3, 32, 57, 106, 107, 108, 109, 110, 111] (by decide +kernel) (by decide +kernel)
set_option maxRecDepth 20000 in
theorem gX5_init_X4_init : GoodIn wsX5_init (wsX4_init) := ggX5_init_X4_init
set_option maxRecDepth 20000 in
theorem ggX5_init_X2_init : GoodIn wsX5_init wsX2_init := goodIn_r _ [60, 61, 2, 3, 32, 62, 63, 64, 65, 112, 113, 114, 115, 116] (by decide +kernel) (by decide +kernel)
set_option maxRecDepth 20000 in
theorem gX5_init_X2_init : GoodIn wsX5_init (wsX2_init) := ggX5_init_X2_init
set_option maxRecDepth 20000 in
theorem ggX5_init_X0_init : GoodIn wsX5_init wsX0_init := goodIn_r _ [68, 69, 2, 3, 32, 70, 71, 72, 73, 74, 75, 117, 118, 119, 120, 121, 122, 123, 124] (by decide +kernel) (by decide +kernel)
set_option maxRecDepth 20000 in
theorem gX5_init_X0_init : GoodIn wsX5_init (wsX0_init) := ggX5_init_X0_init
set_option maxRecDepth 20000 in
theorem ggX5_init_X1_init : GoodIn wsX5_init wsX1_init := goodIn_r _ [78, 79, 2, 3, 32, 80, 81, 82, 83, 84, 85, 125, 126, 127, 128, 129, 130, 131, 132] (by decide +kernel) (by decide +kernel)
set_option maxRecDepth 20000 in
theorem gX5_init_X1_init : GoodIn wsX5_init (wsX1_init) := ggX5_init_X1_init
theorem dX5_init_0 : decode cX5_init 0 = .ok (.aload_n 0, 1) := by decide +kernel
theorem dX5_init_1 : decode cX5_init 1 = .ok (.invokespecial 1, 3) := by decide +kernel
theorem dX5_init_4 : decode cX5_init 4 = .ok (.aload_n 0, 1) := by decide +kernel
theorem dX5_init_5 : decode cX5_init 5 = .ok (.new 7, 3) := by decide +kernel
theorem dX5_init_8 : decode cX5_init 8 = .ok (.dup, 1) := by decide +kernel
theorem dX5_init_9 : decode cX5_init 9 = .ok (.invokespecial 9, 3) := by decide +kernel
theorem dX5_init_12 : decode cX5_init 12 = .ok (.putfield 10, 3) := by decide +kernel
theorem dX5_init_15 : decode cX5_init 15 = .ok (.aload_n 0, 1) := by decide +kernel
theorem dX5_init_16 : decode cX5_init 16 = .ok (.new 7, 3) := by decide +kernel
theorem dX5_init_19 : decode cX5_init 19 = .ok (.dup, 1) := by decide +kernel
theorem dX5_init_20 : decode cX5_init 20 = .ok (.invokespecial 9, 3) := by decide +kernel
theorem dX5_init_23 : decode cX5_init 23 = .ok (.putfield 16, 3) := by decide +kernel
theorem dX5_init_26 : decode cX5_init 26 = .ok (.aload_n 0, 1) := by decide +kernel
theorem dX5_init_27 : decode cX5_init 27 = .ok (.iconst 2, 1) := by decide +kernel
theorem dX5_init_28 : decode cX5_init 28 = .ok (.anewarray 7, 3) := by decide +kernel
theorem dX5_init_31 : decode cX5_init 31 = .ok (.putfield 19, 3) := by decide +kernel
theorem dX5_init_34 : decode cX5_init 34 = .ok (.iconst 0, 1) := by decide +kernel
theorem dX5_init_35 : decode cX5_init 35 = .ok (.istore_n 1, 1) := by decide +kernel
theorem dX5_init_36 : decode cX5_init 36 = .ok (.iload_n 1, 1) := by decide +kernel
theorem dX5_init_37 : decode cX5_init 37 = .ok (.iconst 2, 1) := by decide +kernel
theorem dX5_init_38 : decode cX5_init 38 = .ok (.if_icmp .ge 22, 3) := by decide +kernel
theorem dX5_init_41 : decode cX5_init 41 = .ok (.aload_n 0, 1) := by decide +kernel
theorem dX5_init_42 : decode cX5_init 42 = .ok (.getfield 19, 3) := by decide +kernel
theorem dX5_init_45 : decode cX5_init 45 = .ok (.iload_n 1, 1) := by decide +kernel
theorem dX5_init_46 : decode cX5_init 46 = .ok (.new 7, 3) := by decide +kernel
theorem dX5_init_49 : decode cX5_init 49 = .ok (.dup, 1) := by decide +kernel
theorem dX5_init_50 : decode cX5_init 50 = .ok (.invokespecial 9, 3) := by decide +kernel
theorem dX5_init_53 : decode cX5_init 53 = .ok (.aastore, 1) := by decide +kernel
theorem dX5_init_54 : decode cX5_init 54 = .ok (.iinc 1 1, 3) := by decide +kernel
theorem dX5_init_57 : decode cX5_init 57 = .ok (.goto (-21), 3) := by decide +kernel
theorem dX5_init_60 : decode cX5_init 60 = .ok (.aload_n 0, 1) := by decide +kernel
theorem dX5_init_61 : decode cX5_init 61 = .ok (.iconst 2, 1) := by decide +kernel
theorem dX5_init_62 : decode cX5_init 62 = .ok (.newarray .boolean, 2) := by decide +kernel
theorem dX5_init_64 : decode cX5_init 64 = .ok (.putfield 23, 3) := by decide +kernel
theorem dX5_init_67 : decode cX5_init 67 = .ok (.aload_n 0, 1) := by decide +kernel
theorem dX5_init_68 : decode cX5_init 68 = .ok (.new 27, 3) := by decide +kernel
theorem dX5_init_71 : decode cX5_init 71 = .ok (.dup, 1) := by decide +kernel
theorem dX5_init_72 : decode cX5_init 72 = .ok (.invokespecial 29, 3) := by decide +kernel
theorem dX5_init_75 : decode cX5_init 75 = .ok (.putfield 30, 3) := by decide +kernel
theorem dX5_init_78 : decode cX5_init 78 = .ok (.aload_n 0, 1) := by decide +kernel
theorem dX5_init_79 : decode cX5_init 79 = .ok (.new 34, 3) := by decide +kernel
theorem dX5_init_82 : decode cX5_init 82 = .ok (.dup, 1) := by decide +kernel
theorem dX5_init_83 : decode cX5_init 83 = .ok (.invokespecial 36, 3) := by decide +kernel
theorem dX5_init_86 : decode cX5_init 86 = .ok (.putfield 37, 3) := by decide +kernel
theorem dX5_init_89 : decode cX5_init 89 = .ok (.aload_n 0, 1) := by decide +kernel
theorem dX5_init_90 : decode cX5_init 90 = .ok (.new 41, 3) := by decide +kernel
theorem dX5_init_93 : decode cX5_init 93 = .ok (.dup, 1) := by decide +kernel
theorem dX5_init_94 : decode cX5_init 94 = .ok (.invokespecial 43, 3) := by decide +kernel
theorem dX5_init_97 : decode cX5_init 97 = .ok (.putfield 44, 3) := by decide +kernel
theorem dX5_init_100 : decode cX5_init 100 = .ok (.aload_n 0, 1) := by decide +kernel
theorem dX5_init_101 : decode cX5_init 101 = .ok (.new 48, 3) := by decide +kernel
theorem dX5_init_104 : decode cX5_init 104 = .ok (.dup, 1) := by decide +kernel
theorem dX5_init_105 : decode cX5_init 105 = .ok (.invokespecial 50, 3) := by decide +kernel
theorem dX5_init_108 : decode cX5_init 108 = .ok (.putfield 51, 3) := by decide +kernel
theorem dX5_init_111 : decode cX5_init 111 = .ok (.return_, 1) := by decide +kernel
set_option maxRecDepth 20000 in
theorem ggX5_type_X5_isWithin : GoodIn wsX5_type wsX5_isWithin := goodIn_r _ [6] (by decide +kernel) (by decide +kernel)
set_option maxRecDepth 20000 in
theorem gX5_type_X5_isWithin : GoodIn wsX5_type (va_wsS RX5 55 yX5_isWithin wsX5_isWithin) := goodIn_app (goodIn_of _ (by decide +kernel)) ggX5_type_X5_isWithin
set_option maxRecDepth 20000 in
theorem ggX5_type_X4_append : GoodIn wsX5_type wsX4_append := goodIn_r _ [11, 12, 13, 22, 23, 24, 25, 26, 27] (by decide +kernel) (by decide +kernel)
set_option maxRecDepth 20000 in
theorem gX5_type_X4_append : GoodIn wsX5_type (wsV RX5 59 RX4 yX4_append wsX4_append) := goodIn_app (goodIn_of _ (by decide +kernel)) ggX5_type_X4_append
theorem dX5_type_0 : decode cX5_type 0 = .ok (.iload_n 1, 1) := by decide +kernel
theorem dX5_type_1 : decode cX5_type 1 = .ok (.iconst 0, 1) := by decide +kernel
theorem dX5_type_2 : decode cX5_type 2 = .ok (.sipush 255, 3) := by decide +kernel
theorem dX5_type_5 : decode cX5_type 5 = .ok (.invokestatic 55, 3) := by decide +kernel
theorem dX5_type_8 : decode cX5_type 8 = .ok (.ifCond .ne 5, 3) := by decide +kernel
theorem dX5_type_11 : decode cX5_type 11 = .ok (.iconst (-1), 1) := by decide +kernel
theorem dX5_type_12 : decode cX5_type 12 = .ok (.ireturn, 1) := by decide +kernel
theorem dX5_type_13 : decode cX5_type 13 = .ok (.aload_n 0, 1) := by decide +kernel
theorem dX5_type_14 : decode cX5_type 14 = .ok (.getfield 30, 3) := by decide +kernel
theorem dX5_type_17 : decode cX5_type 17 = .ok (.iload_n 1, 1) := by decide +kernel
theorem dX5_type_18 : decode cX5_type 18 = .ok (.invokevirtual 59, 3) := by decide +kernel
theorem dX5_type_21 : decode cX5_type 21 = .ok (.ifCond .eq 13, 3) := by decide +kernel
theorem dX5_type_24 : decode cX5_type 24 = .ok (.aload_n 0, 1) := by decide +kernel
theorem dX5_type_25 : decode cX5_type 25 = .ok (.getfield 30, 3) := by decide +kernel
theorem dX5_type_28 : decode cX5_type 28 = .ok (.getfield 63, 3) := by decide +kernel
theorem dX5_type_31 : decode cX5_type 31 = .ok (.goto 5, 3) := by decide +kernel
theorem dX5_type_34 : decode cX5_type 34 = .ok (.bipush (-3), 2) := by decide +kernel
theorem dX5_type_36 : decode cX5_type 36 = .ok (.ireturn, 1) := by decide +kernel
theorem dX5_clear_0 : decode cX5_clear 0 = .ok (.aload_n 0, 1) := by decide +kernel
theorem dX5_clear_1 : decode cX5_clear 1 = .ok (.getfield 30, 3) := by decide +kernel
theorem dX5_clear_4 : decode cX5_clear 4 = .ok (.getfield 63, 3) := by decide +kernel
theorem dX5_clear_7 : decode cX5_clear 7 = .ok (.istore_n 1, 1) := by decide +kernel
theorem dX5_clear_8 : decode cX5_clear 8 = .ok (.aload_n 0, 1) := by decide +kernel
theorem dX5_clear_9 : decode cX5_clear 9 = .ok (.getfield 30, 3) := by decide +kernel
theorem dX5_clear_12 : decode cX5_clear 12 = .ok (.iconst 0, 1) := by decide +kernel
theorem dX5_clear_13 : decode cX5_clear 13 = .ok (.putfield 63, 3) := by decide +kernel
theorem dX5_clear_16 : decode cX5_clear 16 = .ok (.iload_n 1, 1) := by decide +kernel
theorem dX5_clear_17 : decode cX5_clear 17 = .ok (.ireturn, 1) := by decide +kernel
set_option maxRecDepth 20000 in
theorem ggX5_room_X4_readInto : GoodIn wsX5_room wsX4_readInto := goodIn_r _ [13, 14, 15, 16, 17, 18, 19, 20, 21, 22, 23, 24, 25, 26, 27, 28, 29, 30, 31, 32, 33, 34, 35, 12, 36, 37, 38, 39, 40, 41, 42, 43, 44, 45, 46, 47, 48, 49, 50, 51, 52, 53, 54, 55, 56, 57, 58, 59, 60, 61, 62, 63, 64, 65, 66, 67, 68, 69, 70, 71, 72, 73, 74, 75, 76, 77, 78, 79, 80, 81, 82, 83, 84, 85, 86, 87, 88, 89, 90, 91, 92, 93, 94, 95, 96, 97, 124, 125, 126, 127, 128, 129, 143, 144, 145, 146, 147, 148, 149, 150, 151, 152, 153, 154] (by decide +kernel) (by decide +kernel)
set_option maxRecDepth 20000 in
theorem gX5_room_X4_readInto : GoodIn wsX5_room (wsV RX5 67 RX4 yX4_readInto wsX4_readInto) := goodIn_app (goodIn_of _ (by decide +kernel)) ggX5_room_X4_readInto
set_option maxRecDepth 20000 in
theorem ggX5_room_X3_copyFrom : GoodIn wsX5_room wsX3_copyFrom := goodIn_r _ [101, 22, 23, 24, 25, 26, 27, 28, 102, 103, 104, 105, 106, 107, 108, 109, 110, 143, 144, 145, 146, 147, 148, 149, 150, 151, 152, 153, 154] (by decide +kernel) (by decide +kernel)
set_option maxRecDepth 20000 in
theorem gX5_room_X3_copyFrom : GoodIn wsX5_room (wsV RX5 71 RX3 yX3_copyFrom wsX3_copyFrom) := goodIn_app (goodIn_of _ (by decide +kernel)) ggX5_room_X3_copyFrom
set_option maxRecDepth 20000 in
theorem ggX5_room_X5_dropKept : GoodIn wsX5_room wsX5_dropKept := goodIn_r _ [114, 115, 116, 117, 118, 119, 120, 121, 122, 123] (by decide +kernel) (by decide +kernel)
set_option maxRecDepth 20000 in
theorem gX5_room_X5_dropKept : GoodIn wsX5_room (wsV RX5 79 RX5 yX5_dropKept wsX5_dropKept) := goodIn_app (goodIn_of _ (by decide +kernel)) ggX5_room_X5_dropKept
theorem dX5_room_0 : decode cX5_room 0 = .ok (.aload_n 0, 1) := by decide +kernel
theorem dX5_room_1 : decode cX5_room 1 = .ok (.getfield 30, 3) := by decide +kernel
theorem dX5_room_4 : decode cX5_room 4 = .ok (.aload_n 0, 1) := by decide +kernel
theorem dX5_room_5 : decode cX5_room 5 = .ok (.getfield 16, 3) := by decide +kernel
theorem dX5_room_8 : decode cX5_room 8 = .ok (.invokevirtual 67, 3) := by decide +kernel
theorem dX5_room_11 : decode cX5_room 11 = .ok (.istore_n 1, 1) := by decide +kernel
theorem dX5_room_12 : decode cX5_room 12 = .ok (.iload_n 1, 1) := by decide +kernel
theorem dX5_room_13 : decode cX5_room 13 = .ok (.ifCond .ge 5, 3) := by decide +kernel
theorem dX5_room_16 : decode cX5_room 16 = .ok (.iload_n 1, 1) := by decide +kernel
theorem dX5_room_17 : decode cX5_room 17 = .ok (.ireturn, 1) := by decide +kernel
theorem dX5_room_18 : decode cX5_room 18 = .ok (.aload_n 0, 1) := by decide +kernel
theorem dX5_room_19 : decode cX5_room 19 = .ok (.getfield 10, 3) := by decide +kernel
theorem dX5_room_22 : decode cX5_room 22 = .ok (.aload_n 0, 1) := by decide +kernel
theorem dX5_room_23 : decode cX5_room 23 = .ok (.getfield 16, 3) := by decide +kernel
theorem dX5_room_26 : decode cX5_room 26 = .ok (.invokevirtual 71, 3) := by decide +kernel
theorem dX5_room_29 : decode cX5_room 29 = .ok (.aload_n 0, 1) := by decide +kernel
theorem dX5_room_30 : decode cX5_room 30 = .ok (.getfield 30, 3) := by decide +kernel
theorem dX5_room_33 : decode cX5_room 33 = .ok (.iconst 0, 1) := by decide +kernel
theorem dX5_room_34 : decode cX5_room 34 = .ok (.putfield 63, 3) := by decide +kernel
theorem dX5_room_37 : decode cX5_room 37 = .ok (.aload_n 0, 1) := by decide +kernel
theorem dX5_room_38 : decode cX5_room 38 = .ok (.getfield 37, 3) := by decide +kernel
theorem dX5_room_41 : decode cX5_room 41 = .ok (.iconst 0, 1) := by decide +kernel
theorem dX5_room_42 : decode cX5_room 42 = .ok (.putfield 75, 3) := by decide +kernel
theorem dX5_room_45 : decode cX5_room 45 = .ok (.aload_n 0, 1) := by decide +kernel
theorem dX5_room_46 : decode cX5_room 46 = .ok (.getfield 51, 3) := by decide +kernel
theorem dX5_room_49 : decode cX5_room 49 = .ok (.iconst 0, 1) := by decide +kernel
theorem dX5_room_50 : decode cX5_room 50 = .ok (.putfield 76, 3) := by decide +kernel
theorem dX5_room_53 : decode cX5_room 53 = .ok (.aload_n 0, 1) := by decide +kernel
theorem dX5_room_54 : decode cX5_room 54 = .ok (.invokevirtual 79, 3) := by decide +kernel
theorem dX5_room_57 : decode cX5_room 57 = .ok (.iload_n 1, 1) := by decide +kernel
theorem dX5_room_58 : decode cX5_room 58 = .ok (.ireturn, 1) := by decide +kernel
set_option maxRecDepth 20000 in
theorem ggX5_wall_X5_isWithin : GoodIn wsX5_wall wsX5_isWithin := goodIn_r _ [6] (by decide +kernel) (by decide +kernel)
set_option maxRecDepth 20000 in
theorem gX5_wall_X5_isWithin : GoodIn wsX5_wall (va_wsS RX5 55 yX5_isWithin wsX5_isWithin) := goodIn_app (goodIn_of _ (by decide +kernel)) ggX5_wall_X5_isWithin
theorem dX5_wall_0 : decode cX5_wall 0 = .ok (.iload_n 1, 1) := by decide +kernel
theorem dX5_wall_1 : decode cX5_wall 1 = .ok (.iconst 0, 1) := by decide +kernel
theorem dX5_wall_2 : decode cX5_wall 2 = .ok (.iconst 3, 1) := by decide +kernel
theorem dX5_wall_3 : decode cX5_wall 3 = .ok (.invokestatic 55, 3) := by decide +kernel
theorem dX5_wall_6 : decode cX5_wall 6 = .ok (.ifCond .eq 15, 3) := by decide +kernel
theorem dX5_wall_9 : decode cX5_wall 9 = .ok (.aload_n 0, 1) := by decide +kernel
theorem dX5_wall_10 : decode cX5_wall 10 = .ok (.getfield 10, 3) := by decide +kernel
theorem dX5_wall_13 : decode cX5_wall 13 = .ok (.getfield 82, 3) := by decide +kernel
theorem dX5_wall_16 : decode cX5_wall 16 = .ok (.iload_n 1, 1) := by decide +kernel
theorem dX5_wall_17 : decode cX5_wall 17 = .ok (.iaload, 1) := by decide +kernel
theorem dX5_wall_18 : decode cX5_wall 18 = .ok (.goto 4, 3) := by decide +kernel
theorem dX5_wall_21 : decode cX5_wall 21 = .ok (.iconst (-1), 1) := by decide +kernel
theorem dX5_wall_22 : decode cX5_wall 22 = .ok (.ireturn, 1) := by decide +kernel
set_option maxRecDepth 20000 in
theorem ggX5_seat_X3_hasSeat : GoodIn wsX5_seat wsX3_hasSeat := goodIn_r _ [8, 9, 22, 23, 24, 25, 26, 27, 28, 29, 30, 31, 32, 33] (by decide +kernel) (by decide +kernel)
set_option maxRecDepth 20000 in
theorem gX5_seat_X3_hasSeat : GoodIn wsX5_seat (wsV RX5 86 RX3 yX3_hasSeat wsX3_hasSeat) := goodIn_app (goodIn_of _ (by decide +kernel)) ggX5_seat_X3_hasSeat
set_option maxRecDepth 20000 in
theorem ggX5_seat_X5_isWithin : GoodIn wsX5_seat wsX5_isWithin := goodIn_r _ [13] (by decide +kernel) (by decide +kernel)
set_option maxRecDepth 20000 in
theorem gX5_seat_X5_isWithin : GoodIn wsX5_seat (va_wsS RX5 55 yX5_isWithin wsX5_isWithin) := goodIn_app (goodIn_of _ (by decide +kernel)) ggX5_seat_X5_isWithin
theorem dX5_seat_0 : decode cX5_seat 0 = .ok (.aload_n 0, 1) := by decide +kernel
theorem dX5_seat_1 : decode cX5_seat 1 = .ok (.getfield 10, 3) := by decide +kernel
theorem dX5_seat_4 : decode cX5_seat 4 = .ok (.iload_n 1, 1) := by decide +kernel
theorem dX5_seat_5 : decode cX5_seat 5 = .ok (.invokevirtual 86, 3) := by decide +kernel
theorem dX5_seat_8 : decode cX5_seat 8 = .ok (.ifCond .eq 12, 3) := by decide +kernel
theorem dX5_seat_11 : decode cX5_seat 11 = .ok (.iload_n 2, 1) := by decide +kernel
theorem dX5_seat_12 : decode cX5_seat 12 = .ok (.iconst 0, 1) := by decide +kernel
theorem dX5_seat_13 : decode cX5_seat 13 = .ok (.iconst 1, 1) := by decide +kernel
theorem dX5_seat_14 : decode cX5_seat 14 = .ok (.invokestatic 55, 3) := by decide +kernel
theorem dX5_seat_17 : decode cX5_seat 17 = .ok (.ifCond .ne 5, 3) := by decide +kernel
theorem dX5_seat_20 : decode cX5_seat 20 = .ok (.iconst (-1), 1) := by decide +kernel
theorem dX5_seat_21 : decode cX5_seat 21 = .ok (.ireturn, 1) := by decide +kernel
theorem dX5_seat_22 : decode cX5_seat 22 = .ok (.iload_n 2, 1) := by decide +kernel
theorem dX5_seat_23 : decode cX5_seat 23 = .ok (.ifCond .ne 15, 3) := by decide +kernel
theorem dX5_seat_26 : decode cX5_seat 26 = .ok (.aload_n 0, 1) := by decide +kernel
theorem dX5_seat_27 : decode cX5_seat 27 = .ok (.getfield 10, 3) := by decide +kernel
theorem dX5_seat_30 : decode cX5_seat 30 = .ok (.getfield 89, 3) := by decide +kernel
theorem dX5_seat_33 : decode cX5_seat 33 = .ok (.iload_n 1, 1) := by decide +kernel
theorem dX5_seat_34 : decode cX5_seat 34 = .ok (.iaload, 1) := by decide +kernel
theorem dX5_seat_35 : decode cX5_seat 35 = .ok (.goto 12, 3) := by decide +kernel
theorem dX5_seat_38 : decode cX5_seat 38 = .ok (.aload_n 0, 1) := by decide +kernel
theorem dX5_seat_39 : decode cX5_seat 39 = .ok (.getfield 10, 3) := by decide +kernel
theorem dX5_seat_42 : decode cX5_seat 42 = .ok (.getfield 92, 3) := by decide +kernel
theorem dX5_seat_45 : decode cX5_seat 45 = .ok (.iload_n 1, 1) := by decide +kernel
theorem dX5_seat_46 : decode cX5_seat 46 = .ok (.iaload, 1) := by decide +kernel
theorem dX5_seat_47 : decode cX5_seat 47 = .ok (.ireturn, 1) := by decide +kernel
set_option maxRecDepth 20000 in
theorem ggX5_curtain_X3_hasCurtain : GoodIn wsX5_curtain wsX3_hasCurtain := goodIn_r _ [9, 10, 19, 20, 21, 22, 23, 24, 25, 26, 27, 28, 29, 30] (by decide +kernel) (by decide +kernel)
set_option maxRecDepth 20000 in
theorem gX5_curtain_X3_hasCurtain : GoodIn wsX5_curtain (wsV RX5 95 RX3 yX3_hasCurtain wsX3_hasCurtain) := goodIn_app (goodIn_of _ (by decide +kernel)) ggX5_curtain_X3_hasCurtain
theorem dX5_curtain_0 : decode cX5_curtain 0 = .ok (.aload_n 0, 1) := by decide +kernel
theorem dX5_curtain_1 : decode cX5_curtain 1 = .ok (.getfield 10, 3) := by decide +kernel
theorem dX5_curtain_4 : decode cX5_curtain 4 = .ok (.iload_n 1, 1) := by decide +kernel
theorem dX5_curtain_5 : decode cX5_curtain 5 = .ok (.invokevirtual 95, 3) := by decide +kernel
theorem dX5_curtain_8 : decode cX5_curtain 8 = .ok (.ifCond .ne 5, 3) := by decide +kernel
theorem dX5_curtain_11 : decode cX5_curtain 11 = .ok (.iconst (-1), 1) := by decide +kernel
theorem dX5_curtain_12 : decode cX5_curtain 12 = .ok (.ireturn, 1) := by decide +kernel
theorem dX5_curtain_13 : decode cX5_curtain 13 = .ok (.iload_n 2, 1) := by decide +kernel
theorem dX5_curtain_14 : decode cX5_curtain 14 = .ok (.tableswitch 56 0 2 #[26, 36, 46], 26) := by decide +kernel
theorem dX5_curtain_40 : decode cX5_curtain 40 = .ok (.aload_n 0, 1) := by decide +kernel
theorem dX5_curtain_41 : decode cX5_curtain 41 = .ok (.getfield 10, 3) := by decide +kernel
theorem dX5_curtain_44 : decode cX5_curtain 44 = .ok (.getfield 98, 3) := by decide +kernel
theorem dX5_curtain_47 : decode cX5_curtain 47 = .ok (.iload_n 1, 1) := by decide +kernel
theorem dX5_curtain_48 : decode cX5_curtain 48 = .ok (.iaload, 1) := by decide +kernel
theorem dX5_curtain_49 : decode cX5_curtain 49 = .ok (.ireturn, 1) := by decide +kernel
theorem dX5_curtain_50 : decode cX5_curtain 50 = .ok (.aload_n 0, 1) := by decide +kernel
theorem dX5_curtain_51 : decode cX5_curtain 51 = .ok (.getfield 10, 3) := by decide +kernel
theorem dX5_curtain_54 : decode cX5_curtain 54 = .ok (.getfield 101, 3) := by decide +kernel
theorem dX5_curtain_57 : decode cX5_curtain 57 = .ok (.iload_n 1, 1) := by decide +kernel
theorem dX5_curtain_58 : decode cX5_curtain 58 = .ok (.iaload, 1) := by decide +kernel
theorem dX5_curtain_59 : decode cX5_curtain 59 = .ok (.ireturn, 1) := by decide +kernel
theorem dX5_curtain_60 : decode cX5_curtain 60 = .ok (.aload_n 0, 1) := by decide +kernel
theorem dX5_curtain_61 : decode cX5_curtain 61 = .ok (.getfield 10, 3) := by decide +kernel
theorem dX5_curtain_64 : decode cX5_curtain 64 = .ok (.getfield 104, 3) := by decide +kernel
theorem dX5_curtain_67 : decode cX5_curtain 67 = .ok (.iload_n 1, 1) := by decide +kernel
theorem dX5_curtain_68 : decode cX5_curtain 68 = .ok (.iaload, 1) := by decide +kernel
theorem dX5_curtain_69 : decode cX5_curtain 69 = .ok (.ireturn, 1) := by decide +kernel
theorem dX5_curtain_70 : decode cX5_curtain 70 = .ok (.iconst (-1), 1) := by decide +kernel
theorem dX5_curtain_71 : decode cX5_curtain 71 = .ok (.ireturn, 1) := by decide +kernel
set_option maxRecDepth 20000 in
theorem ggX5_pads_X5_isWithin : GoodIn wsX5_pads wsX5_isWithin := goodIn_r _ [7] (by decide +kernel) (by decide +kernel)
set_option maxRecDepth 20000 in
theorem gX5_pads_X5_isWithin : GoodIn wsX5_pads (va_wsS RX5 55 yX5_isWithin wsX5_isWithin) := goodIn_app (goodIn_of _ (by decide +kernel)) ggX5_pads_X5_isWithin
set_option maxRecDepth 20000 in
theorem ggX5_pads_X2_add : GoodIn wsX5_pads wsX2_add := goodIn_r _ [12, 13, 14, 15, 16, 17, 18, 19, 20, 11, 21, 22, 23, 24, 25, 46, 47, 48, 49, 50] (by decide +kernel) (by decide +kernel)
set_option maxRecDepth 20000 in
theorem gX5_pads_X2_add : GoodIn wsX5_pads (wsV RX5 107 RX2 yX2_add wsX2_add) := goodIn_app (goodIn_of _ (by decide +kernel)) ggX5_pads_X2_add
theorem dX5_pads_0 : decode cX5_pads 0 = .ok (.iload_n 1, 1) := by decide +kernel
theorem dX5_pads_1 : decode cX5_pads 1 = .ok (.iconst 0, 1) := by decide +kernel
theorem dX5_pads_2 : decode cX5_pads 2 = .ok (.iconst 3, 1) := by decide +kernel
theorem dX5_pads_3 : decode cX5_pads 3 = .ok (.invokestatic 55, 3) := by decide +kernel
theorem dX5_pads_6 : decode cX5_pads 6 = .ok (.ifCond .eq 13, 3) := by decide +kernel
theorem dX5_pads_9 : decode cX5_pads 9 = .ok (.iload_n 2, 1) := by decide +kernel
theorem dX5_pads_10 : decode cX5_pads 10 = .ok (.iconst 0, 1) := by decide +kernel
theorem dX5_pads_11 : decode cX5_pads 11 = .ok (.bipush 10, 2) := by decide +kernel
theorem dX5_pads_13 : decode cX5_pads 13 = .ok (.invokestatic 55, 3) := by decide +kernel
theorem dX5_pads_16 : decode cX5_pads 16 = .ok (.ifCond .ne 5, 3) := by decide +kernel
theorem dX5_pads_19 : decode cX5_pads 19 = .ok (.iconst (-1), 1) := by decide +kernel
theorem dX5_pads_20 : decode cX5_pads 20 = .ok (.ireturn, 1) := by decide +kernel
theorem dX5_pads_21 : decode cX5_pads 21 = .ok (.aload_n 0, 1) := by decide +kernel
theorem dX5_pads_22 : decode cX5_pads 22 = .ok (.getfield 10, 3) := by decide +kernel
theorem dX5_pads_25 : decode cX5_pads 25 = .ok (.getfield 82, 3) := by decide +kernel
theorem dX5_pads_28 : decode cX5_pads 28 = .ok (.iload_n 1, 1) := by decide +kernel
theorem dX5_pads_29 : decode cX5_pads 29 = .ok (.iaload, 1) := by decide +kernel
theorem dX5_pads_30 : decode cX5_pads 30 = .ok (.istore_n 3, 1) := by decide +kernel
theorem dX5_pads_31 : decode cX5_pads 31 = .ok (.iload_n 3, 1) := by decide +kernel
theorem dX5_pads_32 : decode cX5_pads 32 = .ok (.iload_n 2, 1) := by decide +kernel
theorem dX5_pads_33 : decode cX5_pads 33 = .ok (.if_icmp .ne 6, 3) := by decide +kernel
theorem dX5_pads_36 : decode cX5_pads 36 = .ok (.bipush (-2), 2) := by decide +kernel
theorem dX5_pads_38 : decode cX5_pads 38 = .ok (.ireturn, 1) := by decide +kernel
theorem dX5_pads_39 : decode cX5_pads 39 = .ok (.aload_n 0, 1) := by decide +kernel
theorem dX5_pads_40 : decode cX5_pads 40 = .ok (.getfield 37, 3) := by decide +kernel
theorem dX5_pads_43 : decode cX5_pads 43 = .ok (.iconst 0, 1) := by decide +kernel
theorem dX5_pads_44 : decode cX5_pads 44 = .ok (.iload_n 1, 1) := by decide +kernel
theorem dX5_pads_45 : decode cX5_pads 45 = .ok (.iload_n 3, 1) := by decide +kernel
theorem dX5_pads_46 : decode cX5_pads 46 = .ok (.iconst 0, 1) := by decide +kernel
theorem dX5_pads_47 : decode cX5_pads 47 = .ok (.invokevirtual 107, 3) := by decide +kernel
theorem dX5_pads_50 : decode cX5_pads 50 = .ok (.aload_n 0, 1) := by decide +kernel
theorem dX5_pads_51 : decode cX5_pads 51 = .ok (.getfield 10, 3) := by decide +kernel
theorem dX5_pads_54 : decode cX5_pads 54 = .ok (.getfield 82, 3) := by decide +kernel
theorem dX5_pads_57 : decode cX5_pads 57 = .ok (.iload_n 1, 1) := by decide +kernel
theorem dX5_pads_58 : decode cX5_pads 58 = .ok (.iload_n 2, 1) := by decide +kernel
theorem dX5_pads_59 : decode cX5_pads 59 = .ok (.iastore, 1) := by decide +kernel
theorem dX5_pads_60 : decode cX5_pads 60 = .ok (.iload_n 3, 1) := by decide +kernel
theorem dX5_pads_61 : decode cX5_pads 61 = .ok (.ireturn, 1) := by decide +kernel
set_option maxRecDepth 20000 in
theorem ggX5_draws_X3_hasCurtain : GoodIn wsX5_draws wsX3_hasCurtain := goodIn_r _ [10, 11, 42, 43, 44, 45, 46, 47, 48, 49, 50, 51, 52, 53] (by decide +kernel) (by decide +kernel)
set_option maxRecDepth 20000 in
theorem gX5_draws_X3_hasCurtain : GoodIn wsX5_draws (wsV RX5 95 RX3 yX3_hasCurtain wsX3_hasCurtain) := goodIn_app (goodIn_of _ (by decide +kernel)) ggX5_draws_X3_hasCurtain
set_option maxRecDepth 20000 in
theorem ggX5_draws_X5_isWithin : GoodIn wsX5_draws wsX5_isWithin := goodIn_r _ [15] (by decide +kernel) (by decide +kernel)
set_option maxRecDepth 20000 in
theorem gX5_draws_X5_isWithin : GoodIn wsX5_draws (va_wsS RX5 55 yX5_isWithin wsX5_isWithin) := goodIn_app (goodIn_of _ (by decide +kernel)) ggX5_draws_X5_isWithin
set_option maxRecDepth 20000 in
theorem ggX5_draws_X2_add : GoodIn wsX5_draws wsX2_add := goodIn_r _ [20, 21, 22, 23, 24, 25, 26, 27, 28, 19, 29, 30, 31, 32, 33, 54, 55, 56, 57, 58] (by decide +kernel) (by decide +kernel)
set_option maxRecDepth 20000 in
theorem gX5_draws_X2_add : GoodIn wsX5_draws (wsV RX5 107 RX2 yX2_add wsX2_add) := goodIn_app (goodIn_of _ (by decide +kernel)) ggX5_draws_X2_add
theorem dX5_draws_0 : decode cX5_draws 0 = .ok (.aload_n 0, 1) := by decide +kernel
theorem dX5_draws_1 : decode cX5_draws 1 = .ok (.getfield 10, 3) := by decide +kernel
theorem dX5_draws_4 : decode cX5_draws 4 = .ok (.iload_n 1, 1) := by decide +kernel
theorem dX5_draws_5 : decode cX5_draws 5 = .ok (.invokevirtual 95, 3) := by decide +kernel
theorem dX5_draws_8 : decode cX5_draws 8 = .ok (.ifCond .eq 33, 3) := by decide +kernel
theorem dX5_draws_11 : decode cX5_draws 11 = .ok (.iload_n 2, 1) := by decide +kernel
theorem dX5_draws_12 : decode cX5_draws 12 = .ok (.iconst 0, 1) := by decide +kernel
theorem dX5_draws_13 : decode cX5_draws 13 = .ok (.aload_n 0, 1) := by decide +kernel
theorem dX5_draws_14 : decode cX5_draws 14 = .ok (.getfield 10, 3) := by decide +kernel
theorem dX5_draws_17 : decode cX5_draws 17 = .ok (.getfield 111, 3) := by decide +kernel
theorem dX5_draws_20 : decode cX5_draws 20 = .ok (.invokestatic 55, 3) := by decide +kernel
theorem dX5_draws_23 : decode cX5_draws 23 = .ok (.ifCond .eq 18, 3) := by decide +kernel
theorem dX5_draws_26 : decode cX5_draws 26 = .ok (.iload_n 3, 1) := by decide +kernel
theorem dX5_draws_27 : decode cX5_draws 27 = .ok (.iload_n 2, 1) := by decide +kernel
theorem dX5_draws_28 : decode cX5_draws 28 = .ok (.aload_n 0, 1) := by decide +kernel
theorem dX5_draws_29 : decode cX5_draws 29 = .ok (.getfield 10, 3) := by decide +kernel
theorem dX5_draws_32 : decode cX5_draws 32 = .ok (.getfield 111, 3) := by decide +kernel
theorem dX5_draws_35 : decode cX5_draws 35 = .ok (.invokestatic 55, 3) := by decide +kernel
theorem dX5_draws_38 : decode cX5_draws 38 = .ok (.ifCond .ne 5, 3) := by decide +kernel
theorem dX5_draws_41 : decode cX5_draws 41 = .ok (.iconst (-1), 1) := by decide +kernel
theorem dX5_draws_42 : decode cX5_draws 42 = .ok (.ireturn, 1) := by decide +kernel
theorem dX5_draws_43 : decode cX5_draws 43 = .ok (.aload_n 0, 1) := by decide +kernel
theorem dX5_draws_44 : decode cX5_draws 44 = .ok (.getfield 10, 3) := by decide +kernel
theorem dX5_draws_47 : decode cX5_draws 47 = .ok (.getfield 101, 3) := by decide +kernel
theorem dX5_draws_50 : decode cX5_draws 50 = .ok (.iload_n 1, 1) := by decide +kernel
theorem dX5_draws_51 : decode cX5_draws 51 = .ok (.iaload, 1) := by decide +kernel
theorem dX5_draws_52 : decode cX5_draws 52 = .ok (.istore 4, 2) := by decide +kernel
theorem dX5_draws_54 : decode cX5_draws 54 = .ok (.aload_n 0, 1) := by decide +kernel
theorem dX5_draws_55 : decode cX5_draws 55 = .ok (.getfield 10, 3) := by decide +kernel
theorem dX5_draws_58 : decode cX5_draws 58 = .ok (.getfield 104, 3) := by decide +kernel
theorem dX5_draws_61 : decode cX5_draws 61 = .ok (.iload_n 1, 1) := by decide +kernel
theorem dX5_draws_62 : decode cX5_draws 62 = .ok (.iaload, 1) := by decide +kernel
theorem dX5_draws_63 : decode cX5_draws 63 = .ok (.istore 5, 2) := by decide +kernel
theorem dX5_draws_65 : decode cX5_draws 65 = .ok (.iload 4, 2) := by decide +kernel
theorem dX5_draws_67 : decode cX5_draws 67 = .ok (.iload_n 2, 1) := by decide +kernel
theorem dX5_draws_68 : decode cX5_draws 68 = .ok (.if_icmp .ne 12, 3) := by decide +kernel
theorem dX5_draws_71 : decode cX5_draws 71 = .ok (.iload 5, 2) := by decide +kernel
theorem dX5_draws_73 : decode cX5_draws 73 = .ok (.iload_n 3, 1) := by decide +kernel
theorem dX5_draws_74 : decode cX5_draws 74 = .ok (.if_icmp .ne 6, 3) := by decide +kernel
theorem dX5_draws_77 : decode cX5_draws 77 = .ok (.bipush (-2), 2) := by decide +kernel
theorem dX5_draws_79 : decode cX5_draws 79 = .ok (.ireturn, 1) := by decide +kernel
theorem dX5_draws_80 : decode cX5_draws 80 = .ok (.aload_n 0, 1) := by decide +kernel
theorem dX5_draws_81 : decode cX5_draws 81 = .ok (.getfield 37, 3) := by decide +kernel
theorem dX5_draws_84 : decode cX5_draws 84 = .ok (.iconst 1, 1) := by decide +kernel
theorem dX5_draws_85 : decode cX5_draws 85 = .ok (.iload_n 1, 1) := by decide +kernel
theorem dX5_draws_86 : decode cX5_draws 86 = .ok (.iload 4, 2) := by decide +kernel
theorem dX5_draws_88 : decode cX5_draws 88 = .ok (.iload 5, 2) := by decide +kernel
theorem dX5_draws_90 : decode cX5_draws 90 = .ok (.invokevirtual 107, 3) := by decide +kernel
theorem dX5_draws_93 : decode cX5_draws 93 = .ok (.aload_n 0, 1) := by decide +kernel
theorem dX5_draws_94 : decode cX5_draws 94 = .ok (.getfield 10, 3) := by decide +kernel
theorem dX5_draws_97 : decode cX5_draws 97 = .ok (.getfield 101, 3) := by decide +kernel
theorem dX5_draws_100 : decode cX5_draws 100 = .ok (.iload_n 1, 1) := by decide +kernel
theorem dX5_draws_101 : decode cX5_draws 101 = .ok (.iload_n 2, 1) := by decide +kernel
theorem dX5_draws_102 : decode cX5_draws 102 = .ok (.iastore, 1) := by decide +kernel
theorem dX5_draws_103 : decode cX5_draws 103 = .ok (.aload_n 0, 1) := by decide +kernel
theorem dX5_draws_104 : decode cX5_draws 104 = .ok (.getfield 10, 3) := by decide +kernel
theorem dX5_draws_107 : decode cX5_draws 107 = .ok (.getfield 104, 3) := by decide +kernel
theorem dX5_draws_110 : decode cX5_draws 110 = .ok (.iload_n 1, 1) := by decide +kernel
theorem dX5_draws_111 : decode cX5_draws 111 = .ok (.iload_n 3, 1) := by decide +kernel
theorem dX5_draws_112 : decode cX5_draws 112 = .ok (.iastore, 1) := by decide +kernel
theorem dX5_draws_113 : decode cX5_draws 113 = .ok (.bipush 100, 2) := by decide +kernel
theorem dX5_draws_115 : decode cX5_draws 115 = .ok (.iload 4, 2) := by decide +kernel
theorem dX5_draws_117 : decode cX5_draws 117 = .ok (.imul, 1) := by decide +kernel
theorem dX5_draws_118 : decode cX5_draws 118 = .ok (.iload 5, 2) := by decide +kernel
theorem dX5_draws_120 : decode cX5_draws 120 = .ok (.iadd, 1) := by decide +kernel
theorem dX5_draws_121 : decode cX5_draws 121 = .ok (.ireturn, 1) := by decide +kernel
set_option maxRecDepth 20000 in
theorem ggX5_moves_X5_isWithin : GoodIn wsX5_moves wsX5_isWithin := goodIn_r _ [10] (by decide +kernel) (by decide +kernel)
set_option maxRecDepth 20000 in
theorem gX5_moves_X5_isWithin : GoodIn wsX5_moves (va_wsS RX5 55 yX5_isWithin wsX5_isWithin) := goodIn_app (goodIn_of _ (by decide +kernel)) ggX5_moves_X5_isWithin
set_option maxRecDepth 20000 in
theorem ggX5_moves_X3_sourceCode : GoodIn wsX5_moves wsX3_sourceCode := goodIn_r _ [15, 16, 17, 44, 45, 46, 47, 48, 49, 50, 51, 52, 53, 54, 55] (by decide +kernel) (by decide +kernel)
set_option maxRecDepth 20000 in
theorem gX5_moves_X3_sourceCode : GoodIn wsX5_moves (wsV RX5 123 RX3 yX3_sourceCode wsX3_sourceCode) := goodIn_app (goodIn_of _ (by decide +kernel)) ggX5_moves_X3_sourceCode
set_option maxRecDepth 20000 in
theorem ggX5_moves_X2_add : GoodIn wsX5_moves wsX2_add := goodIn_r _ [22, 23, 24, 25, 26, 27, 28, 29, 30, 21, 31, 32, 33, 34, 35, 56, 57, 58, 59, 60] (by decide +kernel) (by decide +kernel)
set_option maxRecDepth 20000 in
theorem gX5_moves_X2_add : GoodIn wsX5_moves (wsV RX5 107 RX2 yX2_add wsX2_add) := goodIn_app (goodIn_of _ (by decide +kernel)) ggX5_moves_X2_add
theorem dX5_moves_0 : decode cX5_moves 0 = .ok (.iload_n 1, 1) := by decide +kernel
theorem dX5_moves_1 : decode cX5_moves 1 = .ok (.iconst 0, 1) := by decide +kernel
theorem dX5_moves_2 : decode cX5_moves 2 = .ok (.aload_n 0, 1) := by decide +kernel
theorem dX5_moves_3 : decode cX5_moves 3 = .ok (.getfield 10, 3) := by decide +kernel
theorem dX5_moves_6 : decode cX5_moves 6 = .ok (.getfield 114, 3) := by decide +kernel
theorem dX5_moves_9 : decode cX5_moves 9 = .ok (.invokestatic 55, 3) := by decide +kernel
theorem dX5_moves_12 : decode cX5_moves 12 = .ok (.ifCond .eq 18, 3) := by decide +kernel
theorem dX5_moves_15 : decode cX5_moves 15 = .ok (.iload_n 2, 1) := by decide +kernel
theorem dX5_moves_16 : decode cX5_moves 16 = .ok (.iconst 0, 1) := by decide +kernel
theorem dX5_moves_17 : decode cX5_moves 17 = .ok (.aload_n 0, 1) := by decide +kernel
theorem dX5_moves_18 : decode cX5_moves 18 = .ok (.getfield 10, 3) := by decide +kernel
theorem dX5_moves_21 : decode cX5_moves 21 = .ok (.getfield 111, 3) := by decide +kernel
theorem dX5_moves_24 : decode cX5_moves 24 = .ok (.invokestatic 55, 3) := by decide +kernel
theorem dX5_moves_27 : decode cX5_moves 27 = .ok (.ifCond .ne 5, 3) := by decide +kernel
theorem dX5_moves_30 : decode cX5_moves 30 = .ok (.iconst (-1), 1) := by decide +kernel
theorem dX5_moves_31 : decode cX5_moves 31 = .ok (.ireturn, 1) := by decide +kernel
theorem dX5_moves_32 : decode cX5_moves 32 = .ok (.aload_n 0, 1) := by decide +kernel
theorem dX5_moves_33 : decode cX5_moves 33 = .ok (.getfield 10, 3) := by decide +kernel
theorem dX5_moves_36 : decode cX5_moves 36 = .ok (.getfield 117, 3) := by decide +kernel
theorem dX5_moves_39 : decode cX5_moves 39 = .ok (.iload_n 1, 1) := by decide +kernel
theorem dX5_moves_40 : decode cX5_moves 40 = .ok (.if_icmp .ne 17, 3) := by decide +kernel
theorem dX5_moves_43 : decode cX5_moves 43 = .ok (.aload_n 0, 1) := by decide +kernel
theorem dX5_moves_44 : decode cX5_moves 44 = .ok (.getfield 10, 3) := by decide +kernel
theorem dX5_moves_47 : decode cX5_moves 47 = .ok (.getfield 120, 3) := by decide +kernel
theorem dX5_moves_50 : decode cX5_moves 50 = .ok (.iload_n 2, 1) := by decide +kernel
theorem dX5_moves_51 : decode cX5_moves 51 = .ok (.if_icmp .ne 6, 3) := by decide +kernel
theorem dX5_moves_54 : decode cX5_moves 54 = .ok (.bipush (-2), 2) := by decide +kernel
theorem dX5_moves_56 : decode cX5_moves 56 = .ok (.ireturn, 1) := by decide +kernel
theorem dX5_moves_57 : decode cX5_moves 57 = .ok (.aload_n 0, 1) := by decide +kernel
theorem dX5_moves_58 : decode cX5_moves 58 = .ok (.getfield 10, 3) := by decide +kernel
theorem dX5_moves_61 : decode cX5_moves 61 = .ok (.invokevirtual 123, 3) := by decide +kernel
theorem dX5_moves_64 : decode cX5_moves 64 = .ok (.istore_n 3, 1) := by decide +kernel
theorem dX5_moves_65 : decode cX5_moves 65 = .ok (.aload_n 0, 1) := by decide +kernel
theorem dX5_moves_66 : decode cX5_moves 66 = .ok (.getfield 37, 3) := by decide +kernel
theorem dX5_moves_69 : decode cX5_moves 69 = .ok (.iconst 2, 1) := by decide +kernel
theorem dX5_moves_70 : decode cX5_moves 70 = .ok (.iconst 0, 1) := by decide +kernel
theorem dX5_moves_71 : decode cX5_moves 71 = .ok (.aload_n 0, 1) := by decide +kernel
theorem dX5_moves_72 : decode cX5_moves 72 = .ok (.getfield 10, 3) := by decide +kernel
theorem dX5_moves_75 : decode cX5_moves 75 = .ok (.getfield 117, 3) := by decide +kernel
theorem dX5_moves_78 : decode cX5_moves 78 = .ok (.aload_n 0, 1) := by decide +kernel
theorem dX5_moves_79 : decode cX5_moves 79 = .ok (.getfield 10, 3) := by decide +kernel
theorem dX5_moves_82 : decode cX5_moves 82 = .ok (.getfield 120, 3) := by decide +kernel
theorem dX5_moves_85 : decode cX5_moves 85 = .ok (.invokevirtual 107, 3) := by decide +kernel
theorem dX5_moves_88 : decode cX5_moves 88 = .ok (.aload_n 0, 1) := by decide +kernel
theorem dX5_moves_89 : decode cX5_moves 89 = .ok (.getfield 10, 3) := by decide +kernel
theorem dX5_moves_92 : decode cX5_moves 92 = .ok (.iload_n 1, 1) := by decide +kernel
theorem dX5_moves_93 : decode cX5_moves 93 = .ok (.putfield 117, 3) := by decide +kernel
theorem dX5_moves_96 : decode cX5_moves 96 = .ok (.aload_n 0, 1) := by decide +kernel
theorem dX5_moves_97 : decode cX5_moves 97 = .ok (.getfield 10, 3) := by decide +kernel
theorem dX5_moves_100 : decode cX5_moves 100 = .ok (.iload_n 2, 1) := by decide +kernel
theorem dX5_moves_101 : decode cX5_moves 101 = .ok (.putfield 120, 3) := by decide +kernel
theorem dX5_moves_104 : decode cX5_moves 104 = .ok (.iload_n 3, 1) := by decide +kernel
theorem dX5_moves_105 : decode cX5_moves 105 = .ok (.ireturn, 1) := by decide +kernel
set_option maxRecDepth 20000 in
theorem ggX5_undo_X2_takeBackIn : GoodIn wsX5_undo wsX2_takeBackIn := goodIn_r _ [8, 9, 10, 11, 12, 13, 14, 15, 16, 17, 18, 27, 28, 29, 30, 31, 32, 33, 34, 35, 36, 37, 38, 39, 40, 41, 42, 43] (by decide +kernel) (by decide +kernel)
set_option maxRecDepth 20000 in
theorem gX5_undo_X2_takeBackIn : GoodIn wsX5_undo (wsV RX5 127 RX2 yX2_takeBackIn wsX2_takeBackIn) := goodIn_app (goodIn_of _ (by decide +kernel)) ggX5_undo_X2_takeBackIn
end
section
theorem dX5_undo_0 : decode cX5_undo 0 = .ok (.aload_n 0, 1) := by decide +kernel
theorem dX5_undo_1 : decode cX5_undo 1 = .ok (.getfield 37, 3) := by decide +kernel
theorem dX5_undo_4 : decode cX5_undo 4 = .ok (.getfield 75, 3) := by decide +kernel
theorem dX5_undo_7 : decode cX5_undo 7 = .ok (.ifCond .ne 6, 3) := by decide +kernel
theorem dX5_undo_10 : decode cX5_undo 10 = .ok (.bipush (-2), 2) := by decide +kernel
theorem dX5_undo_12 : decode cX5_undo 12 = .ok (.ireturn, 1) := by decide +kernel
theorem dX5_undo_13 : decode cX5_undo 13 = .ok (.aload_n 0, 1) := by decide +kernel
theorem dX5_undo_14 : decode cX5_undo 14 = .ok (.getfield 37, 3) := by decide +kernel
theorem dX5_undo_17 : decode cX5_undo 17 = .ok (.aload_n 0, 1) := by decide +kernel
theorem dX5_undo_18 : decode cX5_undo 18 = .ok (.getfield 10, 3) := by decide +kernel
theorem dX5_undo_21 : decode cX5_undo 21 = .ok (.invokevirtual 127, 3) := by decide +kernel
theorem dX5_undo_24 : decode cX5_undo 24 = .ok (.aload_n 0, 1) := by decide +kernel
theorem dX5_undo_25 : decode cX5_undo 25 = .ok (.getfield 37, 3) := by decide +kernel
theorem dX5_undo_28 : decode cX5_undo 28 = .ok (.getfield 75, 3) := by decide +kernel
theorem dX5_undo_31 : decode cX5_undo 31 = .ok (.ireturn, 1) := by decide +kernel
set_option maxRecDepth 20000 in
theorem ggX5_mirror_X5_isImage : GoodIn wsX5_mirror wsX5_isImage := goodIn_r _ [10, 3, 4, 5, 6, 11, 12, 9, 13] (by decide +kernel) (by decide +kernel)
set_option maxRecDepth 20000 in
theorem gX5_mirror_X5_isImage : GoodIn wsX5_mirror (va_wsS RX5 130 yX5_isImage wsX5_isImage) := goodIn_app (goodIn_of _ (by decide +kernel)) ggX5_mirror_X5_isImage
set_option maxRecDepth 20000 in
theorem ggX5_mirror_X3_imageX : GoodIn wsX5_mirror wsX3_imageX := goodIn_r _ [18, 19, 20, 21, 9, 22, 47, 48, 49, 50, 51, 52, 53, 54, 55, 56, 57, 58] (by decide +kernel) (by decide +kernel)
set_option maxRecDepth 20000 in
theorem gX5_mirror_X3_imageX : GoodIn wsX5_mirror (wsV RX5 135 RX3 yX3_imageX wsX3_imageX) := goodIn_app (goodIn_of _ (by decide +kernel)) ggX5_mirror_X3_imageX
set_option maxRecDepth 20000 in
theorem ggX5_mirror_X3_imageY : GoodIn wsX5_mirror wsX3_imageY := goodIn_r _ [26, 27, 28, 21, 9, 22, 47, 48, 49, 50, 51, 52, 53, 54, 55, 56, 57, 58] (by decide +kernel) (by decide +kernel)
set_option maxRecDepth 20000 in
theorem gX5_mirror_X3_imageY : GoodIn wsX5_mirror (wsV RX5 139 RX3 yX3_imageY wsX3_imageY) := goodIn_app (goodIn_of _ (by decide +kernel)) ggX5_mirror_X3_imageY
set_option maxRecDepth 20000 in
theorem ggX5_mirror_X3_softPasses : GoodIn wsX5_mirror wsX3_softPasses := goodIn_r _ [32, 33, 34, 9, 35, 36, 37, 38, 47, 48, 49, 50, 51, 52, 53, 54, 55, 56, 57, 58] (by decide +kernel) (by decide +kernel)
set_option maxRecDepth 20000 in
theorem gX5_mirror_X3_softPasses : GoodIn wsX5_mirror (wsV RX5 147 RX3 yX3_softPasses wsX3_softPasses) := goodIn_app (goodIn_of _ (by decide +kernel)) ggX5_mirror_X3_softPasses
theorem dX5_mirror_0 : decode cX5_mirror 0 = .ok (.iload_n 1, 1) := by decide +kernel
theorem dX5_mirror_1 : decode cX5_mirror 1 = .ok (.iload_n 2, 1) := by decide +kernel
theorem dX5_mirror_2 : decode cX5_mirror 2 = .ok (.invokestatic 130, 3) := by decide +kernel
theorem dX5_mirror_5 : decode cX5_mirror 5 = .ok (.ifCond .ne 6, 3) := by decide +kernel
theorem dX5_mirror_8 : decode cX5_mirror 8 = .ok (.ldc 134, 2) := by decide +kernel
theorem dX5_mirror_10 : decode cX5_mirror 10 = .ok (.ireturn, 1) := by decide +kernel
theorem dX5_mirror_11 : decode cX5_mirror 11 = .ok (.iload_n 3, 1) := by decide +kernel
theorem dX5_mirror_12 : decode cX5_mirror 12 = .ok (.tableswitch 70 0 3 #[32, 41, 50, 60], 32) := by decide +kernel
theorem dX5_mirror_44 : decode cX5_mirror 44 = .ok (.aload_n 0, 1) := by decide +kernel
theorem dX5_mirror_45 : decode cX5_mirror 45 = .ok (.getfield 10, 3) := by decide +kernel
theorem dX5_mirror_48 : decode cX5_mirror 48 = .ok (.iload_n 1, 1) := by decide +kernel
theorem dX5_mirror_49 : decode cX5_mirror 49 = .ok (.invokevirtual 135, 3) := by decide +kernel
theorem dX5_mirror_52 : decode cX5_mirror 52 = .ok (.ireturn, 1) := by decide +kernel
theorem dX5_mirror_53 : decode cX5_mirror 53 = .ok (.aload_n 0, 1) := by decide +kernel
theorem dX5_mirror_54 : decode cX5_mirror 54 = .ok (.getfield 10, 3) := by decide +kernel
theorem dX5_mirror_57 : decode cX5_mirror 57 = .ok (.iload_n 2, 1) := by decide +kernel
theorem dX5_mirror_58 : decode cX5_mirror 58 = .ok (.invokevirtual 139, 3) := by decide +kernel
theorem dX5_mirror_61 : decode cX5_mirror 61 = .ok (.ireturn, 1) := by decide +kernel
theorem dX5_mirror_62 : decode cX5_mirror 62 = .ok (.iload_n 1, 1) := by decide +kernel
theorem dX5_mirror_63 : decode cX5_mirror 63 = .ok (.invokestatic 142, 3) := by decide +kernel
theorem dX5_mirror_66 : decode cX5_mirror 66 = .ok (.iload_n 2, 1) := by decide +kernel
theorem dX5_mirror_67 : decode cX5_mirror 67 = .ok (.invokestatic 142, 3) := by decide +kernel
theorem dX5_mirror_70 : decode cX5_mirror 70 = .ok (.iadd, 1) := by decide +kernel
theorem dX5_mirror_71 : decode cX5_mirror 71 = .ok (.ireturn, 1) := by decide +kernel
theorem dX5_mirror_72 : decode cX5_mirror 72 = .ok (.aload_n 0, 1) := by decide +kernel
theorem dX5_mirror_73 : decode cX5_mirror 73 = .ok (.getfield 10, 3) := by decide +kernel
theorem dX5_mirror_76 : decode cX5_mirror 76 = .ok (.iload_n 1, 1) := by decide +kernel
theorem dX5_mirror_77 : decode cX5_mirror 77 = .ok (.iload_n 2, 1) := by decide +kernel
theorem dX5_mirror_78 : decode cX5_mirror 78 = .ok (.invokevirtual 147, 3) := by decide +kernel
theorem dX5_mirror_81 : decode cX5_mirror 81 = .ok (.ireturn, 1) := by decide +kernel
theorem dX5_mirror_82 : decode cX5_mirror 82 = .ok (.ldc 134, 2) := by decide +kernel
theorem dX5_mirror_84 : decode cX5_mirror 84 = .ok (.ireturn, 1) := by decide +kernel
set_option maxRecDepth 20000 in
theorem ggX5_path_X3_hasSeat : GoodIn wsX5_path wsX3_hasSeat := goodIn_r _ [9, 10, 87, 88, 89, 90, 91, 92, 93, 94, 95, 96, 97, 98] (by decide +kernel) (by decide +kernel)
set_option maxRecDepth 20000 in
theorem gX5_path_X3_hasSeat : GoodIn wsX5_path (wsV RX5 86 RX3 yX3_hasSeat wsX3_hasSeat) := goodIn_app (goodIn_of _ (by decide +kernel)) ggX5_path_X3_hasSeat
set_option maxRecDepth 20000 in
theorem ggX5_path_X5_isImage : GoodIn wsX5_path wsX5_isImage := goodIn_r _ [14, 15, 16, 17, 18, 19, 20, 13, 21] (by decide +kernel) (by decide +kernel)
set_option maxRecDepth 20000 in
theorem gX5_path_X5_isImage : GoodIn wsX5_path (va_wsS RX5 130 yX5_isImage wsX5_isImage) := goodIn_app (goodIn_of _ (by decide +kernel)) ggX5_path_X5_isImage
set_option maxRecDepth 20000 in
theorem ggX5_path_X3_waySquared : GoodIn wsX5_path wsX3_waySquared := goodIn_r _ [25, 26, 27, 28, 8, 29, 30, 31, 32, 13, 33, 34, 35, 36, 37, 38, 39, 40, 41, 87, 88, 89, 90, 91, 92, 93, 94, 95, 96, 97, 98] (by decide +kernel) (by decide +kernel)
set_option maxRecDepth 20000 in
theorem gX5_path_X3_waySquared : GoodIn wsX5_path (wsV RX5 151 RX3 yX3_waySquared wsX3_waySquared) := goodIn_app (goodIn_of _ (by decide +kernel)) ggX5_path_X3_waySquared
set_option maxRecDepth 20000 in
theorem ggX5_path_X5_timeOf : GoodIn wsX5_path wsX5_timeOf := goodIn_r _ [44] (by decide +kernel) (by decide +kernel)
set_option maxRecDepth 20000 in
theorem gX5_path_X5_timeOf : GoodIn wsX5_path (va_wsS RX5 155 yX5_timeOf wsX5_timeOf) := goodIn_app (goodIn_of _ (by decide +kernel)) ggX5_path_X5_timeOf
set_option maxRecDepth 20000 in
theorem ggX5_path_X5_strengthOf : GoodIn wsX5_path wsX5_strengthOf := goodIn_r _ [47, 48, 49, 50, 17, 51, 52, 53, 13, 54, 55, 56, 57] (by decide +kernel) (by decide +kernel)
set_option maxRecDepth 20000 in
theorem gX5_path_X5_strengthOf : GoodIn wsX5_path (va_wsS RX5 158 yX5_strengthOf wsX5_strengthOf) := goodIn_app (goodIn_of _ (by decide +kernel)) ggX5_path_X5_strengthOf
set_option maxRecDepth 20000 in
theorem ggX5_path_X3_isHidden : GoodIn wsX5_path wsX3_isHidden := goodIn_r _ [61, 62, 30, 63, 64, 16, 17, 18, 65, 66, 67, 68, 50, 51, 26, 27, 28, 8, 29, 31, 32, 13, 33, 34, 35, 36, 37, 38, 39, 69, 70, 71, 72, 73, 74, 75, 76, 77, 78, 87, 88, 89, 90, 91, 92, 93, 94, 95, 96, 97, 98] (by decide +kernel) (by decide +kernel)
set_option maxRecDepth 20000 in
theorem gX5_path_X3_isHidden : GoodIn wsX5_path (wsV RX5 162 RX3 yX3_isHidden wsX3_isHidden) := goodIn_app (goodIn_of _ (by decide +kernel)) ggX5_path_X3_isHidden
theorem dX5_path_0 : decode cX5_path 0 = .ok (.aload_n 0, 1) := by decide +kernel
theorem dX5_path_1 : decode cX5_path 1 = .ok (.getfield 10, 3) := by decide +kernel
theorem dX5_path_4 : decode cX5_path 4 = .ok (.iload_n 1, 1) := by decide +kernel
theorem dX5_path_5 : decode cX5_path 5 = .ok (.invokevirtual 86, 3) := by decide +kernel
theorem dX5_path_8 : decode cX5_path 8 = .ok (.ifCond .eq 11, 3) := by decide +kernel
theorem dX5_path_11 : decode cX5_path 11 = .ok (.iload_n 2, 1) := by decide +kernel
theorem dX5_path_12 : decode cX5_path 12 = .ok (.iload_n 3, 1) := by decide +kernel
theorem dX5_path_13 : decode cX5_path 13 = .ok (.invokestatic 130, 3) := by decide +kernel
theorem dX5_path_16 : decode cX5_path 16 = .ok (.ifCond .ne 5, 3) := by decide +kernel
theorem dX5_path_19 : decode cX5_path 19 = .ok (.iconst (-1), 1) := by decide +kernel
theorem dX5_path_20 : decode cX5_path 20 = .ok (.ireturn, 1) := by decide +kernel
theorem dX5_path_21 : decode cX5_path 21 = .ok (.aload_n 0, 1) := by decide +kernel
theorem dX5_path_22 : decode cX5_path 22 = .ok (.getfield 10, 3) := by decide +kernel
theorem dX5_path_25 : decode cX5_path 25 = .ok (.getfield 89, 3) := by decide +kernel
theorem dX5_path_28 : decode cX5_path 28 = .ok (.iload_n 1, 1) := by decide +kernel
theorem dX5_path_29 : decode cX5_path 29 = .ok (.iaload, 1) := by decide +kernel
theorem dX5_path_30 : decode cX5_path 30 = .ok (.istore 5, 2) := by decide +kernel
theorem dX5_path_32 : decode cX5_path 32 = .ok (.aload_n 0, 1) := by decide +kernel
theorem dX5_path_33 : decode cX5_path 33 = .ok (.getfield 10, 3) := by decide +kernel
theorem dX5_path_36 : decode cX5_path 36 = .ok (.getfield 92, 3) := by decide +kernel
theorem dX5_path_39 : decode cX5_path 39 = .ok (.iload_n 1, 1) := by decide +kernel
theorem dX5_path_40 : decode cX5_path 40 = .ok (.iaload, 1) := by decide +kernel
theorem dX5_path_41 : decode cX5_path 41 = .ok (.istore 6, 2) := by decide +kernel
theorem dX5_path_43 : decode cX5_path 43 = .ok (.aload_n 0, 1) := by decide +kernel
theorem dX5_path_44 : decode cX5_path 44 = .ok (.getfield 10, 3) := by decide +kernel
theorem dX5_path_47 : decode cX5_path 47 = .ok (.iload_n 2, 1) := by decide +kernel
theorem dX5_path_48 : decode cX5_path 48 = .ok (.iload_n 3, 1) := by decide +kernel
theorem dX5_path_49 : decode cX5_path 49 = .ok (.iload 5, 2) := by decide +kernel
theorem dX5_path_51 : decode cX5_path 51 = .ok (.iload 6, 2) := by decide +kernel
theorem dX5_path_53 : decode cX5_path 53 = .ok (.invokevirtual 151, 3) := by decide +kernel
theorem dX5_path_56 : decode cX5_path 56 = .ok (.istore 7, 2) := by decide +kernel
theorem dX5_path_58 : decode cX5_path 58 = .ok (.iload 4, 2) := by decide +kernel
theorem dX5_path_60 : decode cX5_path 60 = .ok (.tableswitch 78 0 3 #[32, 35, 41, 56], 32) := by decide +kernel
theorem dX5_path_92 : decode cX5_path 92 = .ok (.iload 7, 2) := by decide +kernel
theorem dX5_path_94 : decode cX5_path 94 = .ok (.ireturn, 1) := by decide +kernel
theorem dX5_path_95 : decode cX5_path 95 = .ok (.iload 7, 2) := by decide +kernel
theorem dX5_path_97 : decode cX5_path 97 = .ok (.invokestatic 155, 3) := by decide +kernel
theorem dX5_path_100 : decode cX5_path 100 = .ok (.ireturn, 1) := by decide +kernel
theorem dX5_path_101 : decode cX5_path 101 = .ok (.aload_n 0, 1) := by decide +kernel
theorem dX5_path_102 : decode cX5_path 102 = .ok (.getfield 10, 3) := by decide +kernel
theorem dX5_path_105 : decode cX5_path 105 = .ok (.getfield 82, 3) := by decide +kernel
theorem dX5_path_108 : decode cX5_path 108 = .ok (.iload_n 2, 1) := by decide +kernel
theorem dX5_path_109 : decode cX5_path 109 = .ok (.iload_n 3, 1) := by decide +kernel
theorem dX5_path_110 : decode cX5_path 110 = .ok (.iload 7, 2) := by decide +kernel
theorem dX5_path_112 : decode cX5_path 112 = .ok (.invokestatic 158, 3) := by decide +kernel
theorem dX5_path_115 : decode cX5_path 115 = .ok (.ireturn, 1) := by decide +kernel
theorem dX5_path_116 : decode cX5_path 116 = .ok (.aload_n 0, 1) := by decide +kernel
theorem dX5_path_117 : decode cX5_path 117 = .ok (.getfield 10, 3) := by decide +kernel
theorem dX5_path_120 : decode cX5_path 120 = .ok (.iload_n 2, 1) := by decide +kernel
theorem dX5_path_121 : decode cX5_path 121 = .ok (.iload_n 3, 1) := by decide +kernel
theorem dX5_path_122 : decode cX5_path 122 = .ok (.iload 5, 2) := by decide +kernel
theorem dX5_path_124 : decode cX5_path 124 = .ok (.iload 6, 2) := by decide +kernel
theorem dX5_path_126 : decode cX5_path 126 = .ok (.invokevirtual 162, 3) := by decide +kernel
theorem dX5_path_129 : decode cX5_path 129 = .ok (.ifCond .eq 7, 3) := by decide +kernel
theorem dX5_path_132 : decode cX5_path 132 = .ok (.iconst 1, 1) := by decide +kernel
theorem dX5_path_133 : decode cX5_path 133 = .ok (.goto 4, 3) := by decide +kernel
theorem dX5_path_136 : decode cX5_path 136 = .ok (.iconst 0, 1) := by decide +kernel
theorem dX5_path_137 : decode cX5_path 137 = .ok (.ireturn, 1) := by decide +kernel
theorem dX5_path_138 : decode cX5_path 138 = .ok (.iconst (-1), 1) := by decide +kernel
theorem dX5_path_139 : decode cX5_path 139 = .ok (.ireturn, 1) := by decide +kernel
set_option maxRecDepth 20000 in
theorem ggX5_heard_X3_hasSeat : GoodIn wsX5_heard wsX3_hasSeat := goodIn_r _ [12, 13, 120, 121, 122, 123, 124, 125, 126, 127, 128, 129, 130, 131] (by decide +kernel) (by decide +kernel)
set_option maxRecDepth 20000 in
theorem gX5_heard_X3_hasSeat : GoodIn wsX5_heard (wsV RX5 86 RX3 yX3_hasSeat wsX3_hasSeat) := goodIn_app (goodIn_of _ (by decide +kernel)) ggX5_heard_X3_hasSeat
set_option maxRecDepth 20000 in
theorem ggX5_heard_X5_isWithin : GoodIn wsX5_heard wsX5_isWithin := goodIn_r _ [17] (by decide +kernel) (by decide +kernel)
set_option maxRecDepth 20000 in
theorem gX5_heard_X5_isWithin : GoodIn wsX5_heard (va_wsS RX5 55 yX5_isWithin wsX5_isWithin) := goodIn_app (goodIn_of _ (by decide +kernel)) ggX5_heard_X5_isWithin
set_option maxRecDepth 20000 in
theorem ggX5_heard_X0_hearAtSeat : GoodIn wsX5_heard wsX0_hearAtSeat := goodIn_r _ [22, 23, 24, 25, 26, 27, 28, 29, 30, 31, 9, 10, 11, 12, 13, 32, 33, 34, 35, 36, 37, 38, 39, 40, 41, 42, 43, 44, 45, 46, 47, 48, 49, 50, 51, 16, 52, 53, 54, 55, 56, 57, 58, 59, 60, 61, 62, 63, 64, 65, 66, 67, 68, 69, 70, 71, 72, 73, 74, 75, 76, 77, 21, 78, 79, 80, 81, 82, 83, 84, 85, 86, 87, 88, 89, 90, 91, 92, 93, 94, 95, 96, 97, 98, 99, 100, 112, 113, 114, 115, 116, 117, 118, 119, 120, 121, 122, 123, 124, 125, 126, 127, 128, 129, 130, 131] (by decide +kernel) (by decide +kernel)
set_option maxRecDepth 20000 in
theorem gX5_heard_X0_hearAtSeat : GoodIn wsX5_heard (wsV RX5 166 RX0 yX0_hearAtSeat wsX0_hearAtSeat) := goodIn_app (goodIn_of _ (by decide +kernel)) ggX5_heard_X0_hearAtSeat
set_option maxRecDepth 20000 in
theorem ggX5_heard_X5_imageCode : GoodIn wsX5_heard wsX5_imageCode := goodIn_r _ [103] (by decide +kernel) (by decide +kernel)
set_option maxRecDepth 20000 in
theorem gX5_heard_X5_imageCode : GoodIn wsX5_heard (va_wsS RX5 183 yX5_imageCode wsX5_imageCode) := goodIn_app (goodIn_of _ (by decide +kernel)) ggX5_heard_X5_imageCode
theorem dX5_heard_0 : decode cX5_heard 0 = .ok (.aload_n 0, 1) := by decide +kernel
theorem dX5_heard_1 : decode cX5_heard 1 = .ok (.getfield 10, 3) := by decide +kernel
theorem dX5_heard_4 : decode cX5_heard 4 = .ok (.iload_n 1, 1) := by decide +kernel
theorem dX5_heard_5 : decode cX5_heard 5 = .ok (.invokevirtual 86, 3) := by decide +kernel
theorem dX5_heard_8 : decode cX5_heard 8 = .ok (.ifCond .eq 16, 3) := by decide +kernel
theorem dX5_heard_11 : decode cX5_heard 11 = .ok (.iload_n 2, 1) := by decide +kernel
theorem dX5_heard_12 : decode cX5_heard 12 = .ok (.ifCond .lt 12, 3) := by decide +kernel
theorem dX5_heard_15 : decode cX5_heard 15 = .ok (.iload_n 3, 1) := by decide +kernel
theorem dX5_heard_16 : decode cX5_heard 16 = .ok (.iconst 0, 1) := by decide +kernel
theorem dX5_heard_17 : decode cX5_heard 17 = .ok (.iconst 2, 1) := by decide +kernel
theorem dX5_heard_18 : decode cX5_heard 18 = .ok (.invokestatic 55, 3) := by decide +kernel
theorem dX5_heard_21 : decode cX5_heard 21 = .ok (.ifCond .ne 5, 3) := by decide +kernel
theorem dX5_heard_24 : decode cX5_heard 24 = .ok (.iconst (-1), 1) := by decide +kernel
theorem dX5_heard_25 : decode cX5_heard 25 = .ok (.ireturn, 1) := by decide +kernel
theorem dX5_heard_26 : decode cX5_heard 26 = .ok (.aload_n 0, 1) := by decide +kernel
theorem dX5_heard_27 : decode cX5_heard 27 = .ok (.getfield 44, 3) := by decide +kernel
theorem dX5_heard_30 : decode cX5_heard 30 = .ok (.aload_n 0, 1) := by decide +kernel
theorem dX5_heard_31 : decode cX5_heard 31 = .ok (.getfield 10, 3) := by decide +kernel
theorem dX5_heard_34 : decode cX5_heard 34 = .ok (.iload_n 1, 1) := by decide +kernel
theorem dX5_heard_35 : decode cX5_heard 35 = .ok (.invokevirtual 166, 3) := by decide +kernel
theorem dX5_heard_38 : decode cX5_heard 38 = .ok (.iload_n 2, 1) := by decide +kernel
theorem dX5_heard_39 : decode cX5_heard 39 = .ok (.aload_n 0, 1) := by decide +kernel
theorem dX5_heard_40 : decode cX5_heard 40 = .ok (.getfield 44, 3) := by decide +kernel
theorem dX5_heard_43 : decode cX5_heard 43 = .ok (.getfield 170, 3) := by decide +kernel
theorem dX5_heard_46 : decode cX5_heard 46 = .ok (.if_icmp .lt 6, 3) := by decide +kernel
theorem dX5_heard_49 : decode cX5_heard 49 = .ok (.bipush (-9), 2) := by decide +kernel
theorem dX5_heard_51 : decode cX5_heard 51 = .ok (.ireturn, 1) := by decide +kernel
theorem dX5_heard_52 : decode cX5_heard 52 = .ok (.iload_n 3, 1) := by decide +kernel
theorem dX5_heard_53 : decode cX5_heard 53 = .ok (.lookupswitch 47 #[(0, 27), (1, 37)], 27) := by decide +kernel
theorem dX5_heard_80 : decode cX5_heard 80 = .ok (.aload_n 0, 1) := by decide +kernel
theorem dX5_heard_81 : decode cX5_heard 81 = .ok (.getfield 44, 3) := by decide +kernel
theorem dX5_heard_84 : decode cX5_heard 84 = .ok (.getfield 171, 3) := by decide +kernel
theorem dX5_heard_87 : decode cX5_heard 87 = .ok (.iload_n 2, 1) := by decide +kernel
theorem dX5_heard_88 : decode cX5_heard 88 = .ok (.iaload, 1) := by decide +kernel
theorem dX5_heard_89 : decode cX5_heard 89 = .ok (.ireturn, 1) := by decide +kernel
theorem dX5_heard_90 : decode cX5_heard 90 = .ok (.aload_n 0, 1) := by decide +kernel
theorem dX5_heard_91 : decode cX5_heard 91 = .ok (.getfield 44, 3) := by decide +kernel
theorem dX5_heard_94 : decode cX5_heard 94 = .ok (.getfield 174, 3) := by decide +kernel
theorem dX5_heard_97 : decode cX5_heard 97 = .ok (.iload_n 2, 1) := by decide +kernel
theorem dX5_heard_98 : decode cX5_heard 98 = .ok (.iaload, 1) := by decide +kernel
theorem dX5_heard_99 : decode cX5_heard 99 = .ok (.ireturn, 1) := by decide +kernel
theorem dX5_heard_100 : decode cX5_heard 100 = .ok (.aload_n 0, 1) := by decide +kernel
theorem dX5_heard_101 : decode cX5_heard 101 = .ok (.getfield 44, 3) := by decide +kernel
theorem dX5_heard_104 : decode cX5_heard 104 = .ok (.getfield 177, 3) := by decide +kernel
theorem dX5_heard_107 : decode cX5_heard 107 = .ok (.iload_n 2, 1) := by decide +kernel
theorem dX5_heard_108 : decode cX5_heard 108 = .ok (.iaload, 1) := by decide +kernel
theorem dX5_heard_109 : decode cX5_heard 109 = .ok (.aload_n 0, 1) := by decide +kernel
theorem dX5_heard_110 : decode cX5_heard 110 = .ok (.getfield 44, 3) := by decide +kernel
theorem dX5_heard_113 : decode cX5_heard 113 = .ok (.getfield 180, 3) := by decide +kernel
theorem dX5_heard_116 : decode cX5_heard 116 = .ok (.iload_n 2, 1) := by decide +kernel
theorem dX5_heard_117 : decode cX5_heard 117 = .ok (.iaload, 1) := by decide +kernel
theorem dX5_heard_118 : decode cX5_heard 118 = .ok (.invokestatic 183, 3) := by decide +kernel
theorem dX5_heard_121 : decode cX5_heard 121 = .ok (.ireturn, 1) := by decide +kernel
set_option maxRecDepth 20000 in
theorem ggX5_sound_X3_hasSeat : GoodIn wsX5_sound wsX3_hasSeat := goodIn_r _ [9, 10, 118, 119, 120, 121, 122, 123, 124, 125, 126, 127, 128, 129] (by decide +kernel) (by decide +kernel)
set_option maxRecDepth 20000 in
theorem gX5_sound_X3_hasSeat : GoodIn wsX5_sound (wsV RX5 86 RX3 yX3_hasSeat wsX3_hasSeat) := goodIn_app (goodIn_of _ (by decide +kernel)) ggX5_sound_X3_hasSeat
set_option maxRecDepth 20000 in
theorem ggX5_sound_X5_isWithin : GoodIn wsX5_sound wsX5_isWithin := goodIn_r _ [14] (by decide +kernel) (by decide +kernel)
set_option maxRecDepth 20000 in
theorem gX5_sound_X5_isWithin : GoodIn wsX5_sound (va_wsS RX5 55 yX5_isWithin wsX5_isWithin) := goodIn_app (goodIn_of _ (by decide +kernel)) ggX5_sound_X5_isWithin
set_option maxRecDepth 20000 in
theorem ggX5_sound_X0_hearAtSeat : GoodIn wsX5_sound wsX0_hearAtSeat := goodIn_r _ [19, 20, 21, 22, 23, 24, 25, 26, 27, 28, 6, 7, 8, 9, 10, 29, 30, 31, 32, 33, 34, 35, 36, 37, 38, 39, 40, 41, 42, 43, 44, 45, 46, 47, 48, 13, 49, 50, 51, 52, 53, 54, 55, 56, 57, 58, 59, 60, 61, 62, 63, 64, 65, 66, 67, 68, 69, 70, 71, 72, 73, 74, 18, 75, 76, 77, 78, 79, 80, 81, 82, 83, 84, 85, 86, 87, 88, 89, 90, 91, 92, 93, 94, 95, 96, 97, 110, 111, 112, 113, 114, 115, 116, 117, 118, 119, 120, 121, 122, 123, 124, 125, 126, 127, 128, 129] (by decide +kernel) (by decide +kernel)
set_option maxRecDepth 20000 in
theorem gX5_sound_X0_hearAtSeat : GoodIn wsX5_sound (wsV RX5 166 RX0 yX0_hearAtSeat wsX0_hearAtSeat) := goodIn_app (goodIn_of _ (by decide +kernel)) ggX5_sound_X0_hearAtSeat
set_option maxRecDepth 20000 in
theorem ggX5_sound_X0_firstGap : GoodIn wsX5_sound wsX0_firstGap := goodIn_r _ [101, 20, 76, 110, 111, 112, 113, 114, 115, 116, 117] (by decide +kernel) (by decide +kernel)
set_option maxRecDepth 20000 in
theorem gX5_sound_X0_firstGap : GoodIn wsX5_sound (wsV RX5 189 RX0 yX0_firstGap wsX0_firstGap) := goodIn_app (goodIn_of _ (by decide +kernel)) ggX5_sound_X0_firstGap
theorem dX5_sound_0 : decode cX5_sound 0 = .ok (.aload_n 0, 1) := by decide +kernel
theorem dX5_sound_1 : decode cX5_sound 1 = .ok (.getfield 10, 3) := by decide +kernel
theorem dX5_sound_4 : decode cX5_sound 4 = .ok (.iload_n 1, 1) := by decide +kernel
theorem dX5_sound_5 : decode cX5_sound 5 = .ok (.invokevirtual 86, 3) := by decide +kernel
theorem dX5_sound_8 : decode cX5_sound 8 = .ok (.ifCond .eq 12, 3) := by decide +kernel
theorem dX5_sound_11 : decode cX5_sound 11 = .ok (.iload_n 2, 1) := by decide +kernel
theorem dX5_sound_12 : decode cX5_sound 12 = .ok (.iconst 0, 1) := by decide +kernel
theorem dX5_sound_13 : decode cX5_sound 13 = .ok (.iconst 2, 1) := by decide +kernel
theorem dX5_sound_14 : decode cX5_sound 14 = .ok (.invokestatic 55, 3) := by decide +kernel
theorem dX5_sound_17 : decode cX5_sound 17 = .ok (.ifCond .ne 5, 3) := by decide +kernel
theorem dX5_sound_20 : decode cX5_sound 20 = .ok (.iconst (-1), 1) := by decide +kernel
theorem dX5_sound_21 : decode cX5_sound 21 = .ok (.ireturn, 1) := by decide +kernel
theorem dX5_sound_22 : decode cX5_sound 22 = .ok (.aload_n 0, 1) := by decide +kernel
theorem dX5_sound_23 : decode cX5_sound 23 = .ok (.getfield 44, 3) := by decide +kernel
theorem dX5_sound_26 : decode cX5_sound 26 = .ok (.aload_n 0, 1) := by decide +kernel
theorem dX5_sound_27 : decode cX5_sound 27 = .ok (.getfield 10, 3) := by decide +kernel
theorem dX5_sound_30 : decode cX5_sound 30 = .ok (.iload_n 1, 1) := by decide +kernel
theorem dX5_sound_31 : decode cX5_sound 31 = .ok (.invokevirtual 166, 3) := by decide +kernel
theorem dX5_sound_34 : decode cX5_sound 34 = .ok (.iload_n 2, 1) := by decide +kernel
theorem dX5_sound_35 : decode cX5_sound 35 = .ok (.lookupswitch 41 #[(0, 25), (1, 33)], 25) := by decide +kernel
theorem dX5_sound_60 : decode cX5_sound 60 = .ok (.aload_n 0, 1) := by decide +kernel
theorem dX5_sound_61 : decode cX5_sound 61 = .ok (.getfield 44, 3) := by decide +kernel
theorem dX5_sound_64 : decode cX5_sound 64 = .ok (.getfield 170, 3) := by decide +kernel
theorem dX5_sound_67 : decode cX5_sound 67 = .ok (.ireturn, 1) := by decide +kernel
theorem dX5_sound_68 : decode cX5_sound 68 = .ok (.aload_n 0, 1) := by decide +kernel
theorem dX5_sound_69 : decode cX5_sound 69 = .ok (.getfield 44, 3) := by decide +kernel
theorem dX5_sound_72 : decode cX5_sound 72 = .ok (.getfield 186, 3) := by decide +kernel
theorem dX5_sound_75 : decode cX5_sound 75 = .ok (.ireturn, 1) := by decide +kernel
theorem dX5_sound_76 : decode cX5_sound 76 = .ok (.aload_n 0, 1) := by decide +kernel
theorem dX5_sound_77 : decode cX5_sound 77 = .ok (.getfield 44, 3) := by decide +kernel
theorem dX5_sound_80 : decode cX5_sound 80 = .ok (.invokevirtual 189, 3) := by decide +kernel
theorem dX5_sound_83 : decode cX5_sound 83 = .ok (.ireturn, 1) := by decide +kernel
set_option maxRecDepth 20000 in
theorem ggX5_early_X3_hasSeat : GoodIn wsX5_early wsX3_hasSeat := goodIn_r _ [8, 9, 123, 124, 125, 126, 127, 128, 129, 130, 131, 132, 133, 134] (by decide +kernel) (by decide +kernel)
set_option maxRecDepth 20000 in
theorem gX5_early_X3_hasSeat : GoodIn wsX5_early (wsV RX5 86 RX3 yX3_hasSeat wsX3_hasSeat) := goodIn_app (goodIn_of _ (by decide +kernel)) ggX5_early_X3_hasSeat
set_option maxRecDepth 20000 in
theorem ggX5_early_X5_isWithin : GoodIn wsX5_early wsX5_isWithin := goodIn_r _ [13] (by decide +kernel) (by decide +kernel)
set_option maxRecDepth 20000 in
theorem gX5_early_X5_isWithin : GoodIn wsX5_early (va_wsS RX5 55 yX5_isWithin wsX5_isWithin) := goodIn_app (goodIn_of _ (by decide +kernel)) ggX5_early_X5_isWithin
set_option maxRecDepth 20000 in
theorem ggX5_early_X0_hearAtSeat : GoodIn wsX5_early wsX0_hearAtSeat := goodIn_r _ [18, 19, 20, 21, 22, 23, 24, 25, 26, 27, 5, 6, 7, 8, 9, 28, 29, 30, 31, 32, 33, 34, 35, 36, 37, 38, 39, 40, 41, 42, 43, 44, 45, 46, 47, 12, 48, 49, 50, 51, 52, 53, 54, 55, 56, 57, 58, 59, 60, 61, 62, 63, 64, 65, 66, 67, 68, 69, 70, 71, 72, 73, 17, 74, 75, 76, 77, 78, 79, 80, 81, 82, 83, 84, 85, 86, 87, 88, 89, 90, 91, 92, 93, 94, 95, 96, 115, 116, 117, 118, 119, 120, 121, 122, 123, 124, 125, 126, 127, 128, 129, 130, 131, 132, 133, 134] (by decide +kernel) (by decide +kernel)
set_option maxRecDepth 20000 in
theorem gX5_early_X0_hearAtSeat : GoodIn wsX5_early (wsV RX5 166 RX0 yX0_hearAtSeat wsX0_hearAtSeat) := goodIn_app (goodIn_of _ (by decide +kernel)) ggX5_early_X0_hearAtSeat
set_option maxRecDepth 20000 in
theorem ggX5_early_X0_strengthUpTo : GoodIn wsX5_early wsX0_strengthUpTo := goodIn_r _ [100, 19, 75, 79, 115, 116, 117, 118, 119, 120, 121, 122] (by decide +kernel) (by decide +kernel)
set_option maxRecDepth 20000 in
theorem gX5_early_X0_strengthUpTo : GoodIn wsX5_early (wsV RX5 192 RX0 yX0_strengthUpTo wsX0_strengthUpTo) := goodIn_app (goodIn_of _ (by decide +kernel)) ggX5_early_X0_strengthUpTo
set_option maxRecDepth 20000 in
theorem ggX5_early_X5_leastTerm : GoodIn wsX5_early wsX5_leastTerm := goodIn_r _ [103, 90, 40, 25, 41, 104, 105, 12, 106] (by decide +kernel) (by decide +kernel)
set_option maxRecDepth 20000 in
theorem gX5_early_X5_leastTerm : GoodIn wsX5_early (va_wsS RX5 195 yX5_leastTerm wsX5_leastTerm) := goodIn_app (goodIn_of _ (by decide +kernel)) ggX5_early_X5_leastTerm
theorem dX5_early_0 : decode cX5_early 0 = .ok (.aload_n 0, 1) := by decide +kernel
theorem dX5_early_1 : decode cX5_early 1 = .ok (.getfield 10, 3) := by decide +kernel
theorem dX5_early_4 : decode cX5_early 4 = .ok (.iload_n 1, 1) := by decide +kernel
theorem dX5_early_5 : decode cX5_early 5 = .ok (.invokevirtual 86, 3) := by decide +kernel
theorem dX5_early_8 : decode cX5_early 8 = .ok (.ifCond .eq 23, 3) := by decide +kernel
theorem dX5_early_11 : decode cX5_early 11 = .ok (.iload_n 2, 1) := by decide +kernel
theorem dX5_early_12 : decode cX5_early 12 = .ok (.iconst 0, 1) := by decide +kernel
theorem dX5_early_13 : decode cX5_early 13 = .ok (.sipush 999, 3) := by decide +kernel
theorem dX5_early_16 : decode cX5_early 16 = .ok (.invokestatic 55, 3) := by decide +kernel
theorem dX5_early_19 : decode cX5_early 19 = .ok (.ifCond .eq 12, 3) := by decide +kernel
theorem dX5_early_22 : decode cX5_early 22 = .ok (.iload_n 3, 1) := by decide +kernel
theorem dX5_early_23 : decode cX5_early 23 = .ok (.iconst 0, 1) := by decide +kernel
theorem dX5_early_24 : decode cX5_early 24 = .ok (.iconst 1, 1) := by decide +kernel
theorem dX5_early_25 : decode cX5_early 25 = .ok (.invokestatic 55, 3) := by decide +kernel
theorem dX5_early_28 : decode cX5_early 28 = .ok (.ifCond .ne 5, 3) := by decide +kernel
theorem dX5_early_31 : decode cX5_early 31 = .ok (.iconst (-1), 1) := by decide +kernel
theorem dX5_early_32 : decode cX5_early 32 = .ok (.ireturn, 1) := by decide +kernel
theorem dX5_early_33 : decode cX5_early 33 = .ok (.aload_n 0, 1) := by decide +kernel
theorem dX5_early_34 : decode cX5_early 34 = .ok (.getfield 44, 3) := by decide +kernel
theorem dX5_early_37 : decode cX5_early 37 = .ok (.aload_n 0, 1) := by decide +kernel
theorem dX5_early_38 : decode cX5_early 38 = .ok (.getfield 10, 3) := by decide +kernel
theorem dX5_early_41 : decode cX5_early 41 = .ok (.iload_n 1, 1) := by decide +kernel
theorem dX5_early_42 : decode cX5_early 42 = .ok (.invokevirtual 166, 3) := by decide +kernel
theorem dX5_early_45 : decode cX5_early 45 = .ok (.aload_n 0, 1) := by decide +kernel
theorem dX5_early_46 : decode cX5_early 46 = .ok (.getfield 44, 3) := by decide +kernel
theorem dX5_early_49 : decode cX5_early 49 = .ok (.iload_n 2, 1) := by decide +kernel
theorem dX5_early_50 : decode cX5_early 50 = .ok (.invokevirtual 192, 3) := by decide +kernel
theorem dX5_early_53 : decode cX5_early 53 = .ok (.aload_n 0, 1) := by decide +kernel
theorem dX5_early_54 : decode cX5_early 54 = .ok (.getfield 44, 3) := by decide +kernel
theorem dX5_early_57 : decode cX5_early 57 = .ok (.getfield 186, 3) := by decide +kernel
theorem dX5_early_60 : decode cX5_early 60 = .ok (.iload_n 3, 1) := by decide +kernel
theorem dX5_early_61 : decode cX5_early 61 = .ok (.invokestatic 195, 3) := by decide +kernel
theorem dX5_early_64 : decode cX5_early 64 = .ok (.ireturn, 1) := by decide +kernel
set_option maxRecDepth 20000 in
theorem ggX5_fade_X3_hasSeat : GoodIn wsX5_fade wsX3_hasSeat := goodIn_r _ [7, 8, 108, 109, 110, 111, 112, 113, 114, 115, 116, 117, 118, 119] (by decide +kernel) (by decide +kernel)
set_option maxRecDepth 20000 in
theorem gX5_fade_X3_hasSeat : GoodIn wsX5_fade (wsV RX5 86 RX3 yX3_hasSeat wsX3_hasSeat) := goodIn_app (goodIn_of _ (by decide +kernel)) ggX5_fade_X3_hasSeat
set_option maxRecDepth 20000 in
theorem ggX5_fade_X5_isWithin : GoodIn wsX5_fade wsX5_isWithin := goodIn_r _ [12] (by decide +kernel) (by decide +kernel)
set_option maxRecDepth 20000 in
theorem gX5_fade_X5_isWithin : GoodIn wsX5_fade (va_wsS RX5 55 yX5_isWithin wsX5_isWithin) := goodIn_app (goodIn_of _ (by decide +kernel)) ggX5_fade_X5_isWithin
set_option maxRecDepth 20000 in
theorem ggX5_fade_X0_hearAtSeat : GoodIn wsX5_fade wsX0_hearAtSeat := goodIn_r _ [17, 18, 19, 20, 21, 22, 23, 24, 25, 26, 4, 5, 6, 7, 8, 27, 28, 29, 30, 31, 32, 33, 34, 35, 36, 37, 38, 39, 40, 41, 42, 43, 44, 45, 46, 11, 47, 48, 49, 50, 51, 52, 53, 54, 55, 56, 57, 58, 59, 60, 61, 62, 63, 64, 65, 66, 67, 68, 69, 70, 71, 72, 16, 73, 74, 75, 76, 77, 78, 79, 80, 81, 82, 83, 84, 85, 86, 87, 88, 89, 90, 91, 92, 93, 94, 95, 120, 121, 122, 123, 124, 125, 126, 127, 108, 109, 110, 111, 112, 113, 114, 115, 116, 117, 118, 119] (by decide +kernel) (by decide +kernel)
set_option maxRecDepth 20000 in
theorem gX5_fade_X0_hearAtSeat : GoodIn wsX5_fade (wsV RX5 166 RX0 yX0_hearAtSeat wsX0_hearAtSeat) := goodIn_app (goodIn_of _ (by decide +kernel)) ggX5_fade_X0_hearAtSeat
set_option maxRecDepth 20000 in
theorem ggX5_fade_X0_fadeTime : GoodIn wsX5_fade wsX0_fadeTime := goodIn_r _ [99, 19, 18, 78, 74, 120, 121, 122, 123, 124, 125, 126, 127] (by decide +kernel) (by decide +kernel)
set_option maxRecDepth 20000 in
theorem gX5_fade_X0_fadeTime : GoodIn wsX5_fade (wsV RX5 199 RX0 yX0_fadeTime wsX0_fadeTime) := goodIn_app (goodIn_of _ (by decide +kernel)) ggX5_fade_X0_fadeTime
theorem dX5_fade_0 : decode cX5_fade 0 = .ok (.aload_n 0, 1) := by decide +kernel
theorem dX5_fade_1 : decode cX5_fade 1 = .ok (.getfield 10, 3) := by decide +kernel
theorem dX5_fade_4 : decode cX5_fade 4 = .ok (.iload_n 1, 1) := by decide +kernel
theorem dX5_fade_5 : decode cX5_fade 5 = .ok (.invokevirtual 86, 3) := by decide +kernel
theorem dX5_fade_8 : decode cX5_fade 8 = .ok (.ifCond .eq 13, 3) := by decide +kernel
theorem dX5_fade_11 : decode cX5_fade 11 = .ok (.iload_n 2, 1) := by decide +kernel
theorem dX5_fade_12 : decode cX5_fade 12 = .ok (.iconst 1, 1) := by decide +kernel
theorem dX5_fade_13 : decode cX5_fade 13 = .ok (.bipush 9, 2) := by decide +kernel
theorem dX5_fade_15 : decode cX5_fade 15 = .ok (.invokestatic 55, 3) := by decide +kernel
theorem dX5_fade_18 : decode cX5_fade 18 = .ok (.ifCond .ne 5, 3) := by decide +kernel
theorem dX5_fade_21 : decode cX5_fade 21 = .ok (.iconst (-1), 1) := by decide +kernel
theorem dX5_fade_22 : decode cX5_fade 22 = .ok (.ireturn, 1) := by decide +kernel
theorem dX5_fade_23 : decode cX5_fade 23 = .ok (.aload_n 0, 1) := by decide +kernel
theorem dX5_fade_24 : decode cX5_fade 24 = .ok (.getfield 44, 3) := by decide +kernel
theorem dX5_fade_27 : decode cX5_fade 27 = .ok (.aload_n 0, 1) := by decide +kernel
theorem dX5_fade_28 : decode cX5_fade 28 = .ok (.getfield 10, 3) := by decide +kernel
theorem dX5_fade_31 : decode cX5_fade 31 = .ok (.iload_n 1, 1) := by decide +kernel
theorem dX5_fade_32 : decode cX5_fade 32 = .ok (.invokevirtual 166, 3) := by decide +kernel
theorem dX5_fade_35 : decode cX5_fade 35 = .ok (.aload_n 0, 1) := by decide +kernel
theorem dX5_fade_36 : decode cX5_fade 36 = .ok (.getfield 44, 3) := by decide +kernel
theorem dX5_fade_39 : decode cX5_fade 39 = .ok (.iload_n 2, 1) := by decide +kernel
theorem dX5_fade_40 : decode cX5_fade 40 = .ok (.invokevirtual 199, 3) := by decide +kernel
theorem dX5_fade_43 : decode cX5_fade 43 = .ok (.ireturn, 1) := by decide +kernel
set_option maxRecDepth 20000 in
theorem ggX5_best_X5_isWithin : GoodIn wsX5_best wsX5_isWithin := goodIn_r _ [12] (by decide +kernel) (by decide +kernel)
set_option maxRecDepth 20000 in
theorem gX5_best_X5_isWithin : GoodIn wsX5_best (va_wsS RX5 55 yX5_isWithin wsX5_isWithin) := goodIn_app (goodIn_of _ (by decide +kernel)) ggX5_best_X5_isWithin
set_option maxRecDepth 20000 in
theorem ggX5_best_X0_hearAtSeat : GoodIn wsX5_best wsX0_hearAtSeat := goodIn_r _ [17, 18, 19, 20, 21, 22, 23, 7, 24, 25, 26, 27, 28, 29, 30, 31, 32, 33, 34, 35, 36, 37, 38, 39, 40, 41, 42, 6, 8, 43, 44, 45, 46, 47, 48, 11, 49, 50, 51, 52, 53, 54, 55, 56, 57, 58, 59, 60, 61, 62, 63, 64, 65, 66, 67, 68, 69, 70, 71, 72, 73, 74, 16, 75, 76, 77, 78, 79, 80, 81, 82, 83, 84, 85, 86, 87, 88, 89, 90, 5, 91, 92, 93, 94, 95, 96, 121, 122, 123, 124, 125, 126, 127, 128, 109, 110, 111, 112, 113, 114, 115, 116, 117, 118, 119, 120] (by decide +kernel) (by decide +kernel)
set_option maxRecDepth 20000 in
theorem gX5_best_X0_hearAtSeat : GoodIn wsX5_best (wsV RX5 166 RX0 yX0_hearAtSeat wsX0_hearAtSeat) := goodIn_app (goodIn_of _ (by decide +kernel)) ggX5_best_X0_hearAtSeat
set_option maxRecDepth 20000 in
theorem ggX5_best_X0_strengthUpTo : GoodIn wsX5_best wsX0_strengthUpTo := goodIn_r _ [100, 18, 76, 80, 121, 122, 123, 124, 125, 126, 127, 128] (by decide +kernel) (by decide +kernel)
set_option maxRecDepth 20000 in
theorem gX5_best_X0_strengthUpTo : GoodIn wsX5_best (wsV RX5 192 RX0 yX0_strengthUpTo wsX0_strengthUpTo) := goodIn_app (goodIn_of _ (by decide +kernel)) ggX5_best_X0_strengthUpTo
theorem dX5_best_0 : decode cX5_best 0 = .ok (.iload_n 1, 1) := by decide +kernel
theorem dX5_best_1 : decode cX5_best 1 = .ok (.iconst 0, 1) := by decide +kernel
theorem dX5_best_2 : decode cX5_best 2 = .ok (.sipush 999, 3) := by decide +kernel
theorem dX5_best_5 : decode cX5_best 5 = .ok (.invokestatic 55, 3) := by decide +kernel
theorem dX5_best_8 : decode cX5_best 8 = .ok (.ifCond .ne 5, 3) := by decide +kernel
theorem dX5_best_11 : decode cX5_best 11 = .ok (.iconst (-1), 1) := by decide +kernel
theorem dX5_best_12 : decode cX5_best 12 = .ok (.ireturn, 1) := by decide +kernel
theorem dX5_best_13 : decode cX5_best 13 = .ok (.bipush (-9), 2) := by decide +kernel
theorem dX5_best_15 : decode cX5_best 15 = .ok (.istore_n 2, 1) := by decide +kernel
theorem dX5_best_16 : decode cX5_best 16 = .ok (.lconst 0, 1) := by decide +kernel
theorem dX5_best_17 : decode cX5_best 17 = .ok (.lstore_n 3, 1) := by decide +kernel
theorem dX5_best_18 : decode cX5_best 18 = .ok (.lconst 1, 1) := by decide +kernel
theorem dX5_best_19 : decode cX5_best 19 = .ok (.lstore 5, 2) := by decide +kernel
theorem dX5_best_21 : decode cX5_best 21 = .ok (.iconst 0, 1) := by decide +kernel
theorem dX5_best_22 : decode cX5_best 22 = .ok (.istore 7, 2) := by decide +kernel
theorem dX5_best_24 : decode cX5_best 24 = .ok (.iload 7, 2) := by decide +kernel
theorem dX5_best_26 : decode cX5_best 26 = .ok (.aload_n 0, 1) := by decide +kernel
theorem dX5_best_27 : decode cX5_best 27 = .ok (.getfield 10, 3) := by decide +kernel
theorem dX5_best_30 : decode cX5_best 30 = .ok (.getfield 202, 3) := by decide +kernel
theorem dX5_best_33 : decode cX5_best 33 = .ok (.if_icmp .ge 76, 3) := by decide +kernel
theorem dX5_best_36 : decode cX5_best 36 = .ok (.aload_n 0, 1) := by decide +kernel
theorem dX5_best_37 : decode cX5_best 37 = .ok (.getfield 44, 3) := by decide +kernel
theorem dX5_best_40 : decode cX5_best 40 = .ok (.aload_n 0, 1) := by decide +kernel
theorem dX5_best_41 : decode cX5_best 41 = .ok (.getfield 10, 3) := by decide +kernel
theorem dX5_best_44 : decode cX5_best 44 = .ok (.iload 7, 2) := by decide +kernel
theorem dX5_best_46 : decode cX5_best 46 = .ok (.invokevirtual 166, 3) := by decide +kernel
theorem dX5_best_49 : decode cX5_best 49 = .ok (.aload_n 0, 1) := by decide +kernel
theorem dX5_best_50 : decode cX5_best 50 = .ok (.getfield 44, 3) := by decide +kernel
theorem dX5_best_53 : decode cX5_best 53 = .ok (.iload_n 1, 1) := by decide +kernel
theorem dX5_best_54 : decode cX5_best 54 = .ok (.invokevirtual 192, 3) := by decide +kernel
theorem dX5_best_57 : decode cX5_best 57 = .ok (.i2l, 1) := by decide +kernel
theorem dX5_best_58 : decode cX5_best 58 = .ok (.lstore 8, 2) := by decide +kernel
theorem dX5_best_60 : decode cX5_best 60 = .ok (.iconst 1, 1) := by decide +kernel
theorem dX5_best_61 : decode cX5_best 61 = .ok (.aload_n 0, 1) := by decide +kernel
theorem dX5_best_62 : decode cX5_best 62 = .ok (.getfield 44, 3) := by decide +kernel
theorem dX5_best_65 : decode cX5_best 65 = .ok (.getfield 186, 3) := by decide +kernel
theorem dX5_best_68 : decode cX5_best 68 = .ok (.invokestatic 205, 3) := by decide +kernel
theorem dX5_best_71 : decode cX5_best 71 = .ok (.i2l, 1) := by decide +kernel
theorem dX5_best_72 : decode cX5_best 72 = .ok (.lstore 10, 2) := by decide +kernel
theorem dX5_best_74 : decode cX5_best 74 = .ok (.iload_n 2, 1) := by decide +kernel
theorem dX5_best_75 : decode cX5_best 75 = .ok (.bipush (-9), 2) := by decide +kernel
theorem dX5_best_77 : decode cX5_best 77 = .ok (.if_icmp .eq 16, 3) := by decide +kernel
theorem dX5_best_80 : decode cX5_best 80 = .ok (.lload 8, 2) := by decide +kernel
theorem dX5_best_82 : decode cX5_best 82 = .ok (.lload 5, 2) := by decide +kernel
theorem dX5_best_84 : decode cX5_best 84 = .ok (.lmul, 1) := by decide +kernel
theorem dX5_best_85 : decode cX5_best 85 = .ok (.lload_n 3, 1) := by decide +kernel
theorem dX5_best_86 : decode cX5_best 86 = .ok (.lload 10, 2) := by decide +kernel
theorem dX5_best_88 : decode cX5_best 88 = .ok (.lmul, 1) := by decide +kernel
theorem dX5_best_89 : decode cX5_best 89 = .ok (.lcmp, 1) := by decide +kernel
theorem dX5_best_90 : decode cX5_best 90 = .ok (.ifCond .le 13, 3) := by decide +kernel
theorem dX5_best_93 : decode cX5_best 93 = .ok (.iload 7, 2) := by decide +kernel
theorem dX5_best_95 : decode cX5_best 95 = .ok (.istore_n 2, 1) := by decide +kernel
theorem dX5_best_96 : decode cX5_best 96 = .ok (.lload 8, 2) := by decide +kernel
theorem dX5_best_98 : decode cX5_best 98 = .ok (.lstore_n 3, 1) := by decide +kernel
theorem dX5_best_99 : decode cX5_best 99 = .ok (.lload 10, 2) := by decide +kernel
theorem dX5_best_101 : decode cX5_best 101 = .ok (.lstore 5, 2) := by decide +kernel
theorem dX5_best_103 : decode cX5_best 103 = .ok (.iinc 7 1, 3) := by decide +kernel
theorem dX5_best_106 : decode cX5_best 106 = .ok (.goto (-82), 3) := by decide +kernel
theorem dX5_best_109 : decode cX5_best 109 = .ok (.iload_n 2, 1) := by decide +kernel
theorem dX5_best_110 : decode cX5_best 110 = .ok (.ireturn, 1) := by decide +kernel
set_option maxRecDepth 20000 in
theorem ggX5_odds_X5_isWithin : GoodIn wsX5_odds wsX5_isWithin := goodIn_r _ [8] (by decide +kernel) (by decide +kernel)
set_option maxRecDepth 20000 in
theorem gX5_odds_X5_isWithin : GoodIn wsX5_odds (va_wsS RX5 55 yX5_isWithin wsX5_isWithin) := goodIn_app (goodIn_of _ (by decide +kernel)) ggX5_odds_X5_isWithin
set_option maxRecDepth 20000 in
theorem ggX5_odds_X3_hasSeat : GoodIn wsX5_odds wsX3_hasSeat := goodIn_r _ [13, 14, 120, 121, 122, 123, 124, 125, 126, 127, 128, 129, 130, 131] (by decide +kernel) (by decide +kernel)
set_option maxRecDepth 20000 in
theorem gX5_odds_X3_hasSeat : GoodIn wsX5_odds (wsV RX5 86 RX3 yX3_hasSeat wsX3_hasSeat) := goodIn_app (goodIn_of _ (by decide +kernel)) ggX5_odds_X3_hasSeat
set_option maxRecDepth 20000 in
theorem ggX5_odds_X0_hearAtSeat : GoodIn wsX5_odds wsX0_hearAtSeat := goodIn_r _ [19, 20, 21, 22, 23, 24, 25, 26, 27, 28, 10, 11, 12, 13, 14, 29, 30, 31, 32, 33, 34, 35, 36, 37, 38, 39, 40, 41, 42, 43, 44, 45, 46, 47, 48, 7, 49, 50, 51, 52, 53, 54, 55, 56, 57, 58, 59, 60, 61, 62, 63, 64, 65, 66, 67, 68, 69, 70, 71, 72, 73, 74, 18, 75, 76, 77, 78, 79, 80, 81, 82, 83, 84, 85, 86, 87, 88, 89, 90, 91, 92, 93, 94, 95, 96, 97, 132, 133, 134, 135, 136, 137, 138, 139, 120, 121, 122, 123, 124, 125, 126, 127, 128, 129, 130, 131] (by decide +kernel) (by decide +kernel)
set_option maxRecDepth 20000 in
theorem gX5_odds_X0_hearAtSeat : GoodIn wsX5_odds (wsV RX5 166 RX0 yX0_hearAtSeat wsX0_hearAtSeat) := goodIn_app (goodIn_of _ (by decide +kernel)) ggX5_odds_X0_hearAtSeat
set_option maxRecDepth 20000 in
theorem ggX5_odds_X0_soundIfDeaf : GoodIn wsX5_odds wsX0_soundIfDeaf := goodIn_r _ [101, 102, 20, 77, 78, 79, 88, 7, 89, 90, 91, 41, 26, 42, 92, 93, 94, 95, 96, 97, 132, 133, 134, 135, 136, 137, 138, 139] (by decide +kernel) (by decide +kernel)
set_option maxRecDepth 20000 in
theorem gX5_odds_X0_soundIfDeaf : GoodIn wsX5_odds (wsV RX5 209 RX0 yX0_soundIfDeaf wsX0_soundIfDeaf) := goodIn_app (goodIn_of _ (by decide +kernel)) ggX5_odds_X0_soundIfDeaf
set_option maxRecDepth 20000 in
theorem ggX5_odds_X5_chanceOf : GoodIn wsX5_odds wsX5_chanceOf := goodIn_r _ [105] (by decide +kernel) (by decide +kernel)
set_option maxRecDepth 20000 in
theorem gX5_odds_X5_chanceOf : GoodIn wsX5_odds (va_wsS RX5 213 yX5_chanceOf wsX5_chanceOf) := goodIn_app (goodIn_of _ (by decide +kernel)) ggX5_odds_X5_chanceOf
set_option maxRecDepth 20000 in
theorem ggX5_odds_X5_leastTerm : GoodIn wsX5_odds wsX5_leastTerm := goodIn_r _ [108, 91, 41, 26, 42, 109, 110, 7, 111] (by decide +kernel) (by decide +kernel)
set_option maxRecDepth 20000 in
theorem gX5_odds_X5_leastTerm : GoodIn wsX5_odds (va_wsS RX5 195 yX5_leastTerm wsX5_leastTerm) := goodIn_app (goodIn_of _ (by decide +kernel)) ggX5_odds_X5_leastTerm
theorem dX5_odds_0 : decode cX5_odds 0 = .ok (.iload_n 1, 1) := by decide +kernel
theorem dX5_odds_1 : decode cX5_odds 1 = .ok (.iconst 0, 1) := by decide +kernel
theorem dX5_odds_2 : decode cX5_odds 2 = .ok (.bipush 10, 2) := by decide +kernel
theorem dX5_odds_4 : decode cX5_odds 4 = .ok (.invokestatic 55, 3) := by decide +kernel
theorem dX5_odds_7 : decode cX5_odds 7 = .ok (.ifCond .eq 34, 3) := by decide +kernel
theorem dX5_odds_10 : decode cX5_odds 10 = .ok (.aload_n 0, 1) := by decide +kernel
theorem dX5_odds_11 : decode cX5_odds 11 = .ok (.getfield 10, 3) := by decide +kernel
theorem dX5_odds_14 : decode cX5_odds 14 = .ok (.iload_n 2, 1) := by decide +kernel
theorem dX5_odds_15 : decode cX5_odds 15 = .ok (.invokevirtual 86, 3) := by decide +kernel
theorem dX5_odds_18 : decode cX5_odds 18 = .ok (.ifCond .eq 23, 3) := by decide +kernel
theorem dX5_odds_21 : decode cX5_odds 21 = .ok (.iload_n 3, 1) := by decide +kernel
theorem dX5_odds_22 : decode cX5_odds 22 = .ok (.iconst 0, 1) := by decide +kernel
theorem dX5_odds_23 : decode cX5_odds 23 = .ok (.ldc 208, 2) := by decide +kernel
theorem dX5_odds_25 : decode cX5_odds 25 = .ok (.invokestatic 55, 3) := by decide +kernel
theorem dX5_odds_28 : decode cX5_odds 28 = .ok (.ifCond .eq 13, 3) := by decide +kernel
theorem dX5_odds_31 : decode cX5_odds 31 = .ok (.iload 4, 2) := by decide +kernel
theorem dX5_odds_33 : decode cX5_odds 33 = .ok (.iconst 0, 1) := by decide +kernel
theorem dX5_odds_34 : decode cX5_odds 34 = .ok (.iconst 1, 1) := by decide +kernel
theorem dX5_odds_35 : decode cX5_odds 35 = .ok (.invokestatic 55, 3) := by decide +kernel
theorem dX5_odds_38 : decode cX5_odds 38 = .ok (.ifCond .ne 5, 3) := by decide +kernel
theorem dX5_odds_41 : decode cX5_odds 41 = .ok (.iconst (-1), 1) := by decide +kernel
theorem dX5_odds_42 : decode cX5_odds 42 = .ok (.ireturn, 1) := by decide +kernel
theorem dX5_odds_43 : decode cX5_odds 43 = .ok (.aload_n 0, 1) := by decide +kernel
theorem dX5_odds_44 : decode cX5_odds 44 = .ok (.getfield 44, 3) := by decide +kernel
theorem dX5_odds_47 : decode cX5_odds 47 = .ok (.aload_n 0, 1) := by decide +kernel
theorem dX5_odds_48 : decode cX5_odds 48 = .ok (.getfield 10, 3) := by decide +kernel
theorem dX5_odds_51 : decode cX5_odds 51 = .ok (.iload_n 2, 1) := by decide +kernel
theorem dX5_odds_52 : decode cX5_odds 52 = .ok (.invokevirtual 166, 3) := by decide +kernel
theorem dX5_odds_55 : decode cX5_odds 55 = .ok (.iconst 0, 1) := by decide +kernel
theorem dX5_odds_56 : decode cX5_odds 56 = .ok (.istore 5, 2) := by decide +kernel
theorem dX5_odds_58 : decode cX5_odds 58 = .ok (.iconst 0, 1) := by decide +kernel
theorem dX5_odds_59 : decode cX5_odds 59 = .ok (.istore 6, 2) := by decide +kernel
theorem dX5_odds_61 : decode cX5_odds 61 = .ok (.iload 6, 2) := by decide +kernel
theorem dX5_odds_63 : decode cX5_odds 63 = .ok (.bipush 16, 2) := by decide +kernel
theorem dX5_odds_65 : decode cX5_odds 65 = .ok (.if_icmp .ge 40, 3) := by decide +kernel
theorem dX5_odds_68 : decode cX5_odds 68 = .ok (.aload_n 0, 1) := by decide +kernel
theorem dX5_odds_69 : decode cX5_odds 69 = .ok (.getfield 44, 3) := by decide +kernel
theorem dX5_odds_72 : decode cX5_odds 72 = .ok (.aload_n 0, 1) := by decide +kernel
theorem dX5_odds_73 : decode cX5_odds 73 = .ok (.getfield 10, 3) := by decide +kernel
theorem dX5_odds_76 : decode cX5_odds 76 = .ok (.getfield 82, 3) := by decide +kernel
theorem dX5_odds_79 : decode cX5_odds 79 = .ok (.iload 6, 2) := by decide +kernel
theorem dX5_odds_81 : decode cX5_odds 81 = .ok (.invokevirtual 209, 3) := by decide +kernel
theorem dX5_odds_84 : decode cX5_odds 84 = .ok (.iload_n 3, 1) := by decide +kernel
theorem dX5_odds_85 : decode cX5_odds 85 = .ok (.if_icmp .lt 14, 3) := by decide +kernel
theorem dX5_odds_88 : decode cX5_odds 88 = .ok (.iload 5, 2) := by decide +kernel
theorem dX5_odds_90 : decode cX5_odds 90 = .ok (.iload 6, 2) := by decide +kernel
theorem dX5_odds_92 : decode cX5_odds 92 = .ok (.iload_n 1, 1) := by decide +kernel
theorem dX5_odds_93 : decode cX5_odds 93 = .ok (.invokestatic 213, 3) := by decide +kernel
theorem dX5_odds_96 : decode cX5_odds 96 = .ok (.iadd, 1) := by decide +kernel
theorem dX5_odds_97 : decode cX5_odds 97 = .ok (.istore 5, 2) := by decide +kernel
theorem dX5_odds_99 : decode cX5_odds 99 = .ok (.iinc 6 1, 3) := by decide +kernel
theorem dX5_odds_102 : decode cX5_odds 102 = .ok (.goto (-41), 3) := by decide +kernel
theorem dX5_odds_105 : decode cX5_odds 105 = .ok (.iload 5, 2) := by decide +kernel
theorem dX5_odds_107 : decode cX5_odds 107 = .ok (.sipush 10000, 3) := by decide +kernel
theorem dX5_odds_110 : decode cX5_odds 110 = .ok (.iload 4, 2) := by decide +kernel
theorem dX5_odds_112 : decode cX5_odds 112 = .ok (.invokestatic 195, 3) := by decide +kernel
theorem dX5_odds_115 : decode cX5_odds 115 = .ok (.ireturn, 1) := by decide +kernel
set_option maxRecDepth 20000 in
theorem ggX5_sees_X5_isImage : GoodIn wsX5_sees wsX5_isImage := goodIn_r _ [6, 7, 8, 9, 10, 11, 12, 5, 13] (by decide +kernel) (by decide +kernel)
set_option maxRecDepth 20000 in
theorem gX5_sees_X5_isImage : GoodIn wsX5_sees (va_wsS RX5 130 yX5_isImage wsX5_isImage) := goodIn_app (goodIn_of _ (by decide +kernel)) ggX5_sees_X5_isImage
set_option maxRecDepth 20000 in
theorem ggX5_sees_X5_isWithin : GoodIn wsX5_sees wsX5_isWithin := goodIn_r _ [13] (by decide +kernel) (by decide +kernel)
set_option maxRecDepth 20000 in
theorem gX5_sees_X5_isWithin : GoodIn wsX5_sees (va_wsS RX5 55 yX5_isWithin wsX5_isWithin) := goodIn_app (goodIn_of _ (by decide +kernel)) ggX5_sees_X5_isWithin
set_option maxRecDepth 20000 in
theorem ggX5_sees_X1_addSeen : GoodIn wsX5_sees wsX1_addSeen := goodIn_r _ [18, 19, 20, 21, 22, 31, 32, 33, 34, 35, 36, 37, 38] (by decide +kernel) (by decide +kernel)
set_option maxRecDepth 20000 in
theorem gX5_sees_X1_addSeen : GoodIn wsX5_sees (wsV RX5 216 RX1 yX1_addSeen wsX1_addSeen) := goodIn_app (goodIn_of _ (by decide +kernel)) ggX5_sees_X1_addSeen
theorem dX5_sees_0 : decode cX5_sees 0 = .ok (.iload_n 1, 1) := by decide +kernel
theorem dX5_sees_1 : decode cX5_sees 1 = .ok (.iload_n 2, 1) := by decide +kernel
theorem dX5_sees_2 : decode cX5_sees 2 = .ok (.invokestatic 130, 3) := by decide +kernel
theorem dX5_sees_5 : decode cX5_sees 5 = .ok (.ifCond .eq 14, 3) := by decide +kernel
theorem dX5_sees_8 : decode cX5_sees 8 = .ok (.iload_n 3, 1) := by decide +kernel
theorem dX5_sees_9 : decode cX5_sees 9 = .ok (.iconst 0, 1) := by decide +kernel
theorem dX5_sees_10 : decode cX5_sees 10 = .ok (.sipush 9999, 3) := by decide +kernel
theorem dX5_sees_13 : decode cX5_sees 13 = .ok (.invokestatic 55, 3) := by decide +kernel
theorem dX5_sees_16 : decode cX5_sees 16 = .ok (.ifCond .ne 5, 3) := by decide +kernel
theorem dX5_sees_19 : decode cX5_sees 19 = .ok (.iconst (-1), 1) := by decide +kernel
theorem dX5_sees_20 : decode cX5_sees 20 = .ok (.ireturn, 1) := by decide +kernel
theorem dX5_sees_21 : decode cX5_sees 21 = .ok (.aload_n 0, 1) := by decide +kernel
theorem dX5_sees_22 : decode cX5_sees 22 = .ok (.getfield 51, 3) := by decide +kernel
theorem dX5_sees_25 : decode cX5_sees 25 = .ok (.iload_n 1, 1) := by decide +kernel
theorem dX5_sees_26 : decode cX5_sees 26 = .ok (.iload_n 2, 1) := by decide +kernel
theorem dX5_sees_27 : decode cX5_sees 27 = .ok (.iload_n 3, 1) := by decide +kernel
theorem dX5_sees_28 : decode cX5_sees 28 = .ok (.invokevirtual 216, 3) := by decide +kernel
theorem dX5_sees_31 : decode cX5_sees 31 = .ok (.ifCond .eq 13, 3) := by decide +kernel
theorem dX5_sees_34 : decode cX5_sees 34 = .ok (.aload_n 0, 1) := by decide +kernel
theorem dX5_sees_35 : decode cX5_sees 35 = .ok (.getfield 51, 3) := by decide +kernel
theorem dX5_sees_38 : decode cX5_sees 38 = .ok (.getfield 76, 3) := by decide +kernel
theorem dX5_sees_41 : decode cX5_sees 41 = .ok (.goto 5, 3) := by decide +kernel
theorem dX5_sees_44 : decode cX5_sees 44 = .ok (.bipush (-3), 2) := by decide +kernel
theorem dX5_sees_46 : decode cX5_sees 46 = .ok (.ireturn, 1) := by decide +kernel
theorem dX5_forget_0 : decode cX5_forget 0 = .ok (.aload_n 0, 1) := by decide +kernel
theorem dX5_forget_1 : decode cX5_forget 1 = .ok (.getfield 51, 3) := by decide +kernel
theorem dX5_forget_4 : decode cX5_forget 4 = .ok (.getfield 76, 3) := by decide +kernel
theorem dX5_forget_7 : decode cX5_forget 7 = .ok (.istore_n 1, 1) := by decide +kernel
theorem dX5_forget_8 : decode cX5_forget 8 = .ok (.aload_n 0, 1) := by decide +kernel
theorem dX5_forget_9 : decode cX5_forget 9 = .ok (.getfield 51, 3) := by decide +kernel
theorem dX5_forget_12 : decode cX5_forget 12 = .ok (.iconst 0, 1) := by decide +kernel
theorem dX5_forget_13 : decode cX5_forget 13 = .ok (.putfield 76, 3) := by decide +kernel
theorem dX5_forget_16 : decode cX5_forget 16 = .ok (.iload_n 1, 1) := by decide +kernel
theorem dX5_forget_17 : decode cX5_forget 17 = .ok (.ireturn, 1) := by decide +kernel
set_option maxRecDepth 20000 in
theorem ggX5_unseen_X5_isWithin : GoodIn wsX5_unseen wsX5_isWithin := goodIn_r _ [9] (by decide +kernel) (by decide +kernel)
set_option maxRecDepth 20000 in
theorem gX5_unseen_X5_isWithin : GoodIn wsX5_unseen (va_wsS RX5 55 yX5_isWithin wsX5_isWithin) := goodIn_app (goodIn_of _ (by decide +kernel)) ggX5_unseen_X5_isWithin
set_option maxRecDepth 20000 in
theorem ggX5_unseen_X1_findPlaces : GoodIn wsX5_unseen wsX1_findPlaces := goodIn_r _ [14, 15, 16, 17, 18, 19, 20, 21, 22, 13, 23, 24, 25, 26, 27, 28, 29, 30, 31, 32, 33, 34, 35, 36, 37, 38, 39, 8, 40, 41, 42, 43, 44, 45, 46, 47, 48, 49, 50, 59, 60, 61, 62, 63, 64, 65, 66, 67, 68, 69, 70, 71, 72, 73, 74, 75, 76, 77, 78] (by decide +kernel) (by decide +kernel)
set_option maxRecDepth 20000 in
theorem gX5_unseen_X1_findPlaces : GoodIn wsX5_unseen (wsV RX5 219 RX1 yX1_findPlaces wsX1_findPlaces) := goodIn_app (goodIn_of _ (by decide +kernel)) ggX5_unseen_X1_findPlaces
theorem dX5_unseen_0 : decode cX5_unseen 0 = .ok (.iload_n 1, 1) := by decide +kernel
theorem dX5_unseen_1 : decode cX5_unseen 1 = .ok (.iconst 0, 1) := by decide +kernel
theorem dX5_unseen_2 : decode cX5_unseen 2 = .ok (.iconst 1, 1) := by decide +kernel
theorem dX5_unseen_3 : decode cX5_unseen 3 = .ok (.invokestatic 55, 3) := by decide +kernel
theorem dX5_unseen_6 : decode cX5_unseen 6 = .ok (.ifCond .ne 5, 3) := by decide +kernel
theorem dX5_unseen_9 : decode cX5_unseen 9 = .ok (.iconst (-1), 1) := by decide +kernel
theorem dX5_unseen_10 : decode cX5_unseen 10 = .ok (.ireturn, 1) := by decide +kernel
theorem dX5_unseen_11 : decode cX5_unseen 11 = .ok (.aload_n 0, 1) := by decide +kernel
theorem dX5_unseen_12 : decode cX5_unseen 12 = .ok (.getfield 51, 3) := by decide +kernel
theorem dX5_unseen_15 : decode cX5_unseen 15 = .ok (.aload_n 0, 1) := by decide +kernel
theorem dX5_unseen_16 : decode cX5_unseen 16 = .ok (.getfield 10, 3) := by decide +kernel
theorem dX5_unseen_19 : decode cX5_unseen 19 = .ok (.invokevirtual 219, 3) := by decide +kernel
theorem dX5_unseen_22 : decode cX5_unseen 22 = .ok (.iload_n 1, 1) := by decide +kernel
theorem dX5_unseen_23 : decode cX5_unseen 23 = .ok (.ifCond .ne 11, 3) := by decide +kernel
theorem dX5_unseen_26 : decode cX5_unseen 26 = .ok (.aload_n 0, 1) := by decide +kernel
theorem dX5_unseen_27 : decode cX5_unseen 27 = .ok (.getfield 51, 3) := by decide +kernel
theorem dX5_unseen_30 : decode cX5_unseen 30 = .ok (.getfield 222, 3) := by decide +kernel
theorem dX5_unseen_33 : decode cX5_unseen 33 = .ok (.ireturn, 1) := by decide +kernel
theorem dX5_unseen_34 : decode cX5_unseen 34 = .ok (.aload_n 0, 1) := by decide +kernel
theorem dX5_unseen_35 : decode cX5_unseen 35 = .ok (.getfield 51, 3) := by decide +kernel
theorem dX5_unseen_38 : decode cX5_unseen 38 = .ok (.getfield 222, 3) := by decide +kernel
theorem dX5_unseen_41 : decode cX5_unseen 41 = .ok (.ifCond .le 28, 3) := by decide +kernel
theorem dX5_unseen_44 : decode cX5_unseen 44 = .ok (.bipush 100, 2) := by decide +kernel
theorem dX5_unseen_46 : decode cX5_unseen 46 = .ok (.aload_n 0, 1) := by decide +kernel
theorem dX5_unseen_47 : decode cX5_unseen 47 = .ok (.getfield 51, 3) := by decide +kernel
theorem dX5_unseen_50 : decode cX5_unseen 50 = .ok (.getfield 225, 3) := by decide +kernel
theorem dX5_unseen_53 : decode cX5_unseen 53 = .ok (.iconst 0, 1) := by decide +kernel
theorem dX5_unseen_54 : decode cX5_unseen 54 = .ok (.iaload, 1) := by decide +kernel
theorem dX5_unseen_55 : decode cX5_unseen 55 = .ok (.imul, 1) := by decide +kernel
theorem dX5_unseen_56 : decode cX5_unseen 56 = .ok (.aload_n 0, 1) := by decide +kernel
theorem dX5_unseen_57 : decode cX5_unseen 57 = .ok (.getfield 51, 3) := by decide +kernel
theorem dX5_unseen_60 : decode cX5_unseen 60 = .ok (.getfield 228, 3) := by decide +kernel
theorem dX5_unseen_63 : decode cX5_unseen 63 = .ok (.iconst 0, 1) := by decide +kernel
theorem dX5_unseen_64 : decode cX5_unseen 64 = .ok (.iaload, 1) := by decide +kernel
theorem dX5_unseen_65 : decode cX5_unseen 65 = .ok (.iadd, 1) := by decide +kernel
theorem dX5_unseen_66 : decode cX5_unseen 66 = .ok (.goto 5, 3) := by decide +kernel
theorem dX5_unseen_69 : decode cX5_unseen 69 = .ok (.bipush (-9), 2) := by decide +kernel
theorem dX5_unseen_71 : decode cX5_unseen 71 = .ok (.ireturn, 1) := by decide +kernel
set_option maxRecDepth 20000 in
theorem ggX5_listen_X1_findPlaces : GoodIn wsX5_listen wsX1_findPlaces := goodIn_r _ [8, 9, 10, 11, 12, 13, 14, 15, 16, 7, 17, 18, 19, 20, 21, 22, 23, 24, 25, 26, 27, 28, 29, 30, 31, 32, 33, 34, 35, 36, 37, 38, 39, 40, 41, 42, 43, 44, 45, 75, 76, 77, 78, 79, 80, 81, 82, 83, 84, 85, 86, 87, 88, 89, 90, 91, 92, 93, 94] (by decide +kernel) (by decide +kernel)
set_option maxRecDepth 20000 in
theorem gX5_listen_X1_findPlaces : GoodIn wsX5_listen (wsV RX5 219 RX1 yX1_findPlaces wsX1_findPlaces) := goodIn_app (goodIn_of _ (by decide +kernel)) ggX5_listen_X1_findPlaces
set_option maxRecDepth 20000 in
theorem ggX5_listen_X1_tellingImage : GoodIn wsX5_listen wsX1_tellingImage := goodIn_r _ [49, 50, 51, 52, 53, 54, 55, 56, 57, 58, 59, 60, 61, 7, 62, 9, 12, 13, 63, 28, 29, 25, 30, 31, 32, 33, 34, 35, 64, 37, 38, 39, 40, 41, 42, 43, 44, 45, 65, 66, 75, 76, 77, 78, 79, 80, 81, 82, 83, 84, 85, 86, 87, 88, 89, 90, 91, 92, 93, 94] (by decide +kernel) (by decide +kernel)
set_option maxRecDepth 20000 in
theorem gX5_listen_X1_tellingImage : GoodIn wsX5_listen (wsV RX5 231 RX1 yX1_tellingImage wsX1_tellingImage) := goodIn_app (goodIn_of _ (by decide +kernel)) ggX5_listen_X1_tellingImage
theorem dX5_listen_0 : decode cX5_listen 0 = .ok (.aload_n 0, 1) := by decide +kernel
theorem dX5_listen_1 : decode cX5_listen 1 = .ok (.getfield 51, 3) := by decide +kernel
theorem dX5_listen_4 : decode cX5_listen 4 = .ok (.aload_n 0, 1) := by decide +kernel
theorem dX5_listen_5 : decode cX5_listen 5 = .ok (.getfield 10, 3) := by decide +kernel
theorem dX5_listen_8 : decode cX5_listen 8 = .ok (.invokevirtual 219, 3) := by decide +kernel
theorem dX5_listen_11 : decode cX5_listen 11 = .ok (.aload_n 0, 1) := by decide +kernel
theorem dX5_listen_12 : decode cX5_listen 12 = .ok (.getfield 51, 3) := by decide +kernel
theorem dX5_listen_15 : decode cX5_listen 15 = .ok (.getfield 222, 3) := by decide +kernel
theorem dX5_listen_18 : decode cX5_listen 18 = .ok (.iconst 1, 1) := by decide +kernel
theorem dX5_listen_19 : decode cX5_listen 19 = .ok (.if_icmp .le 17, 3) := by decide +kernel
theorem dX5_listen_22 : decode cX5_listen 22 = .ok (.aload_n 0, 1) := by decide +kernel
theorem dX5_listen_23 : decode cX5_listen 23 = .ok (.getfield 51, 3) := by decide +kernel
theorem dX5_listen_26 : decode cX5_listen 26 = .ok (.aload_n 0, 1) := by decide +kernel
theorem dX5_listen_27 : decode cX5_listen 27 = .ok (.getfield 10, 3) := by decide +kernel
theorem dX5_listen_30 : decode cX5_listen 30 = .ok (.invokevirtual 231, 3) := by decide +kernel
theorem dX5_listen_33 : decode cX5_listen 33 = .ok (.goto 5, 3) := by decide +kernel
theorem dX5_listen_36 : decode cX5_listen 36 = .ok (.bipush (-9), 2) := by decide +kernel
theorem dX5_listen_38 : decode cX5_listen 38 = .ok (.ireturn, 1) := by decide +kernel
set_option maxRecDepth 20000 in
theorem ggX5_keep_X5_isWithin : GoodIn wsX5_keep wsX5_isWithin := goodIn_r _ [7] (by decide +kernel) (by decide +kernel)
set_option maxRecDepth 20000 in
theorem gX5_keep_X5_isWithin : GoodIn wsX5_keep (va_wsS RX5 55 yX5_isWithin wsX5_isWithin) := goodIn_app (goodIn_of _ (by decide +kernel)) ggX5_keep_X5_isWithin
set_option maxRecDepth 20000 in
theorem ggX5_keep_X3_copyFrom : GoodIn wsX5_keep wsX3_copyFrom := goodIn_r _ [12, 13, 14, 15, 16, 17, 18, 19, 20, 21, 22, 23, 24, 25, 26, 27, 28, 41, 42, 43, 44, 45, 46, 47, 48, 49, 50, 51, 52] (by decide +kernel) (by decide +kernel)
set_option maxRecDepth 20000 in
theorem gX5_keep_X3_copyFrom : GoodIn wsX5_keep (wsV RX5 71 RX3 yX3_copyFrom wsX3_copyFrom) := goodIn_app (goodIn_of _ (by decide +kernel)) ggX5_keep_X3_copyFrom
set_option maxRecDepth 20000 in
theorem ggX5_keep_X3_sourceCode : GoodIn wsX5_keep wsX3_sourceCode := goodIn_r _ [32, 15, 16, 41, 42, 43, 44, 45, 46, 47, 48, 49, 50, 51, 52] (by decide +kernel) (by decide +kernel)
set_option maxRecDepth 20000 in
theorem gX5_keep_X3_sourceCode : GoodIn wsX5_keep (wsV RX5 123 RX3 yX3_sourceCode wsX3_sourceCode) := goodIn_app (goodIn_of _ (by decide +kernel)) ggX5_keep_X3_sourceCode
theorem dX5_keep_0 : decode cX5_keep 0 = .ok (.iload_n 1, 1) := by decide +kernel
theorem dX5_keep_1 : decode cX5_keep 1 = .ok (.iconst 0, 1) := by decide +kernel
theorem dX5_keep_2 : decode cX5_keep 2 = .ok (.iconst 1, 1) := by decide +kernel
theorem dX5_keep_3 : decode cX5_keep 3 = .ok (.invokestatic 55, 3) := by decide +kernel
theorem dX5_keep_6 : decode cX5_keep 6 = .ok (.ifCond .ne 5, 3) := by decide +kernel
theorem dX5_keep_9 : decode cX5_keep 9 = .ok (.iconst (-1), 1) := by decide +kernel
theorem dX5_keep_10 : decode cX5_keep 10 = .ok (.ireturn, 1) := by decide +kernel
theorem dX5_keep_11 : decode cX5_keep 11 = .ok (.aload_n 0, 1) := by decide +kernel
theorem dX5_keep_12 : decode cX5_keep 12 = .ok (.getfield 19, 3) := by decide +kernel
theorem dX5_keep_15 : decode cX5_keep 15 = .ok (.iload_n 1, 1) := by decide +kernel
theorem dX5_keep_16 : decode cX5_keep 16 = .ok (.aaload, 1) := by decide +kernel
theorem dX5_keep_17 : decode cX5_keep 17 = .ok (.aload_n 0, 1) := by decide +kernel
theorem dX5_keep_18 : decode cX5_keep 18 = .ok (.getfield 10, 3) := by decide +kernel
theorem dX5_keep_21 : decode cX5_keep 21 = .ok (.invokevirtual 71, 3) := by decide +kernel
theorem dX5_keep_24 : decode cX5_keep 24 = .ok (.aload_n 0, 1) := by decide +kernel
theorem dX5_keep_25 : decode cX5_keep 25 = .ok (.getfield 23, 3) := by decide +kernel
theorem dX5_keep_28 : decode cX5_keep 28 = .ok (.iload_n 1, 1) := by decide +kernel
theorem dX5_keep_29 : decode cX5_keep 29 = .ok (.iconst 1, 1) := by decide +kernel
theorem dX5_keep_30 : decode cX5_keep 30 = .ok (.bastore, 1) := by decide +kernel
theorem dX5_keep_31 : decode cX5_keep 31 = .ok (.aload_n 0, 1) := by decide +kernel
theorem dX5_keep_32 : decode cX5_keep 32 = .ok (.getfield 10, 3) := by decide +kernel
theorem dX5_keep_35 : decode cX5_keep 35 = .ok (.invokevirtual 123, 3) := by decide +kernel
theorem dX5_keep_38 : decode cX5_keep 38 = .ok (.ireturn, 1) := by decide +kernel
set_option maxRecDepth 20000 in
theorem ggX5_back_X5_isWithin : GoodIn wsX5_back wsX5_isWithin := goodIn_r _ [9] (by decide +kernel) (by decide +kernel)
set_option maxRecDepth 20000 in
theorem gX5_back_X5_isWithin : GoodIn wsX5_back (va_wsS RX5 55 yX5_isWithin wsX5_isWithin) := goodIn_app (goodIn_of _ (by decide +kernel)) ggX5_back_X5_isWithin
set_option maxRecDepth 20000 in
theorem ggX5_back_X3_copyFrom : GoodIn wsX5_back wsX3_copyFrom := goodIn_r _ [14, 15, 16, 17, 18, 19, 20, 21, 22, 23, 24, 25, 26, 27, 28, 29, 30, 48, 49, 50, 51, 52, 53, 54, 55, 56, 57, 58, 59] (by decide +kernel) (by decide +kernel)
set_option maxRecDepth 20000 in
theorem gX5_back_X3_copyFrom : GoodIn wsX5_back (wsV RX5 71 RX3 yX3_copyFrom wsX3_copyFrom) := goodIn_app (goodIn_of _ (by decide +kernel)) ggX5_back_X3_copyFrom
set_option maxRecDepth 20000 in
theorem ggX5_back_X3_sourceCode : GoodIn wsX5_back wsX3_sourceCode := goodIn_r _ [34, 17, 18, 48, 49, 50, 51, 52, 53, 54, 55, 56, 57, 58, 59] (by decide +kernel) (by decide +kernel)
set_option maxRecDepth 20000 in
theorem gX5_back_X3_sourceCode : GoodIn wsX5_back (wsV RX5 123 RX3 yX3_sourceCode wsX3_sourceCode) := goodIn_app (goodIn_of _ (by decide +kernel)) ggX5_back_X3_sourceCode
theorem dX5_back_0 : decode cX5_back 0 = .ok (.iload_n 1, 1) := by decide +kernel
theorem dX5_back_1 : decode cX5_back 1 = .ok (.iconst 0, 1) := by decide +kernel
theorem dX5_back_2 : decode cX5_back 2 = .ok (.iconst 1, 1) := by decide +kernel
theorem dX5_back_3 : decode cX5_back 3 = .ok (.invokestatic 55, 3) := by decide +kernel
theorem dX5_back_6 : decode cX5_back 6 = .ok (.ifCond .ne 5, 3) := by decide +kernel
theorem dX5_back_9 : decode cX5_back 9 = .ok (.iconst (-1), 1) := by decide +kernel
theorem dX5_back_10 : decode cX5_back 10 = .ok (.ireturn, 1) := by decide +kernel
theorem dX5_back_11 : decode cX5_back 11 = .ok (.aload_n 0, 1) := by decide +kernel
theorem dX5_back_12 : decode cX5_back 12 = .ok (.getfield 23, 3) := by decide +kernel
theorem dX5_back_15 : decode cX5_back 15 = .ok (.iload_n 1, 1) := by decide +kernel
theorem dX5_back_16 : decode cX5_back 16 = .ok (.baload, 1) := by decide +kernel
theorem dX5_back_17 : decode cX5_back 17 = .ok (.ifCond .ne 6, 3) := by decide +kernel
theorem dX5_back_20 : decode cX5_back 20 = .ok (.bipush (-2), 2) := by decide +kernel
theorem dX5_back_22 : decode cX5_back 22 = .ok (.ireturn, 1) := by decide +kernel
theorem dX5_back_23 : decode cX5_back 23 = .ok (.aload_n 0, 1) := by decide +kernel
theorem dX5_back_24 : decode cX5_back 24 = .ok (.getfield 10, 3) := by decide +kernel
theorem dX5_back_27 : decode cX5_back 27 = .ok (.aload_n 0, 1) := by decide +kernel
theorem dX5_back_28 : decode cX5_back 28 = .ok (.getfield 19, 3) := by decide +kernel
theorem dX5_back_31 : decode cX5_back 31 = .ok (.iload_n 1, 1) := by decide +kernel
theorem dX5_back_32 : decode cX5_back 32 = .ok (.aaload, 1) := by decide +kernel
theorem dX5_back_33 : decode cX5_back 33 = .ok (.invokevirtual 71, 3) := by decide +kernel
theorem dX5_back_36 : decode cX5_back 36 = .ok (.aload_n 0, 1) := by decide +kernel
theorem dX5_back_37 : decode cX5_back 37 = .ok (.getfield 37, 3) := by decide +kernel
theorem dX5_back_40 : decode cX5_back 40 = .ok (.iconst 0, 1) := by decide +kernel
theorem dX5_back_41 : decode cX5_back 41 = .ok (.putfield 75, 3) := by decide +kernel
theorem dX5_back_44 : decode cX5_back 44 = .ok (.aload_n 0, 1) := by decide +kernel
theorem dX5_back_45 : decode cX5_back 45 = .ok (.getfield 10, 3) := by decide +kernel
theorem dX5_back_48 : decode cX5_back 48 = .ok (.invokevirtual 123, 3) := by decide +kernel
theorem dX5_back_51 : decode cX5_back 51 = .ok (.ireturn, 1) := by decide +kernel
theorem dX5_count_0 : decode cX5_count 0 = .ok (.iload_n 1, 1) := by decide +kernel
theorem dX5_count_1 : decode cX5_count 1 = .ok (.tableswitch 123 0 8 #[51, 59, 67, 75, 83, 91, 99, 107, 115], 51) := by decide +kernel
theorem dX5_count_52 : decode cX5_count 52 = .ok (.aload_n 0, 1) := by decide +kernel
theorem dX5_count_53 : decode cX5_count 53 = .ok (.getfield 10, 3) := by decide +kernel
theorem dX5_count_56 : decode cX5_count 56 = .ok (.getfield 114, 3) := by decide +kernel
theorem dX5_count_59 : decode cX5_count 59 = .ok (.ireturn, 1) := by decide +kernel
theorem dX5_count_60 : decode cX5_count 60 = .ok (.aload_n 0, 1) := by decide +kernel
theorem dX5_count_61 : decode cX5_count 61 = .ok (.getfield 10, 3) := by decide +kernel
theorem dX5_count_64 : decode cX5_count 64 = .ok (.getfield 111, 3) := by decide +kernel
theorem dX5_count_67 : decode cX5_count 67 = .ok (.ireturn, 1) := by decide +kernel
theorem dX5_count_68 : decode cX5_count 68 = .ok (.aload_n 0, 1) := by decide +kernel
theorem dX5_count_69 : decode cX5_count 69 = .ok (.getfield 10, 3) := by decide +kernel
theorem dX5_count_72 : decode cX5_count 72 = .ok (.getfield 117, 3) := by decide +kernel
theorem dX5_count_75 : decode cX5_count 75 = .ok (.ireturn, 1) := by decide +kernel
theorem dX5_count_76 : decode cX5_count 76 = .ok (.aload_n 0, 1) := by decide +kernel
theorem dX5_count_77 : decode cX5_count 77 = .ok (.getfield 10, 3) := by decide +kernel
theorem dX5_count_80 : decode cX5_count 80 = .ok (.getfield 120, 3) := by decide +kernel
theorem dX5_count_83 : decode cX5_count 83 = .ok (.ireturn, 1) := by decide +kernel
theorem dX5_count_84 : decode cX5_count 84 = .ok (.aload_n 0, 1) := by decide +kernel
theorem dX5_count_85 : decode cX5_count 85 = .ok (.getfield 10, 3) := by decide +kernel
theorem dX5_count_88 : decode cX5_count 88 = .ok (.getfield 202, 3) := by decide +kernel
theorem dX5_count_91 : decode cX5_count 91 = .ok (.ireturn, 1) := by decide +kernel
theorem dX5_count_92 : decode cX5_count 92 = .ok (.aload_n 0, 1) := by decide +kernel
theorem dX5_count_93 : decode cX5_count 93 = .ok (.getfield 10, 3) := by decide +kernel
theorem dX5_count_96 : decode cX5_count 96 = .ok (.getfield 234, 3) := by decide +kernel
theorem dX5_count_99 : decode cX5_count 99 = .ok (.ireturn, 1) := by decide +kernel
theorem dX5_count_100 : decode cX5_count 100 = .ok (.aload_n 0, 1) := by decide +kernel
theorem dX5_count_101 : decode cX5_count 101 = .ok (.getfield 51, 3) := by decide +kernel
theorem dX5_count_104 : decode cX5_count 104 = .ok (.getfield 76, 3) := by decide +kernel
theorem dX5_count_107 : decode cX5_count 107 = .ok (.ireturn, 1) := by decide +kernel
theorem dX5_count_108 : decode cX5_count 108 = .ok (.aload_n 0, 1) := by decide +kernel
theorem dX5_count_109 : decode cX5_count 109 = .ok (.getfield 30, 3) := by decide +kernel
theorem dX5_count_112 : decode cX5_count 112 = .ok (.getfield 63, 3) := by decide +kernel
theorem dX5_count_115 : decode cX5_count 115 = .ok (.ireturn, 1) := by decide +kernel
theorem dX5_count_116 : decode cX5_count 116 = .ok (.aload_n 0, 1) := by decide +kernel
theorem dX5_count_117 : decode cX5_count 117 = .ok (.getfield 37, 3) := by decide +kernel
theorem dX5_count_120 : decode cX5_count 120 = .ok (.getfield 75, 3) := by decide +kernel
theorem dX5_count_123 : decode cX5_count 123 = .ok (.ireturn, 1) := by decide +kernel
theorem dX5_count_124 : decode cX5_count 124 = .ok (.iconst (-1), 1) := by decide +kernel
theorem dX5_count_125 : decode cX5_count 125 = .ok (.ireturn, 1) := by decide +kernel
theorem dX5_dropKept_0 : decode cX5_dropKept 0 = .ok (.iconst 0, 1) := by decide +kernel
theorem dX5_dropKept_1 : decode cX5_dropKept 1 = .ok (.istore_n 1, 1) := by decide +kernel
theorem dX5_dropKept_2 : decode cX5_dropKept 2 = .ok (.iload_n 1, 1) := by decide +kernel
theorem dX5_dropKept_3 : decode cX5_dropKept 3 = .ok (.iconst 2, 1) := by decide +kernel
theorem dX5_dropKept_4 : decode cX5_dropKept 4 = .ok (.if_icmp .ge 16, 3) := by decide +kernel
theorem dX5_dropKept_7 : decode cX5_dropKept 7 = .ok (.aload_n 0, 1) := by decide +kernel
theorem dX5_dropKept_8 : decode cX5_dropKept 8 = .ok (.getfield 23, 3) := by decide +kernel
theorem dX5_dropKept_11 : decode cX5_dropKept 11 = .ok (.iload_n 1, 1) := by decide +kernel
theorem dX5_dropKept_12 : decode cX5_dropKept 12 = .ok (.iconst 0, 1) := by decide +kernel
theorem dX5_dropKept_13 : decode cX5_dropKept 13 = .ok (.bastore, 1) := by decide +kernel
theorem dX5_dropKept_14 : decode cX5_dropKept 14 = .ok (.iinc 1 1, 3) := by decide +kernel
theorem dX5_dropKept_17 : decode cX5_dropKept 17 = .ok (.goto (-15), 3) := by decide +kernel
theorem dX5_dropKept_20 : decode cX5_dropKept 20 = .ok (.return_, 1) := by decide +kernel
theorem dX5_isWithin_0 : decode cX5_isWithin 0 = .ok (.iload_n 0, 1) := by decide +kernel
theorem dX5_isWithin_1 : decode cX5_isWithin 1 = .ok (.iload_n 1, 1) := by decide +kernel
theorem dX5_isWithin_2 : decode cX5_isWithin 2 = .ok (.if_icmp .lt 12, 3) := by decide +kernel
theorem dX5_isWithin_5 : decode cX5_isWithin 5 = .ok (.iload_n 0, 1) := by decide +kernel
theorem dX5_isWithin_6 : decode cX5_isWithin 6 = .ok (.iload_n 2, 1) := by decide +kernel
theorem dX5_isWithin_7 : decode cX5_isWithin 7 = .ok (.if_icmp .gt 7, 3) := by decide +kernel
theorem dX5_isWithin_10 : decode cX5_isWithin 10 = .ok (.iconst 1, 1) := by decide +kernel
theorem dX5_isWithin_11 : decode cX5_isWithin 11 = .ok (.goto 4, 3) := by decide +kernel
theorem dX5_isWithin_14 : decode cX5_isWithin 14 = .ok (.iconst 0, 1) := by decide +kernel
theorem dX5_isWithin_15 : decode cX5_isWithin 15 = .ok (.ireturn, 1) := by decide +kernel
set_option maxRecDepth 20000 in
theorem ggX5_isImage_X5_isWithin : GoodIn wsX5_isImage wsX5_isWithin := goodIn_r _ [8] (by decide +kernel) (by decide +kernel)
set_option maxRecDepth 20000 in
theorem gX5_isImage_X5_isWithin : GoodIn wsX5_isImage (va_wsS RX5 55 yX5_isWithin wsX5_isWithin) := goodIn_app (goodIn_of _ (by decide +kernel)) ggX5_isImage_X5_isWithin
theorem dX5_isImage_0 : decode cX5_isImage 0 = .ok (.iload_n 0, 1) := by decide +kernel
theorem dX5_isImage_1 : decode cX5_isImage 1 = .ok (.bipush (-3), 2) := by decide +kernel
theorem dX5_isImage_3 : decode cX5_isImage 3 = .ok (.iconst 3, 1) := by decide +kernel
theorem dX5_isImage_4 : decode cX5_isImage 4 = .ok (.invokestatic 55, 3) := by decide +kernel
theorem dX5_isImage_7 : decode cX5_isImage 7 = .ok (.ifCond .eq 30, 3) := by decide +kernel
theorem dX5_isImage_10 : decode cX5_isImage 10 = .ok (.iload_n 1, 1) := by decide +kernel
theorem dX5_isImage_11 : decode cX5_isImage 11 = .ok (.bipush (-3), 2) := by decide +kernel
theorem dX5_isImage_13 : decode cX5_isImage 13 = .ok (.iconst 3, 1) := by decide +kernel
theorem dX5_isImage_14 : decode cX5_isImage 14 = .ok (.invokestatic 55, 3) := by decide +kernel
theorem dX5_isImage_17 : decode cX5_isImage 17 = .ok (.ifCond .eq 20, 3) := by decide +kernel
theorem dX5_isImage_20 : decode cX5_isImage 20 = .ok (.iload_n 0, 1) := by decide +kernel
theorem dX5_isImage_21 : decode cX5_isImage 21 = .ok (.invokestatic 142, 3) := by decide +kernel
theorem dX5_isImage_24 : decode cX5_isImage 24 = .ok (.iload_n 1, 1) := by decide +kernel
theorem dX5_isImage_25 : decode cX5_isImage 25 = .ok (.invokestatic 142, 3) := by decide +kernel
theorem dX5_isImage_28 : decode cX5_isImage 28 = .ok (.iadd, 1) := by decide +kernel
theorem dX5_isImage_29 : decode cX5_isImage 29 = .ok (.iconst 3, 1) := by decide +kernel
theorem dX5_isImage_30 : decode cX5_isImage 30 = .ok (.if_icmp .gt 7, 3) := by decide +kernel
theorem dX5_isImage_33 : decode cX5_isImage 33 = .ok (.iconst 1, 1) := by decide +kernel
theorem dX5_isImage_34 : decode cX5_isImage 34 = .ok (.goto 4, 3) := by decide +kernel
theorem dX5_isImage_37 : decode cX5_isImage 37 = .ok (.iconst 0, 1) := by decide +kernel
theorem dX5_isImage_38 : decode cX5_isImage 38 = .ok (.ireturn, 1) := by decide +kernel
theorem dX5_imageCode_0 : decode cX5_imageCode 0 = .ok (.bipush 100, 2) := by decide +kernel
theorem dX5_imageCode_2 : decode cX5_imageCode 2 = .ok (.iload_n 0, 1) := by decide +kernel
theorem dX5_imageCode_3 : decode cX5_imageCode 3 = .ok (.iconst 3, 1) := by decide +kernel
theorem dX5_imageCode_4 : decode cX5_imageCode 4 = .ok (.iadd, 1) := by decide +kernel
theorem dX5_imageCode_5 : decode cX5_imageCode 5 = .ok (.imul, 1) := by decide +kernel
theorem dX5_imageCode_6 : decode cX5_imageCode 6 = .ok (.iload_n 1, 1) := by decide +kernel
theorem dX5_imageCode_7 : decode cX5_imageCode 7 = .ok (.iadd, 1) := by decide +kernel
theorem dX5_imageCode_8 : decode cX5_imageCode 8 = .ok (.iconst 3, 1) := by decide +kernel
theorem dX5_imageCode_9 : decode cX5_imageCode 9 = .ok (.iadd, 1) := by decide +kernel
theorem dX5_imageCode_10 : decode cX5_imageCode 10 = .ok (.ireturn, 1) := by decide +kernel
theorem dX5_mirrored_0 : decode cX5_mirrored 0 = .ok (.iload_n 0, 1) := by decide +kernel
theorem dX5_mirrored_1 : decode cX5_mirrored 1 = .ok (.iload_n 1, 1) := by decide +kernel
theorem dX5_mirrored_2 : decode cX5_mirrored 2 = .ok (.imul, 1) := by decide +kernel
theorem dX5_mirrored_3 : decode cX5_mirrored 3 = .ok (.iload_n 0, 1) := by decide +kernel
theorem dX5_mirrored_4 : decode cX5_mirrored 4 = .ok (.iconst 1, 1) := by decide +kernel
theorem dX5_mirrored_5 : decode cX5_mirrored 5 = .ok (.iand, 1) := by decide +kernel
theorem dX5_mirrored_6 : decode cX5_mirrored 6 = .ok (.ifCond .ne 7, 3) := by decide +kernel
theorem dX5_mirrored_9 : decode cX5_mirrored 9 = .ok (.iload_n 2, 1) := by decide +kernel
theorem dX5_mirrored_10 : decode cX5_mirrored 10 = .ok (.goto 6, 3) := by decide +kernel
theorem dX5_mirrored_13 : decode cX5_mirrored 13 = .ok (.iload_n 1, 1) := by decide +kernel
theorem dX5_mirrored_14 : decode cX5_mirrored 14 = .ok (.iload_n 2, 1) := by decide +kernel
theorem dX5_mirrored_15 : decode cX5_mirrored 15 = .ok (.isub, 1) := by decide +kernel
theorem dX5_mirrored_16 : decode cX5_mirrored 16 = .ok (.iadd, 1) := by decide +kernel
theorem dX5_mirrored_17 : decode cX5_mirrored 17 = .ok (.ireturn, 1) := by decide +kernel
theorem dX5_farPasses_0 : decode cX5_farPasses 0 = .ok (.iload_n 0, 1) := by decide +kernel
theorem dX5_farPasses_1 : decode cX5_farPasses 1 = .ok (.ifCond .le 11, 3) := by decide +kernel
theorem dX5_farPasses_4 : decode cX5_farPasses 4 = .ok (.iload_n 0, 1) := by decide +kernel
theorem dX5_farPasses_5 : decode cX5_farPasses 5 = .ok (.iconst 1, 1) := by decide +kernel
theorem dX5_farPasses_6 : decode cX5_farPasses 6 = .ok (.iadd, 1) := by decide +kernel
theorem dX5_farPasses_7 : decode cX5_farPasses 7 = .ok (.iconst 2, 1) := by decide +kernel
theorem dX5_farPasses_8 : decode cX5_farPasses 8 = .ok (.idiv, 1) := by decide +kernel
theorem dX5_farPasses_9 : decode cX5_farPasses 9 = .ok (.goto 7, 3) := by decide +kernel
theorem dX5_farPasses_12 : decode cX5_farPasses 12 = .ok (.iload_n 0, 1) := by decide +kernel
theorem dX5_farPasses_13 : decode cX5_farPasses 13 = .ok (.ineg, 1) := by decide +kernel
theorem dX5_farPasses_14 : decode cX5_farPasses 14 = .ok (.iconst 2, 1) := by decide +kernel
theorem dX5_farPasses_15 : decode cX5_farPasses 15 = .ok (.idiv, 1) := by decide +kernel
theorem dX5_farPasses_16 : decode cX5_farPasses 16 = .ok (.ireturn, 1) := by decide +kernel
set_option maxRecDepth 20000 in
theorem ggX5_passes_X5_farPasses : GoodIn wsX5_passes wsX5_farPasses := goodIn_r _ [4] (by decide +kernel) (by decide +kernel)
set_option maxRecDepth 20000 in
theorem gX5_passes_X5_farPasses : GoodIn wsX5_passes (va_wsS RX5 237 yX5_farPasses wsX5_farPasses) := goodIn_app (goodIn_of _ (by decide +kernel)) ggX5_passes_X5_farPasses
theorem dX5_passes_0 : decode cX5_passes 0 = .ok (.iload_n 0, 1) := by decide +kernel
theorem dX5_passes_1 : decode cX5_passes 1 = .ok (.tableswitch 44 0 2 #[27, 33, 38], 27) := by decide +kernel
theorem dX5_passes_28 : decode cX5_passes 28 = .ok (.iload_n 1, 1) := by decide +kernel
theorem dX5_passes_29 : decode cX5_passes 29 = .ok (.ineg, 1) := by decide +kernel
theorem dX5_passes_30 : decode cX5_passes 30 = .ok (.invokestatic 237, 3) := by decide +kernel
theorem dX5_passes_33 : decode cX5_passes 33 = .ok (.ireturn, 1) := by decide +kernel
theorem dX5_passes_34 : decode cX5_passes 34 = .ok (.iload_n 1, 1) := by decide +kernel
theorem dX5_passes_35 : decode cX5_passes 35 = .ok (.invokestatic 237, 3) := by decide +kernel
theorem dX5_passes_38 : decode cX5_passes 38 = .ok (.ireturn, 1) := by decide +kernel
theorem dX5_passes_39 : decode cX5_passes 39 = .ok (.iload_n 2, 1) := by decide +kernel
theorem dX5_passes_40 : decode cX5_passes 40 = .ok (.ineg, 1) := by decide +kernel
theorem dX5_passes_41 : decode cX5_passes 41 = .ok (.invokestatic 237, 3) := by decide +kernel
theorem dX5_passes_44 : decode cX5_passes 44 = .ok (.ireturn, 1) := by decide +kernel
theorem dX5_passes_45 : decode cX5_passes 45 = .ok (.iload_n 2, 1) := by decide +kernel
theorem dX5_passes_46 : decode cX5_passes 46 = .ok (.invokestatic 237, 3) := by decide +kernel
theorem dX5_passes_49 : decode cX5_passes 49 = .ok (.ireturn, 1) := by decide +kernel
theorem dX5_squares_0 : decode cX5_squares 0 = .ok (.iload_n 0, 1) := by decide +kernel
theorem dX5_squares_1 : decode cX5_squares 1 = .ok (.iload_n 0, 1) := by decide +kernel
theorem dX5_squares_2 : decode cX5_squares 2 = .ok (.imul, 1) := by decide +kernel
theorem dX5_squares_3 : decode cX5_squares 3 = .ok (.iload_n 1, 1) := by decide +kernel
theorem dX5_squares_4 : decode cX5_squares 4 = .ok (.iload_n 1, 1) := by decide +kernel
theorem dX5_squares_5 : decode cX5_squares 5 = .ok (.imul, 1) := by decide +kernel
theorem dX5_squares_6 : decode cX5_squares 6 = .ok (.iadd, 1) := by decide +kernel
theorem dX5_squares_7 : decode cX5_squares 7 = .ok (.ireturn, 1) := by decide +kernel
theorem dX5_timeOf_0 : decode cX5_timeOf 0 = .ok (.bipush 100, 2) := by decide +kernel
theorem dX5_timeOf_2 : decode cX5_timeOf 2 = .ok (.iload_n 0, 1) := by decide +kernel
theorem dX5_timeOf_3 : decode cX5_timeOf 3 = .ok (.imul, 1) := by decide +kernel
theorem dX5_timeOf_4 : decode cX5_timeOf 4 = .ok (.istore_n 1, 1) := by decide +kernel
theorem dX5_timeOf_5 : decode cX5_timeOf 5 = .ok (.iconst 0, 1) := by decide +kernel
theorem dX5_timeOf_6 : decode cX5_timeOf 6 = .ok (.istore_n 2, 1) := by decide +kernel
theorem dX5_timeOf_7 : decode cX5_timeOf 7 = .ok (.sipush 512, 3) := by decide +kernel
theorem dX5_timeOf_10 : decode cX5_timeOf 10 = .ok (.istore_n 3, 1) := by decide +kernel
theorem dX5_timeOf_11 : decode cX5_timeOf 11 = .ok (.iload_n 3, 1) := by decide +kernel
theorem dX5_timeOf_12 : decode cX5_timeOf 12 = .ok (.ifCond .le 27, 3) := by decide +kernel
theorem dX5_timeOf_15 : decode cX5_timeOf 15 = .ok (.iload_n 2, 1) := by decide +kernel
theorem dX5_timeOf_16 : decode cX5_timeOf 16 = .ok (.iload_n 3, 1) := by decide +kernel
theorem dX5_timeOf_17 : decode cX5_timeOf 17 = .ok (.iadd, 1) := by decide +kernel
theorem dX5_timeOf_18 : decode cX5_timeOf 18 = .ok (.istore 4, 2) := by decide +kernel
theorem dX5_timeOf_20 : decode cX5_timeOf 20 = .ok (.iload 4, 2) := by decide +kernel
theorem dX5_timeOf_22 : decode cX5_timeOf 22 = .ok (.iload 4, 2) := by decide +kernel
theorem dX5_timeOf_24 : decode cX5_timeOf 24 = .ok (.imul, 1) := by decide +kernel
theorem dX5_timeOf_25 : decode cX5_timeOf 25 = .ok (.iload_n 1, 1) := by decide +kernel
theorem dX5_timeOf_26 : decode cX5_timeOf 26 = .ok (.if_icmp .gt 6, 3) := by decide +kernel
theorem dX5_timeOf_29 : decode cX5_timeOf 29 = .ok (.iload 4, 2) := by decide +kernel
theorem dX5_timeOf_31 : decode cX5_timeOf 31 = .ok (.istore_n 2, 1) := by decide +kernel
theorem dX5_timeOf_32 : decode cX5_timeOf 32 = .ok (.iload_n 3, 1) := by decide +kernel
theorem dX5_timeOf_33 : decode cX5_timeOf 33 = .ok (.iconst 2, 1) := by decide +kernel
theorem dX5_timeOf_34 : decode cX5_timeOf 34 = .ok (.idiv, 1) := by decide +kernel
theorem dX5_timeOf_35 : decode cX5_timeOf 35 = .ok (.istore_n 3, 1) := by decide +kernel
theorem dX5_timeOf_36 : decode cX5_timeOf 36 = .ok (.goto (-25), 3) := by decide +kernel
theorem dX5_timeOf_39 : decode cX5_timeOf 39 = .ok (.iload_n 2, 1) := by decide +kernel
theorem dX5_timeOf_40 : decode cX5_timeOf 40 = .ok (.ireturn, 1) := by decide +kernel
set_option maxRecDepth 20000 in
theorem ggX5_strengthOf_X5_passes : GoodIn wsX5_strengthOf wsX5_passes := goodIn_r _ [9, 10, 11, 8, 12] (by decide +kernel) (by decide +kernel)
set_option maxRecDepth 20000 in
theorem gX5_strengthOf_X5_passes : GoodIn wsX5_strengthOf (va_wsS RX5 241 yX5_passes wsX5_passes) := goodIn_app (goodIn_of _ (by decide +kernel)) ggX5_strengthOf_X5_passes
theorem dX5_strengthOf_0 : decode cX5_strengthOf 0 = .ok (.ldc 240, 2) := by decide +kernel
theorem dX5_strengthOf_2 : decode cX5_strengthOf 2 = .ok (.istore 4, 2) := by decide +kernel
theorem dX5_strengthOf_4 : decode cX5_strengthOf 4 = .ok (.iconst 0, 1) := by decide +kernel
theorem dX5_strengthOf_5 : decode cX5_strengthOf 5 = .ok (.istore 5, 2) := by decide +kernel
theorem dX5_strengthOf_7 : decode cX5_strengthOf 7 = .ok (.iload 5, 2) := by decide +kernel
theorem dX5_strengthOf_9 : decode cX5_strengthOf 9 = .ok (.iconst 3, 1) := by decide +kernel
theorem dX5_strengthOf_10 : decode cX5_strengthOf 10 = .ok (.if_icmp .gt 49, 3) := by decide +kernel
theorem dX5_strengthOf_13 : decode cX5_strengthOf 13 = .ok (.iload 5, 2) := by decide +kernel
theorem dX5_strengthOf_15 : decode cX5_strengthOf 15 = .ok (.iload_n 1, 1) := by decide +kernel
theorem dX5_strengthOf_16 : decode cX5_strengthOf 16 = .ok (.iload_n 2, 1) := by decide +kernel
theorem dX5_strengthOf_17 : decode cX5_strengthOf 17 = .ok (.invokestatic 241, 3) := by decide +kernel
theorem dX5_strengthOf_20 : decode cX5_strengthOf 20 = .ok (.istore 6, 2) := by decide +kernel
theorem dX5_strengthOf_22 : decode cX5_strengthOf 22 = .ok (.iconst 0, 1) := by decide +kernel
theorem dX5_strengthOf_23 : decode cX5_strengthOf 23 = .ok (.istore 7, 2) := by decide +kernel
theorem dX5_strengthOf_25 : decode cX5_strengthOf 25 = .ok (.iload 7, 2) := by decide +kernel
theorem dX5_strengthOf_27 : decode cX5_strengthOf 27 = .ok (.iload 6, 2) := by decide +kernel
theorem dX5_strengthOf_29 : decode cX5_strengthOf 29 = .ok (.if_icmp .ge 24, 3) := by decide +kernel
theorem dX5_strengthOf_32 : decode cX5_strengthOf 32 = .ok (.iload 4, 2) := by decide +kernel
theorem dX5_strengthOf_34 : decode cX5_strengthOf 34 = .ok (.bipush 10, 2) := by decide +kernel
theorem dX5_strengthOf_36 : decode cX5_strengthOf 36 = .ok (.aload_n 0, 1) := by decide +kernel
theorem dX5_strengthOf_37 : decode cX5_strengthOf 37 = .ok (.iload 5, 2) := by decide +kernel
theorem dX5_strengthOf_39 : decode cX5_strengthOf 39 = .ok (.iaload, 1) := by decide +kernel
theorem dX5_strengthOf_40 : decode cX5_strengthOf 40 = .ok (.isub, 1) := by decide +kernel
theorem dX5_strengthOf_41 : decode cX5_strengthOf 41 = .ok (.imul, 1) := by decide +kernel
theorem dX5_strengthOf_42 : decode cX5_strengthOf 42 = .ok (.bipush 10, 2) := by decide +kernel
theorem dX5_strengthOf_44 : decode cX5_strengthOf 44 = .ok (.idiv, 1) := by decide +kernel
theorem dX5_strengthOf_45 : decode cX5_strengthOf 45 = .ok (.istore 4, 2) := by decide +kernel
theorem dX5_strengthOf_47 : decode cX5_strengthOf 47 = .ok (.iinc 7 1, 3) := by decide +kernel
theorem dX5_strengthOf_50 : decode cX5_strengthOf 50 = .ok (.goto (-25), 3) := by decide +kernel
theorem dX5_strengthOf_53 : decode cX5_strengthOf 53 = .ok (.iinc 5 1, 3) := by decide +kernel
theorem dX5_strengthOf_56 : decode cX5_strengthOf 56 = .ok (.goto (-49), 3) := by decide +kernel
theorem dX5_strengthOf_59 : decode cX5_strengthOf 59 = .ok (.iload 4, 2) := by decide +kernel
theorem dX5_strengthOf_61 : decode cX5_strengthOf 61 = .ok (.iconst 1, 1) := by decide +kernel
theorem dX5_strengthOf_62 : decode cX5_strengthOf 62 = .ok (.iload_n 3, 1) := by decide +kernel
theorem dX5_strengthOf_63 : decode cX5_strengthOf 63 = .ok (.iconst 1, 1) := by decide +kernel
theorem dX5_strengthOf_64 : decode cX5_strengthOf 64 = .ok (.iadd, 1) := by decide +kernel
theorem dX5_strengthOf_65 : decode cX5_strengthOf 65 = .ok (.invokestatic 205, 3) := by decide +kernel
theorem dX5_strengthOf_68 : decode cX5_strengthOf 68 = .ok (.idiv, 1) := by decide +kernel
theorem dX5_strengthOf_69 : decode cX5_strengthOf 69 = .ok (.ireturn, 1) := by decide +kernel
theorem dX5_chanceOf_0 : decode cX5_chanceOf 0 = .ok (.iconst 1, 1) := by decide +kernel
theorem dX5_chanceOf_1 : decode cX5_chanceOf 1 = .ok (.istore_n 2, 1) := by decide +kernel
theorem dX5_chanceOf_2 : decode cX5_chanceOf 2 = .ok (.iconst 0, 1) := by decide +kernel
theorem dX5_chanceOf_3 : decode cX5_chanceOf 3 = .ok (.istore_n 3, 1) := by decide +kernel
theorem dX5_chanceOf_4 : decode cX5_chanceOf 4 = .ok (.iload_n 3, 1) := by decide +kernel
theorem dX5_chanceOf_5 : decode cX5_chanceOf 5 = .ok (.iconst 3, 1) := by decide +kernel
theorem dX5_chanceOf_6 : decode cX5_chanceOf 6 = .ok (.if_icmp .gt 29, 3) := by decide +kernel
theorem dX5_chanceOf_9 : decode cX5_chanceOf 9 = .ok (.iload_n 2, 1) := by decide +kernel
theorem dX5_chanceOf_10 : decode cX5_chanceOf 10 = .ok (.iload_n 0, 1) := by decide +kernel
theorem dX5_chanceOf_11 : decode cX5_chanceOf 11 = .ok (.iload_n 3, 1) := by decide +kernel
theorem dX5_chanceOf_12 : decode cX5_chanceOf 12 = .ok (.ishr, 1) := by decide +kernel
theorem dX5_chanceOf_13 : decode cX5_chanceOf 13 = .ok (.iconst 1, 1) := by decide +kernel
theorem dX5_chanceOf_14 : decode cX5_chanceOf 14 = .ok (.iand, 1) := by decide +kernel
theorem dX5_chanceOf_15 : decode cX5_chanceOf 15 = .ok (.iconst 1, 1) := by decide +kernel
theorem dX5_chanceOf_16 : decode cX5_chanceOf 16 = .ok (.if_icmp .ne 7, 3) := by decide +kernel
theorem dX5_chanceOf_19 : decode cX5_chanceOf 19 = .ok (.iload_n 1, 1) := by decide +kernel
theorem dX5_chanceOf_20 : decode cX5_chanceOf 20 = .ok (.goto 7, 3) := by decide +kernel
theorem dX5_chanceOf_23 : decode cX5_chanceOf 23 = .ok (.bipush 10, 2) := by decide +kernel
theorem dX5_chanceOf_25 : decode cX5_chanceOf 25 = .ok (.iload_n 1, 1) := by decide +kernel
theorem dX5_chanceOf_26 : decode cX5_chanceOf 26 = .ok (.isub, 1) := by decide +kernel
theorem dX5_chanceOf_27 : decode cX5_chanceOf 27 = .ok (.imul, 1) := by decide +kernel
theorem dX5_chanceOf_28 : decode cX5_chanceOf 28 = .ok (.istore_n 2, 1) := by decide +kernel
theorem dX5_chanceOf_29 : decode cX5_chanceOf 29 = .ok (.iinc 3 1, 3) := by decide +kernel
theorem dX5_chanceOf_32 : decode cX5_chanceOf 32 = .ok (.goto (-28), 3) := by decide +kernel
theorem dX5_chanceOf_35 : decode cX5_chanceOf 35 = .ok (.iload_n 2, 1) := by decide +kernel
theorem dX5_chanceOf_36 : decode cX5_chanceOf 36 = .ok (.ireturn, 1) := by decide +kernel
set_option maxRecDepth 20000 in
theorem ggX5_leastTerm_X5_commonDivisor : GoodIn wsX5_leastTerm wsX5_commonDivisor := goodIn_r _ [8] (by decide +kernel) (by decide +kernel)
set_option maxRecDepth 20000 in
theorem gX5_leastTerm_X5_commonDivisor : GoodIn wsX5_leastTerm (va_wsS RX5 244 yX5_commonDivisor wsX5_commonDivisor) := goodIn_app (goodIn_of _ (by decide +kernel)) ggX5_leastTerm_X5_commonDivisor
theorem dX5_leastTerm_0 : decode cX5_leastTerm 0 = .ok (.iload_n 0, 1) := by decide +kernel
theorem dX5_leastTerm_1 : decode cX5_leastTerm 1 = .ok (.ifCond .le 7, 3) := by decide +kernel
theorem dX5_leastTerm_4 : decode cX5_leastTerm 4 = .ok (.iload_n 1, 1) := by decide +kernel
theorem dX5_leastTerm_5 : decode cX5_leastTerm 5 = .ok (.ifCond .gt 5, 3) := by decide +kernel
theorem dX5_leastTerm_8 : decode cX5_leastTerm 8 = .ok (.iload_n 2, 1) := by decide +kernel
theorem dX5_leastTerm_9 : decode cX5_leastTerm 9 = .ok (.ireturn, 1) := by decide +kernel
theorem dX5_leastTerm_10 : decode cX5_leastTerm 10 = .ok (.iload_n 0, 1) := by decide +kernel
theorem dX5_leastTerm_11 : decode cX5_leastTerm 11 = .ok (.iload_n 1, 1) := by decide +kernel
theorem dX5_leastTerm_12 : decode cX5_leastTerm 12 = .ok (.invokestatic 244, 3) := by decide +kernel
theorem dX5_leastTerm_15 : decode cX5_leastTerm 15 = .ok (.istore_n 3, 1) := by decide +kernel
theorem dX5_leastTerm_16 : decode cX5_leastTerm 16 = .ok (.iload_n 2, 1) := by decide +kernel
theorem dX5_leastTerm_17 : decode cX5_leastTerm 17 = .ok (.ifCond .ne 7, 3) := by decide +kernel
theorem dX5_leastTerm_20 : decode cX5_leastTerm 20 = .ok (.iload_n 0, 1) := by decide +kernel
theorem dX5_leastTerm_21 : decode cX5_leastTerm 21 = .ok (.goto 4, 3) := by decide +kernel
theorem dX5_leastTerm_24 : decode cX5_leastTerm 24 = .ok (.iload_n 1, 1) := by decide +kernel
theorem dX5_leastTerm_25 : decode cX5_leastTerm 25 = .ok (.iconst 1, 1) := by decide +kernel
theorem dX5_leastTerm_26 : decode cX5_leastTerm 26 = .ok (.iload_n 3, 1) := by decide +kernel
theorem dX5_leastTerm_27 : decode cX5_leastTerm 27 = .ok (.invokestatic 205, 3) := by decide +kernel
theorem dX5_leastTerm_30 : decode cX5_leastTerm 30 = .ok (.idiv, 1) := by decide +kernel
theorem dX5_leastTerm_31 : decode cX5_leastTerm 31 = .ok (.ireturn, 1) := by decide +kernel
theorem dX5_commonDivisor_0 : decode cX5_commonDivisor 0 = .ok (.iload_n 0, 1) := by decide +kernel
theorem dX5_commonDivisor_1 : decode cX5_commonDivisor 1 = .ok (.istore_n 2, 1) := by decide +kernel
theorem dX5_commonDivisor_2 : decode cX5_commonDivisor 2 = .ok (.iload_n 1, 1) := by decide +kernel
theorem dX5_commonDivisor_3 : decode cX5_commonDivisor 3 = .ok (.istore_n 3, 1) := by decide +kernel
theorem dX5_commonDivisor_4 : decode cX5_commonDivisor 4 = .ok (.iconst 0, 1) := by decide +kernel
theorem dX5_commonDivisor_5 : decode cX5_commonDivisor 5 = .ok (.istore 4, 2) := by decide +kernel
theorem dX5_commonDivisor_7 : decode cX5_commonDivisor 7 = .ok (.iload 4, 2) := by decide +kernel
theorem dX5_commonDivisor_9 : decode cX5_commonDivisor 9 = .ok (.bipush 64, 2) := by decide +kernel
theorem dX5_commonDivisor_11 : decode cX5_commonDivisor 11 = .ok (.if_icmp .ge 23, 3) := by decide +kernel
theorem dX5_commonDivisor_14 : decode cX5_commonDivisor 14 = .ok (.iload_n 3, 1) := by decide +kernel
theorem dX5_commonDivisor_15 : decode cX5_commonDivisor 15 = .ok (.ifCond .eq 19, 3) := by decide +kernel
theorem dX5_commonDivisor_18 : decode cX5_commonDivisor 18 = .ok (.iload_n 2, 1) := by decide +kernel
theorem dX5_commonDivisor_19 : decode cX5_commonDivisor 19 = .ok (.iload_n 3, 1) := by decide +kernel
theorem dX5_commonDivisor_20 : decode cX5_commonDivisor 20 = .ok (.irem, 1) := by decide +kernel
theorem dX5_commonDivisor_21 : decode cX5_commonDivisor 21 = .ok (.istore 5, 2) := by decide +kernel
theorem dX5_commonDivisor_23 : decode cX5_commonDivisor 23 = .ok (.iload_n 3, 1) := by decide +kernel
theorem dX5_commonDivisor_24 : decode cX5_commonDivisor 24 = .ok (.istore_n 2, 1) := by decide +kernel
theorem dX5_commonDivisor_25 : decode cX5_commonDivisor 25 = .ok (.iload 5, 2) := by decide +kernel
theorem dX5_commonDivisor_27 : decode cX5_commonDivisor 27 = .ok (.istore_n 3, 1) := by decide +kernel
theorem dX5_commonDivisor_28 : decode cX5_commonDivisor 28 = .ok (.iinc 4 1, 3) := by decide +kernel
theorem dX5_commonDivisor_31 : decode cX5_commonDivisor 31 = .ok (.goto (-24), 3) := by decide +kernel
theorem dX5_commonDivisor_34 : decode cX5_commonDivisor 34 = .ok (.iload_n 2, 1) := by decide +kernel
theorem dX5_commonDivisor_35 : decode cX5_commonDivisor 35 = .ok (.ireturn, 1) := by decide +kernel
end
section
set_option maxRecDepth 20000 in
theorem ggX6_init_X6_begins : GoodIn wsX6_init wsX6_begins := goodIn_r _ [27, 6, 34, 35, 36, 37, 38, 39, 40, 41, 42, 43, 44, 45, 46, 47, 48, 49, 50, 51, 52, 53, 54, 55] (by decide +kernel) (by decide +kernel)
set_option maxRecDepth 20000 in
theorem gX6_init_X6_begins : GoodIn wsX6_init (wsV RX6 62 RX6 yX6_begins wsX6_begins) := goodIn_app (goodIn_of _ (by decide +kernel)) ggX6_init_X6_begins
set_option maxRecDepth 20000 in
theorem ggX6_init_X6_becomes : GoodIn wsX6_init wsX6_becomes := goodIn_r _ [31, 5, 6, 9, 32, 33, 34, 35, 36, 37, 38, 39, 40, 41, 42, 43, 44, 45, 46, 47, 48, 49, 50, 51, 52, 53, 54, 55] (by decide +kernel) (by decide +kernel)
set_option maxRecDepth 20000 in
theorem gX6_init_X6_becomes : GoodIn wsX6_init (wsV RX6 65 RX6 yX6_becomes wsX6_becomes) := goodIn_app (goodIn_of _ (by decide +kernel)) ggX6_init_X6_becomes
theorem dX6_init_0 : decode cX6_init 0 = .ok (.aload_n 0, 1) := by decide +kernel
theorem dX6_init_1 : decode cX6_init 1 = .ok (.invokespecial 1, 3) := by decide +kernel
theorem dX6_init_4 : decode cX6_init 4 = .ok (.aload_n 0, 1) := by decide +kernel
theorem dX6_init_5 : decode cX6_init 5 = .ok (.bipush 27, 2) := by decide +kernel
theorem dX6_init_7 : decode cX6_init 7 = .ok (.newarray .int, 2) := by decide +kernel
theorem dX6_init_9 : decode cX6_init 9 = .ok (.putfield 7, 3) := by decide +kernel
theorem dX6_init_12 : decode cX6_init 12 = .ok (.aload_n 0, 1) := by decide +kernel
theorem dX6_init_13 : decode cX6_init 13 = .ok (.bipush 27, 2) := by decide +kernel
theorem dX6_init_15 : decode cX6_init 15 = .ok (.newarray .int, 2) := by decide +kernel
theorem dX6_init_17 : decode cX6_init 17 = .ok (.putfield 13, 3) := by decide +kernel
theorem dX6_init_20 : decode cX6_init 20 = .ok (.aload_n 0, 1) := by decide +kernel
theorem dX6_init_21 : decode cX6_init 21 = .ok (.bipush 54, 2) := by decide +kernel
theorem dX6_init_23 : decode cX6_init 23 = .ok (.newarray .int, 2) := by decide +kernel
theorem dX6_init_25 : decode cX6_init 25 = .ok (.putfield 16, 3) := by decide +kernel
theorem dX6_init_28 : decode cX6_init 28 = .ok (.aload_n 0, 1) := by decide +kernel
theorem dX6_init_29 : decode cX6_init 29 = .ok (.iconst 2, 1) := by decide +kernel
theorem dX6_init_30 : decode cX6_init 30 = .ok (.newarray .boolean, 2) := by decide +kernel
theorem dX6_init_32 : decode cX6_init 32 = .ok (.putfield 19, 3) := by decide +kernel
theorem dX6_init_35 : decode cX6_init 35 = .ok (.aload_n 0, 1) := by decide +kernel
theorem dX6_init_36 : decode cX6_init 36 = .ok (.bipush 40, 2) := by decide +kernel
theorem dX6_init_38 : decode cX6_init 38 = .ok (.newarray .int, 2) := by decide +kernel
theorem dX6_init_40 : decode cX6_init 40 = .ok (.putfield 23, 3) := by decide +kernel
theorem dX6_init_43 : decode cX6_init 43 = .ok (.aload_n 0, 1) := by decide +kernel
theorem dX6_init_44 : decode cX6_init 44 = .ok (.iconst 4, 1) := by decide +kernel
theorem dX6_init_45 : decode cX6_init 45 = .ok (.newarray .int, 2) := by decide +kernel
theorem dX6_init_47 : decode cX6_init 47 = .ok (.putfield 26, 3) := by decide +kernel
theorem dX6_init_50 : decode cX6_init 50 = .ok (.aload_n 0, 1) := by decide +kernel
theorem dX6_init_51 : decode cX6_init 51 = .ok (.iconst 4, 1) := by decide +kernel
theorem dX6_init_52 : decode cX6_init 52 = .ok (.newarray .int, 2) := by decide +kernel
theorem dX6_init_54 : decode cX6_init 54 = .ok (.putfield 29, 3) := by decide +kernel
theorem dX6_init_57 : decode cX6_init 57 = .ok (.aload_n 0, 1) := by decide +kernel
theorem dX6_init_58 : decode cX6_init 58 = .ok (.iconst 4, 1) := by decide +kernel
theorem dX6_init_59 : decode cX6_init 59 = .ok (.newarray .int, 2) := by decide +kernel
theorem dX6_init_61 : decode cX6_init 61 = .ok (.putfield 32, 3) := by decide +kernel
theorem dX6_init_64 : decode cX6_init 64 = .ok (.aload_n 0, 1) := by decide +kernel
theorem dX6_init_65 : decode cX6_init 65 = .ok (.bipush 100, 2) := by decide +kernel
theorem dX6_init_67 : decode cX6_init 67 = .ok (.newarray .int, 2) := by decide +kernel
theorem dX6_init_69 : decode cX6_init 69 = .ok (.putfield 35, 3) := by decide +kernel
theorem dX6_init_72 : decode cX6_init 72 = .ok (.aload_n 0, 1) := by decide +kernel
theorem dX6_init_73 : decode cX6_init 73 = .ok (.bipush 100, 2) := by decide +kernel
theorem dX6_init_75 : decode cX6_init 75 = .ok (.newarray .int, 2) := by decide +kernel
theorem dX6_init_77 : decode cX6_init 77 = .ok (.putfield 38, 3) := by decide +kernel
theorem dX6_init_80 : decode cX6_init 80 = .ok (.aload_n 0, 1) := by decide +kernel
theorem dX6_init_81 : decode cX6_init 81 = .ok (.bipush 100, 2) := by decide +kernel
theorem dX6_init_83 : decode cX6_init 83 = .ok (.newarray .int, 2) := by decide +kernel
theorem dX6_init_85 : decode cX6_init 85 = .ok (.putfield 41, 3) := by decide +kernel
theorem dX6_init_88 : decode cX6_init 88 = .ok (.aload_n 0, 1) := by decide +kernel
theorem dX6_init_89 : decode cX6_init 89 = .ok (.bipush 100, 2) := by decide +kernel
theorem dX6_init_91 : decode cX6_init 91 = .ok (.newarray .int, 2) := by decide +kernel
theorem dX6_init_93 : decode cX6_init 93 = .ok (.putfield 44, 3) := by decide +kernel
theorem dX6_init_96 : decode cX6_init 96 = .ok (.aload_n 0, 1) := by decide +kernel
theorem dX6_init_97 : decode cX6_init 97 = .ok (.iconst 4, 1) := by decide +kernel
theorem dX6_init_98 : decode cX6_init 98 = .ok (.newarray .int, 2) := by decide +kernel
theorem dX6_init_100 : decode cX6_init 100 = .ok (.putfield 47, 3) := by decide +kernel
theorem dX6_init_103 : decode cX6_init 103 = .ok (.aload_n 0, 1) := by decide +kernel
theorem dX6_init_104 : decode cX6_init 104 = .ok (.bipush 25, 2) := by decide +kernel
theorem dX6_init_106 : decode cX6_init 106 = .ok (.newarray .int, 2) := by decide +kernel
theorem dX6_init_108 : decode cX6_init 108 = .ok (.putfield 50, 3) := by decide +kernel
theorem dX6_init_111 : decode cX6_init 111 = .ok (.aload_n 0, 1) := by decide +kernel
theorem dX6_init_112 : decode cX6_init 112 = .ok (.bipush 25, 2) := by decide +kernel
theorem dX6_init_114 : decode cX6_init 114 = .ok (.newarray .int, 2) := by decide +kernel
theorem dX6_init_116 : decode cX6_init 116 = .ok (.putfield 53, 3) := by decide +kernel
theorem dX6_init_119 : decode cX6_init 119 = .ok (.aload_n 0, 1) := by decide +kernel
theorem dX6_init_120 : decode cX6_init 120 = .ok (.bipush 25, 2) := by decide +kernel
theorem dX6_init_122 : decode cX6_init 122 = .ok (.newarray .int, 2) := by decide +kernel
theorem dX6_init_124 : decode cX6_init 124 = .ok (.putfield 56, 3) := by decide +kernel
theorem dX6_init_127 : decode cX6_init 127 = .ok (.aload_n 0, 1) := by decide +kernel
theorem dX6_init_128 : decode cX6_init 128 = .ok (.sipush 2000, 3) := by decide +kernel
theorem dX6_init_131 : decode cX6_init 131 = .ok (.newarray .boolean, 2) := by decide +kernel
theorem dX6_init_133 : decode cX6_init 133 = .ok (.putfield 59, 3) := by decide +kernel
theorem dX6_init_136 : decode cX6_init 136 = .ok (.aload_n 0, 1) := by decide +kernel
theorem dX6_init_137 : decode cX6_init 137 = .ok (.invokevirtual 62, 3) := by decide +kernel
theorem dX6_init_140 : decode cX6_init 140 = .ok (.aload_n 0, 1) := by decide +kernel
theorem dX6_init_141 : decode cX6_init 141 = .ok (.invokevirtual 65, 3) := by decide +kernel
theorem dX6_init_144 : decode cX6_init 144 = .ok (.return_, 1) := by decide +kernel
theorem dX6_in_0 : decode cX6_in 0 = .ok (.iload_n 0, 1) := by decide +kernel
theorem dX6_in_1 : decode cX6_in 1 = .ok (.iload_n 1, 1) := by decide +kernel
theorem dX6_in_2 : decode cX6_in 2 = .ok (.if_icmp .lt 12, 3) := by decide +kernel
theorem dX6_in_5 : decode cX6_in 5 = .ok (.iload_n 0, 1) := by decide +kernel
theorem dX6_in_6 : decode cX6_in 6 = .ok (.iload_n 2, 1) := by decide +kernel
theorem dX6_in_7 : decode cX6_in 7 = .ok (.if_icmp .gt 7, 3) := by decide +kernel
theorem dX6_in_10 : decode cX6_in 10 = .ok (.iconst 1, 1) := by decide +kernel
theorem dX6_in_11 : decode cX6_in 11 = .ok (.goto 4, 3) := by decide +kernel
theorem dX6_in_14 : decode cX6_in 14 = .ok (.iconst 0, 1) := by decide +kernel
theorem dX6_in_15 : decode cX6_in 15 = .ok (.ireturn, 1) := by decide +kernel
theorem dX6_size_0 : decode cX6_size 0 = .ok (.iload_n 0, 1) := by decide +kernel
theorem dX6_size_1 : decode cX6_size 1 = .ok (.ifCond .ge 8, 3) := by decide +kernel
theorem dX6_size_4 : decode cX6_size 4 = .ok (.iload_n 0, 1) := by decide +kernel
theorem dX6_size_5 : decode cX6_size 5 = .ok (.ineg, 1) := by decide +kernel
theorem dX6_size_6 : decode cX6_size 6 = .ok (.goto 4, 3) := by decide +kernel
theorem dX6_size_9 : decode cX6_size 9 = .ok (.iload_n 0, 1) := by decide +kernel
theorem dX6_size_10 : decode cX6_size 10 = .ok (.ireturn, 1) := by decide +kernel
theorem dX6_begins_0 : decode cX6_begins 0 = .ok (.iconst 0, 1) := by decide +kernel
theorem dX6_begins_1 : decode cX6_begins 1 = .ok (.istore_n 1, 1) := by decide +kernel
theorem dX6_begins_2 : decode cX6_begins 2 = .ok (.iload_n 1, 1) := by decide +kernel
theorem dX6_begins_3 : decode cX6_begins 3 = .ok (.bipush 27, 2) := by decide +kernel
theorem dX6_begins_5 : decode cX6_begins 5 = .ok (.if_icmp .ge 31, 3) := by decide +kernel
theorem dX6_begins_8 : decode cX6_begins 8 = .ok (.aload_n 0, 1) := by decide +kernel
theorem dX6_begins_9 : decode cX6_begins 9 = .ok (.getfield 13, 3) := by decide +kernel
theorem dX6_begins_12 : decode cX6_begins 12 = .ok (.iload_n 1, 1) := by decide +kernel
theorem dX6_begins_13 : decode cX6_begins 13 = .ok (.iload_n 1, 1) := by decide +kernel
theorem dX6_begins_14 : decode cX6_begins 14 = .ok (.iconst 4, 1) := by decide +kernel
theorem dX6_begins_15 : decode cX6_begins 15 = .ok (.if_icmp .lt 13, 3) := by decide +kernel
theorem dX6_begins_18 : decode cX6_begins 18 = .ok (.iload_n 1, 1) := by decide +kernel
theorem dX6_begins_19 : decode cX6_begins 19 = .ok (.bipush 8, 2) := by decide +kernel
theorem dX6_begins_21 : decode cX6_begins 21 = .ok (.if_icmp .ge 7, 3) := by decide +kernel
theorem dX6_begins_24 : decode cX6_begins 24 = .ok (.iconst 2, 1) := by decide +kernel
theorem dX6_begins_25 : decode cX6_begins 25 = .ok (.goto 4, 3) := by decide +kernel
theorem dX6_begins_28 : decode cX6_begins 28 = .ok (.iconst 0, 1) := by decide +kernel
theorem dX6_begins_29 : decode cX6_begins 29 = .ok (.iastore, 1) := by decide +kernel
theorem dX6_begins_30 : decode cX6_begins 30 = .ok (.iinc 1 1, 3) := by decide +kernel
theorem dX6_begins_33 : decode cX6_begins 33 = .ok (.goto (-31), 3) := by decide +kernel
theorem dX6_begins_36 : decode cX6_begins 36 = .ok (.aload_n 0, 1) := by decide +kernel
theorem dX6_begins_37 : decode cX6_begins 37 = .ok (.getfield 13, 3) := by decide +kernel
theorem dX6_begins_40 : decode cX6_begins 40 = .ok (.iconst 0, 1) := by decide +kernel
theorem dX6_begins_41 : decode cX6_begins 41 = .ok (.bipush 10, 2) := by decide +kernel
theorem dX6_begins_43 : decode cX6_begins 43 = .ok (.iastore, 1) := by decide +kernel
theorem dX6_begins_44 : decode cX6_begins 44 = .ok (.aload_n 0, 1) := by decide +kernel
theorem dX6_begins_45 : decode cX6_begins 45 = .ok (.getfield 13, 3) := by decide +kernel
theorem dX6_begins_48 : decode cX6_begins 48 = .ok (.iconst 1, 1) := by decide +kernel
theorem dX6_begins_49 : decode cX6_begins 49 = .ok (.bipush 8, 2) := by decide +kernel
theorem dX6_begins_51 : decode cX6_begins 51 = .ok (.iastore, 1) := by decide +kernel
theorem dX6_begins_52 : decode cX6_begins 52 = .ok (.aload_n 0, 1) := by decide +kernel
theorem dX6_begins_53 : decode cX6_begins 53 = .ok (.getfield 13, 3) := by decide +kernel
theorem dX6_begins_56 : decode cX6_begins 56 = .ok (.iconst 2, 1) := by decide +kernel
theorem dX6_begins_57 : decode cX6_begins 57 = .ok (.iconst 1, 1) := by decide +kernel
theorem dX6_begins_58 : decode cX6_begins 58 = .ok (.iastore, 1) := by decide +kernel
theorem dX6_begins_59 : decode cX6_begins 59 = .ok (.aload_n 0, 1) := by decide +kernel
theorem dX6_begins_60 : decode cX6_begins 60 = .ok (.getfield 13, 3) := by decide +kernel
theorem dX6_begins_63 : decode cX6_begins 63 = .ok (.iconst 3, 1) := by decide +kernel
theorem dX6_begins_64 : decode cX6_begins 64 = .ok (.iconst 1, 1) := by decide +kernel
theorem dX6_begins_65 : decode cX6_begins 65 = .ok (.iastore, 1) := by decide +kernel
theorem dX6_begins_66 : decode cX6_begins 66 = .ok (.return_, 1) := by decide +kernel
theorem dX6_becomes_0 : decode cX6_becomes 0 = .ok (.iconst 0, 1) := by decide +kernel
theorem dX6_becomes_1 : decode cX6_becomes 1 = .ok (.istore_n 1, 1) := by decide +kernel
theorem dX6_becomes_2 : decode cX6_becomes 2 = .ok (.iload_n 1, 1) := by decide +kernel
theorem dX6_becomes_3 : decode cX6_becomes 3 = .ok (.bipush 27, 2) := by decide +kernel
theorem dX6_becomes_5 : decode cX6_becomes 5 = .ok (.if_icmp .ge 21, 3) := by decide +kernel
theorem dX6_becomes_8 : decode cX6_becomes 8 = .ok (.aload_n 0, 1) := by decide +kernel
theorem dX6_becomes_9 : decode cX6_becomes 9 = .ok (.getfield 7, 3) := by decide +kernel
theorem dX6_becomes_12 : decode cX6_becomes 12 = .ok (.iload_n 1, 1) := by decide +kernel
theorem dX6_becomes_13 : decode cX6_becomes 13 = .ok (.aload_n 0, 1) := by decide +kernel
theorem dX6_becomes_14 : decode cX6_becomes 14 = .ok (.getfield 13, 3) := by decide +kernel
theorem dX6_becomes_17 : decode cX6_becomes 17 = .ok (.iload_n 1, 1) := by decide +kernel
theorem dX6_becomes_18 : decode cX6_becomes 18 = .ok (.iaload, 1) := by decide +kernel
theorem dX6_becomes_19 : decode cX6_becomes 19 = .ok (.iastore, 1) := by decide +kernel
theorem dX6_becomes_20 : decode cX6_becomes 20 = .ok (.iinc 1 1, 3) := by decide +kernel
theorem dX6_becomes_23 : decode cX6_becomes 23 = .ok (.goto (-21), 3) := by decide +kernel
theorem dX6_becomes_26 : decode cX6_becomes 26 = .ok (.aload_n 0, 1) := by decide +kernel
theorem dX6_becomes_27 : decode cX6_becomes 27 = .ok (.getfield 19, 3) := by decide +kernel
theorem dX6_becomes_30 : decode cX6_becomes 30 = .ok (.iconst 0, 1) := by decide +kernel
theorem dX6_becomes_31 : decode cX6_becomes 31 = .ok (.iconst 0, 1) := by decide +kernel
theorem dX6_becomes_32 : decode cX6_becomes 32 = .ok (.bastore, 1) := by decide +kernel
theorem dX6_becomes_33 : decode cX6_becomes 33 = .ok (.aload_n 0, 1) := by decide +kernel
theorem dX6_becomes_34 : decode cX6_becomes 34 = .ok (.getfield 19, 3) := by decide +kernel
theorem dX6_becomes_37 : decode cX6_becomes 37 = .ok (.iconst 1, 1) := by decide +kernel
theorem dX6_becomes_38 : decode cX6_becomes 38 = .ok (.iconst 0, 1) := by decide +kernel
theorem dX6_becomes_39 : decode cX6_becomes 39 = .ok (.bastore, 1) := by decide +kernel
theorem dX6_becomes_40 : decode cX6_becomes 40 = .ok (.aload_n 0, 1) := by decide +kernel
theorem dX6_becomes_41 : decode cX6_becomes 41 = .ok (.iconst 0, 1) := by decide +kernel
theorem dX6_becomes_42 : decode cX6_becomes 42 = .ok (.putfield 68, 3) := by decide +kernel
theorem dX6_becomes_45 : decode cX6_becomes 45 = .ok (.aload_n 0, 1) := by decide +kernel
theorem dX6_becomes_46 : decode cX6_becomes 46 = .ok (.iconst 0, 1) := by decide +kernel
theorem dX6_becomes_47 : decode cX6_becomes 47 = .ok (.putfield 72, 3) := by decide +kernel
theorem dX6_becomes_50 : decode cX6_becomes 50 = .ok (.return_, 1) := by decide +kernel
set_option maxRecDepth 20000 in
theorem ggX6_isWithin_X6_in : GoodIn wsX6_isWithin wsX6_in := goodIn_r _ [5] (by decide +kernel) (by decide +kernel)
set_option maxRecDepth 20000 in
theorem gX6_isWithin_X6_in : GoodIn wsX6_isWithin (va_wsS RX6 75 yX6_in wsX6_in) := goodIn_app (goodIn_of _ (by decide +kernel)) ggX6_isWithin_X6_in
theorem dX6_isWithin_0 : decode cX6_isWithin 0 = .ok (.iload_n 1, 1) := by decide +kernel
theorem dX6_isWithin_1 : decode cX6_isWithin 1 = .ok (.iconst 0, 1) := by decide +kernel
theorem dX6_isWithin_2 : decode cX6_isWithin 2 = .ok (.aload_n 0, 1) := by decide +kernel
theorem dX6_isWithin_3 : decode cX6_isWithin 3 = .ok (.getfield 7, 3) := by decide +kernel
theorem dX6_isWithin_6 : decode cX6_isWithin 6 = .ok (.iconst 0, 1) := by decide +kernel
theorem dX6_isWithin_7 : decode cX6_isWithin 7 = .ok (.iaload, 1) := by decide +kernel
theorem dX6_isWithin_8 : decode cX6_isWithin 8 = .ok (.invokestatic 75, 3) := by decide +kernel
theorem dX6_isWithin_11 : decode cX6_isWithin 11 = .ok (.ifCond .eq 21, 3) := by decide +kernel
theorem dX6_isWithin_14 : decode cX6_isWithin 14 = .ok (.iload_n 2, 1) := by decide +kernel
theorem dX6_isWithin_15 : decode cX6_isWithin 15 = .ok (.iconst 0, 1) := by decide +kernel
theorem dX6_isWithin_16 : decode cX6_isWithin 16 = .ok (.aload_n 0, 1) := by decide +kernel
theorem dX6_isWithin_17 : decode cX6_isWithin 17 = .ok (.getfield 7, 3) := by decide +kernel
theorem dX6_isWithin_20 : decode cX6_isWithin 20 = .ok (.iconst 1, 1) := by decide +kernel
theorem dX6_isWithin_21 : decode cX6_isWithin 21 = .ok (.iaload, 1) := by decide +kernel
theorem dX6_isWithin_22 : decode cX6_isWithin 22 = .ok (.invokestatic 75, 3) := by decide +kernel
theorem dX6_isWithin_25 : decode cX6_isWithin 25 = .ok (.ifCond .eq 7, 3) := by decide +kernel
theorem dX6_isWithin_28 : decode cX6_isWithin 28 = .ok (.iconst 1, 1) := by decide +kernel
theorem dX6_isWithin_29 : decode cX6_isWithin 29 = .ok (.goto 4, 3) := by decide +kernel
theorem dX6_isWithin_32 : decode cX6_isWithin 32 = .ok (.iconst 0, 1) := by decide +kernel
theorem dX6_isWithin_33 : decode cX6_isWithin 33 = .ok (.ireturn, 1) := by decide +kernel
set_option maxRecDepth 20000 in
theorem ggX6_isSeat_X6_in : GoodIn wsX6_isSeat wsX6_in := goodIn_r _ [5] (by decide +kernel) (by decide +kernel)
set_option maxRecDepth 20000 in
theorem gX6_isSeat_X6_in : GoodIn wsX6_isSeat (va_wsS RX6 75 yX6_in wsX6_in) := goodIn_app (goodIn_of _ (by decide +kernel)) ggX6_isSeat_X6_in
theorem dX6_isSeat_0 : decode cX6_isSeat 0 = .ok (.iload_n 1, 1) := by decide +kernel
theorem dX6_isSeat_1 : decode cX6_isSeat 1 = .ok (.iconst 0, 1) := by decide +kernel
theorem dX6_isSeat_2 : decode cX6_isSeat 2 = .ok (.aload_n 0, 1) := by decide +kernel
theorem dX6_isSeat_3 : decode cX6_isSeat 3 = .ok (.getfield 7, 3) := by decide +kernel
theorem dX6_isSeat_6 : decode cX6_isSeat 6 = .ok (.bipush 8, 2) := by decide +kernel
theorem dX6_isSeat_8 : decode cX6_isSeat 8 = .ok (.iaload, 1) := by decide +kernel
theorem dX6_isSeat_9 : decode cX6_isSeat 9 = .ok (.iconst 1, 1) := by decide +kernel
theorem dX6_isSeat_10 : decode cX6_isSeat 10 = .ok (.isub, 1) := by decide +kernel
theorem dX6_isSeat_11 : decode cX6_isSeat 11 = .ok (.invokestatic 75, 3) := by decide +kernel
theorem dX6_isSeat_14 : decode cX6_isSeat 14 = .ok (.ireturn, 1) := by decide +kernel
set_option maxRecDepth 20000 in
theorem ggX6_isCurtain_X6_in : GoodIn wsX6_isCurtain wsX6_in := goodIn_r _ [5] (by decide +kernel) (by decide +kernel)
set_option maxRecDepth 20000 in
theorem gX6_isCurtain_X6_in : GoodIn wsX6_isCurtain (va_wsS RX6 75 yX6_in wsX6_in) := goodIn_app (goodIn_of _ (by decide +kernel)) ggX6_isCurtain_X6_in
theorem dX6_isCurtain_0 : decode cX6_isCurtain 0 = .ok (.iload_n 1, 1) := by decide +kernel
theorem dX6_isCurtain_1 : decode cX6_isCurtain 1 = .ok (.iconst 0, 1) := by decide +kernel
theorem dX6_isCurtain_2 : decode cX6_isCurtain 2 = .ok (.aload_n 0, 1) := by decide +kernel
theorem dX6_isCurtain_3 : decode cX6_isCurtain 3 = .ok (.getfield 7, 3) := by decide +kernel
theorem dX6_isCurtain_6 : decode cX6_isCurtain 6 = .ok (.bipush 17, 2) := by decide +kernel
theorem dX6_isCurtain_8 : decode cX6_isCurtain 8 = .ok (.iaload, 1) := by decide +kernel
theorem dX6_isCurtain_9 : decode cX6_isCurtain 9 = .ok (.iconst 1, 1) := by decide +kernel
theorem dX6_isCurtain_10 : decode cX6_isCurtain 10 = .ok (.isub, 1) := by decide +kernel
theorem dX6_isCurtain_11 : decode cX6_isCurtain 11 = .ok (.invokestatic 75, 3) := by decide +kernel
theorem dX6_isCurtain_14 : decode cX6_isCurtain 14 = .ok (.ireturn, 1) := by decide +kernel
set_option maxRecDepth 20000 in
theorem ggX6_isImage_X6_in : GoodIn wsX6_isImage wsX6_in := goodIn_r _ [4] (by decide +kernel) (by decide +kernel)
set_option maxRecDepth 20000 in
theorem gX6_isImage_X6_in : GoodIn wsX6_isImage (va_wsS RX6 75 yX6_in wsX6_in) := goodIn_app (goodIn_of _ (by decide +kernel)) ggX6_isImage_X6_in
set_option maxRecDepth 20000 in
theorem ggX6_isImage_X6_size : GoodIn wsX6_isImage wsX6_size := goodIn_r _ [7] (by decide +kernel) (by decide +kernel)
set_option maxRecDepth 20000 in
theorem gX6_isImage_X6_size : GoodIn wsX6_isImage (va_wsS RX6 79 yX6_size wsX6_size) := goodIn_app (goodIn_of _ (by decide +kernel)) ggX6_isImage_X6_size
theorem dX6_isImage_0 : decode cX6_isImage 0 = .ok (.iload_n 0, 1) := by decide +kernel
theorem dX6_isImage_1 : decode cX6_isImage 1 = .ok (.bipush (-3), 2) := by decide +kernel
theorem dX6_isImage_3 : decode cX6_isImage 3 = .ok (.iconst 3, 1) := by decide +kernel
theorem dX6_isImage_4 : decode cX6_isImage 4 = .ok (.invokestatic 75, 3) := by decide +kernel
theorem dX6_isImage_7 : decode cX6_isImage 7 = .ok (.ifCond .eq 30, 3) := by decide +kernel
theorem dX6_isImage_10 : decode cX6_isImage 10 = .ok (.iload_n 1, 1) := by decide +kernel
theorem dX6_isImage_11 : decode cX6_isImage 11 = .ok (.bipush (-3), 2) := by decide +kernel
theorem dX6_isImage_13 : decode cX6_isImage 13 = .ok (.iconst 3, 1) := by decide +kernel
theorem dX6_isImage_14 : decode cX6_isImage 14 = .ok (.invokestatic 75, 3) := by decide +kernel
theorem dX6_isImage_17 : decode cX6_isImage 17 = .ok (.ifCond .eq 20, 3) := by decide +kernel
theorem dX6_isImage_20 : decode cX6_isImage 20 = .ok (.iload_n 0, 1) := by decide +kernel
theorem dX6_isImage_21 : decode cX6_isImage 21 = .ok (.invokestatic 79, 3) := by decide +kernel
theorem dX6_isImage_24 : decode cX6_isImage 24 = .ok (.iload_n 1, 1) := by decide +kernel
theorem dX6_isImage_25 : decode cX6_isImage 25 = .ok (.invokestatic 79, 3) := by decide +kernel
theorem dX6_isImage_28 : decode cX6_isImage 28 = .ok (.iadd, 1) := by decide +kernel
theorem dX6_isImage_29 : decode cX6_isImage 29 = .ok (.iconst 3, 1) := by decide +kernel
theorem dX6_isImage_30 : decode cX6_isImage 30 = .ok (.if_icmp .gt 7, 3) := by decide +kernel
theorem dX6_isImage_33 : decode cX6_isImage 33 = .ok (.iconst 1, 1) := by decide +kernel
theorem dX6_isImage_34 : decode cX6_isImage 34 = .ok (.goto 4, 3) := by decide +kernel
theorem dX6_isImage_37 : decode cX6_isImage 37 = .ok (.iconst 0, 1) := by decide +kernel
theorem dX6_isImage_38 : decode cX6_isImage 38 = .ok (.ireturn, 1) := by decide +kernel
set_option maxRecDepth 20000 in
theorem ggX6_type_X6_in : GoodIn wsX6_type wsX6_in := goodIn_r _ [6] (by decide +kernel) (by decide +kernel)
set_option maxRecDepth 20000 in
theorem gX6_type_X6_in : GoodIn wsX6_type (va_wsS RX6 75 yX6_in wsX6_in) := goodIn_app (goodIn_of _ (by decide +kernel)) ggX6_type_X6_in
theorem dX6_type_0 : decode cX6_type 0 = .ok (.iload_n 1, 1) := by decide +kernel
theorem dX6_type_1 : decode cX6_type 1 = .ok (.iconst 0, 1) := by decide +kernel
theorem dX6_type_2 : decode cX6_type 2 = .ok (.sipush 255, 3) := by decide +kernel
theorem dX6_type_5 : decode cX6_type 5 = .ok (.invokestatic 75, 3) := by decide +kernel
theorem dX6_type_8 : decode cX6_type 8 = .ok (.ifCond .ne 5, 3) := by decide +kernel
theorem dX6_type_11 : decode cX6_type 11 = .ok (.iconst (-1), 1) := by decide +kernel
theorem dX6_type_12 : decode cX6_type 12 = .ok (.ireturn, 1) := by decide +kernel
theorem dX6_type_13 : decode cX6_type 13 = .ok (.aload_n 0, 1) := by decide +kernel
theorem dX6_type_14 : decode cX6_type 14 = .ok (.getfield 83, 3) := by decide +kernel
theorem dX6_type_17 : decode cX6_type 17 = .ok (.bipush 100, 2) := by decide +kernel
theorem dX6_type_19 : decode cX6_type 19 = .ok (.if_icmp .ne 6, 3) := by decide +kernel
theorem dX6_type_22 : decode cX6_type 22 = .ok (.bipush (-3), 2) := by decide +kernel
theorem dX6_type_24 : decode cX6_type 24 = .ok (.ireturn, 1) := by decide +kernel
theorem dX6_type_25 : decode cX6_type 25 = .ok (.aload_n 0, 1) := by decide +kernel
theorem dX6_type_26 : decode cX6_type 26 = .ok (.getfield 35, 3) := by decide +kernel
theorem dX6_type_29 : decode cX6_type 29 = .ok (.aload_n 0, 1) := by decide +kernel
theorem dX6_type_30 : decode cX6_type 30 = .ok (.getfield 83, 3) := by decide +kernel
theorem dX6_type_33 : decode cX6_type 33 = .ok (.iload_n 1, 1) := by decide +kernel
theorem dX6_type_34 : decode cX6_type 34 = .ok (.iastore, 1) := by decide +kernel
theorem dX6_type_35 : decode cX6_type 35 = .ok (.aload_n 0, 1) := by decide +kernel
theorem dX6_type_36 : decode cX6_type 36 = .ok (.dup, 1) := by decide +kernel
theorem dX6_type_37 : decode cX6_type 37 = .ok (.getfield 83, 3) := by decide +kernel
theorem dX6_type_40 : decode cX6_type 40 = .ok (.iconst 1, 1) := by decide +kernel
theorem dX6_type_41 : decode cX6_type 41 = .ok (.iadd, 1) := by decide +kernel
theorem dX6_type_42 : decode cX6_type 42 = .ok (.putfield 83, 3) := by decide +kernel
theorem dX6_type_45 : decode cX6_type 45 = .ok (.aload_n 0, 1) := by decide +kernel
theorem dX6_type_46 : decode cX6_type 46 = .ok (.getfield 83, 3) := by decide +kernel
theorem dX6_type_49 : decode cX6_type 49 = .ok (.ireturn, 1) := by decide +kernel
theorem dX6_clear_0 : decode cX6_clear 0 = .ok (.aload_n 0, 1) := by decide +kernel
theorem dX6_clear_1 : decode cX6_clear 1 = .ok (.getfield 83, 3) := by decide +kernel
theorem dX6_clear_4 : decode cX6_clear 4 = .ok (.istore_n 1, 1) := by decide +kernel
theorem dX6_clear_5 : decode cX6_clear 5 = .ok (.aload_n 0, 1) := by decide +kernel
theorem dX6_clear_6 : decode cX6_clear 6 = .ok (.iconst 0, 1) := by decide +kernel
theorem dX6_clear_7 : decode cX6_clear 7 = .ok (.putfield 83, 3) := by decide +kernel
theorem dX6_clear_10 : decode cX6_clear 10 = .ok (.iload_n 1, 1) := by decide +kernel
theorem dX6_clear_11 : decode cX6_clear 11 = .ok (.ireturn, 1) := by decide +kernel
set_option maxRecDepth 20000 in
theorem ggX6_isFigure_X6_in : GoodIn wsX6_isFigure wsX6_in := goodIn_r _ [4] (by decide +kernel) (by decide +kernel)
set_option maxRecDepth 20000 in
theorem gX6_isFigure_X6_in : GoodIn wsX6_isFigure (va_wsS RX6 75 yX6_in wsX6_in) := goodIn_app (goodIn_of _ (by decide +kernel)) ggX6_isFigure_X6_in
theorem dX6_isFigure_0 : decode cX6_isFigure 0 = .ok (.iload_n 0, 1) := by decide +kernel
theorem dX6_isFigure_1 : decode cX6_isFigure 1 = .ok (.bipush 48, 2) := by decide +kernel
theorem dX6_isFigure_3 : decode cX6_isFigure 3 = .ok (.bipush 57, 2) := by decide +kernel
theorem dX6_isFigure_5 : decode cX6_isFigure 5 = .ok (.invokestatic 75, 3) := by decide +kernel
theorem dX6_isFigure_8 : decode cX6_isFigure 8 = .ok (.ireturn, 1) := by decide +kernel
set_option maxRecDepth 20000 in
theorem ggX6_numbered_X6_isFigure : GoodIn wsX6_numbered wsX6_isFigure := goodIn_r _ [9, 10, 11, 8, 12] (by decide +kernel) (by decide +kernel)
set_option maxRecDepth 20000 in
theorem gX6_numbered_X6_isFigure : GoodIn wsX6_numbered (va_wsS RX6 86 yX6_isFigure wsX6_isFigure) := goodIn_app (goodIn_of _ (by decide +kernel)) ggX6_numbered_X6_isFigure
theorem dX6_numbered_0 : decode cX6_numbered 0 = .ok (.iload_n 1, 1) := by decide +kernel
theorem dX6_numbered_1 : decode cX6_numbered 1 = .ok (.istore_n 2, 1) := by decide +kernel
theorem dX6_numbered_2 : decode cX6_numbered 2 = .ok (.iconst 0, 1) := by decide +kernel
theorem dX6_numbered_3 : decode cX6_numbered 3 = .ok (.istore_n 3, 1) := by decide +kernel
theorem dX6_numbered_4 : decode cX6_numbered 4 = .ok (.iload_n 2, 1) := by decide +kernel
theorem dX6_numbered_5 : decode cX6_numbered 5 = .ok (.aload_n 0, 1) := by decide +kernel
theorem dX6_numbered_6 : decode cX6_numbered 6 = .ok (.getfield 83, 3) := by decide +kernel
theorem dX6_numbered_9 : decode cX6_numbered 9 = .ok (.if_icmp .ge 46, 3) := by decide +kernel
theorem dX6_numbered_12 : decode cX6_numbered 12 = .ok (.aload_n 0, 1) := by decide +kernel
theorem dX6_numbered_13 : decode cX6_numbered 13 = .ok (.getfield 35, 3) := by decide +kernel
theorem dX6_numbered_16 : decode cX6_numbered 16 = .ok (.iload_n 2, 1) := by decide +kernel
theorem dX6_numbered_17 : decode cX6_numbered 17 = .ok (.iaload, 1) := by decide +kernel
theorem dX6_numbered_18 : decode cX6_numbered 18 = .ok (.invokestatic 86, 3) := by decide +kernel
theorem dX6_numbered_21 : decode cX6_numbered 21 = .ok (.ifCond .eq 34, 3) := by decide +kernel
theorem dX6_numbered_24 : decode cX6_numbered 24 = .ok (.iload_n 3, 1) := by decide +kernel
theorem dX6_numbered_25 : decode cX6_numbered 25 = .ok (.bipush 100, 2) := by decide +kernel
theorem dX6_numbered_27 : decode cX6_numbered 27 = .ok (.if_icmp .ge 20, 3) := by decide +kernel
theorem dX6_numbered_30 : decode cX6_numbered 30 = .ok (.bipush 10, 2) := by decide +kernel
theorem dX6_numbered_32 : decode cX6_numbered 32 = .ok (.iload_n 3, 1) := by decide +kernel
theorem dX6_numbered_33 : decode cX6_numbered 33 = .ok (.imul, 1) := by decide +kernel
theorem dX6_numbered_34 : decode cX6_numbered 34 = .ok (.aload_n 0, 1) := by decide +kernel
theorem dX6_numbered_35 : decode cX6_numbered 35 = .ok (.getfield 35, 3) := by decide +kernel
theorem dX6_numbered_38 : decode cX6_numbered 38 = .ok (.iload_n 2, 1) := by decide +kernel
theorem dX6_numbered_39 : decode cX6_numbered 39 = .ok (.iaload, 1) := by decide +kernel
theorem dX6_numbered_40 : decode cX6_numbered 40 = .ok (.iadd, 1) := by decide +kernel
theorem dX6_numbered_41 : decode cX6_numbered 41 = .ok (.bipush 48, 2) := by decide +kernel
theorem dX6_numbered_43 : decode cX6_numbered 43 = .ok (.isub, 1) := by decide +kernel
theorem dX6_numbered_44 : decode cX6_numbered 44 = .ok (.goto 4, 3) := by decide +kernel
theorem dX6_numbered_47 : decode cX6_numbered 47 = .ok (.iload_n 3, 1) := by decide +kernel
theorem dX6_numbered_48 : decode cX6_numbered 48 = .ok (.istore_n 3, 1) := by decide +kernel
theorem dX6_numbered_49 : decode cX6_numbered 49 = .ok (.iinc 2 1, 3) := by decide +kernel
theorem dX6_numbered_52 : decode cX6_numbered 52 = .ok (.goto (-48), 3) := by decide +kernel
theorem dX6_numbered_55 : decode cX6_numbered 55 = .ok (.iload_n 3, 1) := by decide +kernel
theorem dX6_numbered_56 : decode cX6_numbered 56 = .ok (.bipush 99, 2) := by decide +kernel
theorem dX6_numbered_58 : decode cX6_numbered 58 = .ok (.if_icmp .gt 21, 3) := by decide +kernel
theorem dX6_numbered_61 : decode cX6_numbered 61 = .ok (.aload_n 0, 1) := by decide +kernel
theorem dX6_numbered_62 : decode cX6_numbered 62 = .ok (.getfield 35, 3) := by decide +kernel
theorem dX6_numbered_65 : decode cX6_numbered 65 = .ok (.iload_n 1, 1) := by decide +kernel
theorem dX6_numbered_66 : decode cX6_numbered 66 = .ok (.iaload, 1) := by decide +kernel
theorem dX6_numbered_67 : decode cX6_numbered 67 = .ok (.bipush 48, 2) := by decide +kernel
theorem dX6_numbered_69 : decode cX6_numbered 69 = .ok (.if_icmp .ne 14, 3) := by decide +kernel
theorem dX6_numbered_72 : decode cX6_numbered 72 = .ok (.iload_n 2, 1) := by decide +kernel
theorem dX6_numbered_73 : decode cX6_numbered 73 = .ok (.iload_n 1, 1) := by decide +kernel
theorem dX6_numbered_74 : decode cX6_numbered 74 = .ok (.iconst 1, 1) := by decide +kernel
theorem dX6_numbered_75 : decode cX6_numbered 75 = .ok (.iadd, 1) := by decide +kernel
theorem dX6_numbered_76 : decode cX6_numbered 76 = .ok (.if_icmp .le 7, 3) := by decide +kernel
theorem dX6_numbered_79 : decode cX6_numbered 79 = .ok (.iconst 1, 1) := by decide +kernel
theorem dX6_numbered_80 : decode cX6_numbered 80 = .ok (.goto 4, 3) := by decide +kernel
theorem dX6_numbered_83 : decode cX6_numbered 83 = .ok (.iconst 0, 1) := by decide +kernel
theorem dX6_numbered_84 : decode cX6_numbered 84 = .ok (.istore 4, 2) := by decide +kernel
theorem dX6_numbered_86 : decode cX6_numbered 86 = .ok (.aload_n 0, 1) := by decide +kernel
theorem dX6_numbered_87 : decode cX6_numbered 87 = .ok (.getfield 38, 3) := by decide +kernel
theorem dX6_numbered_90 : decode cX6_numbered 90 = .ok (.aload_n 0, 1) := by decide +kernel
theorem dX6_numbered_91 : decode cX6_numbered 91 = .ok (.getfield 90, 3) := by decide +kernel
theorem dX6_numbered_94 : decode cX6_numbered 94 = .ok (.iload 4, 2) := by decide +kernel
theorem dX6_numbered_96 : decode cX6_numbered 96 = .ok (.ifCond .eq 7, 3) := by decide +kernel
theorem dX6_numbered_99 : decode cX6_numbered 99 = .ok (.iconst 2, 1) := by decide +kernel
theorem dX6_numbered_100 : decode cX6_numbered 100 = .ok (.goto 4, 3) := by decide +kernel
theorem dX6_numbered_103 : decode cX6_numbered 103 = .ok (.iconst 1, 1) := by decide +kernel
theorem dX6_numbered_104 : decode cX6_numbered 104 = .ok (.iastore, 1) := by decide +kernel
theorem dX6_numbered_105 : decode cX6_numbered 105 = .ok (.aload_n 0, 1) := by decide +kernel
theorem dX6_numbered_106 : decode cX6_numbered 106 = .ok (.getfield 44, 3) := by decide +kernel
theorem dX6_numbered_109 : decode cX6_numbered 109 = .ok (.aload_n 0, 1) := by decide +kernel
theorem dX6_numbered_110 : decode cX6_numbered 110 = .ok (.getfield 90, 3) := by decide +kernel
theorem dX6_numbered_113 : decode cX6_numbered 113 = .ok (.iload_n 3, 1) := by decide +kernel
theorem dX6_numbered_114 : decode cX6_numbered 114 = .ok (.iastore, 1) := by decide +kernel
theorem dX6_numbered_115 : decode cX6_numbered 115 = .ok (.iload_n 2, 1) := by decide +kernel
theorem dX6_numbered_116 : decode cX6_numbered 116 = .ok (.ireturn, 1) := by decide +kernel
theorem dX6_isLetter_0 : decode cX6_isLetter 0 = .ok (.iload_n 0, 1) := by decide +kernel
theorem dX6_isLetter_1 : decode cX6_isLetter 1 = .ok (.bipush 114, 2) := by decide +kernel
theorem dX6_isLetter_3 : decode cX6_isLetter 3 = .ok (.if_icmp .eq 33, 3) := by decide +kernel
theorem dX6_isLetter_6 : decode cX6_isLetter 6 = .ok (.iload_n 0, 1) := by decide +kernel
theorem dX6_isLetter_7 : decode cX6_isLetter 7 = .ok (.bipush 119, 2) := by decide +kernel
theorem dX6_isLetter_9 : decode cX6_isLetter 9 = .ok (.if_icmp .eq 27, 3) := by decide +kernel
theorem dX6_isLetter_12 : decode cX6_isLetter 12 = .ok (.iload_n 0, 1) := by decide +kernel
theorem dX6_isLetter_13 : decode cX6_isLetter 13 = .ok (.bipush 113, 2) := by decide +kernel
theorem dX6_isLetter_15 : decode cX6_isLetter 15 = .ok (.if_icmp .eq 21, 3) := by decide +kernel
theorem dX6_isLetter_18 : decode cX6_isLetter 18 = .ok (.iload_n 0, 1) := by decide +kernel
theorem dX6_isLetter_19 : decode cX6_isLetter 19 = .ok (.bipush 115, 2) := by decide +kernel
theorem dX6_isLetter_21 : decode cX6_isLetter 21 = .ok (.if_icmp .eq 15, 3) := by decide +kernel
theorem dX6_isLetter_24 : decode cX6_isLetter 24 = .ok (.iload_n 0, 1) := by decide +kernel
theorem dX6_isLetter_25 : decode cX6_isLetter 25 = .ok (.bipush 99, 2) := by decide +kernel
theorem dX6_isLetter_27 : decode cX6_isLetter 27 = .ok (.if_icmp .eq 9, 3) := by decide +kernel
theorem dX6_isLetter_30 : decode cX6_isLetter 30 = .ok (.iload_n 0, 1) := by decide +kernel
theorem dX6_isLetter_31 : decode cX6_isLetter 31 = .ok (.bipush 59, 2) := by decide +kernel
theorem dX6_isLetter_33 : decode cX6_isLetter 33 = .ok (.if_icmp .ne 7, 3) := by decide +kernel
theorem dX6_isLetter_36 : decode cX6_isLetter 36 = .ok (.iconst 1, 1) := by decide +kernel
theorem dX6_isLetter_37 : decode cX6_isLetter 37 = .ok (.goto 4, 3) := by decide +kernel
theorem dX6_isLetter_40 : decode cX6_isLetter 40 = .ok (.iconst 0, 1) := by decide +kernel
theorem dX6_isLetter_41 : decode cX6_isLetter 41 = .ok (.ireturn, 1) := by decide +kernel
set_option maxRecDepth 20000 in
theorem ggX6_parts_X6_isFigure : GoodIn wsX6_parts wsX6_isFigure := goodIn_r _ [9, 10, 11, 8, 12] (by decide +kernel) (by decide +kernel)
set_option maxRecDepth 20000 in
theorem gX6_parts_X6_isFigure : GoodIn wsX6_parts (va_wsS RX6 86 yX6_isFigure wsX6_isFigure) := goodIn_app (goodIn_of _ (by decide +kernel)) ggX6_parts_X6_isFigure
set_option maxRecDepth 20000 in
theorem ggX6_parts_X6_numbered : GoodIn wsX6_parts wsX6_numbered := goodIn_r _ [16, 2, 3, 5, 1, 17, 6, 7, 8, 9, 10, 11, 12, 21, 22, 23, 24, 25, 26, 27, 28, 29, 30, 31, 32, 33, 34, 35, 36, 37, 38, 39, 40, 41, 42] (by decide +kernel) (by decide +kernel)
set_option maxRecDepth 20000 in
theorem gX6_parts_X6_numbered : GoodIn wsX6_parts (wsV RX6 93 RX6 yX6_numbered wsX6_numbered) := goodIn_app (goodIn_of _ (by decide +kernel)) ggX6_parts_X6_numbered
set_option maxRecDepth 20000 in
theorem ggX6_parts_X6_isLetter : GoodIn wsX6_parts wsX6_isLetter := goodIn_r _ [20] (by decide +kernel) (by decide +kernel)
set_option maxRecDepth 20000 in
theorem gX6_parts_X6_isLetter : GoodIn wsX6_parts (va_wsS RX6 96 yX6_isLetter wsX6_isLetter) := goodIn_app (goodIn_of _ (by decide +kernel)) ggX6_parts_X6_isLetter
theorem dX6_parts_0 : decode cX6_parts 0 = .ok (.aload_n 0, 1) := by decide +kernel
theorem dX6_parts_1 : decode cX6_parts 1 = .ok (.iconst 0, 1) := by decide +kernel
theorem dX6_parts_2 : decode cX6_parts 2 = .ok (.putfield 90, 3) := by decide +kernel
theorem dX6_parts_5 : decode cX6_parts 5 = .ok (.iconst 0, 1) := by decide +kernel
theorem dX6_parts_6 : decode cX6_parts 6 = .ok (.istore_n 1, 1) := by decide +kernel
theorem dX6_parts_7 : decode cX6_parts 7 = .ok (.iload_n 1, 1) := by decide +kernel
theorem dX6_parts_8 : decode cX6_parts 8 = .ok (.aload_n 0, 1) := by decide +kernel
theorem dX6_parts_9 : decode cX6_parts 9 = .ok (.getfield 83, 3) := by decide +kernel
theorem dX6_parts_12 : decode cX6_parts 12 = .ok (.if_icmp .ge 98, 3) := by decide +kernel
theorem dX6_parts_15 : decode cX6_parts 15 = .ok (.aload_n 0, 1) := by decide +kernel
theorem dX6_parts_16 : decode cX6_parts 16 = .ok (.getfield 35, 3) := by decide +kernel
theorem dX6_parts_19 : decode cX6_parts 19 = .ok (.iload_n 1, 1) := by decide +kernel
theorem dX6_parts_20 : decode cX6_parts 20 = .ok (.iaload, 1) := by decide +kernel
theorem dX6_parts_21 : decode cX6_parts 21 = .ok (.bipush 32, 2) := by decide +kernel
theorem dX6_parts_23 : decode cX6_parts 23 = .ok (.if_icmp .ne 9, 3) := by decide +kernel
theorem dX6_parts_26 : decode cX6_parts 26 = .ok (.iinc 1 1, 3) := by decide +kernel
theorem dX6_parts_29 : decode cX6_parts 29 = .ok (.goto (-22), 3) := by decide +kernel
theorem dX6_parts_32 : decode cX6_parts 32 = .ok (.aload_n 0, 1) := by decide +kernel
theorem dX6_parts_33 : decode cX6_parts 33 = .ok (.getfield 41, 3) := by decide +kernel
theorem dX6_parts_36 : decode cX6_parts 36 = .ok (.aload_n 0, 1) := by decide +kernel
theorem dX6_parts_37 : decode cX6_parts 37 = .ok (.getfield 90, 3) := by decide +kernel
theorem dX6_parts_40 : decode cX6_parts 40 = .ok (.iload_n 1, 1) := by decide +kernel
theorem dX6_parts_41 : decode cX6_parts 41 = .ok (.iastore, 1) := by decide +kernel
theorem dX6_parts_42 : decode cX6_parts 42 = .ok (.aload_n 0, 1) := by decide +kernel
theorem dX6_parts_43 : decode cX6_parts 43 = .ok (.getfield 35, 3) := by decide +kernel
theorem dX6_parts_46 : decode cX6_parts 46 = .ok (.iload_n 1, 1) := by decide +kernel
theorem dX6_parts_47 : decode cX6_parts 47 = .ok (.iaload, 1) := by decide +kernel
theorem dX6_parts_48 : decode cX6_parts 48 = .ok (.invokestatic 86, 3) := by decide +kernel
theorem dX6_parts_51 : decode cX6_parts 51 = .ok (.ifCond .eq 12, 3) := by decide +kernel
theorem dX6_parts_54 : decode cX6_parts 54 = .ok (.aload_n 0, 1) := by decide +kernel
theorem dX6_parts_55 : decode cX6_parts 55 = .ok (.iload_n 1, 1) := by decide +kernel
theorem dX6_parts_56 : decode cX6_parts 56 = .ok (.invokevirtual 93, 3) := by decide +kernel
theorem dX6_parts_59 : decode cX6_parts 59 = .ok (.istore_n 1, 1) := by decide +kernel
theorem dX6_parts_60 : decode cX6_parts 60 = .ok (.goto 37, 3) := by decide +kernel
theorem dX6_parts_63 : decode cX6_parts 63 = .ok (.aload_n 0, 1) := by decide +kernel
theorem dX6_parts_64 : decode cX6_parts 64 = .ok (.getfield 38, 3) := by decide +kernel
theorem dX6_parts_67 : decode cX6_parts 67 = .ok (.aload_n 0, 1) := by decide +kernel
theorem dX6_parts_68 : decode cX6_parts 68 = .ok (.getfield 90, 3) := by decide +kernel
theorem dX6_parts_71 : decode cX6_parts 71 = .ok (.aload_n 0, 1) := by decide +kernel
theorem dX6_parts_72 : decode cX6_parts 72 = .ok (.getfield 35, 3) := by decide +kernel
theorem dX6_parts_75 : decode cX6_parts 75 = .ok (.iload_n 1, 1) := by decide +kernel
theorem dX6_parts_76 : decode cX6_parts 76 = .ok (.iaload, 1) := by decide +kernel
theorem dX6_parts_77 : decode cX6_parts 77 = .ok (.invokestatic 96, 3) := by decide +kernel
theorem dX6_parts_80 : decode cX6_parts 80 = .ok (.ifCond .eq 12, 3) := by decide +kernel
theorem dX6_parts_83 : decode cX6_parts 83 = .ok (.aload_n 0, 1) := by decide +kernel
theorem dX6_parts_84 : decode cX6_parts 84 = .ok (.getfield 35, 3) := by decide +kernel
theorem dX6_parts_87 : decode cX6_parts 87 = .ok (.iload_n 1, 1) := by decide +kernel
theorem dX6_parts_88 : decode cX6_parts 88 = .ok (.iaload, 1) := by decide +kernel
theorem dX6_parts_89 : decode cX6_parts 89 = .ok (.goto 4, 3) := by decide +kernel
theorem dX6_parts_92 : decode cX6_parts 92 = .ok (.iconst 2, 1) := by decide +kernel
theorem dX6_parts_93 : decode cX6_parts 93 = .ok (.iastore, 1) := by decide +kernel
theorem dX6_parts_94 : decode cX6_parts 94 = .ok (.iinc 1 1, 3) := by decide +kernel
theorem dX6_parts_97 : decode cX6_parts 97 = .ok (.aload_n 0, 1) := by decide +kernel
theorem dX6_parts_98 : decode cX6_parts 98 = .ok (.dup, 1) := by decide +kernel
theorem dX6_parts_99 : decode cX6_parts 99 = .ok (.getfield 90, 3) := by decide +kernel
theorem dX6_parts_102 : decode cX6_parts 102 = .ok (.iconst 1, 1) := by decide +kernel
theorem dX6_parts_103 : decode cX6_parts 103 = .ok (.iadd, 1) := by decide +kernel
theorem dX6_parts_104 : decode cX6_parts 104 = .ok (.putfield 90, 3) := by decide +kernel
theorem dX6_parts_107 : decode cX6_parts 107 = .ok (.goto (-100), 3) := by decide +kernel
theorem dX6_parts_110 : decode cX6_parts 110 = .ok (.return_, 1) := by decide +kernel
theorem dX6_placeOf_0 : decode cX6_placeOf 0 = .ok (.iload_n 1, 1) := by decide +kernel
theorem dX6_placeOf_1 : decode cX6_placeOf 1 = .ok (.aload_n 0, 1) := by decide +kernel
theorem dX6_placeOf_2 : decode cX6_placeOf 2 = .ok (.getfield 90, 3) := by decide +kernel
theorem dX6_placeOf_5 : decode cX6_placeOf 5 = .ok (.if_icmp .ge 12, 3) := by decide +kernel
theorem dX6_placeOf_8 : decode cX6_placeOf 8 = .ok (.aload_n 0, 1) := by decide +kernel
theorem dX6_placeOf_9 : decode cX6_placeOf 9 = .ok (.getfield 41, 3) := by decide +kernel
theorem dX6_placeOf_12 : decode cX6_placeOf 12 = .ok (.iload_n 1, 1) := by decide +kernel
theorem dX6_placeOf_13 : decode cX6_placeOf 13 = .ok (.iaload, 1) := by decide +kernel
theorem dX6_placeOf_14 : decode cX6_placeOf 14 = .ok (.goto 7, 3) := by decide +kernel
theorem dX6_placeOf_17 : decode cX6_placeOf 17 = .ok (.aload_n 0, 1) := by decide +kernel
theorem dX6_placeOf_18 : decode cX6_placeOf 18 = .ok (.getfield 83, 3) := by decide +kernel
theorem dX6_placeOf_21 : decode cX6_placeOf 21 = .ok (.ireturn, 1) := by decide +kernel
theorem dX6_isKind_0 : decode cX6_isKind 0 = .ok (.iload_n 1, 1) := by decide +kernel
theorem dX6_isKind_1 : decode cX6_isKind 1 = .ok (.aload_n 0, 1) := by decide +kernel
theorem dX6_isKind_2 : decode cX6_isKind 2 = .ok (.getfield 90, 3) := by decide +kernel
theorem dX6_isKind_5 : decode cX6_isKind 5 = .ok (.if_icmp .ge 17, 3) := by decide +kernel
theorem dX6_isKind_8 : decode cX6_isKind 8 = .ok (.aload_n 0, 1) := by decide +kernel
theorem dX6_isKind_9 : decode cX6_isKind 9 = .ok (.getfield 38, 3) := by decide +kernel
theorem dX6_isKind_12 : decode cX6_isKind 12 = .ok (.iload_n 1, 1) := by decide +kernel
theorem dX6_isKind_13 : decode cX6_isKind 13 = .ok (.iaload, 1) := by decide +kernel
theorem dX6_isKind_14 : decode cX6_isKind 14 = .ok (.iload_n 2, 1) := by decide +kernel
theorem dX6_isKind_15 : decode cX6_isKind 15 = .ok (.if_icmp .ne 7, 3) := by decide +kernel
theorem dX6_isKind_18 : decode cX6_isKind 18 = .ok (.iconst 1, 1) := by decide +kernel
theorem dX6_isKind_19 : decode cX6_isKind 19 = .ok (.goto 4, 3) := by decide +kernel
theorem dX6_isKind_22 : decode cX6_isKind 22 = .ok (.iconst 0, 1) := by decide +kernel
theorem dX6_isKind_23 : decode cX6_isKind 23 = .ok (.ireturn, 1) := by decide +kernel
set_option maxRecDepth 20000 in
theorem ggX6_isNumber_X6_isKind : GoodIn wsX6_isNumber wsX6_isKind := goodIn_r _ [6, 7, 8, 12, 13, 14, 15, 16, 17, 18, 19, 20, 21, 22, 23, 24, 25, 26, 27, 28, 29, 30, 31, 32, 33] (by decide +kernel) (by decide +kernel)
set_option maxRecDepth 20000 in
theorem gX6_isNumber_X6_isKind : GoodIn wsX6_isNumber (wsV RX6 99 RX6 yX6_isKind wsX6_isKind) := goodIn_app (goodIn_of _ (by decide +kernel)) ggX6_isNumber_X6_isKind
set_option maxRecDepth 20000 in
theorem ggX6_isNumber_X6_in : GoodIn wsX6_isNumber wsX6_in := goodIn_r _ [11] (by decide +kernel) (by decide +kernel)
set_option maxRecDepth 20000 in
theorem gX6_isNumber_X6_in : GoodIn wsX6_isNumber (va_wsS RX6 75 yX6_in wsX6_in) := goodIn_app (goodIn_of _ (by decide +kernel)) ggX6_isNumber_X6_in
theorem dX6_isNumber_0 : decode cX6_isNumber 0 = .ok (.aload_n 0, 1) := by decide +kernel
theorem dX6_isNumber_1 : decode cX6_isNumber 1 = .ok (.iload_n 1, 1) := by decide +kernel
theorem dX6_isNumber_2 : decode cX6_isNumber 2 = .ok (.iconst 1, 1) := by decide +kernel
theorem dX6_isNumber_3 : decode cX6_isNumber 3 = .ok (.invokevirtual 99, 3) := by decide +kernel
theorem dX6_isNumber_6 : decode cX6_isNumber 6 = .ok (.ifCond .eq 21, 3) := by decide +kernel
theorem dX6_isNumber_9 : decode cX6_isNumber 9 = .ok (.aload_n 0, 1) := by decide +kernel
theorem dX6_isNumber_10 : decode cX6_isNumber 10 = .ok (.getfield 44, 3) := by decide +kernel
theorem dX6_isNumber_13 : decode cX6_isNumber 13 = .ok (.iload_n 1, 1) := by decide +kernel
theorem dX6_isNumber_14 : decode cX6_isNumber 14 = .ok (.iaload, 1) := by decide +kernel
theorem dX6_isNumber_15 : decode cX6_isNumber 15 = .ok (.iload_n 2, 1) := by decide +kernel
theorem dX6_isNumber_16 : decode cX6_isNumber 16 = .ok (.iload_n 3, 1) := by decide +kernel
theorem dX6_isNumber_17 : decode cX6_isNumber 17 = .ok (.invokestatic 75, 3) := by decide +kernel
theorem dX6_isNumber_20 : decode cX6_isNumber 20 = .ok (.ifCond .eq 7, 3) := by decide +kernel
theorem dX6_isNumber_23 : decode cX6_isNumber 23 = .ok (.iconst 1, 1) := by decide +kernel
theorem dX6_isNumber_24 : decode cX6_isNumber 24 = .ok (.goto 4, 3) := by decide +kernel
theorem dX6_isNumber_27 : decode cX6_isNumber 27 = .ok (.iconst 0, 1) := by decide +kernel
theorem dX6_isNumber_28 : decode cX6_isNumber 28 = .ok (.ireturn, 1) := by decide +kernel
set_option maxRecDepth 20000 in
theorem ggX6_firstWrong_X6_token : GoodIn wsX6_firstWrong wsX6_token := goodIn_r _ [7, 8, 9, 21, 22, 23, 24, 25, 26, 27, 28, 29, 30, 31, 32, 33, 34, 35, 36, 37, 38, 39, 40, 41, 42] (by decide +kernel) (by decide +kernel)
set_option maxRecDepth 20000 in
theorem gX6_firstWrong_X6_token : GoodIn wsX6_firstWrong (wsV RX6 103 RX6 yX6_token wsX6_token) := goodIn_app (goodIn_of _ (by decide +kernel)) ggX6_firstWrong_X6_token
set_option maxRecDepth 20000 in
theorem ggX6_firstWrong_X6_isNumber : GoodIn wsX6_firstWrong wsX6_isNumber := goodIn_r _ [13, 2, 14, 15, 16, 6, 17, 8, 9, 18, 19, 20, 21, 22, 23, 24, 25, 26, 27, 28, 29, 30, 31, 32, 33, 34, 35, 36, 37, 38, 39, 40, 41, 42] (by decide +kernel) (by decide +kernel)
set_option maxRecDepth 20000 in
theorem gX6_firstWrong_X6_isNumber : GoodIn wsX6_firstWrong (wsV RX6 106 RX6 yX6_isNumber wsX6_isNumber) := goodIn_app (goodIn_of _ (by decide +kernel)) ggX6_firstWrong_X6_isNumber
set_option maxRecDepth 20000 in
theorem ggX6_firstWrong_X6_isKind : GoodIn wsX6_firstWrong wsX6_isKind := goodIn_r _ [17, 8, 9, 21, 22, 23, 24, 25, 26, 27, 28, 29, 30, 31, 32, 33, 34, 35, 36, 37, 38, 39, 40, 41, 42] (by decide +kernel) (by decide +kernel)
set_option maxRecDepth 20000 in
theorem gX6_firstWrong_X6_isKind : GoodIn wsX6_firstWrong (wsV RX6 99 RX6 yX6_isKind wsX6_isKind) := goodIn_app (goodIn_of _ (by decide +kernel)) ggX6_firstWrong_X6_isKind
theorem dX6_firstWrong_0 : decode cX6_firstWrong 0 = .ok (.aload_n 0, 1) := by decide +kernel
theorem dX6_firstWrong_1 : decode cX6_firstWrong 1 = .ok (.iload_n 1, 1) := by decide +kernel
theorem dX6_firstWrong_2 : decode cX6_firstWrong 2 = .ok (.invokevirtual 103, 3) := by decide +kernel
theorem dX6_firstWrong_5 : decode cX6_firstWrong 5 = .ok (.istore_n 2, 1) := by decide +kernel
theorem dX6_firstWrong_6 : decode cX6_firstWrong 6 = .ok (.iload_n 1, 1) := by decide +kernel
theorem dX6_firstWrong_7 : decode cX6_firstWrong 7 = .ok (.ifCond .ne 7, 3) := by decide +kernel
theorem dX6_firstWrong_10 : decode cX6_firstWrong 10 = .ok (.iconst 1, 1) := by decide +kernel
theorem dX6_firstWrong_11 : decode cX6_firstWrong 11 = .ok (.goto 4, 3) := by decide +kernel
theorem dX6_firstWrong_14 : decode cX6_firstWrong 14 = .ok (.iconst 0, 1) := by decide +kernel
theorem dX6_firstWrong_15 : decode cX6_firstWrong 15 = .ok (.istore_n 3, 1) := by decide +kernel
theorem dX6_firstWrong_16 : decode cX6_firstWrong 16 = .ok (.iload_n 2, 1) := by decide +kernel
theorem dX6_firstWrong_17 : decode cX6_firstWrong 17 = .ok (.bipush 119, 2) := by decide +kernel
theorem dX6_firstWrong_19 : decode cX6_firstWrong 19 = .ok (.if_icmp .eq 53, 3) := by decide +kernel
theorem dX6_firstWrong_22 : decode cX6_firstWrong 22 = .ok (.iload_n 2, 1) := by decide +kernel
theorem dX6_firstWrong_23 : decode cX6_firstWrong 23 = .ok (.bipush 113, 2) := by decide +kernel
theorem dX6_firstWrong_25 : decode cX6_firstWrong 25 = .ok (.if_icmp .eq 47, 3) := by decide +kernel
theorem dX6_firstWrong_28 : decode cX6_firstWrong 28 = .ok (.iload_n 2, 1) := by decide +kernel
theorem dX6_firstWrong_29 : decode cX6_firstWrong 29 = .ok (.bipush 114, 2) := by decide +kernel
theorem dX6_firstWrong_31 : decode cX6_firstWrong 31 = .ok (.if_icmp .ne 7, 3) := by decide +kernel
theorem dX6_firstWrong_34 : decode cX6_firstWrong 34 = .ok (.iload_n 3, 1) := by decide +kernel
theorem dX6_firstWrong_35 : decode cX6_firstWrong 35 = .ok (.ifCond .ne 37, 3) := by decide +kernel
theorem dX6_firstWrong_38 : decode cX6_firstWrong 38 = .ok (.iload_n 2, 1) := by decide +kernel
theorem dX6_firstWrong_39 : decode cX6_firstWrong 39 = .ok (.bipush 115, 2) := by decide +kernel
theorem dX6_firstWrong_41 : decode cX6_firstWrong 41 = .ok (.if_icmp .ne 14, 3) := by decide +kernel
theorem dX6_firstWrong_44 : decode cX6_firstWrong 44 = .ok (.aload_n 0, 1) := by decide +kernel
theorem dX6_firstWrong_45 : decode cX6_firstWrong 45 = .ok (.getfield 13, 3) := by decide +kernel
theorem dX6_firstWrong_48 : decode cX6_firstWrong 48 = .ok (.bipush 8, 2) := by decide +kernel
theorem dX6_firstWrong_50 : decode cX6_firstWrong 50 = .ok (.iaload, 1) := by decide +kernel
theorem dX6_firstWrong_51 : decode cX6_firstWrong 51 = .ok (.iconst 4, 1) := by decide +kernel
theorem dX6_firstWrong_52 : decode cX6_firstWrong 52 = .ok (.if_icmp .lt 20, 3) := by decide +kernel
theorem dX6_firstWrong_55 : decode cX6_firstWrong 55 = .ok (.iload_n 2, 1) := by decide +kernel
theorem dX6_firstWrong_56 : decode cX6_firstWrong 56 = .ok (.bipush 99, 2) := by decide +kernel
theorem dX6_firstWrong_58 : decode cX6_firstWrong 58 = .ok (.if_icmp .ne 18, 3) := by decide +kernel
theorem dX6_firstWrong_61 : decode cX6_firstWrong 61 = .ok (.aload_n 0, 1) := by decide +kernel
theorem dX6_firstWrong_62 : decode cX6_firstWrong 62 = .ok (.getfield 13, 3) := by decide +kernel
theorem dX6_firstWrong_65 : decode cX6_firstWrong 65 = .ok (.bipush 17, 2) := by decide +kernel
theorem dX6_firstWrong_67 : decode cX6_firstWrong 67 = .ok (.iaload, 1) := by decide +kernel
theorem dX6_firstWrong_68 : decode cX6_firstWrong 68 = .ok (.iconst 3, 1) := by decide +kernel
theorem dX6_firstWrong_69 : decode cX6_firstWrong 69 = .ok (.if_icmp .ge 7, 3) := by decide +kernel
theorem dX6_firstWrong_72 : decode cX6_firstWrong 72 = .ok (.iconst 1, 1) := by decide +kernel
theorem dX6_firstWrong_73 : decode cX6_firstWrong 73 = .ok (.goto 4, 3) := by decide +kernel
theorem dX6_firstWrong_76 : decode cX6_firstWrong 76 = .ok (.iconst 0, 1) := by decide +kernel
theorem dX6_firstWrong_77 : decode cX6_firstWrong 77 = .ok (.istore 4, 2) := by decide +kernel
theorem dX6_firstWrong_79 : decode cX6_firstWrong 79 = .ok (.iload 4, 2) := by decide +kernel
theorem dX6_firstWrong_81 : decode cX6_firstWrong 81 = .ok (.ifCond .ne 5, 3) := by decide +kernel
theorem dX6_firstWrong_84 : decode cX6_firstWrong 84 = .ok (.iload_n 1, 1) := by decide +kernel
theorem dX6_firstWrong_85 : decode cX6_firstWrong 85 = .ok (.ireturn, 1) := by decide +kernel
theorem dX6_firstWrong_86 : decode cX6_firstWrong 86 = .ok (.iload_n 2, 1) := by decide +kernel
theorem dX6_firstWrong_87 : decode cX6_firstWrong 87 = .ok (.bipush 114, 2) := by decide +kernel
theorem dX6_firstWrong_89 : decode cX6_firstWrong 89 = .ok (.if_icmp .ne 7, 3) := by decide +kernel
theorem dX6_firstWrong_92 : decode cX6_firstWrong 92 = .ok (.iconst 2, 1) := by decide +kernel
theorem dX6_firstWrong_93 : decode cX6_firstWrong 93 = .ok (.goto 14, 3) := by decide +kernel
theorem dX6_firstWrong_96 : decode cX6_firstWrong 96 = .ok (.iload_n 2, 1) := by decide +kernel
theorem dX6_firstWrong_97 : decode cX6_firstWrong 97 = .ok (.bipush 99, 2) := by decide +kernel
theorem dX6_firstWrong_99 : decode cX6_firstWrong 99 = .ok (.if_icmp .ne 7, 3) := by decide +kernel
theorem dX6_firstWrong_102 : decode cX6_firstWrong 102 = .ok (.iconst 1, 1) := by decide +kernel
theorem dX6_firstWrong_103 : decode cX6_firstWrong 103 = .ok (.goto 4, 3) := by decide +kernel
theorem dX6_firstWrong_106 : decode cX6_firstWrong 106 = .ok (.iconst 0, 1) := by decide +kernel
theorem dX6_firstWrong_107 : decode cX6_firstWrong 107 = .ok (.istore 5, 2) := by decide +kernel
theorem dX6_firstWrong_109 : decode cX6_firstWrong 109 = .ok (.iload_n 2, 1) := by decide +kernel
theorem dX6_firstWrong_110 : decode cX6_firstWrong 110 = .ok (.bipush 114, 2) := by decide +kernel
theorem dX6_firstWrong_112 : decode cX6_firstWrong 112 = .ok (.if_icmp .ne 8, 3) := by decide +kernel
theorem dX6_firstWrong_115 : decode cX6_firstWrong 115 = .ok (.bipush 20, 2) := by decide +kernel
theorem dX6_firstWrong_117 : decode cX6_firstWrong 117 = .ok (.goto 36, 3) := by decide +kernel
theorem dX6_firstWrong_120 : decode cX6_firstWrong 120 = .ok (.iload_n 2, 1) := by decide +kernel
theorem dX6_firstWrong_121 : decode cX6_firstWrong 121 = .ok (.bipush 119, 2) := by decide +kernel
theorem dX6_firstWrong_123 : decode cX6_firstWrong 123 = .ok (.if_icmp .ne 7, 3) := by decide +kernel
theorem dX6_firstWrong_126 : decode cX6_firstWrong 126 = .ok (.iconst 3, 1) := by decide +kernel
theorem dX6_firstWrong_127 : decode cX6_firstWrong 127 = .ok (.goto 26, 3) := by decide +kernel
theorem dX6_firstWrong_130 : decode cX6_firstWrong 130 = .ok (.iload_n 2, 1) := by decide +kernel
theorem dX6_firstWrong_131 : decode cX6_firstWrong 131 = .ok (.bipush 99, 2) := by decide +kernel
theorem dX6_firstWrong_133 : decode cX6_firstWrong 133 = .ok (.if_icmp .ne 14, 3) := by decide +kernel
theorem dX6_firstWrong_136 : decode cX6_firstWrong 136 = .ok (.aload_n 0, 1) := by decide +kernel
theorem dX6_firstWrong_137 : decode cX6_firstWrong 137 = .ok (.getfield 13, 3) := by decide +kernel
theorem dX6_firstWrong_140 : decode cX6_firstWrong 140 = .ok (.iconst 0, 1) := by decide +kernel
theorem dX6_firstWrong_141 : decode cX6_firstWrong 141 = .ok (.iaload, 1) := by decide +kernel
theorem dX6_firstWrong_142 : decode cX6_firstWrong 142 = .ok (.iconst 1, 1) := by decide +kernel
theorem dX6_firstWrong_143 : decode cX6_firstWrong 143 = .ok (.isub, 1) := by decide +kernel
theorem dX6_firstWrong_144 : decode cX6_firstWrong 144 = .ok (.goto 9, 3) := by decide +kernel
theorem dX6_firstWrong_147 : decode cX6_firstWrong 147 = .ok (.aload_n 0, 1) := by decide +kernel
theorem dX6_firstWrong_148 : decode cX6_firstWrong 148 = .ok (.getfield 13, 3) := by decide +kernel
theorem dX6_firstWrong_151 : decode cX6_firstWrong 151 = .ok (.iconst 0, 1) := by decide +kernel
theorem dX6_firstWrong_152 : decode cX6_firstWrong 152 = .ok (.iaload, 1) := by decide +kernel
theorem dX6_firstWrong_153 : decode cX6_firstWrong 153 = .ok (.istore 6, 2) := by decide +kernel
theorem dX6_firstWrong_155 : decode cX6_firstWrong 155 = .ok (.aload_n 0, 1) := by decide +kernel
theorem dX6_firstWrong_156 : decode cX6_firstWrong 156 = .ok (.iload_n 1, 1) := by decide +kernel
theorem dX6_firstWrong_157 : decode cX6_firstWrong 157 = .ok (.iconst 1, 1) := by decide +kernel
theorem dX6_firstWrong_158 : decode cX6_firstWrong 158 = .ok (.iadd, 1) := by decide +kernel
theorem dX6_firstWrong_159 : decode cX6_firstWrong 159 = .ok (.iload 5, 2) := by decide +kernel
theorem dX6_firstWrong_161 : decode cX6_firstWrong 161 = .ok (.iload 6, 2) := by decide +kernel
theorem dX6_firstWrong_163 : decode cX6_firstWrong 163 = .ok (.invokevirtual 106, 3) := by decide +kernel
theorem dX6_firstWrong_166 : decode cX6_firstWrong 166 = .ok (.ifCond .ne 7, 3) := by decide +kernel
theorem dX6_firstWrong_169 : decode cX6_firstWrong 169 = .ok (.iload_n 1, 1) := by decide +kernel
theorem dX6_firstWrong_170 : decode cX6_firstWrong 170 = .ok (.iconst 1, 1) := by decide +kernel
theorem dX6_firstWrong_171 : decode cX6_firstWrong 171 = .ok (.iadd, 1) := by decide +kernel
theorem dX6_firstWrong_172 : decode cX6_firstWrong 172 = .ok (.ireturn, 1) := by decide +kernel
theorem dX6_firstWrong_173 : decode cX6_firstWrong 173 = .ok (.iload_n 2, 1) := by decide +kernel
theorem dX6_firstWrong_174 : decode cX6_firstWrong 174 = .ok (.bipush 114, 2) := by decide +kernel
theorem dX6_firstWrong_176 : decode cX6_firstWrong 176 = .ok (.if_icmp .ne 8, 3) := by decide +kernel
theorem dX6_firstWrong_179 : decode cX6_firstWrong 179 = .ok (.bipush 20, 2) := by decide +kernel
theorem dX6_firstWrong_181 : decode cX6_firstWrong 181 = .ok (.goto 20, 3) := by decide +kernel
theorem dX6_firstWrong_184 : decode cX6_firstWrong 184 = .ok (.iload_n 2, 1) := by decide +kernel
theorem dX6_firstWrong_185 : decode cX6_firstWrong 185 = .ok (.bipush 119, 2) := by decide +kernel
theorem dX6_firstWrong_187 : decode cX6_firstWrong 187 = .ok (.if_icmp .ne 8, 3) := by decide +kernel
theorem dX6_firstWrong_190 : decode cX6_firstWrong 190 = .ok (.bipush 10, 2) := by decide +kernel
theorem dX6_firstWrong_192 : decode cX6_firstWrong 192 = .ok (.goto 9, 3) := by decide +kernel
theorem dX6_firstWrong_195 : decode cX6_firstWrong 195 = .ok (.aload_n 0, 1) := by decide +kernel
theorem dX6_firstWrong_196 : decode cX6_firstWrong 196 = .ok (.getfield 13, 3) := by decide +kernel
theorem dX6_firstWrong_199 : decode cX6_firstWrong 199 = .ok (.iconst 1, 1) := by decide +kernel
theorem dX6_firstWrong_200 : decode cX6_firstWrong 200 = .ok (.iaload, 1) := by decide +kernel
theorem dX6_firstWrong_201 : decode cX6_firstWrong 201 = .ok (.istore 7, 2) := by decide +kernel
theorem dX6_firstWrong_203 : decode cX6_firstWrong 203 = .ok (.aload_n 0, 1) := by decide +kernel
theorem dX6_firstWrong_204 : decode cX6_firstWrong 204 = .ok (.iload_n 1, 1) := by decide +kernel
theorem dX6_firstWrong_205 : decode cX6_firstWrong 205 = .ok (.iconst 2, 1) := by decide +kernel
theorem dX6_firstWrong_206 : decode cX6_firstWrong 206 = .ok (.iadd, 1) := by decide +kernel
theorem dX6_firstWrong_207 : decode cX6_firstWrong 207 = .ok (.iload_n 2, 1) := by decide +kernel
theorem dX6_firstWrong_208 : decode cX6_firstWrong 208 = .ok (.bipush 114, 2) := by decide +kernel
theorem dX6_firstWrong_210 : decode cX6_firstWrong 210 = .ok (.if_icmp .ne 7, 3) := by decide +kernel
theorem dX6_firstWrong_213 : decode cX6_firstWrong 213 = .ok (.iconst 2, 1) := by decide +kernel
theorem dX6_firstWrong_214 : decode cX6_firstWrong 214 = .ok (.goto 4, 3) := by decide +kernel
theorem dX6_firstWrong_217 : decode cX6_firstWrong 217 = .ok (.iconst 0, 1) := by decide +kernel
theorem dX6_firstWrong_218 : decode cX6_firstWrong 218 = .ok (.iload 7, 2) := by decide +kernel
theorem dX6_firstWrong_220 : decode cX6_firstWrong 220 = .ok (.invokevirtual 106, 3) := by decide +kernel
theorem dX6_firstWrong_223 : decode cX6_firstWrong 223 = .ok (.ifCond .ne 7, 3) := by decide +kernel
theorem dX6_firstWrong_226 : decode cX6_firstWrong 226 = .ok (.iload_n 1, 1) := by decide +kernel
theorem dX6_firstWrong_227 : decode cX6_firstWrong 227 = .ok (.iconst 2, 1) := by decide +kernel
theorem dX6_firstWrong_228 : decode cX6_firstWrong 228 = .ok (.iadd, 1) := by decide +kernel
theorem dX6_firstWrong_229 : decode cX6_firstWrong 229 = .ok (.ireturn, 1) := by decide +kernel
theorem dX6_firstWrong_230 : decode cX6_firstWrong 230 = .ok (.iload_n 2, 1) := by decide +kernel
theorem dX6_firstWrong_231 : decode cX6_firstWrong 231 = .ok (.bipush 99, 2) := by decide +kernel
theorem dX6_firstWrong_233 : decode cX6_firstWrong 233 = .ok (.if_icmp .ne 31, 3) := by decide +kernel
theorem dX6_firstWrong_236 : decode cX6_firstWrong 236 = .ok (.aload_n 0, 1) := by decide +kernel
theorem dX6_firstWrong_237 : decode cX6_firstWrong 237 = .ok (.iload_n 1, 1) := by decide +kernel
theorem dX6_firstWrong_238 : decode cX6_firstWrong 238 = .ok (.iconst 3, 1) := by decide +kernel
theorem dX6_firstWrong_239 : decode cX6_firstWrong 239 = .ok (.iadd, 1) := by decide +kernel
theorem dX6_firstWrong_240 : decode cX6_firstWrong 240 = .ok (.aload_n 0, 1) := by decide +kernel
theorem dX6_firstWrong_241 : decode cX6_firstWrong 241 = .ok (.getfield 44, 3) := by decide +kernel
theorem dX6_firstWrong_244 : decode cX6_firstWrong 244 = .ok (.iload_n 1, 1) := by decide +kernel
theorem dX6_firstWrong_245 : decode cX6_firstWrong 245 = .ok (.iconst 2, 1) := by decide +kernel
theorem dX6_firstWrong_246 : decode cX6_firstWrong 246 = .ok (.iadd, 1) := by decide +kernel
theorem dX6_firstWrong_247 : decode cX6_firstWrong 247 = .ok (.iaload, 1) := by decide +kernel
theorem dX6_firstWrong_248 : decode cX6_firstWrong 248 = .ok (.aload_n 0, 1) := by decide +kernel
theorem dX6_firstWrong_249 : decode cX6_firstWrong 249 = .ok (.getfield 13, 3) := by decide +kernel
theorem dX6_firstWrong_252 : decode cX6_firstWrong 252 = .ok (.iconst 1, 1) := by decide +kernel
theorem dX6_firstWrong_253 : decode cX6_firstWrong 253 = .ok (.iaload, 1) := by decide +kernel
theorem dX6_firstWrong_254 : decode cX6_firstWrong 254 = .ok (.invokevirtual 106, 3) := by decide +kernel
theorem dX6_firstWrong_257 : decode cX6_firstWrong 257 = .ok (.ifCond .ne 7, 3) := by decide +kernel
theorem dX6_firstWrong_260 : decode cX6_firstWrong 260 = .ok (.iload_n 1, 1) := by decide +kernel
theorem dX6_firstWrong_261 : decode cX6_firstWrong 261 = .ok (.iconst 3, 1) := by decide +kernel
theorem dX6_firstWrong_262 : decode cX6_firstWrong 262 = .ok (.iadd, 1) := by decide +kernel
theorem dX6_firstWrong_263 : decode cX6_firstWrong 263 = .ok (.ireturn, 1) := by decide +kernel
theorem dX6_firstWrong_264 : decode cX6_firstWrong 264 = .ok (.iload_n 2, 1) := by decide +kernel
theorem dX6_firstWrong_265 : decode cX6_firstWrong 265 = .ok (.bipush 99, 2) := by decide +kernel
theorem dX6_firstWrong_267 : decode cX6_firstWrong 267 = .ok (.if_icmp .ne 9, 3) := by decide +kernel
theorem dX6_firstWrong_270 : decode cX6_firstWrong 270 = .ok (.iload_n 1, 1) := by decide +kernel
theorem dX6_firstWrong_271 : decode cX6_firstWrong 271 = .ok (.iconst 4, 1) := by decide +kernel
theorem dX6_firstWrong_272 : decode cX6_firstWrong 272 = .ok (.iadd, 1) := by decide +kernel
theorem dX6_firstWrong_273 : decode cX6_firstWrong 273 = .ok (.goto 6, 3) := by decide +kernel
theorem dX6_firstWrong_276 : decode cX6_firstWrong 276 = .ok (.iload_n 1, 1) := by decide +kernel
theorem dX6_firstWrong_277 : decode cX6_firstWrong 277 = .ok (.iconst 3, 1) := by decide +kernel
theorem dX6_firstWrong_278 : decode cX6_firstWrong 278 = .ok (.iadd, 1) := by decide +kernel
theorem dX6_firstWrong_279 : decode cX6_firstWrong 279 = .ok (.istore 8, 2) := by decide +kernel
theorem dX6_firstWrong_281 : decode cX6_firstWrong 281 = .ok (.aload_n 0, 1) := by decide +kernel
theorem dX6_firstWrong_282 : decode cX6_firstWrong 282 = .ok (.iload 8, 2) := by decide +kernel
theorem dX6_firstWrong_284 : decode cX6_firstWrong 284 = .ok (.bipush 59, 2) := by decide +kernel
theorem dX6_firstWrong_286 : decode cX6_firstWrong 286 = .ok (.invokevirtual 99, 3) := by decide +kernel
theorem dX6_firstWrong_289 : decode cX6_firstWrong 289 = .ok (.ifCond .eq 8, 3) := by decide +kernel
theorem dX6_firstWrong_292 : decode cX6_firstWrong 292 = .ok (.bipush (-9), 2) := by decide +kernel
theorem dX6_firstWrong_294 : decode cX6_firstWrong 294 = .ok (.goto 5, 3) := by decide +kernel
theorem dX6_firstWrong_297 : decode cX6_firstWrong 297 = .ok (.iload 8, 2) := by decide +kernel
theorem dX6_firstWrong_299 : decode cX6_firstWrong 299 = .ok (.ireturn, 1) := by decide +kernel
theorem dX6_token_0 : decode cX6_token 0 = .ok (.iload_n 1, 1) := by decide +kernel
theorem dX6_token_1 : decode cX6_token 1 = .ok (.aload_n 0, 1) := by decide +kernel
theorem dX6_token_2 : decode cX6_token 2 = .ok (.getfield 90, 3) := by decide +kernel
theorem dX6_token_5 : decode cX6_token 5 = .ok (.if_icmp .ge 12, 3) := by decide +kernel
theorem dX6_token_8 : decode cX6_token 8 = .ok (.aload_n 0, 1) := by decide +kernel
theorem dX6_token_9 : decode cX6_token 9 = .ok (.getfield 38, 3) := by decide +kernel
theorem dX6_token_12 : decode cX6_token 12 = .ok (.iload_n 1, 1) := by decide +kernel
theorem dX6_token_13 : decode cX6_token 13 = .ok (.iaload, 1) := by decide +kernel
theorem dX6_token_14 : decode cX6_token 14 = .ok (.goto 4, 3) := by decide +kernel
theorem dX6_token_17 : decode cX6_token 17 = .ok (.iconst 0, 1) := by decide +kernel
theorem dX6_token_18 : decode cX6_token 18 = .ok (.ireturn, 1) := by decide +kernel
theorem dX6_lay_0 : decode cX6_lay 0 = .ok (.aload_n 0, 1) := by decide +kernel
theorem dX6_lay_1 : decode cX6_lay 1 = .ok (.getfield 44, 3) := by decide +kernel
theorem dX6_lay_4 : decode cX6_lay 4 = .ok (.iload_n 1, 1) := by decide +kernel
theorem dX6_lay_5 : decode cX6_lay 5 = .ok (.iconst 1, 1) := by decide +kernel
theorem dX6_lay_6 : decode cX6_lay 6 = .ok (.iadd, 1) := by decide +kernel
theorem dX6_lay_7 : decode cX6_lay 7 = .ok (.iaload, 1) := by decide +kernel
theorem dX6_lay_8 : decode cX6_lay 8 = .ok (.istore_n 2, 1) := by decide +kernel
theorem dX6_lay_9 : decode cX6_lay 9 = .ok (.aload_n 0, 1) := by decide +kernel
theorem dX6_lay_10 : decode cX6_lay 10 = .ok (.getfield 44, 3) := by decide +kernel
theorem dX6_lay_13 : decode cX6_lay 13 = .ok (.iload_n 1, 1) := by decide +kernel
theorem dX6_lay_14 : decode cX6_lay 14 = .ok (.iconst 2, 1) := by decide +kernel
theorem dX6_lay_15 : decode cX6_lay 15 = .ok (.iadd, 1) := by decide +kernel
theorem dX6_lay_16 : decode cX6_lay 16 = .ok (.iaload, 1) := by decide +kernel
theorem dX6_lay_17 : decode cX6_lay 17 = .ok (.istore_n 3, 1) := by decide +kernel
theorem dX6_lay_18 : decode cX6_lay 18 = .ok (.aload_n 0, 1) := by decide +kernel
theorem dX6_lay_19 : decode cX6_lay 19 = .ok (.getfield 38, 3) := by decide +kernel
theorem dX6_lay_22 : decode cX6_lay 22 = .ok (.iload_n 1, 1) := by decide +kernel
theorem dX6_lay_23 : decode cX6_lay 23 = .ok (.iaload, 1) := by decide +kernel
theorem dX6_lay_24 : decode cX6_lay 24 = .ok (.tableswitch 136 113 119 #[73, 44, 90, 136, 136, 136, 61], 44) := by decide +kernel
theorem dX6_lay_68 : decode cX6_lay 68 = .ok (.aload_n 0, 1) := by decide +kernel
theorem dX6_lay_69 : decode cX6_lay 69 = .ok (.getfield 13, 3) := by decide +kernel
theorem dX6_lay_72 : decode cX6_lay 72 = .ok (.iconst 0, 1) := by decide +kernel
theorem dX6_lay_73 : decode cX6_lay 73 = .ok (.iload_n 2, 1) := by decide +kernel
theorem dX6_lay_74 : decode cX6_lay 74 = .ok (.iastore, 1) := by decide +kernel
theorem dX6_lay_75 : decode cX6_lay 75 = .ok (.aload_n 0, 1) := by decide +kernel
theorem dX6_lay_76 : decode cX6_lay 76 = .ok (.getfield 13, 3) := by decide +kernel
theorem dX6_lay_79 : decode cX6_lay 79 = .ok (.iconst 1, 1) := by decide +kernel
theorem dX6_lay_80 : decode cX6_lay 80 = .ok (.iload_n 3, 1) := by decide +kernel
theorem dX6_lay_81 : decode cX6_lay 81 = .ok (.iastore, 1) := by decide +kernel
theorem dX6_lay_82 : decode cX6_lay 82 = .ok (.goto 144, 3) := by decide +kernel
theorem dX6_lay_85 : decode cX6_lay 85 = .ok (.aload_n 0, 1) := by decide +kernel
theorem dX6_lay_86 : decode cX6_lay 86 = .ok (.getfield 13, 3) := by decide +kernel
theorem dX6_lay_89 : decode cX6_lay 89 = .ok (.iconst 4, 1) := by decide +kernel
theorem dX6_lay_90 : decode cX6_lay 90 = .ok (.iload_n 2, 1) := by decide +kernel
theorem dX6_lay_91 : decode cX6_lay 91 = .ok (.iadd, 1) := by decide +kernel
theorem dX6_lay_92 : decode cX6_lay 92 = .ok (.iload_n 3, 1) := by decide +kernel
theorem dX6_lay_93 : decode cX6_lay 93 = .ok (.iastore, 1) := by decide +kernel
theorem dX6_lay_94 : decode cX6_lay 94 = .ok (.goto 132, 3) := by decide +kernel
theorem dX6_lay_97 : decode cX6_lay 97 = .ok (.aload_n 0, 1) := by decide +kernel
theorem dX6_lay_98 : decode cX6_lay 98 = .ok (.getfield 13, 3) := by decide +kernel
theorem dX6_lay_101 : decode cX6_lay 101 = .ok (.iconst 2, 1) := by decide +kernel
theorem dX6_lay_102 : decode cX6_lay 102 = .ok (.iload_n 2, 1) := by decide +kernel
theorem dX6_lay_103 : decode cX6_lay 103 = .ok (.iastore, 1) := by decide +kernel
theorem dX6_lay_104 : decode cX6_lay 104 = .ok (.aload_n 0, 1) := by decide +kernel
theorem dX6_lay_105 : decode cX6_lay 105 = .ok (.getfield 13, 3) := by decide +kernel
theorem dX6_lay_108 : decode cX6_lay 108 = .ok (.iconst 3, 1) := by decide +kernel
theorem dX6_lay_109 : decode cX6_lay 109 = .ok (.iload_n 3, 1) := by decide +kernel
theorem dX6_lay_110 : decode cX6_lay 110 = .ok (.iastore, 1) := by decide +kernel
theorem dX6_lay_111 : decode cX6_lay 111 = .ok (.goto 115, 3) := by decide +kernel
theorem dX6_lay_114 : decode cX6_lay 114 = .ok (.aload_n 0, 1) := by decide +kernel
theorem dX6_lay_115 : decode cX6_lay 115 = .ok (.getfield 13, 3) := by decide +kernel
theorem dX6_lay_118 : decode cX6_lay 118 = .ok (.bipush 9, 2) := by decide +kernel
theorem dX6_lay_120 : decode cX6_lay 120 = .ok (.aload_n 0, 1) := by decide +kernel
theorem dX6_lay_121 : decode cX6_lay 121 = .ok (.getfield 13, 3) := by decide +kernel
theorem dX6_lay_124 : decode cX6_lay 124 = .ok (.bipush 8, 2) := by decide +kernel
theorem dX6_lay_126 : decode cX6_lay 126 = .ok (.iaload, 1) := by decide +kernel
theorem dX6_lay_127 : decode cX6_lay 127 = .ok (.iadd, 1) := by decide +kernel
theorem dX6_lay_128 : decode cX6_lay 128 = .ok (.iload_n 2, 1) := by decide +kernel
theorem dX6_lay_129 : decode cX6_lay 129 = .ok (.iastore, 1) := by decide +kernel
theorem dX6_lay_130 : decode cX6_lay 130 = .ok (.aload_n 0, 1) := by decide +kernel
theorem dX6_lay_131 : decode cX6_lay 131 = .ok (.getfield 13, 3) := by decide +kernel
theorem dX6_lay_134 : decode cX6_lay 134 = .ok (.bipush 13, 2) := by decide +kernel
theorem dX6_lay_136 : decode cX6_lay 136 = .ok (.aload_n 0, 1) := by decide +kernel
theorem dX6_lay_137 : decode cX6_lay 137 = .ok (.getfield 13, 3) := by decide +kernel
theorem dX6_lay_140 : decode cX6_lay 140 = .ok (.bipush 8, 2) := by decide +kernel
theorem dX6_lay_142 : decode cX6_lay 142 = .ok (.iaload, 1) := by decide +kernel
theorem dX6_lay_143 : decode cX6_lay 143 = .ok (.iadd, 1) := by decide +kernel
theorem dX6_lay_144 : decode cX6_lay 144 = .ok (.iload_n 3, 1) := by decide +kernel
theorem dX6_lay_145 : decode cX6_lay 145 = .ok (.iastore, 1) := by decide +kernel
theorem dX6_lay_146 : decode cX6_lay 146 = .ok (.aload_n 0, 1) := by decide +kernel
theorem dX6_lay_147 : decode cX6_lay 147 = .ok (.getfield 13, 3) := by decide +kernel
theorem dX6_lay_150 : decode cX6_lay 150 = .ok (.bipush 8, 2) := by decide +kernel
theorem dX6_lay_152 : decode cX6_lay 152 = .ok (.dup2, 1) := by decide +kernel
theorem dX6_lay_153 : decode cX6_lay 153 = .ok (.iaload, 1) := by decide +kernel
theorem dX6_lay_154 : decode cX6_lay 154 = .ok (.iconst 1, 1) := by decide +kernel
theorem dX6_lay_155 : decode cX6_lay 155 = .ok (.iadd, 1) := by decide +kernel
theorem dX6_lay_156 : decode cX6_lay 156 = .ok (.iastore, 1) := by decide +kernel
theorem dX6_lay_157 : decode cX6_lay 157 = .ok (.goto 69, 3) := by decide +kernel
theorem dX6_lay_160 : decode cX6_lay 160 = .ok (.aload_n 0, 1) := by decide +kernel
theorem dX6_lay_161 : decode cX6_lay 161 = .ok (.getfield 13, 3) := by decide +kernel
theorem dX6_lay_164 : decode cX6_lay 164 = .ok (.bipush 18, 2) := by decide +kernel
theorem dX6_lay_166 : decode cX6_lay 166 = .ok (.aload_n 0, 1) := by decide +kernel
theorem dX6_lay_167 : decode cX6_lay 167 = .ok (.getfield 13, 3) := by decide +kernel
theorem dX6_lay_170 : decode cX6_lay 170 = .ok (.bipush 17, 2) := by decide +kernel
theorem dX6_lay_172 : decode cX6_lay 172 = .ok (.iaload, 1) := by decide +kernel
theorem dX6_lay_173 : decode cX6_lay 173 = .ok (.iadd, 1) := by decide +kernel
theorem dX6_lay_174 : decode cX6_lay 174 = .ok (.iload_n 2, 1) := by decide +kernel
theorem dX6_lay_175 : decode cX6_lay 175 = .ok (.iastore, 1) := by decide +kernel
theorem dX6_lay_176 : decode cX6_lay 176 = .ok (.aload_n 0, 1) := by decide +kernel
theorem dX6_lay_177 : decode cX6_lay 177 = .ok (.getfield 13, 3) := by decide +kernel
theorem dX6_lay_180 : decode cX6_lay 180 = .ok (.bipush 21, 2) := by decide +kernel
theorem dX6_lay_182 : decode cX6_lay 182 = .ok (.aload_n 0, 1) := by decide +kernel
theorem dX6_lay_183 : decode cX6_lay 183 = .ok (.getfield 13, 3) := by decide +kernel
theorem dX6_lay_186 : decode cX6_lay 186 = .ok (.bipush 17, 2) := by decide +kernel
theorem dX6_lay_188 : decode cX6_lay 188 = .ok (.iaload, 1) := by decide +kernel
theorem dX6_lay_189 : decode cX6_lay 189 = .ok (.iadd, 1) := by decide +kernel
theorem dX6_lay_190 : decode cX6_lay 190 = .ok (.iload_n 3, 1) := by decide +kernel
theorem dX6_lay_191 : decode cX6_lay 191 = .ok (.iastore, 1) := by decide +kernel
theorem dX6_lay_192 : decode cX6_lay 192 = .ok (.aload_n 0, 1) := by decide +kernel
theorem dX6_lay_193 : decode cX6_lay 193 = .ok (.getfield 13, 3) := by decide +kernel
theorem dX6_lay_196 : decode cX6_lay 196 = .ok (.bipush 24, 2) := by decide +kernel
theorem dX6_lay_198 : decode cX6_lay 198 = .ok (.aload_n 0, 1) := by decide +kernel
theorem dX6_lay_199 : decode cX6_lay 199 = .ok (.getfield 13, 3) := by decide +kernel
theorem dX6_lay_202 : decode cX6_lay 202 = .ok (.bipush 17, 2) := by decide +kernel
theorem dX6_lay_204 : decode cX6_lay 204 = .ok (.iaload, 1) := by decide +kernel
theorem dX6_lay_205 : decode cX6_lay 205 = .ok (.iadd, 1) := by decide +kernel
theorem dX6_lay_206 : decode cX6_lay 206 = .ok (.aload_n 0, 1) := by decide +kernel
theorem dX6_lay_207 : decode cX6_lay 207 = .ok (.getfield 44, 3) := by decide +kernel
theorem dX6_lay_210 : decode cX6_lay 210 = .ok (.iload_n 1, 1) := by decide +kernel
theorem dX6_lay_211 : decode cX6_lay 211 = .ok (.iconst 3, 1) := by decide +kernel
theorem dX6_lay_212 : decode cX6_lay 212 = .ok (.iadd, 1) := by decide +kernel
theorem dX6_lay_213 : decode cX6_lay 213 = .ok (.iaload, 1) := by decide +kernel
theorem dX6_lay_214 : decode cX6_lay 214 = .ok (.iastore, 1) := by decide +kernel
theorem dX6_lay_215 : decode cX6_lay 215 = .ok (.aload_n 0, 1) := by decide +kernel
theorem dX6_lay_216 : decode cX6_lay 216 = .ok (.getfield 13, 3) := by decide +kernel
theorem dX6_lay_219 : decode cX6_lay 219 = .ok (.bipush 17, 2) := by decide +kernel
theorem dX6_lay_221 : decode cX6_lay 221 = .ok (.dup2, 1) := by decide +kernel
theorem dX6_lay_222 : decode cX6_lay 222 = .ok (.iaload, 1) := by decide +kernel
theorem dX6_lay_223 : decode cX6_lay 223 = .ok (.iconst 1, 1) := by decide +kernel
theorem dX6_lay_224 : decode cX6_lay 224 = .ok (.iadd, 1) := by decide +kernel
theorem dX6_lay_225 : decode cX6_lay 225 = .ok (.iastore, 1) := by decide +kernel
theorem dX6_lay_226 : decode cX6_lay 226 = .ok (.return_, 1) := by decide +kernel
set_option maxRecDepth 20000 in
theorem ggX6_room_X6_parts : GoodIn wsX6_room wsX6_parts := goodIn_r _ [8, 1, 3, 9, 10, 2, 11, 12, 7, 13, 14, 15, 16, 17, 18, 19, 20, 21, 22, 23, 24, 62, 63, 64, 65, 66, 67, 68, 69, 70, 71, 72, 73, 74, 75, 76, 77, 78, 79, 80, 81, 82, 83] (by decide +kernel) (by decide +kernel)
set_option maxRecDepth 20000 in
theorem gX6_room_X6_parts : GoodIn wsX6_room (wsV RX6 109 RX6 yX6_parts wsX6_parts) := goodIn_app (goodIn_of _ (by decide +kernel)) ggX6_room_X6_parts
set_option maxRecDepth 20000 in
theorem ggX6_room_X6_begins : GoodIn wsX6_room wsX6_begins := goodIn_r _ [28, 29, 62, 63, 64, 65, 66, 67, 68, 69, 70, 71, 72, 73, 74, 75, 76, 77, 78, 79, 80, 81, 82, 83] (by decide +kernel) (by decide +kernel)
set_option maxRecDepth 20000 in
theorem gX6_room_X6_begins : GoodIn wsX6_room (wsV RX6 62 RX6 yX6_begins wsX6_begins) := goodIn_app (goodIn_of _ (by decide +kernel)) ggX6_room_X6_begins
set_option maxRecDepth 20000 in
theorem ggX6_room_X6_firstWrong : GoodIn wsX6_room wsX6_firstWrong := goodIn_r _ [33, 29, 21, 34, 35, 36, 7, 37, 1, 2, 38, 39, 40, 41, 42, 43, 44, 45, 14, 15, 16, 62, 63, 64, 65, 66, 67, 68, 69, 70, 71, 72, 73, 74, 75, 76, 77, 78, 79, 80, 81, 82, 83] (by decide +kernel) (by decide +kernel)
set_option maxRecDepth 20000 in
theorem gX6_room_X6_firstWrong : GoodIn wsX6_room (wsV RX6 112 RX6 yX6_firstWrong wsX6_firstWrong) := goodIn_app (goodIn_of _ (by decide +kernel)) ggX6_room_X6_firstWrong
set_option maxRecDepth 20000 in
theorem ggX6_room_X6_placeOf : GoodIn wsX6_room wsX6_placeOf := goodIn_r _ [49, 1, 10, 3, 62, 63, 64, 65, 66, 67, 68, 69, 70, 71, 72, 73, 74, 75, 76, 77, 78, 79, 80, 81, 82, 83] (by decide +kernel) (by decide +kernel)
set_option maxRecDepth 20000 in
theorem gX6_room_X6_placeOf : GoodIn wsX6_room (wsV RX6 115 RX6 yX6_placeOf wsX6_placeOf) := goodIn_app (goodIn_of _ (by decide +kernel)) ggX6_room_X6_placeOf
set_option maxRecDepth 20000 in
theorem ggX6_room_X6_lay : GoodIn wsX6_room wsX6_lay := goodIn_r _ [53, 21, 2, 29, 62, 63, 64, 65, 66, 67, 68, 69, 70, 71, 72, 73, 74, 75, 76, 77, 78, 79, 80, 81, 82, 83] (by decide +kernel) (by decide +kernel)
set_option maxRecDepth 20000 in
theorem gX6_room_X6_lay : GoodIn wsX6_room (wsV RX6 118 RX6 yX6_lay wsX6_lay) := goodIn_app (goodIn_of _ (by decide +kernel)) ggX6_room_X6_lay
set_option maxRecDepth 20000 in
theorem ggX6_room_X6_becomes : GoodIn wsX6_room wsX6_becomes := goodIn_r _ [57, 58, 29, 59, 60, 61, 62, 63, 64, 65, 66, 67, 68, 69, 70, 71, 72, 73, 74, 75, 76, 77, 78, 79, 80, 81, 82, 83] (by decide +kernel) (by decide +kernel)
set_option maxRecDepth 20000 in
theorem gX6_room_X6_becomes : GoodIn wsX6_room (wsV RX6 65 RX6 yX6_becomes wsX6_becomes) := goodIn_app (goodIn_of _ (by decide +kernel)) ggX6_room_X6_becomes
theorem dX6_room_0 : decode cX6_room 0 = .ok (.aload_n 0, 1) := by decide +kernel
theorem dX6_room_1 : decode cX6_room 1 = .ok (.invokevirtual 109, 3) := by decide +kernel
theorem dX6_room_4 : decode cX6_room 4 = .ok (.aload_n 0, 1) := by decide +kernel
theorem dX6_room_5 : decode cX6_room 5 = .ok (.invokevirtual 62, 3) := by decide +kernel
theorem dX6_room_8 : decode cX6_room 8 = .ok (.iconst 0, 1) := by decide +kernel
theorem dX6_room_9 : decode cX6_room 9 = .ok (.istore_n 1, 1) := by decide +kernel
theorem dX6_room_10 : decode cX6_room 10 = .ok (.iconst 0, 1) := by decide +kernel
theorem dX6_room_11 : decode cX6_room 11 = .ok (.istore_n 2, 1) := by decide +kernel
theorem dX6_room_12 : decode cX6_room 12 = .ok (.iload_n 2, 1) := by decide +kernel
theorem dX6_room_13 : decode cX6_room 13 = .ok (.aload_n 0, 1) := by decide +kernel
theorem dX6_room_14 : decode cX6_room 14 = .ok (.getfield 90, 3) := by decide +kernel
theorem dX6_room_17 : decode cX6_room 17 = .ok (.if_icmp .ge 54, 3) := by decide +kernel
theorem dX6_room_20 : decode cX6_room 20 = .ok (.aload_n 0, 1) := by decide +kernel
theorem dX6_room_21 : decode cX6_room 21 = .ok (.iload_n 2, 1) := by decide +kernel
theorem dX6_room_22 : decode cX6_room 22 = .ok (.invokevirtual 112, 3) := by decide +kernel
theorem dX6_room_25 : decode cX6_room 25 = .ok (.istore_n 3, 1) := by decide +kernel
theorem dX6_room_26 : decode cX6_room 26 = .ok (.iload_n 3, 1) := by decide +kernel
theorem dX6_room_27 : decode cX6_room 27 = .ok (.bipush (-9), 2) := by decide +kernel
theorem dX6_room_29 : decode cX6_room 29 = .ok (.if_icmp .eq 12, 3) := by decide +kernel
theorem dX6_room_32 : decode cX6_room 32 = .ok (.bipush (-10), 2) := by decide +kernel
theorem dX6_room_34 : decode cX6_room 34 = .ok (.aload_n 0, 1) := by decide +kernel
theorem dX6_room_35 : decode cX6_room 35 = .ok (.iload_n 3, 1) := by decide +kernel
theorem dX6_room_36 : decode cX6_room 36 = .ok (.invokevirtual 115, 3) := by decide +kernel
theorem dX6_room_39 : decode cX6_room 39 = .ok (.isub, 1) := by decide +kernel
theorem dX6_room_40 : decode cX6_room 40 = .ok (.ireturn, 1) := by decide +kernel
theorem dX6_room_41 : decode cX6_room 41 = .ok (.aload_n 0, 1) := by decide +kernel
theorem dX6_room_42 : decode cX6_room 42 = .ok (.iload_n 2, 1) := by decide +kernel
theorem dX6_room_43 : decode cX6_room 43 = .ok (.invokevirtual 118, 3) := by decide +kernel
theorem dX6_room_46 : decode cX6_room 46 = .ok (.iload_n 2, 1) := by decide +kernel
theorem dX6_room_47 : decode cX6_room 47 = .ok (.aload_n 0, 1) := by decide +kernel
theorem dX6_room_48 : decode cX6_room 48 = .ok (.getfield 38, 3) := by decide +kernel
theorem dX6_room_51 : decode cX6_room 51 = .ok (.iload_n 2, 1) := by decide +kernel
theorem dX6_room_52 : decode cX6_room 52 = .ok (.iaload, 1) := by decide +kernel
theorem dX6_room_53 : decode cX6_room 53 = .ok (.bipush 99, 2) := by decide +kernel
theorem dX6_room_55 : decode cX6_room 55 = .ok (.if_icmp .ne 7, 3) := by decide +kernel
theorem dX6_room_58 : decode cX6_room 58 = .ok (.iconst 5, 1) := by decide +kernel
theorem dX6_room_59 : decode cX6_room 59 = .ok (.goto 4, 3) := by decide +kernel
theorem dX6_room_62 : decode cX6_room 62 = .ok (.iconst 4, 1) := by decide +kernel
theorem dX6_room_63 : decode cX6_room 63 = .ok (.iadd, 1) := by decide +kernel
theorem dX6_room_64 : decode cX6_room 64 = .ok (.istore_n 2, 1) := by decide +kernel
theorem dX6_room_65 : decode cX6_room 65 = .ok (.iinc 1 1, 3) := by decide +kernel
theorem dX6_room_68 : decode cX6_room 68 = .ok (.goto (-56), 3) := by decide +kernel
theorem dX6_room_71 : decode cX6_room 71 = .ok (.aload_n 0, 1) := by decide +kernel
theorem dX6_room_72 : decode cX6_room 72 = .ok (.invokevirtual 65, 3) := by decide +kernel
theorem dX6_room_75 : decode cX6_room 75 = .ok (.aload_n 0, 1) := by decide +kernel
theorem dX6_room_76 : decode cX6_room 76 = .ok (.iconst 0, 1) := by decide +kernel
theorem dX6_room_77 : decode cX6_room 77 = .ok (.putfield 83, 3) := by decide +kernel
theorem dX6_room_80 : decode cX6_room 80 = .ok (.iload_n 1, 1) := by decide +kernel
theorem dX6_room_81 : decode cX6_room 81 = .ok (.ireturn, 1) := by decide +kernel
set_option maxRecDepth 20000 in
theorem ggX6_wall_X6_in : GoodIn wsX6_wall wsX6_in := goodIn_r _ [5] (by decide +kernel) (by decide +kernel)
set_option maxRecDepth 20000 in
theorem gX6_wall_X6_in : GoodIn wsX6_wall (va_wsS RX6 75 yX6_in wsX6_in) := goodIn_app (goodIn_of _ (by decide +kernel)) ggX6_wall_X6_in
theorem dX6_wall_0 : decode cX6_wall 0 = .ok (.iload_n 1, 1) := by decide +kernel
theorem dX6_wall_1 : decode cX6_wall 1 = .ok (.iconst 0, 1) := by decide +kernel
theorem dX6_wall_2 : decode cX6_wall 2 = .ok (.iconst 3, 1) := by decide +kernel
theorem dX6_wall_3 : decode cX6_wall 3 = .ok (.invokestatic 75, 3) := by decide +kernel
theorem dX6_wall_6 : decode cX6_wall 6 = .ok (.ifCond .eq 14, 3) := by decide +kernel
theorem dX6_wall_9 : decode cX6_wall 9 = .ok (.aload_n 0, 1) := by decide +kernel
theorem dX6_wall_10 : decode cX6_wall 10 = .ok (.getfield 7, 3) := by decide +kernel
theorem dX6_wall_13 : decode cX6_wall 13 = .ok (.iconst 4, 1) := by decide +kernel
theorem dX6_wall_14 : decode cX6_wall 14 = .ok (.iload_n 1, 1) := by decide +kernel
theorem dX6_wall_15 : decode cX6_wall 15 = .ok (.iadd, 1) := by decide +kernel
theorem dX6_wall_16 : decode cX6_wall 16 = .ok (.iaload, 1) := by decide +kernel
theorem dX6_wall_17 : decode cX6_wall 17 = .ok (.goto 4, 3) := by decide +kernel
theorem dX6_wall_20 : decode cX6_wall 20 = .ok (.iconst (-1), 1) := by decide +kernel
theorem dX6_wall_21 : decode cX6_wall 21 = .ok (.ireturn, 1) := by decide +kernel
set_option maxRecDepth 20000 in
theorem ggX6_seat_X6_isSeat : GoodIn wsX6_seat wsX6_isSeat := goodIn_r _ [6, 1, 7, 8, 5, 9, 10, 11, 12, 13, 14, 15, 16, 17, 18, 19, 20, 21, 22, 23, 24, 25, 26, 27, 28, 29, 30, 31] (by decide +kernel) (by decide +kernel)
set_option maxRecDepth 20000 in
theorem gX6_seat_X6_isSeat : GoodIn wsX6_seat (wsV RX6 122 RX6 yX6_isSeat wsX6_isSeat) := goodIn_app (goodIn_of _ (by decide +kernel)) ggX6_seat_X6_isSeat
set_option maxRecDepth 20000 in
theorem ggX6_seat_X6_in : GoodIn wsX6_seat wsX6_in := goodIn_r _ [9] (by decide +kernel) (by decide +kernel)
set_option maxRecDepth 20000 in
theorem gX6_seat_X6_in : GoodIn wsX6_seat (va_wsS RX6 75 yX6_in wsX6_in) := goodIn_app (goodIn_of _ (by decide +kernel)) ggX6_seat_X6_in
theorem dX6_seat_0 : decode cX6_seat 0 = .ok (.aload_n 0, 1) := by decide +kernel
theorem dX6_seat_1 : decode cX6_seat 1 = .ok (.iload_n 1, 1) := by decide +kernel
theorem dX6_seat_2 : decode cX6_seat 2 = .ok (.invokevirtual 122, 3) := by decide +kernel
theorem dX6_seat_5 : decode cX6_seat 5 = .ok (.ifCond .eq 12, 3) := by decide +kernel
theorem dX6_seat_8 : decode cX6_seat 8 = .ok (.iload_n 2, 1) := by decide +kernel
theorem dX6_seat_9 : decode cX6_seat 9 = .ok (.iconst 0, 1) := by decide +kernel
theorem dX6_seat_10 : decode cX6_seat 10 = .ok (.iconst 1, 1) := by decide +kernel
theorem dX6_seat_11 : decode cX6_seat 11 = .ok (.invokestatic 75, 3) := by decide +kernel
theorem dX6_seat_14 : decode cX6_seat 14 = .ok (.ifCond .ne 5, 3) := by decide +kernel
theorem dX6_seat_17 : decode cX6_seat 17 = .ok (.iconst (-1), 1) := by decide +kernel
theorem dX6_seat_18 : decode cX6_seat 18 = .ok (.ireturn, 1) := by decide +kernel
theorem dX6_seat_19 : decode cX6_seat 19 = .ok (.iload_n 2, 1) := by decide +kernel
theorem dX6_seat_20 : decode cX6_seat 20 = .ok (.ifCond .ne 15, 3) := by decide +kernel
theorem dX6_seat_23 : decode cX6_seat 23 = .ok (.aload_n 0, 1) := by decide +kernel
theorem dX6_seat_24 : decode cX6_seat 24 = .ok (.getfield 7, 3) := by decide +kernel
theorem dX6_seat_27 : decode cX6_seat 27 = .ok (.bipush 9, 2) := by decide +kernel
theorem dX6_seat_29 : decode cX6_seat 29 = .ok (.iload_n 1, 1) := by decide +kernel
theorem dX6_seat_30 : decode cX6_seat 30 = .ok (.iadd, 1) := by decide +kernel
theorem dX6_seat_31 : decode cX6_seat 31 = .ok (.iaload, 1) := by decide +kernel
theorem dX6_seat_32 : decode cX6_seat 32 = .ok (.goto 12, 3) := by decide +kernel
theorem dX6_seat_35 : decode cX6_seat 35 = .ok (.aload_n 0, 1) := by decide +kernel
theorem dX6_seat_36 : decode cX6_seat 36 = .ok (.getfield 7, 3) := by decide +kernel
theorem dX6_seat_39 : decode cX6_seat 39 = .ok (.bipush 13, 2) := by decide +kernel
theorem dX6_seat_41 : decode cX6_seat 41 = .ok (.iload_n 1, 1) := by decide +kernel
theorem dX6_seat_42 : decode cX6_seat 42 = .ok (.iadd, 1) := by decide +kernel
theorem dX6_seat_43 : decode cX6_seat 43 = .ok (.iaload, 1) := by decide +kernel
theorem dX6_seat_44 : decode cX6_seat 44 = .ok (.ireturn, 1) := by decide +kernel
set_option maxRecDepth 20000 in
theorem ggX6_curtain_X6_isCurtain : GoodIn wsX6_curtain wsX6_isCurtain := goodIn_r _ [6, 1, 7, 8, 5, 9, 10, 11, 12, 13, 14, 15, 16, 17, 18, 19, 20, 21, 22, 23, 24, 25, 26, 27, 28, 29, 30, 31] (by decide +kernel) (by decide +kernel)
set_option maxRecDepth 20000 in
theorem gX6_curtain_X6_isCurtain : GoodIn wsX6_curtain (wsV RX6 125 RX6 yX6_isCurtain wsX6_isCurtain) := goodIn_app (goodIn_of _ (by decide +kernel)) ggX6_curtain_X6_isCurtain
set_option maxRecDepth 20000 in
theorem ggX6_curtain_X6_in : GoodIn wsX6_curtain wsX6_in := goodIn_r _ [9] (by decide +kernel) (by decide +kernel)
set_option maxRecDepth 20000 in
theorem gX6_curtain_X6_in : GoodIn wsX6_curtain (va_wsS RX6 75 yX6_in wsX6_in) := goodIn_app (goodIn_of _ (by decide +kernel)) ggX6_curtain_X6_in
theorem dX6_curtain_0 : decode cX6_curtain 0 = .ok (.aload_n 0, 1) := by decide +kernel
theorem dX6_curtain_1 : decode cX6_curtain 1 = .ok (.iload_n 1, 1) := by decide +kernel
theorem dX6_curtain_2 : decode cX6_curtain 2 = .ok (.invokevirtual 125, 3) := by decide +kernel
theorem dX6_curtain_5 : decode cX6_curtain 5 = .ok (.ifCond .eq 12, 3) := by decide +kernel
theorem dX6_curtain_8 : decode cX6_curtain 8 = .ok (.iload_n 2, 1) := by decide +kernel
theorem dX6_curtain_9 : decode cX6_curtain 9 = .ok (.iconst 0, 1) := by decide +kernel
theorem dX6_curtain_10 : decode cX6_curtain 10 = .ok (.iconst 2, 1) := by decide +kernel
theorem dX6_curtain_11 : decode cX6_curtain 11 = .ok (.invokestatic 75, 3) := by decide +kernel
theorem dX6_curtain_14 : decode cX6_curtain 14 = .ok (.ifCond .ne 5, 3) := by decide +kernel
theorem dX6_curtain_17 : decode cX6_curtain 17 = .ok (.iconst (-1), 1) := by decide +kernel
theorem dX6_curtain_18 : decode cX6_curtain 18 = .ok (.ireturn, 1) := by decide +kernel
theorem dX6_curtain_19 : decode cX6_curtain 19 = .ok (.aload_n 0, 1) := by decide +kernel
theorem dX6_curtain_20 : decode cX6_curtain 20 = .ok (.getfield 7, 3) := by decide +kernel
theorem dX6_curtain_23 : decode cX6_curtain 23 = .ok (.bipush 18, 2) := by decide +kernel
theorem dX6_curtain_25 : decode cX6_curtain 25 = .ok (.iconst 3, 1) := by decide +kernel
theorem dX6_curtain_26 : decode cX6_curtain 26 = .ok (.iload_n 2, 1) := by decide +kernel
theorem dX6_curtain_27 : decode cX6_curtain 27 = .ok (.imul, 1) := by decide +kernel
theorem dX6_curtain_28 : decode cX6_curtain 28 = .ok (.iadd, 1) := by decide +kernel
theorem dX6_curtain_29 : decode cX6_curtain 29 = .ok (.iload_n 1, 1) := by decide +kernel
theorem dX6_curtain_30 : decode cX6_curtain 30 = .ok (.iadd, 1) := by decide +kernel
theorem dX6_curtain_31 : decode cX6_curtain 31 = .ok (.iaload, 1) := by decide +kernel
theorem dX6_curtain_32 : decode cX6_curtain 32 = .ok (.ireturn, 1) := by decide +kernel
theorem dX6_known_0 : decode cX6_known 0 = .ok (.aload_n 0, 1) := by decide +kernel
theorem dX6_known_1 : decode cX6_known 1 = .ok (.getfield 68, 3) := by decide +kernel
theorem dX6_known_4 : decode cX6_known 4 = .ok (.bipush 10, 2) := by decide +kernel
theorem dX6_known_6 : decode cX6_known 6 = .ok (.if_icmp .ne 41, 3) := by decide +kernel
theorem dX6_known_9 : decode cX6_known 9 = .ok (.iconst 0, 1) := by decide +kernel
theorem dX6_known_10 : decode cX6_known 10 = .ok (.istore_n 3, 1) := by decide +kernel
theorem dX6_known_11 : decode cX6_known 11 = .ok (.iload_n 3, 1) := by decide +kernel
theorem dX6_known_12 : decode cX6_known 12 = .ok (.bipush 36, 2) := by decide +kernel
end
section
theorem dX6_known_14 : decode cX6_known 14 = .ok (.if_icmp .ge 23, 3) := by decide +kernel
theorem dX6_known_17 : decode cX6_known 17 = .ok (.aload_n 0, 1) := by decide +kernel
theorem dX6_known_18 : decode cX6_known 18 = .ok (.getfield 23, 3) := by decide +kernel
theorem dX6_known_21 : decode cX6_known 21 = .ok (.iload_n 3, 1) := by decide +kernel
theorem dX6_known_22 : decode cX6_known 22 = .ok (.aload_n 0, 1) := by decide +kernel
theorem dX6_known_23 : decode cX6_known 23 = .ok (.getfield 23, 3) := by decide +kernel
theorem dX6_known_26 : decode cX6_known 26 = .ok (.iload_n 3, 1) := by decide +kernel
theorem dX6_known_27 : decode cX6_known 27 = .ok (.iconst 4, 1) := by decide +kernel
theorem dX6_known_28 : decode cX6_known 28 = .ok (.iadd, 1) := by decide +kernel
theorem dX6_known_29 : decode cX6_known 29 = .ok (.iaload, 1) := by decide +kernel
theorem dX6_known_30 : decode cX6_known 30 = .ok (.iastore, 1) := by decide +kernel
theorem dX6_known_31 : decode cX6_known 31 = .ok (.iinc 3 1, 3) := by decide +kernel
theorem dX6_known_34 : decode cX6_known 34 = .ok (.goto (-23), 3) := by decide +kernel
theorem dX6_known_37 : decode cX6_known 37 = .ok (.aload_n 0, 1) := by decide +kernel
theorem dX6_known_38 : decode cX6_known 38 = .ok (.dup, 1) := by decide +kernel
theorem dX6_known_39 : decode cX6_known 39 = .ok (.getfield 68, 3) := by decide +kernel
theorem dX6_known_42 : decode cX6_known 42 = .ok (.iconst 1, 1) := by decide +kernel
theorem dX6_known_43 : decode cX6_known 43 = .ok (.isub, 1) := by decide +kernel
theorem dX6_known_44 : decode cX6_known 44 = .ok (.putfield 68, 3) := by decide +kernel
theorem dX6_known_47 : decode cX6_known 47 = .ok (.aload_n 0, 1) := by decide +kernel
theorem dX6_known_48 : decode cX6_known 48 = .ok (.getfield 23, 3) := by decide +kernel
theorem dX6_known_51 : decode cX6_known 51 = .ok (.iconst 4, 1) := by decide +kernel
theorem dX6_known_52 : decode cX6_known 52 = .ok (.aload_n 0, 1) := by decide +kernel
theorem dX6_known_53 : decode cX6_known 53 = .ok (.getfield 68, 3) := by decide +kernel
theorem dX6_known_56 : decode cX6_known 56 = .ok (.imul, 1) := by decide +kernel
theorem dX6_known_57 : decode cX6_known 57 = .ok (.iload_n 1, 1) := by decide +kernel
theorem dX6_known_58 : decode cX6_known 58 = .ok (.iastore, 1) := by decide +kernel
theorem dX6_known_59 : decode cX6_known 59 = .ok (.aload_n 0, 1) := by decide +kernel
theorem dX6_known_60 : decode cX6_known 60 = .ok (.getfield 23, 3) := by decide +kernel
theorem dX6_known_63 : decode cX6_known 63 = .ok (.iconst 4, 1) := by decide +kernel
theorem dX6_known_64 : decode cX6_known 64 = .ok (.aload_n 0, 1) := by decide +kernel
theorem dX6_known_65 : decode cX6_known 65 = .ok (.getfield 68, 3) := by decide +kernel
theorem dX6_known_68 : decode cX6_known 68 = .ok (.imul, 1) := by decide +kernel
theorem dX6_known_69 : decode cX6_known 69 = .ok (.iconst 1, 1) := by decide +kernel
theorem dX6_known_70 : decode cX6_known 70 = .ok (.iadd, 1) := by decide +kernel
theorem dX6_known_71 : decode cX6_known 71 = .ok (.aload_n 0, 1) := by decide +kernel
theorem dX6_known_72 : decode cX6_known 72 = .ok (.getfield 7, 3) := by decide +kernel
theorem dX6_known_75 : decode cX6_known 75 = .ok (.iload_n 1, 1) := by decide +kernel
theorem dX6_known_76 : decode cX6_known 76 = .ok (.iaload, 1) := by decide +kernel
theorem dX6_known_77 : decode cX6_known 77 = .ok (.iastore, 1) := by decide +kernel
theorem dX6_known_78 : decode cX6_known 78 = .ok (.aload_n 0, 1) := by decide +kernel
theorem dX6_known_79 : decode cX6_known 79 = .ok (.getfield 23, 3) := by decide +kernel
theorem dX6_known_82 : decode cX6_known 82 = .ok (.iconst 4, 1) := by decide +kernel
theorem dX6_known_83 : decode cX6_known 83 = .ok (.aload_n 0, 1) := by decide +kernel
theorem dX6_known_84 : decode cX6_known 84 = .ok (.getfield 68, 3) := by decide +kernel
theorem dX6_known_87 : decode cX6_known 87 = .ok (.imul, 1) := by decide +kernel
theorem dX6_known_88 : decode cX6_known 88 = .ok (.iconst 2, 1) := by decide +kernel
theorem dX6_known_89 : decode cX6_known 89 = .ok (.iadd, 1) := by decide +kernel
theorem dX6_known_90 : decode cX6_known 90 = .ok (.iload_n 2, 1) := by decide +kernel
theorem dX6_known_91 : decode cX6_known 91 = .ok (.iastore, 1) := by decide +kernel
theorem dX6_known_92 : decode cX6_known 92 = .ok (.aload_n 0, 1) := by decide +kernel
theorem dX6_known_93 : decode cX6_known 93 = .ok (.getfield 23, 3) := by decide +kernel
theorem dX6_known_96 : decode cX6_known 96 = .ok (.iconst 4, 1) := by decide +kernel
theorem dX6_known_97 : decode cX6_known 97 = .ok (.aload_n 0, 1) := by decide +kernel
theorem dX6_known_98 : decode cX6_known 98 = .ok (.getfield 68, 3) := by decide +kernel
theorem dX6_known_101 : decode cX6_known 101 = .ok (.imul, 1) := by decide +kernel
theorem dX6_known_102 : decode cX6_known 102 = .ok (.iconst 3, 1) := by decide +kernel
theorem dX6_known_103 : decode cX6_known 103 = .ok (.iadd, 1) := by decide +kernel
theorem dX6_known_104 : decode cX6_known 104 = .ok (.aload_n 0, 1) := by decide +kernel
theorem dX6_known_105 : decode cX6_known 105 = .ok (.getfield 7, 3) := by decide +kernel
theorem dX6_known_108 : decode cX6_known 108 = .ok (.iload_n 2, 1) := by decide +kernel
theorem dX6_known_109 : decode cX6_known 109 = .ok (.iaload, 1) := by decide +kernel
theorem dX6_known_110 : decode cX6_known 110 = .ok (.iastore, 1) := by decide +kernel
theorem dX6_known_111 : decode cX6_known 111 = .ok (.aload_n 0, 1) := by decide +kernel
theorem dX6_known_112 : decode cX6_known 112 = .ok (.dup, 1) := by decide +kernel
theorem dX6_known_113 : decode cX6_known 113 = .ok (.getfield 68, 3) := by decide +kernel
theorem dX6_known_116 : decode cX6_known 116 = .ok (.iconst 1, 1) := by decide +kernel
theorem dX6_known_117 : decode cX6_known 117 = .ok (.iadd, 1) := by decide +kernel
theorem dX6_known_118 : decode cX6_known 118 = .ok (.putfield 68, 3) := by decide +kernel
theorem dX6_known_121 : decode cX6_known 121 = .ok (.return_, 1) := by decide +kernel
set_option maxRecDepth 20000 in
theorem ggX6_pads_X6_in : GoodIn wsX6_pads wsX6_in := goodIn_r _ [5] (by decide +kernel) (by decide +kernel)
set_option maxRecDepth 20000 in
theorem gX6_pads_X6_in : GoodIn wsX6_pads (va_wsS RX6 75 yX6_in wsX6_in) := goodIn_app (goodIn_of _ (by decide +kernel)) ggX6_pads_X6_in
set_option maxRecDepth 20000 in
theorem ggX6_pads_X6_known : GoodIn wsX6_pads wsX6_known := goodIn_r _ [9, 10, 11, 1, 12, 13, 14, 15, 16, 17, 18, 19, 20, 21, 22, 23, 24, 25, 26, 27, 28, 29, 30, 31, 32, 33] (by decide +kernel) (by decide +kernel)
set_option maxRecDepth 20000 in
theorem gX6_pads_X6_known : GoodIn wsX6_pads (wsV RX6 128 RX6 yX6_known wsX6_known) := goodIn_app (goodIn_of _ (by decide +kernel)) ggX6_pads_X6_known
theorem dX6_pads_0 : decode cX6_pads 0 = .ok (.iload_n 1, 1) := by decide +kernel
theorem dX6_pads_1 : decode cX6_pads 1 = .ok (.iconst 0, 1) := by decide +kernel
theorem dX6_pads_2 : decode cX6_pads 2 = .ok (.iconst 3, 1) := by decide +kernel
theorem dX6_pads_3 : decode cX6_pads 3 = .ok (.invokestatic 75, 3) := by decide +kernel
theorem dX6_pads_6 : decode cX6_pads 6 = .ok (.ifCond .eq 13, 3) := by decide +kernel
theorem dX6_pads_9 : decode cX6_pads 9 = .ok (.iload_n 2, 1) := by decide +kernel
theorem dX6_pads_10 : decode cX6_pads 10 = .ok (.iconst 0, 1) := by decide +kernel
theorem dX6_pads_11 : decode cX6_pads 11 = .ok (.bipush 10, 2) := by decide +kernel
theorem dX6_pads_13 : decode cX6_pads 13 = .ok (.invokestatic 75, 3) := by decide +kernel
theorem dX6_pads_16 : decode cX6_pads 16 = .ok (.ifCond .ne 5, 3) := by decide +kernel
theorem dX6_pads_19 : decode cX6_pads 19 = .ok (.iconst (-1), 1) := by decide +kernel
theorem dX6_pads_20 : decode cX6_pads 20 = .ok (.ireturn, 1) := by decide +kernel
theorem dX6_pads_21 : decode cX6_pads 21 = .ok (.aload_n 0, 1) := by decide +kernel
theorem dX6_pads_22 : decode cX6_pads 22 = .ok (.getfield 7, 3) := by decide +kernel
theorem dX6_pads_25 : decode cX6_pads 25 = .ok (.iconst 4, 1) := by decide +kernel
theorem dX6_pads_26 : decode cX6_pads 26 = .ok (.iload_n 1, 1) := by decide +kernel
theorem dX6_pads_27 : decode cX6_pads 27 = .ok (.iadd, 1) := by decide +kernel
theorem dX6_pads_28 : decode cX6_pads 28 = .ok (.iaload, 1) := by decide +kernel
theorem dX6_pads_29 : decode cX6_pads 29 = .ok (.istore_n 3, 1) := by decide +kernel
theorem dX6_pads_30 : decode cX6_pads 30 = .ok (.iload_n 3, 1) := by decide +kernel
theorem dX6_pads_31 : decode cX6_pads 31 = .ok (.iload_n 2, 1) := by decide +kernel
theorem dX6_pads_32 : decode cX6_pads 32 = .ok (.if_icmp .ne 6, 3) := by decide +kernel
theorem dX6_pads_35 : decode cX6_pads 35 = .ok (.bipush (-2), 2) := by decide +kernel
theorem dX6_pads_37 : decode cX6_pads 37 = .ok (.ireturn, 1) := by decide +kernel
theorem dX6_pads_38 : decode cX6_pads 38 = .ok (.aload_n 0, 1) := by decide +kernel
theorem dX6_pads_39 : decode cX6_pads 39 = .ok (.iconst 4, 1) := by decide +kernel
theorem dX6_pads_40 : decode cX6_pads 40 = .ok (.iload_n 1, 1) := by decide +kernel
theorem dX6_pads_41 : decode cX6_pads 41 = .ok (.iadd, 1) := by decide +kernel
theorem dX6_pads_42 : decode cX6_pads 42 = .ok (.iconst 4, 1) := by decide +kernel
theorem dX6_pads_43 : decode cX6_pads 43 = .ok (.iload_n 1, 1) := by decide +kernel
theorem dX6_pads_44 : decode cX6_pads 44 = .ok (.iadd, 1) := by decide +kernel
theorem dX6_pads_45 : decode cX6_pads 45 = .ok (.invokevirtual 128, 3) := by decide +kernel
theorem dX6_pads_48 : decode cX6_pads 48 = .ok (.aload_n 0, 1) := by decide +kernel
theorem dX6_pads_49 : decode cX6_pads 49 = .ok (.getfield 7, 3) := by decide +kernel
theorem dX6_pads_52 : decode cX6_pads 52 = .ok (.iconst 4, 1) := by decide +kernel
theorem dX6_pads_53 : decode cX6_pads 53 = .ok (.iload_n 1, 1) := by decide +kernel
theorem dX6_pads_54 : decode cX6_pads 54 = .ok (.iadd, 1) := by decide +kernel
theorem dX6_pads_55 : decode cX6_pads 55 = .ok (.iload_n 2, 1) := by decide +kernel
theorem dX6_pads_56 : decode cX6_pads 56 = .ok (.iastore, 1) := by decide +kernel
theorem dX6_pads_57 : decode cX6_pads 57 = .ok (.iload_n 3, 1) := by decide +kernel
theorem dX6_pads_58 : decode cX6_pads 58 = .ok (.ireturn, 1) := by decide +kernel
set_option maxRecDepth 20000 in
theorem ggX6_draws_X6_isCurtain : GoodIn wsX6_draws wsX6_isCurtain := goodIn_r _ [6, 1, 7, 8, 5, 9, 16, 17, 18, 19, 20, 21, 22, 23, 24, 25, 26, 27, 28, 29, 30, 31, 32, 33, 34, 35, 36, 37] (by decide +kernel) (by decide +kernel)
set_option maxRecDepth 20000 in
theorem gX6_draws_X6_isCurtain : GoodIn wsX6_draws (wsV RX6 125 RX6 yX6_isCurtain wsX6_isCurtain) := goodIn_app (goodIn_of _ (by decide +kernel)) ggX6_draws_X6_isCurtain
set_option maxRecDepth 20000 in
theorem ggX6_draws_X6_in : GoodIn wsX6_draws wsX6_in := goodIn_r _ [9] (by decide +kernel) (by decide +kernel)
set_option maxRecDepth 20000 in
theorem gX6_draws_X6_in : GoodIn wsX6_draws (va_wsS RX6 75 yX6_in wsX6_in) := goodIn_app (goodIn_of _ (by decide +kernel)) ggX6_draws_X6_in
set_option maxRecDepth 20000 in
theorem ggX6_draws_X6_known : GoodIn wsX6_draws wsX6_known := goodIn_r _ [13, 14, 15, 1, 16, 17, 18, 19, 20, 21, 22, 23, 24, 25, 26, 27, 28, 29, 30, 31, 32, 33, 34, 35, 36, 37] (by decide +kernel) (by decide +kernel)
set_option maxRecDepth 20000 in
theorem gX6_draws_X6_known : GoodIn wsX6_draws (wsV RX6 128 RX6 yX6_known wsX6_known) := goodIn_app (goodIn_of _ (by decide +kernel)) ggX6_draws_X6_known
theorem dX6_draws_0 : decode cX6_draws 0 = .ok (.aload_n 0, 1) := by decide +kernel
theorem dX6_draws_1 : decode cX6_draws 1 = .ok (.iload_n 1, 1) := by decide +kernel
theorem dX6_draws_2 : decode cX6_draws 2 = .ok (.invokevirtual 125, 3) := by decide +kernel
theorem dX6_draws_5 : decode cX6_draws 5 = .ok (.ifCond .eq 31, 3) := by decide +kernel
theorem dX6_draws_8 : decode cX6_draws 8 = .ok (.iload_n 2, 1) := by decide +kernel
theorem dX6_draws_9 : decode cX6_draws 9 = .ok (.iconst 0, 1) := by decide +kernel
theorem dX6_draws_10 : decode cX6_draws 10 = .ok (.aload_n 0, 1) := by decide +kernel
theorem dX6_draws_11 : decode cX6_draws 11 = .ok (.getfield 7, 3) := by decide +kernel
theorem dX6_draws_14 : decode cX6_draws 14 = .ok (.iconst 1, 1) := by decide +kernel
theorem dX6_draws_15 : decode cX6_draws 15 = .ok (.iaload, 1) := by decide +kernel
theorem dX6_draws_16 : decode cX6_draws 16 = .ok (.invokestatic 75, 3) := by decide +kernel
theorem dX6_draws_19 : decode cX6_draws 19 = .ok (.ifCond .eq 17, 3) := by decide +kernel
theorem dX6_draws_22 : decode cX6_draws 22 = .ok (.iload_n 3, 1) := by decide +kernel
theorem dX6_draws_23 : decode cX6_draws 23 = .ok (.iload_n 2, 1) := by decide +kernel
theorem dX6_draws_24 : decode cX6_draws 24 = .ok (.aload_n 0, 1) := by decide +kernel
theorem dX6_draws_25 : decode cX6_draws 25 = .ok (.getfield 7, 3) := by decide +kernel
theorem dX6_draws_28 : decode cX6_draws 28 = .ok (.iconst 1, 1) := by decide +kernel
theorem dX6_draws_29 : decode cX6_draws 29 = .ok (.iaload, 1) := by decide +kernel
theorem dX6_draws_30 : decode cX6_draws 30 = .ok (.invokestatic 75, 3) := by decide +kernel
theorem dX6_draws_33 : decode cX6_draws 33 = .ok (.ifCond .ne 5, 3) := by decide +kernel
theorem dX6_draws_36 : decode cX6_draws 36 = .ok (.iconst (-1), 1) := by decide +kernel
theorem dX6_draws_37 : decode cX6_draws 37 = .ok (.ireturn, 1) := by decide +kernel
theorem dX6_draws_38 : decode cX6_draws 38 = .ok (.bipush 100, 2) := by decide +kernel
theorem dX6_draws_40 : decode cX6_draws 40 = .ok (.aload_n 0, 1) := by decide +kernel
theorem dX6_draws_41 : decode cX6_draws 41 = .ok (.getfield 7, 3) := by decide +kernel
theorem dX6_draws_44 : decode cX6_draws 44 = .ok (.bipush 21, 2) := by decide +kernel
theorem dX6_draws_46 : decode cX6_draws 46 = .ok (.iload_n 1, 1) := by decide +kernel
theorem dX6_draws_47 : decode cX6_draws 47 = .ok (.iadd, 1) := by decide +kernel
theorem dX6_draws_48 : decode cX6_draws 48 = .ok (.iaload, 1) := by decide +kernel
theorem dX6_draws_49 : decode cX6_draws 49 = .ok (.imul, 1) := by decide +kernel
theorem dX6_draws_50 : decode cX6_draws 50 = .ok (.aload_n 0, 1) := by decide +kernel
theorem dX6_draws_51 : decode cX6_draws 51 = .ok (.getfield 7, 3) := by decide +kernel
theorem dX6_draws_54 : decode cX6_draws 54 = .ok (.bipush 24, 2) := by decide +kernel
theorem dX6_draws_56 : decode cX6_draws 56 = .ok (.iload_n 1, 1) := by decide +kernel
theorem dX6_draws_57 : decode cX6_draws 57 = .ok (.iadd, 1) := by decide +kernel
theorem dX6_draws_58 : decode cX6_draws 58 = .ok (.iaload, 1) := by decide +kernel
theorem dX6_draws_59 : decode cX6_draws 59 = .ok (.iadd, 1) := by decide +kernel
theorem dX6_draws_60 : decode cX6_draws 60 = .ok (.istore 4, 2) := by decide +kernel
theorem dX6_draws_62 : decode cX6_draws 62 = .ok (.iload 4, 2) := by decide +kernel
theorem dX6_draws_64 : decode cX6_draws 64 = .ok (.bipush 100, 2) := by decide +kernel
theorem dX6_draws_66 : decode cX6_draws 66 = .ok (.iload_n 2, 1) := by decide +kernel
theorem dX6_draws_67 : decode cX6_draws 67 = .ok (.imul, 1) := by decide +kernel
theorem dX6_draws_68 : decode cX6_draws 68 = .ok (.iload_n 3, 1) := by decide +kernel
theorem dX6_draws_69 : decode cX6_draws 69 = .ok (.iadd, 1) := by decide +kernel
theorem dX6_draws_70 : decode cX6_draws 70 = .ok (.if_icmp .ne 6, 3) := by decide +kernel
theorem dX6_draws_73 : decode cX6_draws 73 = .ok (.bipush (-2), 2) := by decide +kernel
theorem dX6_draws_75 : decode cX6_draws 75 = .ok (.ireturn, 1) := by decide +kernel
theorem dX6_draws_76 : decode cX6_draws 76 = .ok (.aload_n 0, 1) := by decide +kernel
theorem dX6_draws_77 : decode cX6_draws 77 = .ok (.bipush 21, 2) := by decide +kernel
theorem dX6_draws_79 : decode cX6_draws 79 = .ok (.iload_n 1, 1) := by decide +kernel
theorem dX6_draws_80 : decode cX6_draws 80 = .ok (.iadd, 1) := by decide +kernel
theorem dX6_draws_81 : decode cX6_draws 81 = .ok (.bipush 24, 2) := by decide +kernel
theorem dX6_draws_83 : decode cX6_draws 83 = .ok (.iload_n 1, 1) := by decide +kernel
theorem dX6_draws_84 : decode cX6_draws 84 = .ok (.iadd, 1) := by decide +kernel
theorem dX6_draws_85 : decode cX6_draws 85 = .ok (.invokevirtual 128, 3) := by decide +kernel
theorem dX6_draws_88 : decode cX6_draws 88 = .ok (.aload_n 0, 1) := by decide +kernel
theorem dX6_draws_89 : decode cX6_draws 89 = .ok (.getfield 7, 3) := by decide +kernel
theorem dX6_draws_92 : decode cX6_draws 92 = .ok (.bipush 21, 2) := by decide +kernel
theorem dX6_draws_94 : decode cX6_draws 94 = .ok (.iload_n 1, 1) := by decide +kernel
theorem dX6_draws_95 : decode cX6_draws 95 = .ok (.iadd, 1) := by decide +kernel
theorem dX6_draws_96 : decode cX6_draws 96 = .ok (.iload_n 2, 1) := by decide +kernel
theorem dX6_draws_97 : decode cX6_draws 97 = .ok (.iastore, 1) := by decide +kernel
theorem dX6_draws_98 : decode cX6_draws 98 = .ok (.aload_n 0, 1) := by decide +kernel
theorem dX6_draws_99 : decode cX6_draws 99 = .ok (.getfield 7, 3) := by decide +kernel
theorem dX6_draws_102 : decode cX6_draws 102 = .ok (.bipush 24, 2) := by decide +kernel
theorem dX6_draws_104 : decode cX6_draws 104 = .ok (.iload_n 1, 1) := by decide +kernel
theorem dX6_draws_105 : decode cX6_draws 105 = .ok (.iadd, 1) := by decide +kernel
theorem dX6_draws_106 : decode cX6_draws 106 = .ok (.iload_n 3, 1) := by decide +kernel
theorem dX6_draws_107 : decode cX6_draws 107 = .ok (.iastore, 1) := by decide +kernel
theorem dX6_draws_108 : decode cX6_draws 108 = .ok (.iload 4, 2) := by decide +kernel
theorem dX6_draws_110 : decode cX6_draws 110 = .ok (.ireturn, 1) := by decide +kernel
theorem dX6_sourceAt_0 : decode cX6_sourceAt 0 = .ok (.bipush 100, 2) := by decide +kernel
theorem dX6_sourceAt_2 : decode cX6_sourceAt 2 = .ok (.aload_n 0, 1) := by decide +kernel
theorem dX6_sourceAt_3 : decode cX6_sourceAt 3 = .ok (.getfield 7, 3) := by decide +kernel
theorem dX6_sourceAt_6 : decode cX6_sourceAt 6 = .ok (.iconst 2, 1) := by decide +kernel
theorem dX6_sourceAt_7 : decode cX6_sourceAt 7 = .ok (.iaload, 1) := by decide +kernel
theorem dX6_sourceAt_8 : decode cX6_sourceAt 8 = .ok (.imul, 1) := by decide +kernel
theorem dX6_sourceAt_9 : decode cX6_sourceAt 9 = .ok (.aload_n 0, 1) := by decide +kernel
theorem dX6_sourceAt_10 : decode cX6_sourceAt 10 = .ok (.getfield 7, 3) := by decide +kernel
theorem dX6_sourceAt_13 : decode cX6_sourceAt 13 = .ok (.iconst 3, 1) := by decide +kernel
theorem dX6_sourceAt_14 : decode cX6_sourceAt 14 = .ok (.iaload, 1) := by decide +kernel
theorem dX6_sourceAt_15 : decode cX6_sourceAt 15 = .ok (.iadd, 1) := by decide +kernel
theorem dX6_sourceAt_16 : decode cX6_sourceAt 16 = .ok (.ireturn, 1) := by decide +kernel
set_option maxRecDepth 20000 in
theorem ggX6_moves_X6_isWithin : GoodIn wsX6_moves wsX6_isWithin := goodIn_r _ [6, 1, 7, 8, 5, 9, 20, 21, 22, 23, 24, 25, 26, 27, 28, 29, 30, 31, 32, 33, 34, 35, 36, 37, 38, 39, 40, 41] (by decide +kernel) (by decide +kernel)
set_option maxRecDepth 20000 in
theorem gX6_moves_X6_isWithin : GoodIn wsX6_moves (wsV RX6 131 RX6 yX6_isWithin wsX6_isWithin) := goodIn_app (goodIn_of _ (by decide +kernel)) ggX6_moves_X6_isWithin
set_option maxRecDepth 20000 in
theorem ggX6_moves_X6_sourceAt : GoodIn wsX6_moves wsX6_sourceAt := goodIn_r _ [13, 1, 20, 21, 22, 23, 24, 25, 26, 27, 28, 29, 30, 31, 32, 33, 34, 35, 36, 37, 38, 39, 40, 41] (by decide +kernel) (by decide +kernel)
set_option maxRecDepth 20000 in
theorem gX6_moves_X6_sourceAt : GoodIn wsX6_moves (wsV RX6 134 RX6 yX6_sourceAt wsX6_sourceAt) := goodIn_app (goodIn_of _ (by decide +kernel)) ggX6_moves_X6_sourceAt
set_option maxRecDepth 20000 in
theorem ggX6_moves_X6_known : GoodIn wsX6_moves wsX6_known := goodIn_r _ [17, 18, 19, 1, 20, 21, 22, 23, 24, 25, 26, 27, 28, 29, 30, 31, 32, 33, 34, 35, 36, 37, 38, 39, 40, 41] (by decide +kernel) (by decide +kernel)
set_option maxRecDepth 20000 in
theorem gX6_moves_X6_known : GoodIn wsX6_moves (wsV RX6 128 RX6 yX6_known wsX6_known) := goodIn_app (goodIn_of _ (by decide +kernel)) ggX6_moves_X6_known
theorem dX6_moves_0 : decode cX6_moves 0 = .ok (.aload_n 0, 1) := by decide +kernel
theorem dX6_moves_1 : decode cX6_moves 1 = .ok (.iload_n 1, 1) := by decide +kernel
theorem dX6_moves_2 : decode cX6_moves 2 = .ok (.iload_n 2, 1) := by decide +kernel
theorem dX6_moves_3 : decode cX6_moves 3 = .ok (.invokevirtual 131, 3) := by decide +kernel
theorem dX6_moves_6 : decode cX6_moves 6 = .ok (.ifCond .ne 5, 3) := by decide +kernel
theorem dX6_moves_9 : decode cX6_moves 9 = .ok (.iconst (-1), 1) := by decide +kernel
theorem dX6_moves_10 : decode cX6_moves 10 = .ok (.ireturn, 1) := by decide +kernel
theorem dX6_moves_11 : decode cX6_moves 11 = .ok (.aload_n 0, 1) := by decide +kernel
theorem dX6_moves_12 : decode cX6_moves 12 = .ok (.invokevirtual 134, 3) := by decide +kernel
theorem dX6_moves_15 : decode cX6_moves 15 = .ok (.istore_n 3, 1) := by decide +kernel
theorem dX6_moves_16 : decode cX6_moves 16 = .ok (.iload_n 3, 1) := by decide +kernel
theorem dX6_moves_17 : decode cX6_moves 17 = .ok (.bipush 100, 2) := by decide +kernel
theorem dX6_moves_19 : decode cX6_moves 19 = .ok (.iload_n 1, 1) := by decide +kernel
theorem dX6_moves_20 : decode cX6_moves 20 = .ok (.imul, 1) := by decide +kernel
theorem dX6_moves_21 : decode cX6_moves 21 = .ok (.iload_n 2, 1) := by decide +kernel
theorem dX6_moves_22 : decode cX6_moves 22 = .ok (.iadd, 1) := by decide +kernel
theorem dX6_moves_23 : decode cX6_moves 23 = .ok (.if_icmp .ne 6, 3) := by decide +kernel
theorem dX6_moves_26 : decode cX6_moves 26 = .ok (.bipush (-2), 2) := by decide +kernel
theorem dX6_moves_28 : decode cX6_moves 28 = .ok (.ireturn, 1) := by decide +kernel
theorem dX6_moves_29 : decode cX6_moves 29 = .ok (.aload_n 0, 1) := by decide +kernel
theorem dX6_moves_30 : decode cX6_moves 30 = .ok (.iconst 2, 1) := by decide +kernel
theorem dX6_moves_31 : decode cX6_moves 31 = .ok (.iconst 3, 1) := by decide +kernel
theorem dX6_moves_32 : decode cX6_moves 32 = .ok (.invokevirtual 128, 3) := by decide +kernel
theorem dX6_moves_35 : decode cX6_moves 35 = .ok (.aload_n 0, 1) := by decide +kernel
theorem dX6_moves_36 : decode cX6_moves 36 = .ok (.getfield 7, 3) := by decide +kernel
theorem dX6_moves_39 : decode cX6_moves 39 = .ok (.iconst 2, 1) := by decide +kernel
theorem dX6_moves_40 : decode cX6_moves 40 = .ok (.iload_n 1, 1) := by decide +kernel
theorem dX6_moves_41 : decode cX6_moves 41 = .ok (.iastore, 1) := by decide +kernel
theorem dX6_moves_42 : decode cX6_moves 42 = .ok (.aload_n 0, 1) := by decide +kernel
theorem dX6_moves_43 : decode cX6_moves 43 = .ok (.getfield 7, 3) := by decide +kernel
theorem dX6_moves_46 : decode cX6_moves 46 = .ok (.iconst 3, 1) := by decide +kernel
theorem dX6_moves_47 : decode cX6_moves 47 = .ok (.iload_n 2, 1) := by decide +kernel
theorem dX6_moves_48 : decode cX6_moves 48 = .ok (.iastore, 1) := by decide +kernel
theorem dX6_moves_49 : decode cX6_moves 49 = .ok (.iload_n 3, 1) := by decide +kernel
theorem dX6_moves_50 : decode cX6_moves 50 = .ok (.ireturn, 1) := by decide +kernel
theorem dX6_undo_0 : decode cX6_undo 0 = .ok (.aload_n 0, 1) := by decide +kernel
theorem dX6_undo_1 : decode cX6_undo 1 = .ok (.getfield 68, 3) := by decide +kernel
theorem dX6_undo_4 : decode cX6_undo 4 = .ok (.ifCond .ne 6, 3) := by decide +kernel
theorem dX6_undo_7 : decode cX6_undo 7 = .ok (.bipush (-2), 2) := by decide +kernel
theorem dX6_undo_9 : decode cX6_undo 9 = .ok (.ireturn, 1) := by decide +kernel
theorem dX6_undo_10 : decode cX6_undo 10 = .ok (.aload_n 0, 1) := by decide +kernel
theorem dX6_undo_11 : decode cX6_undo 11 = .ok (.dup, 1) := by decide +kernel
theorem dX6_undo_12 : decode cX6_undo 12 = .ok (.getfield 68, 3) := by decide +kernel
theorem dX6_undo_15 : decode cX6_undo 15 = .ok (.iconst 1, 1) := by decide +kernel
theorem dX6_undo_16 : decode cX6_undo 16 = .ok (.isub, 1) := by decide +kernel
theorem dX6_undo_17 : decode cX6_undo 17 = .ok (.putfield 68, 3) := by decide +kernel
theorem dX6_undo_20 : decode cX6_undo 20 = .ok (.aload_n 0, 1) := by decide +kernel
theorem dX6_undo_21 : decode cX6_undo 21 = .ok (.getfield 7, 3) := by decide +kernel
theorem dX6_undo_24 : decode cX6_undo 24 = .ok (.aload_n 0, 1) := by decide +kernel
theorem dX6_undo_25 : decode cX6_undo 25 = .ok (.getfield 23, 3) := by decide +kernel
theorem dX6_undo_28 : decode cX6_undo 28 = .ok (.iconst 4, 1) := by decide +kernel
theorem dX6_undo_29 : decode cX6_undo 29 = .ok (.aload_n 0, 1) := by decide +kernel
theorem dX6_undo_30 : decode cX6_undo 30 = .ok (.getfield 68, 3) := by decide +kernel
theorem dX6_undo_33 : decode cX6_undo 33 = .ok (.imul, 1) := by decide +kernel
theorem dX6_undo_34 : decode cX6_undo 34 = .ok (.iaload, 1) := by decide +kernel
theorem dX6_undo_35 : decode cX6_undo 35 = .ok (.aload_n 0, 1) := by decide +kernel
theorem dX6_undo_36 : decode cX6_undo 36 = .ok (.getfield 23, 3) := by decide +kernel
theorem dX6_undo_39 : decode cX6_undo 39 = .ok (.iconst 4, 1) := by decide +kernel
theorem dX6_undo_40 : decode cX6_undo 40 = .ok (.aload_n 0, 1) := by decide +kernel
theorem dX6_undo_41 : decode cX6_undo 41 = .ok (.getfield 68, 3) := by decide +kernel
theorem dX6_undo_44 : decode cX6_undo 44 = .ok (.imul, 1) := by decide +kernel
theorem dX6_undo_45 : decode cX6_undo 45 = .ok (.iconst 1, 1) := by decide +kernel
theorem dX6_undo_46 : decode cX6_undo 46 = .ok (.iadd, 1) := by decide +kernel
theorem dX6_undo_47 : decode cX6_undo 47 = .ok (.iaload, 1) := by decide +kernel
theorem dX6_undo_48 : decode cX6_undo 48 = .ok (.iastore, 1) := by decide +kernel
theorem dX6_undo_49 : decode cX6_undo 49 = .ok (.aload_n 0, 1) := by decide +kernel
theorem dX6_undo_50 : decode cX6_undo 50 = .ok (.getfield 7, 3) := by decide +kernel
theorem dX6_undo_53 : decode cX6_undo 53 = .ok (.aload_n 0, 1) := by decide +kernel
theorem dX6_undo_54 : decode cX6_undo 54 = .ok (.getfield 23, 3) := by decide +kernel
theorem dX6_undo_57 : decode cX6_undo 57 = .ok (.iconst 4, 1) := by decide +kernel
theorem dX6_undo_58 : decode cX6_undo 58 = .ok (.aload_n 0, 1) := by decide +kernel
theorem dX6_undo_59 : decode cX6_undo 59 = .ok (.getfield 68, 3) := by decide +kernel
theorem dX6_undo_62 : decode cX6_undo 62 = .ok (.imul, 1) := by decide +kernel
theorem dX6_undo_63 : decode cX6_undo 63 = .ok (.iconst 2, 1) := by decide +kernel
theorem dX6_undo_64 : decode cX6_undo 64 = .ok (.iadd, 1) := by decide +kernel
theorem dX6_undo_65 : decode cX6_undo 65 = .ok (.iaload, 1) := by decide +kernel
theorem dX6_undo_66 : decode cX6_undo 66 = .ok (.aload_n 0, 1) := by decide +kernel
theorem dX6_undo_67 : decode cX6_undo 67 = .ok (.getfield 23, 3) := by decide +kernel
theorem dX6_undo_70 : decode cX6_undo 70 = .ok (.iconst 4, 1) := by decide +kernel
theorem dX6_undo_71 : decode cX6_undo 71 = .ok (.aload_n 0, 1) := by decide +kernel
theorem dX6_undo_72 : decode cX6_undo 72 = .ok (.getfield 68, 3) := by decide +kernel
theorem dX6_undo_75 : decode cX6_undo 75 = .ok (.imul, 1) := by decide +kernel
theorem dX6_undo_76 : decode cX6_undo 76 = .ok (.iconst 3, 1) := by decide +kernel
theorem dX6_undo_77 : decode cX6_undo 77 = .ok (.iadd, 1) := by decide +kernel
theorem dX6_undo_78 : decode cX6_undo 78 = .ok (.iaload, 1) := by decide +kernel
theorem dX6_undo_79 : decode cX6_undo 79 = .ok (.iastore, 1) := by decide +kernel
theorem dX6_undo_80 : decode cX6_undo 80 = .ok (.aload_n 0, 1) := by decide +kernel
theorem dX6_undo_81 : decode cX6_undo 81 = .ok (.getfield 68, 3) := by decide +kernel
theorem dX6_undo_84 : decode cX6_undo 84 = .ok (.ireturn, 1) := by decide +kernel
theorem dX6_mirrored_0 : decode cX6_mirrored 0 = .ok (.iload_n 0, 1) := by decide +kernel
theorem dX6_mirrored_1 : decode cX6_mirrored 1 = .ok (.iload_n 1, 1) := by decide +kernel
theorem dX6_mirrored_2 : decode cX6_mirrored 2 = .ok (.imul, 1) := by decide +kernel
theorem dX6_mirrored_3 : decode cX6_mirrored 3 = .ok (.iload_n 0, 1) := by decide +kernel
theorem dX6_mirrored_4 : decode cX6_mirrored 4 = .ok (.iconst 2, 1) := by decide +kernel
theorem dX6_mirrored_5 : decode cX6_mirrored 5 = .ok (.irem, 1) := by decide +kernel
theorem dX6_mirrored_6 : decode cX6_mirrored 6 = .ok (.ifCond .ne 7, 3) := by decide +kernel
theorem dX6_mirrored_9 : decode cX6_mirrored 9 = .ok (.iload_n 2, 1) := by decide +kernel
theorem dX6_mirrored_10 : decode cX6_mirrored 10 = .ok (.goto 6, 3) := by decide +kernel
theorem dX6_mirrored_13 : decode cX6_mirrored 13 = .ok (.iload_n 1, 1) := by decide +kernel
theorem dX6_mirrored_14 : decode cX6_mirrored 14 = .ok (.iload_n 2, 1) := by decide +kernel
theorem dX6_mirrored_15 : decode cX6_mirrored 15 = .ok (.isub, 1) := by decide +kernel
theorem dX6_mirrored_16 : decode cX6_mirrored 16 = .ok (.iadd, 1) := by decide +kernel
theorem dX6_mirrored_17 : decode cX6_mirrored 17 = .ok (.ireturn, 1) := by decide +kernel
set_option maxRecDepth 20000 in
theorem ggX6_times_X6_size : GoodIn wsX6_times wsX6_size := goodIn_r _ [4] (by decide +kernel) (by decide +kernel)
set_option maxRecDepth 20000 in
theorem gX6_times_X6_size : GoodIn wsX6_times (va_wsS RX6 79 yX6_size wsX6_size) := goodIn_app (goodIn_of _ (by decide +kernel)) ggX6_times_X6_size
theorem dX6_times_0 : decode cX6_times 0 = .ok (.iload_n 0, 1) := by decide +kernel
theorem dX6_times_1 : decode cX6_times 1 = .ok (.iconst 2, 1) := by decide +kernel
theorem dX6_times_2 : decode cX6_times 2 = .ok (.if_icmp .ge 7, 3) := by decide +kernel
theorem dX6_times_5 : decode cX6_times 5 = .ok (.iload_n 1, 1) := by decide +kernel
theorem dX6_times_6 : decode cX6_times 6 = .ok (.goto 4, 3) := by decide +kernel
theorem dX6_times_9 : decode cX6_times 9 = .ok (.iload_n 2, 1) := by decide +kernel
theorem dX6_times_10 : decode cX6_times 10 = .ok (.istore_n 3, 1) := by decide +kernel
theorem dX6_times_11 : decode cX6_times 11 = .ok (.iload_n 0, 1) := by decide +kernel
theorem dX6_times_12 : decode cX6_times 12 = .ok (.iconst 2, 1) := by decide +kernel
theorem dX6_times_13 : decode cX6_times 13 = .ok (.irem, 1) := by decide +kernel
theorem dX6_times_14 : decode cX6_times 14 = .ok (.ifCond .ne 7, 3) := by decide +kernel
theorem dX6_times_17 : decode cX6_times 17 = .ok (.iconst 1, 1) := by decide +kernel
theorem dX6_times_18 : decode cX6_times 18 = .ok (.goto 4, 3) := by decide +kernel
theorem dX6_times_21 : decode cX6_times 21 = .ok (.iconst 0, 1) := by decide +kernel
theorem dX6_times_22 : decode cX6_times 22 = .ok (.istore 4, 2) := by decide +kernel
theorem dX6_times_24 : decode cX6_times 24 = .ok (.iload_n 3, 1) := by decide +kernel
theorem dX6_times_25 : decode cX6_times 25 = .ok (.ifCond .le 7, 3) := by decide +kernel
theorem dX6_times_28 : decode cX6_times 28 = .ok (.iconst 1, 1) := by decide +kernel
theorem dX6_times_29 : decode cX6_times 29 = .ok (.goto 4, 3) := by decide +kernel
theorem dX6_times_32 : decode cX6_times 32 = .ok (.iconst 0, 1) := by decide +kernel
theorem dX6_times_33 : decode cX6_times 33 = .ok (.iload 4, 2) := by decide +kernel
theorem dX6_times_35 : decode cX6_times 35 = .ok (.if_icmp .ne 12, 3) := by decide +kernel
theorem dX6_times_38 : decode cX6_times 38 = .ok (.iload_n 3, 1) := by decide +kernel
theorem dX6_times_39 : decode cX6_times 39 = .ok (.invokestatic 79, 3) := by decide +kernel
theorem dX6_times_42 : decode cX6_times 42 = .ok (.iconst 2, 1) := by decide +kernel
theorem dX6_times_43 : decode cX6_times 43 = .ok (.idiv, 1) := by decide +kernel
theorem dX6_times_44 : decode cX6_times 44 = .ok (.goto 11, 3) := by decide +kernel
theorem dX6_times_47 : decode cX6_times 47 = .ok (.iload_n 3, 1) := by decide +kernel
theorem dX6_times_48 : decode cX6_times 48 = .ok (.invokestatic 79, 3) := by decide +kernel
theorem dX6_times_51 : decode cX6_times 51 = .ok (.iconst 1, 1) := by decide +kernel
theorem dX6_times_52 : decode cX6_times 52 = .ok (.iadd, 1) := by decide +kernel
theorem dX6_times_53 : decode cX6_times 53 = .ok (.iconst 2, 1) := by decide +kernel
theorem dX6_times_54 : decode cX6_times 54 = .ok (.idiv, 1) := by decide +kernel
theorem dX6_times_55 : decode cX6_times 55 = .ok (.ireturn, 1) := by decide +kernel
set_option maxRecDepth 20000 in
theorem ggX6_softTimes_X6_times : GoodIn wsX6_softTimes wsX6_times := goodIn_r _ [5, 6, 7, 4, 8] (by decide +kernel) (by decide +kernel)
set_option maxRecDepth 20000 in
theorem gX6_softTimes_X6_times : GoodIn wsX6_softTimes (va_wsS RX6 138 yX6_times wsX6_times) := goodIn_app (goodIn_of _ (by decide +kernel)) ggX6_softTimes_X6_times
theorem dX6_softTimes_0 : decode cX6_softTimes 0 = .ok (.iconst 0, 1) := by decide +kernel
theorem dX6_softTimes_1 : decode cX6_softTimes 1 = .ok (.istore_n 3, 1) := by decide +kernel
theorem dX6_softTimes_2 : decode cX6_softTimes 2 = .ok (.iconst 0, 1) := by decide +kernel
theorem dX6_softTimes_3 : decode cX6_softTimes 3 = .ok (.istore 4, 2) := by decide +kernel
theorem dX6_softTimes_5 : decode cX6_softTimes 5 = .ok (.iload 4, 2) := by decide +kernel
theorem dX6_softTimes_7 : decode cX6_softTimes 7 = .ok (.iconst 4, 1) := by decide +kernel
theorem dX6_softTimes_8 : decode cX6_softTimes 8 = .ok (.if_icmp .ge 35, 3) := by decide +kernel
theorem dX6_softTimes_11 : decode cX6_softTimes 11 = .ok (.iload_n 3, 1) := by decide +kernel
theorem dX6_softTimes_12 : decode cX6_softTimes 12 = .ok (.aload_n 0, 1) := by decide +kernel
theorem dX6_softTimes_13 : decode cX6_softTimes 13 = .ok (.getfield 7, 3) := by decide +kernel
theorem dX6_softTimes_16 : decode cX6_softTimes 16 = .ok (.iconst 4, 1) := by decide +kernel
theorem dX6_softTimes_17 : decode cX6_softTimes 17 = .ok (.iload 4, 2) := by decide +kernel
theorem dX6_softTimes_19 : decode cX6_softTimes 19 = .ok (.iadd, 1) := by decide +kernel
theorem dX6_softTimes_20 : decode cX6_softTimes 20 = .ok (.iaload, 1) := by decide +kernel
theorem dX6_softTimes_21 : decode cX6_softTimes 21 = .ok (.ifCond .le 13, 3) := by decide +kernel
theorem dX6_softTimes_24 : decode cX6_softTimes 24 = .ok (.iload 4, 2) := by decide +kernel
theorem dX6_softTimes_26 : decode cX6_softTimes 26 = .ok (.iload_n 1, 1) := by decide +kernel
theorem dX6_softTimes_27 : decode cX6_softTimes 27 = .ok (.iload_n 2, 1) := by decide +kernel
theorem dX6_softTimes_28 : decode cX6_softTimes 28 = .ok (.invokestatic 138, 3) := by decide +kernel
theorem dX6_softTimes_31 : decode cX6_softTimes 31 = .ok (.goto 4, 3) := by decide +kernel
theorem dX6_softTimes_34 : decode cX6_softTimes 34 = .ok (.iconst 0, 1) := by decide +kernel
theorem dX6_softTimes_35 : decode cX6_softTimes 35 = .ok (.iadd, 1) := by decide +kernel
theorem dX6_softTimes_36 : decode cX6_softTimes 36 = .ok (.istore_n 3, 1) := by decide +kernel
theorem dX6_softTimes_37 : decode cX6_softTimes 37 = .ok (.iinc 4 1, 3) := by decide +kernel
theorem dX6_softTimes_40 : decode cX6_softTimes 40 = .ok (.goto (-35), 3) := by decide +kernel
theorem dX6_softTimes_43 : decode cX6_softTimes 43 = .ok (.iload_n 3, 1) := by decide +kernel
theorem dX6_softTimes_44 : decode cX6_softTimes 44 = .ok (.ireturn, 1) := by decide +kernel
set_option maxRecDepth 20000 in
theorem ggX6_mirror_X6_isImage : GoodIn wsX6_mirror wsX6_isImage := goodIn_r _ [6, 7, 8, 5, 9, 10, 11, 12] (by decide +kernel) (by decide +kernel)
set_option maxRecDepth 20000 in
theorem gX6_mirror_X6_isImage : GoodIn wsX6_mirror (va_wsS RX6 142 yX6_isImage wsX6_isImage) := goodIn_app (goodIn_of _ (by decide +kernel)) ggX6_mirror_X6_isImage
set_option maxRecDepth 20000 in
theorem ggX6_mirror_X6_in : GoodIn wsX6_mirror wsX6_in := goodIn_r _ [9] (by decide +kernel) (by decide +kernel)
set_option maxRecDepth 20000 in
theorem gX6_mirror_X6_in : GoodIn wsX6_mirror (va_wsS RX6 75 yX6_in wsX6_in) := goodIn_app (goodIn_of _ (by decide +kernel)) ggX6_mirror_X6_in
set_option maxRecDepth 20000 in
theorem ggX6_mirror_X6_mirrored : GoodIn wsX6_mirror wsX6_mirrored := goodIn_r _ [15] (by decide +kernel) (by decide +kernel)
set_option maxRecDepth 20000 in
theorem gX6_mirror_X6_mirrored : GoodIn wsX6_mirror (va_wsS RX6 146 yX6_mirrored wsX6_mirrored) := goodIn_app (goodIn_of _ (by decide +kernel)) ggX6_mirror_X6_mirrored
set_option maxRecDepth 20000 in
theorem ggX6_mirror_X6_size : GoodIn wsX6_mirror wsX6_size := goodIn_r _ [12] (by decide +kernel) (by decide +kernel)
set_option maxRecDepth 20000 in
theorem gX6_mirror_X6_size : GoodIn wsX6_mirror (va_wsS RX6 79 yX6_size wsX6_size) := goodIn_app (goodIn_of _ (by decide +kernel)) ggX6_mirror_X6_size
set_option maxRecDepth 20000 in
theorem ggX6_mirror_X6_softTimes : GoodIn wsX6_mirror wsX6_softTimes := goodIn_r _ [19, 2, 20, 21, 5, 22, 10, 11, 12, 23, 24, 25, 26, 27, 28, 29, 30, 31, 32, 33, 34, 35, 36, 37, 38, 39, 40, 41, 42, 43, 44] (by decide +kernel) (by decide +kernel)
set_option maxRecDepth 20000 in
theorem gX6_mirror_X6_softTimes : GoodIn wsX6_mirror (wsV RX6 149 RX6 yX6_softTimes wsX6_softTimes) := goodIn_app (goodIn_of _ (by decide +kernel)) ggX6_mirror_X6_softTimes
theorem dX6_mirror_0 : decode cX6_mirror 0 = .ok (.iload_n 1, 1) := by decide +kernel
theorem dX6_mirror_1 : decode cX6_mirror 1 = .ok (.iload_n 2, 1) := by decide +kernel
theorem dX6_mirror_2 : decode cX6_mirror 2 = .ok (.invokestatic 142, 3) := by decide +kernel
theorem dX6_mirror_5 : decode cX6_mirror 5 = .ok (.ifCond .eq 12, 3) := by decide +kernel
theorem dX6_mirror_8 : decode cX6_mirror 8 = .ok (.iload_n 3, 1) := by decide +kernel
theorem dX6_mirror_9 : decode cX6_mirror 9 = .ok (.iconst 0, 1) := by decide +kernel
theorem dX6_mirror_10 : decode cX6_mirror 10 = .ok (.iconst 3, 1) := by decide +kernel
theorem dX6_mirror_11 : decode cX6_mirror 11 = .ok (.invokestatic 75, 3) := by decide +kernel
theorem dX6_mirror_14 : decode cX6_mirror 14 = .ok (.ifCond .ne 6, 3) := by decide +kernel
theorem dX6_mirror_17 : decode cX6_mirror 17 = .ok (.ldc 145, 2) := by decide +kernel
theorem dX6_mirror_19 : decode cX6_mirror 19 = .ok (.ireturn, 1) := by decide +kernel
theorem dX6_mirror_20 : decode cX6_mirror 20 = .ok (.iload_n 3, 1) := by decide +kernel
theorem dX6_mirror_21 : decode cX6_mirror 21 = .ok (.ifCond .ne 22, 3) := by decide +kernel
theorem dX6_mirror_24 : decode cX6_mirror 24 = .ok (.iload_n 1, 1) := by decide +kernel
theorem dX6_mirror_25 : decode cX6_mirror 25 = .ok (.aload_n 0, 1) := by decide +kernel
theorem dX6_mirror_26 : decode cX6_mirror 26 = .ok (.getfield 7, 3) := by decide +kernel
theorem dX6_mirror_29 : decode cX6_mirror 29 = .ok (.iconst 0, 1) := by decide +kernel
theorem dX6_mirror_30 : decode cX6_mirror 30 = .ok (.iaload, 1) := by decide +kernel
theorem dX6_mirror_31 : decode cX6_mirror 31 = .ok (.aload_n 0, 1) := by decide +kernel
theorem dX6_mirror_32 : decode cX6_mirror 32 = .ok (.getfield 7, 3) := by decide +kernel
theorem dX6_mirror_35 : decode cX6_mirror 35 = .ok (.iconst 2, 1) := by decide +kernel
theorem dX6_mirror_36 : decode cX6_mirror 36 = .ok (.iaload, 1) := by decide +kernel
theorem dX6_mirror_37 : decode cX6_mirror 37 = .ok (.invokestatic 146, 3) := by decide +kernel
theorem dX6_mirror_40 : decode cX6_mirror 40 = .ok (.goto 50, 3) := by decide +kernel
theorem dX6_mirror_43 : decode cX6_mirror 43 = .ok (.iload_n 3, 1) := by decide +kernel
theorem dX6_mirror_44 : decode cX6_mirror 44 = .ok (.iconst 1, 1) := by decide +kernel
theorem dX6_mirror_45 : decode cX6_mirror 45 = .ok (.if_icmp .ne 22, 3) := by decide +kernel
theorem dX6_mirror_48 : decode cX6_mirror 48 = .ok (.iload_n 2, 1) := by decide +kernel
theorem dX6_mirror_49 : decode cX6_mirror 49 = .ok (.aload_n 0, 1) := by decide +kernel
theorem dX6_mirror_50 : decode cX6_mirror 50 = .ok (.getfield 7, 3) := by decide +kernel
theorem dX6_mirror_53 : decode cX6_mirror 53 = .ok (.iconst 1, 1) := by decide +kernel
theorem dX6_mirror_54 : decode cX6_mirror 54 = .ok (.iaload, 1) := by decide +kernel
theorem dX6_mirror_55 : decode cX6_mirror 55 = .ok (.aload_n 0, 1) := by decide +kernel
theorem dX6_mirror_56 : decode cX6_mirror 56 = .ok (.getfield 7, 3) := by decide +kernel
theorem dX6_mirror_59 : decode cX6_mirror 59 = .ok (.iconst 3, 1) := by decide +kernel
theorem dX6_mirror_60 : decode cX6_mirror 60 = .ok (.iaload, 1) := by decide +kernel
theorem dX6_mirror_61 : decode cX6_mirror 61 = .ok (.invokestatic 146, 3) := by decide +kernel
theorem dX6_mirror_64 : decode cX6_mirror 64 = .ok (.goto 26, 3) := by decide +kernel
theorem dX6_mirror_67 : decode cX6_mirror 67 = .ok (.iload_n 3, 1) := by decide +kernel
theorem dX6_mirror_68 : decode cX6_mirror 68 = .ok (.iconst 2, 1) := by decide +kernel
theorem dX6_mirror_69 : decode cX6_mirror 69 = .ok (.if_icmp .ne 15, 3) := by decide +kernel
theorem dX6_mirror_72 : decode cX6_mirror 72 = .ok (.iload_n 1, 1) := by decide +kernel
theorem dX6_mirror_73 : decode cX6_mirror 73 = .ok (.invokestatic 79, 3) := by decide +kernel
theorem dX6_mirror_76 : decode cX6_mirror 76 = .ok (.iload_n 2, 1) := by decide +kernel
theorem dX6_mirror_77 : decode cX6_mirror 77 = .ok (.invokestatic 79, 3) := by decide +kernel
theorem dX6_mirror_80 : decode cX6_mirror 80 = .ok (.iadd, 1) := by decide +kernel
theorem dX6_mirror_81 : decode cX6_mirror 81 = .ok (.goto 9, 3) := by decide +kernel
theorem dX6_mirror_84 : decode cX6_mirror 84 = .ok (.aload_n 0, 1) := by decide +kernel
theorem dX6_mirror_85 : decode cX6_mirror 85 = .ok (.iload_n 1, 1) := by decide +kernel
theorem dX6_mirror_86 : decode cX6_mirror 86 = .ok (.iload_n 2, 1) := by decide +kernel
theorem dX6_mirror_87 : decode cX6_mirror 87 = .ok (.invokevirtual 149, 3) := by decide +kernel
theorem dX6_mirror_90 : decode cX6_mirror 90 = .ok (.ireturn, 1) := by decide +kernel
set_option maxRecDepth 20000 in
theorem ggX6_wayOf_X6_mirrored : GoodIn wsX6_wayOf wsX6_mirrored := goodIn_r _ [5] (by decide +kernel) (by decide +kernel)
set_option maxRecDepth 20000 in
theorem gX6_wayOf_X6_mirrored : GoodIn wsX6_wayOf (va_wsS RX6 146 yX6_mirrored wsX6_mirrored) := goodIn_app (goodIn_of _ (by decide +kernel)) ggX6_wayOf_X6_mirrored
theorem dX6_wayOf_0 : decode cX6_wayOf 0 = .ok (.iload_n 1, 1) := by decide +kernel
theorem dX6_wayOf_1 : decode cX6_wayOf 1 = .ok (.aload_n 0, 1) := by decide +kernel
theorem dX6_wayOf_2 : decode cX6_wayOf 2 = .ok (.getfield 7, 3) := by decide +kernel
theorem dX6_wayOf_5 : decode cX6_wayOf 5 = .ok (.iconst 0, 1) := by decide +kernel
theorem dX6_wayOf_6 : decode cX6_wayOf 6 = .ok (.iaload, 1) := by decide +kernel
theorem dX6_wayOf_7 : decode cX6_wayOf 7 = .ok (.aload_n 0, 1) := by decide +kernel
theorem dX6_wayOf_8 : decode cX6_wayOf 8 = .ok (.getfield 7, 3) := by decide +kernel
theorem dX6_wayOf_11 : decode cX6_wayOf 11 = .ok (.iconst 2, 1) := by decide +kernel
theorem dX6_wayOf_12 : decode cX6_wayOf 12 = .ok (.iaload, 1) := by decide +kernel
theorem dX6_wayOf_13 : decode cX6_wayOf 13 = .ok (.invokestatic 146, 3) := by decide +kernel
theorem dX6_wayOf_16 : decode cX6_wayOf 16 = .ok (.iload_n 3, 1) := by decide +kernel
theorem dX6_wayOf_17 : decode cX6_wayOf 17 = .ok (.isub, 1) := by decide +kernel
theorem dX6_wayOf_18 : decode cX6_wayOf 18 = .ok (.istore 5, 2) := by decide +kernel
theorem dX6_wayOf_20 : decode cX6_wayOf 20 = .ok (.iload_n 2, 1) := by decide +kernel
theorem dX6_wayOf_21 : decode cX6_wayOf 21 = .ok (.aload_n 0, 1) := by decide +kernel
theorem dX6_wayOf_22 : decode cX6_wayOf 22 = .ok (.getfield 7, 3) := by decide +kernel
theorem dX6_wayOf_25 : decode cX6_wayOf 25 = .ok (.iconst 1, 1) := by decide +kernel
theorem dX6_wayOf_26 : decode cX6_wayOf 26 = .ok (.iaload, 1) := by decide +kernel
theorem dX6_wayOf_27 : decode cX6_wayOf 27 = .ok (.aload_n 0, 1) := by decide +kernel
theorem dX6_wayOf_28 : decode cX6_wayOf 28 = .ok (.getfield 7, 3) := by decide +kernel
theorem dX6_wayOf_31 : decode cX6_wayOf 31 = .ok (.iconst 3, 1) := by decide +kernel
theorem dX6_wayOf_32 : decode cX6_wayOf 32 = .ok (.iaload, 1) := by decide +kernel
theorem dX6_wayOf_33 : decode cX6_wayOf 33 = .ok (.invokestatic 146, 3) := by decide +kernel
theorem dX6_wayOf_36 : decode cX6_wayOf 36 = .ok (.iload 4, 2) := by decide +kernel
theorem dX6_wayOf_38 : decode cX6_wayOf 38 = .ok (.isub, 1) := by decide +kernel
theorem dX6_wayOf_39 : decode cX6_wayOf 39 = .ok (.istore 6, 2) := by decide +kernel
theorem dX6_wayOf_41 : decode cX6_wayOf 41 = .ok (.iload 5, 2) := by decide +kernel
theorem dX6_wayOf_43 : decode cX6_wayOf 43 = .ok (.iload 5, 2) := by decide +kernel
theorem dX6_wayOf_45 : decode cX6_wayOf 45 = .ok (.imul, 1) := by decide +kernel
theorem dX6_wayOf_46 : decode cX6_wayOf 46 = .ok (.iload 6, 2) := by decide +kernel
theorem dX6_wayOf_48 : decode cX6_wayOf 48 = .ok (.iload 6, 2) := by decide +kernel
theorem dX6_wayOf_50 : decode cX6_wayOf 50 = .ok (.imul, 1) := by decide +kernel
theorem dX6_wayOf_51 : decode cX6_wayOf 51 = .ok (.iadd, 1) := by decide +kernel
theorem dX6_wayOf_52 : decode cX6_wayOf 52 = .ok (.ireturn, 1) := by decide +kernel
theorem dX6_timeOf_0 : decode cX6_timeOf 0 = .ok (.iconst 0, 1) := by decide +kernel
theorem dX6_timeOf_1 : decode cX6_timeOf 1 = .ok (.istore_n 1, 1) := by decide +kernel
theorem dX6_timeOf_2 : decode cX6_timeOf 2 = .ok (.sipush 2000, 3) := by decide +kernel
theorem dX6_timeOf_5 : decode cX6_timeOf 5 = .ok (.istore_n 2, 1) := by decide +kernel
theorem dX6_timeOf_6 : decode cX6_timeOf 6 = .ok (.iload_n 1, 1) := by decide +kernel
theorem dX6_timeOf_7 : decode cX6_timeOf 7 = .ok (.iload_n 2, 1) := by decide +kernel
theorem dX6_timeOf_8 : decode cX6_timeOf 8 = .ok (.if_icmp .ge 33, 3) := by decide +kernel
theorem dX6_timeOf_11 : decode cX6_timeOf 11 = .ok (.iload_n 1, 1) := by decide +kernel
theorem dX6_timeOf_12 : decode cX6_timeOf 12 = .ok (.iload_n 2, 1) := by decide +kernel
theorem dX6_timeOf_13 : decode cX6_timeOf 13 = .ok (.iadd, 1) := by decide +kernel
theorem dX6_timeOf_14 : decode cX6_timeOf 14 = .ok (.iconst 1, 1) := by decide +kernel
theorem dX6_timeOf_15 : decode cX6_timeOf 15 = .ok (.iadd, 1) := by decide +kernel
theorem dX6_timeOf_16 : decode cX6_timeOf 16 = .ok (.iconst 2, 1) := by decide +kernel
theorem dX6_timeOf_17 : decode cX6_timeOf 17 = .ok (.idiv, 1) := by decide +kernel
theorem dX6_timeOf_18 : decode cX6_timeOf 18 = .ok (.istore_n 3, 1) := by decide +kernel
theorem dX6_timeOf_19 : decode cX6_timeOf 19 = .ok (.iload_n 3, 1) := by decide +kernel
theorem dX6_timeOf_20 : decode cX6_timeOf 20 = .ok (.iload_n 3, 1) := by decide +kernel
theorem dX6_timeOf_21 : decode cX6_timeOf 21 = .ok (.imul, 1) := by decide +kernel
theorem dX6_timeOf_22 : decode cX6_timeOf 22 = .ok (.bipush 100, 2) := by decide +kernel
theorem dX6_timeOf_24 : decode cX6_timeOf 24 = .ok (.iload_n 0, 1) := by decide +kernel
theorem dX6_timeOf_25 : decode cX6_timeOf 25 = .ok (.imul, 1) := by decide +kernel
theorem dX6_timeOf_26 : decode cX6_timeOf 26 = .ok (.if_icmp .gt 8, 3) := by decide +kernel
theorem dX6_timeOf_29 : decode cX6_timeOf 29 = .ok (.iload_n 3, 1) := by decide +kernel
theorem dX6_timeOf_30 : decode cX6_timeOf 30 = .ok (.istore_n 1, 1) := by decide +kernel
theorem dX6_timeOf_31 : decode cX6_timeOf 31 = .ok (.goto 7, 3) := by decide +kernel
theorem dX6_timeOf_34 : decode cX6_timeOf 34 = .ok (.iload_n 3, 1) := by decide +kernel
theorem dX6_timeOf_35 : decode cX6_timeOf 35 = .ok (.iconst 1, 1) := by decide +kernel
theorem dX6_timeOf_36 : decode cX6_timeOf 36 = .ok (.isub, 1) := by decide +kernel
theorem dX6_timeOf_37 : decode cX6_timeOf 37 = .ok (.istore_n 2, 1) := by decide +kernel
theorem dX6_timeOf_38 : decode cX6_timeOf 38 = .ok (.goto (-32), 3) := by decide +kernel
theorem dX6_timeOf_41 : decode cX6_timeOf 41 = .ok (.iload_n 1, 1) := by decide +kernel
theorem dX6_timeOf_42 : decode cX6_timeOf 42 = .ok (.ireturn, 1) := by decide +kernel
set_option maxRecDepth 20000 in
theorem ggX6_strengthOf_X6_times : GoodIn wsX6_strengthOf wsX6_times := goodIn_r _ [6, 7, 8, 5, 9] (by decide +kernel) (by decide +kernel)
set_option maxRecDepth 20000 in
theorem gX6_strengthOf_X6_times : GoodIn wsX6_strengthOf (va_wsS RX6 138 yX6_times wsX6_times) := goodIn_app (goodIn_of _ (by decide +kernel)) ggX6_strengthOf_X6_times
theorem dX6_strengthOf_0 : decode cX6_strengthOf 0 = .ok (.ldc 153, 2) := by decide +kernel
theorem dX6_strengthOf_2 : decode cX6_strengthOf 2 = .ok (.istore 4, 2) := by decide +kernel
theorem dX6_strengthOf_4 : decode cX6_strengthOf 4 = .ok (.iconst 0, 1) := by decide +kernel
theorem dX6_strengthOf_5 : decode cX6_strengthOf 5 = .ok (.istore 5, 2) := by decide +kernel
theorem dX6_strengthOf_7 : decode cX6_strengthOf 7 = .ok (.iload 5, 2) := by decide +kernel
theorem dX6_strengthOf_9 : decode cX6_strengthOf 9 = .ok (.iconst 4, 1) := by decide +kernel
theorem dX6_strengthOf_10 : decode cX6_strengthOf 10 = .ok (.if_icmp .ge 47, 3) := by decide +kernel
theorem dX6_strengthOf_13 : decode cX6_strengthOf 13 = .ok (.iload 5, 2) := by decide +kernel
theorem dX6_strengthOf_15 : decode cX6_strengthOf 15 = .ok (.iload_n 1, 1) := by decide +kernel
theorem dX6_strengthOf_16 : decode cX6_strengthOf 16 = .ok (.iload_n 2, 1) := by decide +kernel
theorem dX6_strengthOf_17 : decode cX6_strengthOf 17 = .ok (.invokestatic 138, 3) := by decide +kernel
theorem dX6_strengthOf_20 : decode cX6_strengthOf 20 = .ok (.istore 6, 2) := by decide +kernel
theorem dX6_strengthOf_22 : decode cX6_strengthOf 22 = .ok (.iload 6, 2) := by decide +kernel
theorem dX6_strengthOf_24 : decode cX6_strengthOf 24 = .ok (.ifCond .le 27, 3) := by decide +kernel
theorem dX6_strengthOf_27 : decode cX6_strengthOf 27 = .ok (.iload 4, 2) := by decide +kernel
theorem dX6_strengthOf_29 : decode cX6_strengthOf 29 = .ok (.bipush 10, 2) := by decide +kernel
theorem dX6_strengthOf_31 : decode cX6_strengthOf 31 = .ok (.aload_n 0, 1) := by decide +kernel
theorem dX6_strengthOf_32 : decode cX6_strengthOf 32 = .ok (.getfield 47, 3) := by decide +kernel
theorem dX6_strengthOf_35 : decode cX6_strengthOf 35 = .ok (.iload 5, 2) := by decide +kernel
theorem dX6_strengthOf_37 : decode cX6_strengthOf 37 = .ok (.iaload, 1) := by decide +kernel
theorem dX6_strengthOf_38 : decode cX6_strengthOf 38 = .ok (.isub, 1) := by decide +kernel
theorem dX6_strengthOf_39 : decode cX6_strengthOf 39 = .ok (.imul, 1) := by decide +kernel
theorem dX6_strengthOf_40 : decode cX6_strengthOf 40 = .ok (.bipush 10, 2) := by decide +kernel
theorem dX6_strengthOf_42 : decode cX6_strengthOf 42 = .ok (.idiv, 1) := by decide +kernel
theorem dX6_strengthOf_43 : decode cX6_strengthOf 43 = .ok (.istore 4, 2) := by decide +kernel
theorem dX6_strengthOf_45 : decode cX6_strengthOf 45 = .ok (.iinc 6 (-1), 3) := by decide +kernel
theorem dX6_strengthOf_48 : decode cX6_strengthOf 48 = .ok (.goto (-26), 3) := by decide +kernel
theorem dX6_strengthOf_51 : decode cX6_strengthOf 51 = .ok (.iinc 5 1, 3) := by decide +kernel
theorem dX6_strengthOf_54 : decode cX6_strengthOf 54 = .ok (.goto (-47), 3) := by decide +kernel
theorem dX6_strengthOf_57 : decode cX6_strengthOf 57 = .ok (.iload 4, 2) := by decide +kernel
theorem dX6_strengthOf_59 : decode cX6_strengthOf 59 = .ok (.iload_n 3, 1) := by decide +kernel
theorem dX6_strengthOf_60 : decode cX6_strengthOf 60 = .ok (.iconst 1, 1) := by decide +kernel
theorem dX6_strengthOf_61 : decode cX6_strengthOf 61 = .ok (.iadd, 1) := by decide +kernel
theorem dX6_strengthOf_62 : decode cX6_strengthOf 62 = .ok (.idiv, 1) := by decide +kernel
theorem dX6_strengthOf_63 : decode cX6_strengthOf 63 = .ok (.ireturn, 1) := by decide +kernel
theorem dX6_swallowsNow_0 : decode cX6_swallowsNow 0 = .ok (.iconst 0, 1) := by decide +kernel
theorem dX6_swallowsNow_1 : decode cX6_swallowsNow 1 = .ok (.istore_n 1, 1) := by decide +kernel
theorem dX6_swallowsNow_2 : decode cX6_swallowsNow 2 = .ok (.iload_n 1, 1) := by decide +kernel
theorem dX6_swallowsNow_3 : decode cX6_swallowsNow 3 = .ok (.iconst 4, 1) := by decide +kernel
theorem dX6_swallowsNow_4 : decode cX6_swallowsNow 4 = .ok (.if_icmp .ge 23, 3) := by decide +kernel
theorem dX6_swallowsNow_7 : decode cX6_swallowsNow 7 = .ok (.aload_n 0, 1) := by decide +kernel
theorem dX6_swallowsNow_8 : decode cX6_swallowsNow 8 = .ok (.getfield 47, 3) := by decide +kernel
theorem dX6_swallowsNow_11 : decode cX6_swallowsNow 11 = .ok (.iload_n 1, 1) := by decide +kernel
theorem dX6_swallowsNow_12 : decode cX6_swallowsNow 12 = .ok (.aload_n 0, 1) := by decide +kernel
theorem dX6_swallowsNow_13 : decode cX6_swallowsNow 13 = .ok (.getfield 7, 3) := by decide +kernel
theorem dX6_swallowsNow_16 : decode cX6_swallowsNow 16 = .ok (.iconst 4, 1) := by decide +kernel
theorem dX6_swallowsNow_17 : decode cX6_swallowsNow 17 = .ok (.iload_n 1, 1) := by decide +kernel
theorem dX6_swallowsNow_18 : decode cX6_swallowsNow 18 = .ok (.iadd, 1) := by decide +kernel
theorem dX6_swallowsNow_19 : decode cX6_swallowsNow 19 = .ok (.iaload, 1) := by decide +kernel
theorem dX6_swallowsNow_20 : decode cX6_swallowsNow 20 = .ok (.iastore, 1) := by decide +kernel
theorem dX6_swallowsNow_21 : decode cX6_swallowsNow 21 = .ok (.iinc 1 1, 3) := by decide +kernel
theorem dX6_swallowsNow_24 : decode cX6_swallowsNow 24 = .ok (.goto (-22), 3) := by decide +kernel
theorem dX6_swallowsNow_27 : decode cX6_swallowsNow 27 = .ok (.return_, 1) := by decide +kernel
set_option maxRecDepth 20000 in
theorem ggX6_meets_X6_mirrored : GoodIn wsX6_meets wsX6_mirrored := goodIn_r _ [5] (by decide +kernel) (by decide +kernel)
set_option maxRecDepth 20000 in
theorem gX6_meets_X6_mirrored : GoodIn wsX6_meets (va_wsS RX6 146 yX6_mirrored wsX6_mirrored) := goodIn_app (goodIn_of _ (by decide +kernel)) ggX6_meets_X6_mirrored
set_option maxRecDepth 20000 in
theorem ggX6_meets_X6_size : GoodIn wsX6_meets wsX6_size := goodIn_r _ [8] (by decide +kernel) (by decide +kernel)
set_option maxRecDepth 20000 in
theorem gX6_meets_X6_size : GoodIn wsX6_meets (va_wsS RX6 79 yX6_size wsX6_size) := goodIn_app (goodIn_of _ (by decide +kernel)) ggX6_meets_X6_size
theorem dX6_meets_0 : decode cX6_meets 0 = .ok (.iload_n 3, 1) := by decide +kernel
theorem dX6_meets_1 : decode cX6_meets 1 = .ok (.aload_n 0, 1) := by decide +kernel
theorem dX6_meets_2 : decode cX6_meets 2 = .ok (.getfield 7, 3) := by decide +kernel
theorem dX6_meets_5 : decode cX6_meets 5 = .ok (.iconst 0, 1) := by decide +kernel
theorem dX6_meets_6 : decode cX6_meets 6 = .ok (.iaload, 1) := by decide +kernel
theorem dX6_meets_7 : decode cX6_meets 7 = .ok (.aload_n 0, 1) := by decide +kernel
theorem dX6_meets_8 : decode cX6_meets 8 = .ok (.getfield 7, 3) := by decide +kernel
theorem dX6_meets_11 : decode cX6_meets 11 = .ok (.iconst 2, 1) := by decide +kernel
theorem dX6_meets_12 : decode cX6_meets 12 = .ok (.iaload, 1) := by decide +kernel
theorem dX6_meets_13 : decode cX6_meets 13 = .ok (.invokestatic 146, 3) := by decide +kernel
theorem dX6_meets_16 : decode cX6_meets 16 = .ok (.istore 7, 2) := by decide +kernel
theorem dX6_meets_18 : decode cX6_meets 18 = .ok (.iload 4, 2) := by decide +kernel
theorem dX6_meets_20 : decode cX6_meets 20 = .ok (.aload_n 0, 1) := by decide +kernel
theorem dX6_meets_21 : decode cX6_meets 21 = .ok (.getfield 7, 3) := by decide +kernel
theorem dX6_meets_24 : decode cX6_meets 24 = .ok (.iconst 1, 1) := by decide +kernel
theorem dX6_meets_25 : decode cX6_meets 25 = .ok (.iaload, 1) := by decide +kernel
theorem dX6_meets_26 : decode cX6_meets 26 = .ok (.aload_n 0, 1) := by decide +kernel
theorem dX6_meets_27 : decode cX6_meets 27 = .ok (.getfield 7, 3) := by decide +kernel
theorem dX6_meets_30 : decode cX6_meets 30 = .ok (.iconst 3, 1) := by decide +kernel
theorem dX6_meets_31 : decode cX6_meets 31 = .ok (.iaload, 1) := by decide +kernel
theorem dX6_meets_32 : decode cX6_meets 32 = .ok (.invokestatic 146, 3) := by decide +kernel
theorem dX6_meets_35 : decode cX6_meets 35 = .ok (.istore 8, 2) := by decide +kernel
theorem dX6_meets_37 : decode cX6_meets 37 = .ok (.iload_n 2, 1) := by decide +kernel
theorem dX6_meets_38 : decode cX6_meets 38 = .ok (.aload_n 0, 1) := by decide +kernel
theorem dX6_meets_39 : decode cX6_meets 39 = .ok (.getfield 7, 3) := by decide +kernel
theorem dX6_meets_42 : decode cX6_meets 42 = .ok (.iconst 0, 1) := by decide +kernel
theorem dX6_meets_43 : decode cX6_meets 43 = .ok (.iaload, 1) := by decide +kernel
theorem dX6_meets_44 : decode cX6_meets 44 = .ok (.aload_n 0, 1) := by decide +kernel
theorem dX6_meets_45 : decode cX6_meets 45 = .ok (.getfield 7, 3) := by decide +kernel
theorem dX6_meets_48 : decode cX6_meets 48 = .ok (.bipush 18, 2) := by decide +kernel
theorem dX6_meets_50 : decode cX6_meets 50 = .ok (.iload_n 1, 1) := by decide +kernel
theorem dX6_meets_51 : decode cX6_meets 51 = .ok (.iadd, 1) := by decide +kernel
theorem dX6_meets_52 : decode cX6_meets 52 = .ok (.iaload, 1) := by decide +kernel
theorem dX6_meets_53 : decode cX6_meets 53 = .ok (.invokestatic 146, 3) := by decide +kernel
theorem dX6_meets_56 : decode cX6_meets 56 = .ok (.istore 9, 2) := by decide +kernel
theorem dX6_meets_58 : decode cX6_meets 58 = .ok (.iload 7, 2) := by decide +kernel
theorem dX6_meets_60 : decode cX6_meets 60 = .ok (.iload 9, 2) := by decide +kernel
theorem dX6_meets_62 : decode cX6_meets 62 = .ok (.if_icmp .ge 10, 3) := by decide +kernel
theorem dX6_meets_65 : decode cX6_meets 65 = .ok (.iload 9, 2) := by decide +kernel
theorem dX6_meets_67 : decode cX6_meets 67 = .ok (.iload 5, 2) := by decide +kernel
theorem dX6_meets_69 : decode cX6_meets 69 = .ok (.if_icmp .lt 19, 3) := by decide +kernel
theorem dX6_meets_72 : decode cX6_meets 72 = .ok (.iload 5, 2) := by decide +kernel
theorem dX6_meets_74 : decode cX6_meets 74 = .ok (.iload 9, 2) := by decide +kernel
theorem dX6_meets_76 : decode cX6_meets 76 = .ok (.if_icmp .ge 10, 3) := by decide +kernel
theorem dX6_meets_79 : decode cX6_meets 79 = .ok (.iload 9, 2) := by decide +kernel
theorem dX6_meets_81 : decode cX6_meets 81 = .ok (.iload 7, 2) := by decide +kernel
theorem dX6_meets_83 : decode cX6_meets 83 = .ok (.if_icmp .lt 5, 3) := by decide +kernel
theorem dX6_meets_86 : decode cX6_meets 86 = .ok (.iconst 0, 1) := by decide +kernel
theorem dX6_meets_87 : decode cX6_meets 87 = .ok (.ireturn, 1) := by decide +kernel
theorem dX6_meets_88 : decode cX6_meets 88 = .ok (.iload 5, 2) := by decide +kernel
theorem dX6_meets_90 : decode cX6_meets 90 = .ok (.iload 7, 2) := by decide +kernel
theorem dX6_meets_92 : decode cX6_meets 92 = .ok (.isub, 1) := by decide +kernel
theorem dX6_meets_93 : decode cX6_meets 93 = .ok (.istore 10, 2) := by decide +kernel
theorem dX6_meets_95 : decode cX6_meets 95 = .ok (.iload 8, 2) := by decide +kernel
theorem dX6_meets_97 : decode cX6_meets 97 = .ok (.iload 10, 2) := by decide +kernel
theorem dX6_meets_99 : decode cX6_meets 99 = .ok (.imul, 1) := by decide +kernel
theorem dX6_meets_100 : decode cX6_meets 100 = .ok (.iload 6, 2) := by decide +kernel
theorem dX6_meets_102 : decode cX6_meets 102 = .ok (.iload 8, 2) := by decide +kernel
theorem dX6_meets_104 : decode cX6_meets 104 = .ok (.isub, 1) := by decide +kernel
theorem dX6_meets_105 : decode cX6_meets 105 = .ok (.iload 9, 2) := by decide +kernel
theorem dX6_meets_107 : decode cX6_meets 107 = .ok (.iload 7, 2) := by decide +kernel
theorem dX6_meets_109 : decode cX6_meets 109 = .ok (.isub, 1) := by decide +kernel
theorem dX6_meets_110 : decode cX6_meets 110 = .ok (.imul, 1) := by decide +kernel
theorem dX6_meets_111 : decode cX6_meets 111 = .ok (.iadd, 1) := by decide +kernel
theorem dX6_meets_112 : decode cX6_meets 112 = .ok (.istore 11, 2) := by decide +kernel
theorem dX6_meets_114 : decode cX6_meets 114 = .ok (.iload 10, 2) := by decide +kernel
theorem dX6_meets_116 : decode cX6_meets 116 = .ok (.ifCond .ge 9, 3) := by decide +kernel
theorem dX6_meets_119 : decode cX6_meets 119 = .ok (.iload 11, 2) := by decide +kernel
theorem dX6_meets_121 : decode cX6_meets 121 = .ok (.ineg, 1) := by decide +kernel
theorem dX6_meets_122 : decode cX6_meets 122 = .ok (.goto 5, 3) := by decide +kernel
theorem dX6_meets_125 : decode cX6_meets 125 = .ok (.iload 11, 2) := by decide +kernel
theorem dX6_meets_127 : decode cX6_meets 127 = .ok (.istore 11, 2) := by decide +kernel
theorem dX6_meets_129 : decode cX6_meets 129 = .ok (.iload 10, 2) := by decide +kernel
theorem dX6_meets_131 : decode cX6_meets 131 = .ok (.invokestatic 79, 3) := by decide +kernel
theorem dX6_meets_134 : decode cX6_meets 134 = .ok (.istore 10, 2) := by decide +kernel
theorem dX6_meets_136 : decode cX6_meets 136 = .ok (.aload_n 0, 1) := by decide +kernel
theorem dX6_meets_137 : decode cX6_meets 137 = .ok (.getfield 7, 3) := by decide +kernel
theorem dX6_meets_140 : decode cX6_meets 140 = .ok (.iconst 1, 1) := by decide +kernel
theorem dX6_meets_141 : decode cX6_meets 141 = .ok (.iaload, 1) := by decide +kernel
theorem dX6_meets_142 : decode cX6_meets 142 = .ok (.iload 10, 2) := by decide +kernel
theorem dX6_meets_144 : decode cX6_meets 144 = .ok (.imul, 1) := by decide +kernel
theorem dX6_meets_145 : decode cX6_meets 145 = .ok (.istore 12, 2) := by decide +kernel
theorem dX6_meets_147 : decode cX6_meets 147 = .ok (.iconst 0, 1) := by decide +kernel
theorem dX6_meets_148 : decode cX6_meets 148 = .ok (.istore 13, 2) := by decide +kernel
theorem dX6_meets_150 : decode cX6_meets 150 = .ok (.iload 11, 2) := by decide +kernel
theorem dX6_meets_152 : decode cX6_meets 152 = .ok (.ifCond .ge 16, 3) := by decide +kernel
theorem dX6_meets_155 : decode cX6_meets 155 = .ok (.iload 11, 2) := by decide +kernel
theorem dX6_meets_157 : decode cX6_meets 157 = .ok (.iload 12, 2) := by decide +kernel
theorem dX6_meets_159 : decode cX6_meets 159 = .ok (.iadd, 1) := by decide +kernel
theorem dX6_meets_160 : decode cX6_meets 160 = .ok (.istore 11, 2) := by decide +kernel
theorem dX6_meets_162 : decode cX6_meets 162 = .ok (.iinc 13 1, 3) := by decide +kernel
theorem dX6_meets_165 : decode cX6_meets 165 = .ok (.goto (-15), 3) := by decide +kernel
theorem dX6_meets_168 : decode cX6_meets 168 = .ok (.iload 11, 2) := by decide +kernel
theorem dX6_meets_170 : decode cX6_meets 170 = .ok (.iload 12, 2) := by decide +kernel
theorem dX6_meets_172 : decode cX6_meets 172 = .ok (.if_icmp .lt 16, 3) := by decide +kernel
theorem dX6_meets_175 : decode cX6_meets 175 = .ok (.iload 11, 2) := by decide +kernel
theorem dX6_meets_177 : decode cX6_meets 177 = .ok (.iload 12, 2) := by decide +kernel
theorem dX6_meets_179 : decode cX6_meets 179 = .ok (.isub, 1) := by decide +kernel
theorem dX6_meets_180 : decode cX6_meets 180 = .ok (.istore 11, 2) := by decide +kernel
theorem dX6_meets_182 : decode cX6_meets 182 = .ok (.iinc 13 1, 3) := by decide +kernel
theorem dX6_meets_185 : decode cX6_meets 185 = .ok (.goto (-17), 3) := by decide +kernel
theorem dX6_meets_188 : decode cX6_meets 188 = .ok (.iload 13, 2) := by decide +kernel
theorem dX6_meets_190 : decode cX6_meets 190 = .ok (.iconst 2, 1) := by decide +kernel
theorem dX6_meets_191 : decode cX6_meets 191 = .ok (.irem, 1) := by decide +kernel
theorem dX6_meets_192 : decode cX6_meets 192 = .ok (.ifCond .ne 8, 3) := by decide +kernel
theorem dX6_meets_195 : decode cX6_meets 195 = .ok (.iload 11, 2) := by decide +kernel
theorem dX6_meets_197 : decode cX6_meets 197 = .ok (.goto 8, 3) := by decide +kernel
theorem dX6_meets_200 : decode cX6_meets 200 = .ok (.iload 12, 2) := by decide +kernel
theorem dX6_meets_202 : decode cX6_meets 202 = .ok (.iload 11, 2) := by decide +kernel
theorem dX6_meets_204 : decode cX6_meets 204 = .ok (.isub, 1) := by decide +kernel
theorem dX6_meets_205 : decode cX6_meets 205 = .ok (.istore 11, 2) := by decide +kernel
theorem dX6_meets_207 : decode cX6_meets 207 = .ok (.iload 11, 2) := by decide +kernel
theorem dX6_meets_209 : decode cX6_meets 209 = .ok (.aload_n 0, 1) := by decide +kernel
theorem dX6_meets_210 : decode cX6_meets 210 = .ok (.getfield 7, 3) := by decide +kernel
theorem dX6_meets_213 : decode cX6_meets 213 = .ok (.bipush 21, 2) := by decide +kernel
theorem dX6_meets_215 : decode cX6_meets 215 = .ok (.iload_n 1, 1) := by decide +kernel
theorem dX6_meets_216 : decode cX6_meets 216 = .ok (.iadd, 1) := by decide +kernel
theorem dX6_meets_217 : decode cX6_meets 217 = .ok (.iaload, 1) := by decide +kernel
theorem dX6_meets_218 : decode cX6_meets 218 = .ok (.iload 10, 2) := by decide +kernel
theorem dX6_meets_220 : decode cX6_meets 220 = .ok (.imul, 1) := by decide +kernel
theorem dX6_meets_221 : decode cX6_meets 221 = .ok (.if_icmp .lt 24, 3) := by decide +kernel
theorem dX6_meets_224 : decode cX6_meets 224 = .ok (.iload 11, 2) := by decide +kernel
theorem dX6_meets_226 : decode cX6_meets 226 = .ok (.aload_n 0, 1) := by decide +kernel
theorem dX6_meets_227 : decode cX6_meets 227 = .ok (.getfield 7, 3) := by decide +kernel
theorem dX6_meets_230 : decode cX6_meets 230 = .ok (.bipush 24, 2) := by decide +kernel
theorem dX6_meets_232 : decode cX6_meets 232 = .ok (.iload_n 1, 1) := by decide +kernel
theorem dX6_meets_233 : decode cX6_meets 233 = .ok (.iadd, 1) := by decide +kernel
theorem dX6_meets_234 : decode cX6_meets 234 = .ok (.iaload, 1) := by decide +kernel
theorem dX6_meets_235 : decode cX6_meets 235 = .ok (.iload 10, 2) := by decide +kernel
theorem dX6_meets_237 : decode cX6_meets 237 = .ok (.imul, 1) := by decide +kernel
theorem dX6_meets_238 : decode cX6_meets 238 = .ok (.if_icmp .gt 7, 3) := by decide +kernel
theorem dX6_meets_241 : decode cX6_meets 241 = .ok (.iconst 1, 1) := by decide +kernel
theorem dX6_meets_242 : decode cX6_meets 242 = .ok (.goto 4, 3) := by decide +kernel
theorem dX6_meets_245 : decode cX6_meets 245 = .ok (.iconst 0, 1) := by decide +kernel
theorem dX6_meets_246 : decode cX6_meets 246 = .ok (.ireturn, 1) := by decide +kernel
set_option maxRecDepth 20000 in
theorem ggX6_isHidden_X6_meets : GoodIn wsX6_isHidden wsX6_meets := goodIn_r _ [6, 1, 7, 8, 5, 9, 10, 11, 12, 13, 14, 15, 16, 17, 18, 19, 20, 21, 22, 23, 24, 25, 26, 27, 28, 29, 30, 31, 32, 33, 34] (by decide +kernel) (by decide +kernel)
set_option maxRecDepth 20000 in
theorem gX6_isHidden_X6_meets : GoodIn wsX6_isHidden (wsV RX6 154 RX6 yX6_meets wsX6_meets) := goodIn_app (goodIn_of _ (by decide +kernel)) ggX6_isHidden_X6_meets
theorem dX6_isHidden_0 : decode cX6_isHidden 0 = .ok (.iconst 0, 1) := by decide +kernel
theorem dX6_isHidden_1 : decode cX6_isHidden 1 = .ok (.istore 5, 2) := by decide +kernel
theorem dX6_isHidden_3 : decode cX6_isHidden 3 = .ok (.iconst 0, 1) := by decide +kernel
theorem dX6_isHidden_4 : decode cX6_isHidden 4 = .ok (.istore 6, 2) := by decide +kernel
theorem dX6_isHidden_6 : decode cX6_isHidden 6 = .ok (.iload 6, 2) := by decide +kernel
theorem dX6_isHidden_8 : decode cX6_isHidden 8 = .ok (.aload_n 0, 1) := by decide +kernel
theorem dX6_isHidden_9 : decode cX6_isHidden 9 = .ok (.getfield 7, 3) := by decide +kernel
theorem dX6_isHidden_12 : decode cX6_isHidden 12 = .ok (.bipush 17, 2) := by decide +kernel
theorem dX6_isHidden_14 : decode cX6_isHidden 14 = .ok (.iaload, 1) := by decide +kernel
theorem dX6_isHidden_15 : decode cX6_isHidden 15 = .ok (.if_icmp .ge 53, 3) := by decide +kernel
theorem dX6_isHidden_18 : decode cX6_isHidden 18 = .ok (.bipush (-5), 2) := by decide +kernel
theorem dX6_isHidden_20 : decode cX6_isHidden 20 = .ok (.istore 7, 2) := by decide +kernel
theorem dX6_isHidden_22 : decode cX6_isHidden 22 = .ok (.iload 7, 2) := by decide +kernel
theorem dX6_isHidden_24 : decode cX6_isHidden 24 = .ok (.iconst 5, 1) := by decide +kernel
theorem dX6_isHidden_25 : decode cX6_isHidden 25 = .ok (.if_icmp .gt 37, 3) := by decide +kernel
theorem dX6_isHidden_28 : decode cX6_isHidden 28 = .ok (.iload 5, 2) := by decide +kernel
theorem dX6_isHidden_30 : decode cX6_isHidden 30 = .ok (.ifCond .ne 19, 3) := by decide +kernel
theorem dX6_isHidden_33 : decode cX6_isHidden 33 = .ok (.aload_n 0, 1) := by decide +kernel
theorem dX6_isHidden_34 : decode cX6_isHidden 34 = .ok (.iload 6, 2) := by decide +kernel
theorem dX6_isHidden_36 : decode cX6_isHidden 36 = .ok (.iload 7, 2) := by decide +kernel
theorem dX6_isHidden_38 : decode cX6_isHidden 38 = .ok (.iload_n 1, 1) := by decide +kernel
theorem dX6_isHidden_39 : decode cX6_isHidden 39 = .ok (.iload_n 2, 1) := by decide +kernel
theorem dX6_isHidden_40 : decode cX6_isHidden 40 = .ok (.iload_n 3, 1) := by decide +kernel
theorem dX6_isHidden_41 : decode cX6_isHidden 41 = .ok (.iload 4, 2) := by decide +kernel
theorem dX6_isHidden_43 : decode cX6_isHidden 43 = .ok (.invokevirtual 154, 3) := by decide +kernel
theorem dX6_isHidden_46 : decode cX6_isHidden 46 = .ok (.ifCond .eq 7, 3) := by decide +kernel
theorem dX6_isHidden_49 : decode cX6_isHidden 49 = .ok (.iconst 1, 1) := by decide +kernel
theorem dX6_isHidden_50 : decode cX6_isHidden 50 = .ok (.goto 4, 3) := by decide +kernel
theorem dX6_isHidden_53 : decode cX6_isHidden 53 = .ok (.iconst 0, 1) := by decide +kernel
theorem dX6_isHidden_54 : decode cX6_isHidden 54 = .ok (.istore 5, 2) := by decide +kernel
theorem dX6_isHidden_56 : decode cX6_isHidden 56 = .ok (.iinc 7 1, 3) := by decide +kernel
theorem dX6_isHidden_59 : decode cX6_isHidden 59 = .ok (.goto (-37), 3) := by decide +kernel
theorem dX6_isHidden_62 : decode cX6_isHidden 62 = .ok (.iinc 6 1, 3) := by decide +kernel
theorem dX6_isHidden_65 : decode cX6_isHidden 65 = .ok (.goto (-59), 3) := by decide +kernel
theorem dX6_isHidden_68 : decode cX6_isHidden 68 = .ok (.iload 5, 2) := by decide +kernel
theorem dX6_isHidden_70 : decode cX6_isHidden 70 = .ok (.ireturn, 1) := by decide +kernel
set_option maxRecDepth 20000 in
theorem ggX6_path_X6_isSeat : GoodIn wsX6_path wsX6_isSeat := goodIn_r _ [6, 1, 7, 8, 5, 9, 47, 48, 49, 50, 51, 52, 53, 54, 55, 56, 57, 58, 59, 60, 61, 62, 63, 64, 65, 66, 67, 68] (by decide +kernel) (by decide +kernel)
set_option maxRecDepth 20000 in
theorem gX6_path_X6_isSeat : GoodIn wsX6_path (wsV RX6 122 RX6 yX6_isSeat wsX6_isSeat) := goodIn_app (goodIn_of _ (by decide +kernel)) ggX6_path_X6_isSeat
set_option maxRecDepth 20000 in
theorem ggX6_path_X6_isImage : GoodIn wsX6_path wsX6_isImage := goodIn_r _ [12, 7, 8, 5, 9, 13, 14, 15] (by decide +kernel) (by decide +kernel)
set_option maxRecDepth 20000 in
theorem gX6_path_X6_isImage : GoodIn wsX6_path (va_wsS RX6 142 yX6_isImage wsX6_isImage) := goodIn_app (goodIn_of _ (by decide +kernel)) ggX6_path_X6_isImage
set_option maxRecDepth 20000 in
theorem ggX6_path_X6_in : GoodIn wsX6_path wsX6_in := goodIn_r _ [9] (by decide +kernel) (by decide +kernel)
set_option maxRecDepth 20000 in
theorem gX6_path_X6_in : GoodIn wsX6_path (va_wsS RX6 75 yX6_in wsX6_in) := goodIn_app (goodIn_of _ (by decide +kernel)) ggX6_path_X6_in
set_option maxRecDepth 20000 in
theorem ggX6_path_X6_wayOf : GoodIn wsX6_path wsX6_wayOf := goodIn_r _ [19, 1, 20, 21, 5, 22, 47, 48, 49, 50, 51, 52, 53, 54, 55, 56, 57, 58, 59, 60, 61, 62, 63, 64, 65, 66, 67, 68] (by decide +kernel) (by decide +kernel)
set_option maxRecDepth 20000 in
theorem gX6_path_X6_wayOf : GoodIn wsX6_path (wsV RX6 158 RX6 yX6_wayOf wsX6_wayOf) := goodIn_app (goodIn_of _ (by decide +kernel)) ggX6_path_X6_wayOf
set_option maxRecDepth 20000 in
theorem ggX6_path_X6_swallowsNow : GoodIn wsX6_path wsX6_swallowsNow := goodIn_r _ [26, 27, 1, 47, 48, 49, 50, 51, 52, 53, 54, 55, 56, 57, 58, 59, 60, 61, 62, 63, 64, 65, 66, 67, 68] (by decide +kernel) (by decide +kernel)
set_option maxRecDepth 20000 in
theorem gX6_path_X6_swallowsNow : GoodIn wsX6_path (wsV RX6 162 RX6 yX6_swallowsNow wsX6_swallowsNow) := goodIn_app (goodIn_of _ (by decide +kernel)) ggX6_path_X6_swallowsNow
set_option maxRecDepth 20000 in
theorem ggX6_path_X6_timeOf : GoodIn wsX6_path wsX6_timeOf := goodIn_r _ [30] (by decide +kernel) (by decide +kernel)
set_option maxRecDepth 20000 in
theorem gX6_path_X6_timeOf : GoodIn wsX6_path (va_wsS RX6 165 yX6_timeOf wsX6_timeOf) := goodIn_app (goodIn_of _ (by decide +kernel)) ggX6_path_X6_timeOf
set_option maxRecDepth 20000 in
theorem ggX6_path_X6_strengthOf : GoodIn wsX6_path wsX6_strengthOf := goodIn_r _ [34, 35, 27, 36, 37, 5, 38, 13, 14, 15, 47, 48, 49, 50, 51, 52, 53, 54, 55, 56, 57, 58, 59, 60, 61, 62, 63, 64, 65, 66, 67, 68] (by decide +kernel) (by decide +kernel)
set_option maxRecDepth 20000 in
theorem gX6_path_X6_strengthOf : GoodIn wsX6_path (wsV RX6 168 RX6 yX6_strengthOf wsX6_strengthOf) := goodIn_app (goodIn_of _ (by decide +kernel)) ggX6_path_X6_strengthOf
set_option maxRecDepth 20000 in
theorem ggX6_path_X6_isHidden : GoodIn wsX6_path wsX6_isHidden := goodIn_r _ [42, 1, 43, 44, 45, 5, 46, 20, 21, 22, 13, 14, 15, 47, 48, 49, 50, 51, 52, 53, 54, 55, 56, 57, 58, 59, 60, 61, 62, 63, 64, 65, 66, 67, 68] (by decide +kernel) (by decide +kernel)
set_option maxRecDepth 20000 in
theorem gX6_path_X6_isHidden : GoodIn wsX6_path (wsV RX6 171 RX6 yX6_isHidden wsX6_isHidden) := goodIn_app (goodIn_of _ (by decide +kernel)) ggX6_path_X6_isHidden
theorem dX6_path_0 : decode cX6_path 0 = .ok (.aload_n 0, 1) := by decide +kernel
theorem dX6_path_1 : decode cX6_path 1 = .ok (.iload_n 1, 1) := by decide +kernel
theorem dX6_path_2 : decode cX6_path 2 = .ok (.invokevirtual 122, 3) := by decide +kernel
theorem dX6_path_5 : decode cX6_path 5 = .ok (.ifCond .eq 21, 3) := by decide +kernel
theorem dX6_path_8 : decode cX6_path 8 = .ok (.iload_n 2, 1) := by decide +kernel
theorem dX6_path_9 : decode cX6_path 9 = .ok (.iload_n 3, 1) := by decide +kernel
theorem dX6_path_10 : decode cX6_path 10 = .ok (.invokestatic 142, 3) := by decide +kernel
theorem dX6_path_13 : decode cX6_path 13 = .ok (.ifCond .eq 13, 3) := by decide +kernel
theorem dX6_path_16 : decode cX6_path 16 = .ok (.iload 4, 2) := by decide +kernel
theorem dX6_path_18 : decode cX6_path 18 = .ok (.iconst 0, 1) := by decide +kernel
theorem dX6_path_19 : decode cX6_path 19 = .ok (.iconst 3, 1) := by decide +kernel
theorem dX6_path_20 : decode cX6_path 20 = .ok (.invokestatic 75, 3) := by decide +kernel
theorem dX6_path_23 : decode cX6_path 23 = .ok (.ifCond .ne 5, 3) := by decide +kernel
theorem dX6_path_26 : decode cX6_path 26 = .ok (.iconst (-1), 1) := by decide +kernel
theorem dX6_path_27 : decode cX6_path 27 = .ok (.ireturn, 1) := by decide +kernel
theorem dX6_path_28 : decode cX6_path 28 = .ok (.aload_n 0, 1) := by decide +kernel
theorem dX6_path_29 : decode cX6_path 29 = .ok (.getfield 7, 3) := by decide +kernel
theorem dX6_path_32 : decode cX6_path 32 = .ok (.bipush 9, 2) := by decide +kernel
theorem dX6_path_34 : decode cX6_path 34 = .ok (.iload_n 1, 1) := by decide +kernel
theorem dX6_path_35 : decode cX6_path 35 = .ok (.iadd, 1) := by decide +kernel
theorem dX6_path_36 : decode cX6_path 36 = .ok (.iaload, 1) := by decide +kernel
theorem dX6_path_37 : decode cX6_path 37 = .ok (.istore 5, 2) := by decide +kernel
theorem dX6_path_39 : decode cX6_path 39 = .ok (.aload_n 0, 1) := by decide +kernel
theorem dX6_path_40 : decode cX6_path 40 = .ok (.getfield 7, 3) := by decide +kernel
theorem dX6_path_43 : decode cX6_path 43 = .ok (.bipush 13, 2) := by decide +kernel
theorem dX6_path_45 : decode cX6_path 45 = .ok (.iload_n 1, 1) := by decide +kernel
theorem dX6_path_46 : decode cX6_path 46 = .ok (.iadd, 1) := by decide +kernel
theorem dX6_path_47 : decode cX6_path 47 = .ok (.iaload, 1) := by decide +kernel
theorem dX6_path_48 : decode cX6_path 48 = .ok (.istore 6, 2) := by decide +kernel
theorem dX6_path_50 : decode cX6_path 50 = .ok (.aload_n 0, 1) := by decide +kernel
theorem dX6_path_51 : decode cX6_path 51 = .ok (.iload_n 2, 1) := by decide +kernel
theorem dX6_path_52 : decode cX6_path 52 = .ok (.iload_n 3, 1) := by decide +kernel
theorem dX6_path_53 : decode cX6_path 53 = .ok (.iload 5, 2) := by decide +kernel
theorem dX6_path_55 : decode cX6_path 55 = .ok (.iload 6, 2) := by decide +kernel
theorem dX6_path_57 : decode cX6_path 57 = .ok (.invokevirtual 158, 3) := by decide +kernel
theorem dX6_path_60 : decode cX6_path 60 = .ok (.istore 7, 2) := by decide +kernel
theorem dX6_path_62 : decode cX6_path 62 = .ok (.aload_n 0, 1) := by decide +kernel
theorem dX6_path_63 : decode cX6_path 63 = .ok (.invokevirtual 162, 3) := by decide +kernel
theorem dX6_path_66 : decode cX6_path 66 = .ok (.iload 4, 2) := by decide +kernel
theorem dX6_path_68 : decode cX6_path 68 = .ok (.ifCond .ne 8, 3) := by decide +kernel
theorem dX6_path_71 : decode cX6_path 71 = .ok (.iload 7, 2) := by decide +kernel
theorem dX6_path_73 : decode cX6_path 73 = .ok (.goto 52, 3) := by decide +kernel
theorem dX6_path_76 : decode cX6_path 76 = .ok (.iload 4, 2) := by decide +kernel
theorem dX6_path_78 : decode cX6_path 78 = .ok (.iconst 1, 1) := by decide +kernel
theorem dX6_path_79 : decode cX6_path 79 = .ok (.if_icmp .ne 11, 3) := by decide +kernel
theorem dX6_path_82 : decode cX6_path 82 = .ok (.iload 7, 2) := by decide +kernel
theorem dX6_path_84 : decode cX6_path 84 = .ok (.invokestatic 165, 3) := by decide +kernel
theorem dX6_path_87 : decode cX6_path 87 = .ok (.goto 38, 3) := by decide +kernel
theorem dX6_path_90 : decode cX6_path 90 = .ok (.iload 4, 2) := by decide +kernel
theorem dX6_path_92 : decode cX6_path 92 = .ok (.iconst 2, 1) := by decide +kernel
theorem dX6_path_93 : decode cX6_path 93 = .ok (.if_icmp .ne 14, 3) := by decide +kernel
theorem dX6_path_96 : decode cX6_path 96 = .ok (.aload_n 0, 1) := by decide +kernel
theorem dX6_path_97 : decode cX6_path 97 = .ok (.iload_n 2, 1) := by decide +kernel
theorem dX6_path_98 : decode cX6_path 98 = .ok (.iload_n 3, 1) := by decide +kernel
theorem dX6_path_99 : decode cX6_path 99 = .ok (.iload 7, 2) := by decide +kernel
theorem dX6_path_101 : decode cX6_path 101 = .ok (.invokevirtual 168, 3) := by decide +kernel
theorem dX6_path_104 : decode cX6_path 104 = .ok (.goto 21, 3) := by decide +kernel
theorem dX6_path_107 : decode cX6_path 107 = .ok (.aload_n 0, 1) := by decide +kernel
theorem dX6_path_108 : decode cX6_path 108 = .ok (.iload_n 2, 1) := by decide +kernel
theorem dX6_path_109 : decode cX6_path 109 = .ok (.iload_n 3, 1) := by decide +kernel
theorem dX6_path_110 : decode cX6_path 110 = .ok (.iload 5, 2) := by decide +kernel
theorem dX6_path_112 : decode cX6_path 112 = .ok (.iload 6, 2) := by decide +kernel
theorem dX6_path_114 : decode cX6_path 114 = .ok (.invokevirtual 171, 3) := by decide +kernel
theorem dX6_path_117 : decode cX6_path 117 = .ok (.ifCond .eq 7, 3) := by decide +kernel
theorem dX6_path_120 : decode cX6_path 120 = .ok (.iconst 1, 1) := by decide +kernel
theorem dX6_path_121 : decode cX6_path 121 = .ok (.goto 4, 3) := by decide +kernel
theorem dX6_path_124 : decode cX6_path 124 = .ok (.iconst 0, 1) := by decide +kernel
theorem dX6_path_125 : decode cX6_path 125 = .ok (.ireturn, 1) := by decide +kernel
set_option maxRecDepth 20000 in
theorem ggX6_hears_X6_isImage : GoodIn wsX6_hears wsX6_isImage := goodIn_r _ [9, 10, 11, 8, 12, 13, 14, 15] (by decide +kernel) (by decide +kernel)
set_option maxRecDepth 20000 in
theorem gX6_hears_X6_isImage : GoodIn wsX6_hears (va_wsS RX6 142 yX6_isImage wsX6_isImage) := goodIn_app (goodIn_of _ (by decide +kernel)) ggX6_hears_X6_isImage
set_option maxRecDepth 20000 in
theorem ggX6_hears_X6_isHidden : GoodIn wsX6_hears wsX6_isHidden := goodIn_r _ [19, 1, 20, 21, 22, 8, 23, 24, 25, 26, 13, 14, 15, 43, 44, 45, 46, 47, 48, 49, 50, 51, 52, 53, 54, 55, 56, 57, 58, 59, 60, 61, 62, 63, 64] (by decide +kernel) (by decide +kernel)
set_option maxRecDepth 20000 in
theorem gX6_hears_X6_isHidden : GoodIn wsX6_hears (wsV RX6 171 RX6 yX6_isHidden wsX6_isHidden) := goodIn_app (goodIn_of _ (by decide +kernel)) ggX6_hears_X6_isHidden
set_option maxRecDepth 20000 in
theorem ggX6_hears_X6_wayOf : GoodIn wsX6_hears wsX6_wayOf := goodIn_r _ [30, 1, 24, 25, 8, 26, 43, 44, 45, 46, 47, 48, 49, 50, 51, 52, 53, 54, 55, 56, 57, 58, 59, 60, 61, 62, 63, 64] (by decide +kernel) (by decide +kernel)
set_option maxRecDepth 20000 in
theorem gX6_hears_X6_wayOf : GoodIn wsX6_hears (wsV RX6 158 RX6 yX6_wayOf wsX6_wayOf) := goodIn_app (goodIn_of _ (by decide +kernel)) ggX6_hears_X6_wayOf
set_option maxRecDepth 20000 in
theorem ggX6_hears_X6_timeOf : GoodIn wsX6_hears wsX6_timeOf := goodIn_r _ [33] (by decide +kernel) (by decide +kernel)
set_option maxRecDepth 20000 in
theorem gX6_hears_X6_timeOf : GoodIn wsX6_hears (va_wsS RX6 165 yX6_timeOf wsX6_timeOf) := goodIn_app (goodIn_of _ (by decide +kernel)) ggX6_hears_X6_timeOf
set_option maxRecDepth 20000 in
theorem ggX6_hears_X6_strengthOf : GoodIn wsX6_hears wsX6_strengthOf := goodIn_r _ [37, 38, 39, 40, 41, 8, 42, 13, 14, 15, 43, 44, 45, 46, 47, 48, 49, 50, 51, 52, 53, 54, 55, 56, 57, 58, 59, 60, 61, 62, 63, 64] (by decide +kernel) (by decide +kernel)
set_option maxRecDepth 20000 in
theorem gX6_hears_X6_strengthOf : GoodIn wsX6_hears (wsV RX6 168 RX6 yX6_strengthOf wsX6_strengthOf) := goodIn_app (goodIn_of _ (by decide +kernel)) ggX6_hears_X6_strengthOf
theorem dX6_hears_0 : decode cX6_hears 0 = .ok (.aload_n 0, 1) := by decide +kernel
theorem dX6_hears_1 : decode cX6_hears 1 = .ok (.getfield 7, 3) := by decide +kernel
theorem dX6_hears_4 : decode cX6_hears 4 = .ok (.bipush 9, 2) := by decide +kernel
theorem dX6_hears_6 : decode cX6_hears 6 = .ok (.iload_n 1, 1) := by decide +kernel
theorem dX6_hears_7 : decode cX6_hears 7 = .ok (.iadd, 1) := by decide +kernel
theorem dX6_hears_8 : decode cX6_hears 8 = .ok (.iaload, 1) := by decide +kernel
theorem dX6_hears_9 : decode cX6_hears 9 = .ok (.istore_n 2, 1) := by decide +kernel
theorem dX6_hears_10 : decode cX6_hears 10 = .ok (.aload_n 0, 1) := by decide +kernel
theorem dX6_hears_11 : decode cX6_hears 11 = .ok (.getfield 7, 3) := by decide +kernel
theorem dX6_hears_14 : decode cX6_hears 14 = .ok (.bipush 13, 2) := by decide +kernel
theorem dX6_hears_16 : decode cX6_hears 16 = .ok (.iload_n 1, 1) := by decide +kernel
theorem dX6_hears_17 : decode cX6_hears 17 = .ok (.iadd, 1) := by decide +kernel
theorem dX6_hears_18 : decode cX6_hears 18 = .ok (.iaload, 1) := by decide +kernel
theorem dX6_hears_19 : decode cX6_hears 19 = .ok (.istore_n 3, 1) := by decide +kernel
theorem dX6_hears_20 : decode cX6_hears 20 = .ok (.aload_n 0, 1) := by decide +kernel
theorem dX6_hears_21 : decode cX6_hears 21 = .ok (.iconst 0, 1) := by decide +kernel
theorem dX6_hears_22 : decode cX6_hears 22 = .ok (.putfield 175, 3) := by decide +kernel
theorem dX6_hears_25 : decode cX6_hears 25 = .ok (.bipush (-3), 2) := by decide +kernel
theorem dX6_hears_27 : decode cX6_hears 27 = .ok (.istore 4, 2) := by decide +kernel
theorem dX6_hears_29 : decode cX6_hears 29 = .ok (.iload 4, 2) := by decide +kernel
theorem dX6_hears_31 : decode cX6_hears 31 = .ok (.iconst 3, 1) := by decide +kernel
theorem dX6_hears_32 : decode cX6_hears 32 = .ok (.if_icmp .gt 124, 3) := by decide +kernel
theorem dX6_hears_35 : decode cX6_hears 35 = .ok (.bipush (-3), 2) := by decide +kernel
theorem dX6_hears_37 : decode cX6_hears 37 = .ok (.istore 5, 2) := by decide +kernel
theorem dX6_hears_39 : decode cX6_hears 39 = .ok (.iload 5, 2) := by decide +kernel
theorem dX6_hears_41 : decode cX6_hears 41 = .ok (.iconst 3, 1) := by decide +kernel
theorem dX6_hears_42 : decode cX6_hears 42 = .ok (.if_icmp .gt 108, 3) := by decide +kernel
theorem dX6_hears_45 : decode cX6_hears 45 = .ok (.iload 4, 2) := by decide +kernel
theorem dX6_hears_47 : decode cX6_hears 47 = .ok (.iload 5, 2) := by decide +kernel
theorem dX6_hears_49 : decode cX6_hears 49 = .ok (.invokestatic 142, 3) := by decide +kernel
theorem dX6_hears_52 : decode cX6_hears 52 = .ok (.ifCond .eq 92, 3) := by decide +kernel
theorem dX6_hears_55 : decode cX6_hears 55 = .ok (.aload_n 0, 1) := by decide +kernel
theorem dX6_hears_56 : decode cX6_hears 56 = .ok (.iload 4, 2) := by decide +kernel
theorem dX6_hears_58 : decode cX6_hears 58 = .ok (.iload 5, 2) := by decide +kernel
theorem dX6_hears_60 : decode cX6_hears 60 = .ok (.iload_n 2, 1) := by decide +kernel
theorem dX6_hears_61 : decode cX6_hears 61 = .ok (.iload_n 3, 1) := by decide +kernel
theorem dX6_hears_62 : decode cX6_hears 62 = .ok (.invokevirtual 171, 3) := by decide +kernel
theorem dX6_hears_65 : decode cX6_hears 65 = .ok (.ifCond .ne 79, 3) := by decide +kernel
theorem dX6_hears_68 : decode cX6_hears 68 = .ok (.aload_n 0, 1) := by decide +kernel
theorem dX6_hears_69 : decode cX6_hears 69 = .ok (.iload 4, 2) := by decide +kernel
theorem dX6_hears_71 : decode cX6_hears 71 = .ok (.iload 5, 2) := by decide +kernel
theorem dX6_hears_73 : decode cX6_hears 73 = .ok (.iload_n 2, 1) := by decide +kernel
theorem dX6_hears_74 : decode cX6_hears 74 = .ok (.iload_n 3, 1) := by decide +kernel
theorem dX6_hears_75 : decode cX6_hears 75 = .ok (.invokevirtual 158, 3) := by decide +kernel
theorem dX6_hears_78 : decode cX6_hears 78 = .ok (.istore 6, 2) := by decide +kernel
theorem dX6_hears_80 : decode cX6_hears 80 = .ok (.aload_n 0, 1) := by decide +kernel
theorem dX6_hears_81 : decode cX6_hears 81 = .ok (.getfield 50, 3) := by decide +kernel
theorem dX6_hears_84 : decode cX6_hears 84 = .ok (.aload_n 0, 1) := by decide +kernel
theorem dX6_hears_85 : decode cX6_hears 85 = .ok (.getfield 175, 3) := by decide +kernel
theorem dX6_hears_88 : decode cX6_hears 88 = .ok (.iload 6, 2) := by decide +kernel
theorem dX6_hears_90 : decode cX6_hears 90 = .ok (.invokestatic 165, 3) := by decide +kernel
theorem dX6_hears_93 : decode cX6_hears 93 = .ok (.iastore, 1) := by decide +kernel
theorem dX6_hears_94 : decode cX6_hears 94 = .ok (.aload_n 0, 1) := by decide +kernel
theorem dX6_hears_95 : decode cX6_hears 95 = .ok (.getfield 53, 3) := by decide +kernel
theorem dX6_hears_98 : decode cX6_hears 98 = .ok (.aload_n 0, 1) := by decide +kernel
theorem dX6_hears_99 : decode cX6_hears 99 = .ok (.getfield 175, 3) := by decide +kernel
theorem dX6_hears_102 : decode cX6_hears 102 = .ok (.aload_n 0, 1) := by decide +kernel
theorem dX6_hears_103 : decode cX6_hears 103 = .ok (.iload 4, 2) := by decide +kernel
theorem dX6_hears_105 : decode cX6_hears 105 = .ok (.iload 5, 2) := by decide +kernel
theorem dX6_hears_107 : decode cX6_hears 107 = .ok (.iload 6, 2) := by decide +kernel
theorem dX6_hears_109 : decode cX6_hears 109 = .ok (.invokevirtual 168, 3) := by decide +kernel
theorem dX6_hears_112 : decode cX6_hears 112 = .ok (.iastore, 1) := by decide +kernel
theorem dX6_hears_113 : decode cX6_hears 113 = .ok (.aload_n 0, 1) := by decide +kernel
theorem dX6_hears_114 : decode cX6_hears 114 = .ok (.getfield 56, 3) := by decide +kernel
theorem dX6_hears_117 : decode cX6_hears 117 = .ok (.aload_n 0, 1) := by decide +kernel
theorem dX6_hears_118 : decode cX6_hears 118 = .ok (.getfield 175, 3) := by decide +kernel
theorem dX6_hears_121 : decode cX6_hears 121 = .ok (.bipush 100, 2) := by decide +kernel
theorem dX6_hears_123 : decode cX6_hears 123 = .ok (.iload 4, 2) := by decide +kernel
theorem dX6_hears_125 : decode cX6_hears 125 = .ok (.iconst 3, 1) := by decide +kernel
theorem dX6_hears_126 : decode cX6_hears 126 = .ok (.iadd, 1) := by decide +kernel
theorem dX6_hears_127 : decode cX6_hears 127 = .ok (.imul, 1) := by decide +kernel
theorem dX6_hears_128 : decode cX6_hears 128 = .ok (.iload 5, 2) := by decide +kernel
theorem dX6_hears_130 : decode cX6_hears 130 = .ok (.iadd, 1) := by decide +kernel
theorem dX6_hears_131 : decode cX6_hears 131 = .ok (.iconst 3, 1) := by decide +kernel
theorem dX6_hears_132 : decode cX6_hears 132 = .ok (.iadd, 1) := by decide +kernel
theorem dX6_hears_133 : decode cX6_hears 133 = .ok (.iastore, 1) := by decide +kernel
theorem dX6_hears_134 : decode cX6_hears 134 = .ok (.aload_n 0, 1) := by decide +kernel
theorem dX6_hears_135 : decode cX6_hears 135 = .ok (.dup, 1) := by decide +kernel
theorem dX6_hears_136 : decode cX6_hears 136 = .ok (.getfield 175, 3) := by decide +kernel
theorem dX6_hears_139 : decode cX6_hears 139 = .ok (.iconst 1, 1) := by decide +kernel
theorem dX6_hears_140 : decode cX6_hears 140 = .ok (.iadd, 1) := by decide +kernel
theorem dX6_hears_141 : decode cX6_hears 141 = .ok (.putfield 175, 3) := by decide +kernel
theorem dX6_hears_144 : decode cX6_hears 144 = .ok (.iinc 5 1, 3) := by decide +kernel
theorem dX6_hears_147 : decode cX6_hears 147 = .ok (.goto (-108), 3) := by decide +kernel
theorem dX6_hears_150 : decode cX6_hears 150 = .ok (.iinc 4 1, 3) := by decide +kernel
theorem dX6_hears_153 : decode cX6_hears 153 = .ok (.goto (-124), 3) := by decide +kernel
theorem dX6_hears_156 : decode cX6_hears 156 = .ok (.return_, 1) := by decide +kernel
set_option maxRecDepth 20000 in
theorem ggX6_hearsNow_X6_swallowsNow : GoodIn wsX6_hearsNow wsX6_swallowsNow := goodIn_r _ [5, 6, 7, 51, 52, 53, 54, 55, 56, 57, 58, 59, 60, 61, 62, 63, 64, 65, 66, 67, 68, 69, 70, 71, 72] (by decide +kernel) (by decide +kernel)
set_option maxRecDepth 20000 in
theorem gX6_hearsNow_X6_swallowsNow : GoodIn wsX6_hearsNow (wsV RX6 162 RX6 yX6_swallowsNow wsX6_swallowsNow) := goodIn_app (goodIn_of _ (by decide +kernel)) ggX6_hearsNow_X6_swallowsNow
set_option maxRecDepth 20000 in
theorem ggX6_hearsNow_X6_hears : GoodIn wsX6_hearsNow wsX6_hears := goodIn_r _ [11, 7, 12, 13, 14, 15, 16, 17, 4, 18, 19, 20, 21, 22, 23, 24, 25, 26, 27, 28, 29, 30, 31, 32, 33, 34, 35, 36, 37, 38, 39, 40, 41, 42, 43, 44, 45, 46, 47, 6, 48, 49, 50, 51, 52, 53, 54, 55, 56, 57, 58, 59, 60, 61, 62, 63, 64, 65, 66, 67, 68, 69, 70, 71, 72] (by decide +kernel) (by decide +kernel)
set_option maxRecDepth 20000 in
theorem gX6_hearsNow_X6_hears : GoodIn wsX6_hearsNow (wsV RX6 178 RX6 yX6_hears wsX6_hears) := goodIn_app (goodIn_of _ (by decide +kernel)) ggX6_hearsNow_X6_hears
theorem dX6_hearsNow_0 : decode cX6_hearsNow 0 = .ok (.aload_n 0, 1) := by decide +kernel
theorem dX6_hearsNow_1 : decode cX6_hearsNow 1 = .ok (.invokevirtual 162, 3) := by decide +kernel
theorem dX6_hearsNow_4 : decode cX6_hearsNow 4 = .ok (.aload_n 0, 1) := by decide +kernel
theorem dX6_hearsNow_5 : decode cX6_hearsNow 5 = .ok (.iload_n 1, 1) := by decide +kernel
theorem dX6_hearsNow_6 : decode cX6_hearsNow 6 = .ok (.invokevirtual 178, 3) := by decide +kernel
end
section
theorem dX6_hearsNow_9 : decode cX6_hearsNow 9 = .ok (.return_, 1) := by decide +kernel
theorem dX6_rankedAt_0 : decode cX6_rankedAt 0 = .ok (.iconst 0, 1) := by decide +kernel
theorem dX6_rankedAt_1 : decode cX6_rankedAt 1 = .ok (.istore_n 2, 1) := by decide +kernel
theorem dX6_rankedAt_2 : decode cX6_rankedAt 2 = .ok (.iconst 0, 1) := by decide +kernel
theorem dX6_rankedAt_3 : decode cX6_rankedAt 3 = .ok (.istore_n 3, 1) := by decide +kernel
theorem dX6_rankedAt_4 : decode cX6_rankedAt 4 = .ok (.iload_n 3, 1) := by decide +kernel
theorem dX6_rankedAt_5 : decode cX6_rankedAt 5 = .ok (.aload_n 0, 1) := by decide +kernel
theorem dX6_rankedAt_6 : decode cX6_rankedAt 6 = .ok (.getfield 175, 3) := by decide +kernel
theorem dX6_rankedAt_9 : decode cX6_rankedAt 9 = .ok (.if_icmp .ge 90, 3) := by decide +kernel
theorem dX6_rankedAt_12 : decode cX6_rankedAt 12 = .ok (.iconst 0, 1) := by decide +kernel
theorem dX6_rankedAt_13 : decode cX6_rankedAt 13 = .ok (.istore 4, 2) := by decide +kernel
theorem dX6_rankedAt_15 : decode cX6_rankedAt 15 = .ok (.iconst 0, 1) := by decide +kernel
theorem dX6_rankedAt_16 : decode cX6_rankedAt 16 = .ok (.istore 5, 2) := by decide +kernel
theorem dX6_rankedAt_18 : decode cX6_rankedAt 18 = .ok (.iload 5, 2) := by decide +kernel
theorem dX6_rankedAt_20 : decode cX6_rankedAt 20 = .ok (.aload_n 0, 1) := by decide +kernel
theorem dX6_rankedAt_21 : decode cX6_rankedAt 21 = .ok (.getfield 175, 3) := by decide +kernel
theorem dX6_rankedAt_24 : decode cX6_rankedAt 24 = .ok (.if_icmp .ge 57, 3) := by decide +kernel
theorem dX6_rankedAt_27 : decode cX6_rankedAt 27 = .ok (.iload 4, 2) := by decide +kernel
theorem dX6_rankedAt_29 : decode cX6_rankedAt 29 = .ok (.aload_n 0, 1) := by decide +kernel
theorem dX6_rankedAt_30 : decode cX6_rankedAt 30 = .ok (.getfield 50, 3) := by decide +kernel
theorem dX6_rankedAt_33 : decode cX6_rankedAt 33 = .ok (.iload 5, 2) := by decide +kernel
theorem dX6_rankedAt_35 : decode cX6_rankedAt 35 = .ok (.iaload, 1) := by decide +kernel
theorem dX6_rankedAt_36 : decode cX6_rankedAt 36 = .ok (.aload_n 0, 1) := by decide +kernel
theorem dX6_rankedAt_37 : decode cX6_rankedAt 37 = .ok (.getfield 50, 3) := by decide +kernel
theorem dX6_rankedAt_40 : decode cX6_rankedAt 40 = .ok (.iload_n 3, 1) := by decide +kernel
theorem dX6_rankedAt_41 : decode cX6_rankedAt 41 = .ok (.iaload, 1) := by decide +kernel
theorem dX6_rankedAt_42 : decode cX6_rankedAt 42 = .ok (.if_icmp .lt 25, 3) := by decide +kernel
theorem dX6_rankedAt_45 : decode cX6_rankedAt 45 = .ok (.aload_n 0, 1) := by decide +kernel
theorem dX6_rankedAt_46 : decode cX6_rankedAt 46 = .ok (.getfield 50, 3) := by decide +kernel
theorem dX6_rankedAt_49 : decode cX6_rankedAt 49 = .ok (.iload 5, 2) := by decide +kernel
theorem dX6_rankedAt_51 : decode cX6_rankedAt 51 = .ok (.iaload, 1) := by decide +kernel
theorem dX6_rankedAt_52 : decode cX6_rankedAt 52 = .ok (.aload_n 0, 1) := by decide +kernel
theorem dX6_rankedAt_53 : decode cX6_rankedAt 53 = .ok (.getfield 50, 3) := by decide +kernel
theorem dX6_rankedAt_56 : decode cX6_rankedAt 56 = .ok (.iload_n 3, 1) := by decide +kernel
theorem dX6_rankedAt_57 : decode cX6_rankedAt 57 = .ok (.iaload, 1) := by decide +kernel
theorem dX6_rankedAt_58 : decode cX6_rankedAt 58 = .ok (.if_icmp .ne 13, 3) := by decide +kernel
theorem dX6_rankedAt_61 : decode cX6_rankedAt 61 = .ok (.iload 5, 2) := by decide +kernel
theorem dX6_rankedAt_63 : decode cX6_rankedAt 63 = .ok (.iload_n 3, 1) := by decide +kernel
theorem dX6_rankedAt_64 : decode cX6_rankedAt 64 = .ok (.if_icmp .ge 7, 3) := by decide +kernel
theorem dX6_rankedAt_67 : decode cX6_rankedAt 67 = .ok (.iconst 1, 1) := by decide +kernel
theorem dX6_rankedAt_68 : decode cX6_rankedAt 68 = .ok (.goto 4, 3) := by decide +kernel
theorem dX6_rankedAt_71 : decode cX6_rankedAt 71 = .ok (.iconst 0, 1) := by decide +kernel
theorem dX6_rankedAt_72 : decode cX6_rankedAt 72 = .ok (.iadd, 1) := by decide +kernel
theorem dX6_rankedAt_73 : decode cX6_rankedAt 73 = .ok (.istore 4, 2) := by decide +kernel
theorem dX6_rankedAt_75 : decode cX6_rankedAt 75 = .ok (.iinc 5 1, 3) := by decide +kernel
theorem dX6_rankedAt_78 : decode cX6_rankedAt 78 = .ok (.goto (-60), 3) := by decide +kernel
theorem dX6_rankedAt_81 : decode cX6_rankedAt 81 = .ok (.iload 4, 2) := by decide +kernel
theorem dX6_rankedAt_83 : decode cX6_rankedAt 83 = .ok (.iload_n 1, 1) := by decide +kernel
theorem dX6_rankedAt_84 : decode cX6_rankedAt 84 = .ok (.if_icmp .ne 7, 3) := by decide +kernel
theorem dX6_rankedAt_87 : decode cX6_rankedAt 87 = .ok (.iload_n 3, 1) := by decide +kernel
theorem dX6_rankedAt_88 : decode cX6_rankedAt 88 = .ok (.goto 4, 3) := by decide +kernel
theorem dX6_rankedAt_91 : decode cX6_rankedAt 91 = .ok (.iload_n 2, 1) := by decide +kernel
theorem dX6_rankedAt_92 : decode cX6_rankedAt 92 = .ok (.istore_n 2, 1) := by decide +kernel
theorem dX6_rankedAt_93 : decode cX6_rankedAt 93 = .ok (.iinc 3 1, 3) := by decide +kernel
theorem dX6_rankedAt_96 : decode cX6_rankedAt 96 = .ok (.goto (-92), 3) := by decide +kernel
theorem dX6_rankedAt_99 : decode cX6_rankedAt 99 = .ok (.iload_n 2, 1) := by decide +kernel
theorem dX6_rankedAt_100 : decode cX6_rankedAt 100 = .ok (.ireturn, 1) := by decide +kernel
set_option maxRecDepth 20000 in
theorem ggX6_heard_X6_isSeat : GoodIn wsX6_heard wsX6_isSeat := goodIn_r _ [9, 10, 11, 12, 8, 13, 63, 64, 65, 66, 67, 68, 69, 70, 71, 72, 73, 74, 75, 76, 77, 78, 79, 80, 81, 82, 83, 84] (by decide +kernel) (by decide +kernel)
set_option maxRecDepth 20000 in
theorem gX6_heard_X6_isSeat : GoodIn wsX6_heard (wsV RX6 122 RX6 yX6_isSeat wsX6_isSeat) := goodIn_app (goodIn_of _ (by decide +kernel)) ggX6_heard_X6_isSeat
set_option maxRecDepth 20000 in
theorem ggX6_heard_X6_in : GoodIn wsX6_heard wsX6_in := goodIn_r _ [13] (by decide +kernel) (by decide +kernel)
set_option maxRecDepth 20000 in
theorem gX6_heard_X6_in : GoodIn wsX6_heard (va_wsS RX6 75 yX6_in wsX6_in) := goodIn_app (goodIn_of _ (by decide +kernel)) ggX6_heard_X6_in
set_option maxRecDepth 20000 in
theorem ggX6_heard_X6_hearsNow : GoodIn wsX6_heard wsX6_hearsNow := goodIn_r _ [17, 18, 19, 20, 8, 21, 22, 10, 23, 24, 25, 26, 1, 2, 3, 4, 27, 28, 29, 11, 12, 13, 30, 31, 32, 33, 34, 35, 36, 37, 38, 39, 40, 41, 42, 43, 44, 45, 46, 47, 48, 49, 50, 51, 52, 53, 54, 55, 56, 57, 58, 63, 64, 65, 66, 67, 68, 69, 70, 71, 72, 73, 74, 75, 76, 77, 78, 79, 80, 81, 82, 83, 84] (by decide +kernel) (by decide +kernel)
set_option maxRecDepth 20000 in
theorem gX6_heard_X6_hearsNow : GoodIn wsX6_heard (wsV RX6 181 RX6 yX6_hearsNow wsX6_hearsNow) := goodIn_app (goodIn_of _ (by decide +kernel)) ggX6_heard_X6_hearsNow
set_option maxRecDepth 20000 in
theorem ggX6_heard_X6_rankedAt : GoodIn wsX6_heard wsX6_rankedAt := goodIn_r _ [62, 1, 2, 63, 64, 65, 66, 67, 68, 69, 70, 71, 72, 73, 74, 75, 76, 77, 78, 79, 80, 81, 82, 83, 84] (by decide +kernel) (by decide +kernel)
set_option maxRecDepth 20000 in
theorem gX6_heard_X6_rankedAt : GoodIn wsX6_heard (wsV RX6 184 RX6 yX6_rankedAt wsX6_rankedAt) := goodIn_app (goodIn_of _ (by decide +kernel)) ggX6_heard_X6_rankedAt
theorem dX6_heard_0 : decode cX6_heard 0 = .ok (.aload_n 0, 1) := by decide +kernel
theorem dX6_heard_1 : decode cX6_heard 1 = .ok (.iload_n 1, 1) := by decide +kernel
theorem dX6_heard_2 : decode cX6_heard 2 = .ok (.invokevirtual 122, 3) := by decide +kernel
theorem dX6_heard_5 : decode cX6_heard 5 = .ok (.ifCond .eq 16, 3) := by decide +kernel
theorem dX6_heard_8 : decode cX6_heard 8 = .ok (.iload_n 2, 1) := by decide +kernel
theorem dX6_heard_9 : decode cX6_heard 9 = .ok (.ifCond .lt 12, 3) := by decide +kernel
theorem dX6_heard_12 : decode cX6_heard 12 = .ok (.iload_n 3, 1) := by decide +kernel
theorem dX6_heard_13 : decode cX6_heard 13 = .ok (.iconst 0, 1) := by decide +kernel
theorem dX6_heard_14 : decode cX6_heard 14 = .ok (.iconst 2, 1) := by decide +kernel
theorem dX6_heard_15 : decode cX6_heard 15 = .ok (.invokestatic 75, 3) := by decide +kernel
theorem dX6_heard_18 : decode cX6_heard 18 = .ok (.ifCond .ne 5, 3) := by decide +kernel
theorem dX6_heard_21 : decode cX6_heard 21 = .ok (.iconst (-1), 1) := by decide +kernel
theorem dX6_heard_22 : decode cX6_heard 22 = .ok (.ireturn, 1) := by decide +kernel
theorem dX6_heard_23 : decode cX6_heard 23 = .ok (.aload_n 0, 1) := by decide +kernel
theorem dX6_heard_24 : decode cX6_heard 24 = .ok (.iload_n 1, 1) := by decide +kernel
theorem dX6_heard_25 : decode cX6_heard 25 = .ok (.invokevirtual 181, 3) := by decide +kernel
theorem dX6_heard_28 : decode cX6_heard 28 = .ok (.iload_n 2, 1) := by decide +kernel
theorem dX6_heard_29 : decode cX6_heard 29 = .ok (.aload_n 0, 1) := by decide +kernel
theorem dX6_heard_30 : decode cX6_heard 30 = .ok (.getfield 175, 3) := by decide +kernel
theorem dX6_heard_33 : decode cX6_heard 33 = .ok (.if_icmp .lt 6, 3) := by decide +kernel
theorem dX6_heard_36 : decode cX6_heard 36 = .ok (.bipush (-9), 2) := by decide +kernel
theorem dX6_heard_38 : decode cX6_heard 38 = .ok (.ireturn, 1) := by decide +kernel
theorem dX6_heard_39 : decode cX6_heard 39 = .ok (.aload_n 0, 1) := by decide +kernel
theorem dX6_heard_40 : decode cX6_heard 40 = .ok (.iload_n 2, 1) := by decide +kernel
theorem dX6_heard_41 : decode cX6_heard 41 = .ok (.invokevirtual 184, 3) := by decide +kernel
theorem dX6_heard_44 : decode cX6_heard 44 = .ok (.istore 4, 2) := by decide +kernel
theorem dX6_heard_46 : decode cX6_heard 46 = .ok (.iload_n 3, 1) := by decide +kernel
theorem dX6_heard_47 : decode cX6_heard 47 = .ok (.ifCond .ne 13, 3) := by decide +kernel
theorem dX6_heard_50 : decode cX6_heard 50 = .ok (.aload_n 0, 1) := by decide +kernel
theorem dX6_heard_51 : decode cX6_heard 51 = .ok (.getfield 50, 3) := by decide +kernel
theorem dX6_heard_54 : decode cX6_heard 54 = .ok (.iload 4, 2) := by decide +kernel
theorem dX6_heard_56 : decode cX6_heard 56 = .ok (.iaload, 1) := by decide +kernel
theorem dX6_heard_57 : decode cX6_heard 57 = .ok (.goto 25, 3) := by decide +kernel
theorem dX6_heard_60 : decode cX6_heard 60 = .ok (.iload_n 3, 1) := by decide +kernel
theorem dX6_heard_61 : decode cX6_heard 61 = .ok (.iconst 1, 1) := by decide +kernel
theorem dX6_heard_62 : decode cX6_heard 62 = .ok (.if_icmp .ne 13, 3) := by decide +kernel
theorem dX6_heard_65 : decode cX6_heard 65 = .ok (.aload_n 0, 1) := by decide +kernel
theorem dX6_heard_66 : decode cX6_heard 66 = .ok (.getfield 53, 3) := by decide +kernel
theorem dX6_heard_69 : decode cX6_heard 69 = .ok (.iload 4, 2) := by decide +kernel
theorem dX6_heard_71 : decode cX6_heard 71 = .ok (.iaload, 1) := by decide +kernel
theorem dX6_heard_72 : decode cX6_heard 72 = .ok (.goto 10, 3) := by decide +kernel
theorem dX6_heard_75 : decode cX6_heard 75 = .ok (.aload_n 0, 1) := by decide +kernel
theorem dX6_heard_76 : decode cX6_heard 76 = .ok (.getfield 56, 3) := by decide +kernel
theorem dX6_heard_79 : decode cX6_heard 79 = .ok (.iload 4, 2) := by decide +kernel
theorem dX6_heard_81 : decode cX6_heard 81 = .ok (.iaload, 1) := by decide +kernel
theorem dX6_heard_82 : decode cX6_heard 82 = .ok (.ireturn, 1) := by decide +kernel
theorem dX6_soundBy_0 : decode cX6_soundBy 0 = .ok (.iconst 0, 1) := by decide +kernel
theorem dX6_soundBy_1 : decode cX6_soundBy 1 = .ok (.istore_n 2, 1) := by decide +kernel
theorem dX6_soundBy_2 : decode cX6_soundBy 2 = .ok (.iconst 0, 1) := by decide +kernel
theorem dX6_soundBy_3 : decode cX6_soundBy 3 = .ok (.istore_n 3, 1) := by decide +kernel
theorem dX6_soundBy_4 : decode cX6_soundBy 4 = .ok (.iload_n 3, 1) := by decide +kernel
theorem dX6_soundBy_5 : decode cX6_soundBy 5 = .ok (.aload_n 0, 1) := by decide +kernel
theorem dX6_soundBy_6 : decode cX6_soundBy 6 = .ok (.getfield 175, 3) := by decide +kernel
theorem dX6_soundBy_9 : decode cX6_soundBy 9 = .ok (.if_icmp .ge 32, 3) := by decide +kernel
theorem dX6_soundBy_12 : decode cX6_soundBy 12 = .ok (.iload_n 2, 1) := by decide +kernel
theorem dX6_soundBy_13 : decode cX6_soundBy 13 = .ok (.aload_n 0, 1) := by decide +kernel
theorem dX6_soundBy_14 : decode cX6_soundBy 14 = .ok (.getfield 50, 3) := by decide +kernel
theorem dX6_soundBy_17 : decode cX6_soundBy 17 = .ok (.iload_n 3, 1) := by decide +kernel
theorem dX6_soundBy_18 : decode cX6_soundBy 18 = .ok (.iaload, 1) := by decide +kernel
theorem dX6_soundBy_19 : decode cX6_soundBy 19 = .ok (.iload_n 1, 1) := by decide +kernel
theorem dX6_soundBy_20 : decode cX6_soundBy 20 = .ok (.if_icmp .gt 12, 3) := by decide +kernel
theorem dX6_soundBy_23 : decode cX6_soundBy 23 = .ok (.aload_n 0, 1) := by decide +kernel
theorem dX6_soundBy_24 : decode cX6_soundBy 24 = .ok (.getfield 53, 3) := by decide +kernel
theorem dX6_soundBy_27 : decode cX6_soundBy 27 = .ok (.iload_n 3, 1) := by decide +kernel
theorem dX6_soundBy_28 : decode cX6_soundBy 28 = .ok (.iaload, 1) := by decide +kernel
theorem dX6_soundBy_29 : decode cX6_soundBy 29 = .ok (.goto 4, 3) := by decide +kernel
theorem dX6_soundBy_32 : decode cX6_soundBy 32 = .ok (.iconst 0, 1) := by decide +kernel
theorem dX6_soundBy_33 : decode cX6_soundBy 33 = .ok (.iadd, 1) := by decide +kernel
theorem dX6_soundBy_34 : decode cX6_soundBy 34 = .ok (.istore_n 2, 1) := by decide +kernel
theorem dX6_soundBy_35 : decode cX6_soundBy 35 = .ok (.iinc 3 1, 3) := by decide +kernel
theorem dX6_soundBy_38 : decode cX6_soundBy 38 = .ok (.goto (-34), 3) := by decide +kernel
theorem dX6_soundBy_41 : decode cX6_soundBy 41 = .ok (.iload_n 2, 1) := by decide +kernel
theorem dX6_soundBy_42 : decode cX6_soundBy 42 = .ok (.ireturn, 1) := by decide +kernel
set_option maxRecDepth 20000 in
theorem ggX6_soundAll_X6_soundBy : GoodIn wsX6_soundAll wsX6_soundBy := goodIn_r _ [5, 6, 7, 8, 9, 10, 11, 12, 13, 14, 15, 16, 17, 18, 19, 20, 21, 22, 23, 24, 25, 26, 27, 28, 29, 30] (by decide +kernel) (by decide +kernel)
set_option maxRecDepth 20000 in
theorem gX6_soundAll_X6_soundBy : GoodIn wsX6_soundAll (wsV RX6 187 RX6 yX6_soundBy wsX6_soundBy) := goodIn_app (goodIn_of _ (by decide +kernel)) ggX6_soundAll_X6_soundBy
theorem dX6_soundAll_0 : decode cX6_soundAll 0 = .ok (.aload_n 0, 1) := by decide +kernel
theorem dX6_soundAll_1 : decode cX6_soundAll 1 = .ok (.sipush 2000, 3) := by decide +kernel
theorem dX6_soundAll_4 : decode cX6_soundAll 4 = .ok (.invokevirtual 187, 3) := by decide +kernel
theorem dX6_soundAll_7 : decode cX6_soundAll 7 = .ok (.ireturn, 1) := by decide +kernel
set_option maxRecDepth 20000 in
theorem ggX6_sound_X6_isSeat : GoodIn wsX6_sound wsX6_isSeat := goodIn_r _ [7, 8, 9, 10, 6, 11, 71, 72, 73, 74, 75, 76, 77, 78, 79, 80, 81, 82, 83, 84, 85, 86, 87, 88, 89, 90, 91, 92] (by decide +kernel) (by decide +kernel)
set_option maxRecDepth 20000 in
theorem gX6_sound_X6_isSeat : GoodIn wsX6_sound (wsV RX6 122 RX6 yX6_isSeat wsX6_isSeat) := goodIn_app (goodIn_of _ (by decide +kernel)) ggX6_sound_X6_isSeat
set_option maxRecDepth 20000 in
theorem ggX6_sound_X6_in : GoodIn wsX6_sound wsX6_in := goodIn_r _ [11] (by decide +kernel) (by decide +kernel)
set_option maxRecDepth 20000 in
theorem gX6_sound_X6_in : GoodIn wsX6_sound (va_wsS RX6 75 yX6_in wsX6_in) := goodIn_app (goodIn_of _ (by decide +kernel)) ggX6_sound_X6_in
set_option maxRecDepth 20000 in
theorem ggX6_sound_X6_hearsNow : GoodIn wsX6_sound wsX6_hearsNow := goodIn_r _ [15, 16, 17, 18, 6, 19, 20, 8, 21, 22, 23, 24, 1, 2, 25, 26, 27, 28, 29, 9, 10, 11, 30, 31, 32, 33, 34, 35, 36, 37, 38, 39, 40, 41, 42, 43, 44, 45, 46, 47, 48, 49, 50, 51, 52, 53, 54, 55, 56, 57, 58, 71, 72, 73, 74, 75, 76, 77, 78, 79, 80, 81, 82, 83, 84, 85, 86, 87, 88, 89, 90, 91, 92] (by decide +kernel) (by decide +kernel)
set_option maxRecDepth 20000 in
theorem gX6_sound_X6_hearsNow : GoodIn wsX6_sound (wsV RX6 181 RX6 yX6_hearsNow wsX6_hearsNow) := goodIn_app (goodIn_of _ (by decide +kernel)) ggX6_sound_X6_hearsNow
set_option maxRecDepth 20000 in
theorem ggX6_sound_X6_soundAll : GoodIn wsX6_sound wsX6_soundAll := goodIn_r _ [62, 63, 64, 65, 6, 66, 1, 2, 25, 71, 72, 73, 74, 75, 76, 77, 78, 79, 80, 81, 82, 83, 84, 85, 86, 87, 88, 89, 90, 91, 92] (by decide +kernel) (by decide +kernel)
set_option maxRecDepth 20000 in
theorem gX6_sound_X6_soundAll : GoodIn wsX6_sound (wsV RX6 190 RX6 yX6_soundAll wsX6_soundAll) := goodIn_app (goodIn_of _ (by decide +kernel)) ggX6_sound_X6_soundAll
set_option maxRecDepth 20000 in
theorem ggX6_sound_X6_rankedAt : GoodIn wsX6_sound wsX6_rankedAt := goodIn_r _ [70, 1, 2, 71, 72, 73, 74, 75, 76, 77, 78, 79, 80, 81, 82, 83, 84, 85, 86, 87, 88, 89, 90, 91, 92] (by decide +kernel) (by decide +kernel)
set_option maxRecDepth 20000 in
theorem gX6_sound_X6_rankedAt : GoodIn wsX6_sound (wsV RX6 184 RX6 yX6_rankedAt wsX6_rankedAt) := goodIn_app (goodIn_of _ (by decide +kernel)) ggX6_sound_X6_rankedAt
theorem dX6_sound_0 : decode cX6_sound 0 = .ok (.aload_n 0, 1) := by decide +kernel
theorem dX6_sound_1 : decode cX6_sound 1 = .ok (.iload_n 1, 1) := by decide +kernel
theorem dX6_sound_2 : decode cX6_sound 2 = .ok (.invokevirtual 122, 3) := by decide +kernel
theorem dX6_sound_5 : decode cX6_sound 5 = .ok (.ifCond .eq 12, 3) := by decide +kernel
theorem dX6_sound_8 : decode cX6_sound 8 = .ok (.iload_n 2, 1) := by decide +kernel
theorem dX6_sound_9 : decode cX6_sound 9 = .ok (.iconst 0, 1) := by decide +kernel
theorem dX6_sound_10 : decode cX6_sound 10 = .ok (.iconst 2, 1) := by decide +kernel
theorem dX6_sound_11 : decode cX6_sound 11 = .ok (.invokestatic 75, 3) := by decide +kernel
theorem dX6_sound_14 : decode cX6_sound 14 = .ok (.ifCond .ne 5, 3) := by decide +kernel
theorem dX6_sound_17 : decode cX6_sound 17 = .ok (.iconst (-1), 1) := by decide +kernel
theorem dX6_sound_18 : decode cX6_sound 18 = .ok (.ireturn, 1) := by decide +kernel
theorem dX6_sound_19 : decode cX6_sound 19 = .ok (.aload_n 0, 1) := by decide +kernel
theorem dX6_sound_20 : decode cX6_sound 20 = .ok (.iload_n 1, 1) := by decide +kernel
theorem dX6_sound_21 : decode cX6_sound 21 = .ok (.invokevirtual 181, 3) := by decide +kernel
theorem dX6_sound_24 : decode cX6_sound 24 = .ok (.iload_n 2, 1) := by decide +kernel
theorem dX6_sound_25 : decode cX6_sound 25 = .ok (.iconst 2, 1) := by decide +kernel
theorem dX6_sound_26 : decode cX6_sound 26 = .ok (.if_icmp .ge 19, 3) := by decide +kernel
theorem dX6_sound_29 : decode cX6_sound 29 = .ok (.iload_n 2, 1) := by decide +kernel
theorem dX6_sound_30 : decode cX6_sound 30 = .ok (.ifCond .ne 10, 3) := by decide +kernel
theorem dX6_sound_33 : decode cX6_sound 33 = .ok (.aload_n 0, 1) := by decide +kernel
theorem dX6_sound_34 : decode cX6_sound 34 = .ok (.getfield 175, 3) := by decide +kernel
theorem dX6_sound_37 : decode cX6_sound 37 = .ok (.goto 7, 3) := by decide +kernel
theorem dX6_sound_40 : decode cX6_sound 40 = .ok (.aload_n 0, 1) := by decide +kernel
theorem dX6_sound_41 : decode cX6_sound 41 = .ok (.invokevirtual 190, 3) := by decide +kernel
theorem dX6_sound_44 : decode cX6_sound 44 = .ok (.ireturn, 1) := by decide +kernel
theorem dX6_sound_45 : decode cX6_sound 45 = .ok (.aload_n 0, 1) := by decide +kernel
theorem dX6_sound_46 : decode cX6_sound 46 = .ok (.getfield 175, 3) := by decide +kernel
theorem dX6_sound_49 : decode cX6_sound 49 = .ok (.iconst 2, 1) := by decide +kernel
theorem dX6_sound_50 : decode cX6_sound 50 = .ok (.if_icmp .ge 8, 3) := by decide +kernel
theorem dX6_sound_53 : decode cX6_sound 53 = .ok (.bipush (-9), 2) := by decide +kernel
theorem dX6_sound_55 : decode cX6_sound 55 = .ok (.goto 24, 3) := by decide +kernel
theorem dX6_sound_58 : decode cX6_sound 58 = .ok (.aload_n 0, 1) := by decide +kernel
theorem dX6_sound_59 : decode cX6_sound 59 = .ok (.getfield 50, 3) := by decide +kernel
theorem dX6_sound_62 : decode cX6_sound 62 = .ok (.aload_n 0, 1) := by decide +kernel
theorem dX6_sound_63 : decode cX6_sound 63 = .ok (.iconst 1, 1) := by decide +kernel
theorem dX6_sound_64 : decode cX6_sound 64 = .ok (.invokevirtual 184, 3) := by decide +kernel
theorem dX6_sound_67 : decode cX6_sound 67 = .ok (.iaload, 1) := by decide +kernel
theorem dX6_sound_68 : decode cX6_sound 68 = .ok (.aload_n 0, 1) := by decide +kernel
theorem dX6_sound_69 : decode cX6_sound 69 = .ok (.getfield 50, 3) := by decide +kernel
theorem dX6_sound_72 : decode cX6_sound 72 = .ok (.aload_n 0, 1) := by decide +kernel
theorem dX6_sound_73 : decode cX6_sound 73 = .ok (.iconst 0, 1) := by decide +kernel
theorem dX6_sound_74 : decode cX6_sound 74 = .ok (.invokevirtual 184, 3) := by decide +kernel
theorem dX6_sound_77 : decode cX6_sound 77 = .ok (.iaload, 1) := by decide +kernel
theorem dX6_sound_78 : decode cX6_sound 78 = .ok (.isub, 1) := by decide +kernel
theorem dX6_sound_79 : decode cX6_sound 79 = .ok (.ireturn, 1) := by decide +kernel
theorem dX6_common_0 : decode cX6_common 0 = .ok (.iload_n 0, 1) := by decide +kernel
theorem dX6_common_1 : decode cX6_common 1 = .ok (.istore_n 2, 1) := by decide +kernel
theorem dX6_common_2 : decode cX6_common 2 = .ok (.iload_n 1, 1) := by decide +kernel
theorem dX6_common_3 : decode cX6_common 3 = .ok (.istore_n 3, 1) := by decide +kernel
theorem dX6_common_4 : decode cX6_common 4 = .ok (.iload_n 3, 1) := by decide +kernel
theorem dX6_common_5 : decode cX6_common 5 = .ok (.ifCond .eq 16, 3) := by decide +kernel
theorem dX6_common_8 : decode cX6_common 8 = .ok (.iload_n 2, 1) := by decide +kernel
theorem dX6_common_9 : decode cX6_common 9 = .ok (.iload_n 3, 1) := by decide +kernel
theorem dX6_common_10 : decode cX6_common 10 = .ok (.irem, 1) := by decide +kernel
theorem dX6_common_11 : decode cX6_common 11 = .ok (.istore 4, 2) := by decide +kernel
theorem dX6_common_13 : decode cX6_common 13 = .ok (.iload_n 3, 1) := by decide +kernel
theorem dX6_common_14 : decode cX6_common 14 = .ok (.istore_n 2, 1) := by decide +kernel
theorem dX6_common_15 : decode cX6_common 15 = .ok (.iload 4, 2) := by decide +kernel
theorem dX6_common_17 : decode cX6_common 17 = .ok (.istore_n 3, 1) := by decide +kernel
theorem dX6_common_18 : decode cX6_common 18 = .ok (.goto (-14), 3) := by decide +kernel
theorem dX6_common_21 : decode cX6_common 21 = .ok (.iload_n 2, 1) := by decide +kernel
theorem dX6_common_22 : decode cX6_common 22 = .ok (.ireturn, 1) := by decide +kernel
set_option maxRecDepth 20000 in
theorem ggX6_fraction_X6_common : GoodIn wsX6_fraction wsX6_common := goodIn_r _ [4] (by decide +kernel) (by decide +kernel)
set_option maxRecDepth 20000 in
theorem gX6_fraction_X6_common : GoodIn wsX6_fraction (va_wsS RX6 193 yX6_common wsX6_common) := goodIn_app (goodIn_of _ (by decide +kernel)) ggX6_fraction_X6_common
theorem dX6_fraction_0 : decode cX6_fraction 0 = .ok (.iload_n 0, 1) := by decide +kernel
theorem dX6_fraction_1 : decode cX6_fraction 1 = .ok (.iload_n 1, 1) := by decide +kernel
theorem dX6_fraction_2 : decode cX6_fraction 2 = .ok (.invokestatic 193, 3) := by decide +kernel
theorem dX6_fraction_5 : decode cX6_fraction 5 = .ok (.istore_n 3, 1) := by decide +kernel
theorem dX6_fraction_6 : decode cX6_fraction 6 = .ok (.iload_n 2, 1) := by decide +kernel
theorem dX6_fraction_7 : decode cX6_fraction 7 = .ok (.ifCond .ne 9, 3) := by decide +kernel
theorem dX6_fraction_10 : decode cX6_fraction 10 = .ok (.iload_n 0, 1) := by decide +kernel
theorem dX6_fraction_11 : decode cX6_fraction 11 = .ok (.iload_n 3, 1) := by decide +kernel
theorem dX6_fraction_12 : decode cX6_fraction 12 = .ok (.idiv, 1) := by decide +kernel
theorem dX6_fraction_13 : decode cX6_fraction 13 = .ok (.goto 6, 3) := by decide +kernel
theorem dX6_fraction_16 : decode cX6_fraction 16 = .ok (.iload_n 1, 1) := by decide +kernel
theorem dX6_fraction_17 : decode cX6_fraction 17 = .ok (.iload_n 3, 1) := by decide +kernel
theorem dX6_fraction_18 : decode cX6_fraction 18 = .ok (.idiv, 1) := by decide +kernel
theorem dX6_fraction_19 : decode cX6_fraction 19 = .ok (.ireturn, 1) := by decide +kernel
set_option maxRecDepth 20000 in
theorem ggX6_early_X6_isSeat : GoodIn wsX6_early wsX6_isSeat := goodIn_r _ [5, 6, 7, 8, 4, 9, 73, 74, 75, 76, 77, 78, 79, 80, 81, 82, 83, 84, 85, 86, 87, 88, 89, 90, 91, 92, 93, 94] (by decide +kernel) (by decide +kernel)
set_option maxRecDepth 20000 in
theorem gX6_early_X6_isSeat : GoodIn wsX6_early (wsV RX6 122 RX6 yX6_isSeat wsX6_isSeat) := goodIn_app (goodIn_of _ (by decide +kernel)) ggX6_early_X6_isSeat
set_option maxRecDepth 20000 in
theorem ggX6_early_X6_in : GoodIn wsX6_early wsX6_in := goodIn_r _ [9] (by decide +kernel) (by decide +kernel)
set_option maxRecDepth 20000 in
theorem gX6_early_X6_in : GoodIn wsX6_early (va_wsS RX6 75 yX6_in wsX6_in) := goodIn_app (goodIn_of _ (by decide +kernel)) ggX6_early_X6_in
set_option maxRecDepth 20000 in
theorem ggX6_early_X6_hearsNow : GoodIn wsX6_early wsX6_hearsNow := goodIn_r _ [13, 14, 15, 16, 4, 17, 18, 6, 19, 20, 21, 22, 23, 24, 25, 26, 27, 28, 29, 7, 8, 9, 30, 31, 32, 33, 34, 35, 36, 37, 38, 39, 40, 41, 42, 43, 44, 45, 46, 47, 48, 49, 50, 51, 52, 53, 54, 55, 56, 57, 58, 73, 74, 75, 76, 77, 78, 79, 80, 81, 82, 83, 84, 85, 86, 87, 88, 89, 90, 91, 92, 93, 94] (by decide +kernel) (by decide +kernel)
set_option maxRecDepth 20000 in
theorem gX6_early_X6_hearsNow : GoodIn wsX6_early (wsV RX6 181 RX6 yX6_hearsNow wsX6_hearsNow) := goodIn_app (goodIn_of _ (by decide +kernel)) ggX6_early_X6_hearsNow
set_option maxRecDepth 20000 in
theorem ggX6_early_X6_soundAll : GoodIn wsX6_early wsX6_soundAll := goodIn_r _ [62, 63, 64, 65, 4, 66, 23, 24, 25, 73, 74, 75, 76, 77, 78, 79, 80, 81, 82, 83, 84, 85, 86, 87, 88, 89, 90, 91, 92, 93, 94] (by decide +kernel) (by decide +kernel)
set_option maxRecDepth 20000 in
theorem gX6_early_X6_soundAll : GoodIn wsX6_early (wsV RX6 190 RX6 yX6_soundAll wsX6_soundAll) := goodIn_app (goodIn_of _ (by decide +kernel)) ggX6_early_X6_soundAll
set_option maxRecDepth 20000 in
theorem ggX6_early_X6_soundBy : GoodIn wsX6_early wsX6_soundBy := goodIn_r _ [66, 23, 24, 25, 73, 74, 75, 76, 77, 78, 79, 80, 81, 82, 83, 84, 85, 86, 87, 88, 89, 90, 91, 92, 93, 94] (by decide +kernel) (by decide +kernel)
set_option maxRecDepth 20000 in
theorem gX6_early_X6_soundBy : GoodIn wsX6_early (wsV RX6 187 RX6 yX6_soundBy wsX6_soundBy) := goodIn_app (goodIn_of _ (by decide +kernel)) ggX6_early_X6_soundBy
set_option maxRecDepth 20000 in
theorem ggX6_early_X6_fraction : GoodIn wsX6_early wsX6_fraction := goodIn_r _ [69, 70, 71, 4, 72] (by decide +kernel) (by decide +kernel)
set_option maxRecDepth 20000 in
theorem gX6_early_X6_fraction : GoodIn wsX6_early (va_wsS RX6 196 yX6_fraction wsX6_fraction) := goodIn_app (goodIn_of _ (by decide +kernel)) ggX6_early_X6_fraction
theorem dX6_early_0 : decode cX6_early 0 = .ok (.aload_n 0, 1) := by decide +kernel
theorem dX6_early_1 : decode cX6_early 1 = .ok (.iload_n 1, 1) := by decide +kernel
theorem dX6_early_2 : decode cX6_early 2 = .ok (.invokevirtual 122, 3) := by decide +kernel
theorem dX6_early_5 : decode cX6_early 5 = .ok (.ifCond .eq 23, 3) := by decide +kernel
theorem dX6_early_8 : decode cX6_early 8 = .ok (.iload_n 2, 1) := by decide +kernel
theorem dX6_early_9 : decode cX6_early 9 = .ok (.iconst 0, 1) := by decide +kernel
theorem dX6_early_10 : decode cX6_early 10 = .ok (.sipush 999, 3) := by decide +kernel
theorem dX6_early_13 : decode cX6_early 13 = .ok (.invokestatic 75, 3) := by decide +kernel
theorem dX6_early_16 : decode cX6_early 16 = .ok (.ifCond .eq 12, 3) := by decide +kernel
theorem dX6_early_19 : decode cX6_early 19 = .ok (.iload_n 3, 1) := by decide +kernel
theorem dX6_early_20 : decode cX6_early 20 = .ok (.iconst 0, 1) := by decide +kernel
theorem dX6_early_21 : decode cX6_early 21 = .ok (.iconst 1, 1) := by decide +kernel
theorem dX6_early_22 : decode cX6_early 22 = .ok (.invokestatic 75, 3) := by decide +kernel
theorem dX6_early_25 : decode cX6_early 25 = .ok (.ifCond .ne 5, 3) := by decide +kernel
theorem dX6_early_28 : decode cX6_early 28 = .ok (.iconst (-1), 1) := by decide +kernel
theorem dX6_early_29 : decode cX6_early 29 = .ok (.ireturn, 1) := by decide +kernel
theorem dX6_early_30 : decode cX6_early 30 = .ok (.aload_n 0, 1) := by decide +kernel
theorem dX6_early_31 : decode cX6_early 31 = .ok (.iload_n 1, 1) := by decide +kernel
theorem dX6_early_32 : decode cX6_early 32 = .ok (.invokevirtual 181, 3) := by decide +kernel
theorem dX6_early_35 : decode cX6_early 35 = .ok (.aload_n 0, 1) := by decide +kernel
theorem dX6_early_36 : decode cX6_early 36 = .ok (.invokevirtual 190, 3) := by decide +kernel
theorem dX6_early_39 : decode cX6_early 39 = .ok (.istore 4, 2) := by decide +kernel
theorem dX6_early_41 : decode cX6_early 41 = .ok (.iload 4, 2) := by decide +kernel
theorem dX6_early_43 : decode cX6_early 43 = .ok (.ifCond .ne 7, 3) := by decide +kernel
theorem dX6_early_46 : decode cX6_early 46 = .ok (.iload_n 3, 1) := by decide +kernel
theorem dX6_early_47 : decode cX6_early 47 = .ok (.goto 14, 3) := by decide +kernel
theorem dX6_early_50 : decode cX6_early 50 = .ok (.aload_n 0, 1) := by decide +kernel
theorem dX6_early_51 : decode cX6_early 51 = .ok (.iload_n 2, 1) := by decide +kernel
theorem dX6_early_52 : decode cX6_early 52 = .ok (.invokevirtual 187, 3) := by decide +kernel
theorem dX6_early_55 : decode cX6_early 55 = .ok (.iload 4, 2) := by decide +kernel
theorem dX6_early_57 : decode cX6_early 57 = .ok (.iload_n 3, 1) := by decide +kernel
theorem dX6_early_58 : decode cX6_early 58 = .ok (.invokestatic 196, 3) := by decide +kernel
theorem dX6_early_61 : decode cX6_early 61 = .ok (.ireturn, 1) := by decide +kernel
set_option maxRecDepth 20000 in
theorem ggX6_fade_X6_isSeat : GoodIn wsX6_fade wsX6_isSeat := goodIn_r _ [8, 9, 10, 11, 7, 12, 68, 69, 70, 71, 72, 73, 74, 75, 76, 77, 78, 79, 80, 81, 82, 83, 84, 85, 86, 87, 88, 89] (by decide +kernel) (by decide +kernel)
set_option maxRecDepth 20000 in
theorem gX6_fade_X6_isSeat : GoodIn wsX6_fade (wsV RX6 122 RX6 yX6_isSeat wsX6_isSeat) := goodIn_app (goodIn_of _ (by decide +kernel)) ggX6_fade_X6_isSeat
set_option maxRecDepth 20000 in
theorem ggX6_fade_X6_in : GoodIn wsX6_fade wsX6_in := goodIn_r _ [12] (by decide +kernel) (by decide +kernel)
set_option maxRecDepth 20000 in
theorem gX6_fade_X6_in : GoodIn wsX6_fade (va_wsS RX6 75 yX6_in wsX6_in) := goodIn_app (goodIn_of _ (by decide +kernel)) ggX6_fade_X6_in
set_option maxRecDepth 20000 in
theorem ggX6_fade_X6_hearsNow : GoodIn wsX6_fade wsX6_hearsNow := goodIn_r _ [16, 17, 18, 19, 7, 20, 21, 9, 22, 23, 24, 25, 1, 2, 26, 27, 28, 29, 30, 10, 11, 12, 31, 32, 33, 34, 35, 36, 37, 38, 39, 40, 41, 42, 43, 44, 45, 46, 47, 48, 49, 50, 51, 52, 53, 54, 55, 56, 57, 58, 59, 68, 69, 70, 71, 72, 73, 74, 75, 76, 77, 78, 79, 80, 81, 82, 83, 84, 85, 86, 87, 88, 89] (by decide +kernel) (by decide +kernel)
set_option maxRecDepth 20000 in
theorem gX6_fade_X6_hearsNow : GoodIn wsX6_fade (wsV RX6 181 RX6 yX6_hearsNow wsX6_hearsNow) := goodIn_app (goodIn_of _ (by decide +kernel)) ggX6_fade_X6_hearsNow
set_option maxRecDepth 20000 in
theorem ggX6_fade_X6_soundAll : GoodIn wsX6_fade wsX6_soundAll := goodIn_r _ [63, 64, 65, 66, 7, 67, 1, 2, 26, 68, 69, 70, 71, 72, 73, 74, 75, 76, 77, 78, 79, 80, 81, 82, 83, 84, 85, 86, 87, 88, 89] (by decide +kernel) (by decide +kernel)
set_option maxRecDepth 20000 in
theorem gX6_fade_X6_soundAll : GoodIn wsX6_fade (wsV RX6 190 RX6 yX6_soundAll wsX6_soundAll) := goodIn_app (goodIn_of _ (by decide +kernel)) ggX6_fade_X6_soundAll
set_option maxRecDepth 20000 in
theorem ggX6_fade_X6_soundBy : GoodIn wsX6_fade wsX6_soundBy := goodIn_r _ [67, 1, 2, 26, 68, 69, 70, 71, 72, 73, 74, 75, 76, 77, 78, 79, 80, 81, 82, 83, 84, 85, 86, 87, 88, 89] (by decide +kernel) (by decide +kernel)
set_option maxRecDepth 20000 in
theorem gX6_fade_X6_soundBy : GoodIn wsX6_fade (wsV RX6 187 RX6 yX6_soundBy wsX6_soundBy) := goodIn_app (goodIn_of _ (by decide +kernel)) ggX6_fade_X6_soundBy
theorem dX6_fade_0 : decode cX6_fade 0 = .ok (.aload_n 0, 1) := by decide +kernel
theorem dX6_fade_1 : decode cX6_fade 1 = .ok (.iload_n 1, 1) := by decide +kernel
theorem dX6_fade_2 : decode cX6_fade 2 = .ok (.invokevirtual 122, 3) := by decide +kernel
theorem dX6_fade_5 : decode cX6_fade 5 = .ok (.ifCond .eq 13, 3) := by decide +kernel
theorem dX6_fade_8 : decode cX6_fade 8 = .ok (.iload_n 2, 1) := by decide +kernel
theorem dX6_fade_9 : decode cX6_fade 9 = .ok (.iconst 1, 1) := by decide +kernel
theorem dX6_fade_10 : decode cX6_fade 10 = .ok (.bipush 9, 2) := by decide +kernel
theorem dX6_fade_12 : decode cX6_fade 12 = .ok (.invokestatic 75, 3) := by decide +kernel
theorem dX6_fade_15 : decode cX6_fade 15 = .ok (.ifCond .ne 5, 3) := by decide +kernel
theorem dX6_fade_18 : decode cX6_fade 18 = .ok (.iconst (-1), 1) := by decide +kernel
theorem dX6_fade_19 : decode cX6_fade 19 = .ok (.ireturn, 1) := by decide +kernel
theorem dX6_fade_20 : decode cX6_fade 20 = .ok (.aload_n 0, 1) := by decide +kernel
theorem dX6_fade_21 : decode cX6_fade 21 = .ok (.iload_n 1, 1) := by decide +kernel
theorem dX6_fade_22 : decode cX6_fade 22 = .ok (.invokevirtual 181, 3) := by decide +kernel
theorem dX6_fade_25 : decode cX6_fade 25 = .ok (.aload_n 0, 1) := by decide +kernel
theorem dX6_fade_26 : decode cX6_fade 26 = .ok (.invokevirtual 190, 3) := by decide +kernel
theorem dX6_fade_29 : decode cX6_fade 29 = .ok (.i2l, 1) := by decide +kernel
theorem dX6_fade_30 : decode cX6_fade 30 = .ok (.lstore_n 3, 1) := by decide +kernel
theorem dX6_fade_31 : decode cX6_fade 31 = .ok (.bipush (-9), 2) := by decide +kernel
theorem dX6_fade_33 : decode cX6_fade 33 = .ok (.istore 5, 2) := by decide +kernel
theorem dX6_fade_35 : decode cX6_fade 35 = .ok (.iconst 0, 1) := by decide +kernel
theorem dX6_fade_36 : decode cX6_fade 36 = .ok (.istore 6, 2) := by decide +kernel
theorem dX6_fade_38 : decode cX6_fade 38 = .ok (.iload 6, 2) := by decide +kernel
theorem dX6_fade_40 : decode cX6_fade 40 = .ok (.aload_n 0, 1) := by decide +kernel
theorem dX6_fade_41 : decode cX6_fade 41 = .ok (.getfield 175, 3) := by decide +kernel
theorem dX6_fade_44 : decode cX6_fade 44 = .ok (.if_icmp .ge 84, 3) := by decide +kernel
theorem dX6_fade_47 : decode cX6_fade 47 = .ok (.lload_n 3, 1) := by decide +kernel
theorem dX6_fade_48 : decode cX6_fade 48 = .ok (.aload_n 0, 1) := by decide +kernel
theorem dX6_fade_49 : decode cX6_fade 49 = .ok (.aload_n 0, 1) := by decide +kernel
theorem dX6_fade_50 : decode cX6_fade 50 = .ok (.getfield 50, 3) := by decide +kernel
theorem dX6_fade_53 : decode cX6_fade 53 = .ok (.iload 6, 2) := by decide +kernel
theorem dX6_fade_55 : decode cX6_fade 55 = .ok (.iaload, 1) := by decide +kernel
theorem dX6_fade_56 : decode cX6_fade 56 = .ok (.invokevirtual 187, 3) := by decide +kernel
theorem dX6_fade_59 : decode cX6_fade 59 = .ok (.i2l, 1) := by decide +kernel
theorem dX6_fade_60 : decode cX6_fade 60 = .ok (.lsub, 1) := by decide +kernel
theorem dX6_fade_61 : decode cX6_fade 61 = .ok (.lstore 7, 2) := by decide +kernel
theorem dX6_fade_63 : decode cX6_fade 63 = .ok (.ldc2_w 199, 3) := by decide +kernel
theorem dX6_fade_66 : decode cX6_fade 66 = .ok (.lload 7, 2) := by decide +kernel
theorem dX6_fade_68 : decode cX6_fade 68 = .ok (.lmul, 1) := by decide +kernel
theorem dX6_fade_69 : decode cX6_fade 69 = .ok (.iload_n 2, 1) := by decide +kernel
theorem dX6_fade_70 : decode cX6_fade 70 = .ok (.i2l, 1) := by decide +kernel
theorem dX6_fade_71 : decode cX6_fade 71 = .ok (.lload_n 3, 1) := by decide +kernel
theorem dX6_fade_72 : decode cX6_fade 72 = .ok (.lmul, 1) := by decide +kernel
theorem dX6_fade_73 : decode cX6_fade 73 = .ok (.lcmp, 1) := by decide +kernel
theorem dX6_fade_74 : decode cX6_fade 74 = .ok (.ifCond .gt 7, 3) := by decide +kernel
theorem dX6_fade_77 : decode cX6_fade 77 = .ok (.iconst 1, 1) := by decide +kernel
theorem dX6_fade_78 : decode cX6_fade 78 = .ok (.goto 4, 3) := by decide +kernel
theorem dX6_fade_81 : decode cX6_fade 81 = .ok (.iconst 0, 1) := by decide +kernel
theorem dX6_fade_82 : decode cX6_fade 82 = .ok (.istore 9, 2) := by decide +kernel
theorem dX6_fade_84 : decode cX6_fade 84 = .ok (.iload 9, 2) := by decide +kernel
theorem dX6_fade_86 : decode cX6_fade 86 = .ok (.ifCond .eq 32, 3) := by decide +kernel
theorem dX6_fade_89 : decode cX6_fade 89 = .ok (.iload 5, 2) := by decide +kernel
theorem dX6_fade_91 : decode cX6_fade 91 = .ok (.bipush (-9), 2) := by decide +kernel
theorem dX6_fade_93 : decode cX6_fade 93 = .ok (.if_icmp .eq 15, 3) := by decide +kernel
theorem dX6_fade_96 : decode cX6_fade 96 = .ok (.aload_n 0, 1) := by decide +kernel
theorem dX6_fade_97 : decode cX6_fade 97 = .ok (.getfield 50, 3) := by decide +kernel
theorem dX6_fade_100 : decode cX6_fade 100 = .ok (.iload 6, 2) := by decide +kernel
theorem dX6_fade_102 : decode cX6_fade 102 = .ok (.iaload, 1) := by decide +kernel
theorem dX6_fade_103 : decode cX6_fade 103 = .ok (.iload 5, 2) := by decide +kernel
theorem dX6_fade_105 : decode cX6_fade 105 = .ok (.if_icmp .ge 13, 3) := by decide +kernel
theorem dX6_fade_108 : decode cX6_fade 108 = .ok (.aload_n 0, 1) := by decide +kernel
theorem dX6_fade_109 : decode cX6_fade 109 = .ok (.getfield 50, 3) := by decide +kernel
theorem dX6_fade_112 : decode cX6_fade 112 = .ok (.iload 6, 2) := by decide +kernel
theorem dX6_fade_114 : decode cX6_fade 114 = .ok (.iaload, 1) := by decide +kernel
theorem dX6_fade_115 : decode cX6_fade 115 = .ok (.goto 5, 3) := by decide +kernel
theorem dX6_fade_118 : decode cX6_fade 118 = .ok (.iload 5, 2) := by decide +kernel
theorem dX6_fade_120 : decode cX6_fade 120 = .ok (.istore 5, 2) := by decide +kernel
theorem dX6_fade_122 : decode cX6_fade 122 = .ok (.iinc 6 1, 3) := by decide +kernel
theorem dX6_fade_125 : decode cX6_fade 125 = .ok (.goto (-87), 3) := by decide +kernel
theorem dX6_fade_128 : decode cX6_fade 128 = .ok (.iload 5, 2) := by decide +kernel
theorem dX6_fade_130 : decode cX6_fade 130 = .ok (.ireturn, 1) := by decide +kernel
set_option maxRecDepth 20000 in
theorem ggX6_best_X6_in : GoodIn wsX6_best wsX6_in := goodIn_r _ [5] (by decide +kernel) (by decide +kernel)
set_option maxRecDepth 20000 in
theorem gX6_best_X6_in : GoodIn wsX6_best (va_wsS RX6 75 yX6_in wsX6_in) := goodIn_app (goodIn_of _ (by decide +kernel)) ggX6_best_X6_in
set_option maxRecDepth 20000 in
theorem ggX6_best_X6_hearsNow : GoodIn wsX6_best wsX6_hearsNow := goodIn_r _ [9, 10, 11, 12, 4, 13, 14, 1, 15, 16, 17, 18, 19, 20, 21, 22, 23, 24, 25, 2, 3, 5, 26, 27, 28, 29, 30, 31, 32, 33, 34, 35, 36, 37, 38, 39, 40, 41, 42, 43, 44, 45, 46, 47, 48, 49, 50, 51, 52, 53, 54, 63, 64, 65, 66, 67, 68, 69, 70, 71, 72, 73, 74, 75, 76, 77, 78, 79, 80, 81, 82, 83, 84] (by decide +kernel) (by decide +kernel)
set_option maxRecDepth 20000 in
theorem gX6_best_X6_hearsNow : GoodIn wsX6_best (wsV RX6 181 RX6 yX6_hearsNow wsX6_hearsNow) := goodIn_app (goodIn_of _ (by decide +kernel)) ggX6_best_X6_hearsNow
set_option maxRecDepth 20000 in
theorem ggX6_best_X6_soundAll : GoodIn wsX6_best wsX6_soundAll := goodIn_r _ [58, 59, 60, 61, 4, 62, 19, 20, 21, 63, 64, 65, 66, 67, 68, 69, 70, 71, 72, 73, 74, 75, 76, 77, 78, 79, 80, 81, 82, 83, 84] (by decide +kernel) (by decide +kernel)
set_option maxRecDepth 20000 in
theorem gX6_best_X6_soundAll : GoodIn wsX6_best (wsV RX6 190 RX6 yX6_soundAll wsX6_soundAll) := goodIn_app (goodIn_of _ (by decide +kernel)) ggX6_best_X6_soundAll
set_option maxRecDepth 20000 in
theorem ggX6_best_X6_soundBy : GoodIn wsX6_best wsX6_soundBy := goodIn_r _ [62, 19, 20, 21, 63, 64, 65, 66, 67, 68, 69, 70, 71, 72, 73, 74, 75, 76, 77, 78, 79, 80, 81, 82, 83, 84] (by decide +kernel) (by decide +kernel)
set_option maxRecDepth 20000 in
theorem gX6_best_X6_soundBy : GoodIn wsX6_best (wsV RX6 187 RX6 yX6_soundBy wsX6_soundBy) := goodIn_app (goodIn_of _ (by decide +kernel)) ggX6_best_X6_soundBy
theorem dX6_best_0 : decode cX6_best 0 = .ok (.iload_n 1, 1) := by decide +kernel
theorem dX6_best_1 : decode cX6_best 1 = .ok (.iconst 0, 1) := by decide +kernel
theorem dX6_best_2 : decode cX6_best 2 = .ok (.sipush 999, 3) := by decide +kernel
theorem dX6_best_5 : decode cX6_best 5 = .ok (.invokestatic 75, 3) := by decide +kernel
theorem dX6_best_8 : decode cX6_best 8 = .ok (.ifCond .ne 5, 3) := by decide +kernel
theorem dX6_best_11 : decode cX6_best 11 = .ok (.iconst (-1), 1) := by decide +kernel
theorem dX6_best_12 : decode cX6_best 12 = .ok (.ireturn, 1) := by decide +kernel
theorem dX6_best_13 : decode cX6_best 13 = .ok (.bipush (-9), 2) := by decide +kernel
theorem dX6_best_15 : decode cX6_best 15 = .ok (.istore_n 2, 1) := by decide +kernel
theorem dX6_best_16 : decode cX6_best 16 = .ok (.lconst 0, 1) := by decide +kernel
theorem dX6_best_17 : decode cX6_best 17 = .ok (.lstore_n 3, 1) := by decide +kernel
theorem dX6_best_18 : decode cX6_best 18 = .ok (.lconst 1, 1) := by decide +kernel
theorem dX6_best_19 : decode cX6_best 19 = .ok (.lstore 5, 2) := by decide +kernel
theorem dX6_best_21 : decode cX6_best 21 = .ok (.iconst 0, 1) := by decide +kernel
theorem dX6_best_22 : decode cX6_best 22 = .ok (.istore 7, 2) := by decide +kernel
theorem dX6_best_24 : decode cX6_best 24 = .ok (.iload 7, 2) := by decide +kernel
theorem dX6_best_26 : decode cX6_best 26 = .ok (.aload_n 0, 1) := by decide +kernel
theorem dX6_best_27 : decode cX6_best 27 = .ok (.getfield 7, 3) := by decide +kernel
theorem dX6_best_30 : decode cX6_best 30 = .ok (.bipush 8, 2) := by decide +kernel
theorem dX6_best_32 : decode cX6_best 32 = .ok (.iaload, 1) := by decide +kernel
theorem dX6_best_33 : decode cX6_best 33 = .ok (.if_icmp .ge 85, 3) := by decide +kernel
theorem dX6_best_36 : decode cX6_best 36 = .ok (.aload_n 0, 1) := by decide +kernel
theorem dX6_best_37 : decode cX6_best 37 = .ok (.iload 7, 2) := by decide +kernel
theorem dX6_best_39 : decode cX6_best 39 = .ok (.invokevirtual 181, 3) := by decide +kernel
theorem dX6_best_42 : decode cX6_best 42 = .ok (.aload_n 0, 1) := by decide +kernel
theorem dX6_best_43 : decode cX6_best 43 = .ok (.invokevirtual 190, 3) := by decide +kernel
theorem dX6_best_46 : decode cX6_best 46 = .ok (.i2l, 1) := by decide +kernel
theorem dX6_best_47 : decode cX6_best 47 = .ok (.lstore 8, 2) := by decide +kernel
theorem dX6_best_49 : decode cX6_best 49 = .ok (.lload 8, 2) := by decide +kernel
theorem dX6_best_51 : decode cX6_best 51 = .ok (.lconst 0, 1) := by decide +kernel
theorem dX6_best_52 : decode cX6_best 52 = .ok (.lcmp, 1) := by decide +kernel
theorem dX6_best_53 : decode cX6_best 53 = .ok (.ifCond .ne 7, 3) := by decide +kernel
theorem dX6_best_56 : decode cX6_best 56 = .ok (.lconst 0, 1) := by decide +kernel
theorem dX6_best_57 : decode cX6_best 57 = .ok (.goto 9, 3) := by decide +kernel
theorem dX6_best_60 : decode cX6_best 60 = .ok (.aload_n 0, 1) := by decide +kernel
theorem dX6_best_61 : decode cX6_best 61 = .ok (.iload_n 1, 1) := by decide +kernel
theorem dX6_best_62 : decode cX6_best 62 = .ok (.invokevirtual 187, 3) := by decide +kernel
theorem dX6_best_65 : decode cX6_best 65 = .ok (.i2l, 1) := by decide +kernel
theorem dX6_best_66 : decode cX6_best 66 = .ok (.lstore 10, 2) := by decide +kernel
theorem dX6_best_68 : decode cX6_best 68 = .ok (.lload 8, 2) := by decide +kernel
theorem dX6_best_70 : decode cX6_best 70 = .ok (.lconst 0, 1) := by decide +kernel
theorem dX6_best_71 : decode cX6_best 71 = .ok (.lcmp, 1) := by decide +kernel
theorem dX6_best_72 : decode cX6_best 72 = .ok (.ifCond .ne 7, 3) := by decide +kernel
theorem dX6_best_75 : decode cX6_best 75 = .ok (.lconst 1, 1) := by decide +kernel
theorem dX6_best_76 : decode cX6_best 76 = .ok (.goto 5, 3) := by decide +kernel
theorem dX6_best_79 : decode cX6_best 79 = .ok (.lload 8, 2) := by decide +kernel
theorem dX6_best_81 : decode cX6_best 81 = .ok (.lstore 8, 2) := by decide +kernel
theorem dX6_best_83 : decode cX6_best 83 = .ok (.iload_n 2, 1) := by decide +kernel
theorem dX6_best_84 : decode cX6_best 84 = .ok (.bipush (-9), 2) := by decide +kernel
theorem dX6_best_86 : decode cX6_best 86 = .ok (.if_icmp .eq 16, 3) := by decide +kernel
theorem dX6_best_89 : decode cX6_best 89 = .ok (.lload 10, 2) := by decide +kernel
theorem dX6_best_91 : decode cX6_best 91 = .ok (.lload 5, 2) := by decide +kernel
theorem dX6_best_93 : decode cX6_best 93 = .ok (.lmul, 1) := by decide +kernel
theorem dX6_best_94 : decode cX6_best 94 = .ok (.lload_n 3, 1) := by decide +kernel
theorem dX6_best_95 : decode cX6_best 95 = .ok (.lload 8, 2) := by decide +kernel
theorem dX6_best_97 : decode cX6_best 97 = .ok (.lmul, 1) := by decide +kernel
theorem dX6_best_98 : decode cX6_best 98 = .ok (.lcmp, 1) := by decide +kernel
theorem dX6_best_99 : decode cX6_best 99 = .ok (.ifCond .le 13, 3) := by decide +kernel
theorem dX6_best_102 : decode cX6_best 102 = .ok (.iload 7, 2) := by decide +kernel
theorem dX6_best_104 : decode cX6_best 104 = .ok (.istore_n 2, 1) := by decide +kernel
theorem dX6_best_105 : decode cX6_best 105 = .ok (.lload 10, 2) := by decide +kernel
theorem dX6_best_107 : decode cX6_best 107 = .ok (.lstore_n 3, 1) := by decide +kernel
theorem dX6_best_108 : decode cX6_best 108 = .ok (.lload 8, 2) := by decide +kernel
theorem dX6_best_110 : decode cX6_best 110 = .ok (.lstore 5, 2) := by decide +kernel
theorem dX6_best_112 : decode cX6_best 112 = .ok (.iinc 7 1, 3) := by decide +kernel
theorem dX6_best_115 : decode cX6_best 115 = .ok (.goto (-91), 3) := by decide +kernel
theorem dX6_best_118 : decode cX6_best 118 = .ok (.iload_n 2, 1) := by decide +kernel
theorem dX6_best_119 : decode cX6_best 119 = .ok (.ireturn, 1) := by decide +kernel
set_option maxRecDepth 20000 in
theorem ggX6_odds_X6_in : GoodIn wsX6_odds wsX6_in := goodIn_r _ [7] (by decide +kernel) (by decide +kernel)
set_option maxRecDepth 20000 in
theorem gX6_odds_X6_in : GoodIn wsX6_odds (va_wsS RX6 75 yX6_in wsX6_in) := goodIn_app (goodIn_of _ (by decide +kernel)) ggX6_odds_X6_in
set_option maxRecDepth 20000 in
theorem ggX6_odds_X6_isSeat : GoodIn wsX6_odds wsX6_isSeat := goodIn_r _ [11, 3, 4, 5, 6, 7, 66, 67, 68, 69, 70, 71, 72, 73, 74, 75, 76, 77, 78, 79, 80, 81, 82, 83, 84, 85, 86, 87] (by decide +kernel) (by decide +kernel)
set_option maxRecDepth 20000 in
theorem gX6_odds_X6_isSeat : GoodIn wsX6_odds (wsV RX6 122 RX6 yX6_isSeat wsX6_isSeat) := goodIn_app (goodIn_of _ (by decide +kernel)) ggX6_odds_X6_isSeat
set_option maxRecDepth 20000 in
theorem ggX6_odds_X6_hears : GoodIn wsX6_odds wsX6_hears := goodIn_r _ [15, 3, 16, 17, 18, 19, 20, 21, 6, 22, 4, 5, 7, 23, 24, 25, 26, 27, 28, 29, 30, 31, 32, 33, 34, 35, 36, 37, 38, 39, 40, 41, 42, 43, 44, 45, 46, 47, 48, 2, 49, 50, 51, 66, 67, 68, 69, 70, 71, 72, 73, 74, 75, 76, 77, 78, 79, 80, 81, 82, 83, 84, 85, 86, 87] (by decide +kernel) (by decide +kernel)
set_option maxRecDepth 20000 in
theorem gX6_odds_X6_hears : GoodIn wsX6_odds (wsV RX6 178 RX6 yX6_hears wsX6_hears) := goodIn_app (goodIn_of _ (by decide +kernel)) ggX6_odds_X6_hears
set_option maxRecDepth 20000 in
theorem ggX6_odds_X6_soundAll : GoodIn wsX6_odds wsX6_soundAll := goodIn_r _ [55, 56, 57, 58, 6, 59, 16, 17, 18, 66, 67, 68, 69, 70, 71, 72, 73, 74, 75, 76, 77, 78, 79, 80, 81, 82, 83, 84, 85, 86, 87] (by decide +kernel) (by decide +kernel)
set_option maxRecDepth 20000 in
theorem gX6_odds_X6_soundAll : GoodIn wsX6_odds (wsV RX6 190 RX6 yX6_soundAll wsX6_soundAll) := goodIn_app (goodIn_of _ (by decide +kernel)) ggX6_odds_X6_soundAll
set_option maxRecDepth 20000 in
theorem ggX6_odds_X6_fraction : GoodIn wsX6_odds wsX6_fraction := goodIn_r _ [62, 63, 64, 6, 65] (by decide +kernel) (by decide +kernel)
set_option maxRecDepth 20000 in
theorem gX6_odds_X6_fraction : GoodIn wsX6_odds (va_wsS RX6 196 yX6_fraction wsX6_fraction) := goodIn_app (goodIn_of _ (by decide +kernel)) ggX6_odds_X6_fraction
theorem dX6_odds_0 : decode cX6_odds 0 = .ok (.iload_n 1, 1) := by decide +kernel
theorem dX6_odds_1 : decode cX6_odds 1 = .ok (.iconst 0, 1) := by decide +kernel
theorem dX6_odds_2 : decode cX6_odds 2 = .ok (.bipush 10, 2) := by decide +kernel
theorem dX6_odds_4 : decode cX6_odds 4 = .ok (.invokestatic 75, 3) := by decide +kernel
theorem dX6_odds_7 : decode cX6_odds 7 = .ok (.ifCond .eq 31, 3) := by decide +kernel
theorem dX6_odds_10 : decode cX6_odds 10 = .ok (.aload_n 0, 1) := by decide +kernel
theorem dX6_odds_11 : decode cX6_odds 11 = .ok (.iload_n 2, 1) := by decide +kernel
theorem dX6_odds_12 : decode cX6_odds 12 = .ok (.invokevirtual 122, 3) := by decide +kernel
theorem dX6_odds_15 : decode cX6_odds 15 = .ok (.ifCond .eq 23, 3) := by decide +kernel
theorem dX6_odds_18 : decode cX6_odds 18 = .ok (.iload_n 3, 1) := by decide +kernel
theorem dX6_odds_19 : decode cX6_odds 19 = .ok (.iconst 0, 1) := by decide +kernel
theorem dX6_odds_20 : decode cX6_odds 20 = .ok (.ldc 201, 2) := by decide +kernel
theorem dX6_odds_22 : decode cX6_odds 22 = .ok (.invokestatic 75, 3) := by decide +kernel
theorem dX6_odds_25 : decode cX6_odds 25 = .ok (.ifCond .eq 13, 3) := by decide +kernel
theorem dX6_odds_28 : decode cX6_odds 28 = .ok (.iload 4, 2) := by decide +kernel
theorem dX6_odds_30 : decode cX6_odds 30 = .ok (.iconst 0, 1) := by decide +kernel
theorem dX6_odds_31 : decode cX6_odds 31 = .ok (.iconst 1, 1) := by decide +kernel
theorem dX6_odds_32 : decode cX6_odds 32 = .ok (.invokestatic 75, 3) := by decide +kernel
theorem dX6_odds_35 : decode cX6_odds 35 = .ok (.ifCond .ne 5, 3) := by decide +kernel
theorem dX6_odds_38 : decode cX6_odds 38 = .ok (.iconst (-1), 1) := by decide +kernel
theorem dX6_odds_39 : decode cX6_odds 39 = .ok (.ireturn, 1) := by decide +kernel
theorem dX6_odds_40 : decode cX6_odds 40 = .ok (.iconst 0, 1) := by decide +kernel
theorem dX6_odds_41 : decode cX6_odds 41 = .ok (.istore 5, 2) := by decide +kernel
theorem dX6_odds_43 : decode cX6_odds 43 = .ok (.iconst 0, 1) := by decide +kernel
theorem dX6_odds_44 : decode cX6_odds 44 = .ok (.istore 6, 2) := by decide +kernel
theorem dX6_odds_46 : decode cX6_odds 46 = .ok (.iload 6, 2) := by decide +kernel
theorem dX6_odds_48 : decode cX6_odds 48 = .ok (.bipush 16, 2) := by decide +kernel
theorem dX6_odds_50 : decode cX6_odds 50 = .ok (.if_icmp .ge 113, 3) := by decide +kernel
theorem dX6_odds_53 : decode cX6_odds 53 = .ok (.iconst 1, 1) := by decide +kernel
theorem dX6_odds_54 : decode cX6_odds 54 = .ok (.istore 7, 2) := by decide +kernel
theorem dX6_odds_56 : decode cX6_odds 56 = .ok (.iconst 0, 1) := by decide +kernel
theorem dX6_odds_57 : decode cX6_odds 57 = .ok (.istore 8, 2) := by decide +kernel
theorem dX6_odds_59 : decode cX6_odds 59 = .ok (.iload 8, 2) := by decide +kernel
theorem dX6_odds_61 : decode cX6_odds 61 = .ok (.iconst 4, 1) := by decide +kernel
theorem dX6_odds_62 : decode cX6_odds 62 = .ok (.if_icmp .ge 71, 3) := by decide +kernel
theorem dX6_odds_65 : decode cX6_odds 65 = .ok (.iload 6, 2) := by decide +kernel
theorem dX6_odds_67 : decode cX6_odds 67 = .ok (.iload 8, 2) := by decide +kernel
theorem dX6_odds_69 : decode cX6_odds 69 = .ok (.ishr, 1) := by decide +kernel
theorem dX6_odds_70 : decode cX6_odds 70 = .ok (.iconst 1, 1) := by decide +kernel
theorem dX6_odds_71 : decode cX6_odds 71 = .ok (.iand, 1) := by decide +kernel
theorem dX6_odds_72 : decode cX6_odds 72 = .ok (.iconst 1, 1) := by decide +kernel
theorem dX6_odds_73 : decode cX6_odds 73 = .ok (.if_icmp .ne 7, 3) := by decide +kernel
theorem dX6_odds_76 : decode cX6_odds 76 = .ok (.iconst 1, 1) := by decide +kernel
theorem dX6_odds_77 : decode cX6_odds 77 = .ok (.goto 4, 3) := by decide +kernel
theorem dX6_odds_80 : decode cX6_odds 80 = .ok (.iconst 0, 1) := by decide +kernel
theorem dX6_odds_81 : decode cX6_odds 81 = .ok (.istore 9, 2) := by decide +kernel
theorem dX6_odds_83 : decode cX6_odds 83 = .ok (.aload_n 0, 1) := by decide +kernel
theorem dX6_odds_84 : decode cX6_odds 84 = .ok (.getfield 47, 3) := by decide +kernel
theorem dX6_odds_87 : decode cX6_odds 87 = .ok (.iload 8, 2) := by decide +kernel
theorem dX6_odds_89 : decode cX6_odds 89 = .ok (.iload 9, 2) := by decide +kernel
theorem dX6_odds_91 : decode cX6_odds 91 = .ok (.ifCond .eq 8, 3) := by decide +kernel
theorem dX6_odds_94 : decode cX6_odds 94 = .ok (.bipush 10, 2) := by decide +kernel
theorem dX6_odds_96 : decode cX6_odds 96 = .ok (.goto 12, 3) := by decide +kernel
theorem dX6_odds_99 : decode cX6_odds 99 = .ok (.aload_n 0, 1) := by decide +kernel
theorem dX6_odds_100 : decode cX6_odds 100 = .ok (.getfield 7, 3) := by decide +kernel
theorem dX6_odds_103 : decode cX6_odds 103 = .ok (.iconst 4, 1) := by decide +kernel
theorem dX6_odds_104 : decode cX6_odds 104 = .ok (.iload 8, 2) := by decide +kernel
theorem dX6_odds_106 : decode cX6_odds 106 = .ok (.iadd, 1) := by decide +kernel
theorem dX6_odds_107 : decode cX6_odds 107 = .ok (.iaload, 1) := by decide +kernel
theorem dX6_odds_108 : decode cX6_odds 108 = .ok (.iastore, 1) := by decide +kernel
theorem dX6_odds_109 : decode cX6_odds 109 = .ok (.iload 7, 2) := by decide +kernel
theorem dX6_odds_111 : decode cX6_odds 111 = .ok (.iload 9, 2) := by decide +kernel
theorem dX6_odds_113 : decode cX6_odds 113 = .ok (.ifCond .eq 7, 3) := by decide +kernel
theorem dX6_odds_116 : decode cX6_odds 116 = .ok (.iload_n 1, 1) := by decide +kernel
theorem dX6_odds_117 : decode cX6_odds 117 = .ok (.goto 7, 3) := by decide +kernel
theorem dX6_odds_120 : decode cX6_odds 120 = .ok (.bipush 10, 2) := by decide +kernel
theorem dX6_odds_122 : decode cX6_odds 122 = .ok (.iload_n 1, 1) := by decide +kernel
theorem dX6_odds_123 : decode cX6_odds 123 = .ok (.isub, 1) := by decide +kernel
theorem dX6_odds_124 : decode cX6_odds 124 = .ok (.imul, 1) := by decide +kernel
theorem dX6_odds_125 : decode cX6_odds 125 = .ok (.istore 7, 2) := by decide +kernel
theorem dX6_odds_127 : decode cX6_odds 127 = .ok (.iinc 8 1, 3) := by decide +kernel
theorem dX6_odds_130 : decode cX6_odds 130 = .ok (.goto (-71), 3) := by decide +kernel
theorem dX6_odds_133 : decode cX6_odds 133 = .ok (.aload_n 0, 1) := by decide +kernel
theorem dX6_odds_134 : decode cX6_odds 134 = .ok (.iload_n 2, 1) := by decide +kernel
theorem dX6_odds_135 : decode cX6_odds 135 = .ok (.invokevirtual 178, 3) := by decide +kernel
theorem dX6_odds_138 : decode cX6_odds 138 = .ok (.iload 5, 2) := by decide +kernel
theorem dX6_odds_140 : decode cX6_odds 140 = .ok (.aload_n 0, 1) := by decide +kernel
theorem dX6_odds_141 : decode cX6_odds 141 = .ok (.invokevirtual 190, 3) := by decide +kernel
theorem dX6_odds_144 : decode cX6_odds 144 = .ok (.iload_n 3, 1) := by decide +kernel
theorem dX6_odds_145 : decode cX6_odds 145 = .ok (.if_icmp .lt 8, 3) := by decide +kernel
theorem dX6_odds_148 : decode cX6_odds 148 = .ok (.iload 7, 2) := by decide +kernel
theorem dX6_odds_150 : decode cX6_odds 150 = .ok (.goto 4, 3) := by decide +kernel
theorem dX6_odds_153 : decode cX6_odds 153 = .ok (.iconst 0, 1) := by decide +kernel
theorem dX6_odds_154 : decode cX6_odds 154 = .ok (.iadd, 1) := by decide +kernel
theorem dX6_odds_155 : decode cX6_odds 155 = .ok (.istore 5, 2) := by decide +kernel
theorem dX6_odds_157 : decode cX6_odds 157 = .ok (.iinc 6 1, 3) := by decide +kernel
theorem dX6_odds_160 : decode cX6_odds 160 = .ok (.goto (-114), 3) := by decide +kernel
theorem dX6_odds_163 : decode cX6_odds 163 = .ok (.iload 5, 2) := by decide +kernel
theorem dX6_odds_165 : decode cX6_odds 165 = .ok (.sipush 10000, 3) := by decide +kernel
theorem dX6_odds_168 : decode cX6_odds 168 = .ok (.iload 4, 2) := by decide +kernel
theorem dX6_odds_170 : decode cX6_odds 170 = .ok (.invokestatic 196, 3) := by decide +kernel
theorem dX6_odds_173 : decode cX6_odds 173 = .ok (.ireturn, 1) := by decide +kernel
set_option maxRecDepth 20000 in
theorem ggX6_sees_X6_isImage : GoodIn wsX6_sees wsX6_isImage := goodIn_r _ [8, 9, 10, 7, 11, 12, 13, 14] (by decide +kernel) (by decide +kernel)
set_option maxRecDepth 20000 in
theorem gX6_sees_X6_isImage : GoodIn wsX6_sees (va_wsS RX6 142 yX6_isImage wsX6_isImage) := goodIn_app (goodIn_of _ (by decide +kernel)) ggX6_sees_X6_isImage
set_option maxRecDepth 20000 in
theorem ggX6_sees_X6_in : GoodIn wsX6_sees wsX6_in := goodIn_r _ [11] (by decide +kernel) (by decide +kernel)
set_option maxRecDepth 20000 in
theorem gX6_sees_X6_in : GoodIn wsX6_sees (va_wsS RX6 75 yX6_in wsX6_in) := goodIn_app (goodIn_of _ (by decide +kernel)) ggX6_sees_X6_in
theorem dX6_sees_0 : decode cX6_sees 0 = .ok (.iload_n 1, 1) := by decide +kernel
theorem dX6_sees_1 : decode cX6_sees 1 = .ok (.iload_n 2, 1) := by decide +kernel
theorem dX6_sees_2 : decode cX6_sees 2 = .ok (.invokestatic 142, 3) := by decide +kernel
theorem dX6_sees_5 : decode cX6_sees 5 = .ok (.ifCond .eq 14, 3) := by decide +kernel
theorem dX6_sees_8 : decode cX6_sees 8 = .ok (.iload_n 3, 1) := by decide +kernel
theorem dX6_sees_9 : decode cX6_sees 9 = .ok (.iconst 0, 1) := by decide +kernel
theorem dX6_sees_10 : decode cX6_sees 10 = .ok (.sipush 9999, 3) := by decide +kernel
theorem dX6_sees_13 : decode cX6_sees 13 = .ok (.invokestatic 75, 3) := by decide +kernel
theorem dX6_sees_16 : decode cX6_sees 16 = .ok (.ifCond .ne 5, 3) := by decide +kernel
theorem dX6_sees_19 : decode cX6_sees 19 = .ok (.iconst (-1), 1) := by decide +kernel
theorem dX6_sees_20 : decode cX6_sees 20 = .ok (.ireturn, 1) := by decide +kernel
theorem dX6_sees_21 : decode cX6_sees 21 = .ok (.aload_n 0, 1) := by decide +kernel
theorem dX6_sees_22 : decode cX6_sees 22 = .ok (.getfield 72, 3) := by decide +kernel
theorem dX6_sees_25 : decode cX6_sees 25 = .ok (.iconst 4, 1) := by decide +kernel
theorem dX6_sees_26 : decode cX6_sees 26 = .ok (.if_icmp .ne 6, 3) := by decide +kernel
theorem dX6_sees_29 : decode cX6_sees 29 = .ok (.bipush (-3), 2) := by decide +kernel
theorem dX6_sees_31 : decode cX6_sees 31 = .ok (.ireturn, 1) := by decide +kernel
theorem dX6_sees_32 : decode cX6_sees 32 = .ok (.aload_n 0, 1) := by decide +kernel
theorem dX6_sees_33 : decode cX6_sees 33 = .ok (.getfield 26, 3) := by decide +kernel
theorem dX6_sees_36 : decode cX6_sees 36 = .ok (.aload_n 0, 1) := by decide +kernel
theorem dX6_sees_37 : decode cX6_sees 37 = .ok (.getfield 72, 3) := by decide +kernel
theorem dX6_sees_40 : decode cX6_sees 40 = .ok (.iload_n 1, 1) := by decide +kernel
theorem dX6_sees_41 : decode cX6_sees 41 = .ok (.iastore, 1) := by decide +kernel
theorem dX6_sees_42 : decode cX6_sees 42 = .ok (.aload_n 0, 1) := by decide +kernel
theorem dX6_sees_43 : decode cX6_sees 43 = .ok (.getfield 29, 3) := by decide +kernel
theorem dX6_sees_46 : decode cX6_sees 46 = .ok (.aload_n 0, 1) := by decide +kernel
theorem dX6_sees_47 : decode cX6_sees 47 = .ok (.getfield 72, 3) := by decide +kernel
theorem dX6_sees_50 : decode cX6_sees 50 = .ok (.iload_n 2, 1) := by decide +kernel
theorem dX6_sees_51 : decode cX6_sees 51 = .ok (.iastore, 1) := by decide +kernel
theorem dX6_sees_52 : decode cX6_sees 52 = .ok (.aload_n 0, 1) := by decide +kernel
theorem dX6_sees_53 : decode cX6_sees 53 = .ok (.getfield 32, 3) := by decide +kernel
theorem dX6_sees_56 : decode cX6_sees 56 = .ok (.aload_n 0, 1) := by decide +kernel
theorem dX6_sees_57 : decode cX6_sees 57 = .ok (.getfield 72, 3) := by decide +kernel
theorem dX6_sees_60 : decode cX6_sees 60 = .ok (.iload_n 3, 1) := by decide +kernel
theorem dX6_sees_61 : decode cX6_sees 61 = .ok (.iastore, 1) := by decide +kernel
theorem dX6_sees_62 : decode cX6_sees 62 = .ok (.aload_n 0, 1) := by decide +kernel
theorem dX6_sees_63 : decode cX6_sees 63 = .ok (.dup, 1) := by decide +kernel
theorem dX6_sees_64 : decode cX6_sees 64 = .ok (.getfield 72, 3) := by decide +kernel
theorem dX6_sees_67 : decode cX6_sees 67 = .ok (.iconst 1, 1) := by decide +kernel
theorem dX6_sees_68 : decode cX6_sees 68 = .ok (.iadd, 1) := by decide +kernel
theorem dX6_sees_69 : decode cX6_sees 69 = .ok (.putfield 72, 3) := by decide +kernel
theorem dX6_sees_72 : decode cX6_sees 72 = .ok (.aload_n 0, 1) := by decide +kernel
theorem dX6_sees_73 : decode cX6_sees 73 = .ok (.getfield 72, 3) := by decide +kernel
theorem dX6_sees_76 : decode cX6_sees 76 = .ok (.ireturn, 1) := by decide +kernel
theorem dX6_forget_0 : decode cX6_forget 0 = .ok (.aload_n 0, 1) := by decide +kernel
theorem dX6_forget_1 : decode cX6_forget 1 = .ok (.getfield 72, 3) := by decide +kernel
theorem dX6_forget_4 : decode cX6_forget 4 = .ok (.istore_n 1, 1) := by decide +kernel
theorem dX6_forget_5 : decode cX6_forget 5 = .ok (.aload_n 0, 1) := by decide +kernel
theorem dX6_forget_6 : decode cX6_forget 6 = .ok (.iconst 0, 1) := by decide +kernel
theorem dX6_forget_7 : decode cX6_forget 7 = .ok (.putfield 72, 3) := by decide +kernel
theorem dX6_forget_10 : decode cX6_forget 10 = .ok (.iload_n 1, 1) := by decide +kernel
theorem dX6_forget_11 : decode cX6_forget 11 = .ok (.ireturn, 1) := by decide +kernel
set_option maxRecDepth 20000 in
theorem ggX6_mayBe_X6_wayOf : GoodIn wsX6_mayBe wsX6_wayOf := goodIn_r _ [9, 10, 11, 12, 8, 13, 17, 18, 19, 20, 21, 22, 23, 24, 25, 26, 27, 28, 29, 30, 31, 32, 33, 34, 35, 36, 37, 38] (by decide +kernel) (by decide +kernel)
set_option maxRecDepth 20000 in
theorem gX6_mayBe_X6_wayOf : GoodIn wsX6_mayBe (wsV RX6 158 RX6 yX6_wayOf wsX6_wayOf) := goodIn_app (goodIn_of _ (by decide +kernel)) ggX6_mayBe_X6_wayOf
set_option maxRecDepth 20000 in
theorem ggX6_mayBe_X6_timeOf : GoodIn wsX6_mayBe wsX6_timeOf := goodIn_r _ [16] (by decide +kernel) (by decide +kernel)
set_option maxRecDepth 20000 in
theorem gX6_mayBe_X6_timeOf : GoodIn wsX6_mayBe (va_wsS RX6 165 yX6_timeOf wsX6_timeOf) := goodIn_app (goodIn_of _ (by decide +kernel)) ggX6_mayBe_X6_timeOf
theorem dX6_mayBe_0 : decode cX6_mayBe 0 = .ok (.iconst 1, 1) := by decide +kernel
theorem dX6_mayBe_1 : decode cX6_mayBe 1 = .ok (.istore_n 3, 1) := by decide +kernel
theorem dX6_mayBe_2 : decode cX6_mayBe 2 = .ok (.iconst 0, 1) := by decide +kernel
theorem dX6_mayBe_3 : decode cX6_mayBe 3 = .ok (.istore 4, 2) := by decide +kernel
theorem dX6_mayBe_5 : decode cX6_mayBe 5 = .ok (.iload 4, 2) := by decide +kernel
theorem dX6_mayBe_7 : decode cX6_mayBe 7 = .ok (.aload_n 0, 1) := by decide +kernel
theorem dX6_mayBe_8 : decode cX6_mayBe 8 = .ok (.getfield 72, 3) := by decide +kernel
theorem dX6_mayBe_11 : decode cX6_mayBe 11 = .ok (.if_icmp .ge 52, 3) := by decide +kernel
theorem dX6_mayBe_14 : decode cX6_mayBe 14 = .ok (.iload_n 3, 1) := by decide +kernel
theorem dX6_mayBe_15 : decode cX6_mayBe 15 = .ok (.ifCond .eq 40, 3) := by decide +kernel
theorem dX6_mayBe_18 : decode cX6_mayBe 18 = .ok (.aload_n 0, 1) := by decide +kernel
theorem dX6_mayBe_19 : decode cX6_mayBe 19 = .ok (.aload_n 0, 1) := by decide +kernel
theorem dX6_mayBe_20 : decode cX6_mayBe 20 = .ok (.getfield 26, 3) := by decide +kernel
theorem dX6_mayBe_23 : decode cX6_mayBe 23 = .ok (.iload 4, 2) := by decide +kernel
theorem dX6_mayBe_25 : decode cX6_mayBe 25 = .ok (.iaload, 1) := by decide +kernel
theorem dX6_mayBe_26 : decode cX6_mayBe 26 = .ok (.aload_n 0, 1) := by decide +kernel
theorem dX6_mayBe_27 : decode cX6_mayBe 27 = .ok (.getfield 29, 3) := by decide +kernel
theorem dX6_mayBe_30 : decode cX6_mayBe 30 = .ok (.iload 4, 2) := by decide +kernel
theorem dX6_mayBe_32 : decode cX6_mayBe 32 = .ok (.iaload, 1) := by decide +kernel
theorem dX6_mayBe_33 : decode cX6_mayBe 33 = .ok (.iload_n 1, 1) := by decide +kernel
theorem dX6_mayBe_34 : decode cX6_mayBe 34 = .ok (.iload_n 2, 1) := by decide +kernel
theorem dX6_mayBe_35 : decode cX6_mayBe 35 = .ok (.invokevirtual 158, 3) := by decide +kernel
theorem dX6_mayBe_38 : decode cX6_mayBe 38 = .ok (.invokestatic 165, 3) := by decide +kernel
theorem dX6_mayBe_41 : decode cX6_mayBe 41 = .ok (.aload_n 0, 1) := by decide +kernel
theorem dX6_mayBe_42 : decode cX6_mayBe 42 = .ok (.getfield 32, 3) := by decide +kernel
theorem dX6_mayBe_45 : decode cX6_mayBe 45 = .ok (.iload 4, 2) := by decide +kernel
theorem dX6_mayBe_47 : decode cX6_mayBe 47 = .ok (.iaload, 1) := by decide +kernel
theorem dX6_mayBe_48 : decode cX6_mayBe 48 = .ok (.if_icmp .ne 7, 3) := by decide +kernel
theorem dX6_mayBe_51 : decode cX6_mayBe 51 = .ok (.iconst 1, 1) := by decide +kernel
theorem dX6_mayBe_52 : decode cX6_mayBe 52 = .ok (.goto 4, 3) := by decide +kernel
theorem dX6_mayBe_55 : decode cX6_mayBe 55 = .ok (.iconst 0, 1) := by decide +kernel
theorem dX6_mayBe_56 : decode cX6_mayBe 56 = .ok (.istore_n 3, 1) := by decide +kernel
theorem dX6_mayBe_57 : decode cX6_mayBe 57 = .ok (.iinc 4 1, 3) := by decide +kernel
theorem dX6_mayBe_60 : decode cX6_mayBe 60 = .ok (.goto (-55), 3) := by decide +kernel
theorem dX6_mayBe_63 : decode cX6_mayBe 63 = .ok (.iload_n 3, 1) := by decide +kernel
theorem dX6_mayBe_64 : decode cX6_mayBe 64 = .ok (.ireturn, 1) := by decide +kernel
set_option maxRecDepth 20000 in
theorem ggX6_places_X6_mayBe : GoodIn wsX6_places wsX6_mayBe := goodIn_r _ [6, 7, 8, 9, 10, 11, 12, 13, 5, 14, 1, 15, 16, 17, 18, 19, 20, 21, 22, 23, 24, 25, 26, 27, 28, 29, 30, 31, 32, 33, 34, 35, 36, 37, 38, 39, 40, 41, 42] (by decide +kernel) (by decide +kernel)
set_option maxRecDepth 20000 in
theorem gX6_places_X6_mayBe : GoodIn wsX6_places (wsV RX6 202 RX6 yX6_mayBe wsX6_mayBe) := goodIn_app (goodIn_of _ (by decide +kernel)) ggX6_places_X6_mayBe
theorem dX6_places_0 : decode cX6_places 0 = .ok (.iconst 0, 1) := by decide +kernel
theorem dX6_places_1 : decode cX6_places 1 = .ok (.istore_n 2, 1) := by decide +kernel
theorem dX6_places_2 : decode cX6_places 2 = .ok (.iconst 0, 1) := by decide +kernel
theorem dX6_places_3 : decode cX6_places 3 = .ok (.istore_n 3, 1) := by decide +kernel
theorem dX6_places_4 : decode cX6_places 4 = .ok (.iload_n 3, 1) := by decide +kernel
theorem dX6_places_5 : decode cX6_places 5 = .ok (.aload_n 0, 1) := by decide +kernel
theorem dX6_places_6 : decode cX6_places 6 = .ok (.getfield 7, 3) := by decide +kernel
theorem dX6_places_9 : decode cX6_places 9 = .ok (.iconst 0, 1) := by decide +kernel
theorem dX6_places_10 : decode cX6_places 10 = .ok (.iaload, 1) := by decide +kernel
theorem dX6_places_11 : decode cX6_places 11 = .ok (.if_icmp .gt 54, 3) := by decide +kernel
theorem dX6_places_14 : decode cX6_places 14 = .ok (.iconst 0, 1) := by decide +kernel
theorem dX6_places_15 : decode cX6_places 15 = .ok (.istore 4, 2) := by decide +kernel
theorem dX6_places_17 : decode cX6_places 17 = .ok (.iload 4, 2) := by decide +kernel
theorem dX6_places_19 : decode cX6_places 19 = .ok (.aload_n 0, 1) := by decide +kernel
theorem dX6_places_20 : decode cX6_places 20 = .ok (.getfield 7, 3) := by decide +kernel
theorem dX6_places_23 : decode cX6_places 23 = .ok (.iconst 1, 1) := by decide +kernel
theorem dX6_places_24 : decode cX6_places 24 = .ok (.iaload, 1) := by decide +kernel
theorem dX6_places_25 : decode cX6_places 25 = .ok (.if_icmp .gt 34, 3) := by decide +kernel
theorem dX6_places_28 : decode cX6_places 28 = .ok (.aload_n 0, 1) := by decide +kernel
theorem dX6_places_29 : decode cX6_places 29 = .ok (.iload_n 3, 1) := by decide +kernel
theorem dX6_places_30 : decode cX6_places 30 = .ok (.iload 4, 2) := by decide +kernel
theorem dX6_places_32 : decode cX6_places 32 = .ok (.invokevirtual 202, 3) := by decide +kernel
theorem dX6_places_35 : decode cX6_places 35 = .ok (.ifCond .eq 18, 3) := by decide +kernel
theorem dX6_places_38 : decode cX6_places 38 = .ok (.iload_n 1, 1) := by decide +kernel
theorem dX6_places_39 : decode cX6_places 39 = .ok (.ifCond .eq 11, 3) := by decide +kernel
theorem dX6_places_42 : decode cX6_places 42 = .ok (.bipush 100, 2) := by decide +kernel
theorem dX6_places_44 : decode cX6_places 44 = .ok (.iload_n 3, 1) := by decide +kernel
theorem dX6_places_45 : decode cX6_places 45 = .ok (.imul, 1) := by decide +kernel
theorem dX6_places_46 : decode cX6_places 46 = .ok (.iload 4, 2) := by decide +kernel
theorem dX6_places_48 : decode cX6_places 48 = .ok (.iadd, 1) := by decide +kernel
theorem dX6_places_49 : decode cX6_places 49 = .ok (.ireturn, 1) := by decide +kernel
theorem dX6_places_50 : decode cX6_places 50 = .ok (.iinc 2 1, 3) := by decide +kernel
theorem dX6_places_53 : decode cX6_places 53 = .ok (.iinc 4 1, 3) := by decide +kernel
theorem dX6_places_56 : decode cX6_places 56 = .ok (.goto (-39), 3) := by decide +kernel
theorem dX6_places_59 : decode cX6_places 59 = .ok (.iinc 3 1, 3) := by decide +kernel
theorem dX6_places_62 : decode cX6_places 62 = .ok (.goto (-58), 3) := by decide +kernel
theorem dX6_places_65 : decode cX6_places 65 = .ok (.iload_n 1, 1) := by decide +kernel
theorem dX6_places_66 : decode cX6_places 66 = .ok (.ifCond .eq 8, 3) := by decide +kernel
theorem dX6_places_69 : decode cX6_places 69 = .ok (.bipush (-9), 2) := by decide +kernel
theorem dX6_places_71 : decode cX6_places 71 = .ok (.goto 4, 3) := by decide +kernel
theorem dX6_places_74 : decode cX6_places 74 = .ok (.iload_n 2, 1) := by decide +kernel
theorem dX6_places_75 : decode cX6_places 75 = .ok (.ireturn, 1) := by decide +kernel
set_option maxRecDepth 20000 in
theorem ggX6_unseen_X6_in : GoodIn wsX6_unseen wsX6_in := goodIn_r _ [4] (by decide +kernel) (by decide +kernel)
set_option maxRecDepth 20000 in
theorem gX6_unseen_X6_in : GoodIn wsX6_unseen (va_wsS RX6 75 yX6_in wsX6_in) := goodIn_app (goodIn_of _ (by decide +kernel)) ggX6_unseen_X6_in
set_option maxRecDepth 20000 in
theorem ggX6_unseen_X6_places : GoodIn wsX6_unseen wsX6_places := goodIn_r _ [8, 9, 10, 11, 12, 3, 13, 14, 15, 16, 17, 18, 19, 20, 21, 22, 23, 24, 25, 26, 27, 28, 29, 30, 31, 32, 33, 34, 35, 36, 37, 38, 39, 40, 41, 42, 43, 44, 45, 46, 47, 48, 49] (by decide +kernel) (by decide +kernel)
set_option maxRecDepth 20000 in
theorem gX6_unseen_X6_places : GoodIn wsX6_unseen (wsV RX6 205 RX6 yX6_places wsX6_places) := goodIn_app (goodIn_of _ (by decide +kernel)) ggX6_unseen_X6_places
theorem dX6_unseen_0 : decode cX6_unseen 0 = .ok (.iload_n 1, 1) := by decide +kernel
theorem dX6_unseen_1 : decode cX6_unseen 1 = .ok (.iconst 0, 1) := by decide +kernel
theorem dX6_unseen_2 : decode cX6_unseen 2 = .ok (.iconst 1, 1) := by decide +kernel
theorem dX6_unseen_3 : decode cX6_unseen 3 = .ok (.invokestatic 75, 3) := by decide +kernel
theorem dX6_unseen_6 : decode cX6_unseen 6 = .ok (.ifCond .eq 20, 3) := by decide +kernel
theorem dX6_unseen_9 : decode cX6_unseen 9 = .ok (.aload_n 0, 1) := by decide +kernel
theorem dX6_unseen_10 : decode cX6_unseen 10 = .ok (.iload_n 1, 1) := by decide +kernel
theorem dX6_unseen_11 : decode cX6_unseen 11 = .ok (.iconst 1, 1) := by decide +kernel
theorem dX6_unseen_12 : decode cX6_unseen 12 = .ok (.if_icmp .ne 7, 3) := by decide +kernel
theorem dX6_unseen_15 : decode cX6_unseen 15 = .ok (.iconst 1, 1) := by decide +kernel
theorem dX6_unseen_16 : decode cX6_unseen 16 = .ok (.goto 4, 3) := by decide +kernel
theorem dX6_unseen_19 : decode cX6_unseen 19 = .ok (.iconst 0, 1) := by decide +kernel
theorem dX6_unseen_20 : decode cX6_unseen 20 = .ok (.invokevirtual 205, 3) := by decide +kernel
theorem dX6_unseen_23 : decode cX6_unseen 23 = .ok (.goto 4, 3) := by decide +kernel
theorem dX6_unseen_26 : decode cX6_unseen 26 = .ok (.iconst (-1), 1) := by decide +kernel
theorem dX6_unseen_27 : decode cX6_unseen 27 = .ok (.ireturn, 1) := by decide +kernel
set_option maxRecDepth 20000 in
theorem ggX6_unlike_X6_mayBe : GoodIn wsX6_unlike wsX6_mayBe := goodIn_r _ [7, 8, 9, 10, 11, 12, 13, 14, 6, 15, 2, 16, 17, 18, 19, 20, 21, 22, 23, 24, 25, 26, 27, 28, 29, 30, 31, 32, 33, 34, 35, 36, 37, 38, 39, 40, 41, 42, 43] (by decide +kernel) (by decide +kernel)
set_option maxRecDepth 20000 in
theorem gX6_unlike_X6_mayBe : GoodIn wsX6_unlike (wsV RX6 202 RX6 yX6_mayBe wsX6_mayBe) := goodIn_app (goodIn_of _ (by decide +kernel)) ggX6_unlike_X6_mayBe
set_option maxRecDepth 20000 in
theorem ggX6_unlike_X6_wayOf : GoodIn wsX6_unlike wsX6_wayOf := goodIn_r _ [15, 2, 16, 17, 6, 18, 22, 23, 24, 25, 26, 27, 28, 29, 30, 31, 32, 33, 34, 35, 36, 37, 38, 39, 40, 41, 42, 43] (by decide +kernel) (by decide +kernel)
set_option maxRecDepth 20000 in
theorem gX6_unlike_X6_wayOf : GoodIn wsX6_unlike (wsV RX6 158 RX6 yX6_wayOf wsX6_wayOf) := goodIn_app (goodIn_of _ (by decide +kernel)) ggX6_unlike_X6_wayOf
set_option maxRecDepth 20000 in
theorem ggX6_unlike_X6_timeOf : GoodIn wsX6_unlike wsX6_timeOf := goodIn_r _ [21] (by decide +kernel) (by decide +kernel)
set_option maxRecDepth 20000 in
theorem gX6_unlike_X6_timeOf : GoodIn wsX6_unlike (va_wsS RX6 165 yX6_timeOf wsX6_timeOf) := goodIn_app (goodIn_of _ (by decide +kernel)) ggX6_unlike_X6_timeOf
theorem dX6_unlike_0 : decode cX6_unlike 0 = .ok (.iconst 0, 1) := by decide +kernel
theorem dX6_unlike_1 : decode cX6_unlike 1 = .ok (.istore_n 3, 1) := by decide +kernel
theorem dX6_unlike_2 : decode cX6_unlike 2 = .ok (.iload_n 3, 1) := by decide +kernel
theorem dX6_unlike_3 : decode cX6_unlike 3 = .ok (.sipush 2000, 3) := by decide +kernel
theorem dX6_unlike_6 : decode cX6_unlike 6 = .ok (.if_icmp .ge 16, 3) := by decide +kernel
theorem dX6_unlike_9 : decode cX6_unlike 9 = .ok (.aload_n 0, 1) := by decide +kernel
theorem dX6_unlike_10 : decode cX6_unlike 10 = .ok (.getfield 59, 3) := by decide +kernel
theorem dX6_unlike_13 : decode cX6_unlike 13 = .ok (.iload_n 3, 1) := by decide +kernel
theorem dX6_unlike_14 : decode cX6_unlike 14 = .ok (.iconst 0, 1) := by decide +kernel
theorem dX6_unlike_15 : decode cX6_unlike 15 = .ok (.bastore, 1) := by decide +kernel
theorem dX6_unlike_16 : decode cX6_unlike 16 = .ok (.iinc 3 1, 3) := by decide +kernel
theorem dX6_unlike_19 : decode cX6_unlike 19 = .ok (.goto (-17), 3) := by decide +kernel
theorem dX6_unlike_22 : decode cX6_unlike 22 = .ok (.iconst 0, 1) := by decide +kernel
theorem dX6_unlike_23 : decode cX6_unlike 23 = .ok (.istore_n 3, 1) := by decide +kernel
theorem dX6_unlike_24 : decode cX6_unlike 24 = .ok (.iconst 0, 1) := by decide +kernel
theorem dX6_unlike_25 : decode cX6_unlike 25 = .ok (.istore 4, 2) := by decide +kernel
theorem dX6_unlike_27 : decode cX6_unlike 27 = .ok (.iload 4, 2) := by decide +kernel
theorem dX6_unlike_29 : decode cX6_unlike 29 = .ok (.aload_n 0, 1) := by decide +kernel
theorem dX6_unlike_30 : decode cX6_unlike 30 = .ok (.getfield 7, 3) := by decide +kernel
theorem dX6_unlike_33 : decode cX6_unlike 33 = .ok (.iconst 0, 1) := by decide +kernel
theorem dX6_unlike_34 : decode cX6_unlike 34 = .ok (.iaload, 1) := by decide +kernel
theorem dX6_unlike_35 : decode cX6_unlike 35 = .ok (.if_icmp .gt 81, 3) := by decide +kernel
theorem dX6_unlike_38 : decode cX6_unlike 38 = .ok (.iconst 0, 1) := by decide +kernel
theorem dX6_unlike_39 : decode cX6_unlike 39 = .ok (.istore 5, 2) := by decide +kernel
theorem dX6_unlike_41 : decode cX6_unlike 41 = .ok (.iload 5, 2) := by decide +kernel
theorem dX6_unlike_43 : decode cX6_unlike 43 = .ok (.aload_n 0, 1) := by decide +kernel
theorem dX6_unlike_44 : decode cX6_unlike 44 = .ok (.getfield 7, 3) := by decide +kernel
theorem dX6_unlike_47 : decode cX6_unlike 47 = .ok (.iconst 1, 1) := by decide +kernel
theorem dX6_unlike_48 : decode cX6_unlike 48 = .ok (.iaload, 1) := by decide +kernel
theorem dX6_unlike_49 : decode cX6_unlike 49 = .ok (.if_icmp .gt 61, 3) := by decide +kernel
theorem dX6_unlike_52 : decode cX6_unlike 52 = .ok (.aload_n 0, 1) := by decide +kernel
theorem dX6_unlike_53 : decode cX6_unlike 53 = .ok (.iload 4, 2) := by decide +kernel
theorem dX6_unlike_55 : decode cX6_unlike 55 = .ok (.iload 5, 2) := by decide +kernel
theorem dX6_unlike_57 : decode cX6_unlike 57 = .ok (.invokevirtual 202, 3) := by decide +kernel
theorem dX6_unlike_60 : decode cX6_unlike 60 = .ok (.ifCond .eq 44, 3) := by decide +kernel
theorem dX6_unlike_63 : decode cX6_unlike 63 = .ok (.aload_n 0, 1) := by decide +kernel
theorem dX6_unlike_64 : decode cX6_unlike 64 = .ok (.iload_n 1, 1) := by decide +kernel
theorem dX6_unlike_65 : decode cX6_unlike 65 = .ok (.iload_n 2, 1) := by decide +kernel
theorem dX6_unlike_66 : decode cX6_unlike 66 = .ok (.iload 4, 2) := by decide +kernel
theorem dX6_unlike_68 : decode cX6_unlike 68 = .ok (.iload 5, 2) := by decide +kernel
theorem dX6_unlike_70 : decode cX6_unlike 70 = .ok (.invokevirtual 158, 3) := by decide +kernel
theorem dX6_unlike_73 : decode cX6_unlike 73 = .ok (.invokestatic 165, 3) := by decide +kernel
theorem dX6_unlike_76 : decode cX6_unlike 76 = .ok (.istore 6, 2) := by decide +kernel
theorem dX6_unlike_78 : decode cX6_unlike 78 = .ok (.iload_n 3, 1) := by decide +kernel
theorem dX6_unlike_79 : decode cX6_unlike 79 = .ok (.aload_n 0, 1) := by decide +kernel
theorem dX6_unlike_80 : decode cX6_unlike 80 = .ok (.getfield 59, 3) := by decide +kernel
theorem dX6_unlike_83 : decode cX6_unlike 83 = .ok (.iload 6, 2) := by decide +kernel
theorem dX6_unlike_85 : decode cX6_unlike 85 = .ok (.baload, 1) := by decide +kernel
theorem dX6_unlike_86 : decode cX6_unlike 86 = .ok (.ifCond .eq 7, 3) := by decide +kernel
theorem dX6_unlike_89 : decode cX6_unlike 89 = .ok (.iconst 0, 1) := by decide +kernel
theorem dX6_unlike_90 : decode cX6_unlike 90 = .ok (.goto 4, 3) := by decide +kernel
theorem dX6_unlike_93 : decode cX6_unlike 93 = .ok (.iconst 1, 1) := by decide +kernel
theorem dX6_unlike_94 : decode cX6_unlike 94 = .ok (.iadd, 1) := by decide +kernel
theorem dX6_unlike_95 : decode cX6_unlike 95 = .ok (.istore_n 3, 1) := by decide +kernel
theorem dX6_unlike_96 : decode cX6_unlike 96 = .ok (.aload_n 0, 1) := by decide +kernel
theorem dX6_unlike_97 : decode cX6_unlike 97 = .ok (.getfield 59, 3) := by decide +kernel
theorem dX6_unlike_100 : decode cX6_unlike 100 = .ok (.iload 6, 2) := by decide +kernel
theorem dX6_unlike_102 : decode cX6_unlike 102 = .ok (.iconst 1, 1) := by decide +kernel
theorem dX6_unlike_103 : decode cX6_unlike 103 = .ok (.bastore, 1) := by decide +kernel
theorem dX6_unlike_104 : decode cX6_unlike 104 = .ok (.iinc 5 1, 3) := by decide +kernel
theorem dX6_unlike_107 : decode cX6_unlike 107 = .ok (.goto (-66), 3) := by decide +kernel
theorem dX6_unlike_110 : decode cX6_unlike 110 = .ok (.iinc 4 1, 3) := by decide +kernel
theorem dX6_unlike_113 : decode cX6_unlike 113 = .ok (.goto (-86), 3) := by decide +kernel
theorem dX6_unlike_116 : decode cX6_unlike 116 = .ok (.iload_n 3, 1) := by decide +kernel
theorem dX6_unlike_117 : decode cX6_unlike 117 = .ok (.ireturn, 1) := by decide +kernel
set_option maxRecDepth 20000 in
theorem ggX6_listen_X6_places : GoodIn wsX6_listen wsX6_places := goodIn_r _ [5, 6, 7, 8, 9, 4, 10, 11, 12, 13, 14, 15, 16, 17, 18, 19, 20, 21, 22, 23, 24, 39, 40, 41, 42, 43, 44, 45, 46, 47, 48, 49, 50, 51, 52, 53, 54, 55, 56, 57, 58, 59, 60] (by decide +kernel) (by decide +kernel)
set_option maxRecDepth 20000 in
theorem gX6_listen_X6_places : GoodIn wsX6_listen (wsV RX6 205 RX6 yX6_places wsX6_places) := goodIn_app (goodIn_of _ (by decide +kernel)) ggX6_listen_X6_places
set_option maxRecDepth 20000 in
theorem ggX6_listen_X6_isImage : GoodIn wsX6_listen wsX6_isImage := goodIn_r _ [27, 28, 29, 4, 30, 31, 32, 33] (by decide +kernel) (by decide +kernel)
set_option maxRecDepth 20000 in
theorem gX6_listen_X6_isImage : GoodIn wsX6_listen (va_wsS RX6 142 yX6_isImage wsX6_isImage) := goodIn_app (goodIn_of _ (by decide +kernel)) ggX6_listen_X6_isImage
set_option maxRecDepth 20000 in
theorem ggX6_listen_X6_unlike : GoodIn wsX6_listen wsX6_unlike := goodIn_r _ [37, 38, 6, 7, 8, 9, 4, 10, 11, 12, 13, 14, 15, 16, 17, 18, 19, 20, 21, 22, 23, 24, 39, 40, 41, 42, 43, 44, 45, 46, 47, 48, 49, 50, 51, 52, 53, 54, 55, 56, 57, 58, 59, 60] (by decide +kernel) (by decide +kernel)
set_option maxRecDepth 20000 in
theorem gX6_listen_X6_unlike : GoodIn wsX6_listen (wsV RX6 209 RX6 yX6_unlike wsX6_unlike) := goodIn_app (goodIn_of _ (by decide +kernel)) ggX6_listen_X6_unlike
theorem dX6_listen_0 : decode cX6_listen 0 = .ok (.aload_n 0, 1) := by decide +kernel
theorem dX6_listen_1 : decode cX6_listen 1 = .ok (.iconst 0, 1) := by decide +kernel
theorem dX6_listen_2 : decode cX6_listen 2 = .ok (.invokevirtual 205, 3) := by decide +kernel
theorem dX6_listen_5 : decode cX6_listen 5 = .ok (.iconst 2, 1) := by decide +kernel
theorem dX6_listen_6 : decode cX6_listen 6 = .ok (.if_icmp .ge 6, 3) := by decide +kernel
theorem dX6_listen_9 : decode cX6_listen 9 = .ok (.bipush (-9), 2) := by decide +kernel
theorem dX6_listen_11 : decode cX6_listen 11 = .ok (.ireturn, 1) := by decide +kernel
theorem dX6_listen_12 : decode cX6_listen 12 = .ok (.bipush (-9), 2) := by decide +kernel
theorem dX6_listen_14 : decode cX6_listen 14 = .ok (.istore_n 1, 1) := by decide +kernel
theorem dX6_listen_15 : decode cX6_listen 15 = .ok (.iconst 0, 1) := by decide +kernel
theorem dX6_listen_16 : decode cX6_listen 16 = .ok (.istore_n 2, 1) := by decide +kernel
theorem dX6_listen_17 : decode cX6_listen 17 = .ok (.bipush (-3), 2) := by decide +kernel
theorem dX6_listen_19 : decode cX6_listen 19 = .ok (.istore_n 3, 1) := by decide +kernel
theorem dX6_listen_20 : decode cX6_listen 20 = .ok (.iload_n 3, 1) := by decide +kernel
theorem dX6_listen_21 : decode cX6_listen 21 = .ok (.iconst 3, 1) := by decide +kernel
theorem dX6_listen_22 : decode cX6_listen 22 = .ok (.if_icmp .gt 82, 3) := by decide +kernel
theorem dX6_listen_25 : decode cX6_listen 25 = .ok (.bipush (-3), 2) := by decide +kernel
theorem dX6_listen_27 : decode cX6_listen 27 = .ok (.istore 4, 2) := by decide +kernel
theorem dX6_listen_29 : decode cX6_listen 29 = .ok (.iload 4, 2) := by decide +kernel
theorem dX6_listen_31 : decode cX6_listen 31 = .ok (.iconst 3, 1) := by decide +kernel
theorem dX6_listen_32 : decode cX6_listen 32 = .ok (.if_icmp .gt 66, 3) := by decide +kernel
theorem dX6_listen_35 : decode cX6_listen 35 = .ok (.iload_n 3, 1) := by decide +kernel
theorem dX6_listen_36 : decode cX6_listen 36 = .ok (.iload 4, 2) := by decide +kernel
theorem dX6_listen_38 : decode cX6_listen 38 = .ok (.invokestatic 142, 3) := by decide +kernel
theorem dX6_listen_41 : decode cX6_listen 41 = .ok (.ifCond .eq 13, 3) := by decide +kernel
theorem dX6_listen_44 : decode cX6_listen 44 = .ok (.aload_n 0, 1) := by decide +kernel
theorem dX6_listen_45 : decode cX6_listen 45 = .ok (.iload_n 3, 1) := by decide +kernel
theorem dX6_listen_46 : decode cX6_listen 46 = .ok (.iload 4, 2) := by decide +kernel
theorem dX6_listen_48 : decode cX6_listen 48 = .ok (.invokevirtual 209, 3) := by decide +kernel
theorem dX6_listen_51 : decode cX6_listen 51 = .ok (.goto 4, 3) := by decide +kernel
theorem dX6_listen_54 : decode cX6_listen 54 = .ok (.iconst 0, 1) := by decide +kernel
theorem dX6_listen_55 : decode cX6_listen 55 = .ok (.istore 5, 2) := by decide +kernel
theorem dX6_listen_57 : decode cX6_listen 57 = .ok (.iload 5, 2) := by decide +kernel
theorem dX6_listen_59 : decode cX6_listen 59 = .ok (.iload_n 2, 1) := by decide +kernel
theorem dX6_listen_60 : decode cX6_listen 60 = .ok (.if_icmp .le 17, 3) := by decide +kernel
theorem dX6_listen_63 : decode cX6_listen 63 = .ok (.bipush 100, 2) := by decide +kernel
theorem dX6_listen_65 : decode cX6_listen 65 = .ok (.iload_n 3, 1) := by decide +kernel
theorem dX6_listen_66 : decode cX6_listen 66 = .ok (.iconst 3, 1) := by decide +kernel
theorem dX6_listen_67 : decode cX6_listen 67 = .ok (.iadd, 1) := by decide +kernel
theorem dX6_listen_68 : decode cX6_listen 68 = .ok (.imul, 1) := by decide +kernel
theorem dX6_listen_69 : decode cX6_listen 69 = .ok (.iload 4, 2) := by decide +kernel
theorem dX6_listen_71 : decode cX6_listen 71 = .ok (.iadd, 1) := by decide +kernel
theorem dX6_listen_72 : decode cX6_listen 72 = .ok (.iconst 3, 1) := by decide +kernel
theorem dX6_listen_73 : decode cX6_listen 73 = .ok (.iadd, 1) := by decide +kernel
theorem dX6_listen_74 : decode cX6_listen 74 = .ok (.goto 4, 3) := by decide +kernel
theorem dX6_listen_77 : decode cX6_listen 77 = .ok (.iload_n 1, 1) := by decide +kernel
theorem dX6_listen_78 : decode cX6_listen 78 = .ok (.istore_n 1, 1) := by decide +kernel
theorem dX6_listen_79 : decode cX6_listen 79 = .ok (.iload 5, 2) := by decide +kernel
theorem dX6_listen_81 : decode cX6_listen 81 = .ok (.iload_n 2, 1) := by decide +kernel
theorem dX6_listen_82 : decode cX6_listen 82 = .ok (.if_icmp .le 8, 3) := by decide +kernel
theorem dX6_listen_85 : decode cX6_listen 85 = .ok (.iload 5, 2) := by decide +kernel
theorem dX6_listen_87 : decode cX6_listen 87 = .ok (.goto 4, 3) := by decide +kernel
theorem dX6_listen_90 : decode cX6_listen 90 = .ok (.iload_n 2, 1) := by decide +kernel
theorem dX6_listen_91 : decode cX6_listen 91 = .ok (.istore_n 2, 1) := by decide +kernel
theorem dX6_listen_92 : decode cX6_listen 92 = .ok (.iinc 4 1, 3) := by decide +kernel
theorem dX6_listen_95 : decode cX6_listen 95 = .ok (.goto (-66), 3) := by decide +kernel
theorem dX6_listen_98 : decode cX6_listen 98 = .ok (.iinc 3 1, 3) := by decide +kernel
theorem dX6_listen_101 : decode cX6_listen 101 = .ok (.goto (-81), 3) := by decide +kernel
theorem dX6_listen_104 : decode cX6_listen 104 = .ok (.iload_n 1, 1) := by decide +kernel
theorem dX6_listen_105 : decode cX6_listen 105 = .ok (.ireturn, 1) := by decide +kernel
set_option maxRecDepth 20000 in
theorem ggX6_keep_X6_in : GoodIn wsX6_keep wsX6_in := goodIn_r _ [7] (by decide +kernel) (by decide +kernel)
set_option maxRecDepth 20000 in
theorem gX6_keep_X6_in : GoodIn wsX6_keep (va_wsS RX6 75 yX6_in wsX6_in) := goodIn_app (goodIn_of _ (by decide +kernel)) ggX6_keep_X6_in
set_option maxRecDepth 20000 in
theorem ggX6_keep_X6_sourceAt : GoodIn wsX6_keep wsX6_sourceAt := goodIn_r _ [11, 2, 12, 13, 14, 15, 16, 17, 18, 19, 20, 21, 22, 23, 24, 25, 26, 27, 28, 29, 30, 31, 32, 33] (by decide +kernel) (by decide +kernel)
set_option maxRecDepth 20000 in
theorem gX6_keep_X6_sourceAt : GoodIn wsX6_keep (wsV RX6 134 RX6 yX6_sourceAt wsX6_sourceAt) := goodIn_app (goodIn_of _ (by decide +kernel)) ggX6_keep_X6_sourceAt
theorem dX6_keep_0 : decode cX6_keep 0 = .ok (.iload_n 1, 1) := by decide +kernel
theorem dX6_keep_1 : decode cX6_keep 1 = .ok (.iconst 0, 1) := by decide +kernel
theorem dX6_keep_2 : decode cX6_keep 2 = .ok (.iconst 1, 1) := by decide +kernel
theorem dX6_keep_3 : decode cX6_keep 3 = .ok (.invokestatic 75, 3) := by decide +kernel
theorem dX6_keep_6 : decode cX6_keep 6 = .ok (.ifCond .ne 5, 3) := by decide +kernel
theorem dX6_keep_9 : decode cX6_keep 9 = .ok (.iconst (-1), 1) := by decide +kernel
theorem dX6_keep_10 : decode cX6_keep 10 = .ok (.ireturn, 1) := by decide +kernel
theorem dX6_keep_11 : decode cX6_keep 11 = .ok (.iconst 0, 1) := by decide +kernel
theorem dX6_keep_12 : decode cX6_keep 12 = .ok (.istore_n 2, 1) := by decide +kernel
theorem dX6_keep_13 : decode cX6_keep 13 = .ok (.iload_n 2, 1) := by decide +kernel
theorem dX6_keep_14 : decode cX6_keep 14 = .ok (.bipush 27, 2) := by decide +kernel
theorem dX6_keep_16 : decode cX6_keep 16 = .ok (.if_icmp .ge 26, 3) := by decide +kernel
theorem dX6_keep_19 : decode cX6_keep 19 = .ok (.aload_n 0, 1) := by decide +kernel
theorem dX6_keep_20 : decode cX6_keep 20 = .ok (.getfield 16, 3) := by decide +kernel
theorem dX6_keep_23 : decode cX6_keep 23 = .ok (.bipush 27, 2) := by decide +kernel
theorem dX6_keep_25 : decode cX6_keep 25 = .ok (.iload_n 1, 1) := by decide +kernel
theorem dX6_keep_26 : decode cX6_keep 26 = .ok (.imul, 1) := by decide +kernel
theorem dX6_keep_27 : decode cX6_keep 27 = .ok (.iload_n 2, 1) := by decide +kernel
theorem dX6_keep_28 : decode cX6_keep 28 = .ok (.iadd, 1) := by decide +kernel
theorem dX6_keep_29 : decode cX6_keep 29 = .ok (.aload_n 0, 1) := by decide +kernel
theorem dX6_keep_30 : decode cX6_keep 30 = .ok (.getfield 7, 3) := by decide +kernel
theorem dX6_keep_33 : decode cX6_keep 33 = .ok (.iload_n 2, 1) := by decide +kernel
theorem dX6_keep_34 : decode cX6_keep 34 = .ok (.iaload, 1) := by decide +kernel
theorem dX6_keep_35 : decode cX6_keep 35 = .ok (.iastore, 1) := by decide +kernel
theorem dX6_keep_36 : decode cX6_keep 36 = .ok (.iinc 2 1, 3) := by decide +kernel
theorem dX6_keep_39 : decode cX6_keep 39 = .ok (.goto (-26), 3) := by decide +kernel
theorem dX6_keep_42 : decode cX6_keep 42 = .ok (.aload_n 0, 1) := by decide +kernel
theorem dX6_keep_43 : decode cX6_keep 43 = .ok (.getfield 19, 3) := by decide +kernel
theorem dX6_keep_46 : decode cX6_keep 46 = .ok (.iload_n 1, 1) := by decide +kernel
theorem dX6_keep_47 : decode cX6_keep 47 = .ok (.iconst 1, 1) := by decide +kernel
theorem dX6_keep_48 : decode cX6_keep 48 = .ok (.bastore, 1) := by decide +kernel
theorem dX6_keep_49 : decode cX6_keep 49 = .ok (.aload_n 0, 1) := by decide +kernel
theorem dX6_keep_50 : decode cX6_keep 50 = .ok (.invokevirtual 134, 3) := by decide +kernel
theorem dX6_keep_53 : decode cX6_keep 53 = .ok (.ireturn, 1) := by decide +kernel
set_option maxRecDepth 20000 in
theorem ggX6_back_X6_in : GoodIn wsX6_back wsX6_in := goodIn_r _ [8] (by decide +kernel) (by decide +kernel)
set_option maxRecDepth 20000 in
theorem gX6_back_X6_in : GoodIn wsX6_back (va_wsS RX6 75 yX6_in wsX6_in) := goodIn_app (goodIn_of _ (by decide +kernel)) ggX6_back_X6_in
set_option maxRecDepth 20000 in
theorem ggX6_back_X6_sourceAt : GoodIn wsX6_back wsX6_sourceAt := goodIn_r _ [12, 2, 13, 14, 15, 16, 17, 18, 19, 20, 21, 22, 23, 24, 25, 26, 27, 28, 29, 30, 31, 32, 33, 34] (by decide +kernel) (by decide +kernel)
set_option maxRecDepth 20000 in
theorem gX6_back_X6_sourceAt : GoodIn wsX6_back (wsV RX6 134 RX6 yX6_sourceAt wsX6_sourceAt) := goodIn_app (goodIn_of _ (by decide +kernel)) ggX6_back_X6_sourceAt
theorem dX6_back_0 : decode cX6_back 0 = .ok (.iload_n 1, 1) := by decide +kernel
theorem dX6_back_1 : decode cX6_back 1 = .ok (.iconst 0, 1) := by decide +kernel
theorem dX6_back_2 : decode cX6_back 2 = .ok (.iconst 1, 1) := by decide +kernel
theorem dX6_back_3 : decode cX6_back 3 = .ok (.invokestatic 75, 3) := by decide +kernel
theorem dX6_back_6 : decode cX6_back 6 = .ok (.ifCond .ne 5, 3) := by decide +kernel
theorem dX6_back_9 : decode cX6_back 9 = .ok (.iconst (-1), 1) := by decide +kernel
theorem dX6_back_10 : decode cX6_back 10 = .ok (.ireturn, 1) := by decide +kernel
theorem dX6_back_11 : decode cX6_back 11 = .ok (.aload_n 0, 1) := by decide +kernel
theorem dX6_back_12 : decode cX6_back 12 = .ok (.getfield 19, 3) := by decide +kernel
theorem dX6_back_15 : decode cX6_back 15 = .ok (.iload_n 1, 1) := by decide +kernel
theorem dX6_back_16 : decode cX6_back 16 = .ok (.baload, 1) := by decide +kernel
theorem dX6_back_17 : decode cX6_back 17 = .ok (.ifCond .ne 6, 3) := by decide +kernel
theorem dX6_back_20 : decode cX6_back 20 = .ok (.bipush (-2), 2) := by decide +kernel
theorem dX6_back_22 : decode cX6_back 22 = .ok (.ireturn, 1) := by decide +kernel
theorem dX6_back_23 : decode cX6_back 23 = .ok (.iconst 0, 1) := by decide +kernel
theorem dX6_back_24 : decode cX6_back 24 = .ok (.istore_n 2, 1) := by decide +kernel
theorem dX6_back_25 : decode cX6_back 25 = .ok (.iload_n 2, 1) := by decide +kernel
theorem dX6_back_26 : decode cX6_back 26 = .ok (.bipush 27, 2) := by decide +kernel
theorem dX6_back_28 : decode cX6_back 28 = .ok (.if_icmp .ge 26, 3) := by decide +kernel
theorem dX6_back_31 : decode cX6_back 31 = .ok (.aload_n 0, 1) := by decide +kernel
theorem dX6_back_32 : decode cX6_back 32 = .ok (.getfield 7, 3) := by decide +kernel
theorem dX6_back_35 : decode cX6_back 35 = .ok (.iload_n 2, 1) := by decide +kernel
theorem dX6_back_36 : decode cX6_back 36 = .ok (.aload_n 0, 1) := by decide +kernel
theorem dX6_back_37 : decode cX6_back 37 = .ok (.getfield 16, 3) := by decide +kernel
theorem dX6_back_40 : decode cX6_back 40 = .ok (.bipush 27, 2) := by decide +kernel
theorem dX6_back_42 : decode cX6_back 42 = .ok (.iload_n 1, 1) := by decide +kernel
theorem dX6_back_43 : decode cX6_back 43 = .ok (.imul, 1) := by decide +kernel
theorem dX6_back_44 : decode cX6_back 44 = .ok (.iload_n 2, 1) := by decide +kernel
theorem dX6_back_45 : decode cX6_back 45 = .ok (.iadd, 1) := by decide +kernel
end
section
theorem dX6_back_46 : decode cX6_back 46 = .ok (.iaload, 1) := by decide +kernel
theorem dX6_back_47 : decode cX6_back 47 = .ok (.iastore, 1) := by decide +kernel
theorem dX6_back_48 : decode cX6_back 48 = .ok (.iinc 2 1, 3) := by decide +kernel
theorem dX6_back_51 : decode cX6_back 51 = .ok (.goto (-26), 3) := by decide +kernel
theorem dX6_back_54 : decode cX6_back 54 = .ok (.aload_n 0, 1) := by decide +kernel
theorem dX6_back_55 : decode cX6_back 55 = .ok (.iconst 0, 1) := by decide +kernel
theorem dX6_back_56 : decode cX6_back 56 = .ok (.putfield 68, 3) := by decide +kernel
theorem dX6_back_59 : decode cX6_back 59 = .ok (.aload_n 0, 1) := by decide +kernel
theorem dX6_back_60 : decode cX6_back 60 = .ok (.invokevirtual 134, 3) := by decide +kernel
theorem dX6_back_63 : decode cX6_back 63 = .ok (.ireturn, 1) := by decide +kernel
theorem dX6_count_0 : decode cX6_count 0 = .ok (.iload_n 1, 1) := by decide +kernel
theorem dX6_count_1 : decode cX6_count 1 = .ok (.tableswitch 89 0 8 #[51, 51, 51, 51, 58, 66, 74, 79, 84], 51) := by decide +kernel
theorem dX6_count_52 : decode cX6_count 52 = .ok (.aload_n 0, 1) := by decide +kernel
theorem dX6_count_53 : decode cX6_count 53 = .ok (.getfield 7, 3) := by decide +kernel
theorem dX6_count_56 : decode cX6_count 56 = .ok (.iload_n 1, 1) := by decide +kernel
theorem dX6_count_57 : decode cX6_count 57 = .ok (.iaload, 1) := by decide +kernel
theorem dX6_count_58 : decode cX6_count 58 = .ok (.ireturn, 1) := by decide +kernel
theorem dX6_count_59 : decode cX6_count 59 = .ok (.aload_n 0, 1) := by decide +kernel
theorem dX6_count_60 : decode cX6_count 60 = .ok (.getfield 7, 3) := by decide +kernel
theorem dX6_count_63 : decode cX6_count 63 = .ok (.bipush 8, 2) := by decide +kernel
theorem dX6_count_65 : decode cX6_count 65 = .ok (.iaload, 1) := by decide +kernel
theorem dX6_count_66 : decode cX6_count 66 = .ok (.ireturn, 1) := by decide +kernel
theorem dX6_count_67 : decode cX6_count 67 = .ok (.aload_n 0, 1) := by decide +kernel
theorem dX6_count_68 : decode cX6_count 68 = .ok (.getfield 7, 3) := by decide +kernel
theorem dX6_count_71 : decode cX6_count 71 = .ok (.bipush 17, 2) := by decide +kernel
theorem dX6_count_73 : decode cX6_count 73 = .ok (.iaload, 1) := by decide +kernel
theorem dX6_count_74 : decode cX6_count 74 = .ok (.ireturn, 1) := by decide +kernel
theorem dX6_count_75 : decode cX6_count 75 = .ok (.aload_n 0, 1) := by decide +kernel
theorem dX6_count_76 : decode cX6_count 76 = .ok (.getfield 72, 3) := by decide +kernel
theorem dX6_count_79 : decode cX6_count 79 = .ok (.ireturn, 1) := by decide +kernel
theorem dX6_count_80 : decode cX6_count 80 = .ok (.aload_n 0, 1) := by decide +kernel
theorem dX6_count_81 : decode cX6_count 81 = .ok (.getfield 83, 3) := by decide +kernel
theorem dX6_count_84 : decode cX6_count 84 = .ok (.ireturn, 1) := by decide +kernel
theorem dX6_count_85 : decode cX6_count 85 = .ok (.aload_n 0, 1) := by decide +kernel
theorem dX6_count_86 : decode cX6_count 86 = .ok (.getfield 68, 3) := by decide +kernel
theorem dX6_count_89 : decode cX6_count 89 = .ok (.ireturn, 1) := by decide +kernel
theorem dX6_count_90 : decode cX6_count 90 = .ok (.iconst (-1), 1) := by decide +kernel
theorem dX6_count_91 : decode cX6_count 91 = .ok (.ireturn, 1) := by decide +kernel
theorem dJ9_floorDiv_7cf53_0 : decode cJ9_floorDiv_7cf53 0 = .ok (.iload_n 0, 1) := by decide +kernel
theorem dJ9_floorDiv_7cf53_1 : decode cJ9_floorDiv_7cf53 1 = .ok (.iload_n 1, 1) := by decide +kernel
theorem dJ9_floorDiv_7cf53_2 : decode cJ9_floorDiv_7cf53 2 = .ok (.idiv, 1) := by decide +kernel
theorem dJ9_floorDiv_7cf53_3 : decode cJ9_floorDiv_7cf53 3 = .ok (.istore_n 2, 1) := by decide +kernel
theorem dJ9_floorDiv_7cf53_4 : decode cJ9_floorDiv_7cf53 4 = .ok (.iload_n 0, 1) := by decide +kernel
theorem dJ9_floorDiv_7cf53_5 : decode cJ9_floorDiv_7cf53 5 = .ok (.iload_n 1, 1) := by decide +kernel
theorem dJ9_floorDiv_7cf53_6 : decode cJ9_floorDiv_7cf53 6 = .ok (.ixor, 1) := by decide +kernel
theorem dJ9_floorDiv_7cf53_7 : decode cJ9_floorDiv_7cf53 7 = .ok (.ifCond .ge 14, 3) := by decide +kernel
theorem dJ9_floorDiv_7cf53_10 : decode cJ9_floorDiv_7cf53 10 = .ok (.iload_n 2, 1) := by decide +kernel
theorem dJ9_floorDiv_7cf53_11 : decode cJ9_floorDiv_7cf53 11 = .ok (.iload_n 1, 1) := by decide +kernel
theorem dJ9_floorDiv_7cf53_12 : decode cJ9_floorDiv_7cf53 12 = .ok (.imul, 1) := by decide +kernel
theorem dJ9_floorDiv_7cf53_13 : decode cJ9_floorDiv_7cf53 13 = .ok (.iload_n 0, 1) := by decide +kernel
theorem dJ9_floorDiv_7cf53_14 : decode cJ9_floorDiv_7cf53 14 = .ok (.if_icmp .eq 7, 3) := by decide +kernel
theorem dJ9_floorDiv_7cf53_17 : decode cJ9_floorDiv_7cf53 17 = .ok (.iload_n 2, 1) := by decide +kernel
theorem dJ9_floorDiv_7cf53_18 : decode cJ9_floorDiv_7cf53 18 = .ok (.iconst 1, 1) := by decide +kernel
theorem dJ9_floorDiv_7cf53_19 : decode cJ9_floorDiv_7cf53 19 = .ok (.isub, 1) := by decide +kernel
theorem dJ9_floorDiv_7cf53_20 : decode cJ9_floorDiv_7cf53 20 = .ok (.ireturn, 1) := by decide +kernel
theorem dJ9_floorDiv_7cf53_21 : decode cJ9_floorDiv_7cf53 21 = .ok (.iload_n 2, 1) := by decide +kernel
theorem dJ9_floorDiv_7cf53_22 : decode cJ9_floorDiv_7cf53 22 = .ok (.ireturn, 1) := by decide +kernel
theorem dJ9_abs_0f7a4_0 : decode cJ9_abs_0f7a4 0 = .ok (.iload_n 0, 1) := by decide +kernel
theorem dJ9_abs_0f7a4_1 : decode cJ9_abs_0f7a4 1 = .ok (.ifCond .ge 8, 3) := by decide +kernel
theorem dJ9_abs_0f7a4_4 : decode cJ9_abs_0f7a4 4 = .ok (.iload_n 0, 1) := by decide +kernel
theorem dJ9_abs_0f7a4_5 : decode cJ9_abs_0f7a4 5 = .ok (.ineg, 1) := by decide +kernel
theorem dJ9_abs_0f7a4_6 : decode cJ9_abs_0f7a4 6 = .ok (.goto 4, 3) := by decide +kernel
theorem dJ9_abs_0f7a4_9 : decode cJ9_abs_0f7a4 9 = .ok (.iload_n 0, 1) := by decide +kernel
theorem dJ9_abs_0f7a4_10 : decode cJ9_abs_0f7a4 10 = .ok (.ireturn, 1) := by decide +kernel
theorem dJ9_max_7cf53_0 : decode cJ9_max_7cf53 0 = .ok (.iload_n 0, 1) := by decide +kernel
theorem dJ9_max_7cf53_1 : decode cJ9_max_7cf53 1 = .ok (.iload_n 1, 1) := by decide +kernel
theorem dJ9_max_7cf53_2 : decode cJ9_max_7cf53 2 = .ok (.if_icmp .lt 7, 3) := by decide +kernel
theorem dJ9_max_7cf53_5 : decode cJ9_max_7cf53 5 = .ok (.iload_n 0, 1) := by decide +kernel
theorem dJ9_max_7cf53_6 : decode cJ9_max_7cf53 6 = .ok (.goto 4, 3) := by decide +kernel
theorem dJ9_max_7cf53_9 : decode cJ9_max_7cf53 9 = .ok (.iload_n 1, 1) := by decide +kernel
theorem dJ9_max_7cf53_10 : decode cJ9_max_7cf53 10 = .ok (.ireturn, 1) := by decide +kernel
theorem dJ9_min_7cf53_0 : decode cJ9_min_7cf53 0 = .ok (.iload_n 0, 1) := by decide +kernel
theorem dJ9_min_7cf53_1 : decode cJ9_min_7cf53 1 = .ok (.iload_n 1, 1) := by decide +kernel
theorem dJ9_min_7cf53_2 : decode cJ9_min_7cf53 2 = .ok (.if_icmp .gt 7, 3) := by decide +kernel
theorem dJ9_min_7cf53_5 : decode cJ9_min_7cf53 5 = .ok (.iload_n 0, 1) := by decide +kernel
theorem dJ9_min_7cf53_6 : decode cJ9_min_7cf53 6 = .ok (.goto 4, 3) := by decide +kernel
theorem dJ9_min_7cf53_9 : decode cJ9_min_7cf53 9 = .ok (.iload_n 1, 1) := by decide +kernel
theorem dJ9_min_7cf53_10 : decode cJ9_min_7cf53 10 = .ok (.ireturn, 1) := by decide +kernel
theorem dJ7_fill_53178_0 : decode cJ7_fill_53178 0 = .ok (.iconst 0, 1) := by decide +kernel
theorem dJ7_fill_53178_1 : decode cJ7_fill_53178 1 = .ok (.istore_n 2, 1) := by decide +kernel
theorem dJ7_fill_53178_2 : decode cJ7_fill_53178 2 = .ok (.aload_n 0, 1) := by decide +kernel
theorem dJ7_fill_53178_3 : decode cJ7_fill_53178 3 = .ok (.arraylength, 1) := by decide +kernel
theorem dJ7_fill_53178_4 : decode cJ7_fill_53178 4 = .ok (.istore_n 3, 1) := by decide +kernel
theorem dJ7_fill_53178_5 : decode cJ7_fill_53178 5 = .ok (.iload_n 2, 1) := by decide +kernel
theorem dJ7_fill_53178_6 : decode cJ7_fill_53178 6 = .ok (.iload_n 3, 1) := by decide +kernel
theorem dJ7_fill_53178_7 : decode cJ7_fill_53178 7 = .ok (.if_icmp .ge 13, 3) := by decide +kernel
theorem dJ7_fill_53178_10 : decode cJ7_fill_53178 10 = .ok (.aload_n 0, 1) := by decide +kernel
theorem dJ7_fill_53178_11 : decode cJ7_fill_53178 11 = .ok (.iload_n 2, 1) := by decide +kernel
theorem dJ7_fill_53178_12 : decode cJ7_fill_53178 12 = .ok (.iload_n 1, 1) := by decide +kernel
theorem dJ7_fill_53178_13 : decode cJ7_fill_53178 13 = .ok (.iastore, 1) := by decide +kernel
theorem dJ7_fill_53178_14 : decode cJ7_fill_53178 14 = .ok (.iinc 2 1, 3) := by decide +kernel
theorem dJ7_fill_53178_17 : decode cJ7_fill_53178 17 = .ok (.goto (-12), 3) := by decide +kernel
theorem dJ7_fill_53178_20 : decode cJ7_fill_53178 20 = .ok (.return_, 1) := by decide +kernel
set_option maxRecDepth 20000 in
theorem ggL_law_X5_init : GoodIn wsL_law wsX5_init := goodIn_r _ [8, 9, 10, 11, 12, 13, 14, 15, 16, 17, 18, 19, 20, 21, 22, 23, 24, 25, 26, 27, 28, 29, 30, 31, 32, 33, 34, 35, 36, 37, 38, 39, 40, 41, 42, 43, 44, 45, 46, 47, 48, 49, 50, 51, 52, 53, 54, 55, 56, 57, 58, 59, 60, 61, 62, 63, 64, 65, 66, 67, 68, 69, 70, 71, 72, 73, 74, 75, 76, 77, 78, 79, 80, 81, 82, 83, 84, 85, 86, 87, 88, 89, 90, 91, 92, 93, 782, 783, 784, 785, 786, 787, 788, 789, 790, 791, 792, 793, 752, 753, 754, 755, 756, 757, 758, 759, 794, 795, 796, 797, 798, 799, 800, 801, 802, 803, 804, 805, 806, 807, 808, 809, 810, 811, 812, 813, 814, 815, 816, 817, 818, 819, 820] (by decide +kernel) (by decide +kernel)
set_option maxRecDepth 20000 in
theorem gL_law_X5_init : GoodIn wsL_law (wsX5_init) := ggL_law_X5_init
set_option maxRecDepth 20000 in
theorem ggL_law_X6_init : GoodIn wsL_law wsX6_init := goodIn_r _ [96, 97, 10, 11, 40, 98, 99, 100, 18, 101, 102, 103, 104, 105, 106, 107, 108, 109, 110, 111, 112, 113, 114, 115, 116, 117, 5, 118, 119, 120, 121, 122, 123, 124, 760, 761, 762, 763, 764, 765, 766, 767, 768, 769, 770, 771, 772, 773, 774, 775, 776, 777, 778, 779, 780, 781] (by decide +kernel) (by decide +kernel)
set_option maxRecDepth 20000 in
theorem gL_law_X6_init : GoodIn wsL_law (wsX6_init) := ggL_law_X6_init
set_option maxRecDepth 20000 in
theorem ggL_law_X5_type : GoodIn wsL_law wsX5_type := goodIn_r _ [128, 23, 129, 130, 131, 2, 132, 133, 134, 135, 22, 136, 137, 65, 752, 753, 754, 755, 756, 757, 758, 759, 794, 795, 796, 797, 798, 799] (by decide +kernel) (by decide +kernel)
set_option maxRecDepth 20000 in
theorem gL_law_X5_type : GoodIn wsL_law (wsV RL 13 RX5 yX5_type wsX5_type) := goodIn_app (goodIn_of _ (by decide +kernel)) ggL_law_X5_type
set_option maxRecDepth 20000 in
theorem ggL_law_X6_type : GoodIn wsL_law wsX6_type := goodIn_r _ [141, 142, 106, 143, 144, 5, 145, 760, 761, 762, 763, 764, 765, 766, 767, 768, 769, 770, 771, 772, 773, 774, 775, 776, 777, 778, 779, 780, 781] (by decide +kernel) (by decide +kernel)
set_option maxRecDepth 20000 in
theorem gL_law_X6_type : GoodIn wsL_law (wsV RL 17 RX6 yX6_type wsX6_type) := goodIn_app (goodIn_of _ (by decide +kernel)) ggL_law_X6_type
set_option maxRecDepth 20000 in
theorem ggL_law_X5_clear : GoodIn wsL_law wsX5_clear := goodIn_r _ [149, 23, 129, 752, 753, 754, 755, 756, 757, 758, 759, 794, 795, 796, 797, 798, 799] (by decide +kernel) (by decide +kernel)
set_option maxRecDepth 20000 in
theorem gL_law_X5_clear : GoodIn wsL_law (wsV RL 18 RX5 yX5_clear wsX5_clear) := goodIn_app (goodIn_of _ (by decide +kernel)) ggL_law_X5_clear
set_option maxRecDepth 20000 in
theorem ggL_law_X6_clear : GoodIn wsL_law wsX6_clear := goodIn_r _ [153, 142, 760, 761, 762, 763, 764, 765, 766, 767, 768, 769, 770, 771, 772, 773, 774, 775, 776, 777, 778, 779, 780, 781] (by decide +kernel) (by decide +kernel)
set_option maxRecDepth 20000 in
theorem gL_law_X6_clear : GoodIn wsL_law (wsV RL 22 RX6 yX6_clear wsX6_clear) := goodIn_app (goodIn_of _ (by decide +kernel)) ggL_law_X6_clear
set_option maxRecDepth 20000 in
theorem ggL_law_X5_room : GoodIn wsL_law wsX5_room := goodIn_r _ [157, 23, 16, 15, 129, 27, 158, 35, 159, 160, 161, 162, 22, 163, 164, 165, 166, 167, 48, 49, 14, 50, 51, 52, 53, 54, 55, 56, 41, 57, 58, 59, 60, 168, 169, 170, 171, 137, 65, 172, 173, 174, 175, 176, 177, 178, 179, 180, 181, 182, 183, 184, 185, 186, 187, 188, 189, 190, 191, 192, 193, 194, 195, 196, 197, 198, 199, 131, 2, 132, 200, 201, 202, 203, 204, 205, 206, 207, 208, 209, 210, 211, 212, 213, 214, 215, 216, 217, 218, 219, 220, 221, 222, 223, 224, 225, 226, 227, 228, 229, 230, 231, 232, 233, 234, 235, 42, 43, 44, 45, 46, 236, 237, 238, 239, 19, 752, 753, 754, 755, 756, 757, 758, 759, 794, 795, 796, 797, 798, 799, 800, 801, 802, 803, 804, 813, 814, 815, 816, 817, 818, 819, 820, 782, 783, 784, 785, 786, 787, 788, 789, 790, 791, 792, 793] (by decide +kernel) (by decide +kernel)
set_option maxRecDepth 20000 in
theorem gL_law_X5_room : GoodIn wsL_law (wsV RL 23 RX5 yX5_room wsX5_room) := goodIn_app (goodIn_of _ (by decide +kernel)) ggL_law_X5_room
set_option maxRecDepth 20000 in
theorem ggL_law_X6_room : GoodIn wsL_law wsX6_room := goodIn_r _ [243, 244, 107, 142, 245, 246, 247, 5, 248, 106, 108, 249, 250, 251, 143, 144, 145, 252, 253, 254, 255, 109, 256, 257, 258, 115, 116, 117, 118, 99, 259, 260, 261, 262, 263, 264, 265, 266, 267, 268, 269, 270, 271, 272, 273, 274, 275, 276, 277, 278, 279, 280, 281, 282, 119, 120, 121, 122, 98, 101, 123, 124, 760, 761, 762, 763, 764, 765, 766, 767, 768, 769, 770, 771, 772, 773, 774, 775, 776, 777, 778, 779, 780, 781] (by decide +kernel) (by decide +kernel)
set_option maxRecDepth 20000 in
theorem gL_law_X6_room : GoodIn wsL_law (wsV RL 26 RX6 yX6_room wsX6_room) := goodIn_app (goodIn_of _ (by decide +kernel)) ggL_law_X6_room
set_option maxRecDepth 20000 in
theorem ggL_law_X5_wall : GoodIn wsL_law wsX5_wall := goodIn_r _ [286, 15, 287, 130, 131, 2, 132, 752, 753, 754, 755, 756, 757, 758, 759, 782, 783, 784, 785, 786, 787, 788, 789, 790, 791, 792, 793] (by decide +kernel) (by decide +kernel)
set_option maxRecDepth 20000 in
theorem gL_law_X5_wall : GoodIn wsL_law (wsV RL 27 RX5 yX5_wall wsX5_wall) := goodIn_app (goodIn_of _ (by decide +kernel)) ggL_law_X5_wall
set_option maxRecDepth 20000 in
theorem ggL_law_X6_wall : GoodIn wsL_law wsX6_wall := goodIn_r _ [291, 98, 143, 144, 5, 145, 760, 761, 762, 763, 764, 765, 766, 767, 768, 769, 770, 771, 772, 773, 774, 775, 776, 777, 778, 779, 780, 781] (by decide +kernel) (by decide +kernel)
set_option maxRecDepth 20000 in
theorem gL_law_X6_wall : GoodIn wsL_law (wsV RL 30 RX6 yX6_wall wsX6_wall) := goodIn_app (goodIn_of _ (by decide +kernel)) ggL_law_X6_wall
set_option maxRecDepth 20000 in
theorem ggL_law_X5_seat : GoodIn wsL_law wsX5_seat := goodIn_r _ [295, 15, 296, 297, 298, 299, 300, 14, 301, 55, 130, 131, 2, 132, 752, 753, 754, 755, 756, 757, 758, 759, 782, 783, 784, 785, 786, 787, 788, 789, 790, 791, 792, 793] (by decide +kernel) (by decide +kernel)
set_option maxRecDepth 20000 in
theorem gL_law_X5_seat : GoodIn wsL_law (wsV RL 31 RX5 yX5_seat wsX5_seat) := goodIn_app (goodIn_of _ (by decide +kernel)) ggL_law_X5_seat
set_option maxRecDepth 20000 in
theorem ggL_law_X6_seat : GoodIn wsL_law wsX6_seat := goodIn_r _ [305, 98, 306, 307, 308, 5, 309, 143, 144, 145, 760, 761, 762, 763, 764, 765, 766, 767, 768, 769, 770, 771, 772, 773, 774, 775, 776, 777, 778, 779, 780, 781] (by decide +kernel) (by decide +kernel)
set_option maxRecDepth 20000 in
theorem gL_law_X6_seat : GoodIn wsL_law (wsV RL 35 RX6 yX6_seat wsX6_seat) := goodIn_app (goodIn_of _ (by decide +kernel)) ggL_law_X6_seat
set_option maxRecDepth 20000 in
theorem ggL_law_X5_curtain : GoodIn wsL_law wsX5_curtain := goodIn_r _ [313, 15, 314, 315, 316, 317, 318, 319, 14, 320, 56, 752, 753, 754, 755, 756, 757, 758, 759, 782, 783, 784, 785, 786, 787, 788, 789, 790, 791, 792, 793] (by decide +kernel) (by decide +kernel)
set_option maxRecDepth 20000 in
theorem gL_law_X5_curtain : GoodIn wsL_law (wsV RL 36 RX5 yX5_curtain wsX5_curtain) := goodIn_app (goodIn_of _ (by decide +kernel)) ggL_law_X5_curtain
set_option maxRecDepth 20000 in
theorem ggL_law_X6_curtain : GoodIn wsL_law wsX6_curtain := goodIn_r _ [324, 98, 325, 326, 327, 5, 328, 143, 144, 145, 760, 761, 762, 763, 764, 765, 766, 767, 768, 769, 770, 771, 772, 773, 774, 775, 776, 777, 778, 779, 780, 781] (by decide +kernel) (by decide +kernel)
set_option maxRecDepth 20000 in
theorem gL_law_X6_curtain : GoodIn wsL_law (wsV RL 39 RX6 yX6_curtain wsX6_curtain) := goodIn_app (goodIn_of _ (by decide +kernel)) ggL_law_X6_curtain
set_option maxRecDepth 20000 in
theorem ggL_law_X5_pads : GoodIn wsL_law wsX5_pads := goodIn_r _ [332, 15, 287, 27, 130, 131, 2, 132, 333, 334, 335, 26, 336, 337, 70, 71, 72, 73, 338, 339, 340, 341, 342, 233, 234, 235, 752, 753, 754, 755, 756, 757, 758, 759, 782, 783, 784, 785, 786, 787, 788, 789, 790, 791, 792, 793, 800, 801, 802, 803, 804] (by decide +kernel) (by decide +kernel)
set_option maxRecDepth 20000 in
theorem gL_law_X5_pads : GoodIn wsL_law (wsV RL 40 RX5 yX5_pads wsX5_pads) := goodIn_app (goodIn_of _ (by decide +kernel)) ggL_law_X5_pads
set_option maxRecDepth 20000 in
theorem ggL_law_X6_pads : GoodIn wsL_law wsX6_pads := goodIn_r _ [346, 98, 143, 144, 5, 145, 347, 348, 349, 350, 123, 102, 760, 761, 762, 763, 764, 765, 766, 767, 768, 769, 770, 771, 772, 773, 774, 775, 776, 777, 778, 779, 780, 781] (by decide +kernel) (by decide +kernel)
set_option maxRecDepth 20000 in
theorem gL_law_X6_pads : GoodIn wsL_law (wsV RL 43 RX6 yX6_pads wsX6_pads) := goodIn_app (goodIn_of _ (by decide +kernel)) ggL_law_X6_pads
set_option maxRecDepth 20000 in
theorem ggL_law_X5_draws : GoodIn wsL_law wsX5_draws := goodIn_r _ [354, 15, 355, 315, 316, 27, 317, 318, 319, 14, 320, 56, 130, 131, 2, 132, 333, 334, 335, 26, 336, 337, 70, 71, 72, 73, 338, 339, 340, 341, 342, 233, 234, 235, 752, 753, 754, 755, 756, 757, 758, 759, 782, 783, 784, 785, 786, 787, 788, 789, 790, 791, 792, 793, 800, 801, 802, 803, 804] (by decide +kernel) (by decide +kernel)
set_option maxRecDepth 20000 in
theorem gL_law_X5_draws : GoodIn wsL_law (wsV RL 44 RX5 yX5_draws wsX5_draws) := goodIn_app (goodIn_of _ (by decide +kernel)) ggL_law_X5_draws
set_option maxRecDepth 20000 in
theorem ggL_law_X6_draws : GoodIn wsL_law wsX6_draws := goodIn_r _ [359, 98, 325, 326, 327, 5, 328, 143, 144, 145, 347, 348, 349, 350, 123, 102, 760, 761, 762, 763, 764, 765, 766, 767, 768, 769, 770, 771, 772, 773, 774, 775, 776, 777, 778, 779, 780, 781] (by decide +kernel) (by decide +kernel)
set_option maxRecDepth 20000 in
theorem gL_law_X6_draws : GoodIn wsL_law (wsV RL 48 RX6 yX6_draws wsX6_draws) := goodIn_app (goodIn_of _ (by decide +kernel)) ggL_law_X6_draws
set_option maxRecDepth 20000 in
theorem ggL_law_X5_moves : GoodIn wsL_law wsX5_moves := goodIn_r _ [363, 15, 364, 355, 365, 366, 27, 130, 131, 2, 132, 367, 368, 369, 14, 370, 53, 54, 333, 334, 335, 26, 336, 337, 70, 71, 72, 73, 338, 339, 340, 341, 342, 233, 234, 235, 752, 753, 754, 755, 756, 757, 758, 759, 782, 783, 784, 785, 786, 787, 788, 789, 790, 791, 792, 793, 800, 801, 802, 803, 804] (by decide +kernel) (by decide +kernel)
set_option maxRecDepth 20000 in
theorem gL_law_X5_moves : GoodIn wsL_law (wsV RL 49 RX5 yX5_moves wsX5_moves) := goodIn_app (goodIn_of _ (by decide +kernel)) ggL_law_X5_moves
set_option maxRecDepth 20000 in
theorem ggL_law_X6_moves : GoodIn wsL_law wsX6_moves := goodIn_r _ [374, 98, 375, 376, 377, 5, 378, 143, 144, 145, 379, 380, 381, 382, 347, 348, 349, 350, 123, 102, 760, 761, 762, 763, 764, 765, 766, 767, 768, 769, 770, 771, 772, 773, 774, 775, 776, 777, 778, 779, 780, 781] (by decide +kernel) (by decide +kernel)
set_option maxRecDepth 20000 in
theorem gL_law_X6_moves : GoodIn wsL_law (wsV RL 52 RX6 yX6_moves wsX6_moves) := goodIn_app (goodIn_of _ (by decide +kernel)) ggL_law_X6_moves
set_option maxRecDepth 20000 in
theorem ggL_law_X5_undo : GoodIn wsL_law wsX5_undo := goodIn_r _ [386, 27, 158, 15, 387, 388, 389, 26, 390, 337, 71, 70, 391, 72, 392, 393, 73, 394, 395, 752, 753, 754, 755, 756, 757, 758, 759, 800, 801, 802, 803, 804, 782, 783, 784, 785, 786, 787, 788, 789, 790, 791, 792, 793] (by decide +kernel) (by decide +kernel)
set_option maxRecDepth 20000 in
theorem gL_law_X5_undo : GoodIn wsL_law (wsV RL 53 RX5 yX5_undo wsX5_undo) := goodIn_app (goodIn_of _ (by decide +kernel)) ggL_law_X5_undo
set_option maxRecDepth 20000 in
theorem ggL_law_X6_undo : GoodIn wsL_law wsX6_undo := goodIn_r _ [399, 123, 98, 102, 760, 761, 762, 763, 764, 765, 766, 767, 768, 769, 770, 771, 772, 773, 774, 775, 776, 777, 778, 779, 780, 781] (by decide +kernel) (by decide +kernel)
set_option maxRecDepth 20000 in
theorem gL_law_X6_undo : GoodIn wsL_law (wsV RL 56 RX6 yX6_undo wsX6_undo) := goodIn_app (goodIn_of _ (by decide +kernel)) ggL_law_X6_undo
set_option maxRecDepth 20000 in
theorem ggL_law_X5_mirror : GoodIn wsL_law wsX5_mirror := goodIn_r _ [403, 404, 15, 405, 406, 182, 407, 408, 409, 2, 410, 130, 131, 132, 411, 412, 413, 14, 414, 51, 53, 415, 416, 417, 418, 419, 420, 52, 54, 421, 422, 423, 424, 41, 425, 426, 427, 428, 429, 752, 753, 754, 755, 756, 757, 758, 759, 782, 783, 784, 785, 786, 787, 788, 789, 790, 791, 792, 793] (by decide +kernel) (by decide +kernel)
set_option maxRecDepth 20000 in
theorem gL_law_X5_mirror : GoodIn wsL_law (wsV RL 57 RX5 yX5_mirror wsX5_mirror) := goodIn_app (goodIn_of _ (by decide +kernel)) ggL_law_X5_mirror
set_option maxRecDepth 20000 in
theorem ggL_law_X6_mirror : GoodIn wsL_law wsX6_mirror := goodIn_r _ [433, 434, 98, 435, 436, 5, 437, 143, 144, 145, 438, 439, 440, 441, 442, 443, 444, 445, 446, 447, 448, 449, 450, 760, 761, 762, 763, 764, 765, 766, 767, 768, 769, 770, 771, 772, 773, 774, 775, 776, 777, 778, 779, 780, 781] (by decide +kernel) (by decide +kernel)
set_option maxRecDepth 20000 in
theorem gL_law_X6_mirror : GoodIn wsL_law (wsV RL 60 RX6 yX6_mirror wsX6_mirror) := goodIn_app (goodIn_of _ (by decide +kernel)) ggL_law_X6_mirror
set_option maxRecDepth 20000 in
theorem ggL_law_X5_path : GoodIn wsL_law wsX5_path := goodIn_r _ [454, 15, 296, 297, 287, 298, 299, 300, 14, 301, 55, 408, 409, 2, 410, 405, 406, 182, 407, 130, 131, 132, 455, 456, 457, 458, 459, 412, 413, 414, 51, 53, 415, 416, 460, 418, 419, 420, 52, 54, 461, 462, 463, 464, 465, 466, 467, 468, 469, 470, 471, 472, 473, 425, 426, 427, 428, 429, 474, 475, 476, 477, 56, 44, 478, 479, 181, 183, 480, 481, 482, 483, 484, 45, 46, 485, 486, 487, 488, 752, 753, 754, 755, 756, 757, 758, 759, 782, 783, 784, 785, 786, 787, 788, 789, 790, 791, 792, 793] (by decide +kernel) (by decide +kernel)
set_option maxRecDepth 20000 in
theorem gL_law_X5_path : GoodIn wsL_law (wsV RL 61 RX5 yX5_path wsX5_path) := goodIn_app (goodIn_of _ (by decide +kernel)) ggL_law_X5_path
set_option maxRecDepth 20000 in
theorem ggL_law_X6_path : GoodIn wsL_law wsX6_path := goodIn_r _ [492, 98, 306, 307, 308, 5, 309, 143, 144, 145, 435, 436, 437, 438, 439, 440, 493, 494, 495, 496, 441, 442, 443, 497, 498, 499, 500, 110, 501, 502, 503, 504, 505, 506, 507, 508, 448, 449, 450, 509, 510, 511, 512, 513, 514, 515, 516, 760, 761, 762, 763, 764, 765, 766, 767, 768, 769, 770, 771, 772, 773, 774, 775, 776, 777, 778, 779, 780, 781] (by decide +kernel) (by decide +kernel)
set_option maxRecDepth 20000 in
theorem gL_law_X6_path : GoodIn wsL_law (wsV RL 65 RX6 yX6_path wsX6_path) := goodIn_app (goodIn_of _ (by decide +kernel)) ggL_law_X6_path
set_option maxRecDepth 20000 in
theorem ggL_law_X5_heard : GoodIn wsL_law wsX5_heard := goodIn_r _ [520, 15, 31, 521, 522, 523, 524, 525, 298, 299, 300, 14, 301, 55, 130, 131, 2, 132, 526, 527, 528, 30, 529, 530, 531, 532, 533, 534, 406, 182, 407, 535, 536, 475, 476, 477, 56, 51, 44, 478, 479, 181, 183, 480, 471, 472, 459, 412, 413, 414, 53, 415, 416, 460, 418, 419, 420, 52, 54, 481, 482, 483, 484, 45, 46, 485, 486, 487, 488, 537, 456, 457, 458, 461, 462, 538, 539, 540, 541, 81, 78, 79, 80, 82, 542, 464, 465, 543, 544, 545, 546, 467, 468, 469, 470, 473, 425, 426, 427, 428, 429, 547, 548, 549, 752, 753, 754, 755, 756, 757, 758, 759, 805, 806, 807, 808, 809, 810, 811, 812, 782, 783, 784, 785, 786, 787, 788, 789, 790, 791, 792, 793] (by decide +kernel) (by decide +kernel)
set_option maxRecDepth 20000 in
theorem gL_law_X5_heard : GoodIn wsL_law (wsV RL 66 RX5 yX5_heard wsX5_heard) := goodIn_app (goodIn_of _ (by decide +kernel)) ggL_law_X5_heard
set_option maxRecDepth 20000 in
theorem ggL_law_X6_heard : GoodIn wsL_law wsX6_heard := goodIn_r _ [553, 554, 111, 112, 113, 306, 307, 308, 5, 309, 98, 143, 144, 145, 555, 556, 557, 558, 497, 498, 499, 500, 110, 559, 560, 561, 562, 435, 436, 437, 438, 439, 440, 509, 510, 511, 512, 513, 514, 515, 516, 441, 442, 443, 493, 494, 495, 496, 501, 502, 503, 504, 505, 506, 507, 508, 448, 449, 450, 563, 564, 565, 566, 760, 761, 762, 763, 764, 765, 766, 767, 768, 769, 770, 771, 772, 773, 774, 775, 776, 777, 778, 779, 780, 781] (by decide +kernel) (by decide +kernel)
set_option maxRecDepth 20000 in
theorem gL_law_X6_heard : GoodIn wsL_law (wsV RL 69 RX6 yX6_heard wsX6_heard) := goodIn_app (goodIn_of _ (by decide +kernel)) ggL_law_X6_heard
set_option maxRecDepth 20000 in
theorem ggL_law_X5_sound : GoodIn wsL_law wsX5_sound := goodIn_r _ [570, 15, 31, 521, 571, 298, 299, 300, 14, 301, 55, 130, 131, 2, 132, 526, 527, 528, 30, 529, 530, 531, 532, 533, 534, 406, 182, 407, 535, 536, 475, 476, 477, 56, 51, 44, 478, 479, 181, 183, 480, 471, 472, 459, 412, 413, 414, 53, 415, 416, 460, 418, 419, 420, 52, 54, 481, 482, 483, 484, 45, 46, 485, 486, 487, 488, 537, 456, 457, 458, 461, 462, 538, 539, 540, 541, 81, 78, 79, 80, 82, 542, 464, 465, 543, 544, 545, 546, 467, 468, 469, 470, 473, 425, 426, 427, 428, 429, 572, 573, 574, 575, 752, 753, 754, 755, 756, 757, 758, 759, 805, 806, 807, 808, 809, 810, 811, 812, 782, 783, 784, 785, 786, 787, 788, 789, 790, 791, 792, 793] (by decide +kernel) (by decide +kernel)
set_option maxRecDepth 20000 in
theorem gL_law_X5_sound : GoodIn wsL_law (wsV RL 70 RX5 yX5_sound wsX5_sound) := goodIn_app (goodIn_of _ (by decide +kernel)) ggL_law_X5_sound
set_option maxRecDepth 20000 in
theorem ggL_law_X6_sound : GoodIn wsL_law wsX6_sound := goodIn_r _ [579, 554, 111, 306, 307, 308, 5, 309, 98, 143, 144, 145, 555, 556, 557, 558, 497, 498, 499, 500, 110, 559, 560, 561, 562, 112, 113, 435, 436, 437, 438, 439, 440, 509, 510, 511, 512, 513, 514, 515, 516, 441, 442, 443, 493, 494, 495, 496, 501, 502, 503, 504, 505, 506, 507, 508, 448, 449, 450, 580, 581, 582, 583, 584, 585, 586, 587, 563, 564, 565, 566, 760, 761, 762, 763, 764, 765, 766, 767, 768, 769, 770, 771, 772, 773, 774, 775, 776, 777, 778, 779, 780, 781] (by decide +kernel) (by decide +kernel)
set_option maxRecDepth 20000 in
theorem gL_law_X6_sound : GoodIn wsL_law (wsV RL 73 RX6 yX6_sound wsX6_sound) := goodIn_app (goodIn_of _ (by decide +kernel)) ggL_law_X6_sound
set_option maxRecDepth 20000 in
theorem ggL_law_X5_early : GoodIn wsL_law wsX5_early := goodIn_r _ [591, 15, 31, 571, 298, 299, 300, 14, 301, 55, 130, 131, 2, 132, 526, 527, 528, 30, 529, 530, 531, 532, 533, 534, 406, 182, 407, 535, 536, 475, 476, 477, 56, 51, 44, 478, 479, 181, 183, 480, 471, 472, 459, 412, 413, 414, 53, 415, 416, 460, 418, 419, 420, 52, 54, 481, 482, 483, 484, 45, 46, 485, 486, 487, 488, 537, 456, 457, 458, 461, 462, 538, 539, 540, 541, 81, 78, 79, 80, 82, 542, 464, 465, 543, 544, 545, 546, 467, 468, 469, 470, 473, 425, 426, 427, 428, 429, 592, 593, 594, 595, 596, 597, 598, 599, 600, 601, 752, 753, 754, 755, 756, 757, 758, 759, 805, 806, 807, 808, 809, 810, 811, 812, 782, 783, 784, 785, 786, 787, 788, 789, 790, 791, 792, 793] (by decide +kernel) (by decide +kernel)
set_option maxRecDepth 20000 in
theorem gL_law_X5_early : GoodIn wsL_law (wsV RL 74 RX5 yX5_early wsX5_early) := goodIn_app (goodIn_of _ (by decide +kernel)) ggL_law_X5_early
set_option maxRecDepth 20000 in
theorem ggL_law_X6_early : GoodIn wsL_law wsX6_early := goodIn_r _ [605, 306, 307, 308, 5, 309, 98, 143, 144, 145, 555, 556, 557, 558, 497, 498, 499, 500, 110, 559, 560, 561, 562, 554, 111, 112, 113, 435, 436, 437, 438, 439, 440, 509, 510, 511, 512, 513, 514, 515, 516, 441, 442, 443, 493, 494, 495, 496, 501, 502, 503, 504, 505, 506, 507, 508, 448, 449, 450, 580, 581, 582, 583, 584, 585, 586, 587, 606, 607, 608, 609, 610, 611, 760, 761, 762, 763, 764, 765, 766, 767, 768, 769, 770, 771, 772, 773, 774, 775, 776, 777, 778, 779, 780, 781] (by decide +kernel) (by decide +kernel)
set_option maxRecDepth 20000 in
theorem gL_law_X6_early : GoodIn wsL_law (wsV RL 77 RX6 yX6_early wsX6_early) := goodIn_app (goodIn_of _ (by decide +kernel)) ggL_law_X6_early
set_option maxRecDepth 20000 in
theorem ggL_law_X5_fade : GoodIn wsL_law wsX5_fade := goodIn_r _ [615, 15, 31, 298, 299, 300, 14, 301, 55, 130, 131, 2, 132, 526, 527, 528, 30, 529, 530, 531, 532, 533, 534, 406, 182, 407, 535, 536, 475, 476, 477, 56, 51, 44, 478, 479, 181, 183, 480, 471, 472, 459, 412, 413, 414, 53, 415, 416, 460, 418, 419, 420, 52, 54, 481, 482, 483, 484, 45, 46, 485, 486, 487, 488, 537, 456, 457, 458, 461, 462, 538, 539, 540, 541, 81, 78, 79, 80, 82, 542, 464, 465, 543, 544, 545, 546, 467, 468, 469, 470, 473, 425, 426, 427, 428, 429, 616, 617, 618, 619, 752, 753, 754, 755, 756, 757, 758, 759, 782, 783, 784, 785, 786, 787, 788, 789, 790, 791, 792, 793, 805, 806, 807, 808, 809, 810, 811, 812] (by decide +kernel) (by decide +kernel)
set_option maxRecDepth 20000 in
theorem gL_law_X5_fade : GoodIn wsL_law (wsV RL 78 RX5 yX5_fade wsX5_fade) := goodIn_app (goodIn_of _ (by decide +kernel)) ggL_law_X5_fade
set_option maxRecDepth 20000 in
theorem ggL_law_X6_fade : GoodIn wsL_law wsX6_fade := goodIn_r _ [623, 554, 111, 624, 306, 307, 308, 5, 309, 98, 143, 144, 145, 555, 556, 557, 558, 497, 498, 499, 500, 110, 559, 560, 561, 562, 112, 113, 435, 436, 437, 438, 439, 440, 509, 510, 511, 512, 513, 514, 515, 516, 441, 442, 443, 493, 494, 495, 496, 501, 502, 503, 504, 505, 506, 507, 508, 448, 449, 450, 580, 581, 582, 583, 584, 585, 586, 587, 760, 761, 762, 763, 764, 765, 766, 767, 768, 769, 770, 771, 772, 773, 774, 775, 776, 777, 778, 779, 780, 781] (by decide +kernel) (by decide +kernel)
set_option maxRecDepth 20000 in
theorem gL_law_X6_fade : GoodIn wsL_law (wsV RL 81 RX6 yX6_fade wsX6_fade) := goodIn_app (goodIn_of _ (by decide +kernel)) ggL_law_X6_fade
set_option maxRecDepth 20000 in
theorem ggL_law_X5_best : GoodIn wsL_law wsX5_best := goodIn_r _ [628, 15, 629, 31, 571, 470, 471, 182, 472, 130, 131, 2, 132, 526, 527, 528, 30, 529, 530, 531, 532, 533, 534, 406, 407, 535, 299, 300, 14, 301, 55, 536, 475, 476, 477, 56, 51, 44, 478, 479, 181, 183, 480, 459, 412, 413, 414, 53, 415, 416, 460, 418, 419, 420, 52, 54, 481, 482, 483, 484, 45, 46, 485, 486, 487, 488, 537, 456, 457, 458, 461, 462, 538, 539, 540, 541, 81, 78, 79, 80, 82, 542, 464, 465, 543, 544, 545, 546, 467, 468, 469, 473, 425, 426, 427, 428, 429, 592, 593, 594, 595, 752, 753, 754, 755, 756, 757, 758, 759, 782, 783, 784, 785, 786, 787, 788, 789, 790, 791, 792, 793, 805, 806, 807, 808, 809, 810, 811, 812] (by decide +kernel) (by decide +kernel)
set_option maxRecDepth 20000 in
theorem gL_law_X5_best : GoodIn wsL_law (wsV RL 82 RX5 yX5_best wsX5_best) := goodIn_app (goodIn_of _ (by decide +kernel)) ggL_law_X5_best
set_option maxRecDepth 20000 in
theorem ggL_law_X6_best : GoodIn wsL_law wsX6_best := goodIn_r _ [633, 98, 143, 144, 5, 145, 555, 556, 557, 558, 497, 498, 499, 500, 110, 559, 560, 561, 562, 554, 111, 112, 113, 435, 436, 437, 438, 439, 440, 509, 510, 511, 512, 513, 514, 515, 516, 441, 442, 443, 493, 494, 495, 496, 501, 502, 503, 504, 505, 506, 507, 508, 448, 449, 450, 580, 581, 582, 583, 584, 585, 586, 587, 760, 761, 762, 763, 764, 765, 766, 767, 768, 769, 770, 771, 772, 773, 774, 775, 776, 777, 778, 779, 780, 781] (by decide +kernel) (by decide +kernel)
set_option maxRecDepth 20000 in
theorem gL_law_X6_best : GoodIn wsL_law (wsV RL 85 RX6 yX6_best wsX6_best) := goodIn_app (goodIn_of _ (by decide +kernel)) ggL_law_X6_best
set_option maxRecDepth 20000 in
theorem ggL_law_X5_odds : GoodIn wsL_law wsX5_odds := goodIn_r _ [637, 15, 638, 31, 287, 130, 131, 2, 132, 298, 299, 300, 14, 301, 55, 526, 527, 528, 30, 529, 530, 531, 532, 533, 534, 406, 182, 407, 535, 536, 475, 476, 477, 56, 51, 44, 478, 479, 181, 183, 480, 471, 472, 459, 412, 413, 414, 53, 415, 416, 460, 418, 419, 420, 52, 54, 481, 482, 483, 484, 45, 46, 485, 486, 487, 488, 537, 456, 457, 458, 461, 462, 538, 539, 540, 541, 81, 78, 79, 80, 82, 542, 464, 465, 543, 544, 545, 546, 467, 468, 469, 470, 473, 425, 426, 427, 428, 429, 639, 640, 641, 642, 83, 643, 644, 645, 596, 597, 598, 599, 600, 601, 752, 753, 754, 755, 756, 757, 758, 759, 782, 783, 784, 785, 786, 787, 788, 789, 790, 791, 792, 793, 805, 806, 807, 808, 809, 810, 811, 812] (by decide +kernel) (by decide +kernel)
set_option maxRecDepth 20000 in
theorem gL_law_X5_odds : GoodIn wsL_law (wsV RL 86 RX5 yX5_odds wsX5_odds) := goodIn_app (goodIn_of _ (by decide +kernel)) ggL_law_X5_odds
set_option maxRecDepth 20000 in
theorem ggL_law_X6_odds : GoodIn wsL_law wsX6_odds := goodIn_r _ [649, 650, 110, 98, 143, 144, 5, 145, 306, 307, 308, 309, 559, 560, 561, 562, 554, 111, 112, 113, 435, 436, 437, 438, 439, 440, 509, 510, 511, 512, 513, 514, 515, 516, 441, 442, 443, 493, 494, 495, 496, 501, 502, 503, 504, 505, 506, 507, 508, 448, 449, 450, 580, 581, 582, 583, 584, 585, 586, 587, 606, 607, 608, 609, 610, 611, 760, 761, 762, 763, 764, 765, 766, 767, 768, 769, 770, 771, 772, 773, 774, 775, 776, 777, 778, 779, 780, 781] (by decide +kernel) (by decide +kernel)
set_option maxRecDepth 20000 in
theorem gL_law_X6_odds : GoodIn wsL_law (wsV RL 89 RX6 yX6_odds wsX6_odds) := goodIn_app (goodIn_of _ (by decide +kernel)) ggL_law_X6_odds
set_option maxRecDepth 20000 in
theorem ggL_law_X5_sees : GoodIn wsL_law wsX5_sees := goodIn_r _ [654, 35, 159, 408, 409, 2, 410, 405, 406, 182, 407, 130, 131, 132, 655, 656, 657, 34, 658, 659, 88, 89, 90, 752, 753, 754, 755, 756, 757, 758, 759, 813, 814, 815, 816, 817, 818, 819, 820] (by decide +kernel) (by decide +kernel)
set_option maxRecDepth 20000 in
theorem gL_law_X5_sees : GoodIn wsL_law (wsV RL 90 RX5 yX5_sees wsX5_sees) := goodIn_app (goodIn_of _ (by decide +kernel)) ggL_law_X5_sees
set_option maxRecDepth 20000 in
theorem ggL_law_X6_sees : GoodIn wsL_law wsX6_sees := goodIn_r _ [663, 124, 103, 104, 105, 435, 436, 5, 437, 143, 144, 145, 438, 439, 440, 760, 761, 762, 763, 764, 765, 766, 767, 768, 769, 770, 771, 772, 773, 774, 775, 776, 777, 778, 779, 780, 781] (by decide +kernel) (by decide +kernel)
set_option maxRecDepth 20000 in
theorem gL_law_X6_sees : GoodIn wsL_law (wsV RL 93 RX6 yX6_sees wsX6_sees) := goodIn_app (goodIn_of _ (by decide +kernel)) ggL_law_X6_sees
set_option maxRecDepth 20000 in
theorem ggL_law_X5_forget : GoodIn wsL_law wsX5_forget := goodIn_r _ [667, 35, 159, 752, 753, 754, 755, 756, 757, 758, 759, 813, 814, 815, 816, 817, 818, 819, 820] (by decide +kernel) (by decide +kernel)
set_option maxRecDepth 20000 in
theorem gL_law_X5_forget : GoodIn wsL_law (wsV RL 94 RX5 yX5_forget wsX5_forget) := goodIn_app (goodIn_of _ (by decide +kernel)) ggL_law_X5_forget
set_option maxRecDepth 20000 in
theorem ggL_law_X6_forget : GoodIn wsL_law wsX6_forget := goodIn_r _ [671, 124, 760, 761, 762, 763, 764, 765, 766, 767, 768, 769, 770, 771, 772, 773, 774, 775, 776, 777, 778, 779, 780, 781] (by decide +kernel) (by decide +kernel)
set_option maxRecDepth 20000 in
theorem gL_law_X6_forget : GoodIn wsL_law (wsV RL 97 RX6 yX6_forget wsX6_forget) := goodIn_app (goodIn_of _ (by decide +kernel)) ggL_law_X6_forget
set_option maxRecDepth 20000 in
theorem ggL_law_X5_unseen : GoodIn wsL_law wsX5_unseen := goodIn_r _ [675, 35, 15, 676, 677, 678, 130, 131, 2, 132, 679, 680, 681, 34, 682, 683, 684, 685, 91, 92, 686, 687, 688, 689, 659, 88, 89, 90, 690, 456, 457, 14, 458, 459, 412, 413, 414, 51, 53, 415, 416, 460, 418, 419, 420, 52, 54, 461, 462, 464, 465, 752, 753, 754, 755, 756, 757, 758, 759, 813, 814, 815, 816, 817, 818, 819, 820, 782, 783, 784, 785, 786, 787, 788, 789, 790, 791, 792, 793] (by decide +kernel) (by decide +kernel)
set_option maxRecDepth 20000 in
theorem gL_law_X5_unseen : GoodIn wsL_law (wsV RL 98 RX5 yX5_unseen wsX5_unseen) := goodIn_app (goodIn_of _ (by decide +kernel)) ggL_law_X5_unseen
set_option maxRecDepth 20000 in
theorem ggL_law_X6_unseen : GoodIn wsL_law wsX6_unseen := goodIn_r _ [694, 143, 144, 5, 145, 695, 696, 697, 698, 98, 699, 700, 701, 702, 124, 103, 104, 105, 493, 494, 495, 496, 441, 442, 443, 501, 502, 503, 760, 761, 762, 763, 764, 765, 766, 767, 768, 769, 770, 771, 772, 773, 774, 775, 776, 777, 778, 779, 780, 781] (by decide +kernel) (by decide +kernel)
set_option maxRecDepth 20000 in
theorem gL_law_X6_unseen : GoodIn wsL_law (wsV RL 101 RX6 yX6_unseen wsX6_unseen) := goodIn_app (goodIn_of _ (by decide +kernel)) ggL_law_X6_unseen
set_option maxRecDepth 20000 in
theorem ggL_law_X5_listen : GoodIn wsL_law wsX5_listen := goodIn_r _ [706, 35, 15, 676, 679, 680, 681, 34, 682, 683, 684, 685, 91, 92, 686, 687, 688, 689, 659, 88, 89, 90, 690, 456, 457, 14, 458, 459, 412, 413, 414, 51, 53, 415, 2, 416, 460, 418, 419, 420, 52, 54, 461, 462, 464, 465, 707, 708, 709, 710, 93, 711, 406, 182, 407, 712, 58, 59, 60, 713, 714, 715, 716, 717, 718, 548, 549, 752, 753, 754, 755, 756, 757, 758, 759, 813, 814, 815, 816, 817, 818, 819, 820, 782, 783, 784, 785, 786, 787, 788, 789, 790, 791, 792, 793] (by decide +kernel) (by decide +kernel)
set_option maxRecDepth 20000 in
theorem gL_law_X5_listen : GoodIn wsL_law (wsV RL 102 RX5 yX5_listen wsX5_listen) := goodIn_app (goodIn_of _ (by decide +kernel)) ggL_law_X5_listen
set_option maxRecDepth 20000 in
theorem ggL_law_X6_listen : GoodIn wsL_law wsX6_listen := goodIn_r _ [722, 695, 696, 697, 5, 698, 98, 699, 700, 701, 702, 124, 103, 104, 105, 493, 494, 495, 496, 441, 442, 443, 501, 502, 503, 435, 436, 437, 143, 144, 145, 438, 439, 440, 723, 724, 725, 726, 114, 760, 761, 762, 763, 764, 765, 766, 767, 768, 769, 770, 771, 772, 773, 774, 775, 776, 777, 778, 779, 780, 781] (by decide +kernel) (by decide +kernel)
set_option maxRecDepth 20000 in
theorem gL_law_X6_listen : GoodIn wsL_law (wsV RL 105 RX6 yX6_listen wsX6_listen) := goodIn_app (goodIn_of _ (by decide +kernel)) ggL_law_X6_listen
set_option maxRecDepth 20000 in
theorem ggL_law_X5_keep : GoodIn wsL_law wsX5_keep := goodIn_r _ [730, 17, 15, 19, 130, 131, 2, 132, 228, 229, 230, 14, 231, 51, 52, 53, 54, 55, 56, 41, 232, 233, 234, 235, 42, 43, 44, 45, 46, 367, 368, 369, 370, 752, 753, 754, 755, 756, 757, 758, 759, 782, 783, 784, 785, 786, 787, 788, 789, 790, 791, 792, 793] (by decide +kernel) (by decide +kernel)
set_option maxRecDepth 20000 in
theorem gL_law_X5_keep : GoodIn wsL_law (wsV RL 106 RX5 yX5_keep wsX5_keep) := goodIn_app (goodIn_of _ (by decide +kernel)) ggL_law_X5_keep
set_option maxRecDepth 20000 in
theorem ggL_law_X6_keep : GoodIn wsL_law wsX6_keep := goodIn_r _ [734, 100, 98, 101, 143, 144, 5, 145, 379, 380, 381, 382, 760, 761, 762, 763, 764, 765, 766, 767, 768, 769, 770, 771, 772, 773, 774, 775, 776, 777, 778, 779, 780, 781] (by decide +kernel) (by decide +kernel)
set_option maxRecDepth 20000 in
theorem gL_law_X6_keep : GoodIn wsL_law (wsV RL 109 RX6 yX6_keep wsX6_keep) := goodIn_app (goodIn_of _ (by decide +kernel)) ggL_law_X6_keep
set_option maxRecDepth 20000 in
theorem ggL_law_X5_back : GoodIn wsL_law wsX5_back := goodIn_r _ [738, 19, 15, 17, 27, 158, 130, 131, 2, 132, 228, 229, 230, 14, 231, 51, 52, 53, 54, 55, 56, 41, 232, 233, 234, 235, 42, 43, 44, 45, 46, 367, 368, 369, 370, 752, 753, 754, 755, 756, 757, 758, 759, 800, 801, 802, 803, 804, 782, 783, 784, 785, 786, 787, 788, 789, 790, 791, 792, 793] (by decide +kernel) (by decide +kernel)
set_option maxRecDepth 20000 in
theorem gL_law_X5_back : GoodIn wsL_law (wsV RL 110 RX5 yX5_back wsX5_back) := goodIn_app (goodIn_of _ (by decide +kernel)) ggL_law_X5_back
set_option maxRecDepth 20000 in
theorem ggL_law_X6_back : GoodIn wsL_law wsX6_back := goodIn_r _ [742, 101, 98, 100, 123, 143, 144, 5, 145, 379, 380, 381, 382, 760, 761, 762, 763, 764, 765, 766, 767, 768, 769, 770, 771, 772, 773, 774, 775, 776, 777, 778, 779, 780, 781] (by decide +kernel) (by decide +kernel)
set_option maxRecDepth 20000 in
theorem gL_law_X6_back : GoodIn wsL_law (wsV RL 113 RX6 yX6_back wsX6_back) := goodIn_app (goodIn_of _ (by decide +kernel)) ggL_law_X6_back
set_option maxRecDepth 20000 in
theorem ggL_law_X5_count : GoodIn wsL_law wsX5_count := goodIn_r _ [746, 15, 364, 355, 365, 366, 629, 747, 35, 159, 23, 129, 27, 158, 752, 753, 754, 755, 756, 757, 758, 759, 782, 783, 784, 785, 786, 787, 788, 789, 790, 791, 792, 793, 813, 814, 815, 816, 817, 818, 819, 820, 794, 795, 796, 797, 798, 799, 800, 801, 802, 803, 804] (by decide +kernel) (by decide +kernel)
set_option maxRecDepth 20000 in
theorem gL_law_X5_count : GoodIn wsL_law (wsV RL 114 RX5 yX5_count wsX5_count) := goodIn_app (goodIn_of _ (by decide +kernel)) ggL_law_X5_count
set_option maxRecDepth 20000 in
theorem ggL_law_X6_count : GoodIn wsL_law wsX6_count := goodIn_r _ [751, 98, 124, 142, 123, 760, 761, 762, 763, 764, 765, 766, 767, 768, 769, 770, 771, 772, 773, 774, 775, 776, 777, 778, 779, 780, 781] (by decide +kernel) (by decide +kernel)
set_option maxRecDepth 20000 in
theorem gL_law_X6_count : GoodIn wsL_law (wsV RL 117 RX6 yX6_count wsX6_count) := goodIn_app (goodIn_of _ (by decide +kernel)) ggL_law_X6_count
theorem dL_law_0 : decode cL_law 0 = .ok (.new 7, 3) := by decide +kernel
theorem dL_law_3 : decode cL_law 3 = .ok (.dup, 1) := by decide +kernel
theorem dL_law_4 : decode cL_law 4 = .ok (.invokespecial 9, 3) := by decide +kernel
theorem dL_law_7 : decode cL_law 7 = .ok (.astore_n 1, 1) := by decide +kernel
theorem dL_law_8 : decode cL_law 8 = .ok (.new 10, 3) := by decide +kernel
theorem dL_law_11 : decode cL_law 11 = .ok (.dup, 1) := by decide +kernel
theorem dL_law_12 : decode cL_law 12 = .ok (.invokespecial 12, 3) := by decide +kernel
theorem dL_law_15 : decode cL_law 15 = .ok (.astore_n 2, 1) := by decide +kernel
theorem dL_law_16 : decode cL_law 16 = .ok (.iconst 0, 1) := by decide +kernel
theorem dL_law_17 : decode cL_law 17 = .ok (.istore_n 3, 1) := by decide +kernel
theorem dL_law_18 : decode cL_law 18 = .ok (.iload_n 3, 1) := by decide +kernel
theorem dL_law_19 : decode cL_law 19 = .ok (.aload_n 0, 1) := by decide +kernel
theorem dL_law_20 : decode cL_law 20 = .ok (.arraylength, 1) := by decide +kernel
theorem dL_law_21 : decode cL_law 21 = .ok (.iconst 5, 1) := by decide +kernel
theorem dL_law_22 : decode cL_law 22 = .ok (.isub, 1) := by decide +kernel
theorem dL_law_23 : decode cL_law 23 = .ok (.if_icmp .gt 876, 3) := by decide +kernel
theorem dL_law_26 : decode cL_law 26 = .ok (.aload_n 0, 1) := by decide +kernel
theorem dL_law_27 : decode cL_law 27 = .ok (.iload_n 3, 1) := by decide +kernel
theorem dL_law_28 : decode cL_law 28 = .ok (.iaload, 1) := by decide +kernel
theorem dL_law_29 : decode cL_law 29 = .ok (.bipush 31, 2) := by decide +kernel
theorem dL_law_31 : decode cL_law 31 = .ok (.iand, 1) := by decide +kernel
theorem dL_law_32 : decode cL_law 32 = .ok (.tableswitch 861 0 24 #[116, 139, 152, 165, 188, 221, 254, 287, 330, 363, 376, 419, 472, 515, 548, 591, 624, 647, 700, 743, 756, 779, 792, 815, 838], 116) := by decide +kernel
theorem dL_law_148 : decode cL_law 148 = .ok (.aload_n 1, 1) := by decide +kernel
theorem dL_law_149 : decode cL_law 149 = .ok (.aload_n 0, 1) := by decide +kernel
theorem dL_law_150 : decode cL_law 150 = .ok (.iload_n 3, 1) := by decide +kernel
theorem dL_law_151 : decode cL_law 151 = .ok (.iconst 1, 1) := by decide +kernel
theorem dL_law_152 : decode cL_law 152 = .ok (.iadd, 1) := by decide +kernel
theorem dL_law_153 : decode cL_law 153 = .ok (.iaload, 1) := by decide +kernel
theorem dL_law_154 : decode cL_law 154 = .ok (.invokevirtual 13, 3) := by decide +kernel
theorem dL_law_157 : decode cL_law 157 = .ok (.aload_n 2, 1) := by decide +kernel
theorem dL_law_158 : decode cL_law 158 = .ok (.aload_n 0, 1) := by decide +kernel
theorem dL_law_159 : decode cL_law 159 = .ok (.iload_n 3, 1) := by decide +kernel
theorem dL_law_160 : decode cL_law 160 = .ok (.iconst 1, 1) := by decide +kernel
theorem dL_law_161 : decode cL_law 161 = .ok (.iadd, 1) := by decide +kernel
theorem dL_law_162 : decode cL_law 162 = .ok (.iaload, 1) := by decide +kernel
theorem dL_law_163 : decode cL_law 163 = .ok (.invokevirtual 17, 3) := by decide +kernel
theorem dL_law_166 : decode cL_law 166 = .ok (.if_icmp .eq 727, 3) := by decide +kernel
theorem dL_law_169 : decode cL_law 169 = .ok (.iconst 0, 1) := by decide +kernel
theorem dL_law_170 : decode cL_law 170 = .ok (.ireturn, 1) := by decide +kernel
theorem dL_law_171 : decode cL_law 171 = .ok (.aload_n 1, 1) := by decide +kernel
theorem dL_law_172 : decode cL_law 172 = .ok (.invokevirtual 18, 3) := by decide +kernel
theorem dL_law_175 : decode cL_law 175 = .ok (.aload_n 2, 1) := by decide +kernel
theorem dL_law_176 : decode cL_law 176 = .ok (.invokevirtual 22, 3) := by decide +kernel
theorem dL_law_179 : decode cL_law 179 = .ok (.if_icmp .eq 714, 3) := by decide +kernel
theorem dL_law_182 : decode cL_law 182 = .ok (.iconst 0, 1) := by decide +kernel
theorem dL_law_183 : decode cL_law 183 = .ok (.ireturn, 1) := by decide +kernel
theorem dL_law_184 : decode cL_law 184 = .ok (.aload_n 1, 1) := by decide +kernel
theorem dL_law_185 : decode cL_law 185 = .ok (.invokevirtual 23, 3) := by decide +kernel
theorem dL_law_188 : decode cL_law 188 = .ok (.aload_n 2, 1) := by decide +kernel
theorem dL_law_189 : decode cL_law 189 = .ok (.invokevirtual 26, 3) := by decide +kernel
theorem dL_law_192 : decode cL_law 192 = .ok (.if_icmp .eq 701, 3) := by decide +kernel
theorem dL_law_195 : decode cL_law 195 = .ok (.iconst 0, 1) := by decide +kernel
theorem dL_law_196 : decode cL_law 196 = .ok (.ireturn, 1) := by decide +kernel
theorem dL_law_197 : decode cL_law 197 = .ok (.aload_n 1, 1) := by decide +kernel
theorem dL_law_198 : decode cL_law 198 = .ok (.aload_n 0, 1) := by decide +kernel
theorem dL_law_199 : decode cL_law 199 = .ok (.iload_n 3, 1) := by decide +kernel
theorem dL_law_200 : decode cL_law 200 = .ok (.iconst 1, 1) := by decide +kernel
theorem dL_law_201 : decode cL_law 201 = .ok (.iadd, 1) := by decide +kernel
theorem dL_law_202 : decode cL_law 202 = .ok (.iaload, 1) := by decide +kernel
theorem dL_law_203 : decode cL_law 203 = .ok (.invokevirtual 27, 3) := by decide +kernel
theorem dL_law_206 : decode cL_law 206 = .ok (.aload_n 2, 1) := by decide +kernel
theorem dL_law_207 : decode cL_law 207 = .ok (.aload_n 0, 1) := by decide +kernel
theorem dL_law_208 : decode cL_law 208 = .ok (.iload_n 3, 1) := by decide +kernel
theorem dL_law_209 : decode cL_law 209 = .ok (.iconst 1, 1) := by decide +kernel
theorem dL_law_210 : decode cL_law 210 = .ok (.iadd, 1) := by decide +kernel
theorem dL_law_211 : decode cL_law 211 = .ok (.iaload, 1) := by decide +kernel
theorem dL_law_212 : decode cL_law 212 = .ok (.invokevirtual 30, 3) := by decide +kernel
theorem dL_law_215 : decode cL_law 215 = .ok (.if_icmp .eq 678, 3) := by decide +kernel
theorem dL_law_218 : decode cL_law 218 = .ok (.iconst 0, 1) := by decide +kernel
theorem dL_law_219 : decode cL_law 219 = .ok (.ireturn, 1) := by decide +kernel
theorem dL_law_220 : decode cL_law 220 = .ok (.aload_n 1, 1) := by decide +kernel
theorem dL_law_221 : decode cL_law 221 = .ok (.aload_n 0, 1) := by decide +kernel
theorem dL_law_222 : decode cL_law 222 = .ok (.iload_n 3, 1) := by decide +kernel
theorem dL_law_223 : decode cL_law 223 = .ok (.iconst 1, 1) := by decide +kernel
theorem dL_law_224 : decode cL_law 224 = .ok (.iadd, 1) := by decide +kernel
theorem dL_law_225 : decode cL_law 225 = .ok (.iaload, 1) := by decide +kernel
theorem dL_law_226 : decode cL_law 226 = .ok (.aload_n 0, 1) := by decide +kernel
theorem dL_law_227 : decode cL_law 227 = .ok (.iload_n 3, 1) := by decide +kernel
theorem dL_law_228 : decode cL_law 228 = .ok (.iconst 2, 1) := by decide +kernel
theorem dL_law_229 : decode cL_law 229 = .ok (.iadd, 1) := by decide +kernel
theorem dL_law_230 : decode cL_law 230 = .ok (.iaload, 1) := by decide +kernel
theorem dL_law_231 : decode cL_law 231 = .ok (.invokevirtual 31, 3) := by decide +kernel
theorem dL_law_234 : decode cL_law 234 = .ok (.aload_n 2, 1) := by decide +kernel
theorem dL_law_235 : decode cL_law 235 = .ok (.aload_n 0, 1) := by decide +kernel
theorem dL_law_236 : decode cL_law 236 = .ok (.iload_n 3, 1) := by decide +kernel
theorem dL_law_237 : decode cL_law 237 = .ok (.iconst 1, 1) := by decide +kernel
theorem dL_law_238 : decode cL_law 238 = .ok (.iadd, 1) := by decide +kernel
theorem dL_law_239 : decode cL_law 239 = .ok (.iaload, 1) := by decide +kernel
theorem dL_law_240 : decode cL_law 240 = .ok (.aload_n 0, 1) := by decide +kernel
theorem dL_law_241 : decode cL_law 241 = .ok (.iload_n 3, 1) := by decide +kernel
theorem dL_law_242 : decode cL_law 242 = .ok (.iconst 2, 1) := by decide +kernel
theorem dL_law_243 : decode cL_law 243 = .ok (.iadd, 1) := by decide +kernel
theorem dL_law_244 : decode cL_law 244 = .ok (.iaload, 1) := by decide +kernel
theorem dL_law_245 : decode cL_law 245 = .ok (.invokevirtual 35, 3) := by decide +kernel
theorem dL_law_248 : decode cL_law 248 = .ok (.if_icmp .eq 645, 3) := by decide +kernel
theorem dL_law_251 : decode cL_law 251 = .ok (.iconst 0, 1) := by decide +kernel
theorem dL_law_252 : decode cL_law 252 = .ok (.ireturn, 1) := by decide +kernel
theorem dL_law_253 : decode cL_law 253 = .ok (.aload_n 1, 1) := by decide +kernel
theorem dL_law_254 : decode cL_law 254 = .ok (.aload_n 0, 1) := by decide +kernel
theorem dL_law_255 : decode cL_law 255 = .ok (.iload_n 3, 1) := by decide +kernel
theorem dL_law_256 : decode cL_law 256 = .ok (.iconst 1, 1) := by decide +kernel
theorem dL_law_257 : decode cL_law 257 = .ok (.iadd, 1) := by decide +kernel
theorem dL_law_258 : decode cL_law 258 = .ok (.iaload, 1) := by decide +kernel
theorem dL_law_259 : decode cL_law 259 = .ok (.aload_n 0, 1) := by decide +kernel
theorem dL_law_260 : decode cL_law 260 = .ok (.iload_n 3, 1) := by decide +kernel
theorem dL_law_261 : decode cL_law 261 = .ok (.iconst 2, 1) := by decide +kernel
theorem dL_law_262 : decode cL_law 262 = .ok (.iadd, 1) := by decide +kernel
theorem dL_law_263 : decode cL_law 263 = .ok (.iaload, 1) := by decide +kernel
theorem dL_law_264 : decode cL_law 264 = .ok (.invokevirtual 36, 3) := by decide +kernel
theorem dL_law_267 : decode cL_law 267 = .ok (.aload_n 2, 1) := by decide +kernel
theorem dL_law_268 : decode cL_law 268 = .ok (.aload_n 0, 1) := by decide +kernel
theorem dL_law_269 : decode cL_law 269 = .ok (.iload_n 3, 1) := by decide +kernel
theorem dL_law_270 : decode cL_law 270 = .ok (.iconst 1, 1) := by decide +kernel
theorem dL_law_271 : decode cL_law 271 = .ok (.iadd, 1) := by decide +kernel
theorem dL_law_272 : decode cL_law 272 = .ok (.iaload, 1) := by decide +kernel
theorem dL_law_273 : decode cL_law 273 = .ok (.aload_n 0, 1) := by decide +kernel
theorem dL_law_274 : decode cL_law 274 = .ok (.iload_n 3, 1) := by decide +kernel
theorem dL_law_275 : decode cL_law 275 = .ok (.iconst 2, 1) := by decide +kernel
theorem dL_law_276 : decode cL_law 276 = .ok (.iadd, 1) := by decide +kernel
theorem dL_law_277 : decode cL_law 277 = .ok (.iaload, 1) := by decide +kernel
theorem dL_law_278 : decode cL_law 278 = .ok (.invokevirtual 39, 3) := by decide +kernel
theorem dL_law_281 : decode cL_law 281 = .ok (.if_icmp .eq 612, 3) := by decide +kernel
theorem dL_law_284 : decode cL_law 284 = .ok (.iconst 0, 1) := by decide +kernel
theorem dL_law_285 : decode cL_law 285 = .ok (.ireturn, 1) := by decide +kernel
theorem dL_law_286 : decode cL_law 286 = .ok (.aload_n 1, 1) := by decide +kernel
theorem dL_law_287 : decode cL_law 287 = .ok (.aload_n 0, 1) := by decide +kernel
theorem dL_law_288 : decode cL_law 288 = .ok (.iload_n 3, 1) := by decide +kernel
theorem dL_law_289 : decode cL_law 289 = .ok (.iconst 1, 1) := by decide +kernel
theorem dL_law_290 : decode cL_law 290 = .ok (.iadd, 1) := by decide +kernel
theorem dL_law_291 : decode cL_law 291 = .ok (.iaload, 1) := by decide +kernel
theorem dL_law_292 : decode cL_law 292 = .ok (.aload_n 0, 1) := by decide +kernel
theorem dL_law_293 : decode cL_law 293 = .ok (.iload_n 3, 1) := by decide +kernel
theorem dL_law_294 : decode cL_law 294 = .ok (.iconst 2, 1) := by decide +kernel
theorem dL_law_295 : decode cL_law 295 = .ok (.iadd, 1) := by decide +kernel
theorem dL_law_296 : decode cL_law 296 = .ok (.iaload, 1) := by decide +kernel
theorem dL_law_297 : decode cL_law 297 = .ok (.invokevirtual 40, 3) := by decide +kernel
theorem dL_law_300 : decode cL_law 300 = .ok (.aload_n 2, 1) := by decide +kernel
theorem dL_law_301 : decode cL_law 301 = .ok (.aload_n 0, 1) := by decide +kernel
theorem dL_law_302 : decode cL_law 302 = .ok (.iload_n 3, 1) := by decide +kernel
theorem dL_law_303 : decode cL_law 303 = .ok (.iconst 1, 1) := by decide +kernel
theorem dL_law_304 : decode cL_law 304 = .ok (.iadd, 1) := by decide +kernel
theorem dL_law_305 : decode cL_law 305 = .ok (.iaload, 1) := by decide +kernel
theorem dL_law_306 : decode cL_law 306 = .ok (.aload_n 0, 1) := by decide +kernel
theorem dL_law_307 : decode cL_law 307 = .ok (.iload_n 3, 1) := by decide +kernel
theorem dL_law_308 : decode cL_law 308 = .ok (.iconst 2, 1) := by decide +kernel
theorem dL_law_309 : decode cL_law 309 = .ok (.iadd, 1) := by decide +kernel
theorem dL_law_310 : decode cL_law 310 = .ok (.iaload, 1) := by decide +kernel
theorem dL_law_311 : decode cL_law 311 = .ok (.invokevirtual 43, 3) := by decide +kernel
theorem dL_law_314 : decode cL_law 314 = .ok (.if_icmp .eq 579, 3) := by decide +kernel
theorem dL_law_317 : decode cL_law 317 = .ok (.iconst 0, 1) := by decide +kernel
theorem dL_law_318 : decode cL_law 318 = .ok (.ireturn, 1) := by decide +kernel
theorem dL_law_319 : decode cL_law 319 = .ok (.aload_n 1, 1) := by decide +kernel
theorem dL_law_320 : decode cL_law 320 = .ok (.aload_n 0, 1) := by decide +kernel
theorem dL_law_321 : decode cL_law 321 = .ok (.iload_n 3, 1) := by decide +kernel
theorem dL_law_322 : decode cL_law 322 = .ok (.iconst 1, 1) := by decide +kernel
theorem dL_law_323 : decode cL_law 323 = .ok (.iadd, 1) := by decide +kernel
theorem dL_law_324 : decode cL_law 324 = .ok (.iaload, 1) := by decide +kernel
theorem dL_law_325 : decode cL_law 325 = .ok (.aload_n 0, 1) := by decide +kernel
theorem dL_law_326 : decode cL_law 326 = .ok (.iload_n 3, 1) := by decide +kernel
theorem dL_law_327 : decode cL_law 327 = .ok (.iconst 2, 1) := by decide +kernel
theorem dL_law_328 : decode cL_law 328 = .ok (.iadd, 1) := by decide +kernel
theorem dL_law_329 : decode cL_law 329 = .ok (.iaload, 1) := by decide +kernel
theorem dL_law_330 : decode cL_law 330 = .ok (.aload_n 0, 1) := by decide +kernel
theorem dL_law_331 : decode cL_law 331 = .ok (.iload_n 3, 1) := by decide +kernel
theorem dL_law_332 : decode cL_law 332 = .ok (.iconst 3, 1) := by decide +kernel
theorem dL_law_333 : decode cL_law 333 = .ok (.iadd, 1) := by decide +kernel
theorem dL_law_334 : decode cL_law 334 = .ok (.iaload, 1) := by decide +kernel
theorem dL_law_335 : decode cL_law 335 = .ok (.invokevirtual 44, 3) := by decide +kernel
theorem dL_law_338 : decode cL_law 338 = .ok (.aload_n 2, 1) := by decide +kernel
theorem dL_law_339 : decode cL_law 339 = .ok (.aload_n 0, 1) := by decide +kernel
theorem dL_law_340 : decode cL_law 340 = .ok (.iload_n 3, 1) := by decide +kernel
theorem dL_law_341 : decode cL_law 341 = .ok (.iconst 1, 1) := by decide +kernel
theorem dL_law_342 : decode cL_law 342 = .ok (.iadd, 1) := by decide +kernel
theorem dL_law_343 : decode cL_law 343 = .ok (.iaload, 1) := by decide +kernel
theorem dL_law_344 : decode cL_law 344 = .ok (.aload_n 0, 1) := by decide +kernel
theorem dL_law_345 : decode cL_law 345 = .ok (.iload_n 3, 1) := by decide +kernel
theorem dL_law_346 : decode cL_law 346 = .ok (.iconst 2, 1) := by decide +kernel
theorem dL_law_347 : decode cL_law 347 = .ok (.iadd, 1) := by decide +kernel
theorem dL_law_348 : decode cL_law 348 = .ok (.iaload, 1) := by decide +kernel
theorem dL_law_349 : decode cL_law 349 = .ok (.aload_n 0, 1) := by decide +kernel
theorem dL_law_350 : decode cL_law 350 = .ok (.iload_n 3, 1) := by decide +kernel
theorem dL_law_351 : decode cL_law 351 = .ok (.iconst 3, 1) := by decide +kernel
theorem dL_law_352 : decode cL_law 352 = .ok (.iadd, 1) := by decide +kernel
theorem dL_law_353 : decode cL_law 353 = .ok (.iaload, 1) := by decide +kernel
theorem dL_law_354 : decode cL_law 354 = .ok (.invokevirtual 48, 3) := by decide +kernel
theorem dL_law_357 : decode cL_law 357 = .ok (.if_icmp .eq 536, 3) := by decide +kernel
theorem dL_law_360 : decode cL_law 360 = .ok (.iconst 0, 1) := by decide +kernel
theorem dL_law_361 : decode cL_law 361 = .ok (.ireturn, 1) := by decide +kernel
theorem dL_law_362 : decode cL_law 362 = .ok (.aload_n 1, 1) := by decide +kernel
theorem dL_law_363 : decode cL_law 363 = .ok (.aload_n 0, 1) := by decide +kernel
theorem dL_law_364 : decode cL_law 364 = .ok (.iload_n 3, 1) := by decide +kernel
theorem dL_law_365 : decode cL_law 365 = .ok (.iconst 1, 1) := by decide +kernel
theorem dL_law_366 : decode cL_law 366 = .ok (.iadd, 1) := by decide +kernel
theorem dL_law_367 : decode cL_law 367 = .ok (.iaload, 1) := by decide +kernel
theorem dL_law_368 : decode cL_law 368 = .ok (.aload_n 0, 1) := by decide +kernel
theorem dL_law_369 : decode cL_law 369 = .ok (.iload_n 3, 1) := by decide +kernel
theorem dL_law_370 : decode cL_law 370 = .ok (.iconst 2, 1) := by decide +kernel
theorem dL_law_371 : decode cL_law 371 = .ok (.iadd, 1) := by decide +kernel
theorem dL_law_372 : decode cL_law 372 = .ok (.iaload, 1) := by decide +kernel
theorem dL_law_373 : decode cL_law 373 = .ok (.invokevirtual 49, 3) := by decide +kernel
theorem dL_law_376 : decode cL_law 376 = .ok (.aload_n 2, 1) := by decide +kernel
theorem dL_law_377 : decode cL_law 377 = .ok (.aload_n 0, 1) := by decide +kernel
theorem dL_law_378 : decode cL_law 378 = .ok (.iload_n 3, 1) := by decide +kernel
theorem dL_law_379 : decode cL_law 379 = .ok (.iconst 1, 1) := by decide +kernel
theorem dL_law_380 : decode cL_law 380 = .ok (.iadd, 1) := by decide +kernel
theorem dL_law_381 : decode cL_law 381 = .ok (.iaload, 1) := by decide +kernel
theorem dL_law_382 : decode cL_law 382 = .ok (.aload_n 0, 1) := by decide +kernel
theorem dL_law_383 : decode cL_law 383 = .ok (.iload_n 3, 1) := by decide +kernel
theorem dL_law_384 : decode cL_law 384 = .ok (.iconst 2, 1) := by decide +kernel
theorem dL_law_385 : decode cL_law 385 = .ok (.iadd, 1) := by decide +kernel
theorem dL_law_386 : decode cL_law 386 = .ok (.iaload, 1) := by decide +kernel
theorem dL_law_387 : decode cL_law 387 = .ok (.invokevirtual 52, 3) := by decide +kernel
theorem dL_law_390 : decode cL_law 390 = .ok (.if_icmp .eq 503, 3) := by decide +kernel
theorem dL_law_393 : decode cL_law 393 = .ok (.iconst 0, 1) := by decide +kernel
theorem dL_law_394 : decode cL_law 394 = .ok (.ireturn, 1) := by decide +kernel
theorem dL_law_395 : decode cL_law 395 = .ok (.aload_n 1, 1) := by decide +kernel
theorem dL_law_396 : decode cL_law 396 = .ok (.invokevirtual 53, 3) := by decide +kernel
theorem dL_law_399 : decode cL_law 399 = .ok (.aload_n 2, 1) := by decide +kernel
theorem dL_law_400 : decode cL_law 400 = .ok (.invokevirtual 56, 3) := by decide +kernel
theorem dL_law_403 : decode cL_law 403 = .ok (.if_icmp .eq 490, 3) := by decide +kernel
theorem dL_law_406 : decode cL_law 406 = .ok (.iconst 0, 1) := by decide +kernel
theorem dL_law_407 : decode cL_law 407 = .ok (.ireturn, 1) := by decide +kernel
theorem dL_law_408 : decode cL_law 408 = .ok (.aload_n 1, 1) := by decide +kernel
theorem dL_law_409 : decode cL_law 409 = .ok (.aload_n 0, 1) := by decide +kernel
theorem dL_law_410 : decode cL_law 410 = .ok (.iload_n 3, 1) := by decide +kernel
theorem dL_law_411 : decode cL_law 411 = .ok (.iconst 1, 1) := by decide +kernel
theorem dL_law_412 : decode cL_law 412 = .ok (.iadd, 1) := by decide +kernel
theorem dL_law_413 : decode cL_law 413 = .ok (.iaload, 1) := by decide +kernel
theorem dL_law_414 : decode cL_law 414 = .ok (.aload_n 0, 1) := by decide +kernel
theorem dL_law_415 : decode cL_law 415 = .ok (.iload_n 3, 1) := by decide +kernel
theorem dL_law_416 : decode cL_law 416 = .ok (.iconst 2, 1) := by decide +kernel
theorem dL_law_417 : decode cL_law 417 = .ok (.iadd, 1) := by decide +kernel
theorem dL_law_418 : decode cL_law 418 = .ok (.iaload, 1) := by decide +kernel
theorem dL_law_419 : decode cL_law 419 = .ok (.aload_n 0, 1) := by decide +kernel
theorem dL_law_420 : decode cL_law 420 = .ok (.iload_n 3, 1) := by decide +kernel
theorem dL_law_421 : decode cL_law 421 = .ok (.iconst 3, 1) := by decide +kernel
theorem dL_law_422 : decode cL_law 422 = .ok (.iadd, 1) := by decide +kernel
theorem dL_law_423 : decode cL_law 423 = .ok (.iaload, 1) := by decide +kernel
theorem dL_law_424 : decode cL_law 424 = .ok (.invokevirtual 57, 3) := by decide +kernel
theorem dL_law_427 : decode cL_law 427 = .ok (.aload_n 2, 1) := by decide +kernel
theorem dL_law_428 : decode cL_law 428 = .ok (.aload_n 0, 1) := by decide +kernel
theorem dL_law_429 : decode cL_law 429 = .ok (.iload_n 3, 1) := by decide +kernel
theorem dL_law_430 : decode cL_law 430 = .ok (.iconst 1, 1) := by decide +kernel
theorem dL_law_431 : decode cL_law 431 = .ok (.iadd, 1) := by decide +kernel
theorem dL_law_432 : decode cL_law 432 = .ok (.iaload, 1) := by decide +kernel
theorem dL_law_433 : decode cL_law 433 = .ok (.aload_n 0, 1) := by decide +kernel
theorem dL_law_434 : decode cL_law 434 = .ok (.iload_n 3, 1) := by decide +kernel
theorem dL_law_435 : decode cL_law 435 = .ok (.iconst 2, 1) := by decide +kernel
theorem dL_law_436 : decode cL_law 436 = .ok (.iadd, 1) := by decide +kernel
theorem dL_law_437 : decode cL_law 437 = .ok (.iaload, 1) := by decide +kernel
theorem dL_law_438 : decode cL_law 438 = .ok (.aload_n 0, 1) := by decide +kernel
theorem dL_law_439 : decode cL_law 439 = .ok (.iload_n 3, 1) := by decide +kernel
theorem dL_law_440 : decode cL_law 440 = .ok (.iconst 3, 1) := by decide +kernel
theorem dL_law_441 : decode cL_law 441 = .ok (.iadd, 1) := by decide +kernel
theorem dL_law_442 : decode cL_law 442 = .ok (.iaload, 1) := by decide +kernel
theorem dL_law_443 : decode cL_law 443 = .ok (.invokevirtual 60, 3) := by decide +kernel
theorem dL_law_446 : decode cL_law 446 = .ok (.if_icmp .eq 447, 3) := by decide +kernel
theorem dL_law_449 : decode cL_law 449 = .ok (.iconst 0, 1) := by decide +kernel
theorem dL_law_450 : decode cL_law 450 = .ok (.ireturn, 1) := by decide +kernel
theorem dL_law_451 : decode cL_law 451 = .ok (.aload_n 1, 1) := by decide +kernel
theorem dL_law_452 : decode cL_law 452 = .ok (.aload_n 0, 1) := by decide +kernel
theorem dL_law_453 : decode cL_law 453 = .ok (.iload_n 3, 1) := by decide +kernel
theorem dL_law_454 : decode cL_law 454 = .ok (.iconst 1, 1) := by decide +kernel
theorem dL_law_455 : decode cL_law 455 = .ok (.iadd, 1) := by decide +kernel
theorem dL_law_456 : decode cL_law 456 = .ok (.iaload, 1) := by decide +kernel
theorem dL_law_457 : decode cL_law 457 = .ok (.aload_n 0, 1) := by decide +kernel
theorem dL_law_458 : decode cL_law 458 = .ok (.iload_n 3, 1) := by decide +kernel
theorem dL_law_459 : decode cL_law 459 = .ok (.iconst 2, 1) := by decide +kernel
theorem dL_law_460 : decode cL_law 460 = .ok (.iadd, 1) := by decide +kernel
theorem dL_law_461 : decode cL_law 461 = .ok (.iaload, 1) := by decide +kernel
theorem dL_law_462 : decode cL_law 462 = .ok (.aload_n 0, 1) := by decide +kernel
theorem dL_law_463 : decode cL_law 463 = .ok (.iload_n 3, 1) := by decide +kernel
theorem dL_law_464 : decode cL_law 464 = .ok (.iconst 3, 1) := by decide +kernel
theorem dL_law_465 : decode cL_law 465 = .ok (.iadd, 1) := by decide +kernel
theorem dL_law_466 : decode cL_law 466 = .ok (.iaload, 1) := by decide +kernel
theorem dL_law_467 : decode cL_law 467 = .ok (.aload_n 0, 1) := by decide +kernel
theorem dL_law_468 : decode cL_law 468 = .ok (.iload_n 3, 1) := by decide +kernel
theorem dL_law_469 : decode cL_law 469 = .ok (.iconst 4, 1) := by decide +kernel
theorem dL_law_470 : decode cL_law 470 = .ok (.iadd, 1) := by decide +kernel
theorem dL_law_471 : decode cL_law 471 = .ok (.iaload, 1) := by decide +kernel
theorem dL_law_472 : decode cL_law 472 = .ok (.invokevirtual 61, 3) := by decide +kernel
theorem dL_law_475 : decode cL_law 475 = .ok (.aload_n 2, 1) := by decide +kernel
theorem dL_law_476 : decode cL_law 476 = .ok (.aload_n 0, 1) := by decide +kernel
theorem dL_law_477 : decode cL_law 477 = .ok (.iload_n 3, 1) := by decide +kernel
theorem dL_law_478 : decode cL_law 478 = .ok (.iconst 1, 1) := by decide +kernel
theorem dL_law_479 : decode cL_law 479 = .ok (.iadd, 1) := by decide +kernel
theorem dL_law_480 : decode cL_law 480 = .ok (.iaload, 1) := by decide +kernel
theorem dL_law_481 : decode cL_law 481 = .ok (.aload_n 0, 1) := by decide +kernel
theorem dL_law_482 : decode cL_law 482 = .ok (.iload_n 3, 1) := by decide +kernel
theorem dL_law_483 : decode cL_law 483 = .ok (.iconst 2, 1) := by decide +kernel
theorem dL_law_484 : decode cL_law 484 = .ok (.iadd, 1) := by decide +kernel
theorem dL_law_485 : decode cL_law 485 = .ok (.iaload, 1) := by decide +kernel
theorem dL_law_486 : decode cL_law 486 = .ok (.aload_n 0, 1) := by decide +kernel
theorem dL_law_487 : decode cL_law 487 = .ok (.iload_n 3, 1) := by decide +kernel
theorem dL_law_488 : decode cL_law 488 = .ok (.iconst 3, 1) := by decide +kernel
theorem dL_law_489 : decode cL_law 489 = .ok (.iadd, 1) := by decide +kernel
theorem dL_law_490 : decode cL_law 490 = .ok (.iaload, 1) := by decide +kernel
theorem dL_law_491 : decode cL_law 491 = .ok (.aload_n 0, 1) := by decide +kernel
theorem dL_law_492 : decode cL_law 492 = .ok (.iload_n 3, 1) := by decide +kernel
theorem dL_law_493 : decode cL_law 493 = .ok (.iconst 4, 1) := by decide +kernel
theorem dL_law_494 : decode cL_law 494 = .ok (.iadd, 1) := by decide +kernel
theorem dL_law_495 : decode cL_law 495 = .ok (.iaload, 1) := by decide +kernel
theorem dL_law_496 : decode cL_law 496 = .ok (.invokevirtual 65, 3) := by decide +kernel
theorem dL_law_499 : decode cL_law 499 = .ok (.if_icmp .eq 394, 3) := by decide +kernel
theorem dL_law_502 : decode cL_law 502 = .ok (.iconst 0, 1) := by decide +kernel
theorem dL_law_503 : decode cL_law 503 = .ok (.ireturn, 1) := by decide +kernel
theorem dL_law_504 : decode cL_law 504 = .ok (.aload_n 1, 1) := by decide +kernel
theorem dL_law_505 : decode cL_law 505 = .ok (.aload_n 0, 1) := by decide +kernel
theorem dL_law_506 : decode cL_law 506 = .ok (.iload_n 3, 1) := by decide +kernel
theorem dL_law_507 : decode cL_law 507 = .ok (.iconst 1, 1) := by decide +kernel
theorem dL_law_508 : decode cL_law 508 = .ok (.iadd, 1) := by decide +kernel
theorem dL_law_509 : decode cL_law 509 = .ok (.iaload, 1) := by decide +kernel
theorem dL_law_510 : decode cL_law 510 = .ok (.aload_n 0, 1) := by decide +kernel
theorem dL_law_511 : decode cL_law 511 = .ok (.iload_n 3, 1) := by decide +kernel
theorem dL_law_512 : decode cL_law 512 = .ok (.iconst 2, 1) := by decide +kernel
theorem dL_law_513 : decode cL_law 513 = .ok (.iadd, 1) := by decide +kernel
theorem dL_law_514 : decode cL_law 514 = .ok (.iaload, 1) := by decide +kernel
theorem dL_law_515 : decode cL_law 515 = .ok (.aload_n 0, 1) := by decide +kernel
theorem dL_law_516 : decode cL_law 516 = .ok (.iload_n 3, 1) := by decide +kernel
theorem dL_law_517 : decode cL_law 517 = .ok (.iconst 3, 1) := by decide +kernel
theorem dL_law_518 : decode cL_law 518 = .ok (.iadd, 1) := by decide +kernel
theorem dL_law_519 : decode cL_law 519 = .ok (.iaload, 1) := by decide +kernel
theorem dL_law_520 : decode cL_law 520 = .ok (.invokevirtual 66, 3) := by decide +kernel
theorem dL_law_523 : decode cL_law 523 = .ok (.aload_n 2, 1) := by decide +kernel
theorem dL_law_524 : decode cL_law 524 = .ok (.aload_n 0, 1) := by decide +kernel
theorem dL_law_525 : decode cL_law 525 = .ok (.iload_n 3, 1) := by decide +kernel
theorem dL_law_526 : decode cL_law 526 = .ok (.iconst 1, 1) := by decide +kernel
theorem dL_law_527 : decode cL_law 527 = .ok (.iadd, 1) := by decide +kernel
theorem dL_law_528 : decode cL_law 528 = .ok (.iaload, 1) := by decide +kernel
theorem dL_law_529 : decode cL_law 529 = .ok (.aload_n 0, 1) := by decide +kernel
theorem dL_law_530 : decode cL_law 530 = .ok (.iload_n 3, 1) := by decide +kernel
theorem dL_law_531 : decode cL_law 531 = .ok (.iconst 2, 1) := by decide +kernel
theorem dL_law_532 : decode cL_law 532 = .ok (.iadd, 1) := by decide +kernel
theorem dL_law_533 : decode cL_law 533 = .ok (.iaload, 1) := by decide +kernel
theorem dL_law_534 : decode cL_law 534 = .ok (.aload_n 0, 1) := by decide +kernel
theorem dL_law_535 : decode cL_law 535 = .ok (.iload_n 3, 1) := by decide +kernel
theorem dL_law_536 : decode cL_law 536 = .ok (.iconst 3, 1) := by decide +kernel
theorem dL_law_537 : decode cL_law 537 = .ok (.iadd, 1) := by decide +kernel
theorem dL_law_538 : decode cL_law 538 = .ok (.iaload, 1) := by decide +kernel
theorem dL_law_539 : decode cL_law 539 = .ok (.invokevirtual 69, 3) := by decide +kernel
theorem dL_law_542 : decode cL_law 542 = .ok (.if_icmp .eq 351, 3) := by decide +kernel
theorem dL_law_545 : decode cL_law 545 = .ok (.iconst 0, 1) := by decide +kernel
theorem dL_law_546 : decode cL_law 546 = .ok (.ireturn, 1) := by decide +kernel
theorem dL_law_547 : decode cL_law 547 = .ok (.aload_n 1, 1) := by decide +kernel
theorem dL_law_548 : decode cL_law 548 = .ok (.aload_n 0, 1) := by decide +kernel
theorem dL_law_549 : decode cL_law 549 = .ok (.iload_n 3, 1) := by decide +kernel
theorem dL_law_550 : decode cL_law 550 = .ok (.iconst 1, 1) := by decide +kernel
theorem dL_law_551 : decode cL_law 551 = .ok (.iadd, 1) := by decide +kernel
theorem dL_law_552 : decode cL_law 552 = .ok (.iaload, 1) := by decide +kernel
theorem dL_law_553 : decode cL_law 553 = .ok (.aload_n 0, 1) := by decide +kernel
theorem dL_law_554 : decode cL_law 554 = .ok (.iload_n 3, 1) := by decide +kernel
theorem dL_law_555 : decode cL_law 555 = .ok (.iconst 2, 1) := by decide +kernel
theorem dL_law_556 : decode cL_law 556 = .ok (.iadd, 1) := by decide +kernel
theorem dL_law_557 : decode cL_law 557 = .ok (.iaload, 1) := by decide +kernel
theorem dL_law_558 : decode cL_law 558 = .ok (.invokevirtual 70, 3) := by decide +kernel
theorem dL_law_561 : decode cL_law 561 = .ok (.aload_n 2, 1) := by decide +kernel
theorem dL_law_562 : decode cL_law 562 = .ok (.aload_n 0, 1) := by decide +kernel
theorem dL_law_563 : decode cL_law 563 = .ok (.iload_n 3, 1) := by decide +kernel
theorem dL_law_564 : decode cL_law 564 = .ok (.iconst 1, 1) := by decide +kernel
theorem dL_law_565 : decode cL_law 565 = .ok (.iadd, 1) := by decide +kernel
theorem dL_law_566 : decode cL_law 566 = .ok (.iaload, 1) := by decide +kernel
theorem dL_law_567 : decode cL_law 567 = .ok (.aload_n 0, 1) := by decide +kernel
theorem dL_law_568 : decode cL_law 568 = .ok (.iload_n 3, 1) := by decide +kernel
theorem dL_law_569 : decode cL_law 569 = .ok (.iconst 2, 1) := by decide +kernel
theorem dL_law_570 : decode cL_law 570 = .ok (.iadd, 1) := by decide +kernel
theorem dL_law_571 : decode cL_law 571 = .ok (.iaload, 1) := by decide +kernel
theorem dL_law_572 : decode cL_law 572 = .ok (.invokevirtual 73, 3) := by decide +kernel
theorem dL_law_575 : decode cL_law 575 = .ok (.if_icmp .eq 318, 3) := by decide +kernel
theorem dL_law_578 : decode cL_law 578 = .ok (.iconst 0, 1) := by decide +kernel
theorem dL_law_579 : decode cL_law 579 = .ok (.ireturn, 1) := by decide +kernel
theorem dL_law_580 : decode cL_law 580 = .ok (.aload_n 1, 1) := by decide +kernel
theorem dL_law_581 : decode cL_law 581 = .ok (.aload_n 0, 1) := by decide +kernel
theorem dL_law_582 : decode cL_law 582 = .ok (.iload_n 3, 1) := by decide +kernel
theorem dL_law_583 : decode cL_law 583 = .ok (.iconst 1, 1) := by decide +kernel
theorem dL_law_584 : decode cL_law 584 = .ok (.iadd, 1) := by decide +kernel
theorem dL_law_585 : decode cL_law 585 = .ok (.iaload, 1) := by decide +kernel
theorem dL_law_586 : decode cL_law 586 = .ok (.aload_n 0, 1) := by decide +kernel
theorem dL_law_587 : decode cL_law 587 = .ok (.iload_n 3, 1) := by decide +kernel
theorem dL_law_588 : decode cL_law 588 = .ok (.iconst 2, 1) := by decide +kernel
theorem dL_law_589 : decode cL_law 589 = .ok (.iadd, 1) := by decide +kernel
theorem dL_law_590 : decode cL_law 590 = .ok (.iaload, 1) := by decide +kernel
theorem dL_law_591 : decode cL_law 591 = .ok (.aload_n 0, 1) := by decide +kernel
theorem dL_law_592 : decode cL_law 592 = .ok (.iload_n 3, 1) := by decide +kernel
theorem dL_law_593 : decode cL_law 593 = .ok (.iconst 3, 1) := by decide +kernel
theorem dL_law_594 : decode cL_law 594 = .ok (.iadd, 1) := by decide +kernel
theorem dL_law_595 : decode cL_law 595 = .ok (.iaload, 1) := by decide +kernel
theorem dL_law_596 : decode cL_law 596 = .ok (.invokevirtual 74, 3) := by decide +kernel
theorem dL_law_599 : decode cL_law 599 = .ok (.aload_n 2, 1) := by decide +kernel
theorem dL_law_600 : decode cL_law 600 = .ok (.aload_n 0, 1) := by decide +kernel
theorem dL_law_601 : decode cL_law 601 = .ok (.iload_n 3, 1) := by decide +kernel
theorem dL_law_602 : decode cL_law 602 = .ok (.iconst 1, 1) := by decide +kernel
theorem dL_law_603 : decode cL_law 603 = .ok (.iadd, 1) := by decide +kernel
theorem dL_law_604 : decode cL_law 604 = .ok (.iaload, 1) := by decide +kernel
theorem dL_law_605 : decode cL_law 605 = .ok (.aload_n 0, 1) := by decide +kernel
theorem dL_law_606 : decode cL_law 606 = .ok (.iload_n 3, 1) := by decide +kernel
theorem dL_law_607 : decode cL_law 607 = .ok (.iconst 2, 1) := by decide +kernel
theorem dL_law_608 : decode cL_law 608 = .ok (.iadd, 1) := by decide +kernel
theorem dL_law_609 : decode cL_law 609 = .ok (.iaload, 1) := by decide +kernel
theorem dL_law_610 : decode cL_law 610 = .ok (.aload_n 0, 1) := by decide +kernel
theorem dL_law_611 : decode cL_law 611 = .ok (.iload_n 3, 1) := by decide +kernel
theorem dL_law_612 : decode cL_law 612 = .ok (.iconst 3, 1) := by decide +kernel
theorem dL_law_613 : decode cL_law 613 = .ok (.iadd, 1) := by decide +kernel
theorem dL_law_614 : decode cL_law 614 = .ok (.iaload, 1) := by decide +kernel
theorem dL_law_615 : decode cL_law 615 = .ok (.invokevirtual 77, 3) := by decide +kernel
theorem dL_law_618 : decode cL_law 618 = .ok (.if_icmp .eq 275, 3) := by decide +kernel
theorem dL_law_621 : decode cL_law 621 = .ok (.iconst 0, 1) := by decide +kernel
theorem dL_law_622 : decode cL_law 622 = .ok (.ireturn, 1) := by decide +kernel
theorem dL_law_623 : decode cL_law 623 = .ok (.aload_n 1, 1) := by decide +kernel
theorem dL_law_624 : decode cL_law 624 = .ok (.aload_n 0, 1) := by decide +kernel
theorem dL_law_625 : decode cL_law 625 = .ok (.iload_n 3, 1) := by decide +kernel
theorem dL_law_626 : decode cL_law 626 = .ok (.iconst 1, 1) := by decide +kernel
theorem dL_law_627 : decode cL_law 627 = .ok (.iadd, 1) := by decide +kernel
theorem dL_law_628 : decode cL_law 628 = .ok (.iaload, 1) := by decide +kernel
theorem dL_law_629 : decode cL_law 629 = .ok (.aload_n 0, 1) := by decide +kernel
theorem dL_law_630 : decode cL_law 630 = .ok (.iload_n 3, 1) := by decide +kernel
theorem dL_law_631 : decode cL_law 631 = .ok (.iconst 2, 1) := by decide +kernel
theorem dL_law_632 : decode cL_law 632 = .ok (.iadd, 1) := by decide +kernel
theorem dL_law_633 : decode cL_law 633 = .ok (.iaload, 1) := by decide +kernel
theorem dL_law_634 : decode cL_law 634 = .ok (.invokevirtual 78, 3) := by decide +kernel
theorem dL_law_637 : decode cL_law 637 = .ok (.aload_n 2, 1) := by decide +kernel
theorem dL_law_638 : decode cL_law 638 = .ok (.aload_n 0, 1) := by decide +kernel
theorem dL_law_639 : decode cL_law 639 = .ok (.iload_n 3, 1) := by decide +kernel
theorem dL_law_640 : decode cL_law 640 = .ok (.iconst 1, 1) := by decide +kernel
theorem dL_law_641 : decode cL_law 641 = .ok (.iadd, 1) := by decide +kernel
theorem dL_law_642 : decode cL_law 642 = .ok (.iaload, 1) := by decide +kernel
theorem dL_law_643 : decode cL_law 643 = .ok (.aload_n 0, 1) := by decide +kernel
theorem dL_law_644 : decode cL_law 644 = .ok (.iload_n 3, 1) := by decide +kernel
theorem dL_law_645 : decode cL_law 645 = .ok (.iconst 2, 1) := by decide +kernel
theorem dL_law_646 : decode cL_law 646 = .ok (.iadd, 1) := by decide +kernel
theorem dL_law_647 : decode cL_law 647 = .ok (.iaload, 1) := by decide +kernel
theorem dL_law_648 : decode cL_law 648 = .ok (.invokevirtual 81, 3) := by decide +kernel
theorem dL_law_651 : decode cL_law 651 = .ok (.if_icmp .eq 242, 3) := by decide +kernel
theorem dL_law_654 : decode cL_law 654 = .ok (.iconst 0, 1) := by decide +kernel
theorem dL_law_655 : decode cL_law 655 = .ok (.ireturn, 1) := by decide +kernel
theorem dL_law_656 : decode cL_law 656 = .ok (.aload_n 1, 1) := by decide +kernel
theorem dL_law_657 : decode cL_law 657 = .ok (.aload_n 0, 1) := by decide +kernel
theorem dL_law_658 : decode cL_law 658 = .ok (.iload_n 3, 1) := by decide +kernel
theorem dL_law_659 : decode cL_law 659 = .ok (.iconst 1, 1) := by decide +kernel
theorem dL_law_660 : decode cL_law 660 = .ok (.iadd, 1) := by decide +kernel
theorem dL_law_661 : decode cL_law 661 = .ok (.iaload, 1) := by decide +kernel
theorem dL_law_662 : decode cL_law 662 = .ok (.invokevirtual 82, 3) := by decide +kernel
theorem dL_law_665 : decode cL_law 665 = .ok (.aload_n 2, 1) := by decide +kernel
theorem dL_law_666 : decode cL_law 666 = .ok (.aload_n 0, 1) := by decide +kernel
theorem dL_law_667 : decode cL_law 667 = .ok (.iload_n 3, 1) := by decide +kernel
theorem dL_law_668 : decode cL_law 668 = .ok (.iconst 1, 1) := by decide +kernel
theorem dL_law_669 : decode cL_law 669 = .ok (.iadd, 1) := by decide +kernel
theorem dL_law_670 : decode cL_law 670 = .ok (.iaload, 1) := by decide +kernel
theorem dL_law_671 : decode cL_law 671 = .ok (.invokevirtual 85, 3) := by decide +kernel
theorem dL_law_674 : decode cL_law 674 = .ok (.if_icmp .eq 219, 3) := by decide +kernel
theorem dL_law_677 : decode cL_law 677 = .ok (.iconst 0, 1) := by decide +kernel
theorem dL_law_678 : decode cL_law 678 = .ok (.ireturn, 1) := by decide +kernel
theorem dL_law_679 : decode cL_law 679 = .ok (.aload_n 1, 1) := by decide +kernel
theorem dL_law_680 : decode cL_law 680 = .ok (.aload_n 0, 1) := by decide +kernel
theorem dL_law_681 : decode cL_law 681 = .ok (.iload_n 3, 1) := by decide +kernel
theorem dL_law_682 : decode cL_law 682 = .ok (.iconst 1, 1) := by decide +kernel
theorem dL_law_683 : decode cL_law 683 = .ok (.iadd, 1) := by decide +kernel
theorem dL_law_684 : decode cL_law 684 = .ok (.iaload, 1) := by decide +kernel
theorem dL_law_685 : decode cL_law 685 = .ok (.aload_n 0, 1) := by decide +kernel
theorem dL_law_686 : decode cL_law 686 = .ok (.iload_n 3, 1) := by decide +kernel
theorem dL_law_687 : decode cL_law 687 = .ok (.iconst 2, 1) := by decide +kernel
theorem dL_law_688 : decode cL_law 688 = .ok (.iadd, 1) := by decide +kernel
theorem dL_law_689 : decode cL_law 689 = .ok (.iaload, 1) := by decide +kernel
theorem dL_law_690 : decode cL_law 690 = .ok (.aload_n 0, 1) := by decide +kernel
theorem dL_law_691 : decode cL_law 691 = .ok (.iload_n 3, 1) := by decide +kernel
theorem dL_law_692 : decode cL_law 692 = .ok (.iconst 3, 1) := by decide +kernel
theorem dL_law_693 : decode cL_law 693 = .ok (.iadd, 1) := by decide +kernel
theorem dL_law_694 : decode cL_law 694 = .ok (.iaload, 1) := by decide +kernel
theorem dL_law_695 : decode cL_law 695 = .ok (.aload_n 0, 1) := by decide +kernel
theorem dL_law_696 : decode cL_law 696 = .ok (.iload_n 3, 1) := by decide +kernel
theorem dL_law_697 : decode cL_law 697 = .ok (.iconst 4, 1) := by decide +kernel
theorem dL_law_698 : decode cL_law 698 = .ok (.iadd, 1) := by decide +kernel
theorem dL_law_699 : decode cL_law 699 = .ok (.iaload, 1) := by decide +kernel
theorem dL_law_700 : decode cL_law 700 = .ok (.invokevirtual 86, 3) := by decide +kernel
theorem dL_law_703 : decode cL_law 703 = .ok (.aload_n 2, 1) := by decide +kernel
theorem dL_law_704 : decode cL_law 704 = .ok (.aload_n 0, 1) := by decide +kernel
theorem dL_law_705 : decode cL_law 705 = .ok (.iload_n 3, 1) := by decide +kernel
theorem dL_law_706 : decode cL_law 706 = .ok (.iconst 1, 1) := by decide +kernel
theorem dL_law_707 : decode cL_law 707 = .ok (.iadd, 1) := by decide +kernel
theorem dL_law_708 : decode cL_law 708 = .ok (.iaload, 1) := by decide +kernel
theorem dL_law_709 : decode cL_law 709 = .ok (.aload_n 0, 1) := by decide +kernel
theorem dL_law_710 : decode cL_law 710 = .ok (.iload_n 3, 1) := by decide +kernel
theorem dL_law_711 : decode cL_law 711 = .ok (.iconst 2, 1) := by decide +kernel
theorem dL_law_712 : decode cL_law 712 = .ok (.iadd, 1) := by decide +kernel
theorem dL_law_713 : decode cL_law 713 = .ok (.iaload, 1) := by decide +kernel
theorem dL_law_714 : decode cL_law 714 = .ok (.aload_n 0, 1) := by decide +kernel
theorem dL_law_715 : decode cL_law 715 = .ok (.iload_n 3, 1) := by decide +kernel
theorem dL_law_716 : decode cL_law 716 = .ok (.iconst 3, 1) := by decide +kernel
theorem dL_law_717 : decode cL_law 717 = .ok (.iadd, 1) := by decide +kernel
theorem dL_law_718 : decode cL_law 718 = .ok (.iaload, 1) := by decide +kernel
theorem dL_law_719 : decode cL_law 719 = .ok (.aload_n 0, 1) := by decide +kernel
theorem dL_law_720 : decode cL_law 720 = .ok (.iload_n 3, 1) := by decide +kernel
theorem dL_law_721 : decode cL_law 721 = .ok (.iconst 4, 1) := by decide +kernel
theorem dL_law_722 : decode cL_law 722 = .ok (.iadd, 1) := by decide +kernel
theorem dL_law_723 : decode cL_law 723 = .ok (.iaload, 1) := by decide +kernel
theorem dL_law_724 : decode cL_law 724 = .ok (.invokevirtual 89, 3) := by decide +kernel
theorem dL_law_727 : decode cL_law 727 = .ok (.if_icmp .eq 166, 3) := by decide +kernel
theorem dL_law_730 : decode cL_law 730 = .ok (.iconst 0, 1) := by decide +kernel
theorem dL_law_731 : decode cL_law 731 = .ok (.ireturn, 1) := by decide +kernel
theorem dL_law_732 : decode cL_law 732 = .ok (.aload_n 1, 1) := by decide +kernel
theorem dL_law_733 : decode cL_law 733 = .ok (.aload_n 0, 1) := by decide +kernel
theorem dL_law_734 : decode cL_law 734 = .ok (.iload_n 3, 1) := by decide +kernel
theorem dL_law_735 : decode cL_law 735 = .ok (.iconst 1, 1) := by decide +kernel
theorem dL_law_736 : decode cL_law 736 = .ok (.iadd, 1) := by decide +kernel
theorem dL_law_737 : decode cL_law 737 = .ok (.iaload, 1) := by decide +kernel
theorem dL_law_738 : decode cL_law 738 = .ok (.aload_n 0, 1) := by decide +kernel
theorem dL_law_739 : decode cL_law 739 = .ok (.iload_n 3, 1) := by decide +kernel
theorem dL_law_740 : decode cL_law 740 = .ok (.iconst 2, 1) := by decide +kernel
theorem dL_law_741 : decode cL_law 741 = .ok (.iadd, 1) := by decide +kernel
theorem dL_law_742 : decode cL_law 742 = .ok (.iaload, 1) := by decide +kernel
theorem dL_law_743 : decode cL_law 743 = .ok (.aload_n 0, 1) := by decide +kernel
theorem dL_law_744 : decode cL_law 744 = .ok (.iload_n 3, 1) := by decide +kernel
theorem dL_law_745 : decode cL_law 745 = .ok (.iconst 3, 1) := by decide +kernel
theorem dL_law_746 : decode cL_law 746 = .ok (.iadd, 1) := by decide +kernel
theorem dL_law_747 : decode cL_law 747 = .ok (.iaload, 1) := by decide +kernel
theorem dL_law_748 : decode cL_law 748 = .ok (.invokevirtual 90, 3) := by decide +kernel
theorem dL_law_751 : decode cL_law 751 = .ok (.aload_n 2, 1) := by decide +kernel
theorem dL_law_752 : decode cL_law 752 = .ok (.aload_n 0, 1) := by decide +kernel
theorem dL_law_753 : decode cL_law 753 = .ok (.iload_n 3, 1) := by decide +kernel
theorem dL_law_754 : decode cL_law 754 = .ok (.iconst 1, 1) := by decide +kernel
theorem dL_law_755 : decode cL_law 755 = .ok (.iadd, 1) := by decide +kernel
theorem dL_law_756 : decode cL_law 756 = .ok (.iaload, 1) := by decide +kernel
theorem dL_law_757 : decode cL_law 757 = .ok (.aload_n 0, 1) := by decide +kernel
theorem dL_law_758 : decode cL_law 758 = .ok (.iload_n 3, 1) := by decide +kernel
theorem dL_law_759 : decode cL_law 759 = .ok (.iconst 2, 1) := by decide +kernel
theorem dL_law_760 : decode cL_law 760 = .ok (.iadd, 1) := by decide +kernel
theorem dL_law_761 : decode cL_law 761 = .ok (.iaload, 1) := by decide +kernel
theorem dL_law_762 : decode cL_law 762 = .ok (.aload_n 0, 1) := by decide +kernel
theorem dL_law_763 : decode cL_law 763 = .ok (.iload_n 3, 1) := by decide +kernel
theorem dL_law_764 : decode cL_law 764 = .ok (.iconst 3, 1) := by decide +kernel
theorem dL_law_765 : decode cL_law 765 = .ok (.iadd, 1) := by decide +kernel
theorem dL_law_766 : decode cL_law 766 = .ok (.iaload, 1) := by decide +kernel
theorem dL_law_767 : decode cL_law 767 = .ok (.invokevirtual 93, 3) := by decide +kernel
theorem dL_law_770 : decode cL_law 770 = .ok (.if_icmp .eq 123, 3) := by decide +kernel
theorem dL_law_773 : decode cL_law 773 = .ok (.iconst 0, 1) := by decide +kernel
theorem dL_law_774 : decode cL_law 774 = .ok (.ireturn, 1) := by decide +kernel
theorem dL_law_775 : decode cL_law 775 = .ok (.aload_n 1, 1) := by decide +kernel
theorem dL_law_776 : decode cL_law 776 = .ok (.invokevirtual 94, 3) := by decide +kernel
theorem dL_law_779 : decode cL_law 779 = .ok (.aload_n 2, 1) := by decide +kernel
theorem dL_law_780 : decode cL_law 780 = .ok (.invokevirtual 97, 3) := by decide +kernel
theorem dL_law_783 : decode cL_law 783 = .ok (.if_icmp .eq 110, 3) := by decide +kernel
theorem dL_law_786 : decode cL_law 786 = .ok (.iconst 0, 1) := by decide +kernel
theorem dL_law_787 : decode cL_law 787 = .ok (.ireturn, 1) := by decide +kernel
theorem dL_law_788 : decode cL_law 788 = .ok (.aload_n 1, 1) := by decide +kernel
theorem dL_law_789 : decode cL_law 789 = .ok (.aload_n 0, 1) := by decide +kernel
theorem dL_law_790 : decode cL_law 790 = .ok (.iload_n 3, 1) := by decide +kernel
theorem dL_law_791 : decode cL_law 791 = .ok (.iconst 1, 1) := by decide +kernel
theorem dL_law_792 : decode cL_law 792 = .ok (.iadd, 1) := by decide +kernel
theorem dL_law_793 : decode cL_law 793 = .ok (.iaload, 1) := by decide +kernel
theorem dL_law_794 : decode cL_law 794 = .ok (.invokevirtual 98, 3) := by decide +kernel
theorem dL_law_797 : decode cL_law 797 = .ok (.aload_n 2, 1) := by decide +kernel
theorem dL_law_798 : decode cL_law 798 = .ok (.aload_n 0, 1) := by decide +kernel
theorem dL_law_799 : decode cL_law 799 = .ok (.iload_n 3, 1) := by decide +kernel
theorem dL_law_800 : decode cL_law 800 = .ok (.iconst 1, 1) := by decide +kernel
theorem dL_law_801 : decode cL_law 801 = .ok (.iadd, 1) := by decide +kernel
theorem dL_law_802 : decode cL_law 802 = .ok (.iaload, 1) := by decide +kernel
theorem dL_law_803 : decode cL_law 803 = .ok (.invokevirtual 101, 3) := by decide +kernel
theorem dL_law_806 : decode cL_law 806 = .ok (.if_icmp .eq 87, 3) := by decide +kernel
theorem dL_law_809 : decode cL_law 809 = .ok (.iconst 0, 1) := by decide +kernel
theorem dL_law_810 : decode cL_law 810 = .ok (.ireturn, 1) := by decide +kernel
theorem dL_law_811 : decode cL_law 811 = .ok (.aload_n 1, 1) := by decide +kernel
theorem dL_law_812 : decode cL_law 812 = .ok (.invokevirtual 102, 3) := by decide +kernel
theorem dL_law_815 : decode cL_law 815 = .ok (.aload_n 2, 1) := by decide +kernel
theorem dL_law_816 : decode cL_law 816 = .ok (.invokevirtual 105, 3) := by decide +kernel
theorem dL_law_819 : decode cL_law 819 = .ok (.if_icmp .eq 74, 3) := by decide +kernel
theorem dL_law_822 : decode cL_law 822 = .ok (.iconst 0, 1) := by decide +kernel
theorem dL_law_823 : decode cL_law 823 = .ok (.ireturn, 1) := by decide +kernel
theorem dL_law_824 : decode cL_law 824 = .ok (.aload_n 1, 1) := by decide +kernel
theorem dL_law_825 : decode cL_law 825 = .ok (.aload_n 0, 1) := by decide +kernel
theorem dL_law_826 : decode cL_law 826 = .ok (.iload_n 3, 1) := by decide +kernel
theorem dL_law_827 : decode cL_law 827 = .ok (.iconst 1, 1) := by decide +kernel
theorem dL_law_828 : decode cL_law 828 = .ok (.iadd, 1) := by decide +kernel
theorem dL_law_829 : decode cL_law 829 = .ok (.iaload, 1) := by decide +kernel
theorem dL_law_830 : decode cL_law 830 = .ok (.invokevirtual 106, 3) := by decide +kernel
theorem dL_law_833 : decode cL_law 833 = .ok (.aload_n 2, 1) := by decide +kernel
theorem dL_law_834 : decode cL_law 834 = .ok (.aload_n 0, 1) := by decide +kernel
theorem dL_law_835 : decode cL_law 835 = .ok (.iload_n 3, 1) := by decide +kernel
theorem dL_law_836 : decode cL_law 836 = .ok (.iconst 1, 1) := by decide +kernel
theorem dL_law_837 : decode cL_law 837 = .ok (.iadd, 1) := by decide +kernel
theorem dL_law_838 : decode cL_law 838 = .ok (.iaload, 1) := by decide +kernel
theorem dL_law_839 : decode cL_law 839 = .ok (.invokevirtual 109, 3) := by decide +kernel
theorem dL_law_842 : decode cL_law 842 = .ok (.if_icmp .eq 51, 3) := by decide +kernel
theorem dL_law_845 : decode cL_law 845 = .ok (.iconst 0, 1) := by decide +kernel
theorem dL_law_846 : decode cL_law 846 = .ok (.ireturn, 1) := by decide +kernel
theorem dL_law_847 : decode cL_law 847 = .ok (.aload_n 1, 1) := by decide +kernel
theorem dL_law_848 : decode cL_law 848 = .ok (.aload_n 0, 1) := by decide +kernel
theorem dL_law_849 : decode cL_law 849 = .ok (.iload_n 3, 1) := by decide +kernel
theorem dL_law_850 : decode cL_law 850 = .ok (.iconst 1, 1) := by decide +kernel
theorem dL_law_851 : decode cL_law 851 = .ok (.iadd, 1) := by decide +kernel
theorem dL_law_852 : decode cL_law 852 = .ok (.iaload, 1) := by decide +kernel
theorem dL_law_853 : decode cL_law 853 = .ok (.invokevirtual 110, 3) := by decide +kernel
theorem dL_law_856 : decode cL_law 856 = .ok (.aload_n 2, 1) := by decide +kernel
theorem dL_law_857 : decode cL_law 857 = .ok (.aload_n 0, 1) := by decide +kernel
theorem dL_law_858 : decode cL_law 858 = .ok (.iload_n 3, 1) := by decide +kernel
theorem dL_law_859 : decode cL_law 859 = .ok (.iconst 1, 1) := by decide +kernel
theorem dL_law_860 : decode cL_law 860 = .ok (.iadd, 1) := by decide +kernel
theorem dL_law_861 : decode cL_law 861 = .ok (.iaload, 1) := by decide +kernel
theorem dL_law_862 : decode cL_law 862 = .ok (.invokevirtual 113, 3) := by decide +kernel
theorem dL_law_865 : decode cL_law 865 = .ok (.if_icmp .eq 28, 3) := by decide +kernel
theorem dL_law_868 : decode cL_law 868 = .ok (.iconst 0, 1) := by decide +kernel
theorem dL_law_869 : decode cL_law 869 = .ok (.ireturn, 1) := by decide +kernel
theorem dL_law_870 : decode cL_law 870 = .ok (.aload_n 1, 1) := by decide +kernel
theorem dL_law_871 : decode cL_law 871 = .ok (.aload_n 0, 1) := by decide +kernel
theorem dL_law_872 : decode cL_law 872 = .ok (.iload_n 3, 1) := by decide +kernel
theorem dL_law_873 : decode cL_law 873 = .ok (.iconst 1, 1) := by decide +kernel
theorem dL_law_874 : decode cL_law 874 = .ok (.iadd, 1) := by decide +kernel
theorem dL_law_875 : decode cL_law 875 = .ok (.iaload, 1) := by decide +kernel
theorem dL_law_876 : decode cL_law 876 = .ok (.invokevirtual 114, 3) := by decide +kernel
theorem dL_law_879 : decode cL_law 879 = .ok (.aload_n 2, 1) := by decide +kernel
theorem dL_law_880 : decode cL_law 880 = .ok (.aload_n 0, 1) := by decide +kernel
theorem dL_law_881 : decode cL_law 881 = .ok (.iload_n 3, 1) := by decide +kernel
theorem dL_law_882 : decode cL_law 882 = .ok (.iconst 1, 1) := by decide +kernel
theorem dL_law_883 : decode cL_law 883 = .ok (.iadd, 1) := by decide +kernel
theorem dL_law_884 : decode cL_law 884 = .ok (.iaload, 1) := by decide +kernel
theorem dL_law_885 : decode cL_law 885 = .ok (.invokevirtual 117, 3) := by decide +kernel
theorem dL_law_888 : decode cL_law 888 = .ok (.if_icmp .eq 5, 3) := by decide +kernel
theorem dL_law_891 : decode cL_law 891 = .ok (.iconst 0, 1) := by decide +kernel
theorem dL_law_892 : decode cL_law 892 = .ok (.ireturn, 1) := by decide +kernel
theorem dL_law_893 : decode cL_law 893 = .ok (.iinc 3 5, 3) := by decide +kernel
theorem dL_law_896 : decode cL_law 896 = .ok (.goto (-878), 3) := by decide +kernel
theorem dL_law_899 : decode cL_law 899 = .ok (.iconst 1, 1) := by decide +kernel
theorem dL_law_900 : decode cL_law 900 = .ok (.ireturn, 1) := by decide +kernel
abbrev vwCl : List vw_C := [(RX0, TX0, 8), (RX1, TX1, 8), (RX2, TX2, 5), (RX3, TX3, 12), (RX4, TX4, 6), (RX5, TX5, 8), (RX6, TX6, 22)]
end
section
theorem zz_end : True := trivial
end
