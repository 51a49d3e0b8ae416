-- ===== PART A: goes FIRST, ahead of the names: the tables' words, and 'selects' of the private methods out of them =====
/-- a private method of a class that the tables say can be made, by its rows of tables_1 -/
def lw_okq (q : MethodName × Nat) : Prop := (q.1.cls ≠ "java/lang/invoke/MethodHandle" ∧ q.1.cls ≠ "java/lang/invoke/VarHandle") ∧ Cond.instantiable q.1.cls q.2 ∈ tables_1 ∧ Cond.privateMethod q.1 ∈ tables_1 ∧ Cond.instanceMethod q.1 ∈ tables_1
theorem lw_p0 : lw_okq (⟨"ChordHerds", "tapeFour", "(I)V"⟩, 17) := ⟨⟨by decide +kernel, by decide +kernel⟩, List.mem_of_getElem? (i := 18) (by decide +kernel), List.mem_of_getElem? (i := 488) (by decide +kernel), List.mem_of_getElem? (i := 489) (by decide +kernel)⟩
theorem lw_p1 : lw_okq (⟨"ChordHerds$Reader", "skipBlanks", "()V"⟩, 7) := ⟨⟨by decide +kernel, by decide +kernel⟩, List.mem_of_getElem? (i := 32) (by decide +kernel), List.mem_of_getElem? (i := 518) (by decide +kernel), List.mem_of_getElem? (i := 519) (by decide +kernel)⟩
theorem lw_p2 : lw_okq (⟨"ChordHerds$Reader", "readToken", "()I"⟩, 7) := ⟨⟨by decide +kernel, by decide +kernel⟩, List.mem_of_getElem? (i := 32) (by decide +kernel), List.mem_of_getElem? (i := 522) (by decide +kernel), List.mem_of_getElem? (i := 523) (by decide +kernel)⟩
theorem lw_p3 : lw_okq (⟨"ChordHerds$Reader", "readWord", "()I"⟩, 7) := ⟨⟨by decide +kernel, by decide +kernel⟩, List.mem_of_getElem? (i := 32) (by decide +kernel), List.mem_of_getElem? (i := 530) (by decide +kernel), List.mem_of_getElem? (i := 531) (by decide +kernel)⟩
theorem lw_p4 : lw_okq (⟨"ChordHerds$Reader", "readNumber", "()I"⟩, 7) := ⟨⟨by decide +kernel, by decide +kernel⟩, List.mem_of_getElem? (i := 32) (by decide +kernel), List.mem_of_getElem? (i := 537) (by decide +kernel), List.mem_of_getElem? (i := 538) (by decide +kernel)⟩
theorem lw_p5 : lw_okq (⟨"ChordHerds$Teller", "isAtEnd", "()Z"⟩, 6) := ⟨⟨by decide +kernel, by decide +kernel⟩, List.mem_of_getElem? (i := 26) (by decide +kernel), List.mem_of_getElem? (i := 543) (by decide +kernel), List.mem_of_getElem? (i := 544) (by decide +kernel)⟩
theorem lw_p6 : lw_okq (⟨"ChordHerds$Teller", "tellLine", "(LChordHerds$Valley;)Z"⟩, 6) := ⟨⟨by decide +kernel, by decide +kernel⟩, List.mem_of_getElem? (i := 26) (by decide +kernel), List.mem_of_getElem? (i := 547) (by decide +kernel), List.mem_of_getElem? (i := 548) (by decide +kernel)⟩
theorem lw_p7 : lw_okq (⟨"ChordHerds$Teller", "take", "(I)Z"⟩, 6) := ⟨⟨by decide +kernel, by decide +kernel⟩, List.mem_of_getElem? (i := 26) (by decide +kernel), List.mem_of_getElem? (i := 551) (by decide +kernel), List.mem_of_getElem? (i := 552) (by decide +kernel)⟩
theorem lw_p8 : lw_okq (⟨"ChordHerds$Teller", "refuse", "(I)Z"⟩, 6) := ⟨⟨by decide +kernel, by decide +kernel⟩, List.mem_of_getElem? (i := 26) (by decide +kernel), List.mem_of_getElem? (i := 555) (by decide +kernel), List.mem_of_getElem? (i := 556) (by decide +kernel)⟩
theorem lw_p9 : lw_okq (⟨"ChordHerds$Teller", "tellHerd", "(LChordHerds$Valley;)Z"⟩, 6) := ⟨⟨by decide +kernel, by decide +kernel⟩, List.mem_of_getElem? (i := 26) (by decide +kernel), List.mem_of_getElem? (i := 560) (by decide +kernel), List.mem_of_getElem? (i := 561) (by decide +kernel)⟩
theorem lw_p10 : lw_okq (⟨"ChordHerds$Teller", "takeNewName", "([JI)Z"⟩, 6) := ⟨⟨by decide +kernel, by decide +kernel⟩, List.mem_of_getElem? (i := 26) (by decide +kernel), List.mem_of_getElem? (i := 564) (by decide +kernel), List.mem_of_getElem? (i := 565) (by decide +kernel)⟩
theorem lw_p11 : lw_okq (⟨"ChordHerds$Teller", "takeName", "()Z"⟩, 6) := ⟨⟨by decide +kernel, by decide +kernel⟩, List.mem_of_getElem? (i := 26) (by decide +kernel), List.mem_of_getElem? (i := 568) (by decide +kernel), List.mem_of_getElem? (i := 569) (by decide +kernel)⟩
theorem lw_p12 : lw_okq (⟨"ChordHerds$Teller", "tellBeast", "(LChordHerds$Valley;)Z"⟩, 6) := ⟨⟨by decide +kernel, by decide +kernel⟩, List.mem_of_getElem? (i := 26) (by decide +kernel), List.mem_of_getElem? (i := 590) (by decide +kernel), List.mem_of_getElem? (i := 591) (by decide +kernel)⟩
theorem lw_p13 : lw_okq (⟨"ChordHerds$Teller", "takeWord", "(J)Z"⟩, 6) := ⟨⟨by decide +kernel, by decide +kernel⟩, List.mem_of_getElem? (i := 26) (by decide +kernel), List.mem_of_getElem? (i := 594) (by decide +kernel), List.mem_of_getElem? (i := 595) (by decide +kernel)⟩
theorem lw_p14 : lw_okq (⟨"ChordHerds$Teller", "tellBell", "(LChordHerds$Valley;JI)Z"⟩, 6) := ⟨⟨by decide +kernel, by decide +kernel⟩, List.mem_of_getElem? (i := 26) (by decide +kernel), List.mem_of_getElem? (i := 598) (by decide +kernel), List.mem_of_getElem? (i := 599) (by decide +kernel)⟩
theorem lw_p15 : lw_okq (⟨"ChordHerds$Teller", "takeNumber", "(II)Z"⟩, 6) := ⟨⟨by decide +kernel, by decide +kernel⟩, List.mem_of_getElem? (i := 26) (by decide +kernel), List.mem_of_getElem? (i := 602) (by decide +kernel), List.mem_of_getElem? (i := 603) (by decide +kernel)⟩
def lw_privs_1 : List (MethodName × Nat) := [(⟨"ChordHerds", "tapeFour", "(I)V"⟩, 17), (⟨"ChordHerds$Reader", "skipBlanks", "()V"⟩, 7), (⟨"ChordHerds$Reader", "readToken", "()I"⟩, 7), (⟨"ChordHerds$Reader", "readWord", "()I"⟩, 7), (⟨"ChordHerds$Reader", "readNumber", "()I"⟩, 7), (⟨"ChordHerds$Teller", "isAtEnd", "()Z"⟩, 6), (⟨"ChordHerds$Teller", "tellLine", "(LChordHerds$Valley;)Z"⟩, 6), (⟨"ChordHerds$Teller", "take", "(I)Z"⟩, 6), (⟨"ChordHerds$Teller", "refuse", "(I)Z"⟩, 6), (⟨"ChordHerds$Teller", "tellHerd", "(LChordHerds$Valley;)Z"⟩, 6), (⟨"ChordHerds$Teller", "takeNewName", "([JI)Z"⟩, 6), (⟨"ChordHerds$Teller", "takeName", "()Z"⟩, 6), (⟨"ChordHerds$Teller", "tellBeast", "(LChordHerds$Valley;)Z"⟩, 6), (⟨"ChordHerds$Teller", "takeWord", "(J)Z"⟩, 6), (⟨"ChordHerds$Teller", "tellBell", "(LChordHerds$Valley;JI)Z"⟩, 6), (⟨"ChordHerds$Teller", "takeNumber", "(II)Z"⟩, 6)]
theorem lw_r1 : ∀ q ∈ lw_privs_1, lw_okq q := List.forall_mem_cons.mpr ⟨lw_p0, List.forall_mem_cons.mpr ⟨lw_p1, List.forall_mem_cons.mpr ⟨lw_p2, List.forall_mem_cons.mpr ⟨lw_p3, List.forall_mem_cons.mpr ⟨lw_p4, List.forall_mem_cons.mpr ⟨lw_p5, List.forall_mem_cons.mpr ⟨lw_p6, List.forall_mem_cons.mpr ⟨lw_p7, List.forall_mem_cons.mpr ⟨lw_p8, List.forall_mem_cons.mpr ⟨lw_p9, List.forall_mem_cons.mpr ⟨lw_p10, List.forall_mem_cons.mpr ⟨lw_p11, List.forall_mem_cons.mpr ⟨lw_p12, List.forall_mem_cons.mpr ⟨lw_p13, List.forall_mem_cons.mpr ⟨lw_p14, List.forall_mem_cons.mpr ⟨lw_p15, fun _ h => absurd h List.not_mem_nil⟩⟩⟩⟩⟩⟩⟩⟩⟩⟩⟩⟩⟩⟩⟩⟩
theorem lw_p16 : lw_okq (⟨"ChordHerds$Teller", "tellStranger", "(LChordHerds$Valley;)Z"⟩, 6) := ⟨⟨by decide +kernel, by decide +kernel⟩, List.mem_of_getElem? (i := 26) (by decide +kernel), List.mem_of_getElem? (i := 610) (by decide +kernel), List.mem_of_getElem? (i := 611) (by decide +kernel)⟩
theorem lw_p17 : lw_okq (⟨"ChordHerds$Teller", "tellEar", "(LChordHerds$Valley;)Z"⟩, 6) := ⟨⟨by decide +kernel, by decide +kernel⟩, List.mem_of_getElem? (i := 26) (by decide +kernel), List.mem_of_getElem? (i := 614) (by decide +kernel), List.mem_of_getElem? (i := 615) (by decide +kernel)⟩
theorem lw_p18 : lw_okq (⟨"ChordHerds$Teller", "tellBeside", "(LChordHerds$Valley;)Z"⟩, 6) := ⟨⟨by decide +kernel, by decide +kernel⟩, List.mem_of_getElem? (i := 26) (by decide +kernel), List.mem_of_getElem? (i := 622) (by decide +kernel), List.mem_of_getElem? (i := 623) (by decide +kernel)⟩
theorem lw_p19 : lw_okq (⟨"ChordHerds$Teller", "takeBeast", "(LChordHerds$Valley;)I"⟩, 6) := ⟨⟨by decide +kernel, by decide +kernel⟩, List.mem_of_getElem? (i := 26) (by decide +kernel), List.mem_of_getElem? (i := 626) (by decide +kernel), List.mem_of_getElem? (i := 627) (by decide +kernel)⟩
theorem lw_p20 : lw_okq (⟨"ChordHerds$Bounds", "narrow", "(LChordHerds$Entries;I)V"⟩, 6) := ⟨⟨by decide +kernel, by decide +kernel⟩, List.mem_of_getElem? (i := 247) (by decide +kernel), List.mem_of_getElem? (i := 776) (by decide +kernel), List.mem_of_getElem? (i := 777) (by decide +kernel)⟩
theorem lw_p21 : lw_okq (⟨"ChordHerds$Sets", "begin", "(LChordHerds$Valley;LChordHerds$Bounds;)V"⟩, 14) := ⟨⟨by decide +kernel, by decide +kernel⟩, List.mem_of_getElem? (i := 275) (by decide +kernel), List.mem_of_getElem? (i := 790) (by decide +kernel), List.mem_of_getElem? (i := 791) (by decide +kernel)⟩
theorem lw_p22 : lw_okq (⟨"ChordHerds$Sets", "weigh", "(LChordHerds$Valley;LChordHerds$Bounds;II)V"⟩, 14) := ⟨⟨by decide +kernel, by decide +kernel⟩, List.mem_of_getElem? (i := 275) (by decide +kernel), List.mem_of_getElem? (i := 795) (by decide +kernel), List.mem_of_getElem? (i := 796) (by decide +kernel)⟩
theorem lw_p23 : lw_okq (⟨"ChordHerds$Sets", "add", "(II[ILChordHerds$Bounds;)V"⟩, 14) := ⟨⟨by decide +kernel, by decide +kernel⟩, List.mem_of_getElem? (i := 275) (by decide +kernel), List.mem_of_getElem? (i := 800) (by decide +kernel), List.mem_of_getElem? (i := 801) (by decide +kernel)⟩
theorem lw_p24 : lw_okq (⟨"ChordHerds$Sets", "anyCanBe", "(LChordHerds$Bounds;)Z"⟩, 14) := ⟨⟨by decide +kernel, by decide +kernel⟩, List.mem_of_getElem? (i := 275) (by decide +kernel), List.mem_of_getElem? (i := 804) (by decide +kernel), List.mem_of_getElem? (i := 805) (by decide +kernel)⟩
theorem lw_p25 : lw_okq (⟨"ChordHerds$Sets", "choose", "(IILChordHerds$Bounds;)V"⟩, 14) := ⟨⟨by decide +kernel, by decide +kernel⟩, List.mem_of_getElem? (i := 275) (by decide +kernel), List.mem_of_getElem? (i := 812) (by decide +kernel), List.mem_of_getElem? (i := 813) (by decide +kernel)⟩
theorem lw_p26 : lw_okq (⟨"ChordHerds$Sets", "allSeen", "(II)Z"⟩, 14) := ⟨⟨by decide +kernel, by decide +kernel⟩, List.mem_of_getElem? (i := 275) (by decide +kernel), List.mem_of_getElem? (i := 816) (by decide +kernel), List.mem_of_getElem? (i := 817) (by decide +kernel)⟩
theorem lw_p27 : lw_okq (⟨"ChordHerds$Sets", "keep", "(I)V"⟩, 14) := ⟨⟨by decide +kernel, by decide +kernel⟩, List.mem_of_getElem? (i := 275) (by decide +kernel), List.mem_of_getElem? (i := 820) (by decide +kernel), List.mem_of_getElem? (i := 821) (by decide +kernel)⟩
theorem lw_p28 : lw_okq (⟨"ChordHerds$Sets", "spread", "(I)I"⟩, 14) := ⟨⟨by decide +kernel, by decide +kernel⟩, List.mem_of_getElem? (i := 275) (by decide +kernel), List.mem_of_getElem? (i := 824) (by decide +kernel), List.mem_of_getElem? (i := 825) (by decide +kernel)⟩
theorem lw_p29 : lw_okq (⟨"ChordHerds$Parting", "isSo", "(ILChordHerds$Valley;LChordHerds$Bounds;I)Z"⟩, 11) := ⟨⟨by decide +kernel, by decide +kernel⟩, List.mem_of_getElem? (i := 330) (by decide +kernel), List.mem_of_getElem? (i := 840) (by decide +kernel), List.mem_of_getElem? (i := 841) (by decide +kernel)⟩
theorem lw_p30 : lw_okq (⟨"ChordHerds$Parting", "gather", "(ILChordHerds$Valley;)V"⟩, 11) := ⟨⟨by decide +kernel, by decide +kernel⟩, List.mem_of_getElem? (i := 330) (by decide +kernel), List.mem_of_getElem? (i := 855) (by decide +kernel), List.mem_of_getElem? (i := 856) (by decide +kernel)⟩
theorem lw_p31 : lw_okq (⟨"ChordHerds$Parting", "countStrayed", "(ILChordHerds$Valley;)I"⟩, 11) := ⟨⟨by decide +kernel, by decide +kernel⟩, List.mem_of_getElem? (i := 330) (by decide +kernel), List.mem_of_getElem? (i := 859) (by decide +kernel), List.mem_of_getElem? (i := 860) (by decide +kernel)⟩
def lw_privs_2 : List (MethodName × Nat) := [(⟨"ChordHerds$Teller", "tellStranger", "(LChordHerds$Valley;)Z"⟩, 6), (⟨"ChordHerds$Teller", "tellEar", "(LChordHerds$Valley;)Z"⟩, 6), (⟨"ChordHerds$Teller", "tellBeside", "(LChordHerds$Valley;)Z"⟩, 6), (⟨"ChordHerds$Teller", "takeBeast", "(LChordHerds$Valley;)I"⟩, 6), (⟨"ChordHerds$Bounds", "narrow", "(LChordHerds$Entries;I)V"⟩, 6), (⟨"ChordHerds$Sets", "begin", "(LChordHerds$Valley;LChordHerds$Bounds;)V"⟩, 14), (⟨"ChordHerds$Sets", "weigh", "(LChordHerds$Valley;LChordHerds$Bounds;II)V"⟩, 14), (⟨"ChordHerds$Sets", "add", "(II[ILChordHerds$Bounds;)V"⟩, 14), (⟨"ChordHerds$Sets", "anyCanBe", "(LChordHerds$Bounds;)Z"⟩, 14), (⟨"ChordHerds$Sets", "choose", "(IILChordHerds$Bounds;)V"⟩, 14), (⟨"ChordHerds$Sets", "allSeen", "(II)Z"⟩, 14), (⟨"ChordHerds$Sets", "keep", "(I)V"⟩, 14), (⟨"ChordHerds$Sets", "spread", "(I)I"⟩, 14), (⟨"ChordHerds$Parting", "isSo", "(ILChordHerds$Valley;LChordHerds$Bounds;I)Z"⟩, 11), (⟨"ChordHerds$Parting", "gather", "(ILChordHerds$Valley;)V"⟩, 11), (⟨"ChordHerds$Parting", "countStrayed", "(ILChordHerds$Valley;)I"⟩, 11)]
theorem lw_r2 : ∀ q ∈ lw_privs_2, lw_okq q := List.forall_mem_cons.mpr ⟨lw_p16, List.forall_mem_cons.mpr ⟨lw_p17, List.forall_mem_cons.mpr ⟨lw_p18, List.forall_mem_cons.mpr ⟨lw_p19, List.forall_mem_cons.mpr ⟨lw_p20, List.forall_mem_cons.mpr ⟨lw_p21, List.forall_mem_cons.mpr ⟨lw_p22, List.forall_mem_cons.mpr ⟨lw_p23, List.forall_mem_cons.mpr ⟨lw_p24, List.forall_mem_cons.mpr ⟨lw_p25, List.forall_mem_cons.mpr ⟨lw_p26, List.forall_mem_cons.mpr ⟨lw_p27, List.forall_mem_cons.mpr ⟨lw_p28, List.forall_mem_cons.mpr ⟨lw_p29, List.forall_mem_cons.mpr ⟨lw_p30, List.forall_mem_cons.mpr ⟨lw_p31, fun _ h => absurd h List.not_mem_nil⟩⟩⟩⟩⟩⟩⟩⟩⟩⟩⟩⟩⟩⟩⟩⟩
theorem lw_p32 : lw_okq (⟨"ChordHerds", "isSoWith", "(IIII)Z"⟩, 17) := ⟨⟨by decide +kernel, by decide +kernel⟩, List.mem_of_getElem? (i := 18) (by decide +kernel), List.mem_of_getElem? (i := 876) (by decide +kernel), List.mem_of_getElem? (i := 877) (by decide +kernel)⟩
theorem lw_p33 : lw_okq (⟨"ChordHerds$Creeps", "countNotTooMany", "()I"⟩, 10) := ⟨⟨by decide +kernel, by decide +kernel⟩, List.mem_of_getElem? (i := 379) (by decide +kernel), List.mem_of_getElem? (i := 897) (by decide +kernel), List.mem_of_getElem? (i := 898) (by decide +kernel)⟩
theorem lw_p34 : lw_okq (⟨"ChordHerds$Creeps", "seekLeast", "(II[I)V"⟩, 10) := ⟨⟨by decide +kernel, by decide +kernel⟩, List.mem_of_getElem? (i := 379) (by decide +kernel), List.mem_of_getElem? (i := 902) (by decide +kernel), List.mem_of_getElem? (i := 903) (by decide +kernel)⟩
theorem lw_p35 : lw_okq (⟨"ChordHerds$Creeps", "ring", "(III)I"⟩, 10) := ⟨⟨by decide +kernel, by decide +kernel⟩, List.mem_of_getElem? (i := 379) (by decide +kernel), List.mem_of_getElem? (i := 909) (by decide +kernel), List.mem_of_getElem? (i := 910) (by decide +kernel)⟩
theorem lw_p36 : lw_okq (⟨"ChordHerds$Creeps", "seekFarthest", "(II)V"⟩, 10) := ⟨⟨by decide +kernel, by decide +kernel⟩, List.mem_of_getElem? (i := 379) (by decide +kernel), List.mem_of_getElem? (i := 922) (by decide +kernel), List.mem_of_getElem? (i := 923) (by decide +kernel)⟩
theorem lw_p37 : lw_okq (⟨"ChordHerds$Dealer", "dealFrom", "(III[I)Z"⟩, 3) := ⟨⟨by decide +kernel, by decide +kernel⟩, List.mem_of_getElem? (i := 416) (by decide +kernel), List.mem_of_getElem? (i := 936) (by decide +kernel), List.mem_of_getElem? (i := 937) (by decide +kernel)⟩
theorem lw_p38 : lw_okq (⟨"ChordHerds$Dealer", "isKnown", "(II[I)Z"⟩, 3) := ⟨⟨by decide +kernel, by decide +kernel⟩, List.mem_of_getElem? (i := 416) (by decide +kernel), List.mem_of_getElem? (i := 940) (by decide +kernel), List.mem_of_getElem? (i := 941) (by decide +kernel)⟩
theorem lw_p39 : lw_okq (⟨"ChordHerds$Dealer", "twoAreKnown", "(II[I)Z"⟩, 3) := ⟨⟨by decide +kernel, by decide +kernel⟩, List.mem_of_getElem? (i := 416) (by decide +kernel), List.mem_of_getElem? (i := 944) (by decide +kernel), List.mem_of_getElem? (i := 945) (by decide +kernel)⟩
theorem lw_p40 : lw_okq (⟨"ChordHerds$Dealer", "hasLoud", "(III[I)Z"⟩, 3) := ⟨⟨by decide +kernel, by decide +kernel⟩, List.mem_of_getElem? (i := 416) (by decide +kernel), List.mem_of_getElem? (i := 949) (by decide +kernel), List.mem_of_getElem? (i := 950) (by decide +kernel)⟩
theorem lw_p41 : lw_okq (⟨"ChordHerdsModel", "four", "(I)V"⟩, 64) := ⟨⟨by decide +kernel, by decide +kernel⟩, List.mem_of_getElem? (i := 997) (by decide +kernel), List.mem_of_getElem? (i := 1201) (by decide +kernel), List.mem_of_getElem? (i := 1202) (by decide +kernel)⟩
theorem lw_p42 : lw_okq (⟨"ChordHerdsModel", "readAll", "()V"⟩, 64) := ⟨⟨by decide +kernel, by decide +kernel⟩, List.mem_of_getElem? (i := 997) (by decide +kernel), List.mem_of_getElem? (i := 1213) (by decide +kernel), List.mem_of_getElem? (i := 1214) (by decide +kernel)⟩
theorem lw_p43 : lw_okq (⟨"ChordHerdsModel", "token", "()V"⟩, 64) := ⟨⟨by decide +kernel, by decide +kernel⟩, List.mem_of_getElem? (i := 997) (by decide +kernel), List.mem_of_getElem? (i := 1217) (by decide +kernel), List.mem_of_getElem? (i := 1218) (by decide +kernel)⟩
theorem lw_p44 : lw_okq (⟨"ChordHerdsModel", "here", "(I)I"⟩, 64) := ⟨⟨by decide +kernel, by decide +kernel⟩, List.mem_of_getElem? (i := 997) (by decide +kernel), List.mem_of_getElem? (i := 1221) (by decide +kernel), List.mem_of_getElem? (i := 1222) (by decide +kernel)⟩
theorem lw_p45 : lw_okq (⟨"ChordHerdsModel", "readLine", "()V"⟩, 64) := ⟨⟨by decide +kernel, by decide +kernel⟩, List.mem_of_getElem? (i := 997) (by decide +kernel), List.mem_of_getElem? (i := 1231) (by decide +kernel), List.mem_of_getElem? (i := 1232) (by decide +kernel)⟩
theorem lw_p46 : lw_okq (⟨"ChordHerdsModel", "isWord", "(J)Z"⟩, 64) := ⟨⟨by decide +kernel, by decide +kernel⟩, List.mem_of_getElem? (i := 997) (by decide +kernel), List.mem_of_getElem? (i := 1236) (by decide +kernel), List.mem_of_getElem? (i := 1237) (by decide +kernel)⟩
theorem lw_p47 : lw_okq (⟨"ChordHerdsModel", "readHerd", "()V"⟩, 64) := ⟨⟨by decide +kernel, by decide +kernel⟩, List.mem_of_getElem? (i := 997) (by decide +kernel), List.mem_of_getElem? (i := 1240) (by decide +kernel), List.mem_of_getElem? (i := 1241) (by decide +kernel)⟩
def lw_privs_3 : List (MethodName × Nat) := [(⟨"ChordHerds", "isSoWith", "(IIII)Z"⟩, 17), (⟨"ChordHerds$Creeps", "countNotTooMany", "()I"⟩, 10), (⟨"ChordHerds$Creeps", "seekLeast", "(II[I)V"⟩, 10), (⟨"ChordHerds$Creeps", "ring", "(III)I"⟩, 10), (⟨"ChordHerds$Creeps", "seekFarthest", "(II)V"⟩, 10), (⟨"ChordHerds$Dealer", "dealFrom", "(III[I)Z"⟩, 3), (⟨"ChordHerds$Dealer", "isKnown", "(II[I)Z"⟩, 3), (⟨"ChordHerds$Dealer", "twoAreKnown", "(II[I)Z"⟩, 3), (⟨"ChordHerds$Dealer", "hasLoud", "(III[I)Z"⟩, 3), (⟨"ChordHerdsModel", "four", "(I)V"⟩, 64), (⟨"ChordHerdsModel", "readAll", "()V"⟩, 64), (⟨"ChordHerdsModel", "token", "()V"⟩, 64), (⟨"ChordHerdsModel", "here", "(I)I"⟩, 64), (⟨"ChordHerdsModel", "readLine", "()V"⟩, 64), (⟨"ChordHerdsModel", "isWord", "(J)Z"⟩, 64), (⟨"ChordHerdsModel", "readHerd", "()V"⟩, 64)]
theorem lw_r3 : ∀ q ∈ lw_privs_3, lw_okq q := List.forall_mem_cons.mpr ⟨lw_p32, List.forall_mem_cons.mpr ⟨lw_p33, List.forall_mem_cons.mpr ⟨lw_p34, List.forall_mem_cons.mpr ⟨lw_p35, List.forall_mem_cons.mpr ⟨lw_p36, List.forall_mem_cons.mpr ⟨lw_p37, List.forall_mem_cons.mpr ⟨lw_p38, List.forall_mem_cons.mpr ⟨lw_p39, List.forall_mem_cons.mpr ⟨lw_p40, List.forall_mem_cons.mpr ⟨lw_p41, List.forall_mem_cons.mpr ⟨lw_p42, List.forall_mem_cons.mpr ⟨lw_p43, List.forall_mem_cons.mpr ⟨lw_p44, List.forall_mem_cons.mpr ⟨lw_p45, List.forall_mem_cons.mpr ⟨lw_p46, List.forall_mem_cons.mpr ⟨lw_p47, fun _ h => absurd h List.not_mem_nil⟩⟩⟩⟩⟩⟩⟩⟩⟩⟩⟩⟩⟩⟩⟩⟩
theorem lw_p48 : lw_okq (⟨"ChordHerdsModel", "newName", "(II)V"⟩, 64) := ⟨⟨by decide +kernel, by decide +kernel⟩, List.mem_of_getElem? (i := 997) (by decide +kernel), List.mem_of_getElem? (i := 1244) (by decide +kernel), List.mem_of_getElem? (i := 1245) (by decide +kernel)⟩
theorem lw_p49 : lw_okq (⟨"ChordHerdsModel", "isName", "()Z"⟩, 64) := ⟨⟨by decide +kernel, by decide +kernel⟩, List.mem_of_getElem? (i := 997) (by decide +kernel), List.mem_of_getElem? (i := 1248) (by decide +kernel), List.mem_of_getElem? (i := 1249) (by decide +kernel)⟩
theorem lw_p50 : lw_okq (⟨"ChordHerdsModel", "wrong", "(I)V"⟩, 64) := ⟨⟨by decide +kernel, by decide +kernel⟩, List.mem_of_getElem? (i := 997) (by decide +kernel), List.mem_of_getElem? (i := 1260) (by decide +kernel), List.mem_of_getElem? (i := 1261) (by decide +kernel)⟩
theorem lw_p51 : lw_okq (⟨"ChordHerdsModel", "find", "(II)I"⟩, 64) := ⟨⟨by decide +kernel, by decide +kernel⟩, List.mem_of_getElem? (i := 997) (by decide +kernel), List.mem_of_getElem? (i := 1264) (by decide +kernel), List.mem_of_getElem? (i := 1265) (by decide +kernel)⟩
theorem lw_p52 : lw_okq (⟨"ChordHerdsModel", "readBeast", "()V"⟩, 64) := ⟨⟨by decide +kernel, by decide +kernel⟩, List.mem_of_getElem? (i := 997) (by decide +kernel), List.mem_of_getElem? (i := 1268) (by decide +kernel), List.mem_of_getElem? (i := 1269) (by decide +kernel)⟩
theorem lw_p53 : lw_okq (⟨"ChordHerdsModel", "want", "(J)V"⟩, 64) := ⟨⟨by decide +kernel, by decide +kernel⟩, List.mem_of_getElem? (i := 997) (by decide +kernel), List.mem_of_getElem? (i := 1272) (by decide +kernel), List.mem_of_getElem? (i := 1273) (by decide +kernel)⟩
theorem lw_p54 : lw_okq (⟨"ChordHerdsModel", "readBell", "(I)V"⟩, 64) := ⟨⟨by decide +kernel, by decide +kernel⟩, List.mem_of_getElem? (i := 997) (by decide +kernel), List.mem_of_getElem? (i := 1276) (by decide +kernel), List.mem_of_getElem? (i := 1277) (by decide +kernel)⟩
theorem lw_p55 : lw_okq (⟨"ChordHerdsModel", "told", "(JII)I"⟩, 64) := ⟨⟨by decide +kernel, by decide +kernel⟩, List.mem_of_getElem? (i := 997) (by decide +kernel), List.mem_of_getElem? (i := 1280) (by decide +kernel), List.mem_of_getElem? (i := 1281) (by decide +kernel)⟩
theorem lw_p56 : lw_okq (⟨"ChordHerdsModel", "toldNumber", "(II)I"⟩, 64) := ⟨⟨by decide +kernel, by decide +kernel⟩, List.mem_of_getElem? (i := 997) (by decide +kernel), List.mem_of_getElem? (i := 1284) (by decide +kernel), List.mem_of_getElem? (i := 1285) (by decide +kernel)⟩
theorem lw_p57 : lw_okq (⟨"ChordHerdsModel", "readStranger", "()V"⟩, 64) := ⟨⟨by decide +kernel, by decide +kernel⟩, List.mem_of_getElem? (i := 997) (by decide +kernel), List.mem_of_getElem? (i := 1288) (by decide +kernel), List.mem_of_getElem? (i := 1289) (by decide +kernel)⟩
theorem lw_p58 : lw_okq (⟨"ChordHerdsModel", "readEar", "()V"⟩, 64) := ⟨⟨by decide +kernel, by decide +kernel⟩, List.mem_of_getElem? (i := 997) (by decide +kernel), List.mem_of_getElem? (i := 1292) (by decide +kernel), List.mem_of_getElem? (i := 1293) (by decide +kernel)⟩
theorem lw_p59 : lw_okq (⟨"ChordHerdsModel", "readBeside", "()V"⟩, 64) := ⟨⟨by decide +kernel, by decide +kernel⟩, List.mem_of_getElem? (i := 997) (by decide +kernel), List.mem_of_getElem? (i := 1296) (by decide +kernel), List.mem_of_getElem? (i := 1297) (by decide +kernel)⟩
theorem lw_p60 : lw_okq (⟨"ChordHerdsModel", "old", "()I"⟩, 64) := ⟨⟨by decide +kernel, by decide +kernel⟩, List.mem_of_getElem? (i := 997) (by decide +kernel), List.mem_of_getElem? (i := 1300) (by decide +kernel), List.mem_of_getElem? (i := 1301) (by decide +kernel)⟩
theorem lw_p61 : lw_okq (⟨"ChordHerdsModel", "beastSet", "()I"⟩, 64) := ⟨⟨by decide +kernel, by decide +kernel⟩, List.mem_of_getElem? (i := 997) (by decide +kernel), List.mem_of_getElem? (i := 1304) (by decide +kernel), List.mem_of_getElem? (i := 1305) (by decide +kernel)⟩
theorem lw_p62 : lw_okq (⟨"ChordHerdsModel", "isBell", "(I)Z"⟩, 64) := ⟨⟨by decide +kernel, by decide +kernel⟩, List.mem_of_getElem? (i := 997) (by decide +kernel), List.mem_of_getElem? (i := 1316) (by decide +kernel), List.mem_of_getElem? (i := 1317) (by decide +kernel)⟩
theorem lw_p63 : lw_okq (⟨"ChordHerdsModel", "toneNow", "(I)I"⟩, 64) := ⟨⟨by decide +kernel, by decide +kernel⟩, List.mem_of_getElem? (i := 997) (by decide +kernel), List.mem_of_getElem? (i := 1323) (by decide +kernel), List.mem_of_getElem? (i := 1324) (by decide +kernel)⟩
def lw_privs_4 : List (MethodName × Nat) := [(⟨"ChordHerdsModel", "newName", "(II)V"⟩, 64), (⟨"ChordHerdsModel", "isName", "()Z"⟩, 64), (⟨"ChordHerdsModel", "wrong", "(I)V"⟩, 64), (⟨"ChordHerdsModel", "find", "(II)I"⟩, 64), (⟨"ChordHerdsModel", "readBeast", "()V"⟩, 64), (⟨"ChordHerdsModel", "want", "(J)V"⟩, 64), (⟨"ChordHerdsModel", "readBell", "(I)V"⟩, 64), (⟨"ChordHerdsModel", "told", "(JII)I"⟩, 64), (⟨"ChordHerdsModel", "toldNumber", "(II)I"⟩, 64), (⟨"ChordHerdsModel", "readStranger", "()V"⟩, 64), (⟨"ChordHerdsModel", "readEar", "()V"⟩, 64), (⟨"ChordHerdsModel", "readBeside", "()V"⟩, 64), (⟨"ChordHerdsModel", "old", "()I"⟩, 64), (⟨"ChordHerdsModel", "beastSet", "()I"⟩, 64), (⟨"ChordHerdsModel", "isBell", "(I)Z"⟩, 64), (⟨"ChordHerdsModel", "toneNow", "(I)I"⟩, 64)]
theorem lw_r4 : ∀ q ∈ lw_privs_4, lw_okq q := List.forall_mem_cons.mpr ⟨lw_p48, List.forall_mem_cons.mpr ⟨lw_p49, List.forall_mem_cons.mpr ⟨lw_p50, List.forall_mem_cons.mpr ⟨lw_p51, List.forall_mem_cons.mpr ⟨lw_p52, List.forall_mem_cons.mpr ⟨lw_p53, List.forall_mem_cons.mpr ⟨lw_p54, List.forall_mem_cons.mpr ⟨lw_p55, List.forall_mem_cons.mpr ⟨lw_p56, List.forall_mem_cons.mpr ⟨lw_p57, List.forall_mem_cons.mpr ⟨lw_p58, List.forall_mem_cons.mpr ⟨lw_p59, List.forall_mem_cons.mpr ⟨lw_p60, List.forall_mem_cons.mpr ⟨lw_p61, List.forall_mem_cons.mpr ⟨lw_p62, List.forall_mem_cons.mpr ⟨lw_p63, fun _ h => absurd h List.not_mem_nil⟩⟩⟩⟩⟩⟩⟩⟩⟩⟩⟩⟩⟩⟩⟩⟩
theorem lw_p64 : lw_okq (⟨"ChordHerdsModel", "isEar", "(I)Z"⟩, 64) := ⟨⟨by decide +kernel, by decide +kernel⟩, List.mem_of_getElem? (i := 997) (by decide +kernel), List.mem_of_getElem? (i := 1334) (by decide +kernel), List.mem_of_getElem? (i := 1335) (by decide +kernel)⟩
theorem lw_p65 : lw_okq (⟨"ChordHerdsModel", "heard", "(II)I"⟩, 64) := ⟨⟨by decide +kernel, by decide +kernel⟩, List.mem_of_getElem? (i := 997) (by decide +kernel), List.mem_of_getElem? (i := 1341) (by decide +kernel), List.mem_of_getElem? (i := 1342) (by decide +kernel)⟩
theorem lw_p66 : lw_okq (⟨"ChordHerdsModel", "loudAt", "(IIII)I"⟩, 64) := ⟨⟨by decide +kernel, by decide +kernel⟩, List.mem_of_getElem? (i := 997) (by decide +kernel), List.mem_of_getElem? (i := 1345) (by decide +kernel), List.mem_of_getElem? (i := 1346) (by decide +kernel)⟩
theorem lw_p67 : lw_okq (⟨"ChordHerdsModel", "entry", "(IIIIII)I"⟩, 64) := ⟨⟨by decide +kernel, by decide +kernel⟩, List.mem_of_getElem? (i := 997) (by decide +kernel), List.mem_of_getElem? (i := 1386) (by decide +kernel), List.mem_of_getElem? (i := 1387) (by decide +kernel)⟩
theorem lw_p68 : lw_okq (⟨"ChordHerdsModel", "areSo", "(IIIII)Z"⟩, 64) := ⟨⟨by decide +kernel, by decide +kernel⟩, List.mem_of_getElem? (i := 997) (by decide +kernel), List.mem_of_getElem? (i := 1411) (by decide +kernel), List.mem_of_getElem? (i := 1412) (by decide +kernel)⟩
theorem lw_p69 : lw_okq (⟨"ChordHerdsModel", "counts", "(III)Z"⟩, 64) := ⟨⟨by decide +kernel, by decide +kernel⟩, List.mem_of_getElem? (i := 997) (by decide +kernel), List.mem_of_getElem? (i := 1415) (by decide +kernel), List.mem_of_getElem? (i := 1416) (by decide +kernel)⟩
theorem lw_p70 : lw_okq (⟨"ChordHerdsModel", "isSo", "(IIII)Z"⟩, 64) := ⟨⟨by decide +kernel, by decide +kernel⟩, List.mem_of_getElem? (i := 997) (by decide +kernel), List.mem_of_getElem? (i := 1419) (by decide +kernel), List.mem_of_getElem? (i := 1420) (by decide +kernel)⟩
theorem lw_p71 : lw_okq (⟨"ChordHerdsModel", "loudOfSet", "(IIIII)I"⟩, 64) := ⟨⟨by decide +kernel, by decide +kernel⟩, List.mem_of_getElem? (i := 997) (by decide +kernel), List.mem_of_getElem? (i := 1423) (by decide +kernel), List.mem_of_getElem? (i := 1424) (by decide +kernel)⟩
theorem lw_p72 : lw_okq (⟨"ChordHerdsModel", "isParted", "(III)Z"⟩, 64) := ⟨⟨by decide +kernel, by decide +kernel⟩, List.mem_of_getElem? (i := 997) (by decide +kernel), List.mem_of_getElem? (i := 1435) (by decide +kernel), List.mem_of_getElem? (i := 1436) (by decide +kernel)⟩
theorem lw_p73 : lw_okq (⟨"ChordHerdsModel", "mixedOf", "(I)I"⟩, 64) := ⟨⟨by decide +kernel, by decide +kernel⟩, List.mem_of_getElem? (i := 997) (by decide +kernel), List.mem_of_getElem? (i := 1439) (by decide +kernel), List.mem_of_getElem? (i := 1440) (by decide +kernel)⟩
theorem lw_p74 : lw_okq (⟨"ChordHerdsModel", "couldCome", "(IIIII)Z"⟩, 64) := ⟨⟨by decide +kernel, by decide +kernel⟩, List.mem_of_getElem? (i := 997) (by decide +kernel), List.mem_of_getElem? (i := 1447) (by decide +kernel), List.mem_of_getElem? (i := 1448) (by decide +kernel)⟩
theorem lw_p75 : lw_okq (⟨"ChordHerdsModel", "clearTried", "()V"⟩, 64) := ⟨⟨by decide +kernel, by decide +kernel⟩, List.mem_of_getElem? (i := 997) (by decide +kernel), List.mem_of_getElem? (i := 1455) (by decide +kernel), List.mem_of_getElem? (i := 1456) (by decide +kernel)⟩
theorem lw_p76 : lw_okq (⟨"ChordHerdsModel", "areEvenings", "(II)Z"⟩, 64) := ⟨⟨by decide +kernel, by decide +kernel⟩, List.mem_of_getElem? (i := 997) (by decide +kernel), List.mem_of_getElem? (i := 1459) (by decide +kernel), List.mem_of_getElem? (i := 1460) (by decide +kernel)⟩
theorem lw_p77 : lw_okq (⟨"ChordHerdsModel", "tonesIn", "(I)I"⟩, 64) := ⟨⟨by decide +kernel, by decide +kernel⟩, List.mem_of_getElem? (i := 997) (by decide +kernel), List.mem_of_getElem? (i := 1463) (by decide +kernel), List.mem_of_getElem? (i := 1464) (by decide +kernel)⟩
theorem lw_p78 : lw_okq (⟨"ChordHerdsModel", "triedSum", "()I"⟩, 64) := ⟨⟨by decide +kernel, by decide +kernel⟩, List.mem_of_getElem? (i := 997) (by decide +kernel), List.mem_of_getElem? (i := 1467) (by decide +kernel), List.mem_of_getElem? (i := 1468) (by decide +kernel)⟩
theorem lw_p79 : lw_okq (⟨"ChordHerdsModel", "putDown", "()V"⟩, 64) := ⟨⟨by decide +kernel, by decide +kernel⟩, List.mem_of_getElem? (i := 997) (by decide +kernel), List.mem_of_getElem? (i := 1471) (by decide +kernel), List.mem_of_getElem? (i := 1472) (by decide +kernel)⟩
def lw_privs_5 : List (MethodName × Nat) := [(⟨"ChordHerdsModel", "isEar", "(I)Z"⟩, 64), (⟨"ChordHerdsModel", "heard", "(II)I"⟩, 64), (⟨"ChordHerdsModel", "loudAt", "(IIII)I"⟩, 64), (⟨"ChordHerdsModel", "entry", "(IIIIII)I"⟩, 64), (⟨"ChordHerdsModel", "areSo", "(IIIII)Z"⟩, 64), (⟨"ChordHerdsModel", "counts", "(III)Z"⟩, 64), (⟨"ChordHerdsModel", "isSo", "(IIII)Z"⟩, 64), (⟨"ChordHerdsModel", "loudOfSet", "(IIIII)I"⟩, 64), (⟨"ChordHerdsModel", "isParted", "(III)Z"⟩, 64), (⟨"ChordHerdsModel", "mixedOf", "(I)I"⟩, 64), (⟨"ChordHerdsModel", "couldCome", "(IIIII)Z"⟩, 64), (⟨"ChordHerdsModel", "clearTried", "()V"⟩, 64), (⟨"ChordHerdsModel", "areEvenings", "(II)Z"⟩, 64), (⟨"ChordHerdsModel", "tonesIn", "(I)I"⟩, 64), (⟨"ChordHerdsModel", "triedSum", "()I"⟩, 64), (⟨"ChordHerdsModel", "putDown", "()V"⟩, 64)]
theorem lw_r5 : ∀ q ∈ lw_privs_5, lw_okq q := List.forall_mem_cons.mpr ⟨lw_p64, List.forall_mem_cons.mpr ⟨lw_p65, List.forall_mem_cons.mpr ⟨lw_p66, List.forall_mem_cons.mpr ⟨lw_p67, List.forall_mem_cons.mpr ⟨lw_p68, List.forall_mem_cons.mpr ⟨lw_p69, List.forall_mem_cons.mpr ⟨lw_p70, List.forall_mem_cons.mpr ⟨lw_p71, List.forall_mem_cons.mpr ⟨lw_p72, List.forall_mem_cons.mpr ⟨lw_p73, List.forall_mem_cons.mpr ⟨lw_p74, List.forall_mem_cons.mpr ⟨lw_p75, List.forall_mem_cons.mpr ⟨lw_p76, List.forall_mem_cons.mpr ⟨lw_p77, List.forall_mem_cons.mpr ⟨lw_p78, List.forall_mem_cons.mpr ⟨lw_p79, fun _ h => absurd h List.not_mem_nil⟩⟩⟩⟩⟩⟩⟩⟩⟩⟩⟩⟩⟩⟩⟩⟩
theorem lw_p80 : lw_okq (⟨"ChordHerdsModel", "nextTried", "()Z"⟩, 64) := ⟨⟨by decide +kernel, by decide +kernel⟩, List.mem_of_getElem? (i := 997) (by decide +kernel), List.mem_of_getElem? (i := 1475) (by decide +kernel), List.mem_of_getElem? (i := 1476) (by decide +kernel)⟩
theorem lw_p81 : lw_okq (⟨"ChordHerdsModel", "canBe", "(II)Z"⟩, 64) := ⟨⟨by decide +kernel, by decide +kernel⟩, List.mem_of_getElem? (i := 997) (by decide +kernel), List.mem_of_getElem? (i := 1483) (by decide +kernel), List.mem_of_getElem? (i := 1484) (by decide +kernel)⟩
theorem lw_p82 : lw_okq (⟨"ChordHerdsModel", "layFew", "(I)V"⟩, 64) := ⟨⟨by decide +kernel, by decide +kernel⟩, List.mem_of_getElem? (i := 997) (by decide +kernel), List.mem_of_getElem? (i := 1491) (by decide +kernel), List.mem_of_getElem? (i := 1492) (by decide +kernel)⟩
theorem lw_p83 : lw_okq (⟨"ChordHerdsModel", "greatest", "(I)I"⟩, 64) := ⟨⟨by decide +kernel, by decide +kernel⟩, List.mem_of_getElem? (i := 997) (by decide +kernel), List.mem_of_getElem? (i := 1498) (by decide +kernel), List.mem_of_getElem? (i := 1499) (by decide +kernel)⟩
theorem lw_p84 : lw_okq (⟨"ChordHerdsModel", "areKnown", "()Z"⟩, 64) := ⟨⟨by decide +kernel, by decide +kernel⟩, List.mem_of_getElem? (i := 997) (by decide +kernel), List.mem_of_getElem? (i := 1502) (by decide +kernel), List.mem_of_getElem? (i := 1503) (by decide +kernel)⟩
theorem lw_p85 : lw_okq (⟨"ChordHerdsModel", "areAlike", "(II)Z"⟩, 64) := ⟨⟨by decide +kernel, by decide +kernel⟩, List.mem_of_getElem? (i := 997) (by decide +kernel), List.mem_of_getElem? (i := 1506) (by decide +kernel), List.mem_of_getElem? (i := 1507) (by decide +kernel)⟩
theorem lw_p86 : lw_okq (⟨"ChordHerdsModel", "nextTones", "()Z"⟩, 64) := ⟨⟨by decide +kernel, by decide +kernel⟩, List.mem_of_getElem? (i := 997) (by decide +kernel), List.mem_of_getElem? (i := 1510) (by decide +kernel), List.mem_of_getElem? (i := 1511) (by decide +kernel)⟩
theorem lw_p87 : lw_okq (⟨"ChordHerdsModel", "isKnownNew", "(II)Z"⟩, 64) := ⟨⟨by decide +kernel, by decide +kernel⟩, List.mem_of_getElem? (i := 997) (by decide +kernel), List.mem_of_getElem? (i := 1522) (by decide +kernel), List.mem_of_getElem? (i := 1523) (by decide +kernel)⟩
theorem lw_p88 : lw_okq (⟨"ChordHerdsModel", "nearest", "(II)I"⟩, 64) := ⟨⟨by decide +kernel, by decide +kernel⟩, List.mem_of_getElem? (i := 997) (by decide +kernel), List.mem_of_getElem? (i := 1526) (by decide +kernel), List.mem_of_getElem? (i := 1527) (by decide +kernel)⟩
def lw_privs_6 : List (MethodName × Nat) := [(⟨"ChordHerdsModel", "nextTried", "()Z"⟩, 64), (⟨"ChordHerdsModel", "canBe", "(II)Z"⟩, 64), (⟨"ChordHerdsModel", "layFew", "(I)V"⟩, 64), (⟨"ChordHerdsModel", "greatest", "(I)I"⟩, 64), (⟨"ChordHerdsModel", "areKnown", "()Z"⟩, 64), (⟨"ChordHerdsModel", "areAlike", "(II)Z"⟩, 64), (⟨"ChordHerdsModel", "nextTones", "()Z"⟩, 64), (⟨"ChordHerdsModel", "isKnownNew", "(II)Z"⟩, 64), (⟨"ChordHerdsModel", "nearest", "(II)I"⟩, 64)]
theorem lw_r6 : ∀ q ∈ lw_privs_6, lw_okq q := List.forall_mem_cons.mpr ⟨lw_p80, List.forall_mem_cons.mpr ⟨lw_p81, List.forall_mem_cons.mpr ⟨lw_p82, List.forall_mem_cons.mpr ⟨lw_p83, List.forall_mem_cons.mpr ⟨lw_p84, List.forall_mem_cons.mpr ⟨lw_p85, List.forall_mem_cons.mpr ⟨lw_p86, List.forall_mem_cons.mpr ⟨lw_p87, List.forall_mem_cons.mpr ⟨lw_p88, fun _ h => absurd h List.not_mem_nil⟩⟩⟩⟩⟩⟩⟩⟩⟩
def lw_privs : List (MethodName × Nat) := lw_privs_1 ++ (lw_privs_2 ++ (lw_privs_3 ++ (lw_privs_4 ++ (lw_privs_5 ++ (lw_privs_6)))))
def lw_tbl : List Cond := k2_sels lw_privs ++ tables_1
theorem lw_privs_ok : ∀ q ∈ lw_privs, lw_okq q := by
  show ∀ q ∈ lw_privs_1 ++ (lw_privs_2 ++ (lw_privs_3 ++ (lw_privs_4 ++ (lw_privs_5 ++ (lw_privs_6))))), lw_okq q
  exact List.forall_mem_append.mpr ⟨lw_r1, List.forall_mem_append.mpr ⟨lw_r2, List.forall_mem_append.mpr ⟨lw_r3, List.forall_mem_append.mpr ⟨lw_r4, List.forall_mem_append.mpr ⟨lw_r5, lw_r6⟩⟩⟩⟩⟩
def RX0 : String := "ChordHerds$Bounds"
def TX0 : u_T := fun k => match k with
  | 0 => ("ChordHerds$Bounds", "tones", "I", false)
  | 1 => ("ChordHerds$Bounds", "tonesAt", "[I", true)
  | 2 => ("ChordHerds$Bounds", "earsMany", "I", false)
  | 3 => ("ChordHerds$Bounds", "ears", "[I", true)
  | 4 => ("ChordHerds$Bounds", "least", "[I", true)
  | _ => ("ChordHerds$Bounds", "most", "[I", true)
def tyX0 : Nat → FieldType := fun k => match k with
  | 0 => .int
  | 1 => .array .int
  | 2 => .int
  | 3 => .array .int
  | 4 => .array .int
  | _ => .array .int
theorem nmX0 : ∀ a, a < 6 → ∀ b, b < 6 → a ≠ b → (TX0 a).2.1 ≠ (TX0 b).2.1 := by decide +kernel
theorem tyX0_ok : ∀ k, k < 6 → parseFieldDescriptor (TX0 k).2.2.1 = some (tyX0 k) := by decide +kernel
abbrev cX0_init : ByteArray := prog_2_method_1_code
def yX0_init : MethodName := ⟨RX0, "<init>", "()V"⟩
abbrev cX0_gather : ByteArray := prog_2_method_2_code
def yX0_gather : MethodName := ⟨RX0, "gather", "(LChordHerds$Entries;II)V"⟩
abbrev cX0_narrow : ByteArray := prog_2_method_3_code
def yX0_narrow : MethodName := ⟨RX0, "narrow", "(LChordHerds$Entries;I)V"⟩
abbrev cX0_has : ByteArray := prog_2_method_4_code
def yX0_has : MethodName := ⟨RX0, "has", "(II)Z"⟩
abbrev cX0_canBe : ByteArray := prog_2_method_5_code
def yX0_canBe : MethodName := ⟨RX0, "canBe", "(I[I[I)Z"⟩
abbrev cX0_allow : ByteArray := prog_2_method_6_code
def yX0_allow : MethodName := ⟨RX0, "allow", "(III)Z"⟩
def RX1 : String := "ChordHerds$Creeps"
def TX1 : u_T := fun k => match k with
  | 0 => ("ChordHerds$Creeps", "beasts", "I", false)
  | 1 => ("ChordHerds$Creeps", "told", "[I", true)
  | 2 => ("ChordHerds$Creeps", "evenings", "I", false)
  | 3 => ("ChordHerds$Creeps", "number", "[I", true)
  | 4 => ("ChordHerds$Creeps", "year", "[I", true)
  | 5 => ("ChordHerds$Creeps", "tones", "[I", true)
  | 6 => ("ChordHerds$Creeps", "tried", "[I", true)
  | 7 => ("ChordHerds$Creeps", "given", "[I", true)
  | 8 => ("ChordHerds$Creeps", "least", "I", false)
  | _ => ("ChordHerds$Creeps", "farthest", "I", false)
def tyX1 : Nat → FieldType := fun k => match k with
  | 0 => .int
  | 1 => .array .int
  | 2 => .int
  | 3 => .array .int
  | 4 => .array .int
  | 5 => .array .int
  | 6 => .array .int
  | 7 => .array .int
  | 8 => .int
  | _ => .int
theorem nmX1 : ∀ a, a < 10 → ∀ b, b < 10 → a ≠ b → (TX1 a).2.1 ≠ (TX1 b).2.1 := by decide +kernel
theorem tyX1_ok : ∀ k, k < 10 → parseFieldDescriptor (TX1 k).2.2.1 = some (tyX1 k) := by decide +kernel
abbrev cX1_init : ByteArray := prog_3_method_1_code
def yX1_init : MethodName := ⟨RX1, "<init>", "()V"⟩
abbrev cX1_gather : ByteArray := prog_3_method_2_code
def yX1_gather : MethodName := ⟨RX1, "gather", "(LChordHerds$Valley;LChordHerds$Entries;I)V"⟩
abbrev cX1_leastTogether : ByteArray := prog_3_method_3_code
def yX1_leastTogether : MethodName := ⟨RX1, "leastTogether", "([I)I"⟩
abbrev cX1_seekLeast : ByteArray := prog_3_method_4_code
def yX1_seekLeast : MethodName := ⟨RX1, "seekLeast", "(II[I)V"⟩
abbrev cX1_firstThatCant : ByteArray := prog_3_method_5_code
def yX1_firstThatCant : MethodName := ⟨RX1, "firstThatCant", "()I"⟩
abbrev cX1_seekFarthest : ByteArray := prog_3_method_6_code
def yX1_seekFarthest : MethodName := ⟨RX1, "seekFarthest", "(II)V"⟩
abbrev cX1_ring : ByteArray := prog_3_method_7_code
def yX1_ring : MethodName := ⟨RX1, "ring", "(III)I"⟩
abbrev cX1_countNotTooMany : ByteArray := prog_3_method_8_code
def yX1_countNotTooMany : MethodName := ⟨RX1, "countNotTooMany", "()I"⟩
def RX2 : String := "ChordHerds$Dealer"
def TX2 : u_T := fun k => match k with
  | 0 => ("ChordHerds$Dealer", "beasts", "I", false)
  | 1 => ("ChordHerds$Dealer", "missing", "I", false)
  | _ => ("ChordHerds$Dealer", "louds", "[I", true)
def tyX2 : Nat → FieldType := fun k => match k with
  | 0 => .int
  | 1 => .int
  | _ => .array .int
theorem nmX2 : ∀ a, a < 3 → ∀ b, b < 3 → a ≠ b → (TX2 a).2.1 ≠ (TX2 b).2.1 := by decide +kernel
theorem tyX2_ok : ∀ k, k < 3 → parseFieldDescriptor (TX2 k).2.2.1 = some (tyX2 k) := by decide +kernel
abbrev cX2_init : ByteArray := prog_4_method_1_code
def yX2_init : MethodName := ⟨RX2, "<init>", "()V"⟩
abbrev cX2_deal : ByteArray := prog_4_method_2_code
def yX2_deal : MethodName := ⟨RX2, "deal", "(LChordHerds$Valley;I[I)I"⟩
abbrev cX2_dealFrom : ByteArray := prog_4_method_3_code
def yX2_dealFrom : MethodName := ⟨RX2, "dealFrom", "(III[I)Z"⟩
abbrev cX2_isKnown : ByteArray := prog_4_method_4_code
def yX2_isKnown : MethodName := ⟨RX2, "isKnown", "(II[I)Z"⟩
abbrev cX2_twoAreKnown : ByteArray := prog_4_method_5_code
def yX2_twoAreKnown : MethodName := ⟨RX2, "twoAreKnown", "(II[I)Z"⟩
abbrev cX2_hasLoud : ByteArray := prog_4_method_6_code
def yX2_hasLoud : MethodName := ⟨RX2, "hasLoud", "(III[I)Z"⟩
def RX3 : String := "ChordHerds$Earnest"
def TX3 : u_T := fun k => match k with
  | 0 => ("ChordHerds$Earnest", "there", "I", false)
  | 1 => ("ChordHerds$Earnest", "stands", "I", false)
  | 2 => ("ChordHerds$Earnest", "place", "I", false)
  | 3 => ("ChordHerds$Earnest", "wind", "I", false)
  | 4 => ("ChordHerds$Earnest", "year", "I", false)
  | _ => ("ChordHerds$Earnest", "creeps", "[I", true)
def tyX3 : Nat → FieldType := fun k => match k with
  | 0 => .int
  | 1 => .int
  | 2 => .int
  | 3 => .int
  | 4 => .int
  | _ => .array .int
theorem nmX3 : ∀ a, a < 6 → ∀ b, b < 6 → a ≠ b → (TX3 a).2.1 ≠ (TX3 b).2.1 := by decide +kernel
theorem tyX3_ok : ∀ k, k < 6 → parseFieldDescriptor (TX3 k).2.2.1 = some (tyX3 k) := by decide +kernel
abbrev cX3_init : ByteArray := prog_5_method_1_code
def yX3_init : MethodName := ⟨RX3, "<init>", "()V"⟩
abbrev cX3_begin : ByteArray := prog_5_method_2_code
def yX3_begin : MethodName := ⟨RX3, "begin", "(LChordHerds$Valley;)V"⟩
abbrev cX3_copy : ByteArray := prog_5_method_3_code
def yX3_copy : MethodName := ⟨RX3, "copy", "(LChordHerds$Earnest;)V"⟩
abbrev cX3_isThere : ByteArray := prog_5_method_4_code
def yX3_isThere : MethodName := ⟨RX3, "isThere", "(I)Z"⟩
abbrev cX3_isStanding : ByteArray := prog_5_method_5_code
def yX3_isStanding : MethodName := ⟨RX3, "isStanding", "(I)Z"⟩
abbrev cX3_toneOf : ByteArray := prog_5_method_6_code
def yX3_toneOf : MethodName := ⟨RX3, "toneOf", "(LChordHerds$Valley;I)I"⟩
abbrev cX3_loudness : ByteArray := prog_5_method_7_code
def yX3_loudness : MethodName := ⟨RX3, "loudness", "(LChordHerds$Valley;II)I"⟩
def RX4 : String := "ChordHerds$Entries"
def TX4 : u_T := fun k => match k with
  | 0 => ("ChordHerds$Entries", "many", "I", false)
  | 1 => ("ChordHerds$Entries", "when", "[I", true)
  | 2 => ("ChordHerds$Entries", "ear", "[I", true)
  | 3 => ("ChordHerds$Entries", "tones", "[I", true)
  | 4 => ("ChordHerds$Entries", "least", "[I", true)
  | 5 => ("ChordHerds$Entries", "most", "[I", true)
  | 6 => ("ChordHerds$Entries", "told", "[I", true)
  | _ => ("ChordHerds$Entries", "untold", "[I", true)
def tyX4 : Nat → FieldType := fun k => match k with
  | 0 => .int
  | 1 => .array .int
  | 2 => .array .int
  | 3 => .array .int
  | 4 => .array .int
  | 5 => .array .int
  | 6 => .array .int
  | _ => .array .int
theorem nmX4 : ∀ a, a < 8 → ∀ b, b < 8 → a ≠ b → (TX4 a).2.1 ≠ (TX4 b).2.1 := by decide +kernel
theorem tyX4_ok : ∀ k, k < 8 → parseFieldDescriptor (TX4 k).2.2.1 = some (tyX4 k) := by decide +kernel
abbrev cX4_init : ByteArray := prog_6_method_1_code
def yX4_init : MethodName := ⟨RX4, "<init>", "()V"⟩
abbrev cX4_add : ByteArray := prog_6_method_2_code
def yX4_add : MethodName := ⟨RX4, "add", "(IIIIII)I"⟩
abbrev cX4_isSound : ByteArray := prog_6_method_3_code
def yX4_isSound : MethodName := ⟨RX4, "isSound", "(I)Z"⟩
abbrev cX4_counts : ByteArray := prog_6_method_4_code
def yX4_counts : MethodName := ⟨RX4, "counts", "(II)Z"⟩
def RX5 : String := "ChordHerds$Parting"
def TX5 : u_T := fun k => match k with
  | 0 => ("ChordHerds$Parting", "told", "Z", false)
  | 1 => ("ChordHerds$Parting", "earA", "I", false)
  | 2 => ("ChordHerds$Parting", "placeA", "I", false)
  | 3 => ("ChordHerds$Parting", "earB", "I", false)
  | 4 => ("ChordHerds$Parting", "placeB", "I", false)
  | 5 => ("ChordHerds$Parting", "quarter", "I", false)
  | 6 => ("ChordHerds$Parting", "many", "I", false)
  | 7 => ("ChordHerds$Parting", "sureA", "I", false)
  | 8 => ("ChordHerds$Parting", "sureB", "I", false)
  | 9 => ("ChordHerds$Parting", "mixed", "I", false)
  | _ => ("ChordHerds$Parting", "mixedSet", "I", false)
def tyX5 : Nat → FieldType := fun k => match k with
  | 0 => .boolean
  | 1 => .int
  | 2 => .int
  | 3 => .int
  | 4 => .int
  | 5 => .int
  | 6 => .int
  | 7 => .int
  | 8 => .int
  | 9 => .int
  | _ => .int
theorem nmX5 : ∀ a, a < 11 → ∀ b, b < 11 → a ≠ b → (TX5 a).2.1 ≠ (TX5 b).2.1 := by decide +kernel
theorem tyX5_ok : ∀ k, k < 11 → parseFieldDescriptor (TX5 k).2.2.1 = some (tyX5 k) := by decide +kernel
abbrev cX5_init : ByteArray := prog_7_method_1_code
def yX5_init : MethodName := ⟨RX5, "<init>", "()V"⟩
abbrev cX5_seek : ByteArray := prog_7_method_2_code
def yX5_seek : MethodName := ⟨RX5, "seek", "(LChordHerds$Valley;LChordHerds$Bounds;I)V"⟩
abbrev cX5_gather : ByteArray := prog_7_method_3_code
def yX5_gather : MethodName := ⟨RX5, "gather", "(ILChordHerds$Valley;)V"⟩
abbrev cX5_isSo : ByteArray := prog_7_method_4_code
def yX5_isSo : MethodName := ⟨RX5, "isSo", "(ILChordHerds$Valley;LChordHerds$Bounds;I)Z"⟩
abbrev cX5_countStrayed : ByteArray := prog_7_method_5_code
def yX5_countStrayed : MethodName := ⟨RX5, "countStrayed", "(ILChordHerds$Valley;)I"⟩
def RX6 : String := "ChordHerds$Reader"
def TX6 : u_T := fun k => match k with
  | 0 => ("ChordHerds$Reader", "many", "I", false)
  | 1 => ("ChordHerds$Reader", "sorts", "[I", true)
  | 2 => ("ChordHerds$Reader", "places", "[I", true)
  | 3 => ("ChordHerds$Reader", "values", "[J", true)
  | 4 => ("ChordHerds$Reader", "text", "[B", true)
  | 5 => ("ChordHerds$Reader", "length", "I", false)
  | _ => ("ChordHerds$Reader", "at", "I", false)
def tyX6 : Nat → FieldType := fun k => match k with
  | 0 => .int
  | 1 => .array .int
  | 2 => .array .int
  | 3 => .array .long
  | 4 => .array .byte
  | 5 => .int
  | _ => .int
theorem nmX6 : ∀ a, a < 7 → ∀ b, b < 7 → a ≠ b → (TX6 a).2.1 ≠ (TX6 b).2.1 := by decide +kernel
theorem tyX6_ok : ∀ k, k < 7 → parseFieldDescriptor (TX6 k).2.2.1 = some (tyX6 k) := by decide +kernel
abbrev cX6_init : ByteArray := prog_8_method_1_code
def yX6_init : MethodName := ⟨RX6, "<init>", "([B)V"⟩
abbrev cX6_read : ByteArray := prog_8_method_2_code
def yX6_read : MethodName := ⟨RX6, "read", "(I)V"⟩
abbrev cX6_skipBlanks : ByteArray := prog_8_method_3_code
def yX6_skipBlanks : MethodName := ⟨RX6, "skipBlanks", "()V"⟩
abbrev cX6_readToken : ByteArray := prog_8_method_4_code
def yX6_readToken : MethodName := ⟨RX6, "readToken", "()I"⟩
abbrev cX6_readWord : ByteArray := prog_8_method_5_code
def yX6_readWord : MethodName := ⟨RX6, "readWord", "()I"⟩
abbrev cX6_readNumber : ByteArray := prog_8_method_6_code
def yX6_readNumber : MethodName := ⟨RX6, "readNumber", "()I"⟩
abbrev cX6_isLetter : ByteArray := prog_8_method_7_code
def yX6_isLetter : MethodName := ⟨RX6, "isLetter", "(I)Z"⟩
abbrev cX6_isDigit : ByteArray := prog_8_method_8_code
def yX6_isDigit : MethodName := ⟨RX6, "isDigit", "(I)Z"⟩
def RX7 : String := "ChordHerds$Sets"
def TX7 : u_T := fun k => match k with
  | 0 => ("ChordHerds$Sets", "many", "I", false)
  | 1 => ("ChordHerds$Sets", "sure", "I", false)
  | 2 => ("ChordHerds$Sets", "quiet", "I", false)
  | 3 => ("ChordHerds$Sets", "places", "I", false)
  | 4 => ("ChordHerds$Sets", "leastPlace", "I", false)
  | 5 => ("ChordHerds$Sets", "greatestPlace", "I", false)
  | 6 => ("ChordHerds$Sets", "foundHere", "Z", false)
  | 7 => ("ChordHerds$Sets", "asked", "I", false)
  | 8 => ("ChordHerds$Sets", "bells", "[I", true)
  | 9 => ("ChordHerds$Sets", "tones", "[I", true)
  | 10 => ("ChordHerds$Sets", "louds", "[I", true)
  | 11 => ("ChordHerds$Sets", "sum", "[I", true)
  | 12 => ("ChordHerds$Sets", "rest", "[I", true)
  | _ => ("ChordHerds$Sets", "seen", "[I", true)
def tyX7 : Nat → FieldType := fun k => match k with
  | 0 => .int
  | 1 => .int
  | 2 => .int
  | 3 => .int
  | 4 => .int
  | 5 => .int
  | 6 => .boolean
  | 7 => .int
  | 8 => .array .int
  | 9 => .array .int
  | 10 => .array .int
  | 11 => .array .int
  | 12 => .array .int
  | _ => .array .int
theorem nmX7 : ∀ a, a < 14 → ∀ b, b < 14 → a ≠ b → (TX7 a).2.1 ≠ (TX7 b).2.1 := by decide +kernel
theorem tyX7_ok : ∀ k, k < 14 → parseFieldDescriptor (TX7 k).2.2.1 = some (tyX7 k) := by decide +kernel
abbrev cX7_init : ByteArray := prog_9_method_1_code
def yX7_init : MethodName := ⟨RX7, "<init>", "()V"⟩
abbrev cX7_seek : ByteArray := prog_9_method_2_code
def yX7_seek : MethodName := ⟨RX7, "seek", "(LChordHerds$Valley;LChordHerds$Bounds;I)V"⟩
abbrev cX7_begin : ByteArray := prog_9_method_3_code
def yX7_begin : MethodName := ⟨RX7, "begin", "(LChordHerds$Valley;LChordHerds$Bounds;)V"⟩
abbrev cX7_weigh : ByteArray := prog_9_method_4_code
def yX7_weigh : MethodName := ⟨RX7, "weigh", "(LChordHerds$Valley;LChordHerds$Bounds;II)V"⟩
abbrev cX7_anyCanBe : ByteArray := prog_9_method_5_code
def yX7_anyCanBe : MethodName := ⟨RX7, "anyCanBe", "(LChordHerds$Bounds;)Z"⟩
abbrev cX7_choose : ByteArray := prog_9_method_6_code
def yX7_choose : MethodName := ⟨RX7, "choose", "(IILChordHerds$Bounds;)V"⟩
abbrev cX7_add : ByteArray := prog_9_method_7_code
def yX7_add : MethodName := ⟨RX7, "add", "(II[ILChordHerds$Bounds;)V"⟩
abbrev cX7_allSeen : ByteArray := prog_9_method_8_code
def yX7_allSeen : MethodName := ⟨RX7, "allSeen", "(II)Z"⟩
abbrev cX7_keep : ByteArray := prog_9_method_9_code
def yX7_keep : MethodName := ⟨RX7, "keep", "(I)V"⟩
abbrev cX7_spread : ByteArray := prog_9_method_10_code
def yX7_spread : MethodName := ⟨RX7, "spread", "(I)I"⟩
def RX8 : String := "ChordHerds$Teller"
def TX8 : u_T := fun k => match k with
  | 0 => ("ChordHerds$Teller", "fault", "I", false)
  | 1 => ("ChordHerds$Teller", "faultPlace", "I", false)
  | 2 => ("ChordHerds$Teller", "reader", "LChordHerds$Reader;", true)
  | 3 => ("ChordHerds$Teller", "next", "I", false)
  | 4 => ("ChordHerds$Teller", "place", "I", false)
  | _ => ("ChordHerds$Teller", "value", "J", false)
def tyX8 : Nat → FieldType := fun k => match k with
  | 0 => .int
  | 1 => .int
  | 2 => .object "ChordHerds$Reader"
  | 3 => .int
  | 4 => .int
  | _ => .long
theorem nmX8 : ∀ a, a < 6 → ∀ b, b < 6 → a ≠ b → (TX8 a).2.1 ≠ (TX8 b).2.1 := by decide +kernel
theorem tyX8_ok : ∀ k, k < 6 → parseFieldDescriptor (TX8 k).2.2.1 = some (tyX8 k) := by decide +kernel
abbrev cX8_init : ByteArray := prog_10_method_1_code
def yX8_init : MethodName := ⟨RX8, "<init>", "([B)V"⟩
abbrev cX8_tell : ByteArray := prog_10_method_2_code
def yX8_tell : MethodName := ⟨RX8, "tell", "(ILChordHerds$Valley;)Z"⟩
abbrev cX8_isAtEnd : ByteArray := prog_10_method_3_code
def yX8_isAtEnd : MethodName := ⟨RX8, "isAtEnd", "()Z"⟩
abbrev cX8_tellLine : ByteArray := prog_10_method_4_code
def yX8_tellLine : MethodName := ⟨RX8, "tellLine", "(LChordHerds$Valley;)Z"⟩
abbrev cX8_tellHerd : ByteArray := prog_10_method_5_code
def yX8_tellHerd : MethodName := ⟨RX8, "tellHerd", "(LChordHerds$Valley;)Z"⟩
abbrev cX8_tellBeast : ByteArray := prog_10_method_6_code
def yX8_tellBeast : MethodName := ⟨RX8, "tellBeast", "(LChordHerds$Valley;)Z"⟩
abbrev cX8_tellStranger : ByteArray := prog_10_method_7_code
def yX8_tellStranger : MethodName := ⟨RX8, "tellStranger", "(LChordHerds$Valley;)Z"⟩
abbrev cX8_tellBell : ByteArray := prog_10_method_8_code
def yX8_tellBell : MethodName := ⟨RX8, "tellBell", "(LChordHerds$Valley;JI)Z"⟩
abbrev cX8_tellEar : ByteArray := prog_10_method_9_code
def yX8_tellEar : MethodName := ⟨RX8, "tellEar", "(LChordHerds$Valley;)Z"⟩
abbrev cX8_tellBeside : ByteArray := prog_10_method_10_code
def yX8_tellBeside : MethodName := ⟨RX8, "tellBeside", "(LChordHerds$Valley;)Z"⟩
abbrev cX8_takeBeast : ByteArray := prog_10_method_11_code
def yX8_takeBeast : MethodName := ⟨RX8, "takeBeast", "(LChordHerds$Valley;)I"⟩
abbrev cX8_takeNewName : ByteArray := prog_10_method_12_code
def yX8_takeNewName : MethodName := ⟨RX8, "takeNewName", "([JI)Z"⟩
abbrev cX8_takeName : ByteArray := prog_10_method_13_code
def yX8_takeName : MethodName := ⟨RX8, "takeName", "()Z"⟩
abbrev cX8_takeWord : ByteArray := prog_10_method_14_code
def yX8_takeWord : MethodName := ⟨RX8, "takeWord", "(J)Z"⟩
abbrev cX8_takeNumber : ByteArray := prog_10_method_15_code
def yX8_takeNumber : MethodName := ⟨RX8, "takeNumber", "(II)Z"⟩
abbrev cX8_take : ByteArray := prog_10_method_16_code
def yX8_take : MethodName := ⟨RX8, "take", "(I)Z"⟩
abbrev cX8_refuse : ByteArray := prog_10_method_17_code
def yX8_refuse : MethodName := ⟨RX8, "refuse", "(I)Z"⟩
abbrev cX8_standsForItself : ByteArray := prog_10_method_18_code
def yX8_standsForItself : MethodName := ⟨RX8, "standsForItself", "(J)Z"⟩
abbrev cX8_find : ByteArray := prog_10_method_19_code
def yX8_find : MethodName := ⟨RX8, "find", "(J[JI)I"⟩
def RX9 : String := "ChordHerds$Valley"
def TX9 : u_T := fun k => match k with
  | 0 => ("ChordHerds$Valley", "herds", "I", false)
  | 1 => ("ChordHerds$Valley", "herdNames", "[J", true)
  | 2 => ("ChordHerds$Valley", "herdBeasts", "[I", true)
  | 3 => ("ChordHerds$Valley", "bells", "I", false)
  | 4 => ("ChordHerds$Valley", "bellNames", "[J", true)
  | 5 => ("ChordHerds$Valley", "tones", "[I", true)
  | 6 => ("ChordHerds$Valley", "louds", "[I", true)
  | 7 => ("ChordHerds$Valley", "herdOf", "[I", true)
  | 8 => ("ChordHerds$Valley", "beasts", "I", false)
  | 9 => ("ChordHerds$Valley", "beastsMany", "I", false)
  | 10 => ("ChordHerds$Valley", "beside", "[I", true)
  | 11 => ("ChordHerds$Valley", "besides", "I", false)
  | 12 => ("ChordHerds$Valley", "ears", "I", false)
  | 13 => ("ChordHerds$Valley", "earNames", "[J", true)
  | _ => ("ChordHerds$Valley", "earPlaces", "[I", true)
def tyX9 : Nat → FieldType := fun k => match k with
  | 0 => .int
  | 1 => .array .long
  | 2 => .array .int
  | 3 => .int
  | 4 => .array .long
  | 5 => .array .int
  | 6 => .array .int
  | 7 => .array .int
  | 8 => .int
  | 9 => .int
  | 10 => .array .int
  | 11 => .int
  | 12 => .int
  | 13 => .array .long
  | _ => .array .int
theorem nmX9 : ∀ a, a < 15 → ∀ b, b < 15 → a ≠ b → (TX9 a).2.1 ≠ (TX9 b).2.1 := by decide +kernel
theorem tyX9_ok : ∀ k, k < 15 → parseFieldDescriptor (TX9 k).2.2.1 = some (tyX9 k) := by decide +kernel
abbrev cX9_init : ByteArray := prog_11_method_1_code
def yX9_init : MethodName := ⟨RX9, "<init>", "()V"⟩
abbrev cX9_clear : ByteArray := prog_11_method_2_code
def yX9_clear : MethodName := ⟨RX9, "clear", "()V"⟩
abbrev cX9_addHerd : ByteArray := prog_11_method_3_code
def yX9_addHerd : MethodName := ⟨RX9, "addHerd", "(J)V"⟩
abbrev cX9_addBell : ByteArray := prog_11_method_4_code
def yX9_addBell : MethodName := ⟨RX9, "addBell", "(JIII)V"⟩
abbrev cX9_addEar : ByteArray := prog_11_method_5_code
def yX9_addEar : MethodName := ⟨RX9, "addEar", "(JI)V"⟩
abbrev cX9_addBeside : ByteArray := prog_11_method_6_code
def yX9_addBeside : MethodName := ⟨RX9, "addBeside", "(II)V"⟩
abbrev cX9_hasBell : ByteArray := prog_11_method_7_code
def yX9_hasBell : MethodName := ⟨RX9, "hasBell", "(I)Z"⟩
abbrev cX9_hasEar : ByteArray := prog_11_method_8_code
def yX9_hasEar : MethodName := ⟨RX9, "hasEar", "(I)Z"⟩
abbrev cX9_isBeast : ByteArray := prog_11_method_9_code
def yX9_isBeast : MethodName := ⟨RX9, "isBeast", "(I)Z"⟩
abbrev cX9_loudAt : ByteArray := prog_11_method_10_code
def yX9_loudAt : MethodName := ⟨RX9, "loudAt", "(IIII)I"⟩
abbrev cX9_loudness : ByteArray := prog_11_method_11_code
def yX9_loudness : MethodName := ⟨RX9, "loudness", "(IIIII)I"⟩
abbrev cX9_hasBeast : ByteArray := prog_11_method_12_code
def yX9_hasBeast : MethodName := ⟨RX9, "hasBeast", "(II)Z"⟩
abbrev cX9_eachIsKnown : ByteArray := prog_11_method_13_code
def yX9_eachIsKnown : MethodName := ⟨RX9, "eachIsKnown", "()Z"⟩
abbrev cX9_withThoseBeside : ByteArray := prog_11_method_14_code
def yX9_withThoseBeside : MethodName := ⟨RX9, "withThoseBeside", "(I)I"⟩
abbrev cX9_farFrom : ByteArray := prog_11_method_15_code
def yX9_farFrom : MethodName := ⟨RX9, "farFrom", "(II)I"⟩
def RX10 : String := "ChordHerds"
def TX10 : u_T := fun k => match k with
  | 0 => ("ChordHerds", "tape", "[B", true)
  | 1 => ("ChordHerds", "taped", "I", false)
  | 2 => ("ChordHerds", "teller", "LChordHerds$Teller;", true)
  | 3 => ("ChordHerds", "land", "LChordHerds$Valley;", false)
  | 4 => ("ChordHerds", "draft", "LChordHerds$Valley;", false)
  | 5 => ("ChordHerds", "now", "LChordHerds$Earnest;", true)
  | 6 => ("ChordHerds", "boxes", "[LChordHerds$Earnest;", true)
  | 7 => ("ChordHerds", "kept", "I", false)
  | 8 => ("ChordHerds", "entries", "LChordHerds$Entries;", true)
  | 9 => ("ChordHerds", "time", "I", false)
  | 10 => ("ChordHerds", "row", "[I", true)
  | 11 => ("ChordHerds", "rowLength", "I", false)
  | 12 => ("ChordHerds", "bounds", "LChordHerds$Bounds;", true)
  | 13 => ("ChordHerds", "search", "LChordHerds$Sets;", true)
  | 14 => ("ChordHerds", "parting", "LChordHerds$Parting;", true)
  | 15 => ("ChordHerds", "creeps", "LChordHerds$Creeps;", true)
  | _ => ("ChordHerds", "dealer", "LChordHerds$Dealer;", true)
def tyX10 : Nat → FieldType := fun k => match k with
  | 0 => .array .byte
  | 1 => .int
  | 2 => .object "ChordHerds$Teller"
  | 3 => .object "ChordHerds$Valley"
  | 4 => .object "ChordHerds$Valley"
  | 5 => .object "ChordHerds$Earnest"
  | 6 => .array (.object "ChordHerds$Earnest")
  | 7 => .int
  | 8 => .object "ChordHerds$Entries"
  | 9 => .int
  | 10 => .array .int
  | 11 => .int
  | 12 => .object "ChordHerds$Bounds"
  | 13 => .object "ChordHerds$Sets"
  | 14 => .object "ChordHerds$Parting"
  | 15 => .object "ChordHerds$Creeps"
  | _ => .object "ChordHerds$Dealer"
theorem nmX10 : ∀ a, a < 17 → ∀ b, b < 17 → a ≠ b → (TX10 a).2.1 ≠ (TX10 b).2.1 := by decide +kernel
theorem tyX10_ok : ∀ k, k < 17 → parseFieldDescriptor (TX10 k).2.2.1 = some (tyX10 k) := by decide +kernel
abbrev cX10_init : ByteArray := prog_1_method_1_code
def yX10_init : MethodName := ⟨RX10, "<init>", "()V"⟩
abbrev cX10_feed : ByteArray := prog_1_method_2_code
def yX10_feed : MethodName := ⟨RX10, "feed", "(IIIII)I"⟩
abbrev cX10_tapeFour : ByteArray := prog_1_method_3_code
def yX10_tapeFour : MethodName := ⟨RX10, "tapeFour", "(I)V"⟩
abbrev cX10_end : ByteArray := prog_1_method_4_code
def yX10_end : MethodName := ⟨RX10, "end", "(I)I"⟩
abbrev cX10_valley : ByteArray := prog_1_method_5_code
def yX10_valley : MethodName := ⟨RX10, "valley", "()I"⟩
abbrev cX10_fault : ByteArray := prog_1_method_6_code
def yX10_fault : MethodName := ⟨RX10, "fault", "(I)I"⟩
abbrev cX10_bell : ByteArray := prog_1_method_7_code
def yX10_bell : MethodName := ⟨RX10, "bell", "(II)I"⟩
abbrev cX10_hear : ByteArray := prog_1_method_8_code
def yX10_hear : MethodName := ⟨RX10, "hear", "(II)I"⟩
abbrev cX10_chord : ByteArray := prog_1_method_9_code
def yX10_chord : MethodName := ⟨RX10, "chord", "(I)I"⟩
abbrev cX10_comes : ByteArray := prog_1_method_10_code
def yX10_comes : MethodName := ⟨RX10, "comes", "(IZ)Z"⟩
abbrev cX10_stand : ByteArray := prog_1_method_11_code
def yX10_stand : MethodName := ⟨RX10, "stand", "(IZ)Z"⟩
abbrev cX10_walk : ByteArray := prog_1_method_12_code
def yX10_walk : MethodName := ⟨RX10, "walk", "(II)I"⟩
abbrev cX10_crack : ByteArray := prog_1_method_13_code
def yX10_crack : MethodName := ⟨RX10, "crack", "(II)I"⟩
abbrev cX10_years : ByteArray := prog_1_method_14_code
def yX10_years : MethodName := ⟨RX10, "years", "(I)I"⟩
abbrev cX10_sound : ByteArray := prog_1_method_15_code
def yX10_sound : MethodName := ⟨RX10, "sound", "(IIIII)I"⟩
abbrev cX10_evening : ByteArray := prog_1_method_16_code
def yX10_evening : MethodName := ⟨RX10, "evening", "(II)I"⟩
abbrev cX10_note : ByteArray := prog_1_method_17_code
def yX10_note : MethodName := ⟨RX10, "note", "(IIII)I"⟩
abbrev cX10_untell : ByteArray := prog_1_method_18_code
def yX10_untell : MethodName := ⟨RX10, "untell", "(I)Z"⟩
abbrev cX10_later : ByteArray := prog_1_method_19_code
def yX10_later : MethodName := ⟨RX10, "later", "(I)I"⟩
abbrev cX10_sets : ByteArray := prog_1_method_20_code
def yX10_sets : MethodName := ⟨RX10, "sets", "(IIII)I"⟩
abbrev cX10_spring : ByteArray := prog_1_method_21_code
def yX10_spring : MethodName := ⟨RX10, "spring", "(IIIII)Z"⟩
abbrev cX10_parted : ByteArray := prog_1_method_22_code
def yX10_parted : MethodName := ⟨RX10, "parted", "(III)I"⟩
abbrev cX10_came : ByteArray := prog_1_method_23_code
def yX10_came : MethodName := ⟨RX10, "came", "(IIIII)I"⟩
abbrev cX10_isSoWith : ByteArray := prog_1_method_24_code
def yX10_isSoWith : MethodName := ⟨RX10, "isSoWith", "(IIII)Z"⟩
abbrev cX10_cracked : ByteArray := prog_1_method_25_code
def yX10_cracked : MethodName := ⟨RX10, "cracked", "(I)I"⟩
abbrev cX10_first : ByteArray := prog_1_method_26_code
def yX10_first : MethodName := ⟨RX10, "first", "(I)I"⟩
abbrev cX10_dealt : ByteArray := prog_1_method_27_code
def yX10_dealt : MethodName := ⟨RX10, "dealt", "(I)I"⟩
abbrev cX10_lies : ByteArray := prog_1_method_28_code
def yX10_lies : MethodName := ⟨RX10, "lies", "(I)I"⟩
abbrev cX10_fresh : ByteArray := prog_1_method_29_code
def yX10_fresh : MethodName := ⟨RX10, "fresh", "(II)I"⟩
abbrev cX10_image : ByteArray := prog_1_method_30_code
def yX10_image : MethodName := ⟨RX10, "image", "(I)I"⟩
abbrev cX10_back : ByteArray := prog_1_method_31_code
def yX10_back : MethodName := ⟨RX10, "back", "(I)I"⟩
abbrev cX10_about : ByteArray := prog_1_method_32_code
def yX10_about : MethodName := ⟨RX10, "about", "(I)I"⟩
abbrev cX10_within : ByteArray := prog_1_method_33_code
def yX10_within : MethodName := ⟨RX10, "within", "(III)Z"⟩
abbrev cX10_isPlace : ByteArray := prog_1_method_34_code
def yX10_isPlace : MethodName := ⟨RX10, "isPlace", "(I)Z"⟩
abbrev cX10_isWind : ByteArray := prog_1_method_35_code
def yX10_isWind : MethodName := ⟨RX10, "isWind", "(I)Z"⟩
abbrev cX10_isQuarter : ByteArray := prog_1_method_36_code
def yX10_isQuarter : MethodName := ⟨RX10, "isQuarter", "(I)Z"⟩
def RX11 : String := "ChordHerdsModel"
def TX11 : u_T := fun k => match k with
  | 0 => ("ChordHerdsModel", "tape", "[I", true)
  | 1 => ("ChordHerdsModel", "taped", "I", false)
  | 2 => ("ChordHerdsModel", "fault", "I", false)
  | 3 => ("ChordHerdsModel", "faultPlace", "I", false)
  | 4 => ("ChordHerdsModel", "at", "I", false)
  | 5 => ("ChordHerdsModel", "size", "I", false)
  | 6 => ("ChordHerdsModel", "sort", "I", false)
  | 7 => ("ChordHerdsModel", "place", "I", false)
  | 8 => ("ChordHerdsModel", "number", "I", false)
  | 9 => ("ChordHerdsModel", "word", "J", false)
  | 10 => ("ChordHerdsModel", "nName", "[J", true)
  | 11 => ("ChordHerdsModel", "nBell", "[I", true)
  | 12 => ("ChordHerdsModel", "nLoud", "[I", true)
  | 13 => ("ChordHerdsModel", "nHerd", "[I", true)
  | 14 => ("ChordHerdsModel", "nEar", "[I", true)
  | 15 => ("ChordHerdsModel", "nBeside", "[I", true)
  | 16 => ("ChordHerdsModel", "bellOf", "[I", true)
  | 17 => ("ChordHerdsModel", "loudOf", "[I", true)
  | 18 => ("ChordHerdsModel", "herdOf", "[I", true)
  | 19 => ("ChordHerdsModel", "earAt", "[I", true)
  | 20 => ("ChordHerdsModel", "besideOf", "[I", true)
  | 21 => ("ChordHerdsModel", "beasts", "[I", true)
  | 22 => ("ChordHerdsModel", "nHerds", "I", false)
  | 23 => ("ChordHerdsModel", "nBells", "I", false)
  | 24 => ("ChordHerdsModel", "nBeasts", "I", false)
  | 25 => ("ChordHerdsModel", "nStrangers", "I", false)
  | 26 => ("ChordHerdsModel", "nEars", "I", false)
  | 27 => ("ChordHerdsModel", "nBesides", "I", false)
  | 28 => ("ChordHerdsModel", "herds", "I", false)
  | 29 => ("ChordHerdsModel", "bells", "I", false)
  | 30 => ("ChordHerdsModel", "beastMany", "I", false)
  | 31 => ("ChordHerdsModel", "strangers", "I", false)
  | 32 => ("ChordHerdsModel", "ears", "I", false)
  | 33 => ("ChordHerdsModel", "creep", "[I", true)
  | 34 => ("ChordHerdsModel", "there", "I", false)
  | 35 => ("ChordHerdsModel", "standing", "I", false)
  | 36 => ("ChordHerdsModel", "nowPlace", "I", false)
  | 37 => ("ChordHerdsModel", "nowWind", "I", false)
  | 38 => ("ChordHerdsModel", "year", "I", false)
  | 39 => ("ChordHerdsModel", "isEvening", "[I", true)
  | 40 => ("ChordHerdsModel", "when", "[I", true)
  | 41 => ("ChordHerdsModel", "who", "[I", true)
  | 42 => ("ChordHerdsModel", "tones", "[I", true)
  | 43 => ("ChordHerdsModel", "least", "[I", true)
  | 44 => ("ChordHerdsModel", "most", "[I", true)
  | 45 => ("ChordHerdsModel", "entryTold", "[I", true)
  | 46 => ("ChordHerdsModel", "entryUntold", "[I", true)
  | 47 => ("ChordHerdsModel", "entries", "I", false)
  | 48 => ("ChordHerdsModel", "time", "I", false)
  | 49 => ("ChordHerdsModel", "isWhere", "[Z", true)
  | 50 => ("ChordHerdsModel", "hasSpring", "Z", false)
  | 51 => ("ChordHerdsModel", "springA", "I", false)
  | 52 => ("ChordHerdsModel", "springAt", "I", false)
  | 53 => ("ChordHerdsModel", "springB", "I", false)
  | 54 => ("ChordHerdsModel", "springBt", "I", false)
  | 55 => ("ChordHerdsModel", "springQuarter", "I", false)
  | 56 => ("ChordHerdsModel", "tried", "[I", true)
  | 57 => ("ChordHerdsModel", "lies", "[I", true)
  | 58 => ("ChordHerdsModel", "lain", "I", false)
  | 59 => ("ChordHerdsModel", "lost", "[I", true)
  | 60 => ("ChordHerdsModel", "few", "[I", true)
  | 61 => ("ChordHerdsModel", "fewMany", "I", false)
  | 62 => ("ChordHerdsModel", "hasBox", "[Z", true)
  | _ => ("ChordHerdsModel", "boxes", "[I", true)
def tyX11 : Nat → FieldType := fun k => match k with
  | 0 => .array .int
  | 1 => .int
  | 2 => .int
  | 3 => .int
  | 4 => .int
  | 5 => .int
  | 6 => .int
  | 7 => .int
  | 8 => .int
  | 9 => .long
  | 10 => .array .long
  | 11 => .array .int
  | 12 => .array .int
  | 13 => .array .int
  | 14 => .array .int
  | 15 => .array .int
  | 16 => .array .int
  | 17 => .array .int
  | 18 => .array .int
  | 19 => .array .int
  | 20 => .array .int
  | 21 => .array .int
  | 22 => .int
  | 23 => .int
  | 24 => .int
  | 25 => .int
  | 26 => .int
  | 27 => .int
  | 28 => .int
  | 29 => .int
  | 30 => .int
  | 31 => .int
  | 32 => .int
  | 33 => .array .int
  | 34 => .int
  | 35 => .int
  | 36 => .int
  | 37 => .int
  | 38 => .int
  | 39 => .array .int
  | 40 => .array .int
  | 41 => .array .int
  | 42 => .array .int
  | 43 => .array .int
  | 44 => .array .int
  | 45 => .array .int
  | 46 => .array .int
  | 47 => .int
  | 48 => .int
  | 49 => .array .boolean
  | 50 => .boolean
  | 51 => .int
  | 52 => .int
  | 53 => .int
  | 54 => .int
  | 55 => .int
  | 56 => .array .int
  | 57 => .array .int
  | 58 => .int
  | 59 => .array .int
  | 60 => .array .int
  | 61 => .int
  | 62 => .array .boolean
  | _ => .array .int
theorem nmX11 : ∀ a, a < 64 → ∀ b, b < 64 → a ≠ b → (TX11 a).2.1 ≠ (TX11 b).2.1 := by decide +kernel
theorem tyX11_ok : ∀ k, k < 64 → parseFieldDescriptor (TX11 k).2.2.1 = some (tyX11 k) := by decide +kernel
abbrev cX11_init : ByteArray := prog_13_method_1_code
def yX11_init : MethodName := ⟨RX11, "<init>", "()V"⟩
abbrev cX11_feed : ByteArray := prog_13_method_2_code
def yX11_feed : MethodName := ⟨RX11, "feed", "(IIIII)I"⟩
abbrev cX11_four : ByteArray := prog_13_method_3_code
def yX11_four : MethodName := ⟨RX11, "four", "(I)V"⟩
abbrev cX11_end : ByteArray := prog_13_method_4_code
def yX11_end : MethodName := ⟨RX11, "end", "(I)I"⟩
abbrev cX11_here : ByteArray := prog_13_method_5_code
def yX11_here : MethodName := ⟨RX11, "here", "(I)I"⟩
abbrev cX11_isLetter : ByteArray := prog_13_method_6_code
def yX11_isLetter : MethodName := ⟨RX11, "isLetter", "(I)Z"⟩
abbrev cX11_isDigit : ByteArray := prog_13_method_7_code
def yX11_isDigit : MethodName := ⟨RX11, "isDigit", "(I)Z"⟩
abbrev cX11_token : ByteArray := prog_13_method_8_code
def yX11_token : MethodName := ⟨RX11, "token", "()V"⟩
abbrev cX11_wrong : ByteArray := prog_13_method_9_code
def yX11_wrong : MethodName := ⟨RX11, "wrong", "(I)V"⟩
abbrev cX11_isWord : ByteArray := prog_13_method_10_code
def yX11_isWord : MethodName := ⟨RX11, "isWord", "(J)Z"⟩
abbrev cX11_isName : ByteArray := prog_13_method_11_code
def yX11_isName : MethodName := ⟨RX11, "isName", "()Z"⟩
abbrev cX11_want : ByteArray := prog_13_method_12_code
def yX11_want : MethodName := ⟨RX11, "want", "(J)V"⟩
abbrev cX11_toldNumber : ByteArray := prog_13_method_13_code
def yX11_toldNumber : MethodName := ⟨RX11, "toldNumber", "(II)I"⟩
abbrev cX11_told : ByteArray := prog_13_method_14_code
def yX11_told : MethodName := ⟨RX11, "told", "(JII)I"⟩
abbrev cX11_find : ByteArray := prog_13_method_15_code
def yX11_find : MethodName := ⟨RX11, "find", "(II)I"⟩
abbrev cX11_newName : ByteArray := prog_13_method_16_code
def yX11_newName : MethodName := ⟨RX11, "newName", "(II)V"⟩
abbrev cX11_readHerd : ByteArray := prog_13_method_17_code
def yX11_readHerd : MethodName := ⟨RX11, "readHerd", "()V"⟩
abbrev cX11_readBell : ByteArray := prog_13_method_18_code
def yX11_readBell : MethodName := ⟨RX11, "readBell", "(I)V"⟩
abbrev cX11_readBeast : ByteArray := prog_13_method_19_code
def yX11_readBeast : MethodName := ⟨RX11, "readBeast", "()V"⟩
abbrev cX11_readStranger : ByteArray := prog_13_method_20_code
def yX11_readStranger : MethodName := ⟨RX11, "readStranger", "()V"⟩
abbrev cX11_readEar : ByteArray := prog_13_method_21_code
def yX11_readEar : MethodName := ⟨RX11, "readEar", "()V"⟩
abbrev cX11_old : ByteArray := prog_13_method_22_code
def yX11_old : MethodName := ⟨RX11, "old", "()I"⟩
abbrev cX11_readBeside : ByteArray := prog_13_method_23_code
def yX11_readBeside : MethodName := ⟨RX11, "readBeside", "()V"⟩
abbrev cX11_readLine : ByteArray := prog_13_method_24_code
def yX11_readLine : MethodName := ⟨RX11, "readLine", "()V"⟩
abbrev cX11_readAll : ByteArray := prog_13_method_25_code
def yX11_readAll : MethodName := ⟨RX11, "readAll", "()V"⟩
abbrev cX11_valley : ByteArray := prog_13_method_26_code
def yX11_valley : MethodName := ⟨RX11, "valley", "()I"⟩
abbrev cX11_fault : ByteArray := prog_13_method_27_code
def yX11_fault : MethodName := ⟨RX11, "fault", "(I)I"⟩
abbrev cX11_isIn : ByteArray := prog_13_method_28_code
def yX11_isIn : MethodName := ⟨RX11, "isIn", "(III)Z"⟩
abbrev cX11_isBell : ByteArray := prog_13_method_29_code
def yX11_isBell : MethodName := ⟨RX11, "isBell", "(I)Z"⟩
abbrev cX11_isEar : ByteArray := prog_13_method_30_code
def yX11_isEar : MethodName := ⟨RX11, "isEar", "(I)Z"⟩
abbrev cX11_beastSet : ByteArray := prog_13_method_32_code
def yX11_beastSet : MethodName := ⟨RX11, "beastSet", "()I"⟩
abbrev cX11_modulo : ByteArray := prog_13_method_33_code
def yX11_modulo : MethodName := ⟨RX11, "modulo", "(I)I"⟩
abbrev cX11_toneNow : ByteArray := prog_13_method_34_code
def yX11_toneNow : MethodName := ⟨RX11, "toneNow", "(I)I"⟩
abbrev cX11_loudAt : ByteArray := prog_13_method_35_code
def yX11_loudAt : MethodName := ⟨RX11, "loudAt", "(IIII)I"⟩
abbrev cX11_bell : ByteArray := prog_13_method_36_code
def yX11_bell : MethodName := ⟨RX11, "bell", "(II)I"⟩
abbrev cX11_heard : ByteArray := prog_13_method_37_code
def yX11_heard : MethodName := ⟨RX11, "heard", "(II)I"⟩
abbrev cX11_isTone : ByteArray := prog_13_method_38_code
def yX11_isTone : MethodName := ⟨RX11, "isTone", "(I)Z"⟩
abbrev cX11_hear : ByteArray := prog_13_method_39_code
def yX11_hear : MethodName := ⟨RX11, "hear", "(II)I"⟩
abbrev cX11_chord : ByteArray := prog_13_method_40_code
def yX11_chord : MethodName := ⟨RX11, "chord", "(I)I"⟩
abbrev cX11_comes : ByteArray := prog_13_method_41_code
def yX11_comes : MethodName := ⟨RX11, "comes", "(IZ)Z"⟩
abbrev cX11_stand : ByteArray := prog_13_method_42_code
def yX11_stand : MethodName := ⟨RX11, "stand", "(IZ)Z"⟩
abbrev cX11_isPlace : ByteArray := prog_13_method_43_code
def yX11_isPlace : MethodName := ⟨RX11, "isPlace", "(I)Z"⟩
abbrev cX11_isWind : ByteArray := prog_13_method_44_code
def yX11_isWind : MethodName := ⟨RX11, "isWind", "(I)Z"⟩
abbrev cX11_walk : ByteArray := prog_13_method_45_code
def yX11_walk : MethodName := ⟨RX11, "walk", "(II)I"⟩
abbrev cX11_crack : ByteArray := prog_13_method_46_code
def yX11_crack : MethodName := ⟨RX11, "crack", "(II)I"⟩
abbrev cX11_years : ByteArray := prog_13_method_47_code
def yX11_years : MethodName := ⟨RX11, "years", "(I)I"⟩
abbrev cX11_isQuarter : ByteArray := prog_13_method_48_code
def yX11_isQuarter : MethodName := ⟨RX11, "isQuarter", "(I)Z"⟩
abbrev cX11_entry : ByteArray := prog_13_method_49_code
def yX11_entry : MethodName := ⟨RX11, "entry", "(IIIIII)I"⟩
abbrev cX11_sound : ByteArray := prog_13_method_50_code
def yX11_sound : MethodName := ⟨RX11, "sound", "(IIIII)I"⟩
abbrev cX11_evening : ByteArray := prog_13_method_51_code
def yX11_evening : MethodName := ⟨RX11, "evening", "(II)I"⟩
abbrev cX11_note : ByteArray := prog_13_method_52_code
def yX11_note : MethodName := ⟨RX11, "note", "(IIII)I"⟩
abbrev cX11_untell : ByteArray := prog_13_method_53_code
def yX11_untell : MethodName := ⟨RX11, "untell", "(I)Z"⟩
abbrev cX11_later : ByteArray := prog_13_method_54_code
def yX11_later : MethodName := ⟨RX11, "later", "(I)I"⟩
abbrev cX11_counts : ByteArray := prog_13_method_55_code
def yX11_counts : MethodName := ⟨RX11, "counts", "(III)Z"⟩
abbrev cX11_loudOfSet : ByteArray := prog_13_method_56_code
def yX11_loudOfSet : MethodName := ⟨RX11, "loudOfSet", "(IIIII)I"⟩
abbrev cX11_isSo : ByteArray := prog_13_method_57_code
def yX11_isSo : MethodName := ⟨RX11, "isSo", "(IIII)Z"⟩
abbrev cX11_areSo : ByteArray := prog_13_method_58_code
def yX11_areSo : MethodName := ⟨RX11, "areSo", "(IIIII)Z"⟩
abbrev cX11_sets : ByteArray := prog_13_method_59_code
def yX11_sets : MethodName := ⟨RX11, "sets", "(IIII)I"⟩
abbrev cX11_spring : ByteArray := prog_13_method_60_code
def yX11_spring : MethodName := ⟨RX11, "spring", "(IIIII)Z"⟩
abbrev cX11_isParted : ByteArray := prog_13_method_61_code
def yX11_isParted : MethodName := ⟨RX11, "isParted", "(III)Z"⟩
abbrev cX11_mixedOf : ByteArray := prog_13_method_62_code
def yX11_mixedOf : MethodName := ⟨RX11, "mixedOf", "(I)I"⟩
abbrev cX11_parted : ByteArray := prog_13_method_63_code
def yX11_parted : MethodName := ⟨RX11, "parted", "(III)I"⟩
abbrev cX11_couldCome : ByteArray := prog_13_method_64_code
def yX11_couldCome : MethodName := ⟨RX11, "couldCome", "(IIIII)Z"⟩
abbrev cX11_came : ByteArray := prog_13_method_65_code
def yX11_came : MethodName := ⟨RX11, "came", "(IIIII)I"⟩
abbrev cX11_tonesIn : ByteArray := prog_13_method_66_code
def yX11_tonesIn : MethodName := ⟨RX11, "tonesIn", "(I)I"⟩
abbrev cX11_areEvenings : ByteArray := prog_13_method_67_code
def yX11_areEvenings : MethodName := ⟨RX11, "areEvenings", "(II)Z"⟩
abbrev cX11_nextTried : ByteArray := prog_13_method_68_code
def yX11_nextTried : MethodName := ⟨RX11, "nextTried", "()Z"⟩
abbrev cX11_clearTried : ByteArray := prog_13_method_69_code
def yX11_clearTried : MethodName := ⟨RX11, "clearTried", "()V"⟩
abbrev cX11_triedSum : ByteArray := prog_13_method_70_code
def yX11_triedSum : MethodName := ⟨RX11, "triedSum", "()I"⟩
abbrev cX11_putDown : ByteArray := prog_13_method_71_code
def yX11_putDown : MethodName := ⟨RX11, "putDown", "()V"⟩
abbrev cX11_cracked : ByteArray := prog_13_method_72_code
def yX11_cracked : MethodName := ⟨RX11, "cracked", "(I)I"⟩
abbrev cX11_canBe : ByteArray := prog_13_method_73_code
def yX11_canBe : MethodName := ⟨RX11, "canBe", "(II)Z"⟩
abbrev cX11_first : ByteArray := prog_13_method_74_code
def yX11_first : MethodName := ⟨RX11, "first", "(I)I"⟩
abbrev cX11_areAlike : ByteArray := prog_13_method_75_code
def yX11_areAlike : MethodName := ⟨RX11, "areAlike", "(II)Z"⟩
abbrev cX11_ones : ByteArray := prog_13_method_76_code
def yX11_ones : MethodName := ⟨RX11, "ones", "(I)I"⟩
abbrev cX11_layFew : ByteArray := prog_13_method_77_code
def yX11_layFew : MethodName := ⟨RX11, "layFew", "(I)V"⟩
abbrev cX11_areKnown : ByteArray := prog_13_method_78_code
def yX11_areKnown : MethodName := ⟨RX11, "areKnown", "()Z"⟩
abbrev cX11_greatest : ByteArray := prog_13_method_79_code
def yX11_greatest : MethodName := ⟨RX11, "greatest", "(I)I"⟩
abbrev cX11_nextTones : ByteArray := prog_13_method_80_code
def yX11_nextTones : MethodName := ⟨RX11, "nextTones", "()Z"⟩
abbrev cX11_dealt : ByteArray := prog_13_method_81_code
def yX11_dealt : MethodName := ⟨RX11, "dealt", "(I)I"⟩
abbrev cX11_lies : ByteArray := prog_13_method_82_code
def yX11_lies : MethodName := ⟨RX11, "lies", "(I)I"⟩
abbrev cX11_isKnownNew : ByteArray := prog_13_method_83_code
def yX11_isKnownNew : MethodName := ⟨RX11, "isKnownNew", "(II)Z"⟩
abbrev cX11_nearest : ByteArray := prog_13_method_84_code
def yX11_nearest : MethodName := ⟨RX11, "nearest", "(II)I"⟩
abbrev cX11_fresh : ByteArray := prog_13_method_85_code
def yX11_fresh : MethodName := ⟨RX11, "fresh", "(II)I"⟩
abbrev cX11_isBox : ByteArray := prog_13_method_86_code
def yX11_isBox : MethodName := ⟨RX11, "isBox", "(I)Z"⟩
abbrev cX11_image : ByteArray := prog_13_method_87_code
def yX11_image : MethodName := ⟨RX11, "image", "(I)I"⟩
abbrev cX11_back : ByteArray := prog_13_method_88_code
def yX11_back : MethodName := ⟨RX11, "back", "(I)I"⟩
abbrev cX11_about : ByteArray := prog_13_method_89_code
def yX11_about : MethodName := ⟨RX11, "about", "(I)I"⟩
def RJ6 : String := "java/lang/Integer"
def TJ6 : u_T := fun k => match k with
  | _ => ("", "", "", false)
def tyJ6 : Nat → FieldType := fun k => match k with
  | _ => .int
theorem nmJ6 : ∀ a, a < 0 → ∀ b, b < 0 → a ≠ b → (TJ6 a).2.1 ≠ (TJ6 b).2.1 := by decide +kernel
theorem tyJ6_ok : ∀ k, k < 0 → parseFieldDescriptor (TJ6 k).2.2.1 = some (tyJ6 k) := by decide +kernel
abbrev cJ6_bitCount_0f7a4 : ByteArray := prog_14_method_49_code
def yJ6_bitCount_0f7a4 : MethodName := ⟨RJ6, "bitCount", "(I)I"⟩
def RJ9 : String := "java/lang/Math"
def TJ9 : u_T := fun k => match k with
  | _ => ("", "", "", false)
def tyJ9 : Nat → FieldType := fun k => match k with
  | _ => .int
theorem nmJ9 : ∀ a, a < 0 → ∀ b, b < 0 → a ≠ b → (TJ9 a).2.1 ≠ (TJ9 b).2.1 := by decide +kernel
theorem tyJ9_ok : ∀ k, k < 0 → parseFieldDescriptor (TJ9 k).2.2.1 = some (tyJ9 k) := by decide +kernel
abbrev cJ9_floorMod_7cf53 : ByteArray := prog_15_method_50_code
def yJ9_floorMod_7cf53 : MethodName := ⟨RJ9, "floorMod", "(II)I"⟩
abbrev cJ9_abs_0f7a4 : ByteArray := prog_15_method_59_code
def yJ9_abs_0f7a4 : MethodName := ⟨RJ9, "abs", "(I)I"⟩
abbrev cJ9_max_7cf53 : ByteArray := prog_15_method_65_code
def yJ9_max_7cf53 : MethodName := ⟨RJ9, "max", "(II)I"⟩
abbrev cJ9_min_7cf53 : ByteArray := prog_15_method_69_code
def yJ9_min_7cf53 : MethodName := ⟨RJ9, "min", "(II)I"⟩
def RJ10 : String := "java/lang/System"
def TJ10 : u_T := fun k => match k with
  | _ => ("", "", "", false)
def tyJ10 : Nat → FieldType := fun k => match k with
  | _ => .int
theorem nmJ10 : ∀ a, a < 0 → ∀ b, b < 0 → a ≠ b → (TJ10 a).2.1 ≠ (TJ10 b).2.1 := by decide +kernel
theorem tyJ10_ok : ∀ k, k < 0 → parseFieldDescriptor (TJ10 k).2.2.1 = some (tyJ10 k) := by decide +kernel
def RJ7 : String := "java/util/Arrays"
def TJ7 : u_T := fun k => match k with
  | _ => ("", "", "", false)
def tyJ7 : Nat → FieldType := fun k => match k with
  | _ => .int
theorem nmJ7 : ∀ a, a < 0 → ∀ b, b < 0 → a ≠ b → (TJ7 a).2.1 ≠ (TJ7 b).2.1 := by decide +kernel
theorem tyJ7_ok : ∀ k, k < 0 → parseFieldDescriptor (TJ7 k).2.2.1 = some (tyJ7 k) := by decide +kernel
abbrev cJ7_fill_53178 : ByteArray := prog_17_method_103_code
def yJ7_fill_53178 : MethodName := ⟨RJ7, "fill", "([II)V"⟩
def RL : String := "ChordHerdsLaw"
abbrev cL_law : ByteArray := code
def yL_law : MethodName := ⟨RL, "law", "([I)Z"⟩
abbrev vwCl : List vw_C := [(RX0, TX0, 6), (RX1, TX1, 10), (RX2, TX2, 3), (RX3, TX3, 6), (RX4, TX4, 8), (RX5, TX5, 11), (RX6, TX6, 7), (RX7, TX7, 14), (RX8, TX8, 6), (RX9, TX9, 15), (RX10, TX10, 17), (RX11, TX11, 64)]
def fs_Bounds (a : Nat → Nat) (g : Nat → Int32) (h : Nat → Int64) : List Value := [.int (g 0), .ref (a 1), .int (g 2), .ref (a 3), .ref (a 4), .ref (a 5)]
theorem smX0 : ∀ k, k < 6 → (TX0 k).1 = RX0 := by decide +kernel
def fs_Creeps (a : Nat → Nat) (g : Nat → Int32) (h : Nat → Int64) : List Value := [.int (g 0), .ref (a 1), .int (g 2), .ref (a 3), .ref (a 4), .ref (a 5), .ref (a 6), .ref (a 7), .int (g 8), .int (g 9)]
theorem smX1 : ∀ k, k < 10 → (TX1 k).1 = RX1 := by decide +kernel
def fs_Dealer (a : Nat → Nat) (g : Nat → Int32) (h : Nat → Int64) : List Value := [.int (g 0), .int (g 1), .ref (a 2)]
theorem smX2 : ∀ k, k < 3 → (TX2 k).1 = RX2 := by decide +kernel
def fs_Earnest (a : Nat → Nat) (g : Nat → Int32) (h : Nat → Int64) : List Value := [.int (g 0), .int (g 1), .int (g 2), .int (g 3), .int (g 4), .ref (a 5)]
theorem smX3 : ∀ k, k < 6 → (TX3 k).1 = RX3 := by decide +kernel
def fs_Entries (a : Nat → Nat) (g : Nat → Int32) (h : Nat → Int64) : List Value := [.int (g 0), .ref (a 1), .ref (a 2), .ref (a 3), .ref (a 4), .ref (a 5), .ref (a 6), .ref (a 7)]
theorem smX4 : ∀ k, k < 8 → (TX4 k).1 = RX4 := by decide +kernel
def fs_Parting (a : Nat → Nat) (g : Nat → Int32) (h : Nat → Int64) : List Value := [.int (g 0), .int (g 1), .int (g 2), .int (g 3), .int (g 4), .int (g 5), .int (g 6), .int (g 7), .int (g 8), .int (g 9), .int (g 10)]
theorem smX5 : ∀ k, k < 11 → (TX5 k).1 = RX5 := by decide +kernel
def fs_Reader (a : Nat → Nat) (g : Nat → Int32) (h : Nat → Int64) : List Value := [.int (g 0), .ref (a 1), .ref (a 2), .ref (a 3), .ref (a 4), .int (g 5), .int (g 6)]
theorem smX6 : ∀ k, k < 7 → (TX6 k).1 = RX6 := by decide +kernel
def fs_Sets (a : Nat → Nat) (g : Nat → Int32) (h : Nat → Int64) : List Value := [.int (g 0), .int (g 1), .int (g 2), .int (g 3), .int (g 4), .int (g 5), .int (g 6), .int (g 7), .ref (a 8), .ref (a 9), .ref (a 10), .ref (a 11), .ref (a 12), .ref (a 13)]
theorem smX7 : ∀ k, k < 14 → (TX7 k).1 = RX7 := by decide +kernel
def fs_Teller (a : Nat → Nat) (g : Nat → Int32) (h : Nat → Int64) : List Value := [.int (g 0), .int (g 1), .ref (a 2), .int (g 3), .int (g 4), .long (h 5)]
theorem smX8 : ∀ k, k < 6 → (TX8 k).1 = RX8 := by decide +kernel
def fs_Valley (a : Nat → Nat) (g : Nat → Int32) (h : Nat → Int64) : List Value := [.int (g 0), .ref (a 1), .ref (a 2), .int (g 3), .ref (a 4), .ref (a 5), .ref (a 6), .ref (a 7), .int (g 8), .int (g 9), .ref (a 10), .int (g 11), .int (g 12), .ref (a 13), .ref (a 14)]
theorem smX9 : ∀ k, k < 15 → (TX9 k).1 = RX9 := by decide +kernel
def fs_CH (a : Nat → Nat) (g : Nat → Int32) (h : Nat → Int64) : List Value := [.ref (a 0), .int (g 1), .ref (a 2), .ref (a 3), .ref (a 4), .ref (a 5), .ref (a 6), .int (g 7), .ref (a 8), .int (g 9), .ref (a 10), .int (g 11), .ref (a 12), .ref (a 13), .ref (a 14), .ref (a 15), .ref (a 16)]
theorem smX10 : ∀ k, k < 17 → (TX10 k).1 = RX10 := by decide +kernel
def fs_Mo (a : Nat → Nat) (g : Nat → Int32) (h : Nat → Int64) : List Value := [.ref (a 0), .int (g 1), .int (g 2), .int (g 3), .int (g 4), .int (g 5), .int (g 6), .int (g 7), .int (g 8), .long (h 9), .ref (a 10), .ref (a 11), .ref (a 12), .ref (a 13), .ref (a 14), .ref (a 15), .ref (a 16), .ref (a 17), .ref (a 18), .ref (a 19), .ref (a 20), .ref (a 21), .int (g 22), .int (g 23), .int (g 24), .int (g 25), .int (g 26), .int (g 27), .int (g 28), .int (g 29), .int (g 30), .int (g 31), .int (g 32), .ref (a 33), .int (g 34), .int (g 35), .int (g 36), .int (g 37), .int (g 38), .ref (a 39), .ref (a 40), .ref (a 41), .ref (a 42), .ref (a 43), .ref (a 44), .ref (a 45), .ref (a 46), .int (g 47), .int (g 48), .ref (a 49), .int (g 50), .int (g 51), .int (g 52), .int (g 53), .int (g 54), .int (g 55), .ref (a 56), .ref (a 57), .int (g 58), .ref (a 59), .ref (a 60), .int (g 61), .ref (a 62), .ref (a 63)]
theorem smX11 : ∀ k, k < 64 → (TX11 k).1 = RX11 := by decide +kernel
/-- the words that a call may take along -/
def zt : List Cond := lw_tbl.filter goodWord
/-- the links of nest mates -/
def zNl : List (String × Nat × MethodName × String) := [("ChordHerds", 24, ⟨"ChordHerds$Valley", "<init>", "()V"⟩, "ChordHerds"), ("ChordHerds", 34, ⟨"ChordHerds$Earnest", "<init>", "()V"⟩, "ChordHerds"), ("ChordHerds", 45, ⟨"ChordHerds$Entries", "<init>", "()V"⟩, "ChordHerds"), ("ChordHerds", 56, ⟨"ChordHerds$Bounds", "<init>", "()V"⟩, "ChordHerds"), ("ChordHerds", 63, ⟨"ChordHerds$Sets", "<init>", "()V"⟩, "ChordHerds"), ("ChordHerds", 70, ⟨"ChordHerds$Parting", "<init>", "()V"⟩, "ChordHerds"), ("ChordHerds", 77, ⟨"ChordHerds$Creeps", "<init>", "()V"⟩, "ChordHerds"), ("ChordHerds", 84, ⟨"ChordHerds$Dealer", "<init>", "()V"⟩, "ChordHerds"), ("ChordHerds$Bounds", 76, ⟨"ChordHerds", "within", "(III)Z"⟩, "ChordHerds"), ("ChordHerds$Creeps", 91, ⟨"ChordHerds", "within", "(III)Z"⟩, "ChordHerds"), ("ChordHerds$Reader", 66, ⟨"ChordHerds", "within", "(III)Z"⟩, "ChordHerds"), ("ChordHerds$Valley", 59, ⟨"ChordHerds", "within", "(III)Z"⟩, "ChordHerds")]
theorem nl_0 : ("ChordHerds", 24, (⟨"ChordHerds$Valley", "<init>", "()V"⟩ : MethodName), "ChordHerds") ∈ zNl := List.mem_of_getElem? (i := 0) rfl
theorem nl_1 : ("ChordHerds", 34, (⟨"ChordHerds$Earnest", "<init>", "()V"⟩ : MethodName), "ChordHerds") ∈ zNl := List.mem_of_getElem? (i := 1) rfl
theorem nl_2 : ("ChordHerds", 45, (⟨"ChordHerds$Entries", "<init>", "()V"⟩ : MethodName), "ChordHerds") ∈ zNl := List.mem_of_getElem? (i := 2) rfl
theorem nl_3 : ("ChordHerds", 56, (⟨"ChordHerds$Bounds", "<init>", "()V"⟩ : MethodName), "ChordHerds") ∈ zNl := List.mem_of_getElem? (i := 3) rfl
theorem nl_4 : ("ChordHerds", 63, (⟨"ChordHerds$Sets", "<init>", "()V"⟩ : MethodName), "ChordHerds") ∈ zNl := List.mem_of_getElem? (i := 4) rfl
theorem nl_5 : ("ChordHerds", 70, (⟨"ChordHerds$Parting", "<init>", "()V"⟩ : MethodName), "ChordHerds") ∈ zNl := List.mem_of_getElem? (i := 5) rfl
theorem nl_6 : ("ChordHerds", 77, (⟨"ChordHerds$Creeps", "<init>", "()V"⟩ : MethodName), "ChordHerds") ∈ zNl := List.mem_of_getElem? (i := 6) rfl
theorem nl_7 : ("ChordHerds", 84, (⟨"ChordHerds$Dealer", "<init>", "()V"⟩ : MethodName), "ChordHerds") ∈ zNl := List.mem_of_getElem? (i := 7) rfl
theorem nl_8 : ("ChordHerds$Bounds", 76, (⟨"ChordHerds", "within", "(III)Z"⟩ : MethodName), "ChordHerds") ∈ zNl := List.mem_of_getElem? (i := 8) rfl
theorem nl_9 : ("ChordHerds$Creeps", 91, (⟨"ChordHerds", "within", "(III)Z"⟩ : MethodName), "ChordHerds") ∈ zNl := List.mem_of_getElem? (i := 9) rfl
theorem nl_10 : ("ChordHerds$Reader", 66, (⟨"ChordHerds", "within", "(III)Z"⟩ : MethodName), "ChordHerds") ∈ zNl := List.mem_of_getElem? (i := 10) rfl
theorem nl_11 : ("ChordHerds$Valley", 59, (⟨"ChordHerds", "within", "(III)Z"⟩ : MethodName), "ChordHerds") ∈ zNl := List.mem_of_getElem? (i := 11) rfl
theorem tbl_1 : ∀ w ∈ tables_1_1, goodWord w = true → w ∈ zt := fun w h hg => List.mem_filter.mpr ⟨List.mem_append_right _ (show w ∈ tables_1 from List.mem_append_left _ h), hg⟩
theorem tbl_2 : ∀ w ∈ tables_1_2, goodWord w = true → w ∈ zt := fun w h hg => List.mem_filter.mpr ⟨List.mem_append_right _ (show w ∈ tables_1 from List.mem_append_right _ (List.mem_append_left _ h)), hg⟩
theorem tbl_3 : ∀ w ∈ tables_1_3, goodWord w = true → w ∈ zt := fun w h hg => List.mem_filter.mpr ⟨List.mem_append_right _ (show w ∈ tables_1 from List.mem_append_right _ (List.mem_append_right _ (List.mem_append_left _ h))), hg⟩
theorem tbl_4 : ∀ w ∈ tables_1_4, goodWord w = true → w ∈ zt := fun w h hg => List.mem_filter.mpr ⟨List.mem_append_right _ (show w ∈ tables_1 from List.mem_append_right _ (List.mem_append_right _ (List.mem_append_right _ (List.mem_append_left _ h)))), hg⟩
theorem tbl_5 : ∀ w ∈ tables_1_5, goodWord w = true → w ∈ zt := fun w h hg => List.mem_filter.mpr ⟨List.mem_append_right _ (show w ∈ tables_1 from List.mem_append_right _ (List.mem_append_right _ (List.mem_append_right _ (List.mem_append_right _ (List.mem_append_left _ h))))), hg⟩
theorem tbl_6 : ∀ w ∈ tables_1_6, goodWord w = true → w ∈ zt := fun w h hg => List.mem_filter.mpr ⟨List.mem_append_right _ (show w ∈ tables_1 from List.mem_append_right _ (List.mem_append_right _ (List.mem_append_right _ (List.mem_append_right _ (List.mem_append_right _ (List.mem_append_left _ h)))))), hg⟩
theorem tbl_7 : ∀ w ∈ tables_1_7, goodWord w = true → w ∈ zt := fun w h hg => List.mem_filter.mpr ⟨List.mem_append_right _ (show w ∈ tables_1 from List.mem_append_right _ (List.mem_append_right _ (List.mem_append_right _ (List.mem_append_right _ (List.mem_append_right _ (List.mem_append_right _ (h))))))), hg⟩
theorem tbs_0 : Cond.selects "ChordHerds" ⟨"ChordHerds", "tapeFour", "(I)V"⟩ ⟨"ChordHerds", "tapeFour", "(I)V"⟩ ∈ zt := List.mem_filter.mpr ⟨List.mem_append_left _ (List.mem_of_getElem? (i := 0) (by decide +kernel)), rfl⟩
theorem tbs_1 : Cond.selects "ChordHerds$Reader" ⟨"ChordHerds$Reader", "skipBlanks", "()V"⟩ ⟨"ChordHerds$Reader", "skipBlanks", "()V"⟩ ∈ zt := List.mem_filter.mpr ⟨List.mem_append_left _ (List.mem_of_getElem? (i := 1) (by decide +kernel)), rfl⟩
theorem tbs_2 : Cond.selects "ChordHerds$Reader" ⟨"ChordHerds$Reader", "readToken", "()I"⟩ ⟨"ChordHerds$Reader", "readToken", "()I"⟩ ∈ zt := List.mem_filter.mpr ⟨List.mem_append_left _ (List.mem_of_getElem? (i := 2) (by decide +kernel)), rfl⟩
theorem tbs_3 : Cond.selects "ChordHerds$Reader" ⟨"ChordHerds$Reader", "readWord", "()I"⟩ ⟨"ChordHerds$Reader", "readWord", "()I"⟩ ∈ zt := List.mem_filter.mpr ⟨List.mem_append_left _ (List.mem_of_getElem? (i := 3) (by decide +kernel)), rfl⟩
theorem tbs_4 : Cond.selects "ChordHerds$Reader" ⟨"ChordHerds$Reader", "readNumber", "()I"⟩ ⟨"ChordHerds$Reader", "readNumber", "()I"⟩ ∈ zt := List.mem_filter.mpr ⟨List.mem_append_left _ (List.mem_of_getElem? (i := 4) (by decide +kernel)), rfl⟩
theorem tbs_5 : Cond.selects "ChordHerds$Teller" ⟨"ChordHerds$Teller", "isAtEnd", "()Z"⟩ ⟨"ChordHerds$Teller", "isAtEnd", "()Z"⟩ ∈ zt := List.mem_filter.mpr ⟨List.mem_append_left _ (List.mem_of_getElem? (i := 5) (by decide +kernel)), rfl⟩
theorem tbs_6 : Cond.selects "ChordHerds$Teller" ⟨"ChordHerds$Teller", "tellLine", "(LChordHerds$Valley;)Z"⟩ ⟨"ChordHerds$Teller", "tellLine", "(LChordHerds$Valley;)Z"⟩ ∈ zt := List.mem_filter.mpr ⟨List.mem_append_left _ (List.mem_of_getElem? (i := 6) (by decide +kernel)), rfl⟩
theorem tbs_7 : Cond.selects "ChordHerds$Teller" ⟨"ChordHerds$Teller", "take", "(I)Z"⟩ ⟨"ChordHerds$Teller", "take", "(I)Z"⟩ ∈ zt := List.mem_filter.mpr ⟨List.mem_append_left _ (List.mem_of_getElem? (i := 7) (by decide +kernel)), rfl⟩
theorem tbs_8 : Cond.selects "ChordHerds$Teller" ⟨"ChordHerds$Teller", "refuse", "(I)Z"⟩ ⟨"ChordHerds$Teller", "refuse", "(I)Z"⟩ ∈ zt := List.mem_filter.mpr ⟨List.mem_append_left _ (List.mem_of_getElem? (i := 8) (by decide +kernel)), rfl⟩
theorem tbs_9 : Cond.selects "ChordHerds$Teller" ⟨"ChordHerds$Teller", "tellHerd", "(LChordHerds$Valley;)Z"⟩ ⟨"ChordHerds$Teller", "tellHerd", "(LChordHerds$Valley;)Z"⟩ ∈ zt := List.mem_filter.mpr ⟨List.mem_append_left _ (List.mem_of_getElem? (i := 9) (by decide +kernel)), rfl⟩
theorem tbs_10 : Cond.selects "ChordHerds$Teller" ⟨"ChordHerds$Teller", "takeNewName", "([JI)Z"⟩ ⟨"ChordHerds$Teller", "takeNewName", "([JI)Z"⟩ ∈ zt := List.mem_filter.mpr ⟨List.mem_append_left _ (List.mem_of_getElem? (i := 10) (by decide +kernel)), rfl⟩
theorem tbs_11 : Cond.selects "ChordHerds$Teller" ⟨"ChordHerds$Teller", "takeName", "()Z"⟩ ⟨"ChordHerds$Teller", "takeName", "()Z"⟩ ∈ zt := List.mem_filter.mpr ⟨List.mem_append_left _ (List.mem_of_getElem? (i := 11) (by decide +kernel)), rfl⟩
theorem tbs_12 : Cond.selects "ChordHerds$Teller" ⟨"ChordHerds$Teller", "tellBeast", "(LChordHerds$Valley;)Z"⟩ ⟨"ChordHerds$Teller", "tellBeast", "(LChordHerds$Valley;)Z"⟩ ∈ zt := List.mem_filter.mpr ⟨List.mem_append_left _ (List.mem_of_getElem? (i := 12) (by decide +kernel)), rfl⟩
theorem tbs_13 : Cond.selects "ChordHerds$Teller" ⟨"ChordHerds$Teller", "takeWord", "(J)Z"⟩ ⟨"ChordHerds$Teller", "takeWord", "(J)Z"⟩ ∈ zt := List.mem_filter.mpr ⟨List.mem_append_left _ (List.mem_of_getElem? (i := 13) (by decide +kernel)), rfl⟩
theorem tbs_14 : Cond.selects "ChordHerds$Teller" ⟨"ChordHerds$Teller", "tellBell", "(LChordHerds$Valley;JI)Z"⟩ ⟨"ChordHerds$Teller", "tellBell", "(LChordHerds$Valley;JI)Z"⟩ ∈ zt := List.mem_filter.mpr ⟨List.mem_append_left _ (List.mem_of_getElem? (i := 14) (by decide +kernel)), rfl⟩
theorem tbs_15 : Cond.selects "ChordHerds$Teller" ⟨"ChordHerds$Teller", "takeNumber", "(II)Z"⟩ ⟨"ChordHerds$Teller", "takeNumber", "(II)Z"⟩ ∈ zt := List.mem_filter.mpr ⟨List.mem_append_left _ (List.mem_of_getElem? (i := 15) (by decide +kernel)), rfl⟩
theorem tbs_16 : Cond.selects "ChordHerds$Teller" ⟨"ChordHerds$Teller", "tellStranger", "(LChordHerds$Valley;)Z"⟩ ⟨"ChordHerds$Teller", "tellStranger", "(LChordHerds$Valley;)Z"⟩ ∈ zt := List.mem_filter.mpr ⟨List.mem_append_left _ (List.mem_of_getElem? (i := 16) (by decide +kernel)), rfl⟩
theorem tbs_17 : Cond.selects "ChordHerds$Teller" ⟨"ChordHerds$Teller", "tellEar", "(LChordHerds$Valley;)Z"⟩ ⟨"ChordHerds$Teller", "tellEar", "(LChordHerds$Valley;)Z"⟩ ∈ zt := List.mem_filter.mpr ⟨List.mem_append_left _ (List.mem_of_getElem? (i := 17) (by decide +kernel)), rfl⟩
theorem tbs_18 : Cond.selects "ChordHerds$Teller" ⟨"ChordHerds$Teller", "tellBeside", "(LChordHerds$Valley;)Z"⟩ ⟨"ChordHerds$Teller", "tellBeside", "(LChordHerds$Valley;)Z"⟩ ∈ zt := List.mem_filter.mpr ⟨List.mem_append_left _ (List.mem_of_getElem? (i := 18) (by decide +kernel)), rfl⟩
theorem tbs_19 : Cond.selects "ChordHerds$Teller" ⟨"ChordHerds$Teller", "takeBeast", "(LChordHerds$Valley;)I"⟩ ⟨"ChordHerds$Teller", "takeBeast", "(LChordHerds$Valley;)I"⟩ ∈ zt := List.mem_filter.mpr ⟨List.mem_append_left _ (List.mem_of_getElem? (i := 19) (by decide +kernel)), rfl⟩
theorem tbs_20 : Cond.selects "ChordHerds$Bounds" ⟨"ChordHerds$Bounds", "narrow", "(LChordHerds$Entries;I)V"⟩ ⟨"ChordHerds$Bounds", "narrow", "(LChordHerds$Entries;I)V"⟩ ∈ zt := List.mem_filter.mpr ⟨List.mem_append_left _ (List.mem_of_getElem? (i := 20) (by decide +kernel)), rfl⟩
theorem tbs_21 : Cond.selects "ChordHerds$Sets" ⟨"ChordHerds$Sets", "begin", "(LChordHerds$Valley;LChordHerds$Bounds;)V"⟩ ⟨"ChordHerds$Sets", "begin", "(LChordHerds$Valley;LChordHerds$Bounds;)V"⟩ ∈ zt := List.mem_filter.mpr ⟨List.mem_append_left _ (List.mem_of_getElem? (i := 21) (by decide +kernel)), rfl⟩
theorem tbs_22 : Cond.selects "ChordHerds$Sets" ⟨"ChordHerds$Sets", "weigh", "(LChordHerds$Valley;LChordHerds$Bounds;II)V"⟩ ⟨"ChordHerds$Sets", "weigh", "(LChordHerds$Valley;LChordHerds$Bounds;II)V"⟩ ∈ zt := List.mem_filter.mpr ⟨List.mem_append_left _ (List.mem_of_getElem? (i := 22) (by decide +kernel)), rfl⟩
theorem tbs_23 : Cond.selects "ChordHerds$Sets" ⟨"ChordHerds$Sets", "add", "(II[ILChordHerds$Bounds;)V"⟩ ⟨"ChordHerds$Sets", "add", "(II[ILChordHerds$Bounds;)V"⟩ ∈ zt := List.mem_filter.mpr ⟨List.mem_append_left _ (List.mem_of_getElem? (i := 23) (by decide +kernel)), rfl⟩
theorem tbs_24 : Cond.selects "ChordHerds$Sets" ⟨"ChordHerds$Sets", "anyCanBe", "(LChordHerds$Bounds;)Z"⟩ ⟨"ChordHerds$Sets", "anyCanBe", "(LChordHerds$Bounds;)Z"⟩ ∈ zt := List.mem_filter.mpr ⟨List.mem_append_left _ (List.mem_of_getElem? (i := 24) (by decide +kernel)), rfl⟩
theorem tbs_25 : Cond.selects "ChordHerds$Sets" ⟨"ChordHerds$Sets", "choose", "(IILChordHerds$Bounds;)V"⟩ ⟨"ChordHerds$Sets", "choose", "(IILChordHerds$Bounds;)V"⟩ ∈ zt := List.mem_filter.mpr ⟨List.mem_append_left _ (List.mem_of_getElem? (i := 25) (by decide +kernel)), rfl⟩
theorem tbs_26 : Cond.selects "ChordHerds$Sets" ⟨"ChordHerds$Sets", "allSeen", "(II)Z"⟩ ⟨"ChordHerds$Sets", "allSeen", "(II)Z"⟩ ∈ zt := List.mem_filter.mpr ⟨List.mem_append_left _ (List.mem_of_getElem? (i := 26) (by decide +kernel)), rfl⟩
theorem tbs_27 : Cond.selects "ChordHerds$Sets" ⟨"ChordHerds$Sets", "keep", "(I)V"⟩ ⟨"ChordHerds$Sets", "keep", "(I)V"⟩ ∈ zt := List.mem_filter.mpr ⟨List.mem_append_left _ (List.mem_of_getElem? (i := 27) (by decide +kernel)), rfl⟩
theorem tbs_28 : Cond.selects "ChordHerds$Sets" ⟨"ChordHerds$Sets", "spread", "(I)I"⟩ ⟨"ChordHerds$Sets", "spread", "(I)I"⟩ ∈ zt := List.mem_filter.mpr ⟨List.mem_append_left _ (List.mem_of_getElem? (i := 28) (by decide +kernel)), rfl⟩
theorem tbs_29 : Cond.selects "ChordHerds$Parting" ⟨"ChordHerds$Parting", "isSo", "(ILChordHerds$Valley;LChordHerds$Bounds;I)Z"⟩ ⟨"ChordHerds$Parting", "isSo", "(ILChordHerds$Valley;LChordHerds$Bounds;I)Z"⟩ ∈ zt := List.mem_filter.mpr ⟨List.mem_append_left _ (List.mem_of_getElem? (i := 29) (by decide +kernel)), rfl⟩
theorem tbs_30 : Cond.selects "ChordHerds$Parting" ⟨"ChordHerds$Parting", "gather", "(ILChordHerds$Valley;)V"⟩ ⟨"ChordHerds$Parting", "gather", "(ILChordHerds$Valley;)V"⟩ ∈ zt := List.mem_filter.mpr ⟨List.mem_append_left _ (List.mem_of_getElem? (i := 30) (by decide +kernel)), rfl⟩
theorem tbs_31 : Cond.selects "ChordHerds$Parting" ⟨"ChordHerds$Parting", "countStrayed", "(ILChordHerds$Valley;)I"⟩ ⟨"ChordHerds$Parting", "countStrayed", "(ILChordHerds$Valley;)I"⟩ ∈ zt := List.mem_filter.mpr ⟨List.mem_append_left _ (List.mem_of_getElem? (i := 31) (by decide +kernel)), rfl⟩
theorem tbs_32 : Cond.selects "ChordHerds" ⟨"ChordHerds", "isSoWith", "(IIII)Z"⟩ ⟨"ChordHerds", "isSoWith", "(IIII)Z"⟩ ∈ zt := List.mem_filter.mpr ⟨List.mem_append_left _ (List.mem_of_getElem? (i := 32) (by decide +kernel)), rfl⟩
theorem tbs_33 : Cond.selects "ChordHerds$Creeps" ⟨"ChordHerds$Creeps", "countNotTooMany", "()I"⟩ ⟨"ChordHerds$Creeps", "countNotTooMany", "()I"⟩ ∈ zt := List.mem_filter.mpr ⟨List.mem_append_left _ (List.mem_of_getElem? (i := 33) (by decide +kernel)), rfl⟩
theorem tbs_34 : Cond.selects "ChordHerds$Creeps" ⟨"ChordHerds$Creeps", "seekLeast", "(II[I)V"⟩ ⟨"ChordHerds$Creeps", "seekLeast", "(II[I)V"⟩ ∈ zt := List.mem_filter.mpr ⟨List.mem_append_left _ (List.mem_of_getElem? (i := 34) (by decide +kernel)), rfl⟩
theorem tbs_35 : Cond.selects "ChordHerds$Creeps" ⟨"ChordHerds$Creeps", "ring", "(III)I"⟩ ⟨"ChordHerds$Creeps", "ring", "(III)I"⟩ ∈ zt := List.mem_filter.mpr ⟨List.mem_append_left _ (List.mem_of_getElem? (i := 35) (by decide +kernel)), rfl⟩
theorem tbs_36 : Cond.selects "ChordHerds$Creeps" ⟨"ChordHerds$Creeps", "seekFarthest", "(II)V"⟩ ⟨"ChordHerds$Creeps", "seekFarthest", "(II)V"⟩ ∈ zt := List.mem_filter.mpr ⟨List.mem_append_left _ (List.mem_of_getElem? (i := 36) (by decide +kernel)), rfl⟩
theorem tbs_37 : Cond.selects "ChordHerds$Dealer" ⟨"ChordHerds$Dealer", "dealFrom", "(III[I)Z"⟩ ⟨"ChordHerds$Dealer", "dealFrom", "(III[I)Z"⟩ ∈ zt := List.mem_filter.mpr ⟨List.mem_append_left _ (List.mem_of_getElem? (i := 37) (by decide +kernel)), rfl⟩
theorem tbs_38 : Cond.selects "ChordHerds$Dealer" ⟨"ChordHerds$Dealer", "isKnown", "(II[I)Z"⟩ ⟨"ChordHerds$Dealer", "isKnown", "(II[I)Z"⟩ ∈ zt := List.mem_filter.mpr ⟨List.mem_append_left _ (List.mem_of_getElem? (i := 38) (by decide +kernel)), rfl⟩
theorem tbs_39 : Cond.selects "ChordHerds$Dealer" ⟨"ChordHerds$Dealer", "twoAreKnown", "(II[I)Z"⟩ ⟨"ChordHerds$Dealer", "twoAreKnown", "(II[I)Z"⟩ ∈ zt := List.mem_filter.mpr ⟨List.mem_append_left _ (List.mem_of_getElem? (i := 39) (by decide +kernel)), rfl⟩
theorem tbs_40 : Cond.selects "ChordHerds$Dealer" ⟨"ChordHerds$Dealer", "hasLoud", "(III[I)Z"⟩ ⟨"ChordHerds$Dealer", "hasLoud", "(III[I)Z"⟩ ∈ zt := List.mem_filter.mpr ⟨List.mem_append_left _ (List.mem_of_getElem? (i := 40) (by decide +kernel)), rfl⟩
theorem tbs_41 : Cond.selects "ChordHerdsModel" ⟨"ChordHerdsModel", "four", "(I)V"⟩ ⟨"ChordHerdsModel", "four", "(I)V"⟩ ∈ zt := List.mem_filter.mpr ⟨List.mem_append_left _ (List.mem_of_getElem? (i := 41) (by decide +kernel)), rfl⟩
theorem tbs_42 : Cond.selects "ChordHerdsModel" ⟨"ChordHerdsModel", "readAll", "()V"⟩ ⟨"ChordHerdsModel", "readAll", "()V"⟩ ∈ zt := List.mem_filter.mpr ⟨List.mem_append_left _ (List.mem_of_getElem? (i := 42) (by decide +kernel)), rfl⟩
theorem tbs_43 : Cond.selects "ChordHerdsModel" ⟨"ChordHerdsModel", "token", "()V"⟩ ⟨"ChordHerdsModel", "token", "()V"⟩ ∈ zt := List.mem_filter.mpr ⟨List.mem_append_left _ (List.mem_of_getElem? (i := 43) (by decide +kernel)), rfl⟩
theorem tbs_44 : Cond.selects "ChordHerdsModel" ⟨"ChordHerdsModel", "here", "(I)I"⟩ ⟨"ChordHerdsModel", "here", "(I)I"⟩ ∈ zt := List.mem_filter.mpr ⟨List.mem_append_left _ (List.mem_of_getElem? (i := 44) (by decide +kernel)), rfl⟩
theorem tbs_45 : Cond.selects "ChordHerdsModel" ⟨"ChordHerdsModel", "readLine", "()V"⟩ ⟨"ChordHerdsModel", "readLine", "()V"⟩ ∈ zt := List.mem_filter.mpr ⟨List.mem_append_left _ (List.mem_of_getElem? (i := 45) (by decide +kernel)), rfl⟩
theorem tbs_46 : Cond.selects "ChordHerdsModel" ⟨"ChordHerdsModel", "isWord", "(J)Z"⟩ ⟨"ChordHerdsModel", "isWord", "(J)Z"⟩ ∈ zt := List.mem_filter.mpr ⟨List.mem_append_left _ (List.mem_of_getElem? (i := 46) (by decide +kernel)), rfl⟩
theorem tbs_47 : Cond.selects "ChordHerdsModel" ⟨"ChordHerdsModel", "readHerd", "()V"⟩ ⟨"ChordHerdsModel", "readHerd", "()V"⟩ ∈ zt := List.mem_filter.mpr ⟨List.mem_append_left _ (List.mem_of_getElem? (i := 47) (by decide +kernel)), rfl⟩
theorem tbs_48 : Cond.selects "ChordHerdsModel" ⟨"ChordHerdsModel", "newName", "(II)V"⟩ ⟨"ChordHerdsModel", "newName", "(II)V"⟩ ∈ zt := List.mem_filter.mpr ⟨List.mem_append_left _ (List.mem_of_getElem? (i := 48) (by decide +kernel)), rfl⟩
theorem tbs_49 : Cond.selects "ChordHerdsModel" ⟨"ChordHerdsModel", "isName", "()Z"⟩ ⟨"ChordHerdsModel", "isName", "()Z"⟩ ∈ zt := List.mem_filter.mpr ⟨List.mem_append_left _ (List.mem_of_getElem? (i := 49) (by decide +kernel)), rfl⟩
theorem tbs_50 : Cond.selects "ChordHerdsModel" ⟨"ChordHerdsModel", "wrong", "(I)V"⟩ ⟨"ChordHerdsModel", "wrong", "(I)V"⟩ ∈ zt := List.mem_filter.mpr ⟨List.mem_append_left _ (List.mem_of_getElem? (i := 50) (by decide +kernel)), rfl⟩
theorem tbs_51 : Cond.selects "ChordHerdsModel" ⟨"ChordHerdsModel", "find", "(II)I"⟩ ⟨"ChordHerdsModel", "find", "(II)I"⟩ ∈ zt := List.mem_filter.mpr ⟨List.mem_append_left _ (List.mem_of_getElem? (i := 51) (by decide +kernel)), rfl⟩
theorem tbs_52 : Cond.selects "ChordHerdsModel" ⟨"ChordHerdsModel", "readBeast", "()V"⟩ ⟨"ChordHerdsModel", "readBeast", "()V"⟩ ∈ zt := List.mem_filter.mpr ⟨List.mem_append_left _ (List.mem_of_getElem? (i := 52) (by decide +kernel)), rfl⟩
theorem tbs_53 : Cond.selects "ChordHerdsModel" ⟨"ChordHerdsModel", "want", "(J)V"⟩ ⟨"ChordHerdsModel", "want", "(J)V"⟩ ∈ zt := List.mem_filter.mpr ⟨List.mem_append_left _ (List.mem_of_getElem? (i := 53) (by decide +kernel)), rfl⟩
theorem tbs_54 : Cond.selects "ChordHerdsModel" ⟨"ChordHerdsModel", "readBell", "(I)V"⟩ ⟨"ChordHerdsModel", "readBell", "(I)V"⟩ ∈ zt := List.mem_filter.mpr ⟨List.mem_append_left _ (List.mem_of_getElem? (i := 54) (by decide +kernel)), rfl⟩
theorem tbs_55 : Cond.selects "ChordHerdsModel" ⟨"ChordHerdsModel", "told", "(JII)I"⟩ ⟨"ChordHerdsModel", "told", "(JII)I"⟩ ∈ zt := List.mem_filter.mpr ⟨List.mem_append_left _ (List.mem_of_getElem? (i := 55) (by decide +kernel)), rfl⟩
theorem tbs_56 : Cond.selects "ChordHerdsModel" ⟨"ChordHerdsModel", "toldNumber", "(II)I"⟩ ⟨"ChordHerdsModel", "toldNumber", "(II)I"⟩ ∈ zt := List.mem_filter.mpr ⟨List.mem_append_left _ (List.mem_of_getElem? (i := 56) (by decide +kernel)), rfl⟩
theorem tbs_57 : Cond.selects "ChordHerdsModel" ⟨"ChordHerdsModel", "readStranger", "()V"⟩ ⟨"ChordHerdsModel", "readStranger", "()V"⟩ ∈ zt := List.mem_filter.mpr ⟨List.mem_append_left _ (List.mem_of_getElem? (i := 57) (by decide +kernel)), rfl⟩
theorem tbs_58 : Cond.selects "ChordHerdsModel" ⟨"ChordHerdsModel", "readEar", "()V"⟩ ⟨"ChordHerdsModel", "readEar", "()V"⟩ ∈ zt := List.mem_filter.mpr ⟨List.mem_append_left _ (List.mem_of_getElem? (i := 58) (by decide +kernel)), rfl⟩
theorem tbs_59 : Cond.selects "ChordHerdsModel" ⟨"ChordHerdsModel", "readBeside", "()V"⟩ ⟨"ChordHerdsModel", "readBeside", "()V"⟩ ∈ zt := List.mem_filter.mpr ⟨List.mem_append_left _ (List.mem_of_getElem? (i := 59) (by decide +kernel)), rfl⟩
theorem tbs_60 : Cond.selects "ChordHerdsModel" ⟨"ChordHerdsModel", "old", "()I"⟩ ⟨"ChordHerdsModel", "old", "()I"⟩ ∈ zt := List.mem_filter.mpr ⟨List.mem_append_left _ (List.mem_of_getElem? (i := 60) (by decide +kernel)), rfl⟩
theorem tbs_61 : Cond.selects "ChordHerdsModel" ⟨"ChordHerdsModel", "beastSet", "()I"⟩ ⟨"ChordHerdsModel", "beastSet", "()I"⟩ ∈ zt := List.mem_filter.mpr ⟨List.mem_append_left _ (List.mem_of_getElem? (i := 61) (by decide +kernel)), rfl⟩
theorem tbs_62 : Cond.selects "ChordHerdsModel" ⟨"ChordHerdsModel", "isBell", "(I)Z"⟩ ⟨"ChordHerdsModel", "isBell", "(I)Z"⟩ ∈ zt := List.mem_filter.mpr ⟨List.mem_append_left _ (List.mem_of_getElem? (i := 62) (by decide +kernel)), rfl⟩
theorem tbs_63 : Cond.selects "ChordHerdsModel" ⟨"ChordHerdsModel", "toneNow", "(I)I"⟩ ⟨"ChordHerdsModel", "toneNow", "(I)I"⟩ ∈ zt := List.mem_filter.mpr ⟨List.mem_append_left _ (List.mem_of_getElem? (i := 63) (by decide +kernel)), rfl⟩
theorem tbs_64 : Cond.selects "ChordHerdsModel" ⟨"ChordHerdsModel", "isEar", "(I)Z"⟩ ⟨"ChordHerdsModel", "isEar", "(I)Z"⟩ ∈ zt := List.mem_filter.mpr ⟨List.mem_append_left _ (List.mem_of_getElem? (i := 64) (by decide +kernel)), rfl⟩
theorem tbs_65 : Cond.selects "ChordHerdsModel" ⟨"ChordHerdsModel", "heard", "(II)I"⟩ ⟨"ChordHerdsModel", "heard", "(II)I"⟩ ∈ zt := List.mem_filter.mpr ⟨List.mem_append_left _ (List.mem_of_getElem? (i := 65) (by decide +kernel)), rfl⟩
theorem tbs_66 : Cond.selects "ChordHerdsModel" ⟨"ChordHerdsModel", "loudAt", "(IIII)I"⟩ ⟨"ChordHerdsModel", "loudAt", "(IIII)I"⟩ ∈ zt := List.mem_filter.mpr ⟨List.mem_append_left _ (List.mem_of_getElem? (i := 66) (by decide +kernel)), rfl⟩
theorem tbs_67 : Cond.selects "ChordHerdsModel" ⟨"ChordHerdsModel", "entry", "(IIIIII)I"⟩ ⟨"ChordHerdsModel", "entry", "(IIIIII)I"⟩ ∈ zt := List.mem_filter.mpr ⟨List.mem_append_left _ (List.mem_of_getElem? (i := 67) (by decide +kernel)), rfl⟩
theorem tbs_68 : Cond.selects "ChordHerdsModel" ⟨"ChordHerdsModel", "areSo", "(IIIII)Z"⟩ ⟨"ChordHerdsModel", "areSo", "(IIIII)Z"⟩ ∈ zt := List.mem_filter.mpr ⟨List.mem_append_left _ (List.mem_of_getElem? (i := 68) (by decide +kernel)), rfl⟩
theorem tbs_69 : Cond.selects "ChordHerdsModel" ⟨"ChordHerdsModel", "counts", "(III)Z"⟩ ⟨"ChordHerdsModel", "counts", "(III)Z"⟩ ∈ zt := List.mem_filter.mpr ⟨List.mem_append_left _ (List.mem_of_getElem? (i := 69) (by decide +kernel)), rfl⟩
theorem tbs_70 : Cond.selects "ChordHerdsModel" ⟨"ChordHerdsModel", "isSo", "(IIII)Z"⟩ ⟨"ChordHerdsModel", "isSo", "(IIII)Z"⟩ ∈ zt := List.mem_filter.mpr ⟨List.mem_append_left _ (List.mem_of_getElem? (i := 70) (by decide +kernel)), rfl⟩
theorem tbs_71 : Cond.selects "ChordHerdsModel" ⟨"ChordHerdsModel", "loudOfSet", "(IIIII)I"⟩ ⟨"ChordHerdsModel", "loudOfSet", "(IIIII)I"⟩ ∈ zt := List.mem_filter.mpr ⟨List.mem_append_left _ (List.mem_of_getElem? (i := 71) (by decide +kernel)), rfl⟩
theorem tbs_72 : Cond.selects "ChordHerdsModel" ⟨"ChordHerdsModel", "isParted", "(III)Z"⟩ ⟨"ChordHerdsModel", "isParted", "(III)Z"⟩ ∈ zt := List.mem_filter.mpr ⟨List.mem_append_left _ (List.mem_of_getElem? (i := 72) (by decide +kernel)), rfl⟩
theorem tbs_73 : Cond.selects "ChordHerdsModel" ⟨"ChordHerdsModel", "mixedOf", "(I)I"⟩ ⟨"ChordHerdsModel", "mixedOf", "(I)I"⟩ ∈ zt := List.mem_filter.mpr ⟨List.mem_append_left _ (List.mem_of_getElem? (i := 73) (by decide +kernel)), rfl⟩
theorem tbs_74 : Cond.selects "ChordHerdsModel" ⟨"ChordHerdsModel", "couldCome", "(IIIII)Z"⟩ ⟨"ChordHerdsModel", "couldCome", "(IIIII)Z"⟩ ∈ zt := List.mem_filter.mpr ⟨List.mem_append_left _ (List.mem_of_getElem? (i := 74) (by decide +kernel)), rfl⟩
theorem tbs_75 : Cond.selects "ChordHerdsModel" ⟨"ChordHerdsModel", "clearTried", "()V"⟩ ⟨"ChordHerdsModel", "clearTried", "()V"⟩ ∈ zt := List.mem_filter.mpr ⟨List.mem_append_left _ (List.mem_of_getElem? (i := 75) (by decide +kernel)), rfl⟩
theorem tbs_76 : Cond.selects "ChordHerdsModel" ⟨"ChordHerdsModel", "areEvenings", "(II)Z"⟩ ⟨"ChordHerdsModel", "areEvenings", "(II)Z"⟩ ∈ zt := List.mem_filter.mpr ⟨List.mem_append_left _ (List.mem_of_getElem? (i := 76) (by decide +kernel)), rfl⟩
theorem tbs_77 : Cond.selects "ChordHerdsModel" ⟨"ChordHerdsModel", "tonesIn", "(I)I"⟩ ⟨"ChordHerdsModel", "tonesIn", "(I)I"⟩ ∈ zt := List.mem_filter.mpr ⟨List.mem_append_left _ (List.mem_of_getElem? (i := 77) (by decide +kernel)), rfl⟩
theorem tbs_78 : Cond.selects "ChordHerdsModel" ⟨"ChordHerdsModel", "triedSum", "()I"⟩ ⟨"ChordHerdsModel", "triedSum", "()I"⟩ ∈ zt := List.mem_filter.mpr ⟨List.mem_append_left _ (List.mem_of_getElem? (i := 78) (by decide +kernel)), rfl⟩
theorem tbs_79 : Cond.selects "ChordHerdsModel" ⟨"ChordHerdsModel", "putDown", "()V"⟩ ⟨"ChordHerdsModel", "putDown", "()V"⟩ ∈ zt := List.mem_filter.mpr ⟨List.mem_append_left _ (List.mem_of_getElem? (i := 79) (by decide +kernel)), rfl⟩
theorem tbs_80 : Cond.selects "ChordHerdsModel" ⟨"ChordHerdsModel", "nextTried", "()Z"⟩ ⟨"ChordHerdsModel", "nextTried", "()Z"⟩ ∈ zt := List.mem_filter.mpr ⟨List.mem_append_left _ (List.mem_of_getElem? (i := 80) (by decide +kernel)), rfl⟩
theorem tbs_81 : Cond.selects "ChordHerdsModel" ⟨"ChordHerdsModel", "canBe", "(II)Z"⟩ ⟨"ChordHerdsModel", "canBe", "(II)Z"⟩ ∈ zt := List.mem_filter.mpr ⟨List.mem_append_left _ (List.mem_of_getElem? (i := 81) (by decide +kernel)), rfl⟩
theorem tbs_82 : Cond.selects "ChordHerdsModel" ⟨"ChordHerdsModel", "layFew", "(I)V"⟩ ⟨"ChordHerdsModel", "layFew", "(I)V"⟩ ∈ zt := List.mem_filter.mpr ⟨List.mem_append_left _ (List.mem_of_getElem? (i := 82) (by decide +kernel)), rfl⟩
theorem tbs_83 : Cond.selects "ChordHerdsModel" ⟨"ChordHerdsModel", "greatest", "(I)I"⟩ ⟨"ChordHerdsModel", "greatest", "(I)I"⟩ ∈ zt := List.mem_filter.mpr ⟨List.mem_append_left _ (List.mem_of_getElem? (i := 83) (by decide +kernel)), rfl⟩
theorem tbs_84 : Cond.selects "ChordHerdsModel" ⟨"ChordHerdsModel", "areKnown", "()Z"⟩ ⟨"ChordHerdsModel", "areKnown", "()Z"⟩ ∈ zt := List.mem_filter.mpr ⟨List.mem_append_left _ (List.mem_of_getElem? (i := 84) (by decide +kernel)), rfl⟩
theorem tbs_85 : Cond.selects "ChordHerdsModel" ⟨"ChordHerdsModel", "areAlike", "(II)Z"⟩ ⟨"ChordHerdsModel", "areAlike", "(II)Z"⟩ ∈ zt := List.mem_filter.mpr ⟨List.mem_append_left _ (List.mem_of_getElem? (i := 85) (by decide +kernel)), rfl⟩
theorem tbs_86 : Cond.selects "ChordHerdsModel" ⟨"ChordHerdsModel", "nextTones", "()Z"⟩ ⟨"ChordHerdsModel", "nextTones", "()Z"⟩ ∈ zt := List.mem_filter.mpr ⟨List.mem_append_left _ (List.mem_of_getElem? (i := 86) (by decide +kernel)), rfl⟩
theorem tbs_87 : Cond.selects "ChordHerdsModel" ⟨"ChordHerdsModel", "isKnownNew", "(II)Z"⟩ ⟨"ChordHerdsModel", "isKnownNew", "(II)Z"⟩ ∈ zt := List.mem_filter.mpr ⟨List.mem_append_left _ (List.mem_of_getElem? (i := 87) (by decide +kernel)), rfl⟩
theorem tbs_88 : Cond.selects "ChordHerdsModel" ⟨"ChordHerdsModel", "nearest", "(II)I"⟩ ⟨"ChordHerdsModel", "nearest", "(II)I"⟩ ∈ zt := List.mem_filter.mpr ⟨List.mem_append_left _ (List.mem_of_getElem? (i := 88) (by decide +kernel)), rfl⟩
theorem tb_0 : (Jvm.Cond.initialized "ChordHerdsLaw") ∈ zt := tbl_1 _ (List.mem_of_getElem? (i := 0) (by rfl)) rfl
theorem tb_1 : (Jvm.Cond.initialized "ChordHerds") ∈ zt := tbl_1 _ (List.mem_of_getElem? (i := 1) (by rfl)) rfl
theorem tb_2 : (Jvm.Cond.initialized "ChordHerds$Teller") ∈ zt := tbl_1 _ (List.mem_of_getElem? (i := 2) (by rfl)) rfl
theorem tb_3 : (Jvm.Cond.initialized "ChordHerds$Reader") ∈ zt := tbl_1 _ (List.mem_of_getElem? (i := 3) (by rfl)) rfl
theorem tb_4 : (Jvm.Cond.initialized "ChordHerds$Valley") ∈ zt := tbl_1 _ (List.mem_of_getElem? (i := 4) (by rfl)) rfl
theorem tb_5 : (Jvm.Cond.initialized "ChordHerds$Earnest") ∈ zt := tbl_1 _ (List.mem_of_getElem? (i := 5) (by rfl)) rfl
theorem tb_6 : (Jvm.Cond.initialized "ChordHerds$Entries") ∈ zt := tbl_1 _ (List.mem_of_getElem? (i := 6) (by rfl)) rfl
theorem tb_7 : (Jvm.Cond.initialized "ChordHerds$Bounds") ∈ zt := tbl_1 _ (List.mem_of_getElem? (i := 7) (by rfl)) rfl
theorem tb_8 : (Jvm.Cond.initialized "ChordHerds$Sets") ∈ zt := tbl_1 _ (List.mem_of_getElem? (i := 8) (by rfl)) rfl
theorem tb_9 : (Jvm.Cond.initialized "ChordHerds$Parting") ∈ zt := tbl_1 _ (List.mem_of_getElem? (i := 9) (by rfl)) rfl
theorem tb_10 : (Jvm.Cond.initialized "ChordHerds$Creeps") ∈ zt := tbl_1 _ (List.mem_of_getElem? (i := 10) (by rfl)) rfl
theorem tb_11 : (Jvm.Cond.initialized "ChordHerds$Dealer") ∈ zt := tbl_1 _ (List.mem_of_getElem? (i := 11) (by rfl)) rfl
theorem tb_12 : (Jvm.Cond.initialized "ChordHerdsModel") ∈ zt := tbl_1 _ (List.mem_of_getElem? (i := 12) (by rfl)) rfl
theorem tb_13 : (Jvm.Cond.initialized "java/lang/Math") ∈ zt := tbl_1 _ (List.mem_of_getElem? (i := 13) (by rfl)) rfl
theorem tb_14 : (Jvm.Cond.initialized "java/util/Arrays") ∈ zt := tbl_1 _ (List.mem_of_getElem? (i := 14) (by rfl)) rfl
theorem tb_15 : (Jvm.Cond.initialized "java/lang/Integer") ∈ zt := tbl_1 _ (List.mem_of_getElem? (i := 15) (by rfl)) rfl
theorem tb_16 : (Jvm.Cond.initialized "java/lang/System") ∈ zt := tbl_1 _ (List.mem_of_getElem? (i := 16) (by rfl)) rfl
theorem tb_17 : (Jvm.Cond.classLink "ChordHerdsLaw" (7 : Nat) "ChordHerds") ∈ zt := tbl_1 _ (List.mem_of_getElem? (i := 17) (by rfl)) rfl
theorem tb_18 : (Jvm.Cond.instantiable "ChordHerds" (17 : Nat)) ∈ zt := tbl_1 _ (List.mem_of_getElem? (i := 18) (by rfl)) rfl
theorem tb_19 : (Jvm.Cond.methodLink "ChordHerdsLaw" (9 : Nat) ({ cls := "ChordHerds", name := "<init>", desc := "()V" } : Jvm.MethodName)) ∈ zt := tbl_1 _ (List.mem_of_getElem? (i := 19) (by rfl)) rfl
theorem tb_20 : (Jvm.Cond.instanceMethod ({ cls := "ChordHerds", name := "<init>", desc := "()V" } : Jvm.MethodName)) ∈ zt := tbl_1 _ (List.mem_of_getElem? (i := 20) (by rfl)) rfl
theorem tb_21 : (Jvm.Cond.code ({ cls := "ChordHerds", name := "<init>", desc := "()V" } : Jvm.MethodName) prog_1_method_1_code (2 : Nat) (Option.none : Option Jvm.ClassFile.FieldType)) ∈ zt := tbl_1 _ (List.mem_of_getElem? (i := 21) (by rfl)) rfl
theorem tb_22 : (Jvm.Cond.methodLink "ChordHerds" (3 : Nat) ({ cls := "java/lang/Object", name := "<init>", desc := "()V" } : Jvm.MethodName)) ∈ zt := tbl_1 _ (List.mem_of_getElem? (i := 22) (by rfl)) rfl
theorem tb_23 : (Jvm.Cond.instanceMethod ({ cls := "java/lang/Object", name := "<init>", desc := "()V" } : Jvm.MethodName)) ∈ zt := tbl_1 _ (List.mem_of_getElem? (i := 23) (by rfl)) rfl
theorem tb_24 : (Jvm.Cond.code ({ cls := "java/lang/Object", name := "<init>", desc := "()V" } : Jvm.MethodName) object_method_1_code (1 : Nat) (Option.none : Option Jvm.ClassFile.FieldType)) ∈ zt := tbl_1 _ (List.mem_of_getElem? (i := 24) (by rfl)) rfl
theorem tb_25 : (Jvm.Cond.classLink "ChordHerds" (13 : Nat) "ChordHerds$Teller") ∈ zt := tbl_1 _ (List.mem_of_getElem? (i := 25) (by rfl)) rfl
theorem tb_26 : (Jvm.Cond.instantiable "ChordHerds$Teller" (6 : Nat)) ∈ zt := tbl_1 _ (List.mem_of_getElem? (i := 26) (by rfl)) rfl
theorem tb_27 : (Jvm.Cond.methodLink "ChordHerds" (15 : Nat) ({ cls := "ChordHerds$Teller", name := "<init>", desc := "([B)V" } : Jvm.MethodName)) ∈ zt := tbl_1 _ (List.mem_of_getElem? (i := 27) (by rfl)) rfl
theorem tb_28 : (Jvm.Cond.instanceMethod ({ cls := "ChordHerds$Teller", name := "<init>", desc := "([B)V" } : Jvm.MethodName)) ∈ zt := tbl_1 _ (List.mem_of_getElem? (i := 28) (by rfl)) rfl
theorem tb_29 : (Jvm.Cond.code ({ cls := "ChordHerds$Teller", name := "<init>", desc := "([B)V" } : Jvm.MethodName) prog_10_method_1_code (2 : Nat) (Option.none : Option Jvm.ClassFile.FieldType)) ∈ zt := tbl_1 _ (List.mem_of_getElem? (i := 29) (by rfl)) rfl
theorem tb_30 : (Jvm.Cond.methodLink "ChordHerds$Teller" (3 : Nat) ({ cls := "java/lang/Object", name := "<init>", desc := "()V" } : Jvm.MethodName)) ∈ zt := tbl_1 _ (List.mem_of_getElem? (i := 30) (by rfl)) rfl
theorem tb_31 : (Jvm.Cond.classLink "ChordHerds$Teller" (15 : Nat) "ChordHerds$Reader") ∈ zt := tbl_1 _ (List.mem_of_getElem? (i := 31) (by rfl)) rfl
theorem tb_32 : (Jvm.Cond.instantiable "ChordHerds$Reader" (7 : Nat)) ∈ zt := tbl_1 _ (List.mem_of_getElem? (i := 32) (by rfl)) rfl
theorem tb_33 : (Jvm.Cond.methodLink "ChordHerds$Teller" (17 : Nat) ({ cls := "ChordHerds$Reader", name := "<init>", desc := "([B)V" } : Jvm.MethodName)) ∈ zt := tbl_1 _ (List.mem_of_getElem? (i := 33) (by rfl)) rfl
theorem tb_34 : (Jvm.Cond.instanceMethod ({ cls := "ChordHerds$Reader", name := "<init>", desc := "([B)V" } : Jvm.MethodName)) ∈ zt := tbl_1 _ (List.mem_of_getElem? (i := 34) (by rfl)) rfl
theorem tb_35 : (Jvm.Cond.code ({ cls := "ChordHerds$Reader", name := "<init>", desc := "([B)V" } : Jvm.MethodName) prog_8_method_1_code (2 : Nat) (Option.none : Option Jvm.ClassFile.FieldType)) ∈ zt := tbl_1 _ (List.mem_of_getElem? (i := 35) (by rfl)) rfl
theorem tb_36 : (Jvm.Cond.methodLink "ChordHerds$Reader" (3 : Nat) ({ cls := "java/lang/Object", name := "<init>", desc := "()V" } : Jvm.MethodName)) ∈ zt := tbl_1 _ (List.mem_of_getElem? (i := 36) (by rfl)) rfl
theorem tb_37 : (Jvm.Cond.fieldLink "ChordHerds$Reader" (39 : Nat) "ChordHerds$Reader" "many" "I") ∈ zt := tbl_1 _ (List.mem_of_getElem? (i := 37) (by rfl)) rfl
theorem tb_38 : (Jvm.Cond.fieldLink "ChordHerds$Teller" (39 : Nat) "ChordHerds$Reader" "many" "I") ∈ zt := tbl_1 _ (List.mem_of_getElem? (i := 38) (by rfl)) rfl
theorem tb_39 : (Jvm.Cond.fieldLink "ChordHerds$Reader" (11 : Nat) "ChordHerds$Reader" "sorts" "[I") ∈ zt := tbl_1 _ (List.mem_of_getElem? (i := 39) (by rfl)) rfl
theorem tb_40 : (Jvm.Cond.fieldLink "ChordHerds$Teller" (50 : Nat) "ChordHerds$Reader" "sorts" "[I") ∈ zt := tbl_1 _ (List.mem_of_getElem? (i := 40) (by rfl)) rfl
theorem tb_41 : (Jvm.Cond.fieldLink "ChordHerds$Reader" (15 : Nat) "ChordHerds$Reader" "places" "[I") ∈ zt := tbl_1 _ (List.mem_of_getElem? (i := 41) (by rfl)) rfl
theorem tb_42 : (Jvm.Cond.fieldLink "ChordHerds$Teller" (175 : Nat) "ChordHerds$Reader" "places" "[I") ∈ zt := tbl_1 _ (List.mem_of_getElem? (i := 42) (by rfl)) rfl
theorem tb_43 : (Jvm.Cond.fieldLink "ChordHerds$Reader" (18 : Nat) "ChordHerds$Reader" "values" "[J") ∈ zt := tbl_1 _ (List.mem_of_getElem? (i := 43) (by rfl)) rfl
theorem tb_44 : (Jvm.Cond.fieldLink "ChordHerds$Teller" (181 : Nat) "ChordHerds$Reader" "values" "[J") ∈ zt := tbl_1 _ (List.mem_of_getElem? (i := 44) (by rfl)) rfl
theorem tb_45 : (Jvm.Cond.fieldLink "ChordHerds$Reader" (22 : Nat) "ChordHerds$Reader" "text" "[B") ∈ zt := tbl_1 _ (List.mem_of_getElem? (i := 45) (by rfl)) rfl
theorem tb_46 : (Jvm.Cond.fieldLink "ChordHerds$Reader" (32 : Nat) "ChordHerds$Reader" "length" "I") ∈ zt := tbl_1 _ (List.mem_of_getElem? (i := 46) (by rfl)) rfl
theorem tb_47 : (Jvm.Cond.fieldLink "ChordHerds$Reader" (36 : Nat) "ChordHerds$Reader" "at" "I") ∈ zt := tbl_1 _ (List.mem_of_getElem? (i := 47) (by rfl)) rfl
theorem tb_48 : (Jvm.Cond.lays "ChordHerds$Reader" "ChordHerds$Reader" "many" "I") ∈ zt := tbl_1 _ (List.mem_of_getElem? (i := 48) (by rfl)) rfl
theorem tb_50 : (Jvm.Cond.laysFinal "ChordHerds$Reader" "ChordHerds$Reader" "sorts" "[I") ∈ zt := tbl_1 _ (List.mem_of_getElem? (i := 50) (by rfl)) rfl
theorem tb_52 : (Jvm.Cond.laysFinal "ChordHerds$Reader" "ChordHerds$Reader" "places" "[I") ∈ zt := tbl_1 _ (List.mem_of_getElem? (i := 52) (by rfl)) rfl
theorem tb_54 : (Jvm.Cond.laysFinal "ChordHerds$Reader" "ChordHerds$Reader" "values" "[J") ∈ zt := tbl_1 _ (List.mem_of_getElem? (i := 54) (by rfl)) rfl
theorem tb_56 : (Jvm.Cond.laysFinal "ChordHerds$Reader" "ChordHerds$Reader" "text" "[B") ∈ zt := tbl_1 _ (List.mem_of_getElem? (i := 56) (by rfl)) rfl
theorem tb_58 : (Jvm.Cond.lays "ChordHerds$Reader" "ChordHerds$Reader" "length" "I") ∈ zt := tbl_1 _ (List.mem_of_getElem? (i := 58) (by rfl)) rfl
theorem tb_60 : (Jvm.Cond.lays "ChordHerds$Reader" "ChordHerds$Reader" "at" "I") ∈ zt := tbl_1 _ (List.mem_of_getElem? (i := 60) (by rfl)) rfl
theorem tb_63 : (Jvm.Cond.arrayClass Jvm.ClassFile.FieldType.byte) ∈ zt := tbl_1 _ (List.mem_of_getElem? (i := 63) (by rfl)) rfl
theorem tb_64 : (Jvm.Cond.arrayClass Jvm.ClassFile.FieldType.int) ∈ zt := tbl_1 _ (List.mem_of_getElem? (i := 64) (by rfl)) rfl
theorem tb_65 : (Jvm.Cond.arrayClass Jvm.ClassFile.FieldType.long) ∈ zt := tbl_1 _ (List.mem_of_getElem? (i := 65) (by rfl)) rfl
theorem tb_66 : (Jvm.Cond.fieldLink "ChordHerds$Teller" (24 : Nat) "ChordHerds$Teller" "fault" "I") ∈ zt := tbl_1 _ (List.mem_of_getElem? (i := 66) (by rfl)) rfl
theorem tb_67 : (Jvm.Cond.fieldLink "ChordHerds" (125 : Nat) "ChordHerds$Teller" "fault" "I") ∈ zt := tbl_1 _ (List.mem_of_getElem? (i := 67) (by rfl)) rfl
theorem tb_68 : (Jvm.Cond.fieldLink "ChordHerds$Teller" (9 : Nat) "ChordHerds$Teller" "faultPlace" "I") ∈ zt := tbl_1 _ (List.mem_of_getElem? (i := 68) (by rfl)) rfl
theorem tb_69 : (Jvm.Cond.fieldLink "ChordHerds" (128 : Nat) "ChordHerds$Teller" "faultPlace" "I") ∈ zt := tbl_1 _ (List.mem_of_getElem? (i := 69) (by rfl)) rfl
theorem tb_70 : (Jvm.Cond.fieldLink "ChordHerds$Teller" (20 : Nat) "ChordHerds$Teller" "reader" "LChordHerds$Reader;") ∈ zt := tbl_1 _ (List.mem_of_getElem? (i := 70) (by rfl)) rfl
theorem tb_71 : (Jvm.Cond.fieldLink "ChordHerds$Teller" (27 : Nat) "ChordHerds$Teller" "next" "I") ∈ zt := tbl_1 _ (List.mem_of_getElem? (i := 71) (by rfl)) rfl
theorem tb_72 : (Jvm.Cond.fieldLink "ChordHerds$Teller" (178 : Nat) "ChordHerds$Teller" "place" "I") ∈ zt := tbl_1 _ (List.mem_of_getElem? (i := 72) (by rfl)) rfl
theorem tb_73 : (Jvm.Cond.fieldLink "ChordHerds$Teller" (58 : Nat) "ChordHerds$Teller" "value" "J") ∈ zt := tbl_1 _ (List.mem_of_getElem? (i := 73) (by rfl)) rfl
theorem tb_74 : (Jvm.Cond.lays "ChordHerds$Teller" "ChordHerds$Teller" "fault" "I") ∈ zt := tbl_1 _ (List.mem_of_getElem? (i := 74) (by rfl)) rfl
theorem tb_76 : (Jvm.Cond.lays "ChordHerds$Teller" "ChordHerds$Teller" "faultPlace" "I") ∈ zt := tbl_1 _ (List.mem_of_getElem? (i := 76) (by rfl)) rfl
theorem tb_78 : (Jvm.Cond.laysFinal "ChordHerds$Teller" "ChordHerds$Teller" "reader" "LChordHerds$Reader;") ∈ zt := tbl_1 _ (List.mem_of_getElem? (i := 78) (by rfl)) rfl
theorem tb_80 : (Jvm.Cond.lays "ChordHerds$Teller" "ChordHerds$Teller" "next" "I") ∈ zt := tbl_1 _ (List.mem_of_getElem? (i := 80) (by rfl)) rfl
theorem tb_82 : (Jvm.Cond.lays "ChordHerds$Teller" "ChordHerds$Teller" "place" "I") ∈ zt := tbl_1 _ (List.mem_of_getElem? (i := 82) (by rfl)) rfl
theorem tb_84 : (Jvm.Cond.lays "ChordHerds$Teller" "ChordHerds$Teller" "value" "J") ∈ zt := tbl_1 _ (List.mem_of_getElem? (i := 84) (by rfl)) rfl
theorem tb_87 : (Jvm.Cond.classLink "ChordHerds" (22 : Nat) "ChordHerds$Valley") ∈ zt := tbl_1 _ (List.mem_of_getElem? (i := 87) (by rfl)) rfl
theorem tb_88 : (Jvm.Cond.instantiable "ChordHerds$Valley" (15 : Nat)) ∈ zt := tbl_1 _ (List.mem_of_getElem? (i := 88) (by rfl)) rfl
theorem tb_90 : (Jvm.Cond.instanceMethod ({ cls := "ChordHerds$Valley", name := "<init>", desc := "()V" } : Jvm.MethodName)) ∈ zt := tbl_1 _ (List.mem_of_getElem? (i := 90) (by rfl)) rfl
theorem tb_91 : (Jvm.Cond.code ({ cls := "ChordHerds$Valley", name := "<init>", desc := "()V" } : Jvm.MethodName) prog_11_method_1_code (1 : Nat) (Option.none : Option Jvm.ClassFile.FieldType)) ∈ zt := tbl_1 _ (List.mem_of_getElem? (i := 91) (by rfl)) rfl
theorem tb_92 : (Jvm.Cond.methodLink "ChordHerds$Valley" (3 : Nat) ({ cls := "java/lang/Object", name := "<init>", desc := "()V" } : Jvm.MethodName)) ∈ zt := tbl_1 _ (List.mem_of_getElem? (i := 92) (by rfl)) rfl
theorem tb_93 : (Jvm.Cond.fieldLink "ChordHerds$Valley" (40 : Nat) "ChordHerds$Valley" "herds" "I") ∈ zt := tbl_1 _ (List.mem_of_getElem? (i := 93) (by rfl)) rfl
theorem tb_94 : (Jvm.Cond.fieldLink "ChordHerds$Teller" (90 : Nat) "ChordHerds$Valley" "herds" "I") ∈ zt := tbl_1 _ (List.mem_of_getElem? (i := 94) (by rfl)) rfl
theorem tb_95 : (Jvm.Cond.fieldLink "ChordHerds$Parting" (70 : Nat) "ChordHerds$Valley" "herds" "I") ∈ zt := tbl_1 _ (List.mem_of_getElem? (i := 95) (by rfl)) rfl
theorem tb_96 : (Jvm.Cond.fieldLink "ChordHerds" (331 : Nat) "ChordHerds$Valley" "herds" "I") ∈ zt := tbl_1 _ (List.mem_of_getElem? (i := 96) (by rfl)) rfl
theorem tb_97 : (Jvm.Cond.fieldLink "ChordHerds$Valley" (9 : Nat) "ChordHerds$Valley" "herdNames" "[J") ∈ zt := tbl_1 _ (List.mem_of_getElem? (i := 97) (by rfl)) rfl
theorem tb_98 : (Jvm.Cond.fieldLink "ChordHerds$Teller" (93 : Nat) "ChordHerds$Valley" "herdNames" "[J") ∈ zt := tbl_1 _ (List.mem_of_getElem? (i := 98) (by rfl)) rfl
theorem tb_99 : (Jvm.Cond.fieldLink "ChordHerds$Valley" (15 : Nat) "ChordHerds$Valley" "herdBeasts" "[I") ∈ zt := tbl_1 _ (List.mem_of_getElem? (i := 99) (by rfl)) rfl
theorem tb_100 : (Jvm.Cond.fieldLink "ChordHerds$Parting" (73 : Nat) "ChordHerds$Valley" "herdBeasts" "[I") ∈ zt := tbl_1 _ (List.mem_of_getElem? (i := 100) (by rfl)) rfl
theorem tb_101 : (Jvm.Cond.fieldLink "ChordHerds$Valley" (44 : Nat) "ChordHerds$Valley" "bells" "I") ∈ zt := tbl_1 _ (List.mem_of_getElem? (i := 101) (by rfl)) rfl
theorem tb_102 : (Jvm.Cond.fieldLink "ChordHerds$Creeps" (34 : Nat) "ChordHerds$Valley" "bells" "I") ∈ zt := tbl_1 _ (List.mem_of_getElem? (i := 102) (by rfl)) rfl
theorem tb_103 : (Jvm.Cond.fieldLink "ChordHerds$Dealer" (22 : Nat) "ChordHerds$Valley" "bells" "I") ∈ zt := tbl_1 _ (List.mem_of_getElem? (i := 103) (by rfl)) rfl
theorem tb_104 : (Jvm.Cond.fieldLink "ChordHerds$Sets" (73 : Nat) "ChordHerds$Valley" "bells" "I") ∈ zt := tbl_1 _ (List.mem_of_getElem? (i := 104) (by rfl)) rfl
theorem tb_105 : (Jvm.Cond.fieldLink "ChordHerds" (122 : Nat) "ChordHerds$Valley" "bells" "I") ∈ zt := tbl_1 _ (List.mem_of_getElem? (i := 105) (by rfl)) rfl
theorem tb_106 : (Jvm.Cond.fieldLink "ChordHerds$Teller" (111 : Nat) "ChordHerds$Valley" "bells" "I") ∈ zt := tbl_1 _ (List.mem_of_getElem? (i := 106) (by rfl)) rfl
theorem tb_107 : (Jvm.Cond.fieldLink "ChordHerds$Earnest" (57 : Nat) "ChordHerds$Valley" "bells" "I") ∈ zt := tbl_1 _ (List.mem_of_getElem? (i := 107) (by rfl)) rfl
theorem tb_108 : (Jvm.Cond.fieldLink "ChordHerds$Valley" (19 : Nat) "ChordHerds$Valley" "bellNames" "[J") ∈ zt := tbl_1 _ (List.mem_of_getElem? (i := 108) (by rfl)) rfl
theorem tb_109 : (Jvm.Cond.fieldLink "ChordHerds$Teller" (108 : Nat) "ChordHerds$Valley" "bellNames" "[J") ∈ zt := tbl_1 _ (List.mem_of_getElem? (i := 109) (by rfl)) rfl
theorem tb_110 : (Jvm.Cond.fieldLink "ChordHerds$Valley" (22 : Nat) "ChordHerds$Valley" "tones" "[I") ∈ zt := tbl_1 _ (List.mem_of_getElem? (i := 110) (by rfl)) rfl
theorem tb_111 : (Jvm.Cond.fieldLink "ChordHerds$Creeps" (43 : Nat) "ChordHerds$Valley" "tones" "[I") ∈ zt := tbl_1 _ (List.mem_of_getElem? (i := 111) (by rfl)) rfl
theorem tb_112 : (Jvm.Cond.fieldLink "ChordHerds$Sets" (84 : Nat) "ChordHerds$Valley" "tones" "[I") ∈ zt := tbl_1 _ (List.mem_of_getElem? (i := 112) (by rfl)) rfl
theorem tb_113 : (Jvm.Cond.fieldLink "ChordHerds$Earnest" (48 : Nat) "ChordHerds$Valley" "tones" "[I") ∈ zt := tbl_1 _ (List.mem_of_getElem? (i := 113) (by rfl)) rfl
theorem tb_114 : (Jvm.Cond.fieldLink "ChordHerds$Valley" (25 : Nat) "ChordHerds$Valley" "louds" "[I") ∈ zt := tbl_1 _ (List.mem_of_getElem? (i := 114) (by rfl)) rfl
theorem tb_115 : (Jvm.Cond.fieldLink "ChordHerds$Dealer" (31 : Nat) "ChordHerds$Valley" "louds" "[I") ∈ zt := tbl_1 _ (List.mem_of_getElem? (i := 115) (by rfl)) rfl
theorem tb_116 : (Jvm.Cond.fieldLink "ChordHerds" (139 : Nat) "ChordHerds$Valley" "louds" "[I") ∈ zt := tbl_1 _ (List.mem_of_getElem? (i := 116) (by rfl)) rfl
theorem tb_117 : (Jvm.Cond.fieldLink "ChordHerds$Valley" (28 : Nat) "ChordHerds$Valley" "herdOf" "[I") ∈ zt := tbl_1 _ (List.mem_of_getElem? (i := 117) (by rfl)) rfl
theorem tb_118 : (Jvm.Cond.fieldLink "ChordHerds" (142 : Nat) "ChordHerds$Valley" "herdOf" "[I") ∈ zt := tbl_1 _ (List.mem_of_getElem? (i := 118) (by rfl)) rfl
theorem tb_119 : (Jvm.Cond.fieldLink "ChordHerds$Earnest" (15 : Nat) "ChordHerds$Valley" "beasts" "I") ∈ zt := tbl_1 _ (List.mem_of_getElem? (i := 119) (by rfl)) rfl
theorem tb_120 : (Jvm.Cond.fieldLink "ChordHerds$Parting" (15 : Nat) "ChordHerds$Valley" "beasts" "I") ∈ zt := tbl_1 _ (List.mem_of_getElem? (i := 120) (by rfl)) rfl
theorem tb_121 : (Jvm.Cond.fieldLink "ChordHerds$Valley" (47 : Nat) "ChordHerds$Valley" "beasts" "I") ∈ zt := tbl_1 _ (List.mem_of_getElem? (i := 121) (by rfl)) rfl
theorem tb_122 : (Jvm.Cond.fieldLink "ChordHerds" (268 : Nat) "ChordHerds$Valley" "beasts" "I") ∈ zt := tbl_1 _ (List.mem_of_getElem? (i := 122) (by rfl)) rfl
theorem tb_123 : (Jvm.Cond.fieldLink "ChordHerds$Valley" (50 : Nat) "ChordHerds$Valley" "beastsMany" "I") ∈ zt := tbl_1 _ (List.mem_of_getElem? (i := 123) (by rfl)) rfl
theorem tb_124 : (Jvm.Cond.fieldLink "ChordHerds$Teller" (105 : Nat) "ChordHerds$Valley" "beastsMany" "I") ∈ zt := tbl_1 _ (List.mem_of_getElem? (i := 124) (by rfl)) rfl
theorem tb_125 : (Jvm.Cond.fieldLink "ChordHerds" (295 : Nat) "ChordHerds$Valley" "beastsMany" "I") ∈ zt := tbl_1 _ (List.mem_of_getElem? (i := 125) (by rfl)) rfl
theorem tb_126 : (Jvm.Cond.fieldLink "ChordHerds$Valley" (31 : Nat) "ChordHerds$Valley" "beside" "[I") ∈ zt := tbl_1 _ (List.mem_of_getElem? (i := 126) (by rfl)) rfl
theorem tb_127 : (Jvm.Cond.fieldLink "ChordHerds$Teller" (162 : Nat) "ChordHerds$Valley" "beside" "[I") ∈ zt := tbl_1 _ (List.mem_of_getElem? (i := 127) (by rfl)) rfl
theorem tb_128 : (Jvm.Cond.fieldLink "ChordHerds$Valley" (53 : Nat) "ChordHerds$Valley" "besides" "I") ∈ zt := tbl_1 _ (List.mem_of_getElem? (i := 128) (by rfl)) rfl
theorem tb_129 : (Jvm.Cond.fieldLink "ChordHerds$Teller" (155 : Nat) "ChordHerds$Valley" "besides" "I") ∈ zt := tbl_1 _ (List.mem_of_getElem? (i := 129) (by rfl)) rfl
theorem tb_130 : (Jvm.Cond.fieldLink "ChordHerds$Valley" (56 : Nat) "ChordHerds$Valley" "ears" "I") ∈ zt := tbl_1 _ (List.mem_of_getElem? (i := 130) (by rfl)) rfl
theorem tb_131 : (Jvm.Cond.fieldLink "ChordHerds$Teller" (143 : Nat) "ChordHerds$Valley" "ears" "I") ∈ zt := tbl_1 _ (List.mem_of_getElem? (i := 131) (by rfl)) rfl
theorem tb_132 : (Jvm.Cond.fieldLink "ChordHerds" (334 : Nat) "ChordHerds$Valley" "ears" "I") ∈ zt := tbl_1 _ (List.mem_of_getElem? (i := 132) (by rfl)) rfl
theorem tb_133 : (Jvm.Cond.fieldLink "ChordHerds$Valley" (34 : Nat) "ChordHerds$Valley" "earNames" "[J") ∈ zt := tbl_1 _ (List.mem_of_getElem? (i := 133) (by rfl)) rfl
theorem tb_134 : (Jvm.Cond.fieldLink "ChordHerds$Teller" (146 : Nat) "ChordHerds$Valley" "earNames" "[J") ∈ zt := tbl_1 _ (List.mem_of_getElem? (i := 134) (by rfl)) rfl
theorem tb_135 : (Jvm.Cond.fieldLink "ChordHerds$Valley" (37 : Nat) "ChordHerds$Valley" "earPlaces" "[I") ∈ zt := tbl_1 _ (List.mem_of_getElem? (i := 135) (by rfl)) rfl
theorem tb_136 : (Jvm.Cond.lays "ChordHerds$Valley" "ChordHerds$Valley" "herds" "I") ∈ zt := tbl_1 _ (List.mem_of_getElem? (i := 136) (by rfl)) rfl
theorem tb_138 : (Jvm.Cond.laysFinal "ChordHerds$Valley" "ChordHerds$Valley" "herdNames" "[J") ∈ zt := tbl_1 _ (List.mem_of_getElem? (i := 138) (by rfl)) rfl
theorem tb_140 : (Jvm.Cond.laysFinal "ChordHerds$Valley" "ChordHerds$Valley" "herdBeasts" "[I") ∈ zt := tbl_1 _ (List.mem_of_getElem? (i := 140) (by rfl)) rfl
theorem tb_142 : (Jvm.Cond.lays "ChordHerds$Valley" "ChordHerds$Valley" "bells" "I") ∈ zt := tbl_1 _ (List.mem_of_getElem? (i := 142) (by rfl)) rfl
theorem tb_144 : (Jvm.Cond.laysFinal "ChordHerds$Valley" "ChordHerds$Valley" "bellNames" "[J") ∈ zt := tbl_1 _ (List.mem_of_getElem? (i := 144) (by rfl)) rfl
theorem tb_146 : (Jvm.Cond.laysFinal "ChordHerds$Valley" "ChordHerds$Valley" "tones" "[I") ∈ zt := tbl_1 _ (List.mem_of_getElem? (i := 146) (by rfl)) rfl
theorem tb_148 : (Jvm.Cond.laysFinal "ChordHerds$Valley" "ChordHerds$Valley" "louds" "[I") ∈ zt := tbl_1 _ (List.mem_of_getElem? (i := 148) (by rfl)) rfl
theorem tb_150 : (Jvm.Cond.laysFinal "ChordHerds$Valley" "ChordHerds$Valley" "herdOf" "[I") ∈ zt := tbl_1 _ (List.mem_of_getElem? (i := 150) (by rfl)) rfl
theorem tb_152 : (Jvm.Cond.lays "ChordHerds$Valley" "ChordHerds$Valley" "beasts" "I") ∈ zt := tbl_1 _ (List.mem_of_getElem? (i := 152) (by rfl)) rfl
theorem tb_154 : (Jvm.Cond.lays "ChordHerds$Valley" "ChordHerds$Valley" "beastsMany" "I") ∈ zt := tbl_1 _ (List.mem_of_getElem? (i := 154) (by rfl)) rfl
theorem tb_156 : (Jvm.Cond.laysFinal "ChordHerds$Valley" "ChordHerds$Valley" "beside" "[I") ∈ zt := tbl_1 _ (List.mem_of_getElem? (i := 156) (by rfl)) rfl
theorem tb_158 : (Jvm.Cond.lays "ChordHerds$Valley" "ChordHerds$Valley" "besides" "I") ∈ zt := tbl_1 _ (List.mem_of_getElem? (i := 158) (by rfl)) rfl
theorem tb_160 : (Jvm.Cond.lays "ChordHerds$Valley" "ChordHerds$Valley" "ears" "I") ∈ zt := tbl_1 _ (List.mem_of_getElem? (i := 160) (by rfl)) rfl
theorem tb_162 : (Jvm.Cond.laysFinal "ChordHerds$Valley" "ChordHerds$Valley" "earNames" "[J") ∈ zt := tbl_1 _ (List.mem_of_getElem? (i := 162) (by rfl)) rfl
theorem tb_164 : (Jvm.Cond.laysFinal "ChordHerds$Valley" "ChordHerds$Valley" "earPlaces" "[I") ∈ zt := tbl_1 _ (List.mem_of_getElem? (i := 164) (by rfl)) rfl
theorem tb_167 : (Jvm.Cond.classLink "ChordHerds" (32 : Nat) "ChordHerds$Earnest") ∈ zt := tbl_1 _ (List.mem_of_getElem? (i := 167) (by rfl)) rfl
theorem tb_168 : (Jvm.Cond.instantiable "ChordHerds$Earnest" (6 : Nat)) ∈ zt := tbl_1 _ (List.mem_of_getElem? (i := 168) (by rfl)) rfl
theorem tb_170 : (Jvm.Cond.instanceMethod ({ cls := "ChordHerds$Earnest", name := "<init>", desc := "()V" } : Jvm.MethodName)) ∈ zt := tbl_1 _ (List.mem_of_getElem? (i := 170) (by rfl)) rfl
theorem tb_171 : (Jvm.Cond.code ({ cls := "ChordHerds$Earnest", name := "<init>", desc := "()V" } : Jvm.MethodName) prog_5_method_1_code (1 : Nat) (Option.none : Option Jvm.ClassFile.FieldType)) ∈ zt := tbl_1 _ (List.mem_of_getElem? (i := 171) (by rfl)) rfl
theorem tb_172 : (Jvm.Cond.methodLink "ChordHerds$Earnest" (3 : Nat) ({ cls := "java/lang/Object", name := "<init>", desc := "()V" } : Jvm.MethodName)) ∈ zt := tbl_1 _ (List.mem_of_getElem? (i := 172) (by rfl)) rfl
theorem tb_173 : (Jvm.Cond.fieldLink "ChordHerds$Earnest" (21 : Nat) "ChordHerds$Earnest" "there" "I") ∈ zt := tbl_1 _ (List.mem_of_getElem? (i := 173) (by rfl)) rfl
theorem tb_174 : (Jvm.Cond.fieldLink "ChordHerds" (147 : Nat) "ChordHerds$Earnest" "there" "I") ∈ zt := tbl_1 _ (List.mem_of_getElem? (i := 174) (by rfl)) rfl
theorem tb_175 : (Jvm.Cond.fieldLink "ChordHerds$Earnest" (24 : Nat) "ChordHerds$Earnest" "stands" "I") ∈ zt := tbl_1 _ (List.mem_of_getElem? (i := 175) (by rfl)) rfl
theorem tb_176 : (Jvm.Cond.fieldLink "ChordHerds" (150 : Nat) "ChordHerds$Earnest" "stands" "I") ∈ zt := tbl_1 _ (List.mem_of_getElem? (i := 176) (by rfl)) rfl
theorem tb_177 : (Jvm.Cond.fieldLink "ChordHerds$Earnest" (27 : Nat) "ChordHerds$Earnest" "place" "I") ∈ zt := tbl_1 _ (List.mem_of_getElem? (i := 177) (by rfl)) rfl
theorem tb_178 : (Jvm.Cond.fieldLink "ChordHerds" (172 : Nat) "ChordHerds$Earnest" "place" "I") ∈ zt := tbl_1 _ (List.mem_of_getElem? (i := 178) (by rfl)) rfl
theorem tb_179 : (Jvm.Cond.fieldLink "ChordHerds$Earnest" (30 : Nat) "ChordHerds$Earnest" "wind" "I") ∈ zt := tbl_1 _ (List.mem_of_getElem? (i := 179) (by rfl)) rfl
theorem tb_180 : (Jvm.Cond.fieldLink "ChordHerds" (175 : Nat) "ChordHerds$Earnest" "wind" "I") ∈ zt := tbl_1 _ (List.mem_of_getElem? (i := 180) (by rfl)) rfl
theorem tb_181 : (Jvm.Cond.fieldLink "ChordHerds$Earnest" (33 : Nat) "ChordHerds$Earnest" "year" "I") ∈ zt := tbl_1 _ (List.mem_of_getElem? (i := 181) (by rfl)) rfl
theorem tb_182 : (Jvm.Cond.fieldLink "ChordHerds" (178 : Nat) "ChordHerds$Earnest" "year" "I") ∈ zt := tbl_1 _ (List.mem_of_getElem? (i := 182) (by rfl)) rfl
theorem tb_183 : (Jvm.Cond.fieldLink "ChordHerds$Earnest" (9 : Nat) "ChordHerds$Earnest" "creeps" "[I") ∈ zt := tbl_1 _ (List.mem_of_getElem? (i := 183) (by rfl)) rfl
theorem tb_184 : (Jvm.Cond.fieldLink "ChordHerds" (145 : Nat) "ChordHerds$Earnest" "creeps" "[I") ∈ zt := tbl_1 _ (List.mem_of_getElem? (i := 184) (by rfl)) rfl
theorem tb_185 : (Jvm.Cond.lays "ChordHerds$Earnest" "ChordHerds$Earnest" "there" "I") ∈ zt := tbl_1 _ (List.mem_of_getElem? (i := 185) (by rfl)) rfl
theorem tb_187 : (Jvm.Cond.lays "ChordHerds$Earnest" "ChordHerds$Earnest" "stands" "I") ∈ zt := tbl_1 _ (List.mem_of_getElem? (i := 187) (by rfl)) rfl
theorem tb_189 : (Jvm.Cond.lays "ChordHerds$Earnest" "ChordHerds$Earnest" "place" "I") ∈ zt := tbl_1 _ (List.mem_of_getElem? (i := 189) (by rfl)) rfl
theorem tb_191 : (Jvm.Cond.lays "ChordHerds$Earnest" "ChordHerds$Earnest" "wind" "I") ∈ zt := tbl_1 _ (List.mem_of_getElem? (i := 191) (by rfl)) rfl
theorem tb_193 : (Jvm.Cond.lays "ChordHerds$Earnest" "ChordHerds$Earnest" "year" "I") ∈ zt := tbl_1 _ (List.mem_of_getElem? (i := 193) (by rfl)) rfl
theorem tb_195 : (Jvm.Cond.laysFinal "ChordHerds$Earnest" "ChordHerds$Earnest" "creeps" "[I") ∈ zt := tbl_1 _ (List.mem_of_getElem? (i := 195) (by rfl)) rfl
theorem tb_199 : (Jvm.Cond.classLink "ChordHerds" (43 : Nat) "ChordHerds$Entries") ∈ zt := tbl_1 _ (List.mem_of_getElem? (i := 199) (by rfl)) rfl
theorem tb_200 : (Jvm.Cond.instantiable "ChordHerds$Entries" (8 : Nat)) ∈ zt := tbl_1 _ (List.mem_of_getElem? (i := 200) (by rfl)) rfl
theorem tb_202 : (Jvm.Cond.instanceMethod ({ cls := "ChordHerds$Entries", name := "<init>", desc := "()V" } : Jvm.MethodName)) ∈ zt := tbl_1 _ (List.mem_of_getElem? (i := 202) (by rfl)) rfl
theorem tb_203 : (Jvm.Cond.code ({ cls := "ChordHerds$Entries", name := "<init>", desc := "()V" } : Jvm.MethodName) prog_6_method_1_code (1 : Nat) (Option.none : Option Jvm.ClassFile.FieldType)) ∈ zt := tbl_1 _ (List.mem_of_getElem? (i := 203) (by rfl)) rfl
theorem tb_204 : (Jvm.Cond.methodLink "ChordHerds$Entries" (3 : Nat) ({ cls := "java/lang/Object", name := "<init>", desc := "()V" } : Jvm.MethodName)) ∈ zt := tbl_1 _ (List.mem_of_getElem? (i := 204) (by rfl)) rfl
theorem tb_205 : (Jvm.Cond.fieldLink "ChordHerds$Entries" (33 : Nat) "ChordHerds$Entries" "many" "I") ∈ zt := tbl_1 _ (List.mem_of_getElem? (i := 205) (by rfl)) rfl
theorem tb_206 : (Jvm.Cond.fieldLink "ChordHerds$Bounds" (37 : Nat) "ChordHerds$Entries" "many" "I") ∈ zt := tbl_1 _ (List.mem_of_getElem? (i := 206) (by rfl)) rfl
theorem tb_207 : (Jvm.Cond.fieldLink "ChordHerds$Creeps" (47 : Nat) "ChordHerds$Entries" "many" "I") ∈ zt := tbl_1 _ (List.mem_of_getElem? (i := 207) (by rfl)) rfl
theorem tb_208 : (Jvm.Cond.fieldLink "ChordHerds" (109 : Nat) "ChordHerds$Entries" "many" "I") ∈ zt := tbl_1 _ (List.mem_of_getElem? (i := 208) (by rfl)) rfl
theorem tb_209 : (Jvm.Cond.fieldLink "ChordHerds$Entries" (9 : Nat) "ChordHerds$Entries" "when" "[I") ∈ zt := tbl_1 _ (List.mem_of_getElem? (i := 209) (by rfl)) rfl
theorem tb_210 : (Jvm.Cond.fieldLink "ChordHerds$Bounds" (46 : Nat) "ChordHerds$Entries" "when" "[I") ∈ zt := tbl_1 _ (List.mem_of_getElem? (i := 210) (by rfl)) rfl
theorem tb_211 : (Jvm.Cond.fieldLink "ChordHerds$Creeps" (59 : Nat) "ChordHerds$Entries" "when" "[I") ∈ zt := tbl_1 _ (List.mem_of_getElem? (i := 211) (by rfl)) rfl
theorem tb_212 : (Jvm.Cond.fieldLink "ChordHerds" (275 : Nat) "ChordHerds$Entries" "when" "[I") ∈ zt := tbl_1 _ (List.mem_of_getElem? (i := 212) (by rfl)) rfl
theorem tb_213 : (Jvm.Cond.fieldLink "ChordHerds$Entries" (15 : Nat) "ChordHerds$Entries" "ear" "[I") ∈ zt := tbl_1 _ (List.mem_of_getElem? (i := 213) (by rfl)) rfl
theorem tb_214 : (Jvm.Cond.fieldLink "ChordHerds$Bounds" (57 : Nat) "ChordHerds$Entries" "ear" "[I") ∈ zt := tbl_1 _ (List.mem_of_getElem? (i := 214) (by rfl)) rfl
theorem tb_215 : (Jvm.Cond.fieldLink "ChordHerds" (284 : Nat) "ChordHerds$Entries" "ear" "[I") ∈ zt := tbl_1 _ (List.mem_of_getElem? (i := 215) (by rfl)) rfl
theorem tb_216 : (Jvm.Cond.fieldLink "ChordHerds$Entries" (18 : Nat) "ChordHerds$Entries" "tones" "[I") ∈ zt := tbl_1 _ (List.mem_of_getElem? (i := 216) (by rfl)) rfl
theorem tb_217 : (Jvm.Cond.fieldLink "ChordHerds$Creeps" (62 : Nat) "ChordHerds$Entries" "tones" "[I") ∈ zt := tbl_1 _ (List.mem_of_getElem? (i := 217) (by rfl)) rfl
theorem tb_218 : (Jvm.Cond.fieldLink "ChordHerds$Bounds" (60 : Nat) "ChordHerds$Entries" "tones" "[I") ∈ zt := tbl_1 _ (List.mem_of_getElem? (i := 218) (by rfl)) rfl
theorem tb_219 : (Jvm.Cond.fieldLink "ChordHerds" (281 : Nat) "ChordHerds$Entries" "tones" "[I") ∈ zt := tbl_1 _ (List.mem_of_getElem? (i := 219) (by rfl)) rfl
theorem tb_220 : (Jvm.Cond.fieldLink "ChordHerds$Entries" (21 : Nat) "ChordHerds$Entries" "least" "[I") ∈ zt := tbl_1 _ (List.mem_of_getElem? (i := 220) (by rfl)) rfl
theorem tb_221 : (Jvm.Cond.fieldLink "ChordHerds$Bounds" (65 : Nat) "ChordHerds$Entries" "least" "[I") ∈ zt := tbl_1 _ (List.mem_of_getElem? (i := 221) (by rfl)) rfl
theorem tb_222 : (Jvm.Cond.fieldLink "ChordHerds" (289 : Nat) "ChordHerds$Entries" "least" "[I") ∈ zt := tbl_1 _ (List.mem_of_getElem? (i := 222) (by rfl)) rfl
theorem tb_223 : (Jvm.Cond.fieldLink "ChordHerds$Entries" (24 : Nat) "ChordHerds$Entries" "most" "[I") ∈ zt := tbl_1 _ (List.mem_of_getElem? (i := 223) (by rfl)) rfl
theorem tb_224 : (Jvm.Cond.fieldLink "ChordHerds$Bounds" (72 : Nat) "ChordHerds$Entries" "most" "[I") ∈ zt := tbl_1 _ (List.mem_of_getElem? (i := 224) (by rfl)) rfl
theorem tb_225 : (Jvm.Cond.fieldLink "ChordHerds" (292 : Nat) "ChordHerds$Entries" "most" "[I") ∈ zt := tbl_1 _ (List.mem_of_getElem? (i := 225) (by rfl)) rfl
theorem tb_226 : (Jvm.Cond.fieldLink "ChordHerds$Entries" (27 : Nat) "ChordHerds$Entries" "told" "[I") ∈ zt := tbl_1 _ (List.mem_of_getElem? (i := 226) (by rfl)) rfl
theorem tb_227 : (Jvm.Cond.fieldLink "ChordHerds$Entries" (30 : Nat) "ChordHerds$Entries" "untold" "[I") ∈ zt := tbl_1 _ (List.mem_of_getElem? (i := 227) (by rfl)) rfl
theorem tb_228 : (Jvm.Cond.fieldLink "ChordHerds" (204 : Nat) "ChordHerds$Entries" "untold" "[I") ∈ zt := tbl_1 _ (List.mem_of_getElem? (i := 228) (by rfl)) rfl
theorem tb_229 : (Jvm.Cond.lays "ChordHerds$Entries" "ChordHerds$Entries" "many" "I") ∈ zt := tbl_1 _ (List.mem_of_getElem? (i := 229) (by rfl)) rfl
theorem tb_231 : (Jvm.Cond.laysFinal "ChordHerds$Entries" "ChordHerds$Entries" "when" "[I") ∈ zt := tbl_1 _ (List.mem_of_getElem? (i := 231) (by rfl)) rfl
theorem tb_233 : (Jvm.Cond.laysFinal "ChordHerds$Entries" "ChordHerds$Entries" "ear" "[I") ∈ zt := tbl_1 _ (List.mem_of_getElem? (i := 233) (by rfl)) rfl
theorem tb_235 : (Jvm.Cond.laysFinal "ChordHerds$Entries" "ChordHerds$Entries" "tones" "[I") ∈ zt := tbl_1 _ (List.mem_of_getElem? (i := 235) (by rfl)) rfl
theorem tb_237 : (Jvm.Cond.laysFinal "ChordHerds$Entries" "ChordHerds$Entries" "least" "[I") ∈ zt := tbl_1 _ (List.mem_of_getElem? (i := 237) (by rfl)) rfl
theorem tb_239 : (Jvm.Cond.laysFinal "ChordHerds$Entries" "ChordHerds$Entries" "most" "[I") ∈ zt := tbl_1 _ (List.mem_of_getElem? (i := 239) (by rfl)) rfl
theorem tb_241 : (Jvm.Cond.laysFinal "ChordHerds$Entries" "ChordHerds$Entries" "told" "[I") ∈ zt := tbl_2 _ (List.mem_of_getElem? (i := 1) (by rfl)) rfl
theorem tb_243 : (Jvm.Cond.laysFinal "ChordHerds$Entries" "ChordHerds$Entries" "untold" "[I") ∈ zt := tbl_2 _ (List.mem_of_getElem? (i := 3) (by rfl)) rfl
theorem tb_246 : (Jvm.Cond.classLink "ChordHerds" (54 : Nat) "ChordHerds$Bounds") ∈ zt := tbl_2 _ (List.mem_of_getElem? (i := 6) (by rfl)) rfl
theorem tb_247 : (Jvm.Cond.instantiable "ChordHerds$Bounds" (6 : Nat)) ∈ zt := tbl_2 _ (List.mem_of_getElem? (i := 7) (by rfl)) rfl
theorem tb_249 : (Jvm.Cond.instanceMethod ({ cls := "ChordHerds$Bounds", name := "<init>", desc := "()V" } : Jvm.MethodName)) ∈ zt := tbl_2 _ (List.mem_of_getElem? (i := 9) (by rfl)) rfl
theorem tb_250 : (Jvm.Cond.code ({ cls := "ChordHerds$Bounds", name := "<init>", desc := "()V" } : Jvm.MethodName) prog_2_method_1_code (1 : Nat) (Option.none : Option Jvm.ClassFile.FieldType)) ∈ zt := tbl_2 _ (List.mem_of_getElem? (i := 10) (by rfl)) rfl
theorem tb_251 : (Jvm.Cond.methodLink "ChordHerds$Bounds" (3 : Nat) ({ cls := "java/lang/Object", name := "<init>", desc := "()V" } : Jvm.MethodName)) ∈ zt := tbl_2 _ (List.mem_of_getElem? (i := 11) (by rfl)) rfl
theorem tb_252 : (Jvm.Cond.fieldLink "ChordHerds$Bounds" (24 : Nat) "ChordHerds$Bounds" "tones" "I") ∈ zt := tbl_2 _ (List.mem_of_getElem? (i := 12) (by rfl)) rfl
theorem tb_253 : (Jvm.Cond.fieldLink "ChordHerds$Sets" (80 : Nat) "ChordHerds$Bounds" "tones" "I") ∈ zt := tbl_2 _ (List.mem_of_getElem? (i := 13) (by rfl)) rfl
theorem tb_254 : (Jvm.Cond.fieldLink "ChordHerds$Bounds" (9 : Nat) "ChordHerds$Bounds" "tonesAt" "[I") ∈ zt := tbl_2 _ (List.mem_of_getElem? (i := 14) (by rfl)) rfl
theorem tb_255 : (Jvm.Cond.fieldLink "ChordHerds$Bounds" (28 : Nat) "ChordHerds$Bounds" "earsMany" "I") ∈ zt := tbl_2 _ (List.mem_of_getElem? (i := 15) (by rfl)) rfl
theorem tb_256 : (Jvm.Cond.fieldLink "ChordHerds$Sets" (91 : Nat) "ChordHerds$Bounds" "earsMany" "I") ∈ zt := tbl_2 _ (List.mem_of_getElem? (i := 16) (by rfl)) rfl
theorem tb_257 : (Jvm.Cond.fieldLink "ChordHerds$Bounds" (15 : Nat) "ChordHerds$Bounds" "ears" "[I") ∈ zt := tbl_2 _ (List.mem_of_getElem? (i := 17) (by rfl)) rfl
theorem tb_258 : (Jvm.Cond.fieldLink "ChordHerds$Sets" (94 : Nat) "ChordHerds$Bounds" "ears" "[I") ∈ zt := tbl_2 _ (List.mem_of_getElem? (i := 18) (by rfl)) rfl
theorem tb_259 : (Jvm.Cond.fieldLink "ChordHerds$Bounds" (18 : Nat) "ChordHerds$Bounds" "least" "[I") ∈ zt := tbl_2 _ (List.mem_of_getElem? (i := 19) (by rfl)) rfl
theorem tb_260 : (Jvm.Cond.fieldLink "ChordHerds$Bounds" (21 : Nat) "ChordHerds$Bounds" "most" "[I") ∈ zt := tbl_2 _ (List.mem_of_getElem? (i := 20) (by rfl)) rfl
theorem tb_261 : (Jvm.Cond.lays "ChordHerds$Bounds" "ChordHerds$Bounds" "tones" "I") ∈ zt := tbl_2 _ (List.mem_of_getElem? (i := 21) (by rfl)) rfl
theorem tb_263 : (Jvm.Cond.laysFinal "ChordHerds$Bounds" "ChordHerds$Bounds" "tonesAt" "[I") ∈ zt := tbl_2 _ (List.mem_of_getElem? (i := 23) (by rfl)) rfl
theorem tb_265 : (Jvm.Cond.lays "ChordHerds$Bounds" "ChordHerds$Bounds" "earsMany" "I") ∈ zt := tbl_2 _ (List.mem_of_getElem? (i := 25) (by rfl)) rfl
theorem tb_267 : (Jvm.Cond.laysFinal "ChordHerds$Bounds" "ChordHerds$Bounds" "ears" "[I") ∈ zt := tbl_2 _ (List.mem_of_getElem? (i := 27) (by rfl)) rfl
theorem tb_269 : (Jvm.Cond.laysFinal "ChordHerds$Bounds" "ChordHerds$Bounds" "least" "[I") ∈ zt := tbl_2 _ (List.mem_of_getElem? (i := 29) (by rfl)) rfl
theorem tb_271 : (Jvm.Cond.laysFinal "ChordHerds$Bounds" "ChordHerds$Bounds" "most" "[I") ∈ zt := tbl_2 _ (List.mem_of_getElem? (i := 31) (by rfl)) rfl
theorem tb_274 : (Jvm.Cond.classLink "ChordHerds" (61 : Nat) "ChordHerds$Sets") ∈ zt := tbl_2 _ (List.mem_of_getElem? (i := 34) (by rfl)) rfl
theorem tb_275 : (Jvm.Cond.instantiable "ChordHerds$Sets" (14 : Nat)) ∈ zt := tbl_2 _ (List.mem_of_getElem? (i := 35) (by rfl)) rfl
theorem tb_277 : (Jvm.Cond.instanceMethod ({ cls := "ChordHerds$Sets", name := "<init>", desc := "()V" } : Jvm.MethodName)) ∈ zt := tbl_2 _ (List.mem_of_getElem? (i := 37) (by rfl)) rfl
theorem tb_278 : (Jvm.Cond.code ({ cls := "ChordHerds$Sets", name := "<init>", desc := "()V" } : Jvm.MethodName) prog_9_method_1_code (1 : Nat) (Option.none : Option Jvm.ClassFile.FieldType)) ∈ zt := tbl_2 _ (List.mem_of_getElem? (i := 38) (by rfl)) rfl
theorem tb_279 : (Jvm.Cond.methodLink "ChordHerds$Sets" (3 : Nat) ({ cls := "java/lang/Object", name := "<init>", desc := "()V" } : Jvm.MethodName)) ∈ zt := tbl_2 _ (List.mem_of_getElem? (i := 39) (by rfl)) rfl
theorem tb_280 : (Jvm.Cond.fieldLink "ChordHerds$Sets" (60 : Nat) "ChordHerds$Sets" "many" "I") ∈ zt := tbl_2 _ (List.mem_of_getElem? (i := 40) (by rfl)) rfl
theorem tb_281 : (Jvm.Cond.fieldLink "ChordHerds" (216 : Nat) "ChordHerds$Sets" "many" "I") ∈ zt := tbl_2 _ (List.mem_of_getElem? (i := 41) (by rfl)) rfl
theorem tb_282 : (Jvm.Cond.fieldLink "ChordHerds$Sets" (63 : Nat) "ChordHerds$Sets" "sure" "I") ∈ zt := tbl_2 _ (List.mem_of_getElem? (i := 42) (by rfl)) rfl
theorem tb_283 : (Jvm.Cond.fieldLink "ChordHerds" (217 : Nat) "ChordHerds$Sets" "sure" "I") ∈ zt := tbl_2 _ (List.mem_of_getElem? (i := 43) (by rfl)) rfl
theorem tb_284 : (Jvm.Cond.fieldLink "ChordHerds$Sets" (70 : Nat) "ChordHerds$Sets" "quiet" "I") ∈ zt := tbl_2 _ (List.mem_of_getElem? (i := 44) (by rfl)) rfl
theorem tb_285 : (Jvm.Cond.fieldLink "ChordHerds" (220 : Nat) "ChordHerds$Sets" "quiet" "I") ∈ zt := tbl_2 _ (List.mem_of_getElem? (i := 45) (by rfl)) rfl
theorem tb_286 : (Jvm.Cond.fieldLink "ChordHerds$Sets" (50 : Nat) "ChordHerds$Sets" "places" "I") ∈ zt := tbl_2 _ (List.mem_of_getElem? (i := 46) (by rfl)) rfl
theorem tb_287 : (Jvm.Cond.fieldLink "ChordHerds" (223 : Nat) "ChordHerds$Sets" "places" "I") ∈ zt := tbl_2 _ (List.mem_of_getElem? (i := 47) (by rfl)) rfl
theorem tb_288 : (Jvm.Cond.fieldLink "ChordHerds$Sets" (54 : Nat) "ChordHerds$Sets" "leastPlace" "I") ∈ zt := tbl_2 _ (List.mem_of_getElem? (i := 48) (by rfl)) rfl
theorem tb_289 : (Jvm.Cond.fieldLink "ChordHerds" (226 : Nat) "ChordHerds$Sets" "leastPlace" "I") ∈ zt := tbl_2 _ (List.mem_of_getElem? (i := 49) (by rfl)) rfl
theorem tb_290 : (Jvm.Cond.fieldLink "ChordHerds$Sets" (57 : Nat) "ChordHerds$Sets" "greatestPlace" "I") ∈ zt := tbl_2 _ (List.mem_of_getElem? (i := 50) (by rfl)) rfl
theorem tb_291 : (Jvm.Cond.fieldLink "ChordHerds" (229 : Nat) "ChordHerds$Sets" "greatestPlace" "I") ∈ zt := tbl_2 _ (List.mem_of_getElem? (i := 51) (by rfl)) rfl
theorem tb_292 : (Jvm.Cond.fieldLink "ChordHerds$Sets" (38 : Nat) "ChordHerds$Sets" "foundHere" "Z") ∈ zt := tbl_2 _ (List.mem_of_getElem? (i := 52) (by rfl)) rfl
theorem tb_293 : (Jvm.Cond.fieldLink "ChordHerds$Sets" (77 : Nat) "ChordHerds$Sets" "asked" "I") ∈ zt := tbl_2 _ (List.mem_of_getElem? (i := 53) (by rfl)) rfl
theorem tb_294 : (Jvm.Cond.fieldLink "ChordHerds$Sets" (9 : Nat) "ChordHerds$Sets" "bells" "[I") ∈ zt := tbl_2 _ (List.mem_of_getElem? (i := 54) (by rfl)) rfl
theorem tb_295 : (Jvm.Cond.fieldLink "ChordHerds$Sets" (15 : Nat) "ChordHerds$Sets" "tones" "[I") ∈ zt := tbl_2 _ (List.mem_of_getElem? (i := 55) (by rfl)) rfl
theorem tb_296 : (Jvm.Cond.fieldLink "ChordHerds$Sets" (18 : Nat) "ChordHerds$Sets" "louds" "[I") ∈ zt := tbl_2 _ (List.mem_of_getElem? (i := 56) (by rfl)) rfl
theorem tb_297 : (Jvm.Cond.fieldLink "ChordHerds$Sets" (21 : Nat) "ChordHerds$Sets" "sum" "[I") ∈ zt := tbl_2 _ (List.mem_of_getElem? (i := 57) (by rfl)) rfl
theorem tb_298 : (Jvm.Cond.fieldLink "ChordHerds$Sets" (24 : Nat) "ChordHerds$Sets" "rest" "[I") ∈ zt := tbl_2 _ (List.mem_of_getElem? (i := 58) (by rfl)) rfl
theorem tb_299 : (Jvm.Cond.fieldLink "ChordHerds$Sets" (27 : Nat) "ChordHerds$Sets" "seen" "[I") ∈ zt := tbl_2 _ (List.mem_of_getElem? (i := 59) (by rfl)) rfl
theorem tb_300 : (Jvm.Cond.lays "ChordHerds$Sets" "ChordHerds$Sets" "many" "I") ∈ zt := tbl_2 _ (List.mem_of_getElem? (i := 60) (by rfl)) rfl
theorem tb_302 : (Jvm.Cond.lays "ChordHerds$Sets" "ChordHerds$Sets" "sure" "I") ∈ zt := tbl_2 _ (List.mem_of_getElem? (i := 62) (by rfl)) rfl
theorem tb_304 : (Jvm.Cond.lays "ChordHerds$Sets" "ChordHerds$Sets" "quiet" "I") ∈ zt := tbl_2 _ (List.mem_of_getElem? (i := 64) (by rfl)) rfl
theorem tb_306 : (Jvm.Cond.lays "ChordHerds$Sets" "ChordHerds$Sets" "places" "I") ∈ zt := tbl_2 _ (List.mem_of_getElem? (i := 66) (by rfl)) rfl
theorem tb_308 : (Jvm.Cond.lays "ChordHerds$Sets" "ChordHerds$Sets" "leastPlace" "I") ∈ zt := tbl_2 _ (List.mem_of_getElem? (i := 68) (by rfl)) rfl
theorem tb_310 : (Jvm.Cond.lays "ChordHerds$Sets" "ChordHerds$Sets" "greatestPlace" "I") ∈ zt := tbl_2 _ (List.mem_of_getElem? (i := 70) (by rfl)) rfl
theorem tb_312 : (Jvm.Cond.lays "ChordHerds$Sets" "ChordHerds$Sets" "foundHere" "Z") ∈ zt := tbl_2 _ (List.mem_of_getElem? (i := 72) (by rfl)) rfl
theorem tb_314 : (Jvm.Cond.lays "ChordHerds$Sets" "ChordHerds$Sets" "asked" "I") ∈ zt := tbl_2 _ (List.mem_of_getElem? (i := 74) (by rfl)) rfl
theorem tb_316 : (Jvm.Cond.laysFinal "ChordHerds$Sets" "ChordHerds$Sets" "bells" "[I") ∈ zt := tbl_2 _ (List.mem_of_getElem? (i := 76) (by rfl)) rfl
theorem tb_318 : (Jvm.Cond.laysFinal "ChordHerds$Sets" "ChordHerds$Sets" "tones" "[I") ∈ zt := tbl_2 _ (List.mem_of_getElem? (i := 78) (by rfl)) rfl
theorem tb_320 : (Jvm.Cond.laysFinal "ChordHerds$Sets" "ChordHerds$Sets" "louds" "[I") ∈ zt := tbl_2 _ (List.mem_of_getElem? (i := 80) (by rfl)) rfl
theorem tb_322 : (Jvm.Cond.laysFinal "ChordHerds$Sets" "ChordHerds$Sets" "sum" "[I") ∈ zt := tbl_2 _ (List.mem_of_getElem? (i := 82) (by rfl)) rfl
theorem tb_324 : (Jvm.Cond.laysFinal "ChordHerds$Sets" "ChordHerds$Sets" "rest" "[I") ∈ zt := tbl_2 _ (List.mem_of_getElem? (i := 84) (by rfl)) rfl
theorem tb_326 : (Jvm.Cond.laysFinal "ChordHerds$Sets" "ChordHerds$Sets" "seen" "[I") ∈ zt := tbl_2 _ (List.mem_of_getElem? (i := 86) (by rfl)) rfl
theorem tb_329 : (Jvm.Cond.classLink "ChordHerds" (68 : Nat) "ChordHerds$Parting") ∈ zt := tbl_2 _ (List.mem_of_getElem? (i := 89) (by rfl)) rfl
theorem tb_330 : (Jvm.Cond.instantiable "ChordHerds$Parting" (11 : Nat)) ∈ zt := tbl_2 _ (List.mem_of_getElem? (i := 90) (by rfl)) rfl
theorem tb_332 : (Jvm.Cond.instanceMethod ({ cls := "ChordHerds$Parting", name := "<init>", desc := "()V" } : Jvm.MethodName)) ∈ zt := tbl_2 _ (List.mem_of_getElem? (i := 92) (by rfl)) rfl
theorem tb_333 : (Jvm.Cond.code ({ cls := "ChordHerds$Parting", name := "<init>", desc := "()V" } : Jvm.MethodName) prog_7_method_1_code (1 : Nat) (Option.none : Option Jvm.ClassFile.FieldType)) ∈ zt := tbl_2 _ (List.mem_of_getElem? (i := 93) (by rfl)) rfl
theorem tb_334 : (Jvm.Cond.methodLink "ChordHerds$Parting" (3 : Nat) ({ cls := "java/lang/Object", name := "<init>", desc := "()V" } : Jvm.MethodName)) ∈ zt := tbl_2 _ (List.mem_of_getElem? (i := 94) (by rfl)) rfl
theorem tb_335 : (Jvm.Cond.fieldLink "ChordHerds" (118 : Nat) "ChordHerds$Parting" "told" "Z") ∈ zt := tbl_2 _ (List.mem_of_getElem? (i := 95) (by rfl)) rfl
theorem tb_336 : (Jvm.Cond.fieldLink "ChordHerds$Parting" (44 : Nat) "ChordHerds$Parting" "earA" "I") ∈ zt := tbl_2 _ (List.mem_of_getElem? (i := 96) (by rfl)) rfl
theorem tb_337 : (Jvm.Cond.fieldLink "ChordHerds" (232 : Nat) "ChordHerds$Parting" "earA" "I") ∈ zt := tbl_2 _ (List.mem_of_getElem? (i := 97) (by rfl)) rfl
theorem tb_338 : (Jvm.Cond.fieldLink "ChordHerds$Parting" (53 : Nat) "ChordHerds$Parting" "placeA" "I") ∈ zt := tbl_2 _ (List.mem_of_getElem? (i := 98) (by rfl)) rfl
theorem tb_339 : (Jvm.Cond.fieldLink "ChordHerds" (235 : Nat) "ChordHerds$Parting" "placeA" "I") ∈ zt := tbl_2 _ (List.mem_of_getElem? (i := 99) (by rfl)) rfl
theorem tb_340 : (Jvm.Cond.fieldLink "ChordHerds$Parting" (64 : Nat) "ChordHerds$Parting" "earB" "I") ∈ zt := tbl_2 _ (List.mem_of_getElem? (i := 100) (by rfl)) rfl
theorem tb_341 : (Jvm.Cond.fieldLink "ChordHerds" (238 : Nat) "ChordHerds$Parting" "earB" "I") ∈ zt := tbl_2 _ (List.mem_of_getElem? (i := 101) (by rfl)) rfl
theorem tb_342 : (Jvm.Cond.fieldLink "ChordHerds$Parting" (67 : Nat) "ChordHerds$Parting" "placeB" "I") ∈ zt := tbl_2 _ (List.mem_of_getElem? (i := 102) (by rfl)) rfl
theorem tb_343 : (Jvm.Cond.fieldLink "ChordHerds" (241 : Nat) "ChordHerds$Parting" "placeB" "I") ∈ zt := tbl_2 _ (List.mem_of_getElem? (i := 103) (by rfl)) rfl
theorem tb_344 : (Jvm.Cond.fieldLink "ChordHerds" (244 : Nat) "ChordHerds$Parting" "quarter" "I") ∈ zt := tbl_2 _ (List.mem_of_getElem? (i := 104) (by rfl)) rfl
theorem tb_345 : (Jvm.Cond.fieldLink "ChordHerds$Parting" (9 : Nat) "ChordHerds$Parting" "many" "I") ∈ zt := tbl_2 _ (List.mem_of_getElem? (i := 105) (by rfl)) rfl
theorem tb_346 : (Jvm.Cond.fieldLink "ChordHerds" (248 : Nat) "ChordHerds$Parting" "many" "I") ∈ zt := tbl_2 _ (List.mem_of_getElem? (i := 106) (by rfl)) rfl
theorem tb_347 : (Jvm.Cond.fieldLink "ChordHerds$Parting" (20 : Nat) "ChordHerds$Parting" "sureA" "I") ∈ zt := tbl_2 _ (List.mem_of_getElem? (i := 107) (by rfl)) rfl
theorem tb_348 : (Jvm.Cond.fieldLink "ChordHerds" (249 : Nat) "ChordHerds$Parting" "sureA" "I") ∈ zt := tbl_2 _ (List.mem_of_getElem? (i := 108) (by rfl)) rfl
theorem tb_349 : (Jvm.Cond.fieldLink "ChordHerds$Parting" (23 : Nat) "ChordHerds$Parting" "sureB" "I") ∈ zt := tbl_2 _ (List.mem_of_getElem? (i := 109) (by rfl)) rfl
theorem tb_350 : (Jvm.Cond.fieldLink "ChordHerds" (252 : Nat) "ChordHerds$Parting" "sureB" "I") ∈ zt := tbl_2 _ (List.mem_of_getElem? (i := 110) (by rfl)) rfl
theorem tb_351 : (Jvm.Cond.fieldLink "ChordHerds$Parting" (26 : Nat) "ChordHerds$Parting" "mixed" "I") ∈ zt := tbl_2 _ (List.mem_of_getElem? (i := 111) (by rfl)) rfl
theorem tb_352 : (Jvm.Cond.fieldLink "ChordHerds" (255 : Nat) "ChordHerds$Parting" "mixed" "I") ∈ zt := tbl_2 _ (List.mem_of_getElem? (i := 112) (by rfl)) rfl
theorem tb_353 : (Jvm.Cond.fieldLink "ChordHerds$Parting" (29 : Nat) "ChordHerds$Parting" "mixedSet" "I") ∈ zt := tbl_2 _ (List.mem_of_getElem? (i := 113) (by rfl)) rfl
theorem tb_354 : (Jvm.Cond.fieldLink "ChordHerds" (258 : Nat) "ChordHerds$Parting" "mixedSet" "I") ∈ zt := tbl_2 _ (List.mem_of_getElem? (i := 114) (by rfl)) rfl
theorem tb_355 : (Jvm.Cond.lays "ChordHerds$Parting" "ChordHerds$Parting" "told" "Z") ∈ zt := tbl_2 _ (List.mem_of_getElem? (i := 115) (by rfl)) rfl
theorem tb_357 : (Jvm.Cond.lays "ChordHerds$Parting" "ChordHerds$Parting" "earA" "I") ∈ zt := tbl_2 _ (List.mem_of_getElem? (i := 117) (by rfl)) rfl
theorem tb_359 : (Jvm.Cond.lays "ChordHerds$Parting" "ChordHerds$Parting" "placeA" "I") ∈ zt := tbl_2 _ (List.mem_of_getElem? (i := 119) (by rfl)) rfl
theorem tb_361 : (Jvm.Cond.lays "ChordHerds$Parting" "ChordHerds$Parting" "earB" "I") ∈ zt := tbl_2 _ (List.mem_of_getElem? (i := 121) (by rfl)) rfl
theorem tb_363 : (Jvm.Cond.lays "ChordHerds$Parting" "ChordHerds$Parting" "placeB" "I") ∈ zt := tbl_2 _ (List.mem_of_getElem? (i := 123) (by rfl)) rfl
theorem tb_365 : (Jvm.Cond.lays "ChordHerds$Parting" "ChordHerds$Parting" "quarter" "I") ∈ zt := tbl_2 _ (List.mem_of_getElem? (i := 125) (by rfl)) rfl
theorem tb_367 : (Jvm.Cond.lays "ChordHerds$Parting" "ChordHerds$Parting" "many" "I") ∈ zt := tbl_2 _ (List.mem_of_getElem? (i := 127) (by rfl)) rfl
theorem tb_369 : (Jvm.Cond.lays "ChordHerds$Parting" "ChordHerds$Parting" "sureA" "I") ∈ zt := tbl_2 _ (List.mem_of_getElem? (i := 129) (by rfl)) rfl
theorem tb_371 : (Jvm.Cond.lays "ChordHerds$Parting" "ChordHerds$Parting" "sureB" "I") ∈ zt := tbl_2 _ (List.mem_of_getElem? (i := 131) (by rfl)) rfl
theorem tb_373 : (Jvm.Cond.lays "ChordHerds$Parting" "ChordHerds$Parting" "mixed" "I") ∈ zt := tbl_2 _ (List.mem_of_getElem? (i := 133) (by rfl)) rfl
theorem tb_375 : (Jvm.Cond.lays "ChordHerds$Parting" "ChordHerds$Parting" "mixedSet" "I") ∈ zt := tbl_2 _ (List.mem_of_getElem? (i := 135) (by rfl)) rfl
theorem tb_378 : (Jvm.Cond.classLink "ChordHerds" (75 : Nat) "ChordHerds$Creeps") ∈ zt := tbl_2 _ (List.mem_of_getElem? (i := 138) (by rfl)) rfl
theorem tb_379 : (Jvm.Cond.instantiable "ChordHerds$Creeps" (10 : Nat)) ∈ zt := tbl_2 _ (List.mem_of_getElem? (i := 139) (by rfl)) rfl
theorem tb_381 : (Jvm.Cond.instanceMethod ({ cls := "ChordHerds$Creeps", name := "<init>", desc := "()V" } : Jvm.MethodName)) ∈ zt := tbl_2 _ (List.mem_of_getElem? (i := 141) (by rfl)) rfl
theorem tb_382 : (Jvm.Cond.code ({ cls := "ChordHerds$Creeps", name := "<init>", desc := "()V" } : Jvm.MethodName) prog_3_method_1_code (1 : Nat) (Option.none : Option Jvm.ClassFile.FieldType)) ∈ zt := tbl_2 _ (List.mem_of_getElem? (i := 142) (by rfl)) rfl
theorem tb_383 : (Jvm.Cond.methodLink "ChordHerds$Creeps" (3 : Nat) ({ cls := "java/lang/Object", name := "<init>", desc := "()V" } : Jvm.MethodName)) ∈ zt := tbl_2 _ (List.mem_of_getElem? (i := 143) (by rfl)) rfl
theorem tb_384 : (Jvm.Cond.fieldLink "ChordHerds$Creeps" (30 : Nat) "ChordHerds$Creeps" "beasts" "I") ∈ zt := tbl_2 _ (List.mem_of_getElem? (i := 144) (by rfl)) rfl
theorem tb_385 : (Jvm.Cond.fieldLink "ChordHerds$Creeps" (9 : Nat) "ChordHerds$Creeps" "told" "[I") ∈ zt := tbl_2 _ (List.mem_of_getElem? (i := 145) (by rfl)) rfl
theorem tb_386 : (Jvm.Cond.fieldLink "ChordHerds$Creeps" (44 : Nat) "ChordHerds$Creeps" "evenings" "I") ∈ zt := tbl_2 _ (List.mem_of_getElem? (i := 146) (by rfl)) rfl
theorem tb_387 : (Jvm.Cond.fieldLink "ChordHerds$Creeps" (15 : Nat) "ChordHerds$Creeps" "number" "[I") ∈ zt := tbl_2 _ (List.mem_of_getElem? (i := 147) (by rfl)) rfl
theorem tb_388 : (Jvm.Cond.fieldLink "ChordHerds$Creeps" (18 : Nat) "ChordHerds$Creeps" "year" "[I") ∈ zt := tbl_2 _ (List.mem_of_getElem? (i := 148) (by rfl)) rfl
theorem tb_389 : (Jvm.Cond.fieldLink "ChordHerds$Creeps" (21 : Nat) "ChordHerds$Creeps" "tones" "[I") ∈ zt := tbl_2 _ (List.mem_of_getElem? (i := 149) (by rfl)) rfl
theorem tb_390 : (Jvm.Cond.fieldLink "ChordHerds$Creeps" (24 : Nat) "ChordHerds$Creeps" "tried" "[I") ∈ zt := tbl_2 _ (List.mem_of_getElem? (i := 150) (by rfl)) rfl
theorem tb_391 : (Jvm.Cond.fieldLink "ChordHerds$Creeps" (27 : Nat) "ChordHerds$Creeps" "given" "[I") ∈ zt := tbl_2 _ (List.mem_of_getElem? (i := 151) (by rfl)) rfl
theorem tb_392 : (Jvm.Cond.fieldLink "ChordHerds$Creeps" (63 : Nat) "ChordHerds$Creeps" "least" "I") ∈ zt := tbl_2 _ (List.mem_of_getElem? (i := 152) (by rfl)) rfl
theorem tb_393 : (Jvm.Cond.fieldLink "ChordHerds$Creeps" (84 : Nat) "ChordHerds$Creeps" "farthest" "I") ∈ zt := tbl_2 _ (List.mem_of_getElem? (i := 153) (by rfl)) rfl
theorem tb_394 : (Jvm.Cond.lays "ChordHerds$Creeps" "ChordHerds$Creeps" "beasts" "I") ∈ zt := tbl_2 _ (List.mem_of_getElem? (i := 154) (by rfl)) rfl
theorem tb_396 : (Jvm.Cond.laysFinal "ChordHerds$Creeps" "ChordHerds$Creeps" "told" "[I") ∈ zt := tbl_2 _ (List.mem_of_getElem? (i := 156) (by rfl)) rfl
theorem tb_398 : (Jvm.Cond.lays "ChordHerds$Creeps" "ChordHerds$Creeps" "evenings" "I") ∈ zt := tbl_2 _ (List.mem_of_getElem? (i := 158) (by rfl)) rfl
theorem tb_400 : (Jvm.Cond.laysFinal "ChordHerds$Creeps" "ChordHerds$Creeps" "number" "[I") ∈ zt := tbl_2 _ (List.mem_of_getElem? (i := 160) (by rfl)) rfl
theorem tb_402 : (Jvm.Cond.laysFinal "ChordHerds$Creeps" "ChordHerds$Creeps" "year" "[I") ∈ zt := tbl_2 _ (List.mem_of_getElem? (i := 162) (by rfl)) rfl
theorem tb_404 : (Jvm.Cond.laysFinal "ChordHerds$Creeps" "ChordHerds$Creeps" "tones" "[I") ∈ zt := tbl_2 _ (List.mem_of_getElem? (i := 164) (by rfl)) rfl
theorem tb_406 : (Jvm.Cond.laysFinal "ChordHerds$Creeps" "ChordHerds$Creeps" "tried" "[I") ∈ zt := tbl_2 _ (List.mem_of_getElem? (i := 166) (by rfl)) rfl
theorem tb_408 : (Jvm.Cond.laysFinal "ChordHerds$Creeps" "ChordHerds$Creeps" "given" "[I") ∈ zt := tbl_2 _ (List.mem_of_getElem? (i := 168) (by rfl)) rfl
theorem tb_410 : (Jvm.Cond.lays "ChordHerds$Creeps" "ChordHerds$Creeps" "least" "I") ∈ zt := tbl_2 _ (List.mem_of_getElem? (i := 170) (by rfl)) rfl
theorem tb_412 : (Jvm.Cond.lays "ChordHerds$Creeps" "ChordHerds$Creeps" "farthest" "I") ∈ zt := tbl_2 _ (List.mem_of_getElem? (i := 172) (by rfl)) rfl
theorem tb_415 : (Jvm.Cond.classLink "ChordHerds" (82 : Nat) "ChordHerds$Dealer") ∈ zt := tbl_2 _ (List.mem_of_getElem? (i := 175) (by rfl)) rfl
theorem tb_416 : (Jvm.Cond.instantiable "ChordHerds$Dealer" (3 : Nat)) ∈ zt := tbl_2 _ (List.mem_of_getElem? (i := 176) (by rfl)) rfl
theorem tb_418 : (Jvm.Cond.instanceMethod ({ cls := "ChordHerds$Dealer", name := "<init>", desc := "()V" } : Jvm.MethodName)) ∈ zt := tbl_2 _ (List.mem_of_getElem? (i := 178) (by rfl)) rfl
theorem tb_419 : (Jvm.Cond.code ({ cls := "ChordHerds$Dealer", name := "<init>", desc := "()V" } : Jvm.MethodName) prog_4_method_1_code (1 : Nat) (Option.none : Option Jvm.ClassFile.FieldType)) ∈ zt := tbl_2 _ (List.mem_of_getElem? (i := 179) (by rfl)) rfl
theorem tb_420 : (Jvm.Cond.methodLink "ChordHerds$Dealer" (3 : Nat) ({ cls := "java/lang/Object", name := "<init>", desc := "()V" } : Jvm.MethodName)) ∈ zt := tbl_2 _ (List.mem_of_getElem? (i := 180) (by rfl)) rfl
theorem tb_421 : (Jvm.Cond.fieldLink "ChordHerds$Dealer" (19 : Nat) "ChordHerds$Dealer" "beasts" "I") ∈ zt := tbl_2 _ (List.mem_of_getElem? (i := 181) (by rfl)) rfl
theorem tb_422 : (Jvm.Cond.fieldLink "ChordHerds$Dealer" (15 : Nat) "ChordHerds$Dealer" "missing" "I") ∈ zt := tbl_2 _ (List.mem_of_getElem? (i := 182) (by rfl)) rfl
theorem tb_423 : (Jvm.Cond.fieldLink "ChordHerds$Dealer" (9 : Nat) "ChordHerds$Dealer" "louds" "[I") ∈ zt := tbl_2 _ (List.mem_of_getElem? (i := 183) (by rfl)) rfl
theorem tb_424 : (Jvm.Cond.lays "ChordHerds$Dealer" "ChordHerds$Dealer" "beasts" "I") ∈ zt := tbl_2 _ (List.mem_of_getElem? (i := 184) (by rfl)) rfl
theorem tb_426 : (Jvm.Cond.lays "ChordHerds$Dealer" "ChordHerds$Dealer" "missing" "I") ∈ zt := tbl_2 _ (List.mem_of_getElem? (i := 186) (by rfl)) rfl
theorem tb_428 : (Jvm.Cond.laysFinal "ChordHerds$Dealer" "ChordHerds$Dealer" "louds" "[I") ∈ zt := tbl_2 _ (List.mem_of_getElem? (i := 188) (by rfl)) rfl
theorem tb_431 : (Jvm.Cond.fieldLink "ChordHerds" (9 : Nat) "ChordHerds" "tape" "[B") ∈ zt := tbl_2 _ (List.mem_of_getElem? (i := 191) (by rfl)) rfl
theorem tb_432 : (Jvm.Cond.fieldLink "ChordHerds" (89 : Nat) "ChordHerds" "taped" "I") ∈ zt := tbl_2 _ (List.mem_of_getElem? (i := 192) (by rfl)) rfl
theorem tb_433 : (Jvm.Cond.fieldLink "ChordHerds" (18 : Nat) "ChordHerds" "teller" "LChordHerds$Teller;") ∈ zt := tbl_2 _ (List.mem_of_getElem? (i := 193) (by rfl)) rfl
theorem tb_434 : (Jvm.Cond.fieldLink "ChordHerds" (25 : Nat) "ChordHerds" "land" "LChordHerds$Valley;") ∈ zt := tbl_2 _ (List.mem_of_getElem? (i := 194) (by rfl)) rfl
theorem tb_435 : (Jvm.Cond.fieldLink "ChordHerds" (29 : Nat) "ChordHerds" "draft" "LChordHerds$Valley;") ∈ zt := tbl_2 _ (List.mem_of_getElem? (i := 195) (by rfl)) rfl
theorem tb_436 : (Jvm.Cond.fieldLink "ChordHerds" (35 : Nat) "ChordHerds" "now" "LChordHerds$Earnest;") ∈ zt := tbl_2 _ (List.mem_of_getElem? (i := 196) (by rfl)) rfl
theorem tb_437 : (Jvm.Cond.fieldLink "ChordHerds" (39 : Nat) "ChordHerds" "boxes" "[LChordHerds$Earnest;") ∈ zt := tbl_2 _ (List.mem_of_getElem? (i := 197) (by rfl)) rfl
theorem tb_438 : (Jvm.Cond.fieldLink "ChordHerds" (115 : Nat) "ChordHerds" "kept" "I") ∈ zt := tbl_2 _ (List.mem_of_getElem? (i := 198) (by rfl)) rfl
theorem tb_439 : (Jvm.Cond.fieldLink "ChordHerds" (46 : Nat) "ChordHerds" "entries" "LChordHerds$Entries;") ∈ zt := tbl_2 _ (List.mem_of_getElem? (i := 199) (by rfl)) rfl
theorem tb_440 : (Jvm.Cond.fieldLink "ChordHerds" (184 : Nat) "ChordHerds" "time" "I") ∈ zt := tbl_2 _ (List.mem_of_getElem? (i := 200) (by rfl)) rfl
theorem tb_441 : (Jvm.Cond.fieldLink "ChordHerds" (50 : Nat) "ChordHerds" "row" "[I") ∈ zt := tbl_2 _ (List.mem_of_getElem? (i := 201) (by rfl)) rfl
theorem tb_442 : (Jvm.Cond.fieldLink "ChordHerds" (112 : Nat) "ChordHerds" "rowLength" "I") ∈ zt := tbl_2 _ (List.mem_of_getElem? (i := 202) (by rfl)) rfl
theorem tb_443 : (Jvm.Cond.fieldLink "ChordHerds" (57 : Nat) "ChordHerds" "bounds" "LChordHerds$Bounds;") ∈ zt := tbl_2 _ (List.mem_of_getElem? (i := 203) (by rfl)) rfl
theorem tb_444 : (Jvm.Cond.fieldLink "ChordHerds" (64 : Nat) "ChordHerds" "search" "LChordHerds$Sets;") ∈ zt := tbl_2 _ (List.mem_of_getElem? (i := 204) (by rfl)) rfl
theorem tb_445 : (Jvm.Cond.fieldLink "ChordHerds" (71 : Nat) "ChordHerds" "parting" "LChordHerds$Parting;") ∈ zt := tbl_2 _ (List.mem_of_getElem? (i := 205) (by rfl)) rfl
theorem tb_446 : (Jvm.Cond.fieldLink "ChordHerds" (78 : Nat) "ChordHerds" "creeps" "LChordHerds$Creeps;") ∈ zt := tbl_2 _ (List.mem_of_getElem? (i := 206) (by rfl)) rfl
theorem tb_447 : (Jvm.Cond.fieldLink "ChordHerds" (85 : Nat) "ChordHerds" "dealer" "LChordHerds$Dealer;") ∈ zt := tbl_2 _ (List.mem_of_getElem? (i := 207) (by rfl)) rfl
theorem tb_448 : (Jvm.Cond.laysFinal "ChordHerds" "ChordHerds" "tape" "[B") ∈ zt := tbl_2 _ (List.mem_of_getElem? (i := 208) (by rfl)) rfl
theorem tb_450 : (Jvm.Cond.lays "ChordHerds" "ChordHerds" "taped" "I") ∈ zt := tbl_2 _ (List.mem_of_getElem? (i := 210) (by rfl)) rfl
theorem tb_452 : (Jvm.Cond.laysFinal "ChordHerds" "ChordHerds" "teller" "LChordHerds$Teller;") ∈ zt := tbl_2 _ (List.mem_of_getElem? (i := 212) (by rfl)) rfl
theorem tb_454 : (Jvm.Cond.lays "ChordHerds" "ChordHerds" "land" "LChordHerds$Valley;") ∈ zt := tbl_2 _ (List.mem_of_getElem? (i := 214) (by rfl)) rfl
theorem tb_456 : (Jvm.Cond.lays "ChordHerds" "ChordHerds" "draft" "LChordHerds$Valley;") ∈ zt := tbl_2 _ (List.mem_of_getElem? (i := 216) (by rfl)) rfl
theorem tb_458 : (Jvm.Cond.laysFinal "ChordHerds" "ChordHerds" "now" "LChordHerds$Earnest;") ∈ zt := tbl_2 _ (List.mem_of_getElem? (i := 218) (by rfl)) rfl
theorem tb_460 : (Jvm.Cond.laysFinal "ChordHerds" "ChordHerds" "boxes" "[LChordHerds$Earnest;") ∈ zt := tbl_2 _ (List.mem_of_getElem? (i := 220) (by rfl)) rfl
theorem tb_462 : (Jvm.Cond.lays "ChordHerds" "ChordHerds" "kept" "I") ∈ zt := tbl_2 _ (List.mem_of_getElem? (i := 222) (by rfl)) rfl
theorem tb_464 : (Jvm.Cond.laysFinal "ChordHerds" "ChordHerds" "entries" "LChordHerds$Entries;") ∈ zt := tbl_2 _ (List.mem_of_getElem? (i := 224) (by rfl)) rfl
theorem tb_466 : (Jvm.Cond.lays "ChordHerds" "ChordHerds" "time" "I") ∈ zt := tbl_2 _ (List.mem_of_getElem? (i := 226) (by rfl)) rfl
theorem tb_468 : (Jvm.Cond.laysFinal "ChordHerds" "ChordHerds" "row" "[I") ∈ zt := tbl_2 _ (List.mem_of_getElem? (i := 228) (by rfl)) rfl
theorem tb_470 : (Jvm.Cond.lays "ChordHerds" "ChordHerds" "rowLength" "I") ∈ zt := tbl_2 _ (List.mem_of_getElem? (i := 230) (by rfl)) rfl
theorem tb_472 : (Jvm.Cond.laysFinal "ChordHerds" "ChordHerds" "bounds" "LChordHerds$Bounds;") ∈ zt := tbl_2 _ (List.mem_of_getElem? (i := 232) (by rfl)) rfl
theorem tb_474 : (Jvm.Cond.laysFinal "ChordHerds" "ChordHerds" "search" "LChordHerds$Sets;") ∈ zt := tbl_2 _ (List.mem_of_getElem? (i := 234) (by rfl)) rfl
theorem tb_476 : (Jvm.Cond.laysFinal "ChordHerds" "ChordHerds" "parting" "LChordHerds$Parting;") ∈ zt := tbl_2 _ (List.mem_of_getElem? (i := 236) (by rfl)) rfl
theorem tb_478 : (Jvm.Cond.laysFinal "ChordHerds" "ChordHerds" "creeps" "LChordHerds$Creeps;") ∈ zt := tbl_2 _ (List.mem_of_getElem? (i := 238) (by rfl)) rfl
theorem tb_480 : (Jvm.Cond.laysFinal "ChordHerds" "ChordHerds" "dealer" "LChordHerds$Dealer;") ∈ zt := tbl_3 _ (List.mem_of_getElem? (i := 0) (by rfl)) rfl
theorem tb_483 : (Jvm.Cond.methodLink "ChordHerdsLaw" (13 : Nat) ({ cls := "ChordHerds", name := "feed", desc := "(IIIII)I" } : Jvm.MethodName)) ∈ zt := tbl_3 _ (List.mem_of_getElem? (i := 3) (by rfl)) rfl
theorem tb_484 : (Jvm.Cond.instanceMethod ({ cls := "ChordHerds", name := "feed", desc := "(IIIII)I" } : Jvm.MethodName)) ∈ zt := tbl_3 _ (List.mem_of_getElem? (i := 4) (by rfl)) rfl
theorem tb_485 : (Jvm.Cond.selects "ChordHerds" ({ cls := "ChordHerds", name := "feed", desc := "(IIIII)I" } : Jvm.MethodName) ({ cls := "ChordHerds", name := "feed", desc := "(IIIII)I" } : Jvm.MethodName)) ∈ zt := tbl_3 _ (List.mem_of_getElem? (i := 5) (by rfl)) rfl
theorem tb_486 : (Jvm.Cond.code ({ cls := "ChordHerds", name := "feed", desc := "(IIIII)I" } : Jvm.MethodName) prog_1_method_2_code (6 : Nat) (Option.some Jvm.ClassFile.FieldType.int)) ∈ zt := tbl_3 _ (List.mem_of_getElem? (i := 6) (by rfl)) rfl
theorem tb_487 : (Jvm.Cond.methodLink "ChordHerds" (93 : Nat) ({ cls := "ChordHerds", name := "tapeFour", desc := "(I)V" } : Jvm.MethodName)) ∈ zt := tbl_3 _ (List.mem_of_getElem? (i := 7) (by rfl)) rfl
theorem tb_489 : (Jvm.Cond.instanceMethod ({ cls := "ChordHerds", name := "tapeFour", desc := "(I)V" } : Jvm.MethodName)) ∈ zt := tbl_3 _ (List.mem_of_getElem? (i := 9) (by rfl)) rfl
theorem tb_490 : (Jvm.Cond.code ({ cls := "ChordHerds", name := "tapeFour", desc := "(I)V" } : Jvm.MethodName) prog_1_method_3_code (3 : Nat) (Option.none : Option Jvm.ClassFile.FieldType)) ∈ zt := tbl_3 _ (List.mem_of_getElem? (i := 10) (by rfl)) rfl
theorem tb_491 : (Jvm.Cond.methodLink "ChordHerdsLaw" (18 : Nat) ({ cls := "ChordHerds", name := "end", desc := "(I)I" } : Jvm.MethodName)) ∈ zt := tbl_3 _ (List.mem_of_getElem? (i := 11) (by rfl)) rfl
theorem tb_492 : (Jvm.Cond.instanceMethod ({ cls := "ChordHerds", name := "end", desc := "(I)I" } : Jvm.MethodName)) ∈ zt := tbl_3 _ (List.mem_of_getElem? (i := 12) (by rfl)) rfl
theorem tb_493 : (Jvm.Cond.selects "ChordHerds" ({ cls := "ChordHerds", name := "end", desc := "(I)I" } : Jvm.MethodName) ({ cls := "ChordHerds", name := "end", desc := "(I)I" } : Jvm.MethodName)) ∈ zt := tbl_3 _ (List.mem_of_getElem? (i := 13) (by rfl)) rfl
theorem tb_494 : (Jvm.Cond.code ({ cls := "ChordHerds", name := "end", desc := "(I)I" } : Jvm.MethodName) prog_1_method_4_code (2 : Nat) (Option.some Jvm.ClassFile.FieldType.int)) ∈ zt := tbl_3 _ (List.mem_of_getElem? (i := 14) (by rfl)) rfl
theorem tb_495 : (Jvm.Cond.methodLink "ChordHerds" (97 : Nat) ({ cls := "ChordHerds", name := "within", desc := "(III)Z" } : Jvm.MethodName)) ∈ zt := tbl_3 _ (List.mem_of_getElem? (i := 15) (by rfl)) rfl
theorem tb_496 : (Jvm.Cond.static ({ cls := "ChordHerds", name := "within", desc := "(III)Z" } : Jvm.MethodName)) ∈ zt := tbl_3 _ (List.mem_of_getElem? (i := 16) (by rfl)) rfl
theorem tb_497 : (Jvm.Cond.code ({ cls := "ChordHerds", name := "within", desc := "(III)Z" } : Jvm.MethodName) prog_1_method_33_code (3 : Nat) (Option.some Jvm.ClassFile.FieldType.boolean)) ∈ zt := tbl_3 _ (List.mem_of_getElem? (i := 17) (by rfl)) rfl
theorem tb_498 : (Jvm.Cond.methodLink "ChordHerdsLaw" (23 : Nat) ({ cls := "ChordHerds", name := "valley", desc := "()I" } : Jvm.MethodName)) ∈ zt := tbl_3 _ (List.mem_of_getElem? (i := 18) (by rfl)) rfl
theorem tb_499 : (Jvm.Cond.instanceMethod ({ cls := "ChordHerds", name := "valley", desc := "()I" } : Jvm.MethodName)) ∈ zt := tbl_3 _ (List.mem_of_getElem? (i := 19) (by rfl)) rfl
theorem tb_500 : (Jvm.Cond.selects "ChordHerds" ({ cls := "ChordHerds", name := "valley", desc := "()I" } : Jvm.MethodName) ({ cls := "ChordHerds", name := "valley", desc := "()I" } : Jvm.MethodName)) ∈ zt := tbl_3 _ (List.mem_of_getElem? (i := 20) (by rfl)) rfl
theorem tb_501 : (Jvm.Cond.code ({ cls := "ChordHerds", name := "valley", desc := "()I" } : Jvm.MethodName) prog_1_method_5_code (3 : Nat) (Option.some Jvm.ClassFile.FieldType.int)) ∈ zt := tbl_3 _ (List.mem_of_getElem? (i := 21) (by rfl)) rfl
theorem tb_502 : (Jvm.Cond.methodLink "ChordHerds" (101 : Nat) ({ cls := "ChordHerds$Teller", name := "tell", desc := "(ILChordHerds$Valley;)Z" } : Jvm.MethodName)) ∈ zt := tbl_3 _ (List.mem_of_getElem? (i := 22) (by rfl)) rfl
theorem tb_503 : (Jvm.Cond.instanceMethod ({ cls := "ChordHerds$Teller", name := "tell", desc := "(ILChordHerds$Valley;)Z" } : Jvm.MethodName)) ∈ zt := tbl_3 _ (List.mem_of_getElem? (i := 23) (by rfl)) rfl
theorem tb_504 : (Jvm.Cond.selects "ChordHerds$Teller" ({ cls := "ChordHerds$Teller", name := "tell", desc := "(ILChordHerds$Valley;)Z" } : Jvm.MethodName) ({ cls := "ChordHerds$Teller", name := "tell", desc := "(ILChordHerds$Valley;)Z" } : Jvm.MethodName)) ∈ zt := tbl_3 _ (List.mem_of_getElem? (i := 24) (by rfl)) rfl
theorem tb_505 : (Jvm.Cond.code ({ cls := "ChordHerds$Teller", name := "tell", desc := "(ILChordHerds$Valley;)Z" } : Jvm.MethodName) prog_10_method_2_code (4 : Nat) (Option.some Jvm.ClassFile.FieldType.boolean)) ∈ zt := tbl_3 _ (List.mem_of_getElem? (i := 25) (by rfl)) rfl
theorem tb_506 : (Jvm.Cond.methodLink "ChordHerds$Teller" (30 : Nat) ({ cls := "ChordHerds$Valley", name := "clear", desc := "()V" } : Jvm.MethodName)) ∈ zt := tbl_3 _ (List.mem_of_getElem? (i := 26) (by rfl)) rfl
theorem tb_507 : (Jvm.Cond.instanceMethod ({ cls := "ChordHerds$Valley", name := "clear", desc := "()V" } : Jvm.MethodName)) ∈ zt := tbl_3 _ (List.mem_of_getElem? (i := 27) (by rfl)) rfl
theorem tb_508 : (Jvm.Cond.selects "ChordHerds$Valley" ({ cls := "ChordHerds$Valley", name := "clear", desc := "()V" } : Jvm.MethodName) ({ cls := "ChordHerds$Valley", name := "clear", desc := "()V" } : Jvm.MethodName)) ∈ zt := tbl_3 _ (List.mem_of_getElem? (i := 28) (by rfl)) rfl
theorem tb_509 : (Jvm.Cond.code ({ cls := "ChordHerds$Valley", name := "clear", desc := "()V" } : Jvm.MethodName) prog_11_method_2_code (1 : Nat) (Option.none : Option Jvm.ClassFile.FieldType)) ∈ zt := tbl_3 _ (List.mem_of_getElem? (i := 29) (by rfl)) rfl
theorem tb_510 : (Jvm.Cond.methodLink "ChordHerds$Teller" (35 : Nat) ({ cls := "ChordHerds$Reader", name := "read", desc := "(I)V" } : Jvm.MethodName)) ∈ zt := tbl_3 _ (List.mem_of_getElem? (i := 30) (by rfl)) rfl
theorem tb_511 : (Jvm.Cond.instanceMethod ({ cls := "ChordHerds$Reader", name := "read", desc := "(I)V" } : Jvm.MethodName)) ∈ zt := tbl_3 _ (List.mem_of_getElem? (i := 31) (by rfl)) rfl
theorem tb_512 : (Jvm.Cond.selects "ChordHerds$Reader" ({ cls := "ChordHerds$Reader", name := "read", desc := "(I)V" } : Jvm.MethodName) ({ cls := "ChordHerds$Reader", name := "read", desc := "(I)V" } : Jvm.MethodName)) ∈ zt := tbl_3 _ (List.mem_of_getElem? (i := 32) (by rfl)) rfl
theorem tb_513 : (Jvm.Cond.code ({ cls := "ChordHerds$Reader", name := "read", desc := "(I)V" } : Jvm.MethodName) prog_8_method_2_code (3 : Nat) (Option.none : Option Jvm.ClassFile.FieldType)) ∈ zt := tbl_3 _ (List.mem_of_getElem? (i := 33) (by rfl)) rfl
theorem tb_514 : (Jvm.Cond.methodLink "ChordHerds$Reader" (26 : Nat) ({ cls := "java/lang/Math", name := "min", desc := "(II)I" } : Jvm.MethodName)) ∈ zt := tbl_3 _ (List.mem_of_getElem? (i := 34) (by rfl)) rfl
theorem tb_515 : (Jvm.Cond.static ({ cls := "java/lang/Math", name := "min", desc := "(II)I" } : Jvm.MethodName)) ∈ zt := tbl_3 _ (List.mem_of_getElem? (i := 35) (by rfl)) rfl
theorem tb_516 : (Jvm.Cond.code ({ cls := "java/lang/Math", name := "min", desc := "(II)I" } : Jvm.MethodName) prog_15_method_69_code (2 : Nat) (Option.some Jvm.ClassFile.FieldType.int)) ∈ zt := tbl_3 _ (List.mem_of_getElem? (i := 36) (by rfl)) rfl
theorem tb_517 : (Jvm.Cond.methodLink "ChordHerds$Reader" (42 : Nat) ({ cls := "ChordHerds$Reader", name := "skipBlanks", desc := "()V" } : Jvm.MethodName)) ∈ zt := tbl_3 _ (List.mem_of_getElem? (i := 37) (by rfl)) rfl
theorem tb_519 : (Jvm.Cond.instanceMethod ({ cls := "ChordHerds$Reader", name := "skipBlanks", desc := "()V" } : Jvm.MethodName)) ∈ zt := tbl_3 _ (List.mem_of_getElem? (i := 39) (by rfl)) rfl
theorem tb_520 : (Jvm.Cond.code ({ cls := "ChordHerds$Reader", name := "skipBlanks", desc := "()V" } : Jvm.MethodName) prog_8_method_3_code (1 : Nat) (Option.none : Option Jvm.ClassFile.FieldType)) ∈ zt := tbl_3 _ (List.mem_of_getElem? (i := 40) (by rfl)) rfl
theorem tb_521 : (Jvm.Cond.methodLink "ChordHerds$Reader" (45 : Nat) ({ cls := "ChordHerds$Reader", name := "readToken", desc := "()I" } : Jvm.MethodName)) ∈ zt := tbl_3 _ (List.mem_of_getElem? (i := 41) (by rfl)) rfl
theorem tb_523 : (Jvm.Cond.instanceMethod ({ cls := "ChordHerds$Reader", name := "readToken", desc := "()I" } : Jvm.MethodName)) ∈ zt := tbl_3 _ (List.mem_of_getElem? (i := 43) (by rfl)) rfl
theorem tb_524 : (Jvm.Cond.code ({ cls := "ChordHerds$Reader", name := "readToken", desc := "()I" } : Jvm.MethodName) prog_8_method_4_code (2 : Nat) (Option.some Jvm.ClassFile.FieldType.int)) ∈ zt := tbl_3 _ (List.mem_of_getElem? (i := 44) (by rfl)) rfl
theorem tb_525 : (Jvm.Cond.methodLink "ChordHerds$Reader" (49 : Nat) ({ cls := "ChordHerds$Reader", name := "isLetter", desc := "(I)Z" } : Jvm.MethodName)) ∈ zt := tbl_3 _ (List.mem_of_getElem? (i := 45) (by rfl)) rfl
theorem tb_526 : (Jvm.Cond.static ({ cls := "ChordHerds$Reader", name := "isLetter", desc := "(I)Z" } : Jvm.MethodName)) ∈ zt := tbl_3 _ (List.mem_of_getElem? (i := 46) (by rfl)) rfl
theorem tb_527 : (Jvm.Cond.code ({ cls := "ChordHerds$Reader", name := "isLetter", desc := "(I)Z" } : Jvm.MethodName) prog_8_method_7_code (1 : Nat) (Option.some Jvm.ClassFile.FieldType.boolean)) ∈ zt := tbl_3 _ (List.mem_of_getElem? (i := 47) (by rfl)) rfl
theorem tb_529 : (Jvm.Cond.methodLink "ChordHerds$Reader" (53 : Nat) ({ cls := "ChordHerds$Reader", name := "readWord", desc := "()I" } : Jvm.MethodName)) ∈ zt := tbl_3 _ (List.mem_of_getElem? (i := 49) (by rfl)) rfl
theorem tb_531 : (Jvm.Cond.instanceMethod ({ cls := "ChordHerds$Reader", name := "readWord", desc := "()I" } : Jvm.MethodName)) ∈ zt := tbl_3 _ (List.mem_of_getElem? (i := 51) (by rfl)) rfl
theorem tb_532 : (Jvm.Cond.code ({ cls := "ChordHerds$Reader", name := "readWord", desc := "()I" } : Jvm.MethodName) prog_8_method_5_code (4 : Nat) (Option.some Jvm.ClassFile.FieldType.int)) ∈ zt := tbl_3 _ (List.mem_of_getElem? (i := 52) (by rfl)) rfl
theorem tb_533 : (Jvm.Cond.methodLink "ChordHerds$Reader" (56 : Nat) ({ cls := "ChordHerds$Reader", name := "isDigit", desc := "(I)Z" } : Jvm.MethodName)) ∈ zt := tbl_3 _ (List.mem_of_getElem? (i := 53) (by rfl)) rfl
theorem tb_534 : (Jvm.Cond.static ({ cls := "ChordHerds$Reader", name := "isDigit", desc := "(I)Z" } : Jvm.MethodName)) ∈ zt := tbl_3 _ (List.mem_of_getElem? (i := 54) (by rfl)) rfl
theorem tb_535 : (Jvm.Cond.code ({ cls := "ChordHerds$Reader", name := "isDigit", desc := "(I)Z" } : Jvm.MethodName) prog_8_method_8_code (1 : Nat) (Option.some Jvm.ClassFile.FieldType.boolean)) ∈ zt := tbl_3 _ (List.mem_of_getElem? (i := 55) (by rfl)) rfl
theorem tb_536 : (Jvm.Cond.methodLink "ChordHerds$Reader" (59 : Nat) ({ cls := "ChordHerds$Reader", name := "readNumber", desc := "()I" } : Jvm.MethodName)) ∈ zt := tbl_3 _ (List.mem_of_getElem? (i := 56) (by rfl)) rfl
theorem tb_538 : (Jvm.Cond.instanceMethod ({ cls := "ChordHerds$Reader", name := "readNumber", desc := "()I" } : Jvm.MethodName)) ∈ zt := tbl_3 _ (List.mem_of_getElem? (i := 58) (by rfl)) rfl
theorem tb_539 : (Jvm.Cond.code ({ cls := "ChordHerds$Reader", name := "readNumber", desc := "()I" } : Jvm.MethodName) prog_8_method_6_code (5 : Nat) (Option.some Jvm.ClassFile.FieldType.int)) ∈ zt := tbl_3 _ (List.mem_of_getElem? (i := 59) (by rfl)) rfl
theorem tb_540 : (Jvm.Cond.constantLong "ChordHerds$Reader" (62 : Nat) (10 : Int64)) ∈ zt := tbl_3 _ (List.mem_of_getElem? (i := 60) (by rfl)) rfl
theorem tb_541 : (Jvm.Cond.constantLong "ChordHerds$Reader" (64 : Nat) (48 : Int64)) ∈ zt := tbl_3 _ (List.mem_of_getElem? (i := 61) (by rfl)) rfl
theorem tb_542 : (Jvm.Cond.methodLink "ChordHerds$Teller" (42 : Nat) ({ cls := "ChordHerds$Teller", name := "isAtEnd", desc := "()Z" } : Jvm.MethodName)) ∈ zt := tbl_3 _ (List.mem_of_getElem? (i := 62) (by rfl)) rfl
theorem tb_544 : (Jvm.Cond.instanceMethod ({ cls := "ChordHerds$Teller", name := "isAtEnd", desc := "()Z" } : Jvm.MethodName)) ∈ zt := tbl_3 _ (List.mem_of_getElem? (i := 64) (by rfl)) rfl
theorem tb_545 : (Jvm.Cond.code ({ cls := "ChordHerds$Teller", name := "isAtEnd", desc := "()Z" } : Jvm.MethodName) prog_10_method_3_code (1 : Nat) (Option.some Jvm.ClassFile.FieldType.boolean)) ∈ zt := tbl_3 _ (List.mem_of_getElem? (i := 65) (by rfl)) rfl
theorem tb_546 : (Jvm.Cond.methodLink "ChordHerds$Teller" (46 : Nat) ({ cls := "ChordHerds$Teller", name := "tellLine", desc := "(LChordHerds$Valley;)Z" } : Jvm.MethodName)) ∈ zt := tbl_3 _ (List.mem_of_getElem? (i := 66) (by rfl)) rfl
theorem tb_548 : (Jvm.Cond.instanceMethod ({ cls := "ChordHerds$Teller", name := "tellLine", desc := "(LChordHerds$Valley;)Z" } : Jvm.MethodName)) ∈ zt := tbl_3 _ (List.mem_of_getElem? (i := 68) (by rfl)) rfl
theorem tb_549 : (Jvm.Cond.code ({ cls := "ChordHerds$Teller", name := "tellLine", desc := "(LChordHerds$Valley;)Z" } : Jvm.MethodName) prog_10_method_4_code (2 : Nat) (Option.some Jvm.ClassFile.FieldType.boolean)) ∈ zt := tbl_3 _ (List.mem_of_getElem? (i := 69) (by rfl)) rfl
theorem tb_550 : (Jvm.Cond.methodLink "ChordHerds$Teller" (54 : Nat) ({ cls := "ChordHerds$Teller", name := "take", desc := "(I)Z" } : Jvm.MethodName)) ∈ zt := tbl_3 _ (List.mem_of_getElem? (i := 70) (by rfl)) rfl
theorem tb_552 : (Jvm.Cond.instanceMethod ({ cls := "ChordHerds$Teller", name := "take", desc := "(I)Z" } : Jvm.MethodName)) ∈ zt := tbl_3 _ (List.mem_of_getElem? (i := 72) (by rfl)) rfl
theorem tb_553 : (Jvm.Cond.code ({ cls := "ChordHerds$Teller", name := "take", desc := "(I)Z" } : Jvm.MethodName) prog_10_method_16_code (3 : Nat) (Option.some Jvm.ClassFile.FieldType.boolean)) ∈ zt := tbl_3 _ (List.mem_of_getElem? (i := 73) (by rfl)) rfl
theorem tb_554 : (Jvm.Cond.methodLink "ChordHerds$Teller" (87 : Nat) ({ cls := "ChordHerds$Teller", name := "refuse", desc := "(I)Z" } : Jvm.MethodName)) ∈ zt := tbl_3 _ (List.mem_of_getElem? (i := 74) (by rfl)) rfl
theorem tb_556 : (Jvm.Cond.instanceMethod ({ cls := "ChordHerds$Teller", name := "refuse", desc := "(I)Z" } : Jvm.MethodName)) ∈ zt := tbl_3 _ (List.mem_of_getElem? (i := 76) (by rfl)) rfl
theorem tb_557 : (Jvm.Cond.code ({ cls := "ChordHerds$Teller", name := "refuse", desc := "(I)Z" } : Jvm.MethodName) prog_10_method_17_code (2 : Nat) (Option.some Jvm.ClassFile.FieldType.boolean)) ∈ zt := tbl_3 _ (List.mem_of_getElem? (i := 77) (by rfl)) rfl
theorem tb_558 : (Jvm.Cond.constantLong "ChordHerds$Teller" (62 : Nat) (1751478884 : Int64)) ∈ zt := tbl_3 _ (List.mem_of_getElem? (i := 78) (by rfl)) rfl
theorem tb_559 : (Jvm.Cond.methodLink "ChordHerds$Teller" (64 : Nat) ({ cls := "ChordHerds$Teller", name := "tellHerd", desc := "(LChordHerds$Valley;)Z" } : Jvm.MethodName)) ∈ zt := tbl_3 _ (List.mem_of_getElem? (i := 79) (by rfl)) rfl
theorem tb_561 : (Jvm.Cond.instanceMethod ({ cls := "ChordHerds$Teller", name := "tellHerd", desc := "(LChordHerds$Valley;)Z" } : Jvm.MethodName)) ∈ zt := tbl_3 _ (List.mem_of_getElem? (i := 81) (by rfl)) rfl
theorem tb_562 : (Jvm.Cond.code ({ cls := "ChordHerds$Teller", name := "tellHerd", desc := "(LChordHerds$Valley;)Z" } : Jvm.MethodName) prog_10_method_5_code (4 : Nat) (Option.some Jvm.ClassFile.FieldType.boolean)) ∈ zt := tbl_3 _ (List.mem_of_getElem? (i := 82) (by rfl)) rfl
theorem tb_563 : (Jvm.Cond.methodLink "ChordHerds$Teller" (97 : Nat) ({ cls := "ChordHerds$Teller", name := "takeNewName", desc := "([JI)Z" } : Jvm.MethodName)) ∈ zt := tbl_3 _ (List.mem_of_getElem? (i := 83) (by rfl)) rfl
theorem tb_565 : (Jvm.Cond.instanceMethod ({ cls := "ChordHerds$Teller", name := "takeNewName", desc := "([JI)Z" } : Jvm.MethodName)) ∈ zt := tbl_3 _ (List.mem_of_getElem? (i := 85) (by rfl)) rfl
theorem tb_566 : (Jvm.Cond.code ({ cls := "ChordHerds$Teller", name := "takeNewName", desc := "([JI)Z" } : Jvm.MethodName) prog_10_method_12_code (3 : Nat) (Option.some Jvm.ClassFile.FieldType.boolean)) ∈ zt := tbl_3 _ (List.mem_of_getElem? (i := 86) (by rfl)) rfl
theorem tb_567 : (Jvm.Cond.methodLink "ChordHerds$Teller" (120 : Nat) ({ cls := "ChordHerds$Teller", name := "takeName", desc := "()Z" } : Jvm.MethodName)) ∈ zt := tbl_3 _ (List.mem_of_getElem? (i := 87) (by rfl)) rfl
theorem tb_569 : (Jvm.Cond.instanceMethod ({ cls := "ChordHerds$Teller", name := "takeName", desc := "()Z" } : Jvm.MethodName)) ∈ zt := tbl_3 _ (List.mem_of_getElem? (i := 89) (by rfl)) rfl
theorem tb_570 : (Jvm.Cond.code ({ cls := "ChordHerds$Teller", name := "takeName", desc := "()Z" } : Jvm.MethodName) prog_10_method_13_code (1 : Nat) (Option.some Jvm.ClassFile.FieldType.boolean)) ∈ zt := tbl_3 _ (List.mem_of_getElem? (i := 90) (by rfl)) rfl
theorem tb_571 : (Jvm.Cond.methodLink "ChordHerds$Teller" (172 : Nat) ({ cls := "ChordHerds$Teller", name := "standsForItself", desc := "(J)Z" } : Jvm.MethodName)) ∈ zt := tbl_3 _ (List.mem_of_getElem? (i := 91) (by rfl)) rfl
theorem tb_572 : (Jvm.Cond.static ({ cls := "ChordHerds$Teller", name := "standsForItself", desc := "(J)Z" } : Jvm.MethodName)) ∈ zt := tbl_3 _ (List.mem_of_getElem? (i := 92) (by rfl)) rfl
theorem tb_573 : (Jvm.Cond.code ({ cls := "ChordHerds$Teller", name := "standsForItself", desc := "(J)Z" } : Jvm.MethodName) prog_10_method_18_code (2 : Nat) (Option.some Jvm.ClassFile.FieldType.boolean)) ∈ zt := tbl_3 _ (List.mem_of_getElem? (i := 93) (by rfl)) rfl
theorem tb_574 : (Jvm.Cond.constantLong "ChordHerds$Teller" (67 : Nat) (422607680372 : Int64)) ∈ zt := tbl_3 _ (List.mem_of_getElem? (i := 94) (by rfl)) rfl
theorem tb_575 : (Jvm.Cond.constantLong "ChordHerds$Teller" (114 : Nat) (28518 : Int64)) ∈ zt := tbl_3 _ (List.mem_of_getElem? (i := 95) (by rfl)) rfl
theorem tb_576 : (Jvm.Cond.constantLong "ChordHerds$Teller" (131 : Nat) (1650814060 : Int64)) ∈ zt := tbl_3 _ (List.mem_of_getElem? (i := 96) (by rfl)) rfl
theorem tb_577 : (Jvm.Cond.constantLong "ChordHerds$Teller" (137 : Nat) (1819243876 : Int64)) ∈ zt := tbl_3 _ (List.mem_of_getElem? (i := 97) (by rfl)) rfl
theorem tb_578 : (Jvm.Cond.constantLong "ChordHerds$Teller" (72 : Nat) (8319400174449812850 : Int64)) ∈ zt := tbl_3 _ (List.mem_of_getElem? (i := 98) (by rfl)) rfl
theorem tb_579 : (Jvm.Cond.constantLong "ChordHerds$Teller" (77 : Nat) (6644082 : Int64)) ∈ zt := tbl_3 _ (List.mem_of_getElem? (i := 99) (by rfl)) rfl
theorem tb_580 : (Jvm.Cond.constantLong "ChordHerds$Teller" (149 : Nat) (24948 : Int64)) ∈ zt := tbl_3 _ (List.mem_of_getElem? (i := 100) (by rfl)) rfl
theorem tb_581 : (Jvm.Cond.constantLong "ChordHerds$Teller" (82 : Nat) (108187867505765 : Int64)) ∈ zt := tbl_3 _ (List.mem_of_getElem? (i := 101) (by rfl)) rfl
theorem tb_582 : (Jvm.Cond.methodLink "ChordHerds$Teller" (123 : Nat) ({ cls := "ChordHerds$Teller", name := "find", desc := "(J[JI)I" } : Jvm.MethodName)) ∈ zt := tbl_3 _ (List.mem_of_getElem? (i := 102) (by rfl)) rfl
theorem tb_583 : (Jvm.Cond.static ({ cls := "ChordHerds$Teller", name := "find", desc := "(J[JI)I" } : Jvm.MethodName)) ∈ zt := tbl_3 _ (List.mem_of_getElem? (i := 103) (by rfl)) rfl
theorem tb_584 : (Jvm.Cond.code ({ cls := "ChordHerds$Teller", name := "find", desc := "(J[JI)I" } : Jvm.MethodName) prog_10_method_19_code (5 : Nat) (Option.some Jvm.ClassFile.FieldType.int)) ∈ zt := tbl_3 _ (List.mem_of_getElem? (i := 104) (by rfl)) rfl
theorem tb_585 : (Jvm.Cond.methodLink "ChordHerds$Teller" (101 : Nat) ({ cls := "ChordHerds$Valley", name := "addHerd", desc := "(J)V" } : Jvm.MethodName)) ∈ zt := tbl_3 _ (List.mem_of_getElem? (i := 105) (by rfl)) rfl
theorem tb_586 : (Jvm.Cond.instanceMethod ({ cls := "ChordHerds$Valley", name := "addHerd", desc := "(J)V" } : Jvm.MethodName)) ∈ zt := tbl_3 _ (List.mem_of_getElem? (i := 106) (by rfl)) rfl
theorem tb_587 : (Jvm.Cond.selects "ChordHerds$Valley" ({ cls := "ChordHerds$Valley", name := "addHerd", desc := "(J)V" } : Jvm.MethodName) ({ cls := "ChordHerds$Valley", name := "addHerd", desc := "(J)V" } : Jvm.MethodName)) ∈ zt := tbl_3 _ (List.mem_of_getElem? (i := 107) (by rfl)) rfl
theorem tb_588 : (Jvm.Cond.code ({ cls := "ChordHerds$Valley", name := "addHerd", desc := "(J)V" } : Jvm.MethodName) prog_11_method_3_code (3 : Nat) (Option.none : Option Jvm.ClassFile.FieldType)) ∈ zt := tbl_3 _ (List.mem_of_getElem? (i := 108) (by rfl)) rfl
theorem tb_589 : (Jvm.Cond.methodLink "ChordHerds$Teller" (69 : Nat) ({ cls := "ChordHerds$Teller", name := "tellBeast", desc := "(LChordHerds$Valley;)Z" } : Jvm.MethodName)) ∈ zt := tbl_3 _ (List.mem_of_getElem? (i := 109) (by rfl)) rfl
theorem tb_591 : (Jvm.Cond.instanceMethod ({ cls := "ChordHerds$Teller", name := "tellBeast", desc := "(LChordHerds$Valley;)Z" } : Jvm.MethodName)) ∈ zt := tbl_3 _ (List.mem_of_getElem? (i := 111) (by rfl)) rfl
theorem tb_592 : (Jvm.Cond.code ({ cls := "ChordHerds$Teller", name := "tellBeast", desc := "(LChordHerds$Valley;)Z" } : Jvm.MethodName) prog_10_method_6_code (5 : Nat) (Option.some Jvm.ClassFile.FieldType.boolean)) ∈ zt := tbl_3 _ (List.mem_of_getElem? (i := 112) (by rfl)) rfl
theorem tb_593 : (Jvm.Cond.methodLink "ChordHerds$Teller" (116 : Nat) ({ cls := "ChordHerds$Teller", name := "takeWord", desc := "(J)Z" } : Jvm.MethodName)) ∈ zt := tbl_3 _ (List.mem_of_getElem? (i := 113) (by rfl)) rfl
theorem tb_595 : (Jvm.Cond.instanceMethod ({ cls := "ChordHerds$Teller", name := "takeWord", desc := "(J)Z" } : Jvm.MethodName)) ∈ zt := tbl_3 _ (List.mem_of_getElem? (i := 115) (by rfl)) rfl
theorem tb_596 : (Jvm.Cond.code ({ cls := "ChordHerds$Teller", name := "takeWord", desc := "(J)Z" } : Jvm.MethodName) prog_10_method_14_code (3 : Nat) (Option.some Jvm.ClassFile.FieldType.boolean)) ∈ zt := tbl_3 _ (List.mem_of_getElem? (i := 116) (by rfl)) rfl
theorem tb_597 : (Jvm.Cond.methodLink "ChordHerds$Teller" (127 : Nat) ({ cls := "ChordHerds$Teller", name := "tellBell", desc := "(LChordHerds$Valley;JI)Z" } : Jvm.MethodName)) ∈ zt := tbl_3 _ (List.mem_of_getElem? (i := 117) (by rfl)) rfl
theorem tb_599 : (Jvm.Cond.instanceMethod ({ cls := "ChordHerds$Teller", name := "tellBell", desc := "(LChordHerds$Valley;JI)Z" } : Jvm.MethodName)) ∈ zt := tbl_3 _ (List.mem_of_getElem? (i := 119) (by rfl)) rfl
theorem tb_600 : (Jvm.Cond.code ({ cls := "ChordHerds$Teller", name := "tellBell", desc := "(LChordHerds$Valley;JI)Z" } : Jvm.MethodName) prog_10_method_8_code (7 : Nat) (Option.some Jvm.ClassFile.FieldType.boolean)) ∈ zt := tbl_3 _ (List.mem_of_getElem? (i := 120) (by rfl)) rfl
theorem tb_601 : (Jvm.Cond.methodLink "ChordHerds$Teller" (133 : Nat) ({ cls := "ChordHerds$Teller", name := "takeNumber", desc := "(II)Z" } : Jvm.MethodName)) ∈ zt := tbl_3 _ (List.mem_of_getElem? (i := 121) (by rfl)) rfl
theorem tb_603 : (Jvm.Cond.instanceMethod ({ cls := "ChordHerds$Teller", name := "takeNumber", desc := "(II)Z" } : Jvm.MethodName)) ∈ zt := tbl_3 _ (List.mem_of_getElem? (i := 123) (by rfl)) rfl
theorem tb_604 : (Jvm.Cond.code ({ cls := "ChordHerds$Teller", name := "takeNumber", desc := "(II)Z" } : Jvm.MethodName) prog_10_method_15_code (3 : Nat) (Option.some Jvm.ClassFile.FieldType.boolean)) ∈ zt := tbl_3 _ (List.mem_of_getElem? (i := 124) (by rfl)) rfl
theorem tb_605 : (Jvm.Cond.methodLink "ChordHerds$Teller" (139 : Nat) ({ cls := "ChordHerds$Valley", name := "addBell", desc := "(JIII)V" } : Jvm.MethodName)) ∈ zt := tbl_3 _ (List.mem_of_getElem? (i := 125) (by rfl)) rfl
theorem tb_606 : (Jvm.Cond.instanceMethod ({ cls := "ChordHerds$Valley", name := "addBell", desc := "(JIII)V" } : Jvm.MethodName)) ∈ zt := tbl_3 _ (List.mem_of_getElem? (i := 126) (by rfl)) rfl
theorem tb_607 : (Jvm.Cond.selects "ChordHerds$Valley" ({ cls := "ChordHerds$Valley", name := "addBell", desc := "(JIII)V" } : Jvm.MethodName) ({ cls := "ChordHerds$Valley", name := "addBell", desc := "(JIII)V" } : Jvm.MethodName)) ∈ zt := tbl_3 _ (List.mem_of_getElem? (i := 127) (by rfl)) rfl
theorem tb_608 : (Jvm.Cond.code ({ cls := "ChordHerds$Valley", name := "addBell", desc := "(JIII)V" } : Jvm.MethodName) prog_11_method_4_code (6 : Nat) (Option.none : Option Jvm.ClassFile.FieldType)) ∈ zt := tbl_3 _ (List.mem_of_getElem? (i := 128) (by rfl)) rfl
theorem tb_609 : (Jvm.Cond.methodLink "ChordHerds$Teller" (74 : Nat) ({ cls := "ChordHerds$Teller", name := "tellStranger", desc := "(LChordHerds$Valley;)Z" } : Jvm.MethodName)) ∈ zt := tbl_3 _ (List.mem_of_getElem? (i := 129) (by rfl)) rfl
theorem tb_611 : (Jvm.Cond.instanceMethod ({ cls := "ChordHerds$Teller", name := "tellStranger", desc := "(LChordHerds$Valley;)Z" } : Jvm.MethodName)) ∈ zt := tbl_3 _ (List.mem_of_getElem? (i := 131) (by rfl)) rfl
theorem tb_612 : (Jvm.Cond.code ({ cls := "ChordHerds$Teller", name := "tellStranger", desc := "(LChordHerds$Valley;)Z" } : Jvm.MethodName) prog_10_method_7_code (2 : Nat) (Option.some Jvm.ClassFile.FieldType.boolean)) ∈ zt := tbl_3 _ (List.mem_of_getElem? (i := 132) (by rfl)) rfl
theorem tb_613 : (Jvm.Cond.methodLink "ChordHerds$Teller" (79 : Nat) ({ cls := "ChordHerds$Teller", name := "tellEar", desc := "(LChordHerds$Valley;)Z" } : Jvm.MethodName)) ∈ zt := tbl_3 _ (List.mem_of_getElem? (i := 133) (by rfl)) rfl
theorem tb_615 : (Jvm.Cond.instanceMethod ({ cls := "ChordHerds$Teller", name := "tellEar", desc := "(LChordHerds$Valley;)Z" } : Jvm.MethodName)) ∈ zt := tbl_3 _ (List.mem_of_getElem? (i := 135) (by rfl)) rfl
theorem tb_616 : (Jvm.Cond.code ({ cls := "ChordHerds$Teller", name := "tellEar", desc := "(LChordHerds$Valley;)Z" } : Jvm.MethodName) prog_10_method_9_code (5 : Nat) (Option.some Jvm.ClassFile.FieldType.boolean)) ∈ zt := tbl_3 _ (List.mem_of_getElem? (i := 136) (by rfl)) rfl
theorem tb_617 : (Jvm.Cond.methodLink "ChordHerds$Teller" (151 : Nat) ({ cls := "ChordHerds$Valley", name := "addEar", desc := "(JI)V" } : Jvm.MethodName)) ∈ zt := tbl_3 _ (List.mem_of_getElem? (i := 137) (by rfl)) rfl
theorem tb_618 : (Jvm.Cond.instanceMethod ({ cls := "ChordHerds$Valley", name := "addEar", desc := "(JI)V" } : Jvm.MethodName)) ∈ zt := tbl_3 _ (List.mem_of_getElem? (i := 138) (by rfl)) rfl
theorem tb_619 : (Jvm.Cond.selects "ChordHerds$Valley" ({ cls := "ChordHerds$Valley", name := "addEar", desc := "(JI)V" } : Jvm.MethodName) ({ cls := "ChordHerds$Valley", name := "addEar", desc := "(JI)V" } : Jvm.MethodName)) ∈ zt := tbl_3 _ (List.mem_of_getElem? (i := 139) (by rfl)) rfl
theorem tb_620 : (Jvm.Cond.code ({ cls := "ChordHerds$Valley", name := "addEar", desc := "(JI)V" } : Jvm.MethodName) prog_11_method_5_code (4 : Nat) (Option.none : Option Jvm.ClassFile.FieldType)) ∈ zt := tbl_3 _ (List.mem_of_getElem? (i := 140) (by rfl)) rfl
theorem tb_621 : (Jvm.Cond.methodLink "ChordHerds$Teller" (84 : Nat) ({ cls := "ChordHerds$Teller", name := "tellBeside", desc := "(LChordHerds$Valley;)Z" } : Jvm.MethodName)) ∈ zt := tbl_3 _ (List.mem_of_getElem? (i := 141) (by rfl)) rfl
theorem tb_623 : (Jvm.Cond.instanceMethod ({ cls := "ChordHerds$Teller", name := "tellBeside", desc := "(LChordHerds$Valley;)Z" } : Jvm.MethodName)) ∈ zt := tbl_3 _ (List.mem_of_getElem? (i := 143) (by rfl)) rfl
theorem tb_624 : (Jvm.Cond.code ({ cls := "ChordHerds$Teller", name := "tellBeside", desc := "(LChordHerds$Valley;)Z" } : Jvm.MethodName) prog_10_method_10_code (4 : Nat) (Option.some Jvm.ClassFile.FieldType.boolean)) ∈ zt := tbl_3 _ (List.mem_of_getElem? (i := 144) (by rfl)) rfl
theorem tb_625 : (Jvm.Cond.methodLink "ChordHerds$Teller" (158 : Nat) ({ cls := "ChordHerds$Teller", name := "takeBeast", desc := "(LChordHerds$Valley;)I" } : Jvm.MethodName)) ∈ zt := tbl_3 _ (List.mem_of_getElem? (i := 145) (by rfl)) rfl
theorem tb_627 : (Jvm.Cond.instanceMethod ({ cls := "ChordHerds$Teller", name := "takeBeast", desc := "(LChordHerds$Valley;)I" } : Jvm.MethodName)) ∈ zt := tbl_3 _ (List.mem_of_getElem? (i := 147) (by rfl)) rfl
theorem tb_628 : (Jvm.Cond.code ({ cls := "ChordHerds$Teller", name := "takeBeast", desc := "(LChordHerds$Valley;)I" } : Jvm.MethodName) prog_10_method_11_code (3 : Nat) (Option.some Jvm.ClassFile.FieldType.int)) ∈ zt := tbl_3 _ (List.mem_of_getElem? (i := 148) (by rfl)) rfl
theorem tb_629 : (Jvm.Cond.methodLink "ChordHerds$Teller" (169 : Nat) ({ cls := "ChordHerds$Valley", name := "isBeast", desc := "(I)Z" } : Jvm.MethodName)) ∈ zt := tbl_3 _ (List.mem_of_getElem? (i := 149) (by rfl)) rfl
theorem tb_630 : (Jvm.Cond.instanceMethod ({ cls := "ChordHerds$Valley", name := "isBeast", desc := "(I)Z" } : Jvm.MethodName)) ∈ zt := tbl_3 _ (List.mem_of_getElem? (i := 150) (by rfl)) rfl
theorem tb_631 : (Jvm.Cond.selects "ChordHerds$Valley" ({ cls := "ChordHerds$Valley", name := "isBeast", desc := "(I)Z" } : Jvm.MethodName) ({ cls := "ChordHerds$Valley", name := "isBeast", desc := "(I)Z" } : Jvm.MethodName)) ∈ zt := tbl_3 _ (List.mem_of_getElem? (i := 151) (by rfl)) rfl
theorem tb_632 : (Jvm.Cond.code ({ cls := "ChordHerds$Valley", name := "isBeast", desc := "(I)Z" } : Jvm.MethodName) prog_11_method_9_code (2 : Nat) (Option.some Jvm.ClassFile.FieldType.boolean)) ∈ zt := tbl_3 _ (List.mem_of_getElem? (i := 152) (by rfl)) rfl
theorem tb_633 : (Jvm.Cond.methodLink "ChordHerds$Teller" (165 : Nat) ({ cls := "ChordHerds$Valley", name := "addBeside", desc := "(II)V" } : Jvm.MethodName)) ∈ zt := tbl_3 _ (List.mem_of_getElem? (i := 153) (by rfl)) rfl
theorem tb_634 : (Jvm.Cond.instanceMethod ({ cls := "ChordHerds$Valley", name := "addBeside", desc := "(II)V" } : Jvm.MethodName)) ∈ zt := tbl_3 _ (List.mem_of_getElem? (i := 154) (by rfl)) rfl
theorem tb_635 : (Jvm.Cond.selects "ChordHerds$Valley" ({ cls := "ChordHerds$Valley", name := "addBeside", desc := "(II)V" } : Jvm.MethodName) ({ cls := "ChordHerds$Valley", name := "addBeside", desc := "(II)V" } : Jvm.MethodName)) ∈ zt := tbl_3 _ (List.mem_of_getElem? (i := 155) (by rfl)) rfl
theorem tb_636 : (Jvm.Cond.code ({ cls := "ChordHerds$Valley", name := "addBeside", desc := "(II)V" } : Jvm.MethodName) prog_11_method_6_code (3 : Nat) (Option.none : Option Jvm.ClassFile.FieldType)) ∈ zt := tbl_3 _ (List.mem_of_getElem? (i := 156) (by rfl)) rfl
theorem tb_637 : (Jvm.Cond.methodLink "ChordHerds" (105 : Nat) ({ cls := "ChordHerds$Earnest", name := "begin", desc := "(LChordHerds$Valley;)V" } : Jvm.MethodName)) ∈ zt := tbl_3 _ (List.mem_of_getElem? (i := 157) (by rfl)) rfl
theorem tb_638 : (Jvm.Cond.instanceMethod ({ cls := "ChordHerds$Earnest", name := "begin", desc := "(LChordHerds$Valley;)V" } : Jvm.MethodName)) ∈ zt := tbl_3 _ (List.mem_of_getElem? (i := 158) (by rfl)) rfl
theorem tb_639 : (Jvm.Cond.selects "ChordHerds$Earnest" ({ cls := "ChordHerds$Earnest", name := "begin", desc := "(LChordHerds$Valley;)V" } : Jvm.MethodName) ({ cls := "ChordHerds$Earnest", name := "begin", desc := "(LChordHerds$Valley;)V" } : Jvm.MethodName)) ∈ zt := tbl_3 _ (List.mem_of_getElem? (i := 159) (by rfl)) rfl
theorem tb_640 : (Jvm.Cond.code ({ cls := "ChordHerds$Earnest", name := "begin", desc := "(LChordHerds$Valley;)V" } : Jvm.MethodName) prog_5_method_2_code (2 : Nat) (Option.none : Option Jvm.ClassFile.FieldType)) ∈ zt := tbl_3 _ (List.mem_of_getElem? (i := 160) (by rfl)) rfl
theorem tb_641 : (Jvm.Cond.methodLink "ChordHerds$Earnest" (36 : Nat) ({ cls := "java/util/Arrays", name := "fill", desc := "([II)V" } : Jvm.MethodName)) ∈ zt := tbl_3 _ (List.mem_of_getElem? (i := 161) (by rfl)) rfl
theorem tb_642 : (Jvm.Cond.static ({ cls := "java/util/Arrays", name := "fill", desc := "([II)V" } : Jvm.MethodName)) ∈ zt := tbl_3 _ (List.mem_of_getElem? (i := 162) (by rfl)) rfl
theorem tb_643 : (Jvm.Cond.code ({ cls := "java/util/Arrays", name := "fill", desc := "([II)V" } : Jvm.MethodName) prog_17_method_103_code (4 : Nat) (Option.none : Option Jvm.ClassFile.FieldType)) ∈ zt := tbl_3 _ (List.mem_of_getElem? (i := 163) (by rfl)) rfl
theorem tb_644 : (Jvm.Cond.methodLink "ChordHerdsLaw" (28 : Nat) ({ cls := "ChordHerds", name := "fault", desc := "(I)I" } : Jvm.MethodName)) ∈ zt := tbl_3 _ (List.mem_of_getElem? (i := 164) (by rfl)) rfl
theorem tb_645 : (Jvm.Cond.instanceMethod ({ cls := "ChordHerds", name := "fault", desc := "(I)I" } : Jvm.MethodName)) ∈ zt := tbl_3 _ (List.mem_of_getElem? (i := 165) (by rfl)) rfl
theorem tb_646 : (Jvm.Cond.selects "ChordHerds" ({ cls := "ChordHerds", name := "fault", desc := "(I)I" } : Jvm.MethodName) ({ cls := "ChordHerds", name := "fault", desc := "(I)I" } : Jvm.MethodName)) ∈ zt := tbl_3 _ (List.mem_of_getElem? (i := 166) (by rfl)) rfl
theorem tb_647 : (Jvm.Cond.code ({ cls := "ChordHerds", name := "fault", desc := "(I)I" } : Jvm.MethodName) prog_1_method_6_code (2 : Nat) (Option.some Jvm.ClassFile.FieldType.int)) ∈ zt := tbl_3 _ (List.mem_of_getElem? (i := 167) (by rfl)) rfl
theorem tb_648 : (Jvm.Cond.methodLink "ChordHerdsLaw" (32 : Nat) ({ cls := "ChordHerds", name := "bell", desc := "(II)I" } : Jvm.MethodName)) ∈ zt := tbl_3 _ (List.mem_of_getElem? (i := 168) (by rfl)) rfl
theorem tb_649 : (Jvm.Cond.instanceMethod ({ cls := "ChordHerds", name := "bell", desc := "(II)I" } : Jvm.MethodName)) ∈ zt := tbl_3 _ (List.mem_of_getElem? (i := 169) (by rfl)) rfl
theorem tb_650 : (Jvm.Cond.selects "ChordHerds" ({ cls := "ChordHerds", name := "bell", desc := "(II)I" } : Jvm.MethodName) ({ cls := "ChordHerds", name := "bell", desc := "(II)I" } : Jvm.MethodName)) ∈ zt := tbl_3 _ (List.mem_of_getElem? (i := 170) (by rfl)) rfl
theorem tb_651 : (Jvm.Cond.code ({ cls := "ChordHerds", name := "bell", desc := "(II)I" } : Jvm.MethodName) prog_1_method_7_code (3 : Nat) (Option.some Jvm.ClassFile.FieldType.int)) ∈ zt := tbl_3 _ (List.mem_of_getElem? (i := 171) (by rfl)) rfl
theorem tb_652 : (Jvm.Cond.methodLink "ChordHerds" (131 : Nat) ({ cls := "ChordHerds$Valley", name := "hasBell", desc := "(I)Z" } : Jvm.MethodName)) ∈ zt := tbl_3 _ (List.mem_of_getElem? (i := 172) (by rfl)) rfl
theorem tb_653 : (Jvm.Cond.instanceMethod ({ cls := "ChordHerds$Valley", name := "hasBell", desc := "(I)Z" } : Jvm.MethodName)) ∈ zt := tbl_3 _ (List.mem_of_getElem? (i := 173) (by rfl)) rfl
theorem tb_654 : (Jvm.Cond.selects "ChordHerds$Valley" ({ cls := "ChordHerds$Valley", name := "hasBell", desc := "(I)Z" } : Jvm.MethodName) ({ cls := "ChordHerds$Valley", name := "hasBell", desc := "(I)Z" } : Jvm.MethodName)) ∈ zt := tbl_3 _ (List.mem_of_getElem? (i := 174) (by rfl)) rfl
theorem tb_655 : (Jvm.Cond.code ({ cls := "ChordHerds$Valley", name := "hasBell", desc := "(I)Z" } : Jvm.MethodName) prog_11_method_7_code (2 : Nat) (Option.some Jvm.ClassFile.FieldType.boolean)) ∈ zt := tbl_3 _ (List.mem_of_getElem? (i := 175) (by rfl)) rfl
theorem tb_657 : (Jvm.Cond.methodLink "ChordHerds" (135 : Nat) ({ cls := "ChordHerds$Earnest", name := "toneOf", desc := "(LChordHerds$Valley;I)I" } : Jvm.MethodName)) ∈ zt := tbl_3 _ (List.mem_of_getElem? (i := 177) (by rfl)) rfl
theorem tb_658 : (Jvm.Cond.instanceMethod ({ cls := "ChordHerds$Earnest", name := "toneOf", desc := "(LChordHerds$Valley;I)I" } : Jvm.MethodName)) ∈ zt := tbl_3 _ (List.mem_of_getElem? (i := 178) (by rfl)) rfl
theorem tb_659 : (Jvm.Cond.selects "ChordHerds$Earnest" ({ cls := "ChordHerds$Earnest", name := "toneOf", desc := "(LChordHerds$Valley;I)I" } : Jvm.MethodName) ({ cls := "ChordHerds$Earnest", name := "toneOf", desc := "(LChordHerds$Valley;I)I" } : Jvm.MethodName)) ∈ zt := tbl_3 _ (List.mem_of_getElem? (i := 179) (by rfl)) rfl
theorem tb_660 : (Jvm.Cond.code ({ cls := "ChordHerds$Earnest", name := "toneOf", desc := "(LChordHerds$Valley;I)I" } : Jvm.MethodName) prog_5_method_6_code (3 : Nat) (Option.some Jvm.ClassFile.FieldType.int)) ∈ zt := tbl_3 _ (List.mem_of_getElem? (i := 180) (by rfl)) rfl
theorem tb_661 : (Jvm.Cond.methodLink "ChordHerds$Earnest" (51 : Nat) ({ cls := "java/lang/Math", name := "floorMod", desc := "(II)I" } : Jvm.MethodName)) ∈ zt := tbl_3 _ (List.mem_of_getElem? (i := 181) (by rfl)) rfl
theorem tb_662 : (Jvm.Cond.static ({ cls := "java/lang/Math", name := "floorMod", desc := "(II)I" } : Jvm.MethodName)) ∈ zt := tbl_3 _ (List.mem_of_getElem? (i := 182) (by rfl)) rfl
theorem tb_663 : (Jvm.Cond.code ({ cls := "java/lang/Math", name := "floorMod", desc := "(II)I" } : Jvm.MethodName) prog_15_method_50_code (3 : Nat) (Option.some Jvm.ClassFile.FieldType.int)) ∈ zt := tbl_3 _ (List.mem_of_getElem? (i := 183) (by rfl)) rfl
theorem tb_664 : (Jvm.Cond.methodLink "ChordHerdsLaw" (37 : Nat) ({ cls := "ChordHerds", name := "hear", desc := "(II)I" } : Jvm.MethodName)) ∈ zt := tbl_3 _ (List.mem_of_getElem? (i := 184) (by rfl)) rfl
theorem tb_665 : (Jvm.Cond.instanceMethod ({ cls := "ChordHerds", name := "hear", desc := "(II)I" } : Jvm.MethodName)) ∈ zt := tbl_3 _ (List.mem_of_getElem? (i := 185) (by rfl)) rfl
theorem tb_666 : (Jvm.Cond.selects "ChordHerds" ({ cls := "ChordHerds", name := "hear", desc := "(II)I" } : Jvm.MethodName) ({ cls := "ChordHerds", name := "hear", desc := "(II)I" } : Jvm.MethodName)) ∈ zt := tbl_3 _ (List.mem_of_getElem? (i := 186) (by rfl)) rfl
theorem tb_667 : (Jvm.Cond.code ({ cls := "ChordHerds", name := "hear", desc := "(II)I" } : Jvm.MethodName) prog_1_method_8_code (3 : Nat) (Option.some Jvm.ClassFile.FieldType.int)) ∈ zt := tbl_3 _ (List.mem_of_getElem? (i := 187) (by rfl)) rfl
theorem tb_668 : (Jvm.Cond.methodLink "ChordHerds" (153 : Nat) ({ cls := "ChordHerds$Valley", name := "hasEar", desc := "(I)Z" } : Jvm.MethodName)) ∈ zt := tbl_3 _ (List.mem_of_getElem? (i := 188) (by rfl)) rfl
theorem tb_669 : (Jvm.Cond.instanceMethod ({ cls := "ChordHerds$Valley", name := "hasEar", desc := "(I)Z" } : Jvm.MethodName)) ∈ zt := tbl_3 _ (List.mem_of_getElem? (i := 189) (by rfl)) rfl
theorem tb_670 : (Jvm.Cond.selects "ChordHerds$Valley" ({ cls := "ChordHerds$Valley", name := "hasEar", desc := "(I)Z" } : Jvm.MethodName) ({ cls := "ChordHerds$Valley", name := "hasEar", desc := "(I)Z" } : Jvm.MethodName)) ∈ zt := tbl_3 _ (List.mem_of_getElem? (i := 190) (by rfl)) rfl
theorem tb_671 : (Jvm.Cond.code ({ cls := "ChordHerds$Valley", name := "hasEar", desc := "(I)Z" } : Jvm.MethodName) prog_11_method_8_code (2 : Nat) (Option.some Jvm.ClassFile.FieldType.boolean)) ∈ zt := tbl_3 _ (List.mem_of_getElem? (i := 191) (by rfl)) rfl
theorem tb_672 : (Jvm.Cond.methodLink "ChordHerds" (156 : Nat) ({ cls := "ChordHerds$Earnest", name := "loudness", desc := "(LChordHerds$Valley;II)I" } : Jvm.MethodName)) ∈ zt := tbl_3 _ (List.mem_of_getElem? (i := 192) (by rfl)) rfl
theorem tb_673 : (Jvm.Cond.instanceMethod ({ cls := "ChordHerds$Earnest", name := "loudness", desc := "(LChordHerds$Valley;II)I" } : Jvm.MethodName)) ∈ zt := tbl_3 _ (List.mem_of_getElem? (i := 193) (by rfl)) rfl
theorem tb_674 : (Jvm.Cond.selects "ChordHerds$Earnest" ({ cls := "ChordHerds$Earnest", name := "loudness", desc := "(LChordHerds$Valley;II)I" } : Jvm.MethodName) ({ cls := "ChordHerds$Earnest", name := "loudness", desc := "(LChordHerds$Valley;II)I" } : Jvm.MethodName)) ∈ zt := tbl_3 _ (List.mem_of_getElem? (i := 194) (by rfl)) rfl
theorem tb_675 : (Jvm.Cond.code ({ cls := "ChordHerds$Earnest", name := "loudness", desc := "(LChordHerds$Valley;II)I" } : Jvm.MethodName) prog_5_method_7_code (6 : Nat) (Option.some Jvm.ClassFile.FieldType.int)) ∈ zt := tbl_3 _ (List.mem_of_getElem? (i := 195) (by rfl)) rfl
theorem tb_676 : (Jvm.Cond.methodLink "ChordHerds$Earnest" (60 : Nat) ({ cls := "ChordHerds$Earnest", name := "isThere", desc := "(I)Z" } : Jvm.MethodName)) ∈ zt := tbl_3 _ (List.mem_of_getElem? (i := 196) (by rfl)) rfl
theorem tb_677 : (Jvm.Cond.instanceMethod ({ cls := "ChordHerds$Earnest", name := "isThere", desc := "(I)Z" } : Jvm.MethodName)) ∈ zt := tbl_3 _ (List.mem_of_getElem? (i := 197) (by rfl)) rfl
theorem tb_678 : (Jvm.Cond.selects "ChordHerds$Earnest" ({ cls := "ChordHerds$Earnest", name := "isThere", desc := "(I)Z" } : Jvm.MethodName) ({ cls := "ChordHerds$Earnest", name := "isThere", desc := "(I)Z" } : Jvm.MethodName)) ∈ zt := tbl_3 _ (List.mem_of_getElem? (i := 198) (by rfl)) rfl
theorem tb_679 : (Jvm.Cond.code ({ cls := "ChordHerds$Earnest", name := "isThere", desc := "(I)Z" } : Jvm.MethodName) prog_5_method_4_code (2 : Nat) (Option.some Jvm.ClassFile.FieldType.boolean)) ∈ zt := tbl_3 _ (List.mem_of_getElem? (i := 199) (by rfl)) rfl
theorem tb_680 : (Jvm.Cond.methodLink "ChordHerds$Earnest" (64 : Nat) ({ cls := "ChordHerds$Earnest", name := "isStanding", desc := "(I)Z" } : Jvm.MethodName)) ∈ zt := tbl_3 _ (List.mem_of_getElem? (i := 200) (by rfl)) rfl
theorem tb_681 : (Jvm.Cond.instanceMethod ({ cls := "ChordHerds$Earnest", name := "isStanding", desc := "(I)Z" } : Jvm.MethodName)) ∈ zt := tbl_3 _ (List.mem_of_getElem? (i := 201) (by rfl)) rfl
theorem tb_682 : (Jvm.Cond.selects "ChordHerds$Earnest" ({ cls := "ChordHerds$Earnest", name := "isStanding", desc := "(I)Z" } : Jvm.MethodName) ({ cls := "ChordHerds$Earnest", name := "isStanding", desc := "(I)Z" } : Jvm.MethodName)) ∈ zt := tbl_3 _ (List.mem_of_getElem? (i := 202) (by rfl)) rfl
theorem tb_683 : (Jvm.Cond.code ({ cls := "ChordHerds$Earnest", name := "isStanding", desc := "(I)Z" } : Jvm.MethodName) prog_5_method_5_code (2 : Nat) (Option.some Jvm.ClassFile.FieldType.boolean)) ∈ zt := tbl_3 _ (List.mem_of_getElem? (i := 203) (by rfl)) rfl
theorem tb_684 : (Jvm.Cond.methodLink "ChordHerds$Earnest" (67 : Nat) ({ cls := "ChordHerds$Earnest", name := "toneOf", desc := "(LChordHerds$Valley;I)I" } : Jvm.MethodName)) ∈ zt := tbl_3 _ (List.mem_of_getElem? (i := 204) (by rfl)) rfl
theorem tb_685 : (Jvm.Cond.methodLink "ChordHerds$Earnest" (71 : Nat) ({ cls := "ChordHerds$Valley", name := "loudAt", desc := "(IIII)I" } : Jvm.MethodName)) ∈ zt := tbl_3 _ (List.mem_of_getElem? (i := 205) (by rfl)) rfl
theorem tb_686 : (Jvm.Cond.instanceMethod ({ cls := "ChordHerds$Valley", name := "loudAt", desc := "(IIII)I" } : Jvm.MethodName)) ∈ zt := tbl_3 _ (List.mem_of_getElem? (i := 206) (by rfl)) rfl
theorem tb_687 : (Jvm.Cond.selects "ChordHerds$Valley" ({ cls := "ChordHerds$Valley", name := "loudAt", desc := "(IIII)I" } : Jvm.MethodName) ({ cls := "ChordHerds$Valley", name := "loudAt", desc := "(IIII)I" } : Jvm.MethodName)) ∈ zt := tbl_3 _ (List.mem_of_getElem? (i := 207) (by rfl)) rfl
theorem tb_688 : (Jvm.Cond.code ({ cls := "ChordHerds$Valley", name := "loudAt", desc := "(IIII)I" } : Jvm.MethodName) prog_11_method_10_code (6 : Nat) (Option.some Jvm.ClassFile.FieldType.int)) ∈ zt := tbl_3 _ (List.mem_of_getElem? (i := 208) (by rfl)) rfl
theorem tb_689 : (Jvm.Cond.methodLink "ChordHerds$Valley" (63 : Nat) ({ cls := "java/lang/Math", name := "abs", desc := "(I)I" } : Jvm.MethodName)) ∈ zt := tbl_3 _ (List.mem_of_getElem? (i := 209) (by rfl)) rfl
theorem tb_690 : (Jvm.Cond.static ({ cls := "java/lang/Math", name := "abs", desc := "(I)I" } : Jvm.MethodName)) ∈ zt := tbl_3 _ (List.mem_of_getElem? (i := 210) (by rfl)) rfl
theorem tb_691 : (Jvm.Cond.code ({ cls := "java/lang/Math", name := "abs", desc := "(I)I" } : Jvm.MethodName) prog_15_method_59_code (1 : Nat) (Option.some Jvm.ClassFile.FieldType.int)) ∈ zt := tbl_3 _ (List.mem_of_getElem? (i := 211) (by rfl)) rfl
theorem tb_692 : (Jvm.Cond.methodLink "ChordHerds$Valley" (69 : Nat) ({ cls := "java/lang/Math", name := "max", desc := "(II)I" } : Jvm.MethodName)) ∈ zt := tbl_3 _ (List.mem_of_getElem? (i := 212) (by rfl)) rfl
theorem tb_693 : (Jvm.Cond.static ({ cls := "java/lang/Math", name := "max", desc := "(II)I" } : Jvm.MethodName)) ∈ zt := tbl_3 _ (List.mem_of_getElem? (i := 213) (by rfl)) rfl
theorem tb_694 : (Jvm.Cond.code ({ cls := "java/lang/Math", name := "max", desc := "(II)I" } : Jvm.MethodName) prog_15_method_65_code (2 : Nat) (Option.some Jvm.ClassFile.FieldType.int)) ∈ zt := tbl_3 _ (List.mem_of_getElem? (i := 214) (by rfl)) rfl
theorem tb_695 : (Jvm.Cond.methodLink "ChordHerdsLaw" (41 : Nat) ({ cls := "ChordHerds", name := "chord", desc := "(I)I" } : Jvm.MethodName)) ∈ zt := tbl_3 _ (List.mem_of_getElem? (i := 215) (by rfl)) rfl
theorem tb_696 : (Jvm.Cond.instanceMethod ({ cls := "ChordHerds", name := "chord", desc := "(I)I" } : Jvm.MethodName)) ∈ zt := tbl_3 _ (List.mem_of_getElem? (i := 216) (by rfl)) rfl
theorem tb_697 : (Jvm.Cond.selects "ChordHerds" ({ cls := "ChordHerds", name := "chord", desc := "(I)I" } : Jvm.MethodName) ({ cls := "ChordHerds", name := "chord", desc := "(I)I" } : Jvm.MethodName)) ∈ zt := tbl_3 _ (List.mem_of_getElem? (i := 217) (by rfl)) rfl
theorem tb_698 : (Jvm.Cond.code ({ cls := "ChordHerds", name := "chord", desc := "(I)I" } : Jvm.MethodName) prog_1_method_9_code (4 : Nat) (Option.some Jvm.ClassFile.FieldType.int)) ∈ zt := tbl_3 _ (List.mem_of_getElem? (i := 218) (by rfl)) rfl
theorem tb_699 : (Jvm.Cond.methodLink "ChordHerdsLaw" (45 : Nat) ({ cls := "ChordHerds", name := "comes", desc := "(IZ)Z" } : Jvm.MethodName)) ∈ zt := tbl_3 _ (List.mem_of_getElem? (i := 219) (by rfl)) rfl
theorem tb_700 : (Jvm.Cond.instanceMethod ({ cls := "ChordHerds", name := "comes", desc := "(IZ)Z" } : Jvm.MethodName)) ∈ zt := tbl_3 _ (List.mem_of_getElem? (i := 220) (by rfl)) rfl
theorem tb_701 : (Jvm.Cond.selects "ChordHerds" ({ cls := "ChordHerds", name := "comes", desc := "(IZ)Z" } : Jvm.MethodName) ({ cls := "ChordHerds", name := "comes", desc := "(IZ)Z" } : Jvm.MethodName)) ∈ zt := tbl_3 _ (List.mem_of_getElem? (i := 221) (by rfl)) rfl
theorem tb_702 : (Jvm.Cond.code ({ cls := "ChordHerds", name := "comes", desc := "(IZ)Z" } : Jvm.MethodName) prog_1_method_10_code (3 : Nat) (Option.some Jvm.ClassFile.FieldType.boolean)) ∈ zt := tbl_3 _ (List.mem_of_getElem? (i := 222) (by rfl)) rfl
theorem tb_703 : (Jvm.Cond.methodLink "ChordHerds" (160 : Nat) ({ cls := "ChordHerds$Earnest", name := "isThere", desc := "(I)Z" } : Jvm.MethodName)) ∈ zt := tbl_3 _ (List.mem_of_getElem? (i := 223) (by rfl)) rfl
theorem tb_704 : (Jvm.Cond.methodLink "ChordHerdsLaw" (50 : Nat) ({ cls := "ChordHerds", name := "stand", desc := "(IZ)Z" } : Jvm.MethodName)) ∈ zt := tbl_3 _ (List.mem_of_getElem? (i := 224) (by rfl)) rfl
theorem tb_705 : (Jvm.Cond.instanceMethod ({ cls := "ChordHerds", name := "stand", desc := "(IZ)Z" } : Jvm.MethodName)) ∈ zt := tbl_3 _ (List.mem_of_getElem? (i := 225) (by rfl)) rfl
theorem tb_706 : (Jvm.Cond.selects "ChordHerds" ({ cls := "ChordHerds", name := "stand", desc := "(IZ)Z" } : Jvm.MethodName) ({ cls := "ChordHerds", name := "stand", desc := "(IZ)Z" } : Jvm.MethodName)) ∈ zt := tbl_3 _ (List.mem_of_getElem? (i := 226) (by rfl)) rfl
theorem tb_707 : (Jvm.Cond.code ({ cls := "ChordHerds", name := "stand", desc := "(IZ)Z" } : Jvm.MethodName) prog_1_method_11_code (3 : Nat) (Option.some Jvm.ClassFile.FieldType.boolean)) ∈ zt := tbl_3 _ (List.mem_of_getElem? (i := 227) (by rfl)) rfl
theorem tb_708 : (Jvm.Cond.methodLink "ChordHerds" (163 : Nat) ({ cls := "ChordHerds$Earnest", name := "isStanding", desc := "(I)Z" } : Jvm.MethodName)) ∈ zt := tbl_3 _ (List.mem_of_getElem? (i := 228) (by rfl)) rfl
theorem tb_709 : (Jvm.Cond.methodLink "ChordHerdsLaw" (54 : Nat) ({ cls := "ChordHerds", name := "walk", desc := "(II)I" } : Jvm.MethodName)) ∈ zt := tbl_3 _ (List.mem_of_getElem? (i := 229) (by rfl)) rfl
theorem tb_710 : (Jvm.Cond.instanceMethod ({ cls := "ChordHerds", name := "walk", desc := "(II)I" } : Jvm.MethodName)) ∈ zt := tbl_3 _ (List.mem_of_getElem? (i := 230) (by rfl)) rfl
theorem tb_711 : (Jvm.Cond.selects "ChordHerds" ({ cls := "ChordHerds", name := "walk", desc := "(II)I" } : Jvm.MethodName) ({ cls := "ChordHerds", name := "walk", desc := "(II)I" } : Jvm.MethodName)) ∈ zt := tbl_3 _ (List.mem_of_getElem? (i := 231) (by rfl)) rfl
theorem tb_712 : (Jvm.Cond.code ({ cls := "ChordHerds", name := "walk", desc := "(II)I" } : Jvm.MethodName) prog_1_method_12_code (4 : Nat) (Option.some Jvm.ClassFile.FieldType.int)) ∈ zt := tbl_3 _ (List.mem_of_getElem? (i := 232) (by rfl)) rfl
theorem tb_713 : (Jvm.Cond.methodLink "ChordHerds" (166 : Nat) ({ cls := "ChordHerds", name := "isPlace", desc := "(I)Z" } : Jvm.MethodName)) ∈ zt := tbl_3 _ (List.mem_of_getElem? (i := 233) (by rfl)) rfl
theorem tb_714 : (Jvm.Cond.static ({ cls := "ChordHerds", name := "isPlace", desc := "(I)Z" } : Jvm.MethodName)) ∈ zt := tbl_3 _ (List.mem_of_getElem? (i := 234) (by rfl)) rfl
theorem tb_715 : (Jvm.Cond.code ({ cls := "ChordHerds", name := "isPlace", desc := "(I)Z" } : Jvm.MethodName) prog_1_method_34_code (1 : Nat) (Option.some Jvm.ClassFile.FieldType.boolean)) ∈ zt := tbl_3 _ (List.mem_of_getElem? (i := 235) (by rfl)) rfl
theorem tb_716 : (Jvm.Cond.methodLink "ChordHerds" (169 : Nat) ({ cls := "ChordHerds", name := "isWind", desc := "(I)Z" } : Jvm.MethodName)) ∈ zt := tbl_3 _ (List.mem_of_getElem? (i := 236) (by rfl)) rfl
theorem tb_717 : (Jvm.Cond.static ({ cls := "ChordHerds", name := "isWind", desc := "(I)Z" } : Jvm.MethodName)) ∈ zt := tbl_3 _ (List.mem_of_getElem? (i := 237) (by rfl)) rfl
theorem tb_718 : (Jvm.Cond.code ({ cls := "ChordHerds", name := "isWind", desc := "(I)Z" } : Jvm.MethodName) prog_1_method_35_code (1 : Nat) (Option.some Jvm.ClassFile.FieldType.boolean)) ∈ zt := tbl_3 _ (List.mem_of_getElem? (i := 238) (by rfl)) rfl
theorem tb_719 : (Jvm.Cond.methodLink "ChordHerdsLaw" (58 : Nat) ({ cls := "ChordHerds", name := "crack", desc := "(II)I" } : Jvm.MethodName)) ∈ zt := tbl_3 _ (List.mem_of_getElem? (i := 239) (by rfl)) rfl
theorem tb_720 : (Jvm.Cond.instanceMethod ({ cls := "ChordHerds", name := "crack", desc := "(II)I" } : Jvm.MethodName)) ∈ zt := tbl_4 _ (List.mem_of_getElem? (i := 0) (by rfl)) rfl
theorem tb_721 : (Jvm.Cond.selects "ChordHerds" ({ cls := "ChordHerds", name := "crack", desc := "(II)I" } : Jvm.MethodName) ({ cls := "ChordHerds", name := "crack", desc := "(II)I" } : Jvm.MethodName)) ∈ zt := tbl_4 _ (List.mem_of_getElem? (i := 1) (by rfl)) rfl
theorem tb_722 : (Jvm.Cond.code ({ cls := "ChordHerds", name := "crack", desc := "(II)I" } : Jvm.MethodName) prog_1_method_13_code (4 : Nat) (Option.some Jvm.ClassFile.FieldType.int)) ∈ zt := tbl_4 _ (List.mem_of_getElem? (i := 2) (by rfl)) rfl
theorem tb_723 : (Jvm.Cond.methodLink "ChordHerdsLaw" (62 : Nat) ({ cls := "ChordHerds", name := "years", desc := "(I)I" } : Jvm.MethodName)) ∈ zt := tbl_4 _ (List.mem_of_getElem? (i := 3) (by rfl)) rfl
theorem tb_724 : (Jvm.Cond.instanceMethod ({ cls := "ChordHerds", name := "years", desc := "(I)I" } : Jvm.MethodName)) ∈ zt := tbl_4 _ (List.mem_of_getElem? (i := 4) (by rfl)) rfl
theorem tb_725 : (Jvm.Cond.selects "ChordHerds" ({ cls := "ChordHerds", name := "years", desc := "(I)I" } : Jvm.MethodName) ({ cls := "ChordHerds", name := "years", desc := "(I)I" } : Jvm.MethodName)) ∈ zt := tbl_4 _ (List.mem_of_getElem? (i := 5) (by rfl)) rfl
theorem tb_726 : (Jvm.Cond.code ({ cls := "ChordHerds", name := "years", desc := "(I)I" } : Jvm.MethodName) prog_1_method_14_code (2 : Nat) (Option.some Jvm.ClassFile.FieldType.int)) ∈ zt := tbl_4 _ (List.mem_of_getElem? (i := 6) (by rfl)) rfl
theorem tb_727 : (Jvm.Cond.methodLink "ChordHerdsLaw" (66 : Nat) ({ cls := "ChordHerds", name := "sound", desc := "(IIIII)I" } : Jvm.MethodName)) ∈ zt := tbl_4 _ (List.mem_of_getElem? (i := 7) (by rfl)) rfl
theorem tb_728 : (Jvm.Cond.instanceMethod ({ cls := "ChordHerds", name := "sound", desc := "(IIIII)I" } : Jvm.MethodName)) ∈ zt := tbl_4 _ (List.mem_of_getElem? (i := 8) (by rfl)) rfl
theorem tb_729 : (Jvm.Cond.selects "ChordHerds" ({ cls := "ChordHerds", name := "sound", desc := "(IIIII)I" } : Jvm.MethodName) ({ cls := "ChordHerds", name := "sound", desc := "(IIIII)I" } : Jvm.MethodName)) ∈ zt := tbl_4 _ (List.mem_of_getElem? (i := 9) (by rfl)) rfl
theorem tb_730 : (Jvm.Cond.code ({ cls := "ChordHerds", name := "sound", desc := "(IIIII)I" } : Jvm.MethodName) prog_1_method_15_code (6 : Nat) (Option.some Jvm.ClassFile.FieldType.int)) ∈ zt := tbl_4 _ (List.mem_of_getElem? (i := 10) (by rfl)) rfl
theorem tb_731 : (Jvm.Cond.methodLink "ChordHerds" (181 : Nat) ({ cls := "ChordHerds", name := "isQuarter", desc := "(I)Z" } : Jvm.MethodName)) ∈ zt := tbl_4 _ (List.mem_of_getElem? (i := 11) (by rfl)) rfl
theorem tb_732 : (Jvm.Cond.static ({ cls := "ChordHerds", name := "isQuarter", desc := "(I)Z" } : Jvm.MethodName)) ∈ zt := tbl_4 _ (List.mem_of_getElem? (i := 12) (by rfl)) rfl
theorem tb_733 : (Jvm.Cond.code ({ cls := "ChordHerds", name := "isQuarter", desc := "(I)Z" } : Jvm.MethodName) prog_1_method_36_code (1 : Nat) (Option.some Jvm.ClassFile.FieldType.boolean)) ∈ zt := tbl_4 _ (List.mem_of_getElem? (i := 13) (by rfl)) rfl
theorem tb_734 : (Jvm.Cond.methodLink "ChordHerds" (187 : Nat) ({ cls := "ChordHerds$Entries", name := "add", desc := "(IIIIII)I" } : Jvm.MethodName)) ∈ zt := tbl_4 _ (List.mem_of_getElem? (i := 14) (by rfl)) rfl
theorem tb_735 : (Jvm.Cond.instanceMethod ({ cls := "ChordHerds$Entries", name := "add", desc := "(IIIIII)I" } : Jvm.MethodName)) ∈ zt := tbl_4 _ (List.mem_of_getElem? (i := 15) (by rfl)) rfl
theorem tb_736 : (Jvm.Cond.selects "ChordHerds$Entries" ({ cls := "ChordHerds$Entries", name := "add", desc := "(IIIIII)I" } : Jvm.MethodName) ({ cls := "ChordHerds$Entries", name := "add", desc := "(IIIIII)I" } : Jvm.MethodName)) ∈ zt := tbl_4 _ (List.mem_of_getElem? (i := 16) (by rfl)) rfl
theorem tb_737 : (Jvm.Cond.code ({ cls := "ChordHerds$Entries", name := "add", desc := "(IIIIII)I" } : Jvm.MethodName) prog_6_method_2_code (7 : Nat) (Option.some Jvm.ClassFile.FieldType.int)) ∈ zt := tbl_4 _ (List.mem_of_getElem? (i := 17) (by rfl)) rfl
theorem tb_738 : (Jvm.Cond.methodLink "ChordHerdsLaw" (70 : Nat) ({ cls := "ChordHerds", name := "evening", desc := "(II)I" } : Jvm.MethodName)) ∈ zt := tbl_4 _ (List.mem_of_getElem? (i := 18) (by rfl)) rfl
theorem tb_739 : (Jvm.Cond.instanceMethod ({ cls := "ChordHerds", name := "evening", desc := "(II)I" } : Jvm.MethodName)) ∈ zt := tbl_4 _ (List.mem_of_getElem? (i := 19) (by rfl)) rfl
theorem tb_740 : (Jvm.Cond.selects "ChordHerds" ({ cls := "ChordHerds", name := "evening", desc := "(II)I" } : Jvm.MethodName) ({ cls := "ChordHerds", name := "evening", desc := "(II)I" } : Jvm.MethodName)) ∈ zt := tbl_4 _ (List.mem_of_getElem? (i := 20) (by rfl)) rfl
theorem tb_741 : (Jvm.Cond.code ({ cls := "ChordHerds", name := "evening", desc := "(II)I" } : Jvm.MethodName) prog_1_method_16_code (3 : Nat) (Option.some Jvm.ClassFile.FieldType.int)) ∈ zt := tbl_4 _ (List.mem_of_getElem? (i := 21) (by rfl)) rfl
theorem tb_742 : (Jvm.Cond.methodLink "ChordHerdsLaw" (74 : Nat) ({ cls := "ChordHerds", name := "note", desc := "(IIII)I" } : Jvm.MethodName)) ∈ zt := tbl_4 _ (List.mem_of_getElem? (i := 22) (by rfl)) rfl
theorem tb_743 : (Jvm.Cond.instanceMethod ({ cls := "ChordHerds", name := "note", desc := "(IIII)I" } : Jvm.MethodName)) ∈ zt := tbl_4 _ (List.mem_of_getElem? (i := 23) (by rfl)) rfl
theorem tb_744 : (Jvm.Cond.selects "ChordHerds" ({ cls := "ChordHerds", name := "note", desc := "(IIII)I" } : Jvm.MethodName) ({ cls := "ChordHerds", name := "note", desc := "(IIII)I" } : Jvm.MethodName)) ∈ zt := tbl_4 _ (List.mem_of_getElem? (i := 24) (by rfl)) rfl
theorem tb_745 : (Jvm.Cond.code ({ cls := "ChordHerds", name := "note", desc := "(IIII)I" } : Jvm.MethodName) prog_1_method_17_code (6 : Nat) (Option.some Jvm.ClassFile.FieldType.int)) ∈ zt := tbl_4 _ (List.mem_of_getElem? (i := 25) (by rfl)) rfl
theorem tb_746 : (Jvm.Cond.methodLink "ChordHerds" (191 : Nat) ({ cls := "ChordHerds", name := "hear", desc := "(II)I" } : Jvm.MethodName)) ∈ zt := tbl_4 _ (List.mem_of_getElem? (i := 26) (by rfl)) rfl
theorem tb_747 : (Jvm.Cond.methodLink "ChordHerds" (195 : Nat) ({ cls := "java/lang/Math", name := "max", desc := "(II)I" } : Jvm.MethodName)) ∈ zt := tbl_4 _ (List.mem_of_getElem? (i := 27) (by rfl)) rfl
theorem tb_748 : (Jvm.Cond.methodLink "ChordHerds" (200 : Nat) ({ cls := "ChordHerds", name := "sound", desc := "(IIIII)I" } : Jvm.MethodName)) ∈ zt := tbl_4 _ (List.mem_of_getElem? (i := 28) (by rfl)) rfl
theorem tb_749 : (Jvm.Cond.methodLink "ChordHerdsLaw" (79 : Nat) ({ cls := "ChordHerds", name := "untell", desc := "(I)Z" } : Jvm.MethodName)) ∈ zt := tbl_4 _ (List.mem_of_getElem? (i := 29) (by rfl)) rfl
theorem tb_750 : (Jvm.Cond.instanceMethod ({ cls := "ChordHerds", name := "untell", desc := "(I)Z" } : Jvm.MethodName)) ∈ zt := tbl_4 _ (List.mem_of_getElem? (i := 30) (by rfl)) rfl
theorem tb_751 : (Jvm.Cond.selects "ChordHerds" ({ cls := "ChordHerds", name := "untell", desc := "(I)Z" } : Jvm.MethodName) ({ cls := "ChordHerds", name := "untell", desc := "(I)Z" } : Jvm.MethodName)) ∈ zt := tbl_4 _ (List.mem_of_getElem? (i := 31) (by rfl)) rfl
theorem tb_752 : (Jvm.Cond.code ({ cls := "ChordHerds", name := "untell", desc := "(I)Z" } : Jvm.MethodName) prog_1_method_18_code (2 : Nat) (Option.some Jvm.ClassFile.FieldType.boolean)) ∈ zt := tbl_4 _ (List.mem_of_getElem? (i := 32) (by rfl)) rfl
theorem tb_753 : (Jvm.Cond.methodLink "ChordHerdsLaw" (84 : Nat) ({ cls := "ChordHerds", name := "later", desc := "(I)I" } : Jvm.MethodName)) ∈ zt := tbl_4 _ (List.mem_of_getElem? (i := 33) (by rfl)) rfl
theorem tb_754 : (Jvm.Cond.instanceMethod ({ cls := "ChordHerds", name := "later", desc := "(I)I" } : Jvm.MethodName)) ∈ zt := tbl_4 _ (List.mem_of_getElem? (i := 34) (by rfl)) rfl
theorem tb_755 : (Jvm.Cond.selects "ChordHerds" ({ cls := "ChordHerds", name := "later", desc := "(I)I" } : Jvm.MethodName) ({ cls := "ChordHerds", name := "later", desc := "(I)I" } : Jvm.MethodName)) ∈ zt := tbl_4 _ (List.mem_of_getElem? (i := 35) (by rfl)) rfl
theorem tb_756 : (Jvm.Cond.code ({ cls := "ChordHerds", name := "later", desc := "(I)I" } : Jvm.MethodName) prog_1_method_19_code (2 : Nat) (Option.some Jvm.ClassFile.FieldType.int)) ∈ zt := tbl_4 _ (List.mem_of_getElem? (i := 36) (by rfl)) rfl
theorem tb_757 : (Jvm.Cond.constant "ChordHerds" (207 : Nat) (100000 : Int32)) ∈ zt := tbl_4 _ (List.mem_of_getElem? (i := 37) (by rfl)) rfl
theorem tb_758 : (Jvm.Cond.methodLink "ChordHerdsLaw" (88 : Nat) ({ cls := "ChordHerds", name := "sets", desc := "(IIII)I" } : Jvm.MethodName)) ∈ zt := tbl_4 _ (List.mem_of_getElem? (i := 38) (by rfl)) rfl
theorem tb_759 : (Jvm.Cond.instanceMethod ({ cls := "ChordHerds", name := "sets", desc := "(IIII)I" } : Jvm.MethodName)) ∈ zt := tbl_4 _ (List.mem_of_getElem? (i := 39) (by rfl)) rfl
theorem tb_760 : (Jvm.Cond.selects "ChordHerds" ({ cls := "ChordHerds", name := "sets", desc := "(IIII)I" } : Jvm.MethodName) ({ cls := "ChordHerds", name := "sets", desc := "(IIII)I" } : Jvm.MethodName)) ∈ zt := tbl_4 _ (List.mem_of_getElem? (i := 40) (by rfl)) rfl
theorem tb_761 : (Jvm.Cond.code ({ cls := "ChordHerds", name := "sets", desc := "(IIII)I" } : Jvm.MethodName) prog_1_method_20_code (5 : Nat) (Option.some Jvm.ClassFile.FieldType.int)) ∈ zt := tbl_4 _ (List.mem_of_getElem? (i := 41) (by rfl)) rfl
theorem tb_762 : (Jvm.Cond.methodLink "ChordHerds" (208 : Nat) ({ cls := "ChordHerds$Bounds", name := "gather", desc := "(LChordHerds$Entries;II)V" } : Jvm.MethodName)) ∈ zt := tbl_4 _ (List.mem_of_getElem? (i := 42) (by rfl)) rfl
theorem tb_763 : (Jvm.Cond.instanceMethod ({ cls := "ChordHerds$Bounds", name := "gather", desc := "(LChordHerds$Entries;II)V" } : Jvm.MethodName)) ∈ zt := tbl_4 _ (List.mem_of_getElem? (i := 43) (by rfl)) rfl
theorem tb_764 : (Jvm.Cond.selects "ChordHerds$Bounds" ({ cls := "ChordHerds$Bounds", name := "gather", desc := "(LChordHerds$Entries;II)V" } : Jvm.MethodName) ({ cls := "ChordHerds$Bounds", name := "gather", desc := "(LChordHerds$Entries;II)V" } : Jvm.MethodName)) ∈ zt := tbl_4 _ (List.mem_of_getElem? (i := 44) (by rfl)) rfl
theorem tb_765 : (Jvm.Cond.code ({ cls := "ChordHerds$Bounds", name := "gather", desc := "(LChordHerds$Entries;II)V" } : Jvm.MethodName) prog_2_method_2_code (5 : Nat) (Option.none : Option Jvm.ClassFile.FieldType)) ∈ zt := tbl_4 _ (List.mem_of_getElem? (i := 45) (by rfl)) rfl
theorem tb_766 : (Jvm.Cond.methodLink "ChordHerds$Bounds" (31 : Nat) ({ cls := "java/util/Arrays", name := "fill", desc := "([II)V" } : Jvm.MethodName)) ∈ zt := tbl_4 _ (List.mem_of_getElem? (i := 46) (by rfl)) rfl
theorem tb_767 : (Jvm.Cond.methodLink "ChordHerds$Bounds" (42 : Nat) ({ cls := "ChordHerds$Entries", name := "isSound", desc := "(I)Z" } : Jvm.MethodName)) ∈ zt := tbl_4 _ (List.mem_of_getElem? (i := 47) (by rfl)) rfl
theorem tb_768 : (Jvm.Cond.instanceMethod ({ cls := "ChordHerds$Entries", name := "isSound", desc := "(I)Z" } : Jvm.MethodName)) ∈ zt := tbl_4 _ (List.mem_of_getElem? (i := 48) (by rfl)) rfl
theorem tb_769 : (Jvm.Cond.selects "ChordHerds$Entries" ({ cls := "ChordHerds$Entries", name := "isSound", desc := "(I)Z" } : Jvm.MethodName) ({ cls := "ChordHerds$Entries", name := "isSound", desc := "(I)Z" } : Jvm.MethodName)) ∈ zt := tbl_4 _ (List.mem_of_getElem? (i := 49) (by rfl)) rfl
theorem tb_770 : (Jvm.Cond.code ({ cls := "ChordHerds$Entries", name := "isSound", desc := "(I)Z" } : Jvm.MethodName) prog_6_method_3_code (2 : Nat) (Option.some Jvm.ClassFile.FieldType.boolean)) ∈ zt := tbl_4 _ (List.mem_of_getElem? (i := 50) (by rfl)) rfl
theorem tb_771 : (Jvm.Cond.methodLink "ChordHerds$Bounds" (49 : Nat) ({ cls := "ChordHerds$Entries", name := "counts", desc := "(II)Z" } : Jvm.MethodName)) ∈ zt := tbl_4 _ (List.mem_of_getElem? (i := 51) (by rfl)) rfl
theorem tb_772 : (Jvm.Cond.instanceMethod ({ cls := "ChordHerds$Entries", name := "counts", desc := "(II)Z" } : Jvm.MethodName)) ∈ zt := tbl_4 _ (List.mem_of_getElem? (i := 52) (by rfl)) rfl
theorem tb_773 : (Jvm.Cond.selects "ChordHerds$Entries" ({ cls := "ChordHerds$Entries", name := "counts", desc := "(II)Z" } : Jvm.MethodName) ({ cls := "ChordHerds$Entries", name := "counts", desc := "(II)Z" } : Jvm.MethodName)) ∈ zt := tbl_4 _ (List.mem_of_getElem? (i := 53) (by rfl)) rfl
theorem tb_774 : (Jvm.Cond.code ({ cls := "ChordHerds$Entries", name := "counts", desc := "(II)Z" } : Jvm.MethodName) prog_6_method_4_code (3 : Nat) (Option.some Jvm.ClassFile.FieldType.boolean)) ∈ zt := tbl_4 _ (List.mem_of_getElem? (i := 54) (by rfl)) rfl
theorem tb_775 : (Jvm.Cond.methodLink "ChordHerds$Bounds" (53 : Nat) ({ cls := "ChordHerds$Bounds", name := "narrow", desc := "(LChordHerds$Entries;I)V" } : Jvm.MethodName)) ∈ zt := tbl_4 _ (List.mem_of_getElem? (i := 55) (by rfl)) rfl
theorem tb_777 : (Jvm.Cond.instanceMethod ({ cls := "ChordHerds$Bounds", name := "narrow", desc := "(LChordHerds$Entries;I)V" } : Jvm.MethodName)) ∈ zt := tbl_4 _ (List.mem_of_getElem? (i := 57) (by rfl)) rfl
theorem tb_778 : (Jvm.Cond.code ({ cls := "ChordHerds$Bounds", name := "narrow", desc := "(LChordHerds$Entries;I)V" } : Jvm.MethodName) prog_2_method_3_code (6 : Nat) (Option.none : Option Jvm.ClassFile.FieldType)) ∈ zt := tbl_4 _ (List.mem_of_getElem? (i := 58) (by rfl)) rfl
theorem tb_779 : (Jvm.Cond.methodLink "ChordHerds$Bounds" (62 : Nat) ({ cls := "ChordHerds$Bounds", name := "has", desc := "(II)Z" } : Jvm.MethodName)) ∈ zt := tbl_4 _ (List.mem_of_getElem? (i := 59) (by rfl)) rfl
theorem tb_780 : (Jvm.Cond.instanceMethod ({ cls := "ChordHerds$Bounds", name := "has", desc := "(II)Z" } : Jvm.MethodName)) ∈ zt := tbl_4 _ (List.mem_of_getElem? (i := 60) (by rfl)) rfl
theorem tb_781 : (Jvm.Cond.selects "ChordHerds$Bounds" ({ cls := "ChordHerds$Bounds", name := "has", desc := "(II)Z" } : Jvm.MethodName) ({ cls := "ChordHerds$Bounds", name := "has", desc := "(II)Z" } : Jvm.MethodName)) ∈ zt := tbl_4 _ (List.mem_of_getElem? (i := 61) (by rfl)) rfl
theorem tb_782 : (Jvm.Cond.code ({ cls := "ChordHerds$Bounds", name := "has", desc := "(II)Z" } : Jvm.MethodName) prog_2_method_4_code (3 : Nat) (Option.some Jvm.ClassFile.FieldType.boolean)) ∈ zt := tbl_4 _ (List.mem_of_getElem? (i := 62) (by rfl)) rfl
theorem tb_783 : (Jvm.Cond.methodLink "ChordHerds$Bounds" (66 : Nat) ({ cls := "java/lang/Math", name := "max", desc := "(II)I" } : Jvm.MethodName)) ∈ zt := tbl_4 _ (List.mem_of_getElem? (i := 63) (by rfl)) rfl
theorem tb_784 : (Jvm.Cond.methodLink "ChordHerds$Bounds" (73 : Nat) ({ cls := "java/lang/Math", name := "min", desc := "(II)I" } : Jvm.MethodName)) ∈ zt := tbl_4 _ (List.mem_of_getElem? (i := 64) (by rfl)) rfl
theorem tb_785 : (Jvm.Cond.methodLink "ChordHerds" (212 : Nat) ({ cls := "ChordHerds$Sets", name := "seek", desc := "(LChordHerds$Valley;LChordHerds$Bounds;I)V" } : Jvm.MethodName)) ∈ zt := tbl_4 _ (List.mem_of_getElem? (i := 65) (by rfl)) rfl
theorem tb_786 : (Jvm.Cond.instanceMethod ({ cls := "ChordHerds$Sets", name := "seek", desc := "(LChordHerds$Valley;LChordHerds$Bounds;I)V" } : Jvm.MethodName)) ∈ zt := tbl_4 _ (List.mem_of_getElem? (i := 66) (by rfl)) rfl
theorem tb_787 : (Jvm.Cond.selects "ChordHerds$Sets" ({ cls := "ChordHerds$Sets", name := "seek", desc := "(LChordHerds$Valley;LChordHerds$Bounds;I)V" } : Jvm.MethodName) ({ cls := "ChordHerds$Sets", name := "seek", desc := "(LChordHerds$Valley;LChordHerds$Bounds;I)V" } : Jvm.MethodName)) ∈ zt := tbl_4 _ (List.mem_of_getElem? (i := 67) (by rfl)) rfl
theorem tb_788 : (Jvm.Cond.code ({ cls := "ChordHerds$Sets", name := "seek", desc := "(LChordHerds$Valley;LChordHerds$Bounds;I)V" } : Jvm.MethodName) prog_9_method_2_code (5 : Nat) (Option.none : Option Jvm.ClassFile.FieldType)) ∈ zt := tbl_4 _ (List.mem_of_getElem? (i := 68) (by rfl)) rfl
theorem tb_789 : (Jvm.Cond.methodLink "ChordHerds$Sets" (30 : Nat) ({ cls := "ChordHerds$Sets", name := "begin", desc := "(LChordHerds$Valley;LChordHerds$Bounds;)V" } : Jvm.MethodName)) ∈ zt := tbl_4 _ (List.mem_of_getElem? (i := 69) (by rfl)) rfl
theorem tb_791 : (Jvm.Cond.instanceMethod ({ cls := "ChordHerds$Sets", name := "begin", desc := "(LChordHerds$Valley;LChordHerds$Bounds;)V" } : Jvm.MethodName)) ∈ zt := tbl_4 _ (List.mem_of_getElem? (i := 71) (by rfl)) rfl
theorem tb_792 : (Jvm.Cond.code ({ cls := "ChordHerds$Sets", name := "begin", desc := "(LChordHerds$Valley;LChordHerds$Bounds;)V" } : Jvm.MethodName) prog_9_method_3_code (4 : Nat) (Option.none : Option Jvm.ClassFile.FieldType)) ∈ zt := tbl_4 _ (List.mem_of_getElem? (i := 72) (by rfl)) rfl
theorem tb_793 : (Jvm.Cond.methodLink "ChordHerds$Sets" (85 : Nat) ({ cls := "java/util/Arrays", name := "fill", desc := "([II)V" } : Jvm.MethodName)) ∈ zt := tbl_4 _ (List.mem_of_getElem? (i := 73) (by rfl)) rfl
theorem tb_794 : (Jvm.Cond.methodLink "ChordHerds$Sets" (34 : Nat) ({ cls := "ChordHerds$Sets", name := "weigh", desc := "(LChordHerds$Valley;LChordHerds$Bounds;II)V" } : Jvm.MethodName)) ∈ zt := tbl_4 _ (List.mem_of_getElem? (i := 74) (by rfl)) rfl
theorem tb_796 : (Jvm.Cond.instanceMethod ({ cls := "ChordHerds$Sets", name := "weigh", desc := "(LChordHerds$Valley;LChordHerds$Bounds;II)V" } : Jvm.MethodName)) ∈ zt := tbl_4 _ (List.mem_of_getElem? (i := 76) (by rfl)) rfl
theorem tb_797 : (Jvm.Cond.code ({ cls := "ChordHerds$Sets", name := "weigh", desc := "(LChordHerds$Valley;LChordHerds$Bounds;II)V" } : Jvm.MethodName) prog_9_method_4_code (8 : Nat) (Option.none : Option Jvm.ClassFile.FieldType)) ∈ zt := tbl_4 _ (List.mem_of_getElem? (i := 77) (by rfl)) rfl
theorem tb_798 : (Jvm.Cond.methodLink "ChordHerds$Sets" (97 : Nat) ({ cls := "ChordHerds$Valley", name := "loudAt", desc := "(IIII)I" } : Jvm.MethodName)) ∈ zt := tbl_4 _ (List.mem_of_getElem? (i := 78) (by rfl)) rfl
theorem tb_799 : (Jvm.Cond.methodLink "ChordHerds$Sets" (101 : Nat) ({ cls := "ChordHerds$Sets", name := "add", desc := "(II[ILChordHerds$Bounds;)V" } : Jvm.MethodName)) ∈ zt := tbl_4 _ (List.mem_of_getElem? (i := 79) (by rfl)) rfl
theorem tb_801 : (Jvm.Cond.instanceMethod ({ cls := "ChordHerds$Sets", name := "add", desc := "(II[ILChordHerds$Bounds;)V" } : Jvm.MethodName)) ∈ zt := tbl_4 _ (List.mem_of_getElem? (i := 81) (by rfl)) rfl
theorem tb_802 : (Jvm.Cond.code ({ cls := "ChordHerds$Sets", name := "add", desc := "(II[ILChordHerds$Bounds;)V" } : Jvm.MethodName) prog_9_method_7_code (7 : Nat) (Option.none : Option Jvm.ClassFile.FieldType)) ∈ zt := tbl_4 _ (List.mem_of_getElem? (i := 82) (by rfl)) rfl
theorem tb_803 : (Jvm.Cond.methodLink "ChordHerds$Sets" (42 : Nat) ({ cls := "ChordHerds$Sets", name := "anyCanBe", desc := "(LChordHerds$Bounds;)Z" } : Jvm.MethodName)) ∈ zt := tbl_4 _ (List.mem_of_getElem? (i := 83) (by rfl)) rfl
theorem tb_805 : (Jvm.Cond.instanceMethod ({ cls := "ChordHerds$Sets", name := "anyCanBe", desc := "(LChordHerds$Bounds;)Z" } : Jvm.MethodName)) ∈ zt := tbl_4 _ (List.mem_of_getElem? (i := 85) (by rfl)) rfl
theorem tb_806 : (Jvm.Cond.code ({ cls := "ChordHerds$Sets", name := "anyCanBe", desc := "(LChordHerds$Bounds;)Z" } : Jvm.MethodName) prog_9_method_5_code (3 : Nat) (Option.some Jvm.ClassFile.FieldType.boolean)) ∈ zt := tbl_4 _ (List.mem_of_getElem? (i := 86) (by rfl)) rfl
theorem tb_807 : (Jvm.Cond.methodLink "ChordHerds$Sets" (105 : Nat) ({ cls := "ChordHerds$Bounds", name := "canBe", desc := "(I[I[I)Z" } : Jvm.MethodName)) ∈ zt := tbl_4 _ (List.mem_of_getElem? (i := 87) (by rfl)) rfl
theorem tb_808 : (Jvm.Cond.instanceMethod ({ cls := "ChordHerds$Bounds", name := "canBe", desc := "(I[I[I)Z" } : Jvm.MethodName)) ∈ zt := tbl_4 _ (List.mem_of_getElem? (i := 88) (by rfl)) rfl
theorem tb_809 : (Jvm.Cond.selects "ChordHerds$Bounds" ({ cls := "ChordHerds$Bounds", name := "canBe", desc := "(I[I[I)Z" } : Jvm.MethodName) ({ cls := "ChordHerds$Bounds", name := "canBe", desc := "(I[I[I)Z" } : Jvm.MethodName)) ∈ zt := tbl_4 _ (List.mem_of_getElem? (i := 89) (by rfl)) rfl
theorem tb_810 : (Jvm.Cond.code ({ cls := "ChordHerds$Bounds", name := "canBe", desc := "(I[I[I)Z" } : Jvm.MethodName) prog_2_method_5_code (6 : Nat) (Option.some Jvm.ClassFile.FieldType.boolean)) ∈ zt := tbl_4 _ (List.mem_of_getElem? (i := 90) (by rfl)) rfl
theorem tb_811 : (Jvm.Cond.methodLink "ChordHerds$Sets" (46 : Nat) ({ cls := "ChordHerds$Sets", name := "choose", desc := "(IILChordHerds$Bounds;)V" } : Jvm.MethodName)) ∈ zt := tbl_4 _ (List.mem_of_getElem? (i := 91) (by rfl)) rfl
theorem tb_813 : (Jvm.Cond.instanceMethod ({ cls := "ChordHerds$Sets", name := "choose", desc := "(IILChordHerds$Bounds;)V" } : Jvm.MethodName)) ∈ zt := tbl_4 _ (List.mem_of_getElem? (i := 93) (by rfl)) rfl
theorem tb_814 : (Jvm.Cond.code ({ cls := "ChordHerds$Sets", name := "choose", desc := "(IILChordHerds$Bounds;)V" } : Jvm.MethodName) prog_9_method_6_code (4 : Nat) (Option.none : Option Jvm.ClassFile.FieldType)) ∈ zt := tbl_4 _ (List.mem_of_getElem? (i := 94) (by rfl)) rfl
theorem tb_815 : (Jvm.Cond.methodLink "ChordHerds$Sets" (109 : Nat) ({ cls := "ChordHerds$Sets", name := "allSeen", desc := "(II)Z" } : Jvm.MethodName)) ∈ zt := tbl_4 _ (List.mem_of_getElem? (i := 95) (by rfl)) rfl
theorem tb_817 : (Jvm.Cond.instanceMethod ({ cls := "ChordHerds$Sets", name := "allSeen", desc := "(II)Z" } : Jvm.MethodName)) ∈ zt := tbl_4 _ (List.mem_of_getElem? (i := 97) (by rfl)) rfl
theorem tb_818 : (Jvm.Cond.code ({ cls := "ChordHerds$Sets", name := "allSeen", desc := "(II)Z" } : Jvm.MethodName) prog_9_method_8_code (6 : Nat) (Option.some Jvm.ClassFile.FieldType.boolean)) ∈ zt := tbl_4 _ (List.mem_of_getElem? (i := 98) (by rfl)) rfl
theorem tb_819 : (Jvm.Cond.methodLink "ChordHerds$Sets" (113 : Nat) ({ cls := "ChordHerds$Sets", name := "keep", desc := "(I)V" } : Jvm.MethodName)) ∈ zt := tbl_4 _ (List.mem_of_getElem? (i := 99) (by rfl)) rfl
theorem tb_821 : (Jvm.Cond.instanceMethod ({ cls := "ChordHerds$Sets", name := "keep", desc := "(I)V" } : Jvm.MethodName)) ∈ zt := tbl_4 _ (List.mem_of_getElem? (i := 101) (by rfl)) rfl
theorem tb_822 : (Jvm.Cond.code ({ cls := "ChordHerds$Sets", name := "keep", desc := "(I)V" } : Jvm.MethodName) prog_9_method_9_code (3 : Nat) (Option.none : Option Jvm.ClassFile.FieldType)) ∈ zt := tbl_4 _ (List.mem_of_getElem? (i := 102) (by rfl)) rfl
theorem tb_823 : (Jvm.Cond.methodLink "ChordHerds$Sets" (66 : Nat) ({ cls := "ChordHerds$Sets", name := "spread", desc := "(I)I" } : Jvm.MethodName)) ∈ zt := tbl_4 _ (List.mem_of_getElem? (i := 103) (by rfl)) rfl
theorem tb_825 : (Jvm.Cond.instanceMethod ({ cls := "ChordHerds$Sets", name := "spread", desc := "(I)I" } : Jvm.MethodName)) ∈ zt := tbl_4 _ (List.mem_of_getElem? (i := 105) (by rfl)) rfl
theorem tb_826 : (Jvm.Cond.code ({ cls := "ChordHerds$Sets", name := "spread", desc := "(I)I" } : Jvm.MethodName) prog_9_method_10_code (4 : Nat) (Option.some Jvm.ClassFile.FieldType.int)) ∈ zt := tbl_4 _ (List.mem_of_getElem? (i := 106) (by rfl)) rfl
theorem tb_827 : (Jvm.Cond.methodLink "ChordHerdsLaw" (92 : Nat) ({ cls := "ChordHerds", name := "spring", desc := "(IIIII)Z" } : Jvm.MethodName)) ∈ zt := tbl_4 _ (List.mem_of_getElem? (i := 107) (by rfl)) rfl
theorem tb_828 : (Jvm.Cond.instanceMethod ({ cls := "ChordHerds", name := "spring", desc := "(IIIII)Z" } : Jvm.MethodName)) ∈ zt := tbl_4 _ (List.mem_of_getElem? (i := 108) (by rfl)) rfl
theorem tb_829 : (Jvm.Cond.selects "ChordHerds" ({ cls := "ChordHerds", name := "spring", desc := "(IIIII)Z" } : Jvm.MethodName) ({ cls := "ChordHerds", name := "spring", desc := "(IIIII)Z" } : Jvm.MethodName)) ∈ zt := tbl_4 _ (List.mem_of_getElem? (i := 109) (by rfl)) rfl
theorem tb_830 : (Jvm.Cond.code ({ cls := "ChordHerds", name := "spring", desc := "(IIIII)Z" } : Jvm.MethodName) prog_1_method_21_code (6 : Nat) (Option.some Jvm.ClassFile.FieldType.boolean)) ∈ zt := tbl_4 _ (List.mem_of_getElem? (i := 110) (by rfl)) rfl
theorem tb_831 : (Jvm.Cond.methodLink "ChordHerdsLaw" (97 : Nat) ({ cls := "ChordHerds", name := "parted", desc := "(III)I" } : Jvm.MethodName)) ∈ zt := tbl_4 _ (List.mem_of_getElem? (i := 111) (by rfl)) rfl
theorem tb_832 : (Jvm.Cond.instanceMethod ({ cls := "ChordHerds", name := "parted", desc := "(III)I" } : Jvm.MethodName)) ∈ zt := tbl_4 _ (List.mem_of_getElem? (i := 112) (by rfl)) rfl
theorem tb_833 : (Jvm.Cond.selects "ChordHerds" ({ cls := "ChordHerds", name := "parted", desc := "(III)I" } : Jvm.MethodName) ({ cls := "ChordHerds", name := "parted", desc := "(III)I" } : Jvm.MethodName)) ∈ zt := tbl_4 _ (List.mem_of_getElem? (i := 113) (by rfl)) rfl
theorem tb_834 : (Jvm.Cond.code ({ cls := "ChordHerds", name := "parted", desc := "(III)I" } : Jvm.MethodName) prog_1_method_22_code (4 : Nat) (Option.some Jvm.ClassFile.FieldType.int)) ∈ zt := tbl_4 _ (List.mem_of_getElem? (i := 114) (by rfl)) rfl
theorem tb_835 : (Jvm.Cond.methodLink "ChordHerds" (247 : Nat) ({ cls := "ChordHerds$Parting", name := "seek", desc := "(LChordHerds$Valley;LChordHerds$Bounds;I)V" } : Jvm.MethodName)) ∈ zt := tbl_4 _ (List.mem_of_getElem? (i := 115) (by rfl)) rfl
theorem tb_836 : (Jvm.Cond.instanceMethod ({ cls := "ChordHerds$Parting", name := "seek", desc := "(LChordHerds$Valley;LChordHerds$Bounds;I)V" } : Jvm.MethodName)) ∈ zt := tbl_4 _ (List.mem_of_getElem? (i := 116) (by rfl)) rfl
theorem tb_837 : (Jvm.Cond.selects "ChordHerds$Parting" ({ cls := "ChordHerds$Parting", name := "seek", desc := "(LChordHerds$Valley;LChordHerds$Bounds;I)V" } : Jvm.MethodName) ({ cls := "ChordHerds$Parting", name := "seek", desc := "(LChordHerds$Valley;LChordHerds$Bounds;I)V" } : Jvm.MethodName)) ∈ zt := tbl_4 _ (List.mem_of_getElem? (i := 117) (by rfl)) rfl
theorem tb_838 : (Jvm.Cond.code ({ cls := "ChordHerds$Parting", name := "seek", desc := "(LChordHerds$Valley;LChordHerds$Bounds;I)V" } : Jvm.MethodName) prog_7_method_2_code (5 : Nat) (Option.none : Option Jvm.ClassFile.FieldType)) ∈ zt := tbl_4 _ (List.mem_of_getElem? (i := 118) (by rfl)) rfl
theorem tb_839 : (Jvm.Cond.methodLink "ChordHerds$Parting" (32 : Nat) ({ cls := "ChordHerds$Parting", name := "isSo", desc := "(ILChordHerds$Valley;LChordHerds$Bounds;I)Z" } : Jvm.MethodName)) ∈ zt := tbl_4 _ (List.mem_of_getElem? (i := 119) (by rfl)) rfl
theorem tb_841 : (Jvm.Cond.instanceMethod ({ cls := "ChordHerds$Parting", name := "isSo", desc := "(ILChordHerds$Valley;LChordHerds$Bounds;I)Z" } : Jvm.MethodName)) ∈ zt := tbl_4 _ (List.mem_of_getElem? (i := 121) (by rfl)) rfl
theorem tb_842 : (Jvm.Cond.code ({ cls := "ChordHerds$Parting", name := "isSo", desc := "(ILChordHerds$Valley;LChordHerds$Bounds;I)Z" } : Jvm.MethodName) prog_7_method_4_code (7 : Nat) (Option.some Jvm.ClassFile.FieldType.boolean)) ∈ zt := tbl_4 _ (List.mem_of_getElem? (i := 122) (by rfl)) rfl
theorem tb_843 : (Jvm.Cond.methodLink "ChordHerds$Parting" (47 : Nat) ({ cls := "ChordHerds$Bounds", name := "has", desc := "(II)Z" } : Jvm.MethodName)) ∈ zt := tbl_4 _ (List.mem_of_getElem? (i := 123) (by rfl)) rfl
theorem tb_844 : (Jvm.Cond.methodLink "ChordHerds$Parting" (56 : Nat) ({ cls := "ChordHerds$Valley", name := "loudness", desc := "(IIIII)I" } : Jvm.MethodName)) ∈ zt := tbl_4 _ (List.mem_of_getElem? (i := 124) (by rfl)) rfl
theorem tb_845 : (Jvm.Cond.instanceMethod ({ cls := "ChordHerds$Valley", name := "loudness", desc := "(IIIII)I" } : Jvm.MethodName)) ∈ zt := tbl_4 _ (List.mem_of_getElem? (i := 125) (by rfl)) rfl
theorem tb_846 : (Jvm.Cond.selects "ChordHerds$Valley" ({ cls := "ChordHerds$Valley", name := "loudness", desc := "(IIIII)I" } : Jvm.MethodName) ({ cls := "ChordHerds$Valley", name := "loudness", desc := "(IIIII)I" } : Jvm.MethodName)) ∈ zt := tbl_4 _ (List.mem_of_getElem? (i := 126) (by rfl)) rfl
theorem tb_847 : (Jvm.Cond.code ({ cls := "ChordHerds$Valley", name := "loudness", desc := "(IIIII)I" } : Jvm.MethodName) prog_11_method_11_code (8 : Nat) (Option.some Jvm.ClassFile.FieldType.int)) ∈ zt := tbl_4 _ (List.mem_of_getElem? (i := 127) (by rfl)) rfl
theorem tb_848 : (Jvm.Cond.methodLink "ChordHerds$Valley" (73 : Nat) ({ cls := "ChordHerds$Valley", name := "loudAt", desc := "(IIII)I" } : Jvm.MethodName)) ∈ zt := tbl_4 _ (List.mem_of_getElem? (i := 128) (by rfl)) rfl
theorem tb_849 : (Jvm.Cond.methodLink "ChordHerds$Parting" (60 : Nat) ({ cls := "ChordHerds$Bounds", name := "allow", desc := "(III)Z" } : Jvm.MethodName)) ∈ zt := tbl_4 _ (List.mem_of_getElem? (i := 129) (by rfl)) rfl
theorem tb_850 : (Jvm.Cond.instanceMethod ({ cls := "ChordHerds$Bounds", name := "allow", desc := "(III)Z" } : Jvm.MethodName)) ∈ zt := tbl_4 _ (List.mem_of_getElem? (i := 130) (by rfl)) rfl
theorem tb_851 : (Jvm.Cond.selects "ChordHerds$Bounds" ({ cls := "ChordHerds$Bounds", name := "allow", desc := "(III)Z" } : Jvm.MethodName) ({ cls := "ChordHerds$Bounds", name := "allow", desc := "(III)Z" } : Jvm.MethodName)) ∈ zt := tbl_4 _ (List.mem_of_getElem? (i := 131) (by rfl)) rfl
theorem tb_852 : (Jvm.Cond.code ({ cls := "ChordHerds$Bounds", name := "allow", desc := "(III)Z" } : Jvm.MethodName) prog_2_method_6_code (5 : Nat) (Option.some Jvm.ClassFile.FieldType.boolean)) ∈ zt := tbl_4 _ (List.mem_of_getElem? (i := 132) (by rfl)) rfl
theorem tb_854 : (Jvm.Cond.methodLink "ChordHerds$Parting" (36 : Nat) ({ cls := "ChordHerds$Parting", name := "gather", desc := "(ILChordHerds$Valley;)V" } : Jvm.MethodName)) ∈ zt := tbl_4 _ (List.mem_of_getElem? (i := 134) (by rfl)) rfl
theorem tb_856 : (Jvm.Cond.instanceMethod ({ cls := "ChordHerds$Parting", name := "gather", desc := "(ILChordHerds$Valley;)V" } : Jvm.MethodName)) ∈ zt := tbl_4 _ (List.mem_of_getElem? (i := 136) (by rfl)) rfl
theorem tb_857 : (Jvm.Cond.code ({ cls := "ChordHerds$Parting", name := "gather", desc := "(ILChordHerds$Valley;)V" } : Jvm.MethodName) prog_7_method_3_code (4 : Nat) (Option.none : Option Jvm.ClassFile.FieldType)) ∈ zt := tbl_4 _ (List.mem_of_getElem? (i := 137) (by rfl)) rfl
theorem tb_858 : (Jvm.Cond.methodLink "ChordHerds$Parting" (40 : Nat) ({ cls := "ChordHerds$Parting", name := "countStrayed", desc := "(ILChordHerds$Valley;)I" } : Jvm.MethodName)) ∈ zt := tbl_4 _ (List.mem_of_getElem? (i := 138) (by rfl)) rfl
theorem tb_860 : (Jvm.Cond.instanceMethod ({ cls := "ChordHerds$Parting", name := "countStrayed", desc := "(ILChordHerds$Valley;)I" } : Jvm.MethodName)) ∈ zt := tbl_4 _ (List.mem_of_getElem? (i := 140) (by rfl)) rfl
theorem tb_861 : (Jvm.Cond.code ({ cls := "ChordHerds$Parting", name := "countStrayed", desc := "(ILChordHerds$Valley;)I" } : Jvm.MethodName) prog_7_method_5_code (7 : Nat) (Option.some Jvm.ClassFile.FieldType.int)) ∈ zt := tbl_4 _ (List.mem_of_getElem? (i := 141) (by rfl)) rfl
theorem tb_862 : (Jvm.Cond.methodLink "ChordHerds$Parting" (77 : Nat) ({ cls := "java/lang/Integer", name := "bitCount", desc := "(I)I" } : Jvm.MethodName)) ∈ zt := tbl_4 _ (List.mem_of_getElem? (i := 142) (by rfl)) rfl
theorem tb_863 : (Jvm.Cond.static ({ cls := "java/lang/Integer", name := "bitCount", desc := "(I)I" } : Jvm.MethodName)) ∈ zt := tbl_4 _ (List.mem_of_getElem? (i := 143) (by rfl)) rfl
theorem tb_864 : (Jvm.Cond.code ({ cls := "java/lang/Integer", name := "bitCount", desc := "(I)I" } : Jvm.MethodName) prog_14_method_49_code (1 : Nat) (Option.some Jvm.ClassFile.FieldType.int)) ∈ zt := tbl_4 _ (List.mem_of_getElem? (i := 144) (by rfl)) rfl
theorem tb_865 : (Jvm.Cond.constant "java/lang/Integer" (265 : Nat) (1431655765 : Int32)) ∈ zt := tbl_4 _ (List.mem_of_getElem? (i := 145) (by rfl)) rfl
theorem tb_866 : (Jvm.Cond.constant "java/lang/Integer" (266 : Nat) (858993459 : Int32)) ∈ zt := tbl_4 _ (List.mem_of_getElem? (i := 146) (by rfl)) rfl
theorem tb_867 : (Jvm.Cond.constant "java/lang/Integer" (267 : Nat) (252645135 : Int32)) ∈ zt := tbl_4 _ (List.mem_of_getElem? (i := 147) (by rfl)) rfl
theorem tb_868 : (Jvm.Cond.methodLink "ChordHerds$Parting" (83 : Nat) ({ cls := "java/lang/Math", name := "min", desc := "(II)I" } : Jvm.MethodName)) ∈ zt := tbl_4 _ (List.mem_of_getElem? (i := 148) (by rfl)) rfl
theorem tb_869 : (Jvm.Cond.methodLink "ChordHerdsLaw" (102 : Nat) ({ cls := "ChordHerds", name := "came", desc := "(IIIII)I" } : Jvm.MethodName)) ∈ zt := tbl_4 _ (List.mem_of_getElem? (i := 149) (by rfl)) rfl
theorem tb_870 : (Jvm.Cond.instanceMethod ({ cls := "ChordHerds", name := "came", desc := "(IIIII)I" } : Jvm.MethodName)) ∈ zt := tbl_4 _ (List.mem_of_getElem? (i := 150) (by rfl)) rfl
theorem tb_871 : (Jvm.Cond.selects "ChordHerds" ({ cls := "ChordHerds", name := "came", desc := "(IIIII)I" } : Jvm.MethodName) ({ cls := "ChordHerds", name := "came", desc := "(IIIII)I" } : Jvm.MethodName)) ∈ zt := tbl_4 _ (List.mem_of_getElem? (i := 151) (by rfl)) rfl
theorem tb_872 : (Jvm.Cond.code ({ cls := "ChordHerds", name := "came", desc := "(IIIII)I" } : Jvm.MethodName) prog_1_method_23_code (9 : Nat) (Option.some Jvm.ClassFile.FieldType.int)) ∈ zt := tbl_4 _ (List.mem_of_getElem? (i := 152) (by rfl)) rfl
theorem tb_873 : (Jvm.Cond.methodLink "ChordHerds" (261 : Nat) ({ cls := "ChordHerds$Entries", name := "isSound", desc := "(I)Z" } : Jvm.MethodName)) ∈ zt := tbl_4 _ (List.mem_of_getElem? (i := 153) (by rfl)) rfl
theorem tb_874 : (Jvm.Cond.methodLink "ChordHerds" (264 : Nat) ({ cls := "ChordHerds$Entries", name := "counts", desc := "(II)Z" } : Jvm.MethodName)) ∈ zt := tbl_4 _ (List.mem_of_getElem? (i := 154) (by rfl)) rfl
theorem tb_875 : (Jvm.Cond.methodLink "ChordHerds" (271 : Nat) ({ cls := "ChordHerds", name := "isSoWith", desc := "(IIII)Z" } : Jvm.MethodName)) ∈ zt := tbl_4 _ (List.mem_of_getElem? (i := 155) (by rfl)) rfl
theorem tb_877 : (Jvm.Cond.instanceMethod ({ cls := "ChordHerds", name := "isSoWith", desc := "(IIII)Z" } : Jvm.MethodName)) ∈ zt := tbl_4 _ (List.mem_of_getElem? (i := 157) (by rfl)) rfl
theorem tb_878 : (Jvm.Cond.code ({ cls := "ChordHerds", name := "isSoWith", desc := "(IIII)Z" } : Jvm.MethodName) prog_1_method_24_code (6 : Nat) (Option.some Jvm.ClassFile.FieldType.boolean)) ∈ zt := tbl_4 _ (List.mem_of_getElem? (i := 158) (by rfl)) rfl
theorem tb_879 : (Jvm.Cond.methodLink "ChordHerds" (287 : Nat) ({ cls := "ChordHerds$Valley", name := "loudness", desc := "(IIIII)I" } : Jvm.MethodName)) ∈ zt := tbl_4 _ (List.mem_of_getElem? (i := 159) (by rfl)) rfl
theorem tb_880 : (Jvm.Cond.methodLink "ChordHerds" (278 : Nat) ({ cls := "java/lang/Math", name := "min", desc := "(II)I" } : Jvm.MethodName)) ∈ zt := tbl_4 _ (List.mem_of_getElem? (i := 160) (by rfl)) rfl
theorem tb_881 : (Jvm.Cond.methodLink "ChordHerdsLaw" (106 : Nat) ({ cls := "ChordHerds", name := "cracked", desc := "(I)I" } : Jvm.MethodName)) ∈ zt := tbl_4 _ (List.mem_of_getElem? (i := 161) (by rfl)) rfl
theorem tb_882 : (Jvm.Cond.instanceMethod ({ cls := "ChordHerds", name := "cracked", desc := "(I)I" } : Jvm.MethodName)) ∈ zt := tbl_4 _ (List.mem_of_getElem? (i := 162) (by rfl)) rfl
theorem tb_883 : (Jvm.Cond.selects "ChordHerds" ({ cls := "ChordHerds", name := "cracked", desc := "(I)I" } : Jvm.MethodName) ({ cls := "ChordHerds", name := "cracked", desc := "(I)I" } : Jvm.MethodName)) ∈ zt := tbl_4 _ (List.mem_of_getElem? (i := 163) (by rfl)) rfl
theorem tb_884 : (Jvm.Cond.code ({ cls := "ChordHerds", name := "cracked", desc := "(I)I" } : Jvm.MethodName) prog_1_method_25_code (3 : Nat) (Option.some Jvm.ClassFile.FieldType.int)) ∈ zt := tbl_4 _ (List.mem_of_getElem? (i := 164) (by rfl)) rfl
theorem tb_885 : (Jvm.Cond.methodLink "ChordHerds" (298 : Nat) ({ cls := "ChordHerds$Creeps", name := "gather", desc := "(LChordHerds$Valley;LChordHerds$Entries;I)V" } : Jvm.MethodName)) ∈ zt := tbl_4 _ (List.mem_of_getElem? (i := 165) (by rfl)) rfl
theorem tb_886 : (Jvm.Cond.instanceMethod ({ cls := "ChordHerds$Creeps", name := "gather", desc := "(LChordHerds$Valley;LChordHerds$Entries;I)V" } : Jvm.MethodName)) ∈ zt := tbl_4 _ (List.mem_of_getElem? (i := 166) (by rfl)) rfl
theorem tb_887 : (Jvm.Cond.selects "ChordHerds$Creeps" ({ cls := "ChordHerds$Creeps", name := "gather", desc := "(LChordHerds$Valley;LChordHerds$Entries;I)V" } : Jvm.MethodName) ({ cls := "ChordHerds$Creeps", name := "gather", desc := "(LChordHerds$Valley;LChordHerds$Entries;I)V" } : Jvm.MethodName)) ∈ zt := tbl_4 _ (List.mem_of_getElem? (i := 167) (by rfl)) rfl
theorem tb_888 : (Jvm.Cond.code ({ cls := "ChordHerds$Creeps", name := "gather", desc := "(LChordHerds$Valley;LChordHerds$Entries;I)V" } : Jvm.MethodName) prog_3_method_2_code (5 : Nat) (Option.none : Option Jvm.ClassFile.FieldType)) ∈ zt := tbl_4 _ (List.mem_of_getElem? (i := 168) (by rfl)) rfl
theorem tb_889 : (Jvm.Cond.methodLink "ChordHerds$Creeps" (39 : Nat) ({ cls := "ChordHerds$Valley", name := "isBeast", desc := "(I)Z" } : Jvm.MethodName)) ∈ zt := tbl_4 _ (List.mem_of_getElem? (i := 169) (by rfl)) rfl
theorem tb_890 : (Jvm.Cond.methodLink "ChordHerds$Creeps" (52 : Nat) ({ cls := "ChordHerds$Entries", name := "isSound", desc := "(I)Z" } : Jvm.MethodName)) ∈ zt := tbl_4 _ (List.mem_of_getElem? (i := 170) (by rfl)) rfl
theorem tb_891 : (Jvm.Cond.methodLink "ChordHerds$Creeps" (55 : Nat) ({ cls := "ChordHerds$Entries", name := "counts", desc := "(II)Z" } : Jvm.MethodName)) ∈ zt := tbl_4 _ (List.mem_of_getElem? (i := 171) (by rfl)) rfl
theorem tb_892 : (Jvm.Cond.methodLink "ChordHerds" (301 : Nat) ({ cls := "ChordHerds$Creeps", name := "leastTogether", desc := "([I)I" } : Jvm.MethodName)) ∈ zt := tbl_4 _ (List.mem_of_getElem? (i := 172) (by rfl)) rfl
theorem tb_893 : (Jvm.Cond.instanceMethod ({ cls := "ChordHerds$Creeps", name := "leastTogether", desc := "([I)I" } : Jvm.MethodName)) ∈ zt := tbl_4 _ (List.mem_of_getElem? (i := 173) (by rfl)) rfl
theorem tb_894 : (Jvm.Cond.selects "ChordHerds$Creeps" ({ cls := "ChordHerds$Creeps", name := "leastTogether", desc := "([I)I" } : Jvm.MethodName) ({ cls := "ChordHerds$Creeps", name := "leastTogether", desc := "([I)I" } : Jvm.MethodName)) ∈ zt := tbl_4 _ (List.mem_of_getElem? (i := 174) (by rfl)) rfl
theorem tb_895 : (Jvm.Cond.code ({ cls := "ChordHerds$Creeps", name := "leastTogether", desc := "([I)I" } : Jvm.MethodName) prog_3_method_3_code (2 : Nat) (Option.some Jvm.ClassFile.FieldType.int)) ∈ zt := tbl_4 _ (List.mem_of_getElem? (i := 175) (by rfl)) rfl
theorem tb_896 : (Jvm.Cond.methodLink "ChordHerds$Creeps" (66 : Nat) ({ cls := "ChordHerds$Creeps", name := "countNotTooMany", desc := "()I" } : Jvm.MethodName)) ∈ zt := tbl_4 _ (List.mem_of_getElem? (i := 176) (by rfl)) rfl
theorem tb_898 : (Jvm.Cond.instanceMethod ({ cls := "ChordHerds$Creeps", name := "countNotTooMany", desc := "()I" } : Jvm.MethodName)) ∈ zt := tbl_4 _ (List.mem_of_getElem? (i := 178) (by rfl)) rfl
theorem tb_899 : (Jvm.Cond.code ({ cls := "ChordHerds$Creeps", name := "countNotTooMany", desc := "()I" } : Jvm.MethodName) prog_3_method_8_code (2 : Nat) (Option.some Jvm.ClassFile.FieldType.int)) ∈ zt := tbl_4 _ (List.mem_of_getElem? (i := 179) (by rfl)) rfl
theorem tb_900 : (Jvm.Cond.methodLink "ChordHerds$Creeps" (101 : Nat) ({ cls := "java/lang/Integer", name := "bitCount", desc := "(I)I" } : Jvm.MethodName)) ∈ zt := tbl_4 _ (List.mem_of_getElem? (i := 180) (by rfl)) rfl
theorem tb_901 : (Jvm.Cond.methodLink "ChordHerds$Creeps" (70 : Nat) ({ cls := "ChordHerds$Creeps", name := "seekLeast", desc := "(II[I)V" } : Jvm.MethodName)) ∈ zt := tbl_4 _ (List.mem_of_getElem? (i := 181) (by rfl)) rfl
theorem tb_903 : (Jvm.Cond.instanceMethod ({ cls := "ChordHerds$Creeps", name := "seekLeast", desc := "(II[I)V" } : Jvm.MethodName)) ∈ zt := tbl_4 _ (List.mem_of_getElem? (i := 183) (by rfl)) rfl
theorem tb_904 : (Jvm.Cond.code ({ cls := "ChordHerds$Creeps", name := "seekLeast", desc := "(II[I)V" } : Jvm.MethodName) prog_3_method_4_code (5 : Nat) (Option.none : Option Jvm.ClassFile.FieldType)) ∈ zt := tbl_4 _ (List.mem_of_getElem? (i := 184) (by rfl)) rfl
theorem tb_905 : (Jvm.Cond.methodLink "ChordHerds$Creeps" (74 : Nat) ({ cls := "java/lang/System", name := "arraycopy", desc := "(Ljava/lang/Object;ILjava/lang/Object;II)V" } : Jvm.MethodName)) ∈ zt := tbl_4 _ (List.mem_of_getElem? (i := 185) (by rfl)) rfl
theorem tb_906 : (Jvm.Cond.static ({ cls := "java/lang/System", name := "arraycopy", desc := "(Ljava/lang/Object;ILjava/lang/Object;II)V" } : Jvm.MethodName)) ∈ zt := tbl_4 _ (List.mem_of_getElem? (i := 186) (by rfl)) rfl
theorem tb_907 : (Jvm.Cond.native ({ cls := "java/lang/System", name := "arraycopy", desc := "(Ljava/lang/Object;ILjava/lang/Object;II)V" } : Jvm.MethodName)) ∈ zt := tbl_4 _ (List.mem_of_getElem? (i := 187) (by rfl)) rfl
theorem tb_908 : (Jvm.Cond.methodLink "ChordHerds$Creeps" (80 : Nat) ({ cls := "ChordHerds$Creeps", name := "ring", desc := "(III)I" } : Jvm.MethodName)) ∈ zt := tbl_4 _ (List.mem_of_getElem? (i := 188) (by rfl)) rfl
theorem tb_910 : (Jvm.Cond.instanceMethod ({ cls := "ChordHerds$Creeps", name := "ring", desc := "(III)I" } : Jvm.MethodName)) ∈ zt := tbl_4 _ (List.mem_of_getElem? (i := 190) (by rfl)) rfl
theorem tb_911 : (Jvm.Cond.code ({ cls := "ChordHerds$Creeps", name := "ring", desc := "(III)I" } : Jvm.MethodName) prog_3_method_7_code (10 : Nat) (Option.some Jvm.ClassFile.FieldType.int)) ∈ zt := tbl_4 _ (List.mem_of_getElem? (i := 191) (by rfl)) rfl
theorem tb_912 : (Jvm.Cond.methodLink "ChordHerds$Creeps" (95 : Nat) ({ cls := "java/lang/Math", name := "floorMod", desc := "(II)I" } : Jvm.MethodName)) ∈ zt := tbl_4 _ (List.mem_of_getElem? (i := 192) (by rfl)) rfl
theorem tb_913 : (Jvm.Cond.methodLink "ChordHerdsLaw" (110 : Nat) ({ cls := "ChordHerds", name := "first", desc := "(I)I" } : Jvm.MethodName)) ∈ zt := tbl_4 _ (List.mem_of_getElem? (i := 193) (by rfl)) rfl
theorem tb_914 : (Jvm.Cond.instanceMethod ({ cls := "ChordHerds", name := "first", desc := "(I)I" } : Jvm.MethodName)) ∈ zt := tbl_4 _ (List.mem_of_getElem? (i := 194) (by rfl)) rfl
theorem tb_915 : (Jvm.Cond.selects "ChordHerds" ({ cls := "ChordHerds", name := "first", desc := "(I)I" } : Jvm.MethodName) ({ cls := "ChordHerds", name := "first", desc := "(I)I" } : Jvm.MethodName)) ∈ zt := tbl_4 _ (List.mem_of_getElem? (i := 195) (by rfl)) rfl
theorem tb_916 : (Jvm.Cond.code ({ cls := "ChordHerds", name := "first", desc := "(I)I" } : Jvm.MethodName) prog_1_method_26_code (2 : Nat) (Option.some Jvm.ClassFile.FieldType.int)) ∈ zt := tbl_4 _ (List.mem_of_getElem? (i := 196) (by rfl)) rfl
theorem tb_917 : (Jvm.Cond.methodLink "ChordHerds" (305 : Nat) ({ cls := "ChordHerds$Creeps", name := "firstThatCant", desc := "()I" } : Jvm.MethodName)) ∈ zt := tbl_4 _ (List.mem_of_getElem? (i := 197) (by rfl)) rfl
theorem tb_918 : (Jvm.Cond.instanceMethod ({ cls := "ChordHerds$Creeps", name := "firstThatCant", desc := "()I" } : Jvm.MethodName)) ∈ zt := tbl_4 _ (List.mem_of_getElem? (i := 198) (by rfl)) rfl
theorem tb_919 : (Jvm.Cond.selects "ChordHerds$Creeps" ({ cls := "ChordHerds$Creeps", name := "firstThatCant", desc := "()I" } : Jvm.MethodName) ({ cls := "ChordHerds$Creeps", name := "firstThatCant", desc := "()I" } : Jvm.MethodName)) ∈ zt := tbl_4 _ (List.mem_of_getElem? (i := 199) (by rfl)) rfl
theorem tb_920 : (Jvm.Cond.code ({ cls := "ChordHerds$Creeps", name := "firstThatCant", desc := "()I" } : Jvm.MethodName) prog_3_method_5_code (1 : Nat) (Option.some Jvm.ClassFile.FieldType.int)) ∈ zt := tbl_4 _ (List.mem_of_getElem? (i := 200) (by rfl)) rfl
theorem tb_921 : (Jvm.Cond.methodLink "ChordHerds$Creeps" (87 : Nat) ({ cls := "ChordHerds$Creeps", name := "seekFarthest", desc := "(II)V" } : Jvm.MethodName)) ∈ zt := tbl_4 _ (List.mem_of_getElem? (i := 201) (by rfl)) rfl
theorem tb_923 : (Jvm.Cond.instanceMethod ({ cls := "ChordHerds$Creeps", name := "seekFarthest", desc := "(II)V" } : Jvm.MethodName)) ∈ zt := tbl_4 _ (List.mem_of_getElem? (i := 203) (by rfl)) rfl
theorem tb_924 : (Jvm.Cond.code ({ cls := "ChordHerds$Creeps", name := "seekFarthest", desc := "(II)V" } : Jvm.MethodName) prog_3_method_6_code (4 : Nat) (Option.none : Option Jvm.ClassFile.FieldType)) ∈ zt := tbl_4 _ (List.mem_of_getElem? (i := 204) (by rfl)) rfl
theorem tb_926 : (Jvm.Cond.methodLink "ChordHerdsLaw" (114 : Nat) ({ cls := "ChordHerds", name := "dealt", desc := "(I)I" } : Jvm.MethodName)) ∈ zt := tbl_4 _ (List.mem_of_getElem? (i := 206) (by rfl)) rfl
theorem tb_927 : (Jvm.Cond.instanceMethod ({ cls := "ChordHerds", name := "dealt", desc := "(I)I" } : Jvm.MethodName)) ∈ zt := tbl_4 _ (List.mem_of_getElem? (i := 207) (by rfl)) rfl
theorem tb_928 : (Jvm.Cond.selects "ChordHerds" ({ cls := "ChordHerds", name := "dealt", desc := "(I)I" } : Jvm.MethodName) ({ cls := "ChordHerds", name := "dealt", desc := "(I)I" } : Jvm.MethodName)) ∈ zt := tbl_4 _ (List.mem_of_getElem? (i := 208) (by rfl)) rfl
theorem tb_929 : (Jvm.Cond.code ({ cls := "ChordHerds", name := "dealt", desc := "(I)I" } : Jvm.MethodName) prog_1_method_27_code (2 : Nat) (Option.some Jvm.ClassFile.FieldType.int)) ∈ zt := tbl_4 _ (List.mem_of_getElem? (i := 209) (by rfl)) rfl
theorem tb_930 : (Jvm.Cond.methodLink "ChordHerds" (309 : Nat) ({ cls := "ChordHerds$Dealer", name := "deal", desc := "(LChordHerds$Valley;I[I)I" } : Jvm.MethodName)) ∈ zt := tbl_4 _ (List.mem_of_getElem? (i := 210) (by rfl)) rfl
theorem tb_931 : (Jvm.Cond.instanceMethod ({ cls := "ChordHerds$Dealer", name := "deal", desc := "(LChordHerds$Valley;I[I)I" } : Jvm.MethodName)) ∈ zt := tbl_4 _ (List.mem_of_getElem? (i := 211) (by rfl)) rfl
theorem tb_932 : (Jvm.Cond.selects "ChordHerds$Dealer" ({ cls := "ChordHerds$Dealer", name := "deal", desc := "(LChordHerds$Valley;I[I)I" } : Jvm.MethodName) ({ cls := "ChordHerds$Dealer", name := "deal", desc := "(LChordHerds$Valley;I[I)I" } : Jvm.MethodName)) ∈ zt := tbl_4 _ (List.mem_of_getElem? (i := 212) (by rfl)) rfl
theorem tb_933 : (Jvm.Cond.code ({ cls := "ChordHerds$Dealer", name := "deal", desc := "(LChordHerds$Valley;I[I)I" } : Jvm.MethodName) prog_4_method_2_code (5 : Nat) (Option.some Jvm.ClassFile.FieldType.int)) ∈ zt := tbl_4 _ (List.mem_of_getElem? (i := 213) (by rfl)) rfl
theorem tb_934 : (Jvm.Cond.methodLink "ChordHerds$Dealer" (27 : Nat) ({ cls := "ChordHerds$Valley", name := "isBeast", desc := "(I)Z" } : Jvm.MethodName)) ∈ zt := tbl_4 _ (List.mem_of_getElem? (i := 214) (by rfl)) rfl
theorem tb_935 : (Jvm.Cond.methodLink "ChordHerds$Dealer" (32 : Nat) ({ cls := "ChordHerds$Dealer", name := "dealFrom", desc := "(III[I)Z" } : Jvm.MethodName)) ∈ zt := tbl_4 _ (List.mem_of_getElem? (i := 215) (by rfl)) rfl
theorem tb_937 : (Jvm.Cond.instanceMethod ({ cls := "ChordHerds$Dealer", name := "dealFrom", desc := "(III[I)Z" } : Jvm.MethodName)) ∈ zt := tbl_4 _ (List.mem_of_getElem? (i := 217) (by rfl)) rfl
theorem tb_938 : (Jvm.Cond.code ({ cls := "ChordHerds$Dealer", name := "dealFrom", desc := "(III[I)Z" } : Jvm.MethodName) prog_4_method_3_code (6 : Nat) (Option.some Jvm.ClassFile.FieldType.boolean)) ∈ zt := tbl_4 _ (List.mem_of_getElem? (i := 218) (by rfl)) rfl
theorem tb_939 : (Jvm.Cond.methodLink "ChordHerds$Dealer" (36 : Nat) ({ cls := "ChordHerds$Dealer", name := "isKnown", desc := "(II[I)Z" } : Jvm.MethodName)) ∈ zt := tbl_4 _ (List.mem_of_getElem? (i := 219) (by rfl)) rfl
theorem tb_941 : (Jvm.Cond.instanceMethod ({ cls := "ChordHerds$Dealer", name := "isKnown", desc := "(II[I)Z" } : Jvm.MethodName)) ∈ zt := tbl_4 _ (List.mem_of_getElem? (i := 221) (by rfl)) rfl
theorem tb_942 : (Jvm.Cond.code ({ cls := "ChordHerds$Dealer", name := "isKnown", desc := "(II[I)Z" } : Jvm.MethodName) prog_4_method_4_code (5 : Nat) (Option.some Jvm.ClassFile.FieldType.boolean)) ∈ zt := tbl_4 _ (List.mem_of_getElem? (i := 222) (by rfl)) rfl
theorem tb_943 : (Jvm.Cond.methodLink "ChordHerds$Dealer" (46 : Nat) ({ cls := "ChordHerds$Dealer", name := "twoAreKnown", desc := "(II[I)Z" } : Jvm.MethodName)) ∈ zt := tbl_4 _ (List.mem_of_getElem? (i := 223) (by rfl)) rfl
theorem tb_945 : (Jvm.Cond.instanceMethod ({ cls := "ChordHerds$Dealer", name := "twoAreKnown", desc := "(II[I)Z" } : Jvm.MethodName)) ∈ zt := tbl_4 _ (List.mem_of_getElem? (i := 225) (by rfl)) rfl
theorem tb_946 : (Jvm.Cond.code ({ cls := "ChordHerds$Dealer", name := "twoAreKnown", desc := "(II[I)Z" } : Jvm.MethodName) prog_4_method_5_code (8 : Nat) (Option.some Jvm.ClassFile.FieldType.boolean)) ∈ zt := tbl_4 _ (List.mem_of_getElem? (i := 226) (by rfl)) rfl
theorem tb_947 : (Jvm.Cond.methodLink "ChordHerds$Dealer" (49 : Nat) ({ cls := "java/lang/Math", name := "abs", desc := "(I)I" } : Jvm.MethodName)) ∈ zt := tbl_4 _ (List.mem_of_getElem? (i := 227) (by rfl)) rfl
theorem tb_948 : (Jvm.Cond.methodLink "ChordHerds$Dealer" (53 : Nat) ({ cls := "ChordHerds$Dealer", name := "hasLoud", desc := "(III[I)Z" } : Jvm.MethodName)) ∈ zt := tbl_4 _ (List.mem_of_getElem? (i := 228) (by rfl)) rfl
theorem tb_950 : (Jvm.Cond.instanceMethod ({ cls := "ChordHerds$Dealer", name := "hasLoud", desc := "(III[I)Z" } : Jvm.MethodName)) ∈ zt := tbl_4 _ (List.mem_of_getElem? (i := 230) (by rfl)) rfl
theorem tb_951 : (Jvm.Cond.code ({ cls := "ChordHerds$Dealer", name := "hasLoud", desc := "(III[I)Z" } : Jvm.MethodName) prog_4_method_6_code (6 : Nat) (Option.some Jvm.ClassFile.FieldType.boolean)) ∈ zt := tbl_4 _ (List.mem_of_getElem? (i := 231) (by rfl)) rfl
theorem tb_952 : (Jvm.Cond.methodLink "ChordHerds$Dealer" (40 : Nat) ({ cls := "java/lang/Math", name := "max", desc := "(II)I" } : Jvm.MethodName)) ∈ zt := tbl_4 _ (List.mem_of_getElem? (i := 232) (by rfl)) rfl
theorem tb_953 : (Jvm.Cond.methodLink "ChordHerdsLaw" (118 : Nat) ({ cls := "ChordHerds", name := "lies", desc := "(I)I" } : Jvm.MethodName)) ∈ zt := tbl_4 _ (List.mem_of_getElem? (i := 233) (by rfl)) rfl
theorem tb_954 : (Jvm.Cond.instanceMethod ({ cls := "ChordHerds", name := "lies", desc := "(I)I" } : Jvm.MethodName)) ∈ zt := tbl_4 _ (List.mem_of_getElem? (i := 234) (by rfl)) rfl
theorem tb_955 : (Jvm.Cond.selects "ChordHerds" ({ cls := "ChordHerds", name := "lies", desc := "(I)I" } : Jvm.MethodName) ({ cls := "ChordHerds", name := "lies", desc := "(I)I" } : Jvm.MethodName)) ∈ zt := tbl_4 _ (List.mem_of_getElem? (i := 235) (by rfl)) rfl
theorem tb_956 : (Jvm.Cond.code ({ cls := "ChordHerds", name := "lies", desc := "(I)I" } : Jvm.MethodName) prog_1_method_28_code (2 : Nat) (Option.some Jvm.ClassFile.FieldType.int)) ∈ zt := tbl_4 _ (List.mem_of_getElem? (i := 236) (by rfl)) rfl
theorem tb_957 : (Jvm.Cond.methodLink "ChordHerdsLaw" (122 : Nat) ({ cls := "ChordHerds", name := "fresh", desc := "(II)I" } : Jvm.MethodName)) ∈ zt := tbl_4 _ (List.mem_of_getElem? (i := 237) (by rfl)) rfl
theorem tb_958 : (Jvm.Cond.instanceMethod ({ cls := "ChordHerds", name := "fresh", desc := "(II)I" } : Jvm.MethodName)) ∈ zt := tbl_4 _ (List.mem_of_getElem? (i := 238) (by rfl)) rfl
theorem tb_959 : (Jvm.Cond.selects "ChordHerds" ({ cls := "ChordHerds", name := "fresh", desc := "(II)I" } : Jvm.MethodName) ({ cls := "ChordHerds", name := "fresh", desc := "(II)I" } : Jvm.MethodName)) ∈ zt := tbl_4 _ (List.mem_of_getElem? (i := 239) (by rfl)) rfl
theorem tb_960 : (Jvm.Cond.code ({ cls := "ChordHerds", name := "fresh", desc := "(II)I" } : Jvm.MethodName) prog_1_method_29_code (8 : Nat) (Option.some Jvm.ClassFile.FieldType.int)) ∈ zt := tbl_5 _ (List.mem_of_getElem? (i := 0) (by rfl)) rfl
theorem tb_961 : (Jvm.Cond.methodLink "ChordHerds" (313 : Nat) ({ cls := "ChordHerds$Valley", name := "eachIsKnown", desc := "()Z" } : Jvm.MethodName)) ∈ zt := tbl_5 _ (List.mem_of_getElem? (i := 1) (by rfl)) rfl
theorem tb_962 : (Jvm.Cond.instanceMethod ({ cls := "ChordHerds$Valley", name := "eachIsKnown", desc := "()Z" } : Jvm.MethodName)) ∈ zt := tbl_5 _ (List.mem_of_getElem? (i := 2) (by rfl)) rfl
theorem tb_963 : (Jvm.Cond.selects "ChordHerds$Valley" ({ cls := "ChordHerds$Valley", name := "eachIsKnown", desc := "()Z" } : Jvm.MethodName) ({ cls := "ChordHerds$Valley", name := "eachIsKnown", desc := "()Z" } : Jvm.MethodName)) ∈ zt := tbl_5 _ (List.mem_of_getElem? (i := 3) (by rfl)) rfl
theorem tb_964 : (Jvm.Cond.code ({ cls := "ChordHerds$Valley", name := "eachIsKnown", desc := "()Z" } : Jvm.MethodName) prog_11_method_13_code (4 : Nat) (Option.some Jvm.ClassFile.FieldType.boolean)) ∈ zt := tbl_5 _ (List.mem_of_getElem? (i := 4) (by rfl)) rfl
theorem tb_965 : (Jvm.Cond.methodLink "ChordHerds$Valley" (77 : Nat) ({ cls := "ChordHerds$Valley", name := "isBeast", desc := "(I)Z" } : Jvm.MethodName)) ∈ zt := tbl_5 _ (List.mem_of_getElem? (i := 5) (by rfl)) rfl
theorem tb_966 : (Jvm.Cond.methodLink "ChordHerds" (317 : Nat) ({ cls := "ChordHerds$Valley", name := "withThoseBeside", desc := "(I)I" } : Jvm.MethodName)) ∈ zt := tbl_5 _ (List.mem_of_getElem? (i := 6) (by rfl)) rfl
theorem tb_967 : (Jvm.Cond.instanceMethod ({ cls := "ChordHerds$Valley", name := "withThoseBeside", desc := "(I)I" } : Jvm.MethodName)) ∈ zt := tbl_5 _ (List.mem_of_getElem? (i := 7) (by rfl)) rfl
theorem tb_968 : (Jvm.Cond.selects "ChordHerds$Valley" ({ cls := "ChordHerds$Valley", name := "withThoseBeside", desc := "(I)I" } : Jvm.MethodName) ({ cls := "ChordHerds$Valley", name := "withThoseBeside", desc := "(I)I" } : Jvm.MethodName)) ∈ zt := tbl_5 _ (List.mem_of_getElem? (i := 8) (by rfl)) rfl
theorem tb_969 : (Jvm.Cond.code ({ cls := "ChordHerds$Valley", name := "withThoseBeside", desc := "(I)I" } : Jvm.MethodName) prog_11_method_14_code (4 : Nat) (Option.some Jvm.ClassFile.FieldType.int)) ∈ zt := tbl_5 _ (List.mem_of_getElem? (i := 9) (by rfl)) rfl
theorem tb_970 : (Jvm.Cond.methodLink "ChordHerds" (321 : Nat) ({ cls := "ChordHerds$Valley", name := "farFrom", desc := "(II)I" } : Jvm.MethodName)) ∈ zt := tbl_5 _ (List.mem_of_getElem? (i := 10) (by rfl)) rfl
theorem tb_971 : (Jvm.Cond.instanceMethod ({ cls := "ChordHerds$Valley", name := "farFrom", desc := "(II)I" } : Jvm.MethodName)) ∈ zt := tbl_5 _ (List.mem_of_getElem? (i := 11) (by rfl)) rfl
theorem tb_972 : (Jvm.Cond.selects "ChordHerds$Valley" ({ cls := "ChordHerds$Valley", name := "farFrom", desc := "(II)I" } : Jvm.MethodName) ({ cls := "ChordHerds$Valley", name := "farFrom", desc := "(II)I" } : Jvm.MethodName)) ∈ zt := tbl_5 _ (List.mem_of_getElem? (i := 12) (by rfl)) rfl
theorem tb_973 : (Jvm.Cond.code ({ cls := "ChordHerds$Valley", name := "farFrom", desc := "(II)I" } : Jvm.MethodName) prog_11_method_15_code (6 : Nat) (Option.some Jvm.ClassFile.FieldType.int)) ∈ zt := tbl_5 _ (List.mem_of_getElem? (i := 13) (by rfl)) rfl
theorem tb_974 : (Jvm.Cond.methodLink "ChordHerds$Valley" (81 : Nat) ({ cls := "java/lang/Math", name := "min", desc := "(II)I" } : Jvm.MethodName)) ∈ zt := tbl_5 _ (List.mem_of_getElem? (i := 14) (by rfl)) rfl
theorem tb_975 : (Jvm.Cond.methodLink "ChordHerds" (324 : Nat) ({ cls := "ChordHerds$Valley", name := "hasBeast", desc := "(II)Z" } : Jvm.MethodName)) ∈ zt := tbl_5 _ (List.mem_of_getElem? (i := 15) (by rfl)) rfl
theorem tb_976 : (Jvm.Cond.instanceMethod ({ cls := "ChordHerds$Valley", name := "hasBeast", desc := "(II)Z" } : Jvm.MethodName)) ∈ zt := tbl_5 _ (List.mem_of_getElem? (i := 16) (by rfl)) rfl
theorem tb_977 : (Jvm.Cond.selects "ChordHerds$Valley" ({ cls := "ChordHerds$Valley", name := "hasBeast", desc := "(II)Z" } : Jvm.MethodName) ({ cls := "ChordHerds$Valley", name := "hasBeast", desc := "(II)Z" } : Jvm.MethodName)) ∈ zt := tbl_5 _ (List.mem_of_getElem? (i := 17) (by rfl)) rfl
theorem tb_978 : (Jvm.Cond.code ({ cls := "ChordHerds$Valley", name := "hasBeast", desc := "(II)Z" } : Jvm.MethodName) prog_11_method_12_code (4 : Nat) (Option.some Jvm.ClassFile.FieldType.boolean)) ∈ zt := tbl_5 _ (List.mem_of_getElem? (i := 18) (by rfl)) rfl
theorem tb_979 : (Jvm.Cond.methodLink "ChordHerdsLaw" (126 : Nat) ({ cls := "ChordHerds", name := "image", desc := "(I)I" } : Jvm.MethodName)) ∈ zt := tbl_5 _ (List.mem_of_getElem? (i := 19) (by rfl)) rfl
theorem tb_980 : (Jvm.Cond.instanceMethod ({ cls := "ChordHerds", name := "image", desc := "(I)I" } : Jvm.MethodName)) ∈ zt := tbl_5 _ (List.mem_of_getElem? (i := 20) (by rfl)) rfl
theorem tb_981 : (Jvm.Cond.selects "ChordHerds" ({ cls := "ChordHerds", name := "image", desc := "(I)I" } : Jvm.MethodName) ({ cls := "ChordHerds", name := "image", desc := "(I)I" } : Jvm.MethodName)) ∈ zt := tbl_5 _ (List.mem_of_getElem? (i := 21) (by rfl)) rfl
theorem tb_982 : (Jvm.Cond.code ({ cls := "ChordHerds", name := "image", desc := "(I)I" } : Jvm.MethodName) prog_1_method_30_code (2 : Nat) (Option.some Jvm.ClassFile.FieldType.int)) ∈ zt := tbl_5 _ (List.mem_of_getElem? (i := 22) (by rfl)) rfl
theorem tb_983 : (Jvm.Cond.methodLink "ChordHerds" (327 : Nat) ({ cls := "ChordHerds$Earnest", name := "copy", desc := "(LChordHerds$Earnest;)V" } : Jvm.MethodName)) ∈ zt := tbl_5 _ (List.mem_of_getElem? (i := 23) (by rfl)) rfl
theorem tb_984 : (Jvm.Cond.instanceMethod ({ cls := "ChordHerds$Earnest", name := "copy", desc := "(LChordHerds$Earnest;)V" } : Jvm.MethodName)) ∈ zt := tbl_5 _ (List.mem_of_getElem? (i := 24) (by rfl)) rfl
theorem tb_985 : (Jvm.Cond.selects "ChordHerds$Earnest" ({ cls := "ChordHerds$Earnest", name := "copy", desc := "(LChordHerds$Earnest;)V" } : Jvm.MethodName) ({ cls := "ChordHerds$Earnest", name := "copy", desc := "(LChordHerds$Earnest;)V" } : Jvm.MethodName)) ∈ zt := tbl_5 _ (List.mem_of_getElem? (i := 25) (by rfl)) rfl
theorem tb_986 : (Jvm.Cond.code ({ cls := "ChordHerds$Earnest", name := "copy", desc := "(LChordHerds$Earnest;)V" } : Jvm.MethodName) prog_5_method_3_code (2 : Nat) (Option.none : Option Jvm.ClassFile.FieldType)) ∈ zt := tbl_5 _ (List.mem_of_getElem? (i := 26) (by rfl)) rfl
theorem tb_987 : (Jvm.Cond.methodLink "ChordHerds$Earnest" (42 : Nat) ({ cls := "java/lang/System", name := "arraycopy", desc := "(Ljava/lang/Object;ILjava/lang/Object;II)V" } : Jvm.MethodName)) ∈ zt := tbl_5 _ (List.mem_of_getElem? (i := 27) (by rfl)) rfl
theorem tb_988 : (Jvm.Cond.methodLink "ChordHerdsLaw" (130 : Nat) ({ cls := "ChordHerds", name := "back", desc := "(I)I" } : Jvm.MethodName)) ∈ zt := tbl_5 _ (List.mem_of_getElem? (i := 28) (by rfl)) rfl
theorem tb_989 : (Jvm.Cond.instanceMethod ({ cls := "ChordHerds", name := "back", desc := "(I)I" } : Jvm.MethodName)) ∈ zt := tbl_5 _ (List.mem_of_getElem? (i := 29) (by rfl)) rfl
theorem tb_990 : (Jvm.Cond.selects "ChordHerds" ({ cls := "ChordHerds", name := "back", desc := "(I)I" } : Jvm.MethodName) ({ cls := "ChordHerds", name := "back", desc := "(I)I" } : Jvm.MethodName)) ∈ zt := tbl_5 _ (List.mem_of_getElem? (i := 30) (by rfl)) rfl
theorem tb_991 : (Jvm.Cond.code ({ cls := "ChordHerds", name := "back", desc := "(I)I" } : Jvm.MethodName) prog_1_method_31_code (2 : Nat) (Option.some Jvm.ClassFile.FieldType.int)) ∈ zt := tbl_5 _ (List.mem_of_getElem? (i := 31) (by rfl)) rfl
theorem tb_992 : (Jvm.Cond.methodLink "ChordHerdsLaw" (134 : Nat) ({ cls := "ChordHerds", name := "about", desc := "(I)I" } : Jvm.MethodName)) ∈ zt := tbl_5 _ (List.mem_of_getElem? (i := 32) (by rfl)) rfl
theorem tb_993 : (Jvm.Cond.instanceMethod ({ cls := "ChordHerds", name := "about", desc := "(I)I" } : Jvm.MethodName)) ∈ zt := tbl_5 _ (List.mem_of_getElem? (i := 33) (by rfl)) rfl
theorem tb_994 : (Jvm.Cond.selects "ChordHerds" ({ cls := "ChordHerds", name := "about", desc := "(I)I" } : Jvm.MethodName) ({ cls := "ChordHerds", name := "about", desc := "(I)I" } : Jvm.MethodName)) ∈ zt := tbl_5 _ (List.mem_of_getElem? (i := 34) (by rfl)) rfl
theorem tb_995 : (Jvm.Cond.code ({ cls := "ChordHerds", name := "about", desc := "(I)I" } : Jvm.MethodName) prog_1_method_32_code (2 : Nat) (Option.some Jvm.ClassFile.FieldType.int)) ∈ zt := tbl_5 _ (List.mem_of_getElem? (i := 35) (by rfl)) rfl
theorem tb_996 : (Jvm.Cond.classLink "ChordHerdsLaw" (10 : Nat) "ChordHerdsModel") ∈ zt := tbl_5 _ (List.mem_of_getElem? (i := 36) (by rfl)) rfl
theorem tb_997 : (Jvm.Cond.instantiable "ChordHerdsModel" (64 : Nat)) ∈ zt := tbl_5 _ (List.mem_of_getElem? (i := 37) (by rfl)) rfl
theorem tb_998 : (Jvm.Cond.methodLink "ChordHerdsLaw" (12 : Nat) ({ cls := "ChordHerdsModel", name := "<init>", desc := "()V" } : Jvm.MethodName)) ∈ zt := tbl_5 _ (List.mem_of_getElem? (i := 38) (by rfl)) rfl
theorem tb_999 : (Jvm.Cond.instanceMethod ({ cls := "ChordHerdsModel", name := "<init>", desc := "()V" } : Jvm.MethodName)) ∈ zt := tbl_5 _ (List.mem_of_getElem? (i := 39) (by rfl)) rfl
theorem tb_1000 : (Jvm.Cond.code ({ cls := "ChordHerdsModel", name := "<init>", desc := "()V" } : Jvm.MethodName) prog_13_method_1_code (1 : Nat) (Option.none : Option Jvm.ClassFile.FieldType)) ∈ zt := tbl_5 _ (List.mem_of_getElem? (i := 40) (by rfl)) rfl
theorem tb_1001 : (Jvm.Cond.methodLink "ChordHerdsModel" (1 : Nat) ({ cls := "java/lang/Object", name := "<init>", desc := "()V" } : Jvm.MethodName)) ∈ zt := tbl_5 _ (List.mem_of_getElem? (i := 41) (by rfl)) rfl
theorem tb_1002 : (Jvm.Cond.fieldLink "ChordHerdsModel" (7 : Nat) "ChordHerdsModel" "tape" "[I") ∈ zt := tbl_5 _ (List.mem_of_getElem? (i := 42) (by rfl)) rfl
theorem tb_1003 : (Jvm.Cond.fieldLink "ChordHerdsModel" (103 : Nat) "ChordHerdsModel" "taped" "I") ∈ zt := tbl_5 _ (List.mem_of_getElem? (i := 43) (by rfl)) rfl
theorem tb_1004 : (Jvm.Cond.fieldLink "ChordHerdsModel" (140 : Nat) "ChordHerdsModel" "fault" "I") ∈ zt := tbl_5 _ (List.mem_of_getElem? (i := 44) (by rfl)) rfl
theorem tb_1005 : (Jvm.Cond.fieldLink "ChordHerdsModel" (13 : Nat) "ChordHerdsModel" "faultPlace" "I") ∈ zt := tbl_5 _ (List.mem_of_getElem? (i := 45) (by rfl)) rfl
theorem tb_1006 : (Jvm.Cond.fieldLink "ChordHerdsModel" (110 : Nat) "ChordHerdsModel" "at" "I") ∈ zt := tbl_5 _ (List.mem_of_getElem? (i := 46) (by rfl)) rfl
theorem tb_1007 : (Jvm.Cond.fieldLink "ChordHerdsModel" (113 : Nat) "ChordHerdsModel" "size" "I") ∈ zt := tbl_5 _ (List.mem_of_getElem? (i := 47) (by rfl)) rfl
theorem tb_1008 : (Jvm.Cond.fieldLink "ChordHerdsModel" (130 : Nat) "ChordHerdsModel" "sort" "I") ∈ zt := tbl_5 _ (List.mem_of_getElem? (i := 48) (by rfl)) rfl
theorem tb_1009 : (Jvm.Cond.fieldLink "ChordHerdsModel" (120 : Nat) "ChordHerdsModel" "place" "I") ∈ zt := tbl_5 _ (List.mem_of_getElem? (i := 49) (by rfl)) rfl
theorem tb_1010 : (Jvm.Cond.fieldLink "ChordHerdsModel" (127 : Nat) "ChordHerdsModel" "number" "I") ∈ zt := tbl_5 _ (List.mem_of_getElem? (i := 50) (by rfl)) rfl
theorem tb_1011 : (Jvm.Cond.fieldLink "ChordHerdsModel" (123 : Nat) "ChordHerdsModel" "word" "J") ∈ zt := tbl_5 _ (List.mem_of_getElem? (i := 51) (by rfl)) rfl
theorem tb_1012 : (Jvm.Cond.fieldLink "ChordHerdsModel" (17 : Nat) "ChordHerdsModel" "nName" "[J") ∈ zt := tbl_5 _ (List.mem_of_getElem? (i := 52) (by rfl)) rfl
theorem tb_1013 : (Jvm.Cond.fieldLink "ChordHerdsModel" (21 : Nat) "ChordHerdsModel" "nBell" "[I") ∈ zt := tbl_5 _ (List.mem_of_getElem? (i := 53) (by rfl)) rfl
theorem tb_1014 : (Jvm.Cond.fieldLink "ChordHerdsModel" (24 : Nat) "ChordHerdsModel" "nLoud" "[I") ∈ zt := tbl_5 _ (List.mem_of_getElem? (i := 54) (by rfl)) rfl
theorem tb_1015 : (Jvm.Cond.fieldLink "ChordHerdsModel" (27 : Nat) "ChordHerdsModel" "nHerd" "[I") ∈ zt := tbl_5 _ (List.mem_of_getElem? (i := 55) (by rfl)) rfl
theorem tb_1016 : (Jvm.Cond.fieldLink "ChordHerdsModel" (30 : Nat) "ChordHerdsModel" "nEar" "[I") ∈ zt := tbl_5 _ (List.mem_of_getElem? (i := 56) (by rfl)) rfl
theorem tb_1017 : (Jvm.Cond.fieldLink "ChordHerdsModel" (33 : Nat) "ChordHerdsModel" "nBeside" "[I") ∈ zt := tbl_5 _ (List.mem_of_getElem? (i := 57) (by rfl)) rfl
theorem tb_1018 : (Jvm.Cond.fieldLink "ChordHerdsModel" (36 : Nat) "ChordHerdsModel" "bellOf" "[I") ∈ zt := tbl_5 _ (List.mem_of_getElem? (i := 58) (by rfl)) rfl
theorem tb_1019 : (Jvm.Cond.fieldLink "ChordHerdsModel" (39 : Nat) "ChordHerdsModel" "loudOf" "[I") ∈ zt := tbl_5 _ (List.mem_of_getElem? (i := 59) (by rfl)) rfl
theorem tb_1020 : (Jvm.Cond.fieldLink "ChordHerdsModel" (42 : Nat) "ChordHerdsModel" "herdOf" "[I") ∈ zt := tbl_5 _ (List.mem_of_getElem? (i := 60) (by rfl)) rfl
theorem tb_1021 : (Jvm.Cond.fieldLink "ChordHerdsModel" (45 : Nat) "ChordHerdsModel" "earAt" "[I") ∈ zt := tbl_5 _ (List.mem_of_getElem? (i := 61) (by rfl)) rfl
theorem tb_1022 : (Jvm.Cond.fieldLink "ChordHerdsModel" (48 : Nat) "ChordHerdsModel" "besideOf" "[I") ∈ zt := tbl_5 _ (List.mem_of_getElem? (i := 62) (by rfl)) rfl
theorem tb_1023 : (Jvm.Cond.fieldLink "ChordHerdsModel" (51 : Nat) "ChordHerdsModel" "beasts" "[I") ∈ zt := tbl_5 _ (List.mem_of_getElem? (i := 63) (by rfl)) rfl
theorem tb_1024 : (Jvm.Cond.fieldLink "ChordHerdsModel" (186 : Nat) "ChordHerdsModel" "nHerds" "I") ∈ zt := tbl_5 _ (List.mem_of_getElem? (i := 64) (by rfl)) rfl
theorem tb_1025 : (Jvm.Cond.fieldLink "ChordHerdsModel" (193 : Nat) "ChordHerdsModel" "nBells" "I") ∈ zt := tbl_5 _ (List.mem_of_getElem? (i := 65) (by rfl)) rfl
theorem tb_1026 : (Jvm.Cond.fieldLink "ChordHerdsModel" (203 : Nat) "ChordHerdsModel" "nBeasts" "I") ∈ zt := tbl_5 _ (List.mem_of_getElem? (i := 66) (by rfl)) rfl
theorem tb_1027 : (Jvm.Cond.fieldLink "ChordHerdsModel" (206 : Nat) "ChordHerdsModel" "nStrangers" "I") ∈ zt := tbl_5 _ (List.mem_of_getElem? (i := 67) (by rfl)) rfl
theorem tb_1028 : (Jvm.Cond.fieldLink "ChordHerdsModel" (209 : Nat) "ChordHerdsModel" "nEars" "I") ∈ zt := tbl_5 _ (List.mem_of_getElem? (i := 68) (by rfl)) rfl
theorem tb_1029 : (Jvm.Cond.fieldLink "ChordHerdsModel" (216 : Nat) "ChordHerdsModel" "nBesides" "I") ∈ zt := tbl_5 _ (List.mem_of_getElem? (i := 69) (by rfl)) rfl
theorem tb_1030 : (Jvm.Cond.fieldLink "ChordHerdsModel" (240 : Nat) "ChordHerdsModel" "herds" "I") ∈ zt := tbl_5 _ (List.mem_of_getElem? (i := 70) (by rfl)) rfl
theorem tb_1031 : (Jvm.Cond.fieldLink "ChordHerdsModel" (243 : Nat) "ChordHerdsModel" "bells" "I") ∈ zt := tbl_5 _ (List.mem_of_getElem? (i := 71) (by rfl)) rfl
theorem tb_1032 : (Jvm.Cond.fieldLink "ChordHerdsModel" (252 : Nat) "ChordHerdsModel" "beastMany" "I") ∈ zt := tbl_5 _ (List.mem_of_getElem? (i := 72) (by rfl)) rfl
theorem tb_1033 : (Jvm.Cond.fieldLink "ChordHerdsModel" (246 : Nat) "ChordHerdsModel" "strangers" "I") ∈ zt := tbl_5 _ (List.mem_of_getElem? (i := 73) (by rfl)) rfl
theorem tb_1034 : (Jvm.Cond.fieldLink "ChordHerdsModel" (249 : Nat) "ChordHerdsModel" "ears" "I") ∈ zt := tbl_5 _ (List.mem_of_getElem? (i := 74) (by rfl)) rfl
theorem tb_1035 : (Jvm.Cond.fieldLink "ChordHerdsModel" (54 : Nat) "ChordHerdsModel" "creep" "[I") ∈ zt := tbl_5 _ (List.mem_of_getElem? (i := 75) (by rfl)) rfl
theorem tb_1036 : (Jvm.Cond.fieldLink "ChordHerdsModel" (258 : Nat) "ChordHerdsModel" "there" "I") ∈ zt := tbl_5 _ (List.mem_of_getElem? (i := 76) (by rfl)) rfl
theorem tb_1037 : (Jvm.Cond.fieldLink "ChordHerdsModel" (261 : Nat) "ChordHerdsModel" "standing" "I") ∈ zt := tbl_5 _ (List.mem_of_getElem? (i := 77) (by rfl)) rfl
theorem tb_1038 : (Jvm.Cond.fieldLink "ChordHerdsModel" (264 : Nat) "ChordHerdsModel" "nowPlace" "I") ∈ zt := tbl_5 _ (List.mem_of_getElem? (i := 78) (by rfl)) rfl
theorem tb_1039 : (Jvm.Cond.fieldLink "ChordHerdsModel" (267 : Nat) "ChordHerdsModel" "nowWind" "I") ∈ zt := tbl_5 _ (List.mem_of_getElem? (i := 79) (by rfl)) rfl
theorem tb_1040 : (Jvm.Cond.fieldLink "ChordHerdsModel" (270 : Nat) "ChordHerdsModel" "year" "I") ∈ zt := tbl_5 _ (List.mem_of_getElem? (i := 80) (by rfl)) rfl
theorem tb_1041 : (Jvm.Cond.fieldLink "ChordHerdsModel" (57 : Nat) "ChordHerdsModel" "isEvening" "[I") ∈ zt := tbl_5 _ (List.mem_of_getElem? (i := 81) (by rfl)) rfl
theorem tb_1042 : (Jvm.Cond.fieldLink "ChordHerdsModel" (60 : Nat) "ChordHerdsModel" "when" "[I") ∈ zt := tbl_5 _ (List.mem_of_getElem? (i := 82) (by rfl)) rfl
theorem tb_1043 : (Jvm.Cond.fieldLink "ChordHerdsModel" (63 : Nat) "ChordHerdsModel" "who" "[I") ∈ zt := tbl_5 _ (List.mem_of_getElem? (i := 83) (by rfl)) rfl
theorem tb_1044 : (Jvm.Cond.fieldLink "ChordHerdsModel" (66 : Nat) "ChordHerdsModel" "tones" "[I") ∈ zt := tbl_5 _ (List.mem_of_getElem? (i := 84) (by rfl)) rfl
theorem tb_1045 : (Jvm.Cond.fieldLink "ChordHerdsModel" (69 : Nat) "ChordHerdsModel" "least" "[I") ∈ zt := tbl_5 _ (List.mem_of_getElem? (i := 85) (by rfl)) rfl
theorem tb_1046 : (Jvm.Cond.fieldLink "ChordHerdsModel" (72 : Nat) "ChordHerdsModel" "most" "[I") ∈ zt := tbl_5 _ (List.mem_of_getElem? (i := 86) (by rfl)) rfl
theorem tb_1047 : (Jvm.Cond.fieldLink "ChordHerdsModel" (75 : Nat) "ChordHerdsModel" "entryTold" "[I") ∈ zt := tbl_5 _ (List.mem_of_getElem? (i := 87) (by rfl)) rfl
theorem tb_1048 : (Jvm.Cond.fieldLink "ChordHerdsModel" (78 : Nat) "ChordHerdsModel" "entryUntold" "[I") ∈ zt := tbl_5 _ (List.mem_of_getElem? (i := 88) (by rfl)) rfl
theorem tb_1049 : (Jvm.Cond.fieldLink "ChordHerdsModel" (273 : Nat) "ChordHerdsModel" "entries" "I") ∈ zt := tbl_5 _ (List.mem_of_getElem? (i := 89) (by rfl)) rfl
theorem tb_1050 : (Jvm.Cond.fieldLink "ChordHerdsModel" (315 : Nat) "ChordHerdsModel" "time" "I") ∈ zt := tbl_5 _ (List.mem_of_getElem? (i := 90) (by rfl)) rfl
theorem tb_1051 : (Jvm.Cond.fieldLink "ChordHerdsModel" (81 : Nat) "ChordHerdsModel" "isWhere" "[Z") ∈ zt := tbl_5 _ (List.mem_of_getElem? (i := 91) (by rfl)) rfl
theorem tb_1052 : (Jvm.Cond.fieldLink "ChordHerdsModel" (279 : Nat) "ChordHerdsModel" "hasSpring" "Z") ∈ zt := tbl_5 _ (List.mem_of_getElem? (i := 92) (by rfl)) rfl
theorem tb_1053 : (Jvm.Cond.fieldLink "ChordHerdsModel" (341 : Nat) "ChordHerdsModel" "springA" "I") ∈ zt := tbl_5 _ (List.mem_of_getElem? (i := 93) (by rfl)) rfl
theorem tb_1054 : (Jvm.Cond.fieldLink "ChordHerdsModel" (344 : Nat) "ChordHerdsModel" "springAt" "I") ∈ zt := tbl_5 _ (List.mem_of_getElem? (i := 94) (by rfl)) rfl
theorem tb_1055 : (Jvm.Cond.fieldLink "ChordHerdsModel" (347 : Nat) "ChordHerdsModel" "springB" "I") ∈ zt := tbl_5 _ (List.mem_of_getElem? (i := 95) (by rfl)) rfl
theorem tb_1056 : (Jvm.Cond.fieldLink "ChordHerdsModel" (350 : Nat) "ChordHerdsModel" "springBt" "I") ∈ zt := tbl_5 _ (List.mem_of_getElem? (i := 96) (by rfl)) rfl
theorem tb_1057 : (Jvm.Cond.fieldLink "ChordHerdsModel" (353 : Nat) "ChordHerdsModel" "springQuarter" "I") ∈ zt := tbl_5 _ (List.mem_of_getElem? (i := 97) (by rfl)) rfl
theorem tb_1058 : (Jvm.Cond.fieldLink "ChordHerdsModel" (85 : Nat) "ChordHerdsModel" "tried" "[I") ∈ zt := tbl_5 _ (List.mem_of_getElem? (i := 98) (by rfl)) rfl
theorem tb_1059 : (Jvm.Cond.fieldLink "ChordHerdsModel" (88 : Nat) "ChordHerdsModel" "lies" "[I") ∈ zt := tbl_5 _ (List.mem_of_getElem? (i := 99) (by rfl)) rfl
theorem tb_1060 : (Jvm.Cond.fieldLink "ChordHerdsModel" (276 : Nat) "ChordHerdsModel" "lain" "I") ∈ zt := tbl_5 _ (List.mem_of_getElem? (i := 100) (by rfl)) rfl
theorem tb_1061 : (Jvm.Cond.fieldLink "ChordHerdsModel" (91 : Nat) "ChordHerdsModel" "lost" "[I") ∈ zt := tbl_5 _ (List.mem_of_getElem? (i := 101) (by rfl)) rfl
theorem tb_1062 : (Jvm.Cond.fieldLink "ChordHerdsModel" (94 : Nat) "ChordHerdsModel" "few" "[I") ∈ zt := tbl_5 _ (List.mem_of_getElem? (i := 102) (by rfl)) rfl
theorem tb_1063 : (Jvm.Cond.fieldLink "ChordHerdsModel" (387 : Nat) "ChordHerdsModel" "fewMany" "I") ∈ zt := tbl_5 _ (List.mem_of_getElem? (i := 103) (by rfl)) rfl
theorem tb_1064 : (Jvm.Cond.fieldLink "ChordHerdsModel" (97 : Nat) "ChordHerdsModel" "hasBox" "[Z") ∈ zt := tbl_5 _ (List.mem_of_getElem? (i := 104) (by rfl)) rfl
theorem tb_1065 : (Jvm.Cond.fieldLink "ChordHerdsModel" (100 : Nat) "ChordHerdsModel" "boxes" "[I") ∈ zt := tbl_5 _ (List.mem_of_getElem? (i := 105) (by rfl)) rfl
theorem tb_1066 : (Jvm.Cond.laysFinal "ChordHerdsModel" "ChordHerdsModel" "tape" "[I") ∈ zt := tbl_5 _ (List.mem_of_getElem? (i := 106) (by rfl)) rfl
theorem tb_1068 : (Jvm.Cond.lays "ChordHerdsModel" "ChordHerdsModel" "taped" "I") ∈ zt := tbl_5 _ (List.mem_of_getElem? (i := 108) (by rfl)) rfl
theorem tb_1070 : (Jvm.Cond.lays "ChordHerdsModel" "ChordHerdsModel" "fault" "I") ∈ zt := tbl_5 _ (List.mem_of_getElem? (i := 110) (by rfl)) rfl
theorem tb_1072 : (Jvm.Cond.lays "ChordHerdsModel" "ChordHerdsModel" "faultPlace" "I") ∈ zt := tbl_5 _ (List.mem_of_getElem? (i := 112) (by rfl)) rfl
theorem tb_1074 : (Jvm.Cond.lays "ChordHerdsModel" "ChordHerdsModel" "at" "I") ∈ zt := tbl_5 _ (List.mem_of_getElem? (i := 114) (by rfl)) rfl
theorem tb_1076 : (Jvm.Cond.lays "ChordHerdsModel" "ChordHerdsModel" "size" "I") ∈ zt := tbl_5 _ (List.mem_of_getElem? (i := 116) (by rfl)) rfl
theorem tb_1078 : (Jvm.Cond.lays "ChordHerdsModel" "ChordHerdsModel" "sort" "I") ∈ zt := tbl_5 _ (List.mem_of_getElem? (i := 118) (by rfl)) rfl
theorem tb_1080 : (Jvm.Cond.lays "ChordHerdsModel" "ChordHerdsModel" "place" "I") ∈ zt := tbl_5 _ (List.mem_of_getElem? (i := 120) (by rfl)) rfl
theorem tb_1082 : (Jvm.Cond.lays "ChordHerdsModel" "ChordHerdsModel" "number" "I") ∈ zt := tbl_5 _ (List.mem_of_getElem? (i := 122) (by rfl)) rfl
theorem tb_1084 : (Jvm.Cond.lays "ChordHerdsModel" "ChordHerdsModel" "word" "J") ∈ zt := tbl_5 _ (List.mem_of_getElem? (i := 124) (by rfl)) rfl
theorem tb_1086 : (Jvm.Cond.laysFinal "ChordHerdsModel" "ChordHerdsModel" "nName" "[J") ∈ zt := tbl_5 _ (List.mem_of_getElem? (i := 126) (by rfl)) rfl
theorem tb_1088 : (Jvm.Cond.laysFinal "ChordHerdsModel" "ChordHerdsModel" "nBell" "[I") ∈ zt := tbl_5 _ (List.mem_of_getElem? (i := 128) (by rfl)) rfl
theorem tb_1090 : (Jvm.Cond.laysFinal "ChordHerdsModel" "ChordHerdsModel" "nLoud" "[I") ∈ zt := tbl_5 _ (List.mem_of_getElem? (i := 130) (by rfl)) rfl
theorem tb_1092 : (Jvm.Cond.laysFinal "ChordHerdsModel" "ChordHerdsModel" "nHerd" "[I") ∈ zt := tbl_5 _ (List.mem_of_getElem? (i := 132) (by rfl)) rfl
theorem tb_1094 : (Jvm.Cond.laysFinal "ChordHerdsModel" "ChordHerdsModel" "nEar" "[I") ∈ zt := tbl_5 _ (List.mem_of_getElem? (i := 134) (by rfl)) rfl
theorem tb_1096 : (Jvm.Cond.laysFinal "ChordHerdsModel" "ChordHerdsModel" "nBeside" "[I") ∈ zt := tbl_5 _ (List.mem_of_getElem? (i := 136) (by rfl)) rfl
theorem tb_1098 : (Jvm.Cond.laysFinal "ChordHerdsModel" "ChordHerdsModel" "bellOf" "[I") ∈ zt := tbl_5 _ (List.mem_of_getElem? (i := 138) (by rfl)) rfl
theorem tb_1100 : (Jvm.Cond.laysFinal "ChordHerdsModel" "ChordHerdsModel" "loudOf" "[I") ∈ zt := tbl_5 _ (List.mem_of_getElem? (i := 140) (by rfl)) rfl
theorem tb_1102 : (Jvm.Cond.laysFinal "ChordHerdsModel" "ChordHerdsModel" "herdOf" "[I") ∈ zt := tbl_5 _ (List.mem_of_getElem? (i := 142) (by rfl)) rfl
theorem tb_1104 : (Jvm.Cond.laysFinal "ChordHerdsModel" "ChordHerdsModel" "earAt" "[I") ∈ zt := tbl_5 _ (List.mem_of_getElem? (i := 144) (by rfl)) rfl
theorem tb_1106 : (Jvm.Cond.laysFinal "ChordHerdsModel" "ChordHerdsModel" "besideOf" "[I") ∈ zt := tbl_5 _ (List.mem_of_getElem? (i := 146) (by rfl)) rfl
theorem tb_1108 : (Jvm.Cond.laysFinal "ChordHerdsModel" "ChordHerdsModel" "beasts" "[I") ∈ zt := tbl_5 _ (List.mem_of_getElem? (i := 148) (by rfl)) rfl
theorem tb_1110 : (Jvm.Cond.lays "ChordHerdsModel" "ChordHerdsModel" "nHerds" "I") ∈ zt := tbl_5 _ (List.mem_of_getElem? (i := 150) (by rfl)) rfl
theorem tb_1112 : (Jvm.Cond.lays "ChordHerdsModel" "ChordHerdsModel" "nBells" "I") ∈ zt := tbl_5 _ (List.mem_of_getElem? (i := 152) (by rfl)) rfl
theorem tb_1114 : (Jvm.Cond.lays "ChordHerdsModel" "ChordHerdsModel" "nBeasts" "I") ∈ zt := tbl_5 _ (List.mem_of_getElem? (i := 154) (by rfl)) rfl
theorem tb_1116 : (Jvm.Cond.lays "ChordHerdsModel" "ChordHerdsModel" "nStrangers" "I") ∈ zt := tbl_5 _ (List.mem_of_getElem? (i := 156) (by rfl)) rfl
theorem tb_1118 : (Jvm.Cond.lays "ChordHerdsModel" "ChordHerdsModel" "nEars" "I") ∈ zt := tbl_5 _ (List.mem_of_getElem? (i := 158) (by rfl)) rfl
theorem tb_1120 : (Jvm.Cond.lays "ChordHerdsModel" "ChordHerdsModel" "nBesides" "I") ∈ zt := tbl_5 _ (List.mem_of_getElem? (i := 160) (by rfl)) rfl
theorem tb_1122 : (Jvm.Cond.lays "ChordHerdsModel" "ChordHerdsModel" "herds" "I") ∈ zt := tbl_5 _ (List.mem_of_getElem? (i := 162) (by rfl)) rfl
theorem tb_1124 : (Jvm.Cond.lays "ChordHerdsModel" "ChordHerdsModel" "bells" "I") ∈ zt := tbl_5 _ (List.mem_of_getElem? (i := 164) (by rfl)) rfl
theorem tb_1126 : (Jvm.Cond.lays "ChordHerdsModel" "ChordHerdsModel" "beastMany" "I") ∈ zt := tbl_5 _ (List.mem_of_getElem? (i := 166) (by rfl)) rfl
theorem tb_1128 : (Jvm.Cond.lays "ChordHerdsModel" "ChordHerdsModel" "strangers" "I") ∈ zt := tbl_5 _ (List.mem_of_getElem? (i := 168) (by rfl)) rfl
theorem tb_1130 : (Jvm.Cond.lays "ChordHerdsModel" "ChordHerdsModel" "ears" "I") ∈ zt := tbl_5 _ (List.mem_of_getElem? (i := 170) (by rfl)) rfl
theorem tb_1132 : (Jvm.Cond.laysFinal "ChordHerdsModel" "ChordHerdsModel" "creep" "[I") ∈ zt := tbl_5 _ (List.mem_of_getElem? (i := 172) (by rfl)) rfl
theorem tb_1134 : (Jvm.Cond.lays "ChordHerdsModel" "ChordHerdsModel" "there" "I") ∈ zt := tbl_5 _ (List.mem_of_getElem? (i := 174) (by rfl)) rfl
theorem tb_1136 : (Jvm.Cond.lays "ChordHerdsModel" "ChordHerdsModel" "standing" "I") ∈ zt := tbl_5 _ (List.mem_of_getElem? (i := 176) (by rfl)) rfl
theorem tb_1138 : (Jvm.Cond.lays "ChordHerdsModel" "ChordHerdsModel" "nowPlace" "I") ∈ zt := tbl_5 _ (List.mem_of_getElem? (i := 178) (by rfl)) rfl
theorem tb_1140 : (Jvm.Cond.lays "ChordHerdsModel" "ChordHerdsModel" "nowWind" "I") ∈ zt := tbl_5 _ (List.mem_of_getElem? (i := 180) (by rfl)) rfl
theorem tb_1142 : (Jvm.Cond.lays "ChordHerdsModel" "ChordHerdsModel" "year" "I") ∈ zt := tbl_5 _ (List.mem_of_getElem? (i := 182) (by rfl)) rfl
theorem tb_1144 : (Jvm.Cond.laysFinal "ChordHerdsModel" "ChordHerdsModel" "isEvening" "[I") ∈ zt := tbl_5 _ (List.mem_of_getElem? (i := 184) (by rfl)) rfl
theorem tb_1146 : (Jvm.Cond.laysFinal "ChordHerdsModel" "ChordHerdsModel" "when" "[I") ∈ zt := tbl_5 _ (List.mem_of_getElem? (i := 186) (by rfl)) rfl
theorem tb_1148 : (Jvm.Cond.laysFinal "ChordHerdsModel" "ChordHerdsModel" "who" "[I") ∈ zt := tbl_5 _ (List.mem_of_getElem? (i := 188) (by rfl)) rfl
theorem tb_1150 : (Jvm.Cond.laysFinal "ChordHerdsModel" "ChordHerdsModel" "tones" "[I") ∈ zt := tbl_5 _ (List.mem_of_getElem? (i := 190) (by rfl)) rfl
theorem tb_1152 : (Jvm.Cond.laysFinal "ChordHerdsModel" "ChordHerdsModel" "least" "[I") ∈ zt := tbl_5 _ (List.mem_of_getElem? (i := 192) (by rfl)) rfl
theorem tb_1154 : (Jvm.Cond.laysFinal "ChordHerdsModel" "ChordHerdsModel" "most" "[I") ∈ zt := tbl_5 _ (List.mem_of_getElem? (i := 194) (by rfl)) rfl
theorem tb_1156 : (Jvm.Cond.laysFinal "ChordHerdsModel" "ChordHerdsModel" "entryTold" "[I") ∈ zt := tbl_5 _ (List.mem_of_getElem? (i := 196) (by rfl)) rfl
theorem tb_1158 : (Jvm.Cond.laysFinal "ChordHerdsModel" "ChordHerdsModel" "entryUntold" "[I") ∈ zt := tbl_5 _ (List.mem_of_getElem? (i := 198) (by rfl)) rfl
theorem tb_1160 : (Jvm.Cond.lays "ChordHerdsModel" "ChordHerdsModel" "entries" "I") ∈ zt := tbl_5 _ (List.mem_of_getElem? (i := 200) (by rfl)) rfl
theorem tb_1162 : (Jvm.Cond.lays "ChordHerdsModel" "ChordHerdsModel" "time" "I") ∈ zt := tbl_5 _ (List.mem_of_getElem? (i := 202) (by rfl)) rfl
theorem tb_1164 : (Jvm.Cond.laysFinal "ChordHerdsModel" "ChordHerdsModel" "isWhere" "[Z") ∈ zt := tbl_5 _ (List.mem_of_getElem? (i := 204) (by rfl)) rfl
theorem tb_1166 : (Jvm.Cond.lays "ChordHerdsModel" "ChordHerdsModel" "hasSpring" "Z") ∈ zt := tbl_5 _ (List.mem_of_getElem? (i := 206) (by rfl)) rfl
theorem tb_1168 : (Jvm.Cond.lays "ChordHerdsModel" "ChordHerdsModel" "springA" "I") ∈ zt := tbl_5 _ (List.mem_of_getElem? (i := 208) (by rfl)) rfl
theorem tb_1170 : (Jvm.Cond.lays "ChordHerdsModel" "ChordHerdsModel" "springAt" "I") ∈ zt := tbl_5 _ (List.mem_of_getElem? (i := 210) (by rfl)) rfl
theorem tb_1172 : (Jvm.Cond.lays "ChordHerdsModel" "ChordHerdsModel" "springB" "I") ∈ zt := tbl_5 _ (List.mem_of_getElem? (i := 212) (by rfl)) rfl
theorem tb_1174 : (Jvm.Cond.lays "ChordHerdsModel" "ChordHerdsModel" "springBt" "I") ∈ zt := tbl_5 _ (List.mem_of_getElem? (i := 214) (by rfl)) rfl
theorem tb_1176 : (Jvm.Cond.lays "ChordHerdsModel" "ChordHerdsModel" "springQuarter" "I") ∈ zt := tbl_5 _ (List.mem_of_getElem? (i := 216) (by rfl)) rfl
theorem tb_1178 : (Jvm.Cond.laysFinal "ChordHerdsModel" "ChordHerdsModel" "tried" "[I") ∈ zt := tbl_5 _ (List.mem_of_getElem? (i := 218) (by rfl)) rfl
theorem tb_1180 : (Jvm.Cond.laysFinal "ChordHerdsModel" "ChordHerdsModel" "lies" "[I") ∈ zt := tbl_5 _ (List.mem_of_getElem? (i := 220) (by rfl)) rfl
theorem tb_1182 : (Jvm.Cond.lays "ChordHerdsModel" "ChordHerdsModel" "lain" "I") ∈ zt := tbl_5 _ (List.mem_of_getElem? (i := 222) (by rfl)) rfl
theorem tb_1184 : (Jvm.Cond.laysFinal "ChordHerdsModel" "ChordHerdsModel" "lost" "[I") ∈ zt := tbl_5 _ (List.mem_of_getElem? (i := 224) (by rfl)) rfl
theorem tb_1186 : (Jvm.Cond.laysFinal "ChordHerdsModel" "ChordHerdsModel" "few" "[I") ∈ zt := tbl_5 _ (List.mem_of_getElem? (i := 226) (by rfl)) rfl
theorem tb_1188 : (Jvm.Cond.lays "ChordHerdsModel" "ChordHerdsModel" "fewMany" "I") ∈ zt := tbl_5 _ (List.mem_of_getElem? (i := 228) (by rfl)) rfl
theorem tb_1190 : (Jvm.Cond.laysFinal "ChordHerdsModel" "ChordHerdsModel" "hasBox" "[Z") ∈ zt := tbl_5 _ (List.mem_of_getElem? (i := 230) (by rfl)) rfl
theorem tb_1192 : (Jvm.Cond.laysFinal "ChordHerdsModel" "ChordHerdsModel" "boxes" "[I") ∈ zt := tbl_5 _ (List.mem_of_getElem? (i := 232) (by rfl)) rfl
theorem tb_1195 : (Jvm.Cond.arrayClass Jvm.ClassFile.FieldType.boolean) ∈ zt := tbl_5 _ (List.mem_of_getElem? (i := 235) (by rfl)) rfl
theorem tb_1196 : (Jvm.Cond.methodLink "ChordHerdsLaw" (17 : Nat) ({ cls := "ChordHerdsModel", name := "feed", desc := "(IIIII)I" } : Jvm.MethodName)) ∈ zt := tbl_5 _ (List.mem_of_getElem? (i := 236) (by rfl)) rfl
theorem tb_1197 : (Jvm.Cond.instanceMethod ({ cls := "ChordHerdsModel", name := "feed", desc := "(IIIII)I" } : Jvm.MethodName)) ∈ zt := tbl_5 _ (List.mem_of_getElem? (i := 237) (by rfl)) rfl
theorem tb_1198 : (Jvm.Cond.selects "ChordHerdsModel" ({ cls := "ChordHerdsModel", name := "feed", desc := "(IIIII)I" } : Jvm.MethodName) ({ cls := "ChordHerdsModel", name := "feed", desc := "(IIIII)I" } : Jvm.MethodName)) ∈ zt := tbl_5 _ (List.mem_of_getElem? (i := 238) (by rfl)) rfl
theorem tb_1199 : (Jvm.Cond.code ({ cls := "ChordHerdsModel", name := "feed", desc := "(IIIII)I" } : Jvm.MethodName) prog_13_method_2_code (6 : Nat) (Option.some Jvm.ClassFile.FieldType.int)) ∈ zt := tbl_5 _ (List.mem_of_getElem? (i := 239) (by rfl)) rfl
theorem tb_1200 : (Jvm.Cond.methodLink "ChordHerdsModel" (106 : Nat) ({ cls := "ChordHerdsModel", name := "four", desc := "(I)V" } : Jvm.MethodName)) ∈ zt := tbl_6 _ (List.mem_of_getElem? (i := 0) (by rfl)) rfl
theorem tb_1202 : (Jvm.Cond.instanceMethod ({ cls := "ChordHerdsModel", name := "four", desc := "(I)V" } : Jvm.MethodName)) ∈ zt := tbl_6 _ (List.mem_of_getElem? (i := 2) (by rfl)) rfl
theorem tb_1203 : (Jvm.Cond.code ({ cls := "ChordHerdsModel", name := "four", desc := "(I)V" } : Jvm.MethodName) prog_13_method_3_code (3 : Nat) (Option.none : Option Jvm.ClassFile.FieldType)) ∈ zt := tbl_6 _ (List.mem_of_getElem? (i := 3) (by rfl)) rfl
theorem tb_1204 : (Jvm.Cond.methodLink "ChordHerdsLaw" (22 : Nat) ({ cls := "ChordHerdsModel", name := "end", desc := "(I)I" } : Jvm.MethodName)) ∈ zt := tbl_6 _ (List.mem_of_getElem? (i := 4) (by rfl)) rfl
theorem tb_1205 : (Jvm.Cond.instanceMethod ({ cls := "ChordHerdsModel", name := "end", desc := "(I)I" } : Jvm.MethodName)) ∈ zt := tbl_6 _ (List.mem_of_getElem? (i := 5) (by rfl)) rfl
theorem tb_1206 : (Jvm.Cond.selects "ChordHerdsModel" ({ cls := "ChordHerdsModel", name := "end", desc := "(I)I" } : Jvm.MethodName) ({ cls := "ChordHerdsModel", name := "end", desc := "(I)I" } : Jvm.MethodName)) ∈ zt := tbl_6 _ (List.mem_of_getElem? (i := 6) (by rfl)) rfl
theorem tb_1207 : (Jvm.Cond.code ({ cls := "ChordHerdsModel", name := "end", desc := "(I)I" } : Jvm.MethodName) prog_13_method_4_code (2 : Nat) (Option.some Jvm.ClassFile.FieldType.int)) ∈ zt := tbl_6 _ (List.mem_of_getElem? (i := 7) (by rfl)) rfl
theorem tb_1208 : (Jvm.Cond.methodLink "ChordHerdsLaw" (27 : Nat) ({ cls := "ChordHerdsModel", name := "valley", desc := "()I" } : Jvm.MethodName)) ∈ zt := tbl_6 _ (List.mem_of_getElem? (i := 8) (by rfl)) rfl
theorem tb_1209 : (Jvm.Cond.instanceMethod ({ cls := "ChordHerdsModel", name := "valley", desc := "()I" } : Jvm.MethodName)) ∈ zt := tbl_6 _ (List.mem_of_getElem? (i := 9) (by rfl)) rfl
theorem tb_1210 : (Jvm.Cond.selects "ChordHerdsModel" ({ cls := "ChordHerdsModel", name := "valley", desc := "()I" } : Jvm.MethodName) ({ cls := "ChordHerdsModel", name := "valley", desc := "()I" } : Jvm.MethodName)) ∈ zt := tbl_6 _ (List.mem_of_getElem? (i := 10) (by rfl)) rfl
theorem tb_1211 : (Jvm.Cond.code ({ cls := "ChordHerdsModel", name := "valley", desc := "()I" } : Jvm.MethodName) prog_13_method_26_code (2 : Nat) (Option.some Jvm.ClassFile.FieldType.int)) ∈ zt := tbl_6 _ (List.mem_of_getElem? (i := 11) (by rfl)) rfl
theorem tb_1212 : (Jvm.Cond.methodLink "ChordHerdsModel" (237 : Nat) ({ cls := "ChordHerdsModel", name := "readAll", desc := "()V" } : Jvm.MethodName)) ∈ zt := tbl_6 _ (List.mem_of_getElem? (i := 12) (by rfl)) rfl
theorem tb_1214 : (Jvm.Cond.instanceMethod ({ cls := "ChordHerdsModel", name := "readAll", desc := "()V" } : Jvm.MethodName)) ∈ zt := tbl_6 _ (List.mem_of_getElem? (i := 14) (by rfl)) rfl
theorem tb_1215 : (Jvm.Cond.code ({ cls := "ChordHerdsModel", name := "readAll", desc := "()V" } : Jvm.MethodName) prog_13_method_25_code (1 : Nat) (Option.none : Option Jvm.ClassFile.FieldType)) ∈ zt := tbl_6 _ (List.mem_of_getElem? (i := 15) (by rfl)) rfl
theorem tb_1216 : (Jvm.Cond.methodLink "ChordHerdsModel" (168 : Nat) ({ cls := "ChordHerdsModel", name := "token", desc := "()V" } : Jvm.MethodName)) ∈ zt := tbl_6 _ (List.mem_of_getElem? (i := 16) (by rfl)) rfl
theorem tb_1218 : (Jvm.Cond.instanceMethod ({ cls := "ChordHerdsModel", name := "token", desc := "()V" } : Jvm.MethodName)) ∈ zt := tbl_6 _ (List.mem_of_getElem? (i := 18) (by rfl)) rfl
theorem tb_1219 : (Jvm.Cond.code ({ cls := "ChordHerdsModel", name := "token", desc := "()V" } : Jvm.MethodName) prog_13_method_8_code (3 : Nat) (Option.none : Option Jvm.ClassFile.FieldType)) ∈ zt := tbl_6 _ (List.mem_of_getElem? (i := 19) (by rfl)) rfl
theorem tb_1220 : (Jvm.Cond.methodLink "ChordHerdsModel" (116 : Nat) ({ cls := "ChordHerdsModel", name := "here", desc := "(I)I" } : Jvm.MethodName)) ∈ zt := tbl_6 _ (List.mem_of_getElem? (i := 20) (by rfl)) rfl
theorem tb_1222 : (Jvm.Cond.instanceMethod ({ cls := "ChordHerdsModel", name := "here", desc := "(I)I" } : Jvm.MethodName)) ∈ zt := tbl_6 _ (List.mem_of_getElem? (i := 22) (by rfl)) rfl
theorem tb_1223 : (Jvm.Cond.code ({ cls := "ChordHerdsModel", name := "here", desc := "(I)I" } : Jvm.MethodName) prog_13_method_5_code (2 : Nat) (Option.some Jvm.ClassFile.FieldType.int)) ∈ zt := tbl_6 _ (List.mem_of_getElem? (i := 23) (by rfl)) rfl
theorem tb_1224 : (Jvm.Cond.methodLink "ChordHerdsModel" (133 : Nat) ({ cls := "ChordHerdsModel", name := "isLetter", desc := "(I)Z" } : Jvm.MethodName)) ∈ zt := tbl_6 _ (List.mem_of_getElem? (i := 24) (by rfl)) rfl
theorem tb_1225 : (Jvm.Cond.static ({ cls := "ChordHerdsModel", name := "isLetter", desc := "(I)Z" } : Jvm.MethodName)) ∈ zt := tbl_6 _ (List.mem_of_getElem? (i := 25) (by rfl)) rfl
theorem tb_1226 : (Jvm.Cond.code ({ cls := "ChordHerdsModel", name := "isLetter", desc := "(I)Z" } : Jvm.MethodName) prog_13_method_6_code (1 : Nat) (Option.some Jvm.ClassFile.FieldType.boolean)) ∈ zt := tbl_6 _ (List.mem_of_getElem? (i := 26) (by rfl)) rfl
theorem tb_1227 : (Jvm.Cond.methodLink "ChordHerdsModel" (137 : Nat) ({ cls := "ChordHerdsModel", name := "isDigit", desc := "(I)Z" } : Jvm.MethodName)) ∈ zt := tbl_6 _ (List.mem_of_getElem? (i := 27) (by rfl)) rfl
theorem tb_1228 : (Jvm.Cond.static ({ cls := "ChordHerdsModel", name := "isDigit", desc := "(I)Z" } : Jvm.MethodName)) ∈ zt := tbl_6 _ (List.mem_of_getElem? (i := 28) (by rfl)) rfl
theorem tb_1229 : (Jvm.Cond.code ({ cls := "ChordHerdsModel", name := "isDigit", desc := "(I)Z" } : Jvm.MethodName) prog_13_method_7_code (1 : Nat) (Option.some Jvm.ClassFile.FieldType.boolean)) ∈ zt := tbl_6 _ (List.mem_of_getElem? (i := 29) (by rfl)) rfl
theorem tb_1230 : (Jvm.Cond.methodLink "ChordHerdsModel" (234 : Nat) ({ cls := "ChordHerdsModel", name := "readLine", desc := "()V" } : Jvm.MethodName)) ∈ zt := tbl_6 _ (List.mem_of_getElem? (i := 30) (by rfl)) rfl
theorem tb_1232 : (Jvm.Cond.instanceMethod ({ cls := "ChordHerdsModel", name := "readLine", desc := "()V" } : Jvm.MethodName)) ∈ zt := tbl_6 _ (List.mem_of_getElem? (i := 32) (by rfl)) rfl
theorem tb_1233 : (Jvm.Cond.code ({ cls := "ChordHerdsModel", name := "readLine", desc := "()V" } : Jvm.MethodName) prog_13_method_24_code (1 : Nat) (Option.none : Option Jvm.ClassFile.FieldType)) ∈ zt := tbl_6 _ (List.mem_of_getElem? (i := 33) (by rfl)) rfl
theorem tb_1234 : (Jvm.Cond.constantLong "ChordHerdsModel" (143 : Nat) (1751478884 : Int64)) ∈ zt := tbl_6 _ (List.mem_of_getElem? (i := 34) (by rfl)) rfl
theorem tb_1235 : (Jvm.Cond.methodLink "ChordHerdsModel" (161 : Nat) ({ cls := "ChordHerdsModel", name := "isWord", desc := "(J)Z" } : Jvm.MethodName)) ∈ zt := tbl_6 _ (List.mem_of_getElem? (i := 35) (by rfl)) rfl
theorem tb_1237 : (Jvm.Cond.instanceMethod ({ cls := "ChordHerdsModel", name := "isWord", desc := "(J)Z" } : Jvm.MethodName)) ∈ zt := tbl_6 _ (List.mem_of_getElem? (i := 37) (by rfl)) rfl
theorem tb_1238 : (Jvm.Cond.code ({ cls := "ChordHerdsModel", name := "isWord", desc := "(J)Z" } : Jvm.MethodName) prog_13_method_10_code (3 : Nat) (Option.some Jvm.ClassFile.FieldType.boolean)) ∈ zt := tbl_6 _ (List.mem_of_getElem? (i := 38) (by rfl)) rfl
theorem tb_1239 : (Jvm.Cond.methodLink "ChordHerdsModel" (219 : Nat) ({ cls := "ChordHerdsModel", name := "readHerd", desc := "()V" } : Jvm.MethodName)) ∈ zt := tbl_6 _ (List.mem_of_getElem? (i := 39) (by rfl)) rfl
theorem tb_1241 : (Jvm.Cond.instanceMethod ({ cls := "ChordHerdsModel", name := "readHerd", desc := "()V" } : Jvm.MethodName)) ∈ zt := tbl_6 _ (List.mem_of_getElem? (i := 41) (by rfl)) rfl
theorem tb_1242 : (Jvm.Cond.code ({ cls := "ChordHerdsModel", name := "readHerd", desc := "()V" } : Jvm.MethodName) prog_13_method_17_code (1 : Nat) (Option.none : Option Jvm.ClassFile.FieldType)) ∈ zt := tbl_6 _ (List.mem_of_getElem? (i := 42) (by rfl)) rfl
theorem tb_1243 : (Jvm.Cond.methodLink "ChordHerdsModel" (189 : Nat) ({ cls := "ChordHerdsModel", name := "newName", desc := "(II)V" } : Jvm.MethodName)) ∈ zt := tbl_6 _ (List.mem_of_getElem? (i := 43) (by rfl)) rfl
theorem tb_1245 : (Jvm.Cond.instanceMethod ({ cls := "ChordHerdsModel", name := "newName", desc := "(II)V" } : Jvm.MethodName)) ∈ zt := tbl_6 _ (List.mem_of_getElem? (i := 45) (by rfl)) rfl
theorem tb_1246 : (Jvm.Cond.code ({ cls := "ChordHerdsModel", name := "newName", desc := "(II)V" } : Jvm.MethodName) prog_13_method_16_code (3 : Nat) (Option.none : Option Jvm.ClassFile.FieldType)) ∈ zt := tbl_6 _ (List.mem_of_getElem? (i := 46) (by rfl)) rfl
theorem tb_1247 : (Jvm.Cond.methodLink "ChordHerdsModel" (179 : Nat) ({ cls := "ChordHerdsModel", name := "isName", desc := "()Z" } : Jvm.MethodName)) ∈ zt := tbl_6 _ (List.mem_of_getElem? (i := 47) (by rfl)) rfl
theorem tb_1249 : (Jvm.Cond.instanceMethod ({ cls := "ChordHerdsModel", name := "isName", desc := "()Z" } : Jvm.MethodName)) ∈ zt := tbl_6 _ (List.mem_of_getElem? (i := 49) (by rfl)) rfl
theorem tb_1250 : (Jvm.Cond.code ({ cls := "ChordHerdsModel", name := "isName", desc := "()Z" } : Jvm.MethodName) prog_13_method_11_code (1 : Nat) (Option.some Jvm.ClassFile.FieldType.boolean)) ∈ zt := tbl_6 _ (List.mem_of_getElem? (i := 50) (by rfl)) rfl
theorem tb_1251 : (Jvm.Cond.constantLong "ChordHerdsModel" (145 : Nat) (422607680372 : Int64)) ∈ zt := tbl_6 _ (List.mem_of_getElem? (i := 51) (by rfl)) rfl
theorem tb_1252 : (Jvm.Cond.constantLong "ChordHerdsModel" (147 : Nat) (28518 : Int64)) ∈ zt := tbl_6 _ (List.mem_of_getElem? (i := 52) (by rfl)) rfl
theorem tb_1253 : (Jvm.Cond.constantLong "ChordHerdsModel" (149 : Nat) (1650814060 : Int64)) ∈ zt := tbl_6 _ (List.mem_of_getElem? (i := 53) (by rfl)) rfl
theorem tb_1254 : (Jvm.Cond.constantLong "ChordHerdsModel" (151 : Nat) (1819243876 : Int64)) ∈ zt := tbl_6 _ (List.mem_of_getElem? (i := 54) (by rfl)) rfl
theorem tb_1255 : (Jvm.Cond.constantLong "ChordHerdsModel" (153 : Nat) (8319400174449812850 : Int64)) ∈ zt := tbl_6 _ (List.mem_of_getElem? (i := 55) (by rfl)) rfl
theorem tb_1256 : (Jvm.Cond.constantLong "ChordHerdsModel" (155 : Nat) (6644082 : Int64)) ∈ zt := tbl_6 _ (List.mem_of_getElem? (i := 56) (by rfl)) rfl
theorem tb_1257 : (Jvm.Cond.constantLong "ChordHerdsModel" (157 : Nat) (24948 : Int64)) ∈ zt := tbl_6 _ (List.mem_of_getElem? (i := 57) (by rfl)) rfl
theorem tb_1258 : (Jvm.Cond.constantLong "ChordHerdsModel" (159 : Nat) (108187867505765 : Int64)) ∈ zt := tbl_6 _ (List.mem_of_getElem? (i := 58) (by rfl)) rfl
theorem tb_1259 : (Jvm.Cond.methodLink "ChordHerdsModel" (165 : Nat) ({ cls := "ChordHerdsModel", name := "wrong", desc := "(I)V" } : Jvm.MethodName)) ∈ zt := tbl_6 _ (List.mem_of_getElem? (i := 59) (by rfl)) rfl
theorem tb_1261 : (Jvm.Cond.instanceMethod ({ cls := "ChordHerdsModel", name := "wrong", desc := "(I)V" } : Jvm.MethodName)) ∈ zt := tbl_6 _ (List.mem_of_getElem? (i := 61) (by rfl)) rfl
theorem tb_1262 : (Jvm.Cond.code ({ cls := "ChordHerdsModel", name := "wrong", desc := "(I)V" } : Jvm.MethodName) prog_13_method_9_code (2 : Nat) (Option.none : Option Jvm.ClassFile.FieldType)) ∈ zt := tbl_6 _ (List.mem_of_getElem? (i := 62) (by rfl)) rfl
theorem tb_1263 : (Jvm.Cond.methodLink "ChordHerdsModel" (183 : Nat) ({ cls := "ChordHerdsModel", name := "find", desc := "(II)I" } : Jvm.MethodName)) ∈ zt := tbl_6 _ (List.mem_of_getElem? (i := 63) (by rfl)) rfl
theorem tb_1265 : (Jvm.Cond.instanceMethod ({ cls := "ChordHerdsModel", name := "find", desc := "(II)I" } : Jvm.MethodName)) ∈ zt := tbl_6 _ (List.mem_of_getElem? (i := 65) (by rfl)) rfl
theorem tb_1266 : (Jvm.Cond.code ({ cls := "ChordHerdsModel", name := "find", desc := "(II)I" } : Jvm.MethodName) prog_13_method_15_code (5 : Nat) (Option.some Jvm.ClassFile.FieldType.int)) ∈ zt := tbl_6 _ (List.mem_of_getElem? (i := 66) (by rfl)) rfl
theorem tb_1267 : (Jvm.Cond.methodLink "ChordHerdsModel" (222 : Nat) ({ cls := "ChordHerdsModel", name := "readBeast", desc := "()V" } : Jvm.MethodName)) ∈ zt := tbl_6 _ (List.mem_of_getElem? (i := 67) (by rfl)) rfl
theorem tb_1269 : (Jvm.Cond.instanceMethod ({ cls := "ChordHerdsModel", name := "readBeast", desc := "()V" } : Jvm.MethodName)) ∈ zt := tbl_6 _ (List.mem_of_getElem? (i := 69) (by rfl)) rfl
theorem tb_1270 : (Jvm.Cond.code ({ cls := "ChordHerdsModel", name := "readBeast", desc := "()V" } : Jvm.MethodName) prog_13_method_19_code (2 : Nat) (Option.none : Option Jvm.ClassFile.FieldType)) ∈ zt := tbl_6 _ (List.mem_of_getElem? (i := 70) (by rfl)) rfl
theorem tb_1271 : (Jvm.Cond.methodLink "ChordHerdsModel" (171 : Nat) ({ cls := "ChordHerdsModel", name := "want", desc := "(J)V" } : Jvm.MethodName)) ∈ zt := tbl_6 _ (List.mem_of_getElem? (i := 71) (by rfl)) rfl
theorem tb_1273 : (Jvm.Cond.instanceMethod ({ cls := "ChordHerdsModel", name := "want", desc := "(J)V" } : Jvm.MethodName)) ∈ zt := tbl_6 _ (List.mem_of_getElem? (i := 73) (by rfl)) rfl
theorem tb_1274 : (Jvm.Cond.code ({ cls := "ChordHerdsModel", name := "want", desc := "(J)V" } : Jvm.MethodName) prog_13_method_12_code (3 : Nat) (Option.none : Option Jvm.ClassFile.FieldType)) ∈ zt := tbl_6 _ (List.mem_of_getElem? (i := 74) (by rfl)) rfl
theorem tb_1275 : (Jvm.Cond.methodLink "ChordHerdsModel" (200 : Nat) ({ cls := "ChordHerdsModel", name := "readBell", desc := "(I)V" } : Jvm.MethodName)) ∈ zt := tbl_6 _ (List.mem_of_getElem? (i := 75) (by rfl)) rfl
theorem tb_1277 : (Jvm.Cond.instanceMethod ({ cls := "ChordHerdsModel", name := "readBell", desc := "(I)V" } : Jvm.MethodName)) ∈ zt := tbl_6 _ (List.mem_of_getElem? (i := 77) (by rfl)) rfl
theorem tb_1278 : (Jvm.Cond.code ({ cls := "ChordHerdsModel", name := "readBell", desc := "(I)V" } : Jvm.MethodName) prog_13_method_18_code (2 : Nat) (Option.none : Option Jvm.ClassFile.FieldType)) ∈ zt := tbl_6 _ (List.mem_of_getElem? (i := 78) (by rfl)) rfl
theorem tb_1279 : (Jvm.Cond.methodLink "ChordHerdsModel" (196 : Nat) ({ cls := "ChordHerdsModel", name := "told", desc := "(JII)I" } : Jvm.MethodName)) ∈ zt := tbl_6 _ (List.mem_of_getElem? (i := 79) (by rfl)) rfl
theorem tb_1281 : (Jvm.Cond.instanceMethod ({ cls := "ChordHerdsModel", name := "told", desc := "(JII)I" } : Jvm.MethodName)) ∈ zt := tbl_6 _ (List.mem_of_getElem? (i := 81) (by rfl)) rfl
theorem tb_1282 : (Jvm.Cond.code ({ cls := "ChordHerdsModel", name := "told", desc := "(JII)I" } : Jvm.MethodName) prog_13_method_14_code (5 : Nat) (Option.some Jvm.ClassFile.FieldType.int)) ∈ zt := tbl_6 _ (List.mem_of_getElem? (i := 82) (by rfl)) rfl
theorem tb_1283 : (Jvm.Cond.methodLink "ChordHerdsModel" (175 : Nat) ({ cls := "ChordHerdsModel", name := "toldNumber", desc := "(II)I" } : Jvm.MethodName)) ∈ zt := tbl_6 _ (List.mem_of_getElem? (i := 83) (by rfl)) rfl
theorem tb_1285 : (Jvm.Cond.instanceMethod ({ cls := "ChordHerdsModel", name := "toldNumber", desc := "(II)I" } : Jvm.MethodName)) ∈ zt := tbl_6 _ (List.mem_of_getElem? (i := 85) (by rfl)) rfl
theorem tb_1286 : (Jvm.Cond.code ({ cls := "ChordHerdsModel", name := "toldNumber", desc := "(II)I" } : Jvm.MethodName) prog_13_method_13_code (4 : Nat) (Option.some Jvm.ClassFile.FieldType.int)) ∈ zt := tbl_6 _ (List.mem_of_getElem? (i := 86) (by rfl)) rfl
theorem tb_1287 : (Jvm.Cond.methodLink "ChordHerdsModel" (225 : Nat) ({ cls := "ChordHerdsModel", name := "readStranger", desc := "()V" } : Jvm.MethodName)) ∈ zt := tbl_6 _ (List.mem_of_getElem? (i := 87) (by rfl)) rfl
theorem tb_1289 : (Jvm.Cond.instanceMethod ({ cls := "ChordHerdsModel", name := "readStranger", desc := "()V" } : Jvm.MethodName)) ∈ zt := tbl_6 _ (List.mem_of_getElem? (i := 89) (by rfl)) rfl
theorem tb_1290 : (Jvm.Cond.code ({ cls := "ChordHerdsModel", name := "readStranger", desc := "()V" } : Jvm.MethodName) prog_13_method_20_code (1 : Nat) (Option.none : Option Jvm.ClassFile.FieldType)) ∈ zt := tbl_6 _ (List.mem_of_getElem? (i := 90) (by rfl)) rfl
theorem tb_1291 : (Jvm.Cond.methodLink "ChordHerdsModel" (228 : Nat) ({ cls := "ChordHerdsModel", name := "readEar", desc := "()V" } : Jvm.MethodName)) ∈ zt := tbl_6 _ (List.mem_of_getElem? (i := 91) (by rfl)) rfl
theorem tb_1293 : (Jvm.Cond.instanceMethod ({ cls := "ChordHerdsModel", name := "readEar", desc := "()V" } : Jvm.MethodName)) ∈ zt := tbl_6 _ (List.mem_of_getElem? (i := 93) (by rfl)) rfl
theorem tb_1294 : (Jvm.Cond.code ({ cls := "ChordHerdsModel", name := "readEar", desc := "()V" } : Jvm.MethodName) prog_13_method_21_code (1 : Nat) (Option.none : Option Jvm.ClassFile.FieldType)) ∈ zt := tbl_6 _ (List.mem_of_getElem? (i := 94) (by rfl)) rfl
theorem tb_1295 : (Jvm.Cond.methodLink "ChordHerdsModel" (231 : Nat) ({ cls := "ChordHerdsModel", name := "readBeside", desc := "()V" } : Jvm.MethodName)) ∈ zt := tbl_6 _ (List.mem_of_getElem? (i := 95) (by rfl)) rfl
theorem tb_1297 : (Jvm.Cond.instanceMethod ({ cls := "ChordHerdsModel", name := "readBeside", desc := "()V" } : Jvm.MethodName)) ∈ zt := tbl_6 _ (List.mem_of_getElem? (i := 97) (by rfl)) rfl
theorem tb_1298 : (Jvm.Cond.code ({ cls := "ChordHerdsModel", name := "readBeside", desc := "()V" } : Jvm.MethodName) prog_13_method_23_code (3 : Nat) (Option.none : Option Jvm.ClassFile.FieldType)) ∈ zt := tbl_6 _ (List.mem_of_getElem? (i := 98) (by rfl)) rfl
theorem tb_1299 : (Jvm.Cond.methodLink "ChordHerdsModel" (212 : Nat) ({ cls := "ChordHerdsModel", name := "old", desc := "()I" } : Jvm.MethodName)) ∈ zt := tbl_6 _ (List.mem_of_getElem? (i := 99) (by rfl)) rfl
theorem tb_1301 : (Jvm.Cond.instanceMethod ({ cls := "ChordHerdsModel", name := "old", desc := "()I" } : Jvm.MethodName)) ∈ zt := tbl_6 _ (List.mem_of_getElem? (i := 101) (by rfl)) rfl
theorem tb_1302 : (Jvm.Cond.code ({ cls := "ChordHerdsModel", name := "old", desc := "()I" } : Jvm.MethodName) prog_13_method_22_code (2 : Nat) (Option.some Jvm.ClassFile.FieldType.int)) ∈ zt := tbl_6 _ (List.mem_of_getElem? (i := 102) (by rfl)) rfl
theorem tb_1303 : (Jvm.Cond.methodLink "ChordHerdsModel" (255 : Nat) ({ cls := "ChordHerdsModel", name := "beastSet", desc := "()I" } : Jvm.MethodName)) ∈ zt := tbl_6 _ (List.mem_of_getElem? (i := 103) (by rfl)) rfl
theorem tb_1305 : (Jvm.Cond.instanceMethod ({ cls := "ChordHerdsModel", name := "beastSet", desc := "()I" } : Jvm.MethodName)) ∈ zt := tbl_6 _ (List.mem_of_getElem? (i := 105) (by rfl)) rfl
theorem tb_1306 : (Jvm.Cond.code ({ cls := "ChordHerdsModel", name := "beastSet", desc := "()I" } : Jvm.MethodName) prog_13_method_32_code (3 : Nat) (Option.some Jvm.ClassFile.FieldType.int)) ∈ zt := tbl_6 _ (List.mem_of_getElem? (i := 106) (by rfl)) rfl
theorem tb_1307 : (Jvm.Cond.methodLink "ChordHerdsLaw" (31 : Nat) ({ cls := "ChordHerdsModel", name := "fault", desc := "(I)I" } : Jvm.MethodName)) ∈ zt := tbl_6 _ (List.mem_of_getElem? (i := 107) (by rfl)) rfl
theorem tb_1308 : (Jvm.Cond.instanceMethod ({ cls := "ChordHerdsModel", name := "fault", desc := "(I)I" } : Jvm.MethodName)) ∈ zt := tbl_6 _ (List.mem_of_getElem? (i := 108) (by rfl)) rfl
theorem tb_1309 : (Jvm.Cond.selects "ChordHerdsModel" ({ cls := "ChordHerdsModel", name := "fault", desc := "(I)I" } : Jvm.MethodName) ({ cls := "ChordHerdsModel", name := "fault", desc := "(I)I" } : Jvm.MethodName)) ∈ zt := tbl_6 _ (List.mem_of_getElem? (i := 109) (by rfl)) rfl
theorem tb_1310 : (Jvm.Cond.code ({ cls := "ChordHerdsModel", name := "fault", desc := "(I)I" } : Jvm.MethodName) prog_13_method_27_code (2 : Nat) (Option.some Jvm.ClassFile.FieldType.int)) ∈ zt := tbl_6 _ (List.mem_of_getElem? (i := 110) (by rfl)) rfl
theorem tb_1311 : (Jvm.Cond.methodLink "ChordHerdsLaw" (36 : Nat) ({ cls := "ChordHerdsModel", name := "bell", desc := "(II)I" } : Jvm.MethodName)) ∈ zt := tbl_6 _ (List.mem_of_getElem? (i := 111) (by rfl)) rfl
theorem tb_1312 : (Jvm.Cond.instanceMethod ({ cls := "ChordHerdsModel", name := "bell", desc := "(II)I" } : Jvm.MethodName)) ∈ zt := tbl_6 _ (List.mem_of_getElem? (i := 112) (by rfl)) rfl
theorem tb_1313 : (Jvm.Cond.selects "ChordHerdsModel" ({ cls := "ChordHerdsModel", name := "bell", desc := "(II)I" } : Jvm.MethodName) ({ cls := "ChordHerdsModel", name := "bell", desc := "(II)I" } : Jvm.MethodName)) ∈ zt := tbl_6 _ (List.mem_of_getElem? (i := 113) (by rfl)) rfl
theorem tb_1314 : (Jvm.Cond.code ({ cls := "ChordHerdsModel", name := "bell", desc := "(II)I" } : Jvm.MethodName) prog_13_method_36_code (3 : Nat) (Option.some Jvm.ClassFile.FieldType.int)) ∈ zt := tbl_6 _ (List.mem_of_getElem? (i := 114) (by rfl)) rfl
theorem tb_1315 : (Jvm.Cond.methodLink "ChordHerdsModel" (287 : Nat) ({ cls := "ChordHerdsModel", name := "isBell", desc := "(I)Z" } : Jvm.MethodName)) ∈ zt := tbl_6 _ (List.mem_of_getElem? (i := 115) (by rfl)) rfl
theorem tb_1317 : (Jvm.Cond.instanceMethod ({ cls := "ChordHerdsModel", name := "isBell", desc := "(I)Z" } : Jvm.MethodName)) ∈ zt := tbl_6 _ (List.mem_of_getElem? (i := 117) (by rfl)) rfl
theorem tb_1318 : (Jvm.Cond.code ({ cls := "ChordHerdsModel", name := "isBell", desc := "(I)Z" } : Jvm.MethodName) prog_13_method_29_code (2 : Nat) (Option.some Jvm.ClassFile.FieldType.boolean)) ∈ zt := tbl_6 _ (List.mem_of_getElem? (i := 118) (by rfl)) rfl
theorem tb_1319 : (Jvm.Cond.methodLink "ChordHerdsModel" (283 : Nat) ({ cls := "ChordHerdsModel", name := "isIn", desc := "(III)Z" } : Jvm.MethodName)) ∈ zt := tbl_6 _ (List.mem_of_getElem? (i := 119) (by rfl)) rfl
theorem tb_1320 : (Jvm.Cond.static ({ cls := "ChordHerdsModel", name := "isIn", desc := "(III)Z" } : Jvm.MethodName)) ∈ zt := tbl_6 _ (List.mem_of_getElem? (i := 120) (by rfl)) rfl
theorem tb_1321 : (Jvm.Cond.code ({ cls := "ChordHerdsModel", name := "isIn", desc := "(III)Z" } : Jvm.MethodName) prog_13_method_28_code (3 : Nat) (Option.some Jvm.ClassFile.FieldType.boolean)) ∈ zt := tbl_6 _ (List.mem_of_getElem? (i := 121) (by rfl)) rfl
theorem tb_1322 : (Jvm.Cond.methodLink "ChordHerdsModel" (293 : Nat) ({ cls := "ChordHerdsModel", name := "toneNow", desc := "(I)I" } : Jvm.MethodName)) ∈ zt := tbl_6 _ (List.mem_of_getElem? (i := 122) (by rfl)) rfl
theorem tb_1324 : (Jvm.Cond.instanceMethod ({ cls := "ChordHerdsModel", name := "toneNow", desc := "(I)I" } : Jvm.MethodName)) ∈ zt := tbl_6 _ (List.mem_of_getElem? (i := 124) (by rfl)) rfl
theorem tb_1325 : (Jvm.Cond.code ({ cls := "ChordHerdsModel", name := "toneNow", desc := "(I)I" } : Jvm.MethodName) prog_13_method_34_code (2 : Nat) (Option.some Jvm.ClassFile.FieldType.int)) ∈ zt := tbl_6 _ (List.mem_of_getElem? (i := 125) (by rfl)) rfl
theorem tb_1326 : (Jvm.Cond.methodLink "ChordHerdsModel" (290 : Nat) ({ cls := "ChordHerdsModel", name := "modulo", desc := "(I)I" } : Jvm.MethodName)) ∈ zt := tbl_6 _ (List.mem_of_getElem? (i := 126) (by rfl)) rfl
theorem tb_1327 : (Jvm.Cond.static ({ cls := "ChordHerdsModel", name := "modulo", desc := "(I)I" } : Jvm.MethodName)) ∈ zt := tbl_6 _ (List.mem_of_getElem? (i := 127) (by rfl)) rfl
theorem tb_1328 : (Jvm.Cond.code ({ cls := "ChordHerdsModel", name := "modulo", desc := "(I)I" } : Jvm.MethodName) prog_13_method_33_code (1 : Nat) (Option.some Jvm.ClassFile.FieldType.int)) ∈ zt := tbl_6 _ (List.mem_of_getElem? (i := 128) (by rfl)) rfl
theorem tb_1329 : (Jvm.Cond.methodLink "ChordHerdsLaw" (40 : Nat) ({ cls := "ChordHerdsModel", name := "hear", desc := "(II)I" } : Jvm.MethodName)) ∈ zt := tbl_6 _ (List.mem_of_getElem? (i := 129) (by rfl)) rfl
theorem tb_1330 : (Jvm.Cond.instanceMethod ({ cls := "ChordHerdsModel", name := "hear", desc := "(II)I" } : Jvm.MethodName)) ∈ zt := tbl_6 _ (List.mem_of_getElem? (i := 130) (by rfl)) rfl
theorem tb_1331 : (Jvm.Cond.selects "ChordHerdsModel" ({ cls := "ChordHerdsModel", name := "hear", desc := "(II)I" } : Jvm.MethodName) ({ cls := "ChordHerdsModel", name := "hear", desc := "(II)I" } : Jvm.MethodName)) ∈ zt := tbl_6 _ (List.mem_of_getElem? (i := 131) (by rfl)) rfl
theorem tb_1332 : (Jvm.Cond.code ({ cls := "ChordHerdsModel", name := "hear", desc := "(II)I" } : Jvm.MethodName) prog_13_method_39_code (3 : Nat) (Option.some Jvm.ClassFile.FieldType.int)) ∈ zt := tbl_6 _ (List.mem_of_getElem? (i := 132) (by rfl)) rfl
theorem tb_1333 : (Jvm.Cond.methodLink "ChordHerdsModel" (300 : Nat) ({ cls := "ChordHerdsModel", name := "isEar", desc := "(I)Z" } : Jvm.MethodName)) ∈ zt := tbl_6 _ (List.mem_of_getElem? (i := 133) (by rfl)) rfl
theorem tb_1335 : (Jvm.Cond.instanceMethod ({ cls := "ChordHerdsModel", name := "isEar", desc := "(I)Z" } : Jvm.MethodName)) ∈ zt := tbl_6 _ (List.mem_of_getElem? (i := 135) (by rfl)) rfl
theorem tb_1336 : (Jvm.Cond.code ({ cls := "ChordHerdsModel", name := "isEar", desc := "(I)Z" } : Jvm.MethodName) prog_13_method_30_code (2 : Nat) (Option.some Jvm.ClassFile.FieldType.boolean)) ∈ zt := tbl_6 _ (List.mem_of_getElem? (i := 136) (by rfl)) rfl
theorem tb_1337 : (Jvm.Cond.methodLink "ChordHerdsModel" (303 : Nat) ({ cls := "ChordHerdsModel", name := "isTone", desc := "(I)Z" } : Jvm.MethodName)) ∈ zt := tbl_6 _ (List.mem_of_getElem? (i := 137) (by rfl)) rfl
theorem tb_1338 : (Jvm.Cond.static ({ cls := "ChordHerdsModel", name := "isTone", desc := "(I)Z" } : Jvm.MethodName)) ∈ zt := tbl_6 _ (List.mem_of_getElem? (i := 138) (by rfl)) rfl
theorem tb_1339 : (Jvm.Cond.code ({ cls := "ChordHerdsModel", name := "isTone", desc := "(I)Z" } : Jvm.MethodName) prog_13_method_38_code (1 : Nat) (Option.some Jvm.ClassFile.FieldType.boolean)) ∈ zt := tbl_6 _ (List.mem_of_getElem? (i := 139) (by rfl)) rfl
theorem tb_1340 : (Jvm.Cond.methodLink "ChordHerdsModel" (306 : Nat) ({ cls := "ChordHerdsModel", name := "heard", desc := "(II)I" } : Jvm.MethodName)) ∈ zt := tbl_6 _ (List.mem_of_getElem? (i := 140) (by rfl)) rfl
theorem tb_1342 : (Jvm.Cond.instanceMethod ({ cls := "ChordHerdsModel", name := "heard", desc := "(II)I" } : Jvm.MethodName)) ∈ zt := tbl_6 _ (List.mem_of_getElem? (i := 142) (by rfl)) rfl
theorem tb_1343 : (Jvm.Cond.code ({ cls := "ChordHerdsModel", name := "heard", desc := "(II)I" } : Jvm.MethodName) prog_13_method_37_code (5 : Nat) (Option.some Jvm.ClassFile.FieldType.int)) ∈ zt := tbl_6 _ (List.mem_of_getElem? (i := 143) (by rfl)) rfl
theorem tb_1344 : (Jvm.Cond.methodLink "ChordHerdsModel" (296 : Nat) ({ cls := "ChordHerdsModel", name := "loudAt", desc := "(IIII)I" } : Jvm.MethodName)) ∈ zt := tbl_6 _ (List.mem_of_getElem? (i := 144) (by rfl)) rfl
theorem tb_1346 : (Jvm.Cond.instanceMethod ({ cls := "ChordHerdsModel", name := "loudAt", desc := "(IIII)I" } : Jvm.MethodName)) ∈ zt := tbl_6 _ (List.mem_of_getElem? (i := 146) (by rfl)) rfl
theorem tb_1347 : (Jvm.Cond.code ({ cls := "ChordHerdsModel", name := "loudAt", desc := "(IIII)I" } : Jvm.MethodName) prog_13_method_35_code (7 : Nat) (Option.some Jvm.ClassFile.FieldType.int)) ∈ zt := tbl_6 _ (List.mem_of_getElem? (i := 147) (by rfl)) rfl
theorem tb_1348 : (Jvm.Cond.methodLink "ChordHerdsLaw" (44 : Nat) ({ cls := "ChordHerdsModel", name := "chord", desc := "(I)I" } : Jvm.MethodName)) ∈ zt := tbl_6 _ (List.mem_of_getElem? (i := 148) (by rfl)) rfl
theorem tb_1349 : (Jvm.Cond.instanceMethod ({ cls := "ChordHerdsModel", name := "chord", desc := "(I)I" } : Jvm.MethodName)) ∈ zt := tbl_6 _ (List.mem_of_getElem? (i := 149) (by rfl)) rfl
theorem tb_1350 : (Jvm.Cond.selects "ChordHerdsModel" ({ cls := "ChordHerdsModel", name := "chord", desc := "(I)I" } : Jvm.MethodName) ({ cls := "ChordHerdsModel", name := "chord", desc := "(I)I" } : Jvm.MethodName)) ∈ zt := tbl_6 _ (List.mem_of_getElem? (i := 150) (by rfl)) rfl
theorem tb_1351 : (Jvm.Cond.code ({ cls := "ChordHerdsModel", name := "chord", desc := "(I)I" } : Jvm.MethodName) prog_13_method_40_code (4 : Nat) (Option.some Jvm.ClassFile.FieldType.int)) ∈ zt := tbl_6 _ (List.mem_of_getElem? (i := 151) (by rfl)) rfl
theorem tb_1352 : (Jvm.Cond.methodLink "ChordHerdsLaw" (49 : Nat) ({ cls := "ChordHerdsModel", name := "comes", desc := "(IZ)Z" } : Jvm.MethodName)) ∈ zt := tbl_6 _ (List.mem_of_getElem? (i := 152) (by rfl)) rfl
theorem tb_1353 : (Jvm.Cond.instanceMethod ({ cls := "ChordHerdsModel", name := "comes", desc := "(IZ)Z" } : Jvm.MethodName)) ∈ zt := tbl_6 _ (List.mem_of_getElem? (i := 153) (by rfl)) rfl
theorem tb_1354 : (Jvm.Cond.selects "ChordHerdsModel" ({ cls := "ChordHerdsModel", name := "comes", desc := "(IZ)Z" } : Jvm.MethodName) ({ cls := "ChordHerdsModel", name := "comes", desc := "(IZ)Z" } : Jvm.MethodName)) ∈ zt := tbl_6 _ (List.mem_of_getElem? (i := 154) (by rfl)) rfl
theorem tb_1355 : (Jvm.Cond.code ({ cls := "ChordHerdsModel", name := "comes", desc := "(IZ)Z" } : Jvm.MethodName) prog_13_method_41_code (3 : Nat) (Option.some Jvm.ClassFile.FieldType.boolean)) ∈ zt := tbl_6 _ (List.mem_of_getElem? (i := 155) (by rfl)) rfl
theorem tb_1356 : (Jvm.Cond.methodLink "ChordHerdsLaw" (53 : Nat) ({ cls := "ChordHerdsModel", name := "stand", desc := "(IZ)Z" } : Jvm.MethodName)) ∈ zt := tbl_6 _ (List.mem_of_getElem? (i := 156) (by rfl)) rfl
theorem tb_1357 : (Jvm.Cond.instanceMethod ({ cls := "ChordHerdsModel", name := "stand", desc := "(IZ)Z" } : Jvm.MethodName)) ∈ zt := tbl_6 _ (List.mem_of_getElem? (i := 157) (by rfl)) rfl
theorem tb_1358 : (Jvm.Cond.selects "ChordHerdsModel" ({ cls := "ChordHerdsModel", name := "stand", desc := "(IZ)Z" } : Jvm.MethodName) ({ cls := "ChordHerdsModel", name := "stand", desc := "(IZ)Z" } : Jvm.MethodName)) ∈ zt := tbl_6 _ (List.mem_of_getElem? (i := 158) (by rfl)) rfl
theorem tb_1359 : (Jvm.Cond.code ({ cls := "ChordHerdsModel", name := "stand", desc := "(IZ)Z" } : Jvm.MethodName) prog_13_method_42_code (3 : Nat) (Option.some Jvm.ClassFile.FieldType.boolean)) ∈ zt := tbl_6 _ (List.mem_of_getElem? (i := 159) (by rfl)) rfl
theorem tb_1360 : (Jvm.Cond.methodLink "ChordHerdsLaw" (57 : Nat) ({ cls := "ChordHerdsModel", name := "walk", desc := "(II)I" } : Jvm.MethodName)) ∈ zt := tbl_6 _ (List.mem_of_getElem? (i := 160) (by rfl)) rfl
theorem tb_1361 : (Jvm.Cond.instanceMethod ({ cls := "ChordHerdsModel", name := "walk", desc := "(II)I" } : Jvm.MethodName)) ∈ zt := tbl_6 _ (List.mem_of_getElem? (i := 161) (by rfl)) rfl
theorem tb_1362 : (Jvm.Cond.selects "ChordHerdsModel" ({ cls := "ChordHerdsModel", name := "walk", desc := "(II)I" } : Jvm.MethodName) ({ cls := "ChordHerdsModel", name := "walk", desc := "(II)I" } : Jvm.MethodName)) ∈ zt := tbl_6 _ (List.mem_of_getElem? (i := 162) (by rfl)) rfl
theorem tb_1363 : (Jvm.Cond.code ({ cls := "ChordHerdsModel", name := "walk", desc := "(II)I" } : Jvm.MethodName) prog_13_method_45_code (4 : Nat) (Option.some Jvm.ClassFile.FieldType.int)) ∈ zt := tbl_6 _ (List.mem_of_getElem? (i := 163) (by rfl)) rfl
theorem tb_1364 : (Jvm.Cond.methodLink "ChordHerdsModel" (309 : Nat) ({ cls := "ChordHerdsModel", name := "isPlace", desc := "(I)Z" } : Jvm.MethodName)) ∈ zt := tbl_6 _ (List.mem_of_getElem? (i := 164) (by rfl)) rfl
theorem tb_1365 : (Jvm.Cond.static ({ cls := "ChordHerdsModel", name := "isPlace", desc := "(I)Z" } : Jvm.MethodName)) ∈ zt := tbl_6 _ (List.mem_of_getElem? (i := 165) (by rfl)) rfl
theorem tb_1366 : (Jvm.Cond.code ({ cls := "ChordHerdsModel", name := "isPlace", desc := "(I)Z" } : Jvm.MethodName) prog_13_method_43_code (1 : Nat) (Option.some Jvm.ClassFile.FieldType.boolean)) ∈ zt := tbl_6 _ (List.mem_of_getElem? (i := 166) (by rfl)) rfl
theorem tb_1367 : (Jvm.Cond.methodLink "ChordHerdsModel" (312 : Nat) ({ cls := "ChordHerdsModel", name := "isWind", desc := "(I)Z" } : Jvm.MethodName)) ∈ zt := tbl_6 _ (List.mem_of_getElem? (i := 167) (by rfl)) rfl
theorem tb_1368 : (Jvm.Cond.static ({ cls := "ChordHerdsModel", name := "isWind", desc := "(I)Z" } : Jvm.MethodName)) ∈ zt := tbl_6 _ (List.mem_of_getElem? (i := 168) (by rfl)) rfl
theorem tb_1369 : (Jvm.Cond.code ({ cls := "ChordHerdsModel", name := "isWind", desc := "(I)Z" } : Jvm.MethodName) prog_13_method_44_code (1 : Nat) (Option.some Jvm.ClassFile.FieldType.boolean)) ∈ zt := tbl_6 _ (List.mem_of_getElem? (i := 169) (by rfl)) rfl
theorem tb_1370 : (Jvm.Cond.methodLink "ChordHerdsLaw" (61 : Nat) ({ cls := "ChordHerdsModel", name := "crack", desc := "(II)I" } : Jvm.MethodName)) ∈ zt := tbl_6 _ (List.mem_of_getElem? (i := 170) (by rfl)) rfl
theorem tb_1371 : (Jvm.Cond.instanceMethod ({ cls := "ChordHerdsModel", name := "crack", desc := "(II)I" } : Jvm.MethodName)) ∈ zt := tbl_6 _ (List.mem_of_getElem? (i := 171) (by rfl)) rfl
theorem tb_1372 : (Jvm.Cond.selects "ChordHerdsModel" ({ cls := "ChordHerdsModel", name := "crack", desc := "(II)I" } : Jvm.MethodName) ({ cls := "ChordHerdsModel", name := "crack", desc := "(II)I" } : Jvm.MethodName)) ∈ zt := tbl_6 _ (List.mem_of_getElem? (i := 172) (by rfl)) rfl
theorem tb_1373 : (Jvm.Cond.code ({ cls := "ChordHerdsModel", name := "crack", desc := "(II)I" } : Jvm.MethodName) prog_13_method_46_code (4 : Nat) (Option.some Jvm.ClassFile.FieldType.int)) ∈ zt := tbl_6 _ (List.mem_of_getElem? (i := 173) (by rfl)) rfl
theorem tb_1374 : (Jvm.Cond.methodLink "ChordHerdsLaw" (65 : Nat) ({ cls := "ChordHerdsModel", name := "years", desc := "(I)I" } : Jvm.MethodName)) ∈ zt := tbl_6 _ (List.mem_of_getElem? (i := 174) (by rfl)) rfl
theorem tb_1375 : (Jvm.Cond.instanceMethod ({ cls := "ChordHerdsModel", name := "years", desc := "(I)I" } : Jvm.MethodName)) ∈ zt := tbl_6 _ (List.mem_of_getElem? (i := 175) (by rfl)) rfl
theorem tb_1376 : (Jvm.Cond.selects "ChordHerdsModel" ({ cls := "ChordHerdsModel", name := "years", desc := "(I)I" } : Jvm.MethodName) ({ cls := "ChordHerdsModel", name := "years", desc := "(I)I" } : Jvm.MethodName)) ∈ zt := tbl_6 _ (List.mem_of_getElem? (i := 176) (by rfl)) rfl
theorem tb_1377 : (Jvm.Cond.code ({ cls := "ChordHerdsModel", name := "years", desc := "(I)I" } : Jvm.MethodName) prog_13_method_47_code (2 : Nat) (Option.some Jvm.ClassFile.FieldType.int)) ∈ zt := tbl_6 _ (List.mem_of_getElem? (i := 177) (by rfl)) rfl
theorem tb_1378 : (Jvm.Cond.methodLink "ChordHerdsLaw" (69 : Nat) ({ cls := "ChordHerdsModel", name := "sound", desc := "(IIIII)I" } : Jvm.MethodName)) ∈ zt := tbl_6 _ (List.mem_of_getElem? (i := 178) (by rfl)) rfl
theorem tb_1379 : (Jvm.Cond.instanceMethod ({ cls := "ChordHerdsModel", name := "sound", desc := "(IIIII)I" } : Jvm.MethodName)) ∈ zt := tbl_6 _ (List.mem_of_getElem? (i := 179) (by rfl)) rfl
theorem tb_1380 : (Jvm.Cond.selects "ChordHerdsModel" ({ cls := "ChordHerdsModel", name := "sound", desc := "(IIIII)I" } : Jvm.MethodName) ({ cls := "ChordHerdsModel", name := "sound", desc := "(IIIII)I" } : Jvm.MethodName)) ∈ zt := tbl_6 _ (List.mem_of_getElem? (i := 180) (by rfl)) rfl
theorem tb_1381 : (Jvm.Cond.code ({ cls := "ChordHerdsModel", name := "sound", desc := "(IIIII)I" } : Jvm.MethodName) prog_13_method_50_code (6 : Nat) (Option.some Jvm.ClassFile.FieldType.int)) ∈ zt := tbl_6 _ (List.mem_of_getElem? (i := 181) (by rfl)) rfl
theorem tb_1382 : (Jvm.Cond.methodLink "ChordHerdsModel" (318 : Nat) ({ cls := "ChordHerdsModel", name := "isQuarter", desc := "(I)Z" } : Jvm.MethodName)) ∈ zt := tbl_6 _ (List.mem_of_getElem? (i := 182) (by rfl)) rfl
theorem tb_1383 : (Jvm.Cond.static ({ cls := "ChordHerdsModel", name := "isQuarter", desc := "(I)Z" } : Jvm.MethodName)) ∈ zt := tbl_6 _ (List.mem_of_getElem? (i := 183) (by rfl)) rfl
theorem tb_1384 : (Jvm.Cond.code ({ cls := "ChordHerdsModel", name := "isQuarter", desc := "(I)Z" } : Jvm.MethodName) prog_13_method_48_code (1 : Nat) (Option.some Jvm.ClassFile.FieldType.boolean)) ∈ zt := tbl_6 _ (List.mem_of_getElem? (i := 184) (by rfl)) rfl
theorem tb_1385 : (Jvm.Cond.methodLink "ChordHerdsModel" (321 : Nat) ({ cls := "ChordHerdsModel", name := "entry", desc := "(IIIIII)I" } : Jvm.MethodName)) ∈ zt := tbl_6 _ (List.mem_of_getElem? (i := 185) (by rfl)) rfl
theorem tb_1387 : (Jvm.Cond.instanceMethod ({ cls := "ChordHerdsModel", name := "entry", desc := "(IIIIII)I" } : Jvm.MethodName)) ∈ zt := tbl_6 _ (List.mem_of_getElem? (i := 187) (by rfl)) rfl
theorem tb_1388 : (Jvm.Cond.code ({ cls := "ChordHerdsModel", name := "entry", desc := "(IIIIII)I" } : Jvm.MethodName) prog_13_method_49_code (7 : Nat) (Option.some Jvm.ClassFile.FieldType.int)) ∈ zt := tbl_6 _ (List.mem_of_getElem? (i := 188) (by rfl)) rfl
theorem tb_1389 : (Jvm.Cond.methodLink "ChordHerdsLaw" (73 : Nat) ({ cls := "ChordHerdsModel", name := "evening", desc := "(II)I" } : Jvm.MethodName)) ∈ zt := tbl_6 _ (List.mem_of_getElem? (i := 189) (by rfl)) rfl
theorem tb_1390 : (Jvm.Cond.instanceMethod ({ cls := "ChordHerdsModel", name := "evening", desc := "(II)I" } : Jvm.MethodName)) ∈ zt := tbl_6 _ (List.mem_of_getElem? (i := 190) (by rfl)) rfl
theorem tb_1391 : (Jvm.Cond.selects "ChordHerdsModel" ({ cls := "ChordHerdsModel", name := "evening", desc := "(II)I" } : Jvm.MethodName) ({ cls := "ChordHerdsModel", name := "evening", desc := "(II)I" } : Jvm.MethodName)) ∈ zt := tbl_6 _ (List.mem_of_getElem? (i := 191) (by rfl)) rfl
theorem tb_1392 : (Jvm.Cond.code ({ cls := "ChordHerdsModel", name := "evening", desc := "(II)I" } : Jvm.MethodName) prog_13_method_51_code (3 : Nat) (Option.some Jvm.ClassFile.FieldType.int)) ∈ zt := tbl_6 _ (List.mem_of_getElem? (i := 192) (by rfl)) rfl
theorem tb_1393 : (Jvm.Cond.methodLink "ChordHerdsLaw" (78 : Nat) ({ cls := "ChordHerdsModel", name := "note", desc := "(IIII)I" } : Jvm.MethodName)) ∈ zt := tbl_6 _ (List.mem_of_getElem? (i := 193) (by rfl)) rfl
theorem tb_1394 : (Jvm.Cond.instanceMethod ({ cls := "ChordHerdsModel", name := "note", desc := "(IIII)I" } : Jvm.MethodName)) ∈ zt := tbl_6 _ (List.mem_of_getElem? (i := 194) (by rfl)) rfl
theorem tb_1395 : (Jvm.Cond.selects "ChordHerdsModel" ({ cls := "ChordHerdsModel", name := "note", desc := "(IIII)I" } : Jvm.MethodName) ({ cls := "ChordHerdsModel", name := "note", desc := "(IIII)I" } : Jvm.MethodName)) ∈ zt := tbl_6 _ (List.mem_of_getElem? (i := 195) (by rfl)) rfl
theorem tb_1396 : (Jvm.Cond.code ({ cls := "ChordHerdsModel", name := "note", desc := "(IIII)I" } : Jvm.MethodName) prog_13_method_52_code (6 : Nat) (Option.some Jvm.ClassFile.FieldType.int)) ∈ zt := tbl_6 _ (List.mem_of_getElem? (i := 196) (by rfl)) rfl
theorem tb_1397 : (Jvm.Cond.methodLink "ChordHerdsLaw" (83 : Nat) ({ cls := "ChordHerdsModel", name := "untell", desc := "(I)Z" } : Jvm.MethodName)) ∈ zt := tbl_6 _ (List.mem_of_getElem? (i := 197) (by rfl)) rfl
theorem tb_1398 : (Jvm.Cond.instanceMethod ({ cls := "ChordHerdsModel", name := "untell", desc := "(I)Z" } : Jvm.MethodName)) ∈ zt := tbl_6 _ (List.mem_of_getElem? (i := 198) (by rfl)) rfl
theorem tb_1399 : (Jvm.Cond.selects "ChordHerdsModel" ({ cls := "ChordHerdsModel", name := "untell", desc := "(I)Z" } : Jvm.MethodName) ({ cls := "ChordHerdsModel", name := "untell", desc := "(I)Z" } : Jvm.MethodName)) ∈ zt := tbl_6 _ (List.mem_of_getElem? (i := 199) (by rfl)) rfl
theorem tb_1400 : (Jvm.Cond.code ({ cls := "ChordHerdsModel", name := "untell", desc := "(I)Z" } : Jvm.MethodName) prog_13_method_53_code (2 : Nat) (Option.some Jvm.ClassFile.FieldType.boolean)) ∈ zt := tbl_6 _ (List.mem_of_getElem? (i := 200) (by rfl)) rfl
theorem tb_1401 : (Jvm.Cond.methodLink "ChordHerdsLaw" (87 : Nat) ({ cls := "ChordHerdsModel", name := "later", desc := "(I)I" } : Jvm.MethodName)) ∈ zt := tbl_6 _ (List.mem_of_getElem? (i := 201) (by rfl)) rfl
theorem tb_1402 : (Jvm.Cond.instanceMethod ({ cls := "ChordHerdsModel", name := "later", desc := "(I)I" } : Jvm.MethodName)) ∈ zt := tbl_6 _ (List.mem_of_getElem? (i := 202) (by rfl)) rfl
theorem tb_1403 : (Jvm.Cond.selects "ChordHerdsModel" ({ cls := "ChordHerdsModel", name := "later", desc := "(I)I" } : Jvm.MethodName) ({ cls := "ChordHerdsModel", name := "later", desc := "(I)I" } : Jvm.MethodName)) ∈ zt := tbl_6 _ (List.mem_of_getElem? (i := 203) (by rfl)) rfl
theorem tb_1404 : (Jvm.Cond.code ({ cls := "ChordHerdsModel", name := "later", desc := "(I)I" } : Jvm.MethodName) prog_13_method_54_code (2 : Nat) (Option.some Jvm.ClassFile.FieldType.int)) ∈ zt := tbl_6 _ (List.mem_of_getElem? (i := 204) (by rfl)) rfl
theorem tb_1405 : (Jvm.Cond.constant "ChordHerdsModel" (325 : Nat) (100000 : Int32)) ∈ zt := tbl_6 _ (List.mem_of_getElem? (i := 205) (by rfl)) rfl
theorem tb_1406 : (Jvm.Cond.methodLink "ChordHerdsLaw" (91 : Nat) ({ cls := "ChordHerdsModel", name := "sets", desc := "(IIII)I" } : Jvm.MethodName)) ∈ zt := tbl_6 _ (List.mem_of_getElem? (i := 206) (by rfl)) rfl
theorem tb_1407 : (Jvm.Cond.instanceMethod ({ cls := "ChordHerdsModel", name := "sets", desc := "(IIII)I" } : Jvm.MethodName)) ∈ zt := tbl_6 _ (List.mem_of_getElem? (i := 207) (by rfl)) rfl
theorem tb_1408 : (Jvm.Cond.selects "ChordHerdsModel" ({ cls := "ChordHerdsModel", name := "sets", desc := "(IIII)I" } : Jvm.MethodName) ({ cls := "ChordHerdsModel", name := "sets", desc := "(IIII)I" } : Jvm.MethodName)) ∈ zt := tbl_6 _ (List.mem_of_getElem? (i := 208) (by rfl)) rfl
theorem tb_1409 : (Jvm.Cond.code ({ cls := "ChordHerdsModel", name := "sets", desc := "(IIII)I" } : Jvm.MethodName) prog_13_method_59_code (12 : Nat) (Option.some Jvm.ClassFile.FieldType.int)) ∈ zt := tbl_6 _ (List.mem_of_getElem? (i := 209) (by rfl)) rfl
theorem tb_1410 : (Jvm.Cond.methodLink "ChordHerdsModel" (337 : Nat) ({ cls := "ChordHerdsModel", name := "areSo", desc := "(IIIII)Z" } : Jvm.MethodName)) ∈ zt := tbl_6 _ (List.mem_of_getElem? (i := 210) (by rfl)) rfl
theorem tb_1412 : (Jvm.Cond.instanceMethod ({ cls := "ChordHerdsModel", name := "areSo", desc := "(IIIII)Z" } : Jvm.MethodName)) ∈ zt := tbl_6 _ (List.mem_of_getElem? (i := 212) (by rfl)) rfl
theorem tb_1413 : (Jvm.Cond.code ({ cls := "ChordHerdsModel", name := "areSo", desc := "(IIIII)Z" } : Jvm.MethodName) prog_13_method_58_code (8 : Nat) (Option.some Jvm.ClassFile.FieldType.boolean)) ∈ zt := tbl_6 _ (List.mem_of_getElem? (i := 213) (by rfl)) rfl
theorem tb_1414 : (Jvm.Cond.methodLink "ChordHerdsModel" (330 : Nat) ({ cls := "ChordHerdsModel", name := "counts", desc := "(III)Z" } : Jvm.MethodName)) ∈ zt := tbl_6 _ (List.mem_of_getElem? (i := 214) (by rfl)) rfl
theorem tb_1416 : (Jvm.Cond.instanceMethod ({ cls := "ChordHerdsModel", name := "counts", desc := "(III)Z" } : Jvm.MethodName)) ∈ zt := tbl_6 _ (List.mem_of_getElem? (i := 216) (by rfl)) rfl
theorem tb_1417 : (Jvm.Cond.code ({ cls := "ChordHerdsModel", name := "counts", desc := "(III)Z" } : Jvm.MethodName) prog_13_method_55_code (4 : Nat) (Option.some Jvm.ClassFile.FieldType.boolean)) ∈ zt := tbl_6 _ (List.mem_of_getElem? (i := 217) (by rfl)) rfl
theorem tb_1418 : (Jvm.Cond.methodLink "ChordHerdsModel" (333 : Nat) ({ cls := "ChordHerdsModel", name := "isSo", desc := "(IIII)Z" } : Jvm.MethodName)) ∈ zt := tbl_6 _ (List.mem_of_getElem? (i := 218) (by rfl)) rfl
theorem tb_1420 : (Jvm.Cond.instanceMethod ({ cls := "ChordHerdsModel", name := "isSo", desc := "(IIII)Z" } : Jvm.MethodName)) ∈ zt := tbl_6 _ (List.mem_of_getElem? (i := 220) (by rfl)) rfl
theorem tb_1421 : (Jvm.Cond.code ({ cls := "ChordHerdsModel", name := "isSo", desc := "(IIII)Z" } : Jvm.MethodName) prog_13_method_57_code (6 : Nat) (Option.some Jvm.ClassFile.FieldType.boolean)) ∈ zt := tbl_6 _ (List.mem_of_getElem? (i := 221) (by rfl)) rfl
theorem tb_1422 : (Jvm.Cond.methodLink "ChordHerdsModel" (326 : Nat) ({ cls := "ChordHerdsModel", name := "loudOfSet", desc := "(IIIII)I" } : Jvm.MethodName)) ∈ zt := tbl_6 _ (List.mem_of_getElem? (i := 222) (by rfl)) rfl
theorem tb_1424 : (Jvm.Cond.instanceMethod ({ cls := "ChordHerdsModel", name := "loudOfSet", desc := "(IIIII)I" } : Jvm.MethodName)) ∈ zt := tbl_6 _ (List.mem_of_getElem? (i := 224) (by rfl)) rfl
theorem tb_1425 : (Jvm.Cond.code ({ cls := "ChordHerdsModel", name := "loudOfSet", desc := "(IIIII)I" } : Jvm.MethodName) prog_13_method_56_code (8 : Nat) (Option.some Jvm.ClassFile.FieldType.int)) ∈ zt := tbl_6 _ (List.mem_of_getElem? (i := 225) (by rfl)) rfl
theorem tb_1426 : (Jvm.Cond.methodLink "ChordHerdsLaw" (96 : Nat) ({ cls := "ChordHerdsModel", name := "spring", desc := "(IIIII)Z" } : Jvm.MethodName)) ∈ zt := tbl_6 _ (List.mem_of_getElem? (i := 226) (by rfl)) rfl
theorem tb_1427 : (Jvm.Cond.instanceMethod ({ cls := "ChordHerdsModel", name := "spring", desc := "(IIIII)Z" } : Jvm.MethodName)) ∈ zt := tbl_6 _ (List.mem_of_getElem? (i := 227) (by rfl)) rfl
theorem tb_1428 : (Jvm.Cond.selects "ChordHerdsModel" ({ cls := "ChordHerdsModel", name := "spring", desc := "(IIIII)Z" } : Jvm.MethodName) ({ cls := "ChordHerdsModel", name := "spring", desc := "(IIIII)Z" } : Jvm.MethodName)) ∈ zt := tbl_6 _ (List.mem_of_getElem? (i := 228) (by rfl)) rfl
theorem tb_1429 : (Jvm.Cond.code ({ cls := "ChordHerdsModel", name := "spring", desc := "(IIIII)Z" } : Jvm.MethodName) prog_13_method_60_code (6 : Nat) (Option.some Jvm.ClassFile.FieldType.boolean)) ∈ zt := tbl_6 _ (List.mem_of_getElem? (i := 229) (by rfl)) rfl
theorem tb_1430 : (Jvm.Cond.methodLink "ChordHerdsLaw" (101 : Nat) ({ cls := "ChordHerdsModel", name := "parted", desc := "(III)I" } : Jvm.MethodName)) ∈ zt := tbl_6 _ (List.mem_of_getElem? (i := 230) (by rfl)) rfl
theorem tb_1431 : (Jvm.Cond.instanceMethod ({ cls := "ChordHerdsModel", name := "parted", desc := "(III)I" } : Jvm.MethodName)) ∈ zt := tbl_6 _ (List.mem_of_getElem? (i := 231) (by rfl)) rfl
theorem tb_1432 : (Jvm.Cond.selects "ChordHerdsModel" ({ cls := "ChordHerdsModel", name := "parted", desc := "(III)I" } : Jvm.MethodName) ({ cls := "ChordHerdsModel", name := "parted", desc := "(III)I" } : Jvm.MethodName)) ∈ zt := tbl_6 _ (List.mem_of_getElem? (i := 232) (by rfl)) rfl
theorem tb_1433 : (Jvm.Cond.code ({ cls := "ChordHerdsModel", name := "parted", desc := "(III)I" } : Jvm.MethodName) prog_13_method_63_code (12 : Nat) (Option.some Jvm.ClassFile.FieldType.int)) ∈ zt := tbl_6 _ (List.mem_of_getElem? (i := 233) (by rfl)) rfl
theorem tb_1434 : (Jvm.Cond.methodLink "ChordHerdsModel" (356 : Nat) ({ cls := "ChordHerdsModel", name := "isParted", desc := "(III)Z" } : Jvm.MethodName)) ∈ zt := tbl_6 _ (List.mem_of_getElem? (i := 234) (by rfl)) rfl
theorem tb_1436 : (Jvm.Cond.instanceMethod ({ cls := "ChordHerdsModel", name := "isParted", desc := "(III)Z" } : Jvm.MethodName)) ∈ zt := tbl_6 _ (List.mem_of_getElem? (i := 236) (by rfl)) rfl
theorem tb_1437 : (Jvm.Cond.code ({ cls := "ChordHerdsModel", name := "isParted", desc := "(III)Z" } : Jvm.MethodName) prog_13_method_61_code (7 : Nat) (Option.some Jvm.ClassFile.FieldType.boolean)) ∈ zt := tbl_6 _ (List.mem_of_getElem? (i := 237) (by rfl)) rfl
theorem tb_1438 : (Jvm.Cond.methodLink "ChordHerdsModel" (359 : Nat) ({ cls := "ChordHerdsModel", name := "mixedOf", desc := "(I)I" } : Jvm.MethodName)) ∈ zt := tbl_6 _ (List.mem_of_getElem? (i := 238) (by rfl)) rfl
theorem tb_1440 : (Jvm.Cond.instanceMethod ({ cls := "ChordHerdsModel", name := "mixedOf", desc := "(I)I" } : Jvm.MethodName)) ∈ zt := tbl_7 _ (List.mem_of_getElem? (i := 0) (by rfl)) rfl
theorem tb_1441 : (Jvm.Cond.code ({ cls := "ChordHerdsModel", name := "mixedOf", desc := "(I)I" } : Jvm.MethodName) prog_13_method_62_code (7 : Nat) (Option.some Jvm.ClassFile.FieldType.int)) ∈ zt := tbl_7 _ (List.mem_of_getElem? (i := 1) (by rfl)) rfl
theorem tb_1442 : (Jvm.Cond.methodLink "ChordHerdsLaw" (105 : Nat) ({ cls := "ChordHerdsModel", name := "came", desc := "(IIIII)I" } : Jvm.MethodName)) ∈ zt := tbl_7 _ (List.mem_of_getElem? (i := 2) (by rfl)) rfl
theorem tb_1443 : (Jvm.Cond.instanceMethod ({ cls := "ChordHerdsModel", name := "came", desc := "(IIIII)I" } : Jvm.MethodName)) ∈ zt := tbl_7 _ (List.mem_of_getElem? (i := 3) (by rfl)) rfl
theorem tb_1444 : (Jvm.Cond.selects "ChordHerdsModel" ({ cls := "ChordHerdsModel", name := "came", desc := "(IIIII)I" } : Jvm.MethodName) ({ cls := "ChordHerdsModel", name := "came", desc := "(IIIII)I" } : Jvm.MethodName)) ∈ zt := tbl_7 _ (List.mem_of_getElem? (i := 4) (by rfl)) rfl
theorem tb_1445 : (Jvm.Cond.code ({ cls := "ChordHerdsModel", name := "came", desc := "(IIIII)I" } : Jvm.MethodName) prog_13_method_65_code (10 : Nat) (Option.some Jvm.ClassFile.FieldType.int)) ∈ zt := tbl_7 _ (List.mem_of_getElem? (i := 5) (by rfl)) rfl
theorem tb_1446 : (Jvm.Cond.methodLink "ChordHerdsModel" (362 : Nat) ({ cls := "ChordHerdsModel", name := "couldCome", desc := "(IIIII)Z" } : Jvm.MethodName)) ∈ zt := tbl_7 _ (List.mem_of_getElem? (i := 6) (by rfl)) rfl
theorem tb_1448 : (Jvm.Cond.instanceMethod ({ cls := "ChordHerdsModel", name := "couldCome", desc := "(IIIII)Z" } : Jvm.MethodName)) ∈ zt := tbl_7 _ (List.mem_of_getElem? (i := 8) (by rfl)) rfl
theorem tb_1449 : (Jvm.Cond.code ({ cls := "ChordHerdsModel", name := "couldCome", desc := "(IIIII)Z" } : Jvm.MethodName) prog_13_method_64_code (8 : Nat) (Option.some Jvm.ClassFile.FieldType.boolean)) ∈ zt := tbl_7 _ (List.mem_of_getElem? (i := 9) (by rfl)) rfl
theorem tb_1450 : (Jvm.Cond.methodLink "ChordHerdsLaw" (109 : Nat) ({ cls := "ChordHerdsModel", name := "cracked", desc := "(I)I" } : Jvm.MethodName)) ∈ zt := tbl_7 _ (List.mem_of_getElem? (i := 10) (by rfl)) rfl
theorem tb_1451 : (Jvm.Cond.instanceMethod ({ cls := "ChordHerdsModel", name := "cracked", desc := "(I)I" } : Jvm.MethodName)) ∈ zt := tbl_7 _ (List.mem_of_getElem? (i := 11) (by rfl)) rfl
theorem tb_1452 : (Jvm.Cond.selects "ChordHerdsModel" ({ cls := "ChordHerdsModel", name := "cracked", desc := "(I)I" } : Jvm.MethodName) ({ cls := "ChordHerdsModel", name := "cracked", desc := "(I)I" } : Jvm.MethodName)) ∈ zt := tbl_7 _ (List.mem_of_getElem? (i := 12) (by rfl)) rfl
theorem tb_1453 : (Jvm.Cond.code ({ cls := "ChordHerdsModel", name := "cracked", desc := "(I)I" } : Jvm.MethodName) prog_13_method_72_code (4 : Nat) (Option.some Jvm.ClassFile.FieldType.int)) ∈ zt := tbl_7 _ (List.mem_of_getElem? (i := 13) (by rfl)) rfl
theorem tb_1454 : (Jvm.Cond.methodLink "ChordHerdsModel" (368 : Nat) ({ cls := "ChordHerdsModel", name := "clearTried", desc := "()V" } : Jvm.MethodName)) ∈ zt := tbl_7 _ (List.mem_of_getElem? (i := 14) (by rfl)) rfl
theorem tb_1456 : (Jvm.Cond.instanceMethod ({ cls := "ChordHerdsModel", name := "clearTried", desc := "()V" } : Jvm.MethodName)) ∈ zt := tbl_7 _ (List.mem_of_getElem? (i := 16) (by rfl)) rfl
theorem tb_1457 : (Jvm.Cond.code ({ cls := "ChordHerdsModel", name := "clearTried", desc := "()V" } : Jvm.MethodName) prog_13_method_69_code (2 : Nat) (Option.none : Option Jvm.ClassFile.FieldType)) ∈ zt := tbl_7 _ (List.mem_of_getElem? (i := 17) (by rfl)) rfl
theorem tb_1458 : (Jvm.Cond.methodLink "ChordHerdsModel" (371 : Nat) ({ cls := "ChordHerdsModel", name := "areEvenings", desc := "(II)Z" } : Jvm.MethodName)) ∈ zt := tbl_7 _ (List.mem_of_getElem? (i := 18) (by rfl)) rfl
theorem tb_1460 : (Jvm.Cond.instanceMethod ({ cls := "ChordHerdsModel", name := "areEvenings", desc := "(II)Z" } : Jvm.MethodName)) ∈ zt := tbl_7 _ (List.mem_of_getElem? (i := 20) (by rfl)) rfl
theorem tb_1461 : (Jvm.Cond.code ({ cls := "ChordHerdsModel", name := "areEvenings", desc := "(II)Z" } : Jvm.MethodName) prog_13_method_67_code (5 : Nat) (Option.some Jvm.ClassFile.FieldType.boolean)) ∈ zt := tbl_7 _ (List.mem_of_getElem? (i := 21) (by rfl)) rfl
theorem tb_1462 : (Jvm.Cond.methodLink "ChordHerdsModel" (365 : Nat) ({ cls := "ChordHerdsModel", name := "tonesIn", desc := "(I)I" } : Jvm.MethodName)) ∈ zt := tbl_7 _ (List.mem_of_getElem? (i := 22) (by rfl)) rfl
theorem tb_1464 : (Jvm.Cond.instanceMethod ({ cls := "ChordHerdsModel", name := "tonesIn", desc := "(I)I" } : Jvm.MethodName)) ∈ zt := tbl_7 _ (List.mem_of_getElem? (i := 24) (by rfl)) rfl
theorem tb_1465 : (Jvm.Cond.code ({ cls := "ChordHerdsModel", name := "tonesIn", desc := "(I)I" } : Jvm.MethodName) prog_13_method_66_code (4 : Nat) (Option.some Jvm.ClassFile.FieldType.int)) ∈ zt := tbl_7 _ (List.mem_of_getElem? (i := 25) (by rfl)) rfl
theorem tb_1466 : (Jvm.Cond.methodLink "ChordHerdsModel" (375 : Nat) ({ cls := "ChordHerdsModel", name := "triedSum", desc := "()I" } : Jvm.MethodName)) ∈ zt := tbl_7 _ (List.mem_of_getElem? (i := 26) (by rfl)) rfl
theorem tb_1468 : (Jvm.Cond.instanceMethod ({ cls := "ChordHerdsModel", name := "triedSum", desc := "()I" } : Jvm.MethodName)) ∈ zt := tbl_7 _ (List.mem_of_getElem? (i := 28) (by rfl)) rfl
theorem tb_1469 : (Jvm.Cond.code ({ cls := "ChordHerdsModel", name := "triedSum", desc := "()I" } : Jvm.MethodName) prog_13_method_70_code (3 : Nat) (Option.some Jvm.ClassFile.FieldType.int)) ∈ zt := tbl_7 _ (List.mem_of_getElem? (i := 29) (by rfl)) rfl
theorem tb_1470 : (Jvm.Cond.methodLink "ChordHerdsModel" (378 : Nat) ({ cls := "ChordHerdsModel", name := "putDown", desc := "()V" } : Jvm.MethodName)) ∈ zt := tbl_7 _ (List.mem_of_getElem? (i := 30) (by rfl)) rfl
theorem tb_1472 : (Jvm.Cond.instanceMethod ({ cls := "ChordHerdsModel", name := "putDown", desc := "()V" } : Jvm.MethodName)) ∈ zt := tbl_7 _ (List.mem_of_getElem? (i := 32) (by rfl)) rfl
theorem tb_1473 : (Jvm.Cond.code ({ cls := "ChordHerdsModel", name := "putDown", desc := "()V" } : Jvm.MethodName) prog_13_method_71_code (2 : Nat) (Option.none : Option Jvm.ClassFile.FieldType)) ∈ zt := tbl_7 _ (List.mem_of_getElem? (i := 33) (by rfl)) rfl
theorem tb_1474 : (Jvm.Cond.methodLink "ChordHerdsModel" (381 : Nat) ({ cls := "ChordHerdsModel", name := "nextTried", desc := "()Z" } : Jvm.MethodName)) ∈ zt := tbl_7 _ (List.mem_of_getElem? (i := 34) (by rfl)) rfl
theorem tb_1476 : (Jvm.Cond.instanceMethod ({ cls := "ChordHerdsModel", name := "nextTried", desc := "()Z" } : Jvm.MethodName)) ∈ zt := tbl_7 _ (List.mem_of_getElem? (i := 36) (by rfl)) rfl
theorem tb_1477 : (Jvm.Cond.code ({ cls := "ChordHerdsModel", name := "nextTried", desc := "()Z" } : Jvm.MethodName) prog_13_method_68_code (2 : Nat) (Option.some Jvm.ClassFile.FieldType.boolean)) ∈ zt := tbl_7 _ (List.mem_of_getElem? (i := 37) (by rfl)) rfl
theorem tb_1478 : (Jvm.Cond.methodLink "ChordHerdsLaw" (113 : Nat) ({ cls := "ChordHerdsModel", name := "first", desc := "(I)I" } : Jvm.MethodName)) ∈ zt := tbl_7 _ (List.mem_of_getElem? (i := 38) (by rfl)) rfl
theorem tb_1479 : (Jvm.Cond.instanceMethod ({ cls := "ChordHerdsModel", name := "first", desc := "(I)I" } : Jvm.MethodName)) ∈ zt := tbl_7 _ (List.mem_of_getElem? (i := 39) (by rfl)) rfl
theorem tb_1480 : (Jvm.Cond.selects "ChordHerdsModel" ({ cls := "ChordHerdsModel", name := "first", desc := "(I)I" } : Jvm.MethodName) ({ cls := "ChordHerdsModel", name := "first", desc := "(I)I" } : Jvm.MethodName)) ∈ zt := tbl_7 _ (List.mem_of_getElem? (i := 40) (by rfl)) rfl
theorem tb_1481 : (Jvm.Cond.code ({ cls := "ChordHerdsModel", name := "first", desc := "(I)I" } : Jvm.MethodName) prog_13_method_74_code (3 : Nat) (Option.some Jvm.ClassFile.FieldType.int)) ∈ zt := tbl_7 _ (List.mem_of_getElem? (i := 41) (by rfl)) rfl
theorem tb_1482 : (Jvm.Cond.methodLink "ChordHerdsModel" (384 : Nat) ({ cls := "ChordHerdsModel", name := "canBe", desc := "(II)Z" } : Jvm.MethodName)) ∈ zt := tbl_7 _ (List.mem_of_getElem? (i := 42) (by rfl)) rfl
theorem tb_1484 : (Jvm.Cond.instanceMethod ({ cls := "ChordHerdsModel", name := "canBe", desc := "(II)Z" } : Jvm.MethodName)) ∈ zt := tbl_7 _ (List.mem_of_getElem? (i := 44) (by rfl)) rfl
theorem tb_1485 : (Jvm.Cond.code ({ cls := "ChordHerdsModel", name := "canBe", desc := "(II)Z" } : Jvm.MethodName) prog_13_method_73_code (4 : Nat) (Option.some Jvm.ClassFile.FieldType.boolean)) ∈ zt := tbl_7 _ (List.mem_of_getElem? (i := 45) (by rfl)) rfl
theorem tb_1486 : (Jvm.Cond.methodLink "ChordHerdsLaw" (117 : Nat) ({ cls := "ChordHerdsModel", name := "dealt", desc := "(I)I" } : Jvm.MethodName)) ∈ zt := tbl_7 _ (List.mem_of_getElem? (i := 46) (by rfl)) rfl
theorem tb_1487 : (Jvm.Cond.instanceMethod ({ cls := "ChordHerdsModel", name := "dealt", desc := "(I)I" } : Jvm.MethodName)) ∈ zt := tbl_7 _ (List.mem_of_getElem? (i := 47) (by rfl)) rfl
theorem tb_1488 : (Jvm.Cond.selects "ChordHerdsModel" ({ cls := "ChordHerdsModel", name := "dealt", desc := "(I)I" } : Jvm.MethodName) ({ cls := "ChordHerdsModel", name := "dealt", desc := "(I)I" } : Jvm.MethodName)) ∈ zt := tbl_7 _ (List.mem_of_getElem? (i := 48) (by rfl)) rfl
theorem tb_1489 : (Jvm.Cond.code ({ cls := "ChordHerdsModel", name := "dealt", desc := "(I)I" } : Jvm.MethodName) prog_13_method_81_code (5 : Nat) (Option.some Jvm.ClassFile.FieldType.int)) ∈ zt := tbl_7 _ (List.mem_of_getElem? (i := 49) (by rfl)) rfl
theorem tb_1490 : (Jvm.Cond.methodLink "ChordHerdsModel" (399 : Nat) ({ cls := "ChordHerdsModel", name := "layFew", desc := "(I)V" } : Jvm.MethodName)) ∈ zt := tbl_7 _ (List.mem_of_getElem? (i := 50) (by rfl)) rfl
theorem tb_1492 : (Jvm.Cond.instanceMethod ({ cls := "ChordHerdsModel", name := "layFew", desc := "(I)V" } : Jvm.MethodName)) ∈ zt := tbl_7 _ (List.mem_of_getElem? (i := 52) (by rfl)) rfl
theorem tb_1493 : (Jvm.Cond.code ({ cls := "ChordHerdsModel", name := "layFew", desc := "(I)V" } : Jvm.MethodName) prog_13_method_77_code (3 : Nat) (Option.none : Option Jvm.ClassFile.FieldType)) ∈ zt := tbl_7 _ (List.mem_of_getElem? (i := 53) (by rfl)) rfl
theorem tb_1494 : (Jvm.Cond.methodLink "ChordHerdsModel" (390 : Nat) ({ cls := "ChordHerdsModel", name := "ones", desc := "(I)I" } : Jvm.MethodName)) ∈ zt := tbl_7 _ (List.mem_of_getElem? (i := 54) (by rfl)) rfl
theorem tb_1495 : (Jvm.Cond.static ({ cls := "ChordHerdsModel", name := "ones", desc := "(I)I" } : Jvm.MethodName)) ∈ zt := tbl_7 _ (List.mem_of_getElem? (i := 55) (by rfl)) rfl
theorem tb_1496 : (Jvm.Cond.code ({ cls := "ChordHerdsModel", name := "ones", desc := "(I)I" } : Jvm.MethodName) prog_13_method_76_code (3 : Nat) (Option.some Jvm.ClassFile.FieldType.int)) ∈ zt := tbl_7 _ (List.mem_of_getElem? (i := 56) (by rfl)) rfl
theorem tb_1497 : (Jvm.Cond.methodLink "ChordHerdsModel" (396 : Nat) ({ cls := "ChordHerdsModel", name := "greatest", desc := "(I)I" } : Jvm.MethodName)) ∈ zt := tbl_7 _ (List.mem_of_getElem? (i := 57) (by rfl)) rfl
theorem tb_1499 : (Jvm.Cond.instanceMethod ({ cls := "ChordHerdsModel", name := "greatest", desc := "(I)I" } : Jvm.MethodName)) ∈ zt := tbl_7 _ (List.mem_of_getElem? (i := 59) (by rfl)) rfl
theorem tb_1500 : (Jvm.Cond.code ({ cls := "ChordHerdsModel", name := "greatest", desc := "(I)I" } : Jvm.MethodName) prog_13_method_79_code (4 : Nat) (Option.some Jvm.ClassFile.FieldType.int)) ∈ zt := tbl_7 _ (List.mem_of_getElem? (i := 60) (by rfl)) rfl
theorem tb_1501 : (Jvm.Cond.methodLink "ChordHerdsModel" (402 : Nat) ({ cls := "ChordHerdsModel", name := "areKnown", desc := "()Z" } : Jvm.MethodName)) ∈ zt := tbl_7 _ (List.mem_of_getElem? (i := 61) (by rfl)) rfl
theorem tb_1503 : (Jvm.Cond.instanceMethod ({ cls := "ChordHerdsModel", name := "areKnown", desc := "()Z" } : Jvm.MethodName)) ∈ zt := tbl_7 _ (List.mem_of_getElem? (i := 63) (by rfl)) rfl
theorem tb_1504 : (Jvm.Cond.code ({ cls := "ChordHerdsModel", name := "areKnown", desc := "()Z" } : Jvm.MethodName) prog_13_method_78_code (3 : Nat) (Option.some Jvm.ClassFile.FieldType.boolean)) ∈ zt := tbl_7 _ (List.mem_of_getElem? (i := 64) (by rfl)) rfl
theorem tb_1505 : (Jvm.Cond.methodLink "ChordHerdsModel" (393 : Nat) ({ cls := "ChordHerdsModel", name := "areAlike", desc := "(II)Z" } : Jvm.MethodName)) ∈ zt := tbl_7 _ (List.mem_of_getElem? (i := 65) (by rfl)) rfl
theorem tb_1507 : (Jvm.Cond.instanceMethod ({ cls := "ChordHerdsModel", name := "areAlike", desc := "(II)Z" } : Jvm.MethodName)) ∈ zt := tbl_7 _ (List.mem_of_getElem? (i := 67) (by rfl)) rfl
theorem tb_1508 : (Jvm.Cond.code ({ cls := "ChordHerdsModel", name := "areAlike", desc := "(II)Z" } : Jvm.MethodName) prog_13_method_75_code (5 : Nat) (Option.some Jvm.ClassFile.FieldType.boolean)) ∈ zt := tbl_7 _ (List.mem_of_getElem? (i := 68) (by rfl)) rfl
theorem tb_1509 : (Jvm.Cond.methodLink "ChordHerdsModel" (405 : Nat) ({ cls := "ChordHerdsModel", name := "nextTones", desc := "()Z" } : Jvm.MethodName)) ∈ zt := tbl_7 _ (List.mem_of_getElem? (i := 69) (by rfl)) rfl
theorem tb_1511 : (Jvm.Cond.instanceMethod ({ cls := "ChordHerdsModel", name := "nextTones", desc := "()Z" } : Jvm.MethodName)) ∈ zt := tbl_7 _ (List.mem_of_getElem? (i := 71) (by rfl)) rfl
theorem tb_1512 : (Jvm.Cond.code ({ cls := "ChordHerdsModel", name := "nextTones", desc := "()Z" } : Jvm.MethodName) prog_13_method_80_code (2 : Nat) (Option.some Jvm.ClassFile.FieldType.boolean)) ∈ zt := tbl_7 _ (List.mem_of_getElem? (i := 72) (by rfl)) rfl
theorem tb_1513 : (Jvm.Cond.methodLink "ChordHerdsLaw" (121 : Nat) ({ cls := "ChordHerdsModel", name := "lies", desc := "(I)I" } : Jvm.MethodName)) ∈ zt := tbl_7 _ (List.mem_of_getElem? (i := 73) (by rfl)) rfl
theorem tb_1514 : (Jvm.Cond.instanceMethod ({ cls := "ChordHerdsModel", name := "lies", desc := "(I)I" } : Jvm.MethodName)) ∈ zt := tbl_7 _ (List.mem_of_getElem? (i := 74) (by rfl)) rfl
theorem tb_1515 : (Jvm.Cond.selects "ChordHerdsModel" ({ cls := "ChordHerdsModel", name := "lies", desc := "(I)I" } : Jvm.MethodName) ({ cls := "ChordHerdsModel", name := "lies", desc := "(I)I" } : Jvm.MethodName)) ∈ zt := tbl_7 _ (List.mem_of_getElem? (i := 75) (by rfl)) rfl
theorem tb_1516 : (Jvm.Cond.code ({ cls := "ChordHerdsModel", name := "lies", desc := "(I)I" } : Jvm.MethodName) prog_13_method_82_code (2 : Nat) (Option.some Jvm.ClassFile.FieldType.int)) ∈ zt := tbl_7 _ (List.mem_of_getElem? (i := 76) (by rfl)) rfl
theorem tb_1517 : (Jvm.Cond.methodLink "ChordHerdsLaw" (125 : Nat) ({ cls := "ChordHerdsModel", name := "fresh", desc := "(II)I" } : Jvm.MethodName)) ∈ zt := tbl_7 _ (List.mem_of_getElem? (i := 77) (by rfl)) rfl
theorem tb_1518 : (Jvm.Cond.instanceMethod ({ cls := "ChordHerdsModel", name := "fresh", desc := "(II)I" } : Jvm.MethodName)) ∈ zt := tbl_7 _ (List.mem_of_getElem? (i := 78) (by rfl)) rfl
theorem tb_1519 : (Jvm.Cond.selects "ChordHerdsModel" ({ cls := "ChordHerdsModel", name := "fresh", desc := "(II)I" } : Jvm.MethodName) ({ cls := "ChordHerdsModel", name := "fresh", desc := "(II)I" } : Jvm.MethodName)) ∈ zt := tbl_7 _ (List.mem_of_getElem? (i := 79) (by rfl)) rfl
theorem tb_1520 : (Jvm.Cond.code ({ cls := "ChordHerdsModel", name := "fresh", desc := "(II)I" } : Jvm.MethodName) prog_13_method_85_code (7 : Nat) (Option.some Jvm.ClassFile.FieldType.int)) ∈ zt := tbl_7 _ (List.mem_of_getElem? (i := 80) (by rfl)) rfl
theorem tb_1521 : (Jvm.Cond.methodLink "ChordHerdsModel" (408 : Nat) ({ cls := "ChordHerdsModel", name := "isKnownNew", desc := "(II)Z" } : Jvm.MethodName)) ∈ zt := tbl_7 _ (List.mem_of_getElem? (i := 81) (by rfl)) rfl
theorem tb_1523 : (Jvm.Cond.instanceMethod ({ cls := "ChordHerdsModel", name := "isKnownNew", desc := "(II)Z" } : Jvm.MethodName)) ∈ zt := tbl_7 _ (List.mem_of_getElem? (i := 83) (by rfl)) rfl
theorem tb_1524 : (Jvm.Cond.code ({ cls := "ChordHerdsModel", name := "isKnownNew", desc := "(II)Z" } : Jvm.MethodName) prog_13_method_83_code (7 : Nat) (Option.some Jvm.ClassFile.FieldType.boolean)) ∈ zt := tbl_7 _ (List.mem_of_getElem? (i := 84) (by rfl)) rfl
theorem tb_1525 : (Jvm.Cond.methodLink "ChordHerdsModel" (411 : Nat) ({ cls := "ChordHerdsModel", name := "nearest", desc := "(II)I" } : Jvm.MethodName)) ∈ zt := tbl_7 _ (List.mem_of_getElem? (i := 85) (by rfl)) rfl
theorem tb_1527 : (Jvm.Cond.instanceMethod ({ cls := "ChordHerdsModel", name := "nearest", desc := "(II)I" } : Jvm.MethodName)) ∈ zt := tbl_7 _ (List.mem_of_getElem? (i := 87) (by rfl)) rfl
theorem tb_1528 : (Jvm.Cond.code ({ cls := "ChordHerdsModel", name := "nearest", desc := "(II)I" } : Jvm.MethodName) prog_13_method_84_code (6 : Nat) (Option.some Jvm.ClassFile.FieldType.int)) ∈ zt := tbl_7 _ (List.mem_of_getElem? (i := 88) (by rfl)) rfl
theorem tb_1529 : (Jvm.Cond.methodLink "ChordHerdsLaw" (129 : Nat) ({ cls := "ChordHerdsModel", name := "image", desc := "(I)I" } : Jvm.MethodName)) ∈ zt := tbl_7 _ (List.mem_of_getElem? (i := 89) (by rfl)) rfl
theorem tb_1530 : (Jvm.Cond.instanceMethod ({ cls := "ChordHerdsModel", name := "image", desc := "(I)I" } : Jvm.MethodName)) ∈ zt := tbl_7 _ (List.mem_of_getElem? (i := 90) (by rfl)) rfl
theorem tb_1531 : (Jvm.Cond.selects "ChordHerdsModel" ({ cls := "ChordHerdsModel", name := "image", desc := "(I)I" } : Jvm.MethodName) ({ cls := "ChordHerdsModel", name := "image", desc := "(I)I" } : Jvm.MethodName)) ∈ zt := tbl_7 _ (List.mem_of_getElem? (i := 91) (by rfl)) rfl
theorem tb_1532 : (Jvm.Cond.code ({ cls := "ChordHerdsModel", name := "image", desc := "(I)I" } : Jvm.MethodName) prog_13_method_87_code (3 : Nat) (Option.some Jvm.ClassFile.FieldType.int)) ∈ zt := tbl_7 _ (List.mem_of_getElem? (i := 92) (by rfl)) rfl
theorem tb_1533 : (Jvm.Cond.methodLink "ChordHerdsModel" (414 : Nat) ({ cls := "ChordHerdsModel", name := "isBox", desc := "(I)Z" } : Jvm.MethodName)) ∈ zt := tbl_7 _ (List.mem_of_getElem? (i := 93) (by rfl)) rfl
theorem tb_1534 : (Jvm.Cond.static ({ cls := "ChordHerdsModel", name := "isBox", desc := "(I)Z" } : Jvm.MethodName)) ∈ zt := tbl_7 _ (List.mem_of_getElem? (i := 94) (by rfl)) rfl
theorem tb_1535 : (Jvm.Cond.code ({ cls := "ChordHerdsModel", name := "isBox", desc := "(I)Z" } : Jvm.MethodName) prog_13_method_86_code (1 : Nat) (Option.some Jvm.ClassFile.FieldType.boolean)) ∈ zt := tbl_7 _ (List.mem_of_getElem? (i := 95) (by rfl)) rfl
theorem tb_1536 : (Jvm.Cond.methodLink "ChordHerdsLaw" (133 : Nat) ({ cls := "ChordHerdsModel", name := "back", desc := "(I)I" } : Jvm.MethodName)) ∈ zt := tbl_7 _ (List.mem_of_getElem? (i := 96) (by rfl)) rfl
theorem tb_1537 : (Jvm.Cond.instanceMethod ({ cls := "ChordHerdsModel", name := "back", desc := "(I)I" } : Jvm.MethodName)) ∈ zt := tbl_7 _ (List.mem_of_getElem? (i := 97) (by rfl)) rfl
theorem tb_1538 : (Jvm.Cond.selects "ChordHerdsModel" ({ cls := "ChordHerdsModel", name := "back", desc := "(I)I" } : Jvm.MethodName) ({ cls := "ChordHerdsModel", name := "back", desc := "(I)I" } : Jvm.MethodName)) ∈ zt := tbl_7 _ (List.mem_of_getElem? (i := 98) (by rfl)) rfl
theorem tb_1539 : (Jvm.Cond.code ({ cls := "ChordHerdsModel", name := "back", desc := "(I)I" } : Jvm.MethodName) prog_13_method_88_code (3 : Nat) (Option.some Jvm.ClassFile.FieldType.int)) ∈ zt := tbl_7 _ (List.mem_of_getElem? (i := 99) (by rfl)) rfl
theorem tb_1540 : (Jvm.Cond.methodLink "ChordHerdsLaw" (137 : Nat) ({ cls := "ChordHerdsModel", name := "about", desc := "(I)I" } : Jvm.MethodName)) ∈ zt := tbl_7 _ (List.mem_of_getElem? (i := 100) (by rfl)) rfl
theorem tb_1541 : (Jvm.Cond.instanceMethod ({ cls := "ChordHerdsModel", name := "about", desc := "(I)I" } : Jvm.MethodName)) ∈ zt := tbl_7 _ (List.mem_of_getElem? (i := 101) (by rfl)) rfl
theorem tb_1542 : (Jvm.Cond.selects "ChordHerdsModel" ({ cls := "ChordHerdsModel", name := "about", desc := "(I)I" } : Jvm.MethodName) ({ cls := "ChordHerdsModel", name := "about", desc := "(I)I" } : Jvm.MethodName)) ∈ zt := tbl_7 _ (List.mem_of_getElem? (i := 102) (by rfl)) rfl
theorem tb_1543 : (Jvm.Cond.code ({ cls := "ChordHerdsModel", name := "about", desc := "(I)I" } : Jvm.MethodName) prog_13_method_89_code (2 : Nat) (Option.some Jvm.ClassFile.FieldType.int)) ∈ zt := tbl_7 _ (List.mem_of_getElem? (i := 103) (by rfl)) rfl
set_option maxRecDepth 100000 in
theorem inX0 : ∀ w ∈ u_ws RX0 TX0 6, w ∈ zt := show ∀ w ∈ (_ :: _ : List Cond), w ∈ zt from List.forall_mem_cons.mpr ⟨tb_261, List.forall_mem_cons.mpr ⟨tb_263, List.forall_mem_cons.mpr ⟨tb_265, List.forall_mem_cons.mpr ⟨tb_267, List.forall_mem_cons.mpr ⟨tb_269, List.forall_mem_cons.mpr ⟨tb_271, fun _ h => absurd h List.not_mem_nil⟩⟩⟩⟩⟩⟩
set_option maxRecDepth 100000 in
theorem inX1 : ∀ w ∈ u_ws RX1 TX1 10, w ∈ zt := show ∀ w ∈ (_ :: _ : List Cond), w ∈ zt from List.forall_mem_cons.mpr ⟨tb_394, List.forall_mem_cons.mpr ⟨tb_396, List.forall_mem_cons.mpr ⟨tb_398, List.forall_mem_cons.mpr ⟨tb_400, List.forall_mem_cons.mpr ⟨tb_402, List.forall_mem_cons.mpr ⟨tb_404, List.forall_mem_cons.mpr ⟨tb_406, List.forall_mem_cons.mpr ⟨tb_408, List.forall_mem_cons.mpr ⟨tb_410, List.forall_mem_cons.mpr ⟨tb_412, fun _ h => absurd h List.not_mem_nil⟩⟩⟩⟩⟩⟩⟩⟩⟩⟩
set_option maxRecDepth 100000 in
theorem inX2 : ∀ w ∈ u_ws RX2 TX2 3, w ∈ zt := show ∀ w ∈ (_ :: _ : List Cond), w ∈ zt from List.forall_mem_cons.mpr ⟨tb_424, List.forall_mem_cons.mpr ⟨tb_426, List.forall_mem_cons.mpr ⟨tb_428, fun _ h => absurd h List.not_mem_nil⟩⟩⟩
set_option maxRecDepth 100000 in
theorem inX3 : ∀ w ∈ u_ws RX3 TX3 6, w ∈ zt := show ∀ w ∈ (_ :: _ : List Cond), w ∈ zt from List.forall_mem_cons.mpr ⟨tb_185, List.forall_mem_cons.mpr ⟨tb_187, List.forall_mem_cons.mpr ⟨tb_189, List.forall_mem_cons.mpr ⟨tb_191, List.forall_mem_cons.mpr ⟨tb_193, List.forall_mem_cons.mpr ⟨tb_195, fun _ h => absurd h List.not_mem_nil⟩⟩⟩⟩⟩⟩
set_option maxRecDepth 100000 in
theorem inX4 : ∀ w ∈ u_ws RX4 TX4 8, w ∈ zt := show ∀ w ∈ (_ :: _ : List Cond), w ∈ zt from List.forall_mem_cons.mpr ⟨tb_229, List.forall_mem_cons.mpr ⟨tb_231, List.forall_mem_cons.mpr ⟨tb_233, List.forall_mem_cons.mpr ⟨tb_235, List.forall_mem_cons.mpr ⟨tb_237, List.forall_mem_cons.mpr ⟨tb_239, List.forall_mem_cons.mpr ⟨tb_241, List.forall_mem_cons.mpr ⟨tb_243, fun _ h => absurd h List.not_mem_nil⟩⟩⟩⟩⟩⟩⟩⟩
set_option maxRecDepth 100000 in
theorem inX5 : ∀ w ∈ u_ws RX5 TX5 11, w ∈ zt := show ∀ w ∈ (_ :: _ : List Cond), w ∈ zt from List.forall_mem_cons.mpr ⟨tb_355, List.forall_mem_cons.mpr ⟨tb_357, List.forall_mem_cons.mpr ⟨tb_359, List.forall_mem_cons.mpr ⟨tb_361, List.forall_mem_cons.mpr ⟨tb_363, List.forall_mem_cons.mpr ⟨tb_365, List.forall_mem_cons.mpr ⟨tb_367, List.forall_mem_cons.mpr ⟨tb_369, List.forall_mem_cons.mpr ⟨tb_371, List.forall_mem_cons.mpr ⟨tb_373, List.forall_mem_cons.mpr ⟨tb_375, fun _ h => absurd h List.not_mem_nil⟩⟩⟩⟩⟩⟩⟩⟩⟩⟩⟩
set_option maxRecDepth 100000 in
theorem inX6 : ∀ w ∈ u_ws RX6 TX6 7, w ∈ zt := show ∀ w ∈ (_ :: _ : List Cond), w ∈ zt from List.forall_mem_cons.mpr ⟨tb_48, List.forall_mem_cons.mpr ⟨tb_50, List.forall_mem_cons.mpr ⟨tb_52, List.forall_mem_cons.mpr ⟨tb_54, List.forall_mem_cons.mpr ⟨tb_56, List.forall_mem_cons.mpr ⟨tb_58, List.forall_mem_cons.mpr ⟨tb_60, fun _ h => absurd h List.not_mem_nil⟩⟩⟩⟩⟩⟩⟩
set_option maxRecDepth 100000 in
theorem inX7 : ∀ w ∈ u_ws RX7 TX7 14, w ∈ zt := show ∀ w ∈ (_ :: _ : List Cond), w ∈ zt from List.forall_mem_cons.mpr ⟨tb_300, List.forall_mem_cons.mpr ⟨tb_302, List.forall_mem_cons.mpr ⟨tb_304, List.forall_mem_cons.mpr ⟨tb_306, List.forall_mem_cons.mpr ⟨tb_308, List.forall_mem_cons.mpr ⟨tb_310, List.forall_mem_cons.mpr ⟨tb_312, List.forall_mem_cons.mpr ⟨tb_314, List.forall_mem_cons.mpr ⟨tb_316, List.forall_mem_cons.mpr ⟨tb_318, List.forall_mem_cons.mpr ⟨tb_320, List.forall_mem_cons.mpr ⟨tb_322, List.forall_mem_cons.mpr ⟨tb_324, List.forall_mem_cons.mpr ⟨tb_326, fun _ h => absurd h List.not_mem_nil⟩⟩⟩⟩⟩⟩⟩⟩⟩⟩⟩⟩⟩⟩
set_option maxRecDepth 100000 in
theorem inX8 : ∀ w ∈ u_ws RX8 TX8 6, w ∈ zt := show ∀ w ∈ (_ :: _ : List Cond), w ∈ zt from List.forall_mem_cons.mpr ⟨tb_74, List.forall_mem_cons.mpr ⟨tb_76, List.forall_mem_cons.mpr ⟨tb_78, List.forall_mem_cons.mpr ⟨tb_80, List.forall_mem_cons.mpr ⟨tb_82, List.forall_mem_cons.mpr ⟨tb_84, fun _ h => absurd h List.not_mem_nil⟩⟩⟩⟩⟩⟩
set_option maxRecDepth 100000 in
theorem inX9 : ∀ w ∈ u_ws RX9 TX9 15, w ∈ zt := show ∀ w ∈ (_ :: _ : List Cond), w ∈ zt from List.forall_mem_cons.mpr ⟨tb_136, List.forall_mem_cons.mpr ⟨tb_138, List.forall_mem_cons.mpr ⟨tb_140, List.forall_mem_cons.mpr ⟨tb_142, List.forall_mem_cons.mpr ⟨tb_144, List.forall_mem_cons.mpr ⟨tb_146, List.forall_mem_cons.mpr ⟨tb_148, List.forall_mem_cons.mpr ⟨tb_150, List.forall_mem_cons.mpr ⟨tb_152, List.forall_mem_cons.mpr ⟨tb_154, List.forall_mem_cons.mpr ⟨tb_156, List.forall_mem_cons.mpr ⟨tb_158, List.forall_mem_cons.mpr ⟨tb_160, List.forall_mem_cons.mpr ⟨tb_162, List.forall_mem_cons.mpr ⟨tb_164, fun _ h => absurd h List.not_mem_nil⟩⟩⟩⟩⟩⟩⟩⟩⟩⟩⟩⟩⟩⟩⟩
set_option maxRecDepth 100000 in
theorem inX10 : ∀ w ∈ u_ws RX10 TX10 17, w ∈ zt := show ∀ w ∈ (_ :: _ : List Cond), w ∈ zt from List.forall_mem_cons.mpr ⟨tb_448, List.forall_mem_cons.mpr ⟨tb_450, List.forall_mem_cons.mpr ⟨tb_452, List.forall_mem_cons.mpr ⟨tb_454, List.forall_mem_cons.mpr ⟨tb_456, List.forall_mem_cons.mpr ⟨tb_458, List.forall_mem_cons.mpr ⟨tb_460, List.forall_mem_cons.mpr ⟨tb_462, List.forall_mem_cons.mpr ⟨tb_464, List.forall_mem_cons.mpr ⟨tb_466, List.forall_mem_cons.mpr ⟨tb_468, List.forall_mem_cons.mpr ⟨tb_470, List.forall_mem_cons.mpr ⟨tb_472, List.forall_mem_cons.mpr ⟨tb_474, List.forall_mem_cons.mpr ⟨tb_476, List.forall_mem_cons.mpr ⟨tb_478, List.forall_mem_cons.mpr ⟨tb_480, fun _ h => absurd h List.not_mem_nil⟩⟩⟩⟩⟩⟩⟩⟩⟩⟩⟩⟩⟩⟩⟩⟩⟩
set_option maxRecDepth 100000 in
theorem inX11 : ∀ w ∈ u_ws RX11 TX11 64, w ∈ zt := show ∀ w ∈ (_ :: _ : List Cond), w ∈ zt from List.forall_mem_cons.mpr ⟨tb_1066, List.forall_mem_cons.mpr ⟨tb_1068, List.forall_mem_cons.mpr ⟨tb_1070, List.forall_mem_cons.mpr ⟨tb_1072, List.forall_mem_cons.mpr ⟨tb_1074, List.forall_mem_cons.mpr ⟨tb_1076, List.forall_mem_cons.mpr ⟨tb_1078, List.forall_mem_cons.mpr ⟨tb_1080, List.forall_mem_cons.mpr ⟨tb_1082, List.forall_mem_cons.mpr ⟨tb_1084, List.forall_mem_cons.mpr ⟨tb_1086, List.forall_mem_cons.mpr ⟨tb_1088, List.forall_mem_cons.mpr ⟨tb_1090, List.forall_mem_cons.mpr ⟨tb_1092, List.forall_mem_cons.mpr ⟨tb_1094, List.forall_mem_cons.mpr ⟨tb_1096, List.forall_mem_cons.mpr ⟨tb_1098, List.forall_mem_cons.mpr ⟨tb_1100, List.forall_mem_cons.mpr ⟨tb_1102, List.forall_mem_cons.mpr ⟨tb_1104, List.forall_mem_cons.mpr ⟨tb_1106, List.forall_mem_cons.mpr ⟨tb_1108, List.forall_mem_cons.mpr ⟨tb_1110, List.forall_mem_cons.mpr ⟨tb_1112, List.forall_mem_cons.mpr ⟨tb_1114, List.forall_mem_cons.mpr ⟨tb_1116, List.forall_mem_cons.mpr ⟨tb_1118, List.forall_mem_cons.mpr ⟨tb_1120, List.forall_mem_cons.mpr ⟨tb_1122, List.forall_mem_cons.mpr ⟨tb_1124, List.forall_mem_cons.mpr ⟨tb_1126, List.forall_mem_cons.mpr ⟨tb_1128, List.forall_mem_cons.mpr ⟨tb_1130, List.forall_mem_cons.mpr ⟨tb_1132, List.forall_mem_cons.mpr ⟨tb_1134, List.forall_mem_cons.mpr ⟨tb_1136, List.forall_mem_cons.mpr ⟨tb_1138, List.forall_mem_cons.mpr ⟨tb_1140, List.forall_mem_cons.mpr ⟨tb_1142, List.forall_mem_cons.mpr ⟨tb_1144, List.forall_mem_cons.mpr ⟨tb_1146, List.forall_mem_cons.mpr ⟨tb_1148, List.forall_mem_cons.mpr ⟨tb_1150, List.forall_mem_cons.mpr ⟨tb_1152, List.forall_mem_cons.mpr ⟨tb_1154, List.forall_mem_cons.mpr ⟨tb_1156, List.forall_mem_cons.mpr ⟨tb_1158, List.forall_mem_cons.mpr ⟨tb_1160, List.forall_mem_cons.mpr ⟨tb_1162, List.forall_mem_cons.mpr ⟨tb_1164, List.forall_mem_cons.mpr ⟨tb_1166, List.forall_mem_cons.mpr ⟨tb_1168, List.forall_mem_cons.mpr ⟨tb_1170, List.forall_mem_cons.mpr ⟨tb_1172, List.forall_mem_cons.mpr ⟨tb_1174, List.forall_mem_cons.mpr ⟨tb_1176, List.forall_mem_cons.mpr ⟨tb_1178, List.forall_mem_cons.mpr ⟨tb_1180, List.forall_mem_cons.mpr ⟨tb_1182, List.forall_mem_cons.mpr ⟨tb_1184, List.forall_mem_cons.mpr ⟨tb_1186, List.forall_mem_cons.mpr ⟨tb_1188, List.forall_mem_cons.mpr ⟨tb_1190, List.forall_mem_cons.mpr ⟨tb_1192, fun _ h => absurd h List.not_mem_nil⟩⟩⟩⟩⟩⟩⟩⟩⟩⟩⟩⟩⟩⟩⟩⟩⟩⟩⟩⟩⟩⟩⟩⟩⟩⟩⟩⟩⟩⟩⟩⟩⟩⟩⟩⟩⟩⟩⟩⟩⟩⟩⟩⟩⟩⟩⟩⟩⟩⟩⟩⟩⟩⟩⟩⟩⟩⟩⟩⟩⟩⟩⟩⟩
