/-- a private method of a class that the tables say can be made, by its rows of tables_1 -/
def lw_okq (q : MethodName × Nat) : Prop := (q.1.cls ≠ "java/lang/invoke/MethodHandle" ∧ q.1.cls ≠ "java/lang/invoke/VarHandle") ∧ Cond.instantiable q.1.cls q.2 ∈ tables_1 ∧ Cond.privateMethod q.1 ∈ tables_1 ∧ Cond.instanceMethod q.1 ∈ tables_1
theorem lw_p0 : lw_okq (⟨"RoundVotes", "isNode", "(I)Z"⟩, 12) := ⟨⟨by decide +kernel, by decide +kernel⟩, List.mem_of_getElem? (i := 16) (by decide +kernel), List.mem_of_getElem? (i := 370) (by decide +kernel), List.mem_of_getElem? (i := 371) (by decide +kernel)⟩
theorem lw_p1 : lw_okq (⟨"RoundVotes", "greatestHeight", "()I"⟩, 12) := ⟨⟨by decide +kernel, by decide +kernel⟩, List.mem_of_getElem? (i := 16) (by decide +kernel), List.mem_of_getElem? (i := 375) (by decide +kernel), List.mem_of_getElem? (i := 376) (by decide +kernel)⟩
theorem lw_p2 : lw_okq (⟨"RoundVotes", "beginAll", "()V"⟩, 12) := ⟨⟨by decide +kernel, by decide +kernel⟩, List.mem_of_getElem? (i := 16) (by decide +kernel), List.mem_of_getElem? (i := 416) (by decide +kernel), List.mem_of_getElem? (i := 417) (by decide +kernel)⟩
theorem lw_p3 : lw_okq (⟨"RoundVotes$Node", "standsStill", "()Z"⟩, 18) := ⟨⟨by decide +kernel, by decide +kernel⟩, List.mem_of_getElem? (i := 118) (by decide +kernel), List.mem_of_getElem? (i := 424) (by decide +kernel), List.mem_of_getElem? (i := 425) (by decide +kernel)⟩
theorem lw_p4 : lw_okq (⟨"RoundVotes$Node", "send", "(III)V"⟩, 18) := ⟨⟨by decide +kernel, by decide +kernel⟩, List.mem_of_getElem? (i := 118) (by decide +kernel), List.mem_of_getElem? (i := 443) (by decide +kernel), List.mem_of_getElem? (i := 444) (by decide +kernel)⟩
theorem lw_p5 : lw_okq (⟨"RoundVotes", "settle", "(LRoundVotes$Node;)V"⟩, 12) := ⟨⟨by decide +kernel, by decide +kernel⟩, List.mem_of_getElem? (i := 16) (by decide +kernel), List.mem_of_getElem? (i := 463) (by decide +kernel), List.mem_of_getElem? (i := 464) (by decide +kernel)⟩
theorem lw_p6 : lw_okq (⟨"RoundVotes", "dispatch", "(LRoundVotes$Node;)V"⟩, 12) := ⟨⟨by decide +kernel, by decide +kernel⟩, List.mem_of_getElem? (i := 16) (by decide +kernel), List.mem_of_getElem? (i := 467) (by decide +kernel), List.mem_of_getElem? (i := 468) (by decide +kernel)⟩
theorem lw_p7 : lw_okq (⟨"RoundVotes", "sendCopy", "(LRoundVotes$Message;)V"⟩, 12) := ⟨⟨by decide +kernel, by decide +kernel⟩, List.mem_of_getElem? (i := 16) (by decide +kernel), List.mem_of_getElem? (i := 489) (by decide +kernel), List.mem_of_getElem? (i := 490) (by decide +kernel)⟩
theorem lw_p8 : lw_okq (⟨"RoundVotes", "areOnUnlikeSides", "(II)Z"⟩, 12) := ⟨⟨by decide +kernel, by decide +kernel⟩, List.mem_of_getElem? (i := 16) (by decide +kernel), List.mem_of_getElem? (i := 497) (by decide +kernel), List.mem_of_getElem? (i := 498) (by decide +kernel)⟩
theorem lw_p9 : lw_okq (⟨"RoundVotes$Node", "roundToDecide", "()I"⟩, 18) := ⟨⟨by decide +kernel, by decide +kernel⟩, List.mem_of_getElem? (i := 118) (by decide +kernel), List.mem_of_getElem? (i := 514) (by decide +kernel), List.mem_of_getElem? (i := 515) (by decide +kernel)⟩
theorem lw_p10 : lw_okq (⟨"RoundVotes$Node", "proposalOf", "(I)I"⟩, 18) := ⟨⟨by decide +kernel, by decide +kernel⟩, List.mem_of_getElem? (i := 118) (by decide +kernel), List.mem_of_getElem? (i := 518) (by decide +kernel), List.mem_of_getElem? (i := 519) (by decide +kernel)⟩
theorem lw_p11 : lw_okq (⟨"RoundVotes$Node", "areMany", "(I)Z"⟩, 18) := ⟨⟨by decide +kernel, by decide +kernel⟩, List.mem_of_getElem? (i := 118) (by decide +kernel), List.mem_of_getElem? (i := 527) (by decide +kernel), List.mem_of_getElem? (i := 528) (by decide +kernel)⟩
theorem lw_p12 : lw_okq (⟨"RoundVotes$Node", "decide", "(I)V"⟩, 18) := ⟨⟨by decide +kernel, by decide +kernel⟩, List.mem_of_getElem? (i := 118) (by decide +kernel), List.mem_of_getElem? (i := 535) (by decide +kernel), List.mem_of_getElem? (i := 536) (by decide +kernel)⟩
theorem lw_p13 : lw_okq (⟨"RoundVotes$Node", "goToNextHeight", "()V"⟩, 18) := ⟨⟨by decide +kernel, by decide +kernel⟩, List.mem_of_getElem? (i := 118) (by decide +kernel), List.mem_of_getElem? (i := 543) (by decide +kernel), List.mem_of_getElem? (i := 544) (by decide +kernel)⟩
theorem lw_p14 : lw_okq (⟨"RoundVotes$Node", "roundToJoin", "()I"⟩, 18) := ⟨⟨by decide +kernel, by decide +kernel⟩, List.mem_of_getElem? (i := 118) (by decide +kernel), List.mem_of_getElem? (i := 556) (by decide +kernel), List.mem_of_getElem? (i := 557) (by decide +kernel)⟩
theorem lw_p15 : lw_okq (⟨"RoundVotes$Node", "areSome", "(I)Z"⟩, 18) := ⟨⟨by decide +kernel, by decide +kernel⟩, List.mem_of_getElem? (i := 118) (by decide +kernel), List.mem_of_getElem? (i := 565) (by decide +kernel), List.mem_of_getElem? (i := 566) (by decide +kernel)⟩
def lw_privs_1 : List (MethodName × Nat) := [(⟨"RoundVotes", "isNode", "(I)Z"⟩, 12), (⟨"RoundVotes", "greatestHeight", "()I"⟩, 12), (⟨"RoundVotes", "beginAll", "()V"⟩, 12), (⟨"RoundVotes$Node", "standsStill", "()Z"⟩, 18), (⟨"RoundVotes$Node", "send", "(III)V"⟩, 18), (⟨"RoundVotes", "settle", "(LRoundVotes$Node;)V"⟩, 12), (⟨"RoundVotes", "dispatch", "(LRoundVotes$Node;)V"⟩, 12), (⟨"RoundVotes", "sendCopy", "(LRoundVotes$Message;)V"⟩, 12), (⟨"RoundVotes", "areOnUnlikeSides", "(II)Z"⟩, 12), (⟨"RoundVotes$Node", "roundToDecide", "()I"⟩, 18), (⟨"RoundVotes$Node", "proposalOf", "(I)I"⟩, 18), (⟨"RoundVotes$Node", "areMany", "(I)Z"⟩, 18), (⟨"RoundVotes$Node", "decide", "(I)V"⟩, 18), (⟨"RoundVotes$Node", "goToNextHeight", "()V"⟩, 18), (⟨"RoundVotes$Node", "roundToJoin", "()I"⟩, 18), (⟨"RoundVotes$Node", "areSome", "(I)Z"⟩, 18)]
theorem lw_r1 : ∀ q ∈ lw_privs_1, lw_okq q := List.forall_mem_cons.mpr ⟨lw_p0, List.forall_mem_cons.mpr ⟨lw_p1, List.forall_mem_cons.mpr ⟨lw_p2, List.forall_mem_cons.mpr ⟨lw_p3, List.forall_mem_cons.mpr ⟨lw_p4, List.forall_mem_cons.mpr ⟨lw_p5, List.forall_mem_cons.mpr ⟨lw_p6, List.forall_mem_cons.mpr ⟨lw_p7, List.forall_mem_cons.mpr ⟨lw_p8, List.forall_mem_cons.mpr ⟨lw_p9, List.forall_mem_cons.mpr ⟨lw_p10, List.forall_mem_cons.mpr ⟨lw_p11, List.forall_mem_cons.mpr ⟨lw_p12, List.forall_mem_cons.mpr ⟨lw_p13, List.forall_mem_cons.mpr ⟨lw_p14, List.forall_mem_cons.mpr ⟨lw_p15, fun _ h => absurd h List.not_mem_nil⟩⟩⟩⟩⟩⟩⟩⟩⟩⟩⟩⟩⟩⟩⟩⟩
theorem lw_p16 : lw_okq (⟨"RoundVotes$Node", "answersProposal", "()Z"⟩, 18) := ⟨⟨by decide +kernel, by decide +kernel⟩, List.mem_of_getElem? (i := 118) (by decide +kernel), List.mem_of_getElem? (i := 569) (by decide +kernel), List.mem_of_getElem? (i := 570) (by decide +kernel)⟩
theorem lw_p17 : lw_okq (⟨"RoundVotes$Node", "lockAllows", "(II)Z"⟩, 18) := ⟨⟨by decide +kernel, by decide +kernel⟩, List.mem_of_getElem? (i := 118) (by decide +kernel), List.mem_of_getElem? (i := 573) (by decide +kernel), List.mem_of_getElem? (i := 574) (by decide +kernel)⟩
theorem lw_p18 : lw_okq (⟨"RoundVotes$Node", "locks", "()Z"⟩, 18) := ⟨⟨by decide +kernel, by decide +kernel⟩, List.mem_of_getElem? (i := 118) (by decide +kernel), List.mem_of_getElem? (i := 577) (by decide +kernel), List.mem_of_getElem? (i := 578) (by decide +kernel)⟩
theorem lw_p19 : lw_okq (⟨"RoundVotes$Node", "givesUpValue", "()Z"⟩, 18) := ⟨⟨by decide +kernel, by decide +kernel⟩, List.mem_of_getElem? (i := 118) (by decide +kernel), List.mem_of_getElem? (i := 581) (by decide +kernel), List.mem_of_getElem? (i := 582) (by decide +kernel)⟩
theorem lw_p20 : lw_okq (⟨"RoundVotes$Node", "waitsForPrevotes", "(I)Z"⟩, 18) := ⟨⟨by decide +kernel, by decide +kernel⟩, List.mem_of_getElem? (i := 118) (by decide +kernel), List.mem_of_getElem? (i := 585) (by decide +kernel), List.mem_of_getElem? (i := 586) (by decide +kernel)⟩
theorem lw_p21 : lw_okq (⟨"RoundVotes$Node", "waitsForPrecommits", "(I)Z"⟩, 18) := ⟨⟨by decide +kernel, by decide +kernel⟩, List.mem_of_getElem? (i := 118) (by decide +kernel), List.mem_of_getElem? (i := 589) (by decide +kernel), List.mem_of_getElem? (i := 590) (by decide +kernel)⟩
theorem lw_p22 : lw_okq (⟨"RoundVotes", "bringNodesBack", "()V"⟩, 12) := ⟨⟨by decide +kernel, by decide +kernel⟩, List.mem_of_getElem? (i := 16) (by decide +kernel), List.mem_of_getElem? (i := 593) (by decide +kernel), List.mem_of_getElem? (i := 594) (by decide +kernel)⟩
theorem lw_p23 : lw_okq (⟨"RoundVotes", "bringCopies", "()V"⟩, 12) := ⟨⟨by decide +kernel, by decide +kernel⟩, List.mem_of_getElem? (i := 16) (by decide +kernel), List.mem_of_getElem? (i := 601) (by decide +kernel), List.mem_of_getElem? (i := 602) (by decide +kernel)⟩
theorem lw_p24 : lw_okq (⟨"RoundVotes", "handOver", "(LRoundVotes$Message;)V"⟩, 12) := ⟨⟨by decide +kernel, by decide +kernel⟩, List.mem_of_getElem? (i := 16) (by decide +kernel), List.mem_of_getElem? (i := 605) (by decide +kernel), List.mem_of_getElem? (i := 606) (by decide +kernel)⟩
theorem lw_p25 : lw_okq (⟨"RoundVotes$Faults", "isKnown", "(LRoundVotes$Message;)Z"⟩, 2) := ⟨⟨by decide +kernel, by decide +kernel⟩, List.mem_of_getElem? (i := 68) (by decide +kernel), List.mem_of_getElem? (i := 617) (by decide +kernel), List.mem_of_getElem? (i := 618) (by decide +kernel)⟩
theorem lw_p26 : lw_okq (⟨"RoundVotes", "endTimers", "()V"⟩, 12) := ⟨⟨by decide +kernel, by decide +kernel⟩, List.mem_of_getElem? (i := 16) (by decide +kernel), List.mem_of_getElem? (i := 629) (by decide +kernel), List.mem_of_getElem? (i := 630) (by decide +kernel)⟩
theorem lw_p27 : lw_okq (⟨"RoundVotes", "tellerOf", "(II)I"⟩, 12) := ⟨⟨by decide +kernel, by decide +kernel⟩, List.mem_of_getElem? (i := 16) (by decide +kernel), List.mem_of_getElem? (i := 641) (by decide +kernel), List.mem_of_getElem? (i := 642) (by decide +kernel)⟩
theorem lw_p28 : lw_okq (⟨"RoundVotes", "greatestDecided", "()I"⟩, 12) := ⟨⟨by decide +kernel, by decide +kernel⟩, List.mem_of_getElem? (i := 16) (by decide +kernel), List.mem_of_getElem? (i := 689) (by decide +kernel), List.mem_of_getElem? (i := 690) (by decide +kernel)⟩
theorem lw_p29 : lw_okq (⟨"RoundVotesModel", "clearHeight", "(II)V"⟩, 53) := ⟨⟨by decide +kernel, by decide +kernel⟩, List.mem_of_getElem? (i := 700) (by decide +kernel), List.mem_of_getElem? (i := 707) (by decide +kernel), List.mem_of_getElem? (i := 708) (by decide +kernel)⟩
theorem lw_p30 : lw_okq (⟨"RoundVotesModel", "place", "(IIIII)I"⟩, 53) := ⟨⟨by decide +kernel, by decide +kernel⟩, List.mem_of_getElem? (i := 700) (by decide +kernel), List.mem_of_getElem? (i := 711) (by decide +kernel), List.mem_of_getElem? (i := 712) (by decide +kernel)⟩
theorem lw_p31 : lw_okq (⟨"RoundVotesModel", "roundPlace", "(IIII)I"⟩, 53) := ⟨⟨by decide +kernel, by decide +kernel⟩, List.mem_of_getElem? (i := 700) (by decide +kernel), List.mem_of_getElem? (i := 715) (by decide +kernel), List.mem_of_getElem? (i := 716) (by decide +kernel)⟩
def lw_privs_2 : List (MethodName × Nat) := [(⟨"RoundVotes$Node", "answersProposal", "()Z"⟩, 18), (⟨"RoundVotes$Node", "lockAllows", "(II)Z"⟩, 18), (⟨"RoundVotes$Node", "locks", "()Z"⟩, 18), (⟨"RoundVotes$Node", "givesUpValue", "()Z"⟩, 18), (⟨"RoundVotes$Node", "waitsForPrevotes", "(I)Z"⟩, 18), (⟨"RoundVotes$Node", "waitsForPrecommits", "(I)Z"⟩, 18), (⟨"RoundVotes", "bringNodesBack", "()V"⟩, 12), (⟨"RoundVotes", "bringCopies", "()V"⟩, 12), (⟨"RoundVotes", "handOver", "(LRoundVotes$Message;)V"⟩, 12), (⟨"RoundVotes$Faults", "isKnown", "(LRoundVotes$Message;)Z"⟩, 2), (⟨"RoundVotes", "endTimers", "()V"⟩, 12), (⟨"RoundVotes", "tellerOf", "(II)I"⟩, 12), (⟨"RoundVotes", "greatestDecided", "()I"⟩, 12), (⟨"RoundVotesModel", "clearHeight", "(II)V"⟩, 53), (⟨"RoundVotesModel", "place", "(IIIII)I"⟩, 53), (⟨"RoundVotesModel", "roundPlace", "(IIII)I"⟩, 53)]
theorem lw_r2 : ∀ q ∈ lw_privs_2, lw_okq q := List.forall_mem_cons.mpr ⟨lw_p16, List.forall_mem_cons.mpr ⟨lw_p17, List.forall_mem_cons.mpr ⟨lw_p18, List.forall_mem_cons.mpr ⟨lw_p19, List.forall_mem_cons.mpr ⟨lw_p20, List.forall_mem_cons.mpr ⟨lw_p21, List.forall_mem_cons.mpr ⟨lw_p22, List.forall_mem_cons.mpr ⟨lw_p23, List.forall_mem_cons.mpr ⟨lw_p24, List.forall_mem_cons.mpr ⟨lw_p25, List.forall_mem_cons.mpr ⟨lw_p26, List.forall_mem_cons.mpr ⟨lw_p27, List.forall_mem_cons.mpr ⟨lw_p28, List.forall_mem_cons.mpr ⟨lw_p29, List.forall_mem_cons.mpr ⟨lw_p30, List.forall_mem_cons.mpr ⟨lw_p31, fun _ h => absurd h List.not_mem_nil⟩⟩⟩⟩⟩⟩⟩⟩⟩⟩⟩⟩⟩⟩⟩⟩
theorem lw_p32 : lw_okq (⟨"RoundVotesModel", "clearSigned", "(I)V"⟩, 53) := ⟨⟨by decide +kernel, by decide +kernel⟩, List.mem_of_getElem? (i := 700) (by decide +kernel), List.mem_of_getElem? (i := 719) (by decide +kernel), List.mem_of_getElem? (i := 720) (by decide +kernel)⟩
theorem lw_p33 : lw_okq (⟨"RoundVotesModel", "oneTurn", "()V"⟩, 53) := ⟨⟨by decide +kernel, by decide +kernel⟩, List.mem_of_getElem? (i := 700) (by decide +kernel), List.mem_of_getElem? (i := 892) (by decide +kernel), List.mem_of_getElem? (i := 893) (by decide +kernel)⟩
theorem lw_p34 : lw_okq (⟨"RoundVotesModel", "begin", "(II)V"⟩, 53) := ⟨⟨by decide +kernel, by decide +kernel⟩, List.mem_of_getElem? (i := 700) (by decide +kernel), List.mem_of_getElem? (i := 896) (by decide +kernel), List.mem_of_getElem? (i := 897) (by decide +kernel)⟩
theorem lw_p35 : lw_okq (⟨"RoundVotesModel", "proposer", "(II)I"⟩, 53) := ⟨⟨by decide +kernel, by decide +kernel⟩, List.mem_of_getElem? (i := 700) (by decide +kernel), List.mem_of_getElem? (i := 900) (by decide +kernel), List.mem_of_getElem? (i := 901) (by decide +kernel)⟩
theorem lw_p36 : lw_okq (⟨"RoundVotesModel", "send", "(IIII)V"⟩, 53) := ⟨⟨by decide +kernel, by decide +kernel⟩, List.mem_of_getElem? (i := 700) (by decide +kernel), List.mem_of_getElem? (i := 904) (by decide +kernel), List.mem_of_getElem? (i := 905) (by decide +kernel)⟩
theorem lw_p37 : lw_okq (⟨"RoundVotesModel", "keep", "(IIIIIIIZ)V"⟩, 53) := ⟨⟨by decide +kernel, by decide +kernel⟩, List.mem_of_getElem? (i := 700) (by decide +kernel), List.mem_of_getElem? (i := 908) (by decide +kernel), List.mem_of_getElem? (i := 909) (by decide +kernel)⟩
theorem lw_p38 : lw_okq (⟨"RoundVotesModel", "accuse", "(IIIII)V"⟩, 53) := ⟨⟨by decide +kernel, by decide +kernel⟩, List.mem_of_getElem? (i := 700) (by decide +kernel), List.mem_of_getElem? (i := 912) (by decide +kernel), List.mem_of_getElem? (i := 913) (by decide +kernel)⟩
theorem lw_p39 : lw_okq (⟨"RoundVotesModel", "copy", "(IIIIIII)V"⟩, 53) := ⟨⟨by decide +kernel, by decide +kernel⟩, List.mem_of_getElem? (i := 700) (by decide +kernel), List.mem_of_getElem? (i := 919) (by decide +kernel), List.mem_of_getElem? (i := 920) (by decide +kernel)⟩
theorem lw_p40 : lw_okq (⟨"RoundVotesModel", "noteSent", "(IIIII)V"⟩, 53) := ⟨⟨by decide +kernel, by decide +kernel⟩, List.mem_of_getElem? (i := 700) (by decide +kernel), List.mem_of_getElem? (i := 923) (by decide +kernel), List.mem_of_getElem? (i := 924) (by decide +kernel)⟩
theorem lw_p41 : lw_okq (⟨"RoundVotesModel", "sentPlace", "(IIII)I"⟩, 53) := ⟨⟨by decide +kernel, by decide +kernel⟩, List.mem_of_getElem? (i := 700) (by decide +kernel), List.mem_of_getElem? (i := 927) (by decide +kernel), List.mem_of_getElem? (i := 928) (by decide +kernel)⟩
theorem lw_p42 : lw_okq (⟨"RoundVotesModel", "areApart", "(II)Z"⟩, 53) := ⟨⟨by decide +kernel, by decide +kernel⟩, List.mem_of_getElem? (i := 700) (by decide +kernel), List.mem_of_getElem? (i := 931) (by decide +kernel), List.mem_of_getElem? (i := 932) (by decide +kernel)⟩
theorem lw_p43 : lw_okq (⟨"RoundVotesModel", "put", "(IIIIIIIIZ)V"⟩, 53) := ⟨⟨by decide +kernel, by decide +kernel⟩, List.mem_of_getElem? (i := 700) (by decide +kernel), List.mem_of_getElem? (i := 935) (by decide +kernel), List.mem_of_getElem? (i := 936) (by decide +kernel)⟩
theorem lw_p44 : lw_okq (⟨"RoundVotesModel", "ownValue", "(III)I"⟩, 53) := ⟨⟨by decide +kernel, by decide +kernel⟩, List.mem_of_getElem? (i := 700) (by decide +kernel), List.mem_of_getElem? (i := 939) (by decide +kernel), List.mem_of_getElem? (i := 940) (by decide +kernel)⟩
theorem lw_p45 : lw_okq (⟨"RoundVotesModel", "rules", "(I)V"⟩, 53) := ⟨⟨by decide +kernel, by decide +kernel⟩, List.mem_of_getElem? (i := 700) (by decide +kernel), List.mem_of_getElem? (i := 946) (by decide +kernel), List.mem_of_getElem? (i := 947) (by decide +kernel)⟩
theorem lw_p46 : lw_okq (⟨"RoundVotesModel", "ruleA", "(I)Z"⟩, 53) := ⟨⟨by decide +kernel, by decide +kernel⟩, List.mem_of_getElem? (i := 700) (by decide +kernel), List.mem_of_getElem? (i := 950) (by decide +kernel), List.mem_of_getElem? (i := 951) (by decide +kernel)⟩
theorem lw_p47 : lw_okq (⟨"RoundVotesModel", "proposal", "(II)I"⟩, 53) := ⟨⟨by decide +kernel, by decide +kernel⟩, List.mem_of_getElem? (i := 700) (by decide +kernel), List.mem_of_getElem? (i := 954) (by decide +kernel), List.mem_of_getElem? (i := 955) (by decide +kernel)⟩
def lw_privs_3 : List (MethodName × Nat) := [(⟨"RoundVotesModel", "clearSigned", "(I)V"⟩, 53), (⟨"RoundVotesModel", "oneTurn", "()V"⟩, 53), (⟨"RoundVotesModel", "begin", "(II)V"⟩, 53), (⟨"RoundVotesModel", "proposer", "(II)I"⟩, 53), (⟨"RoundVotesModel", "send", "(IIII)V"⟩, 53), (⟨"RoundVotesModel", "keep", "(IIIIIIIZ)V"⟩, 53), (⟨"RoundVotesModel", "accuse", "(IIIII)V"⟩, 53), (⟨"RoundVotesModel", "copy", "(IIIIIII)V"⟩, 53), (⟨"RoundVotesModel", "noteSent", "(IIIII)V"⟩, 53), (⟨"RoundVotesModel", "sentPlace", "(IIII)I"⟩, 53), (⟨"RoundVotesModel", "areApart", "(II)Z"⟩, 53), (⟨"RoundVotesModel", "put", "(IIIIIIIIZ)V"⟩, 53), (⟨"RoundVotesModel", "ownValue", "(III)I"⟩, 53), (⟨"RoundVotesModel", "rules", "(I)V"⟩, 53), (⟨"RoundVotesModel", "ruleA", "(I)Z"⟩, 53), (⟨"RoundVotesModel", "proposal", "(II)I"⟩, 53)]
theorem lw_r3 : ∀ q ∈ lw_privs_3, lw_okq q := List.forall_mem_cons.mpr ⟨lw_p32, List.forall_mem_cons.mpr ⟨lw_p33, List.forall_mem_cons.mpr ⟨lw_p34, List.forall_mem_cons.mpr ⟨lw_p35, List.forall_mem_cons.mpr ⟨lw_p36, List.forall_mem_cons.mpr ⟨lw_p37, List.forall_mem_cons.mpr ⟨lw_p38, List.forall_mem_cons.mpr ⟨lw_p39, List.forall_mem_cons.mpr ⟨lw_p40, List.forall_mem_cons.mpr ⟨lw_p41, List.forall_mem_cons.mpr ⟨lw_p42, List.forall_mem_cons.mpr ⟨lw_p43, List.forall_mem_cons.mpr ⟨lw_p44, List.forall_mem_cons.mpr ⟨lw_p45, List.forall_mem_cons.mpr ⟨lw_p46, List.forall_mem_cons.mpr ⟨lw_p47, fun _ h => absurd h List.not_mem_nil⟩⟩⟩⟩⟩⟩⟩⟩⟩⟩⟩⟩⟩⟩⟩⟩
theorem lw_p48 : lw_okq (⟨"RoundVotesModel", "hasOf", "(IIII)I"⟩, 53) := ⟨⟨by decide +kernel, by decide +kernel⟩, List.mem_of_getElem? (i := 700) (by decide +kernel), List.mem_of_getElem? (i := 958) (by decide +kernel), List.mem_of_getElem? (i := 959) (by decide +kernel)⟩
theorem lw_p49 : lw_okq (⟨"RoundVotesModel", "votes", "(IIII)J"⟩, 53) := ⟨⟨by decide +kernel, by decide +kernel⟩, List.mem_of_getElem? (i := 700) (by decide +kernel), List.mem_of_getElem? (i := 962) (by decide +kernel), List.mem_of_getElem? (i := 963) (by decide +kernel)⟩
theorem lw_p50 : lw_okq (⟨"RoundVotesModel", "isMany", "(JI)Z"⟩, 53) := ⟨⟨by decide +kernel, by decide +kernel⟩, List.mem_of_getElem? (i := 700) (by decide +kernel), List.mem_of_getElem? (i := 966) (by decide +kernel), List.mem_of_getElem? (i := 967) (by decide +kernel)⟩
theorem lw_p51 : lw_okq (⟨"RoundVotesModel", "all", "(I)J"⟩, 53) := ⟨⟨by decide +kernel, by decide +kernel⟩, List.mem_of_getElem? (i := 700) (by decide +kernel), List.mem_of_getElem? (i := 972) (by decide +kernel), List.mem_of_getElem? (i := 973) (by decide +kernel)⟩
theorem lw_p52 : lw_okq (⟨"RoundVotesModel", "nextHeight", "(I)V"⟩, 53) := ⟨⟨by decide +kernel, by decide +kernel⟩, List.mem_of_getElem? (i := 700) (by decide +kernel), List.mem_of_getElem? (i := 976) (by decide +kernel), List.mem_of_getElem? (i := 977) (by decide +kernel)⟩
theorem lw_p53 : lw_okq (⟨"RoundVotesModel", "ruleB", "(I)Z"⟩, 53) := ⟨⟨by decide +kernel, by decide +kernel⟩, List.mem_of_getElem? (i := 700) (by decide +kernel), List.mem_of_getElem? (i := 980) (by decide +kernel), List.mem_of_getElem? (i := 981) (by decide +kernel)⟩
theorem lw_p54 : lw_okq (⟨"RoundVotesModel", "ruleC", "(I)Z"⟩, 53) := ⟨⟨by decide +kernel, by decide +kernel⟩, List.mem_of_getElem? (i := 700) (by decide +kernel), List.mem_of_getElem? (i := 984) (by decide +kernel), List.mem_of_getElem? (i := 985) (by decide +kernel)⟩
theorem lw_p55 : lw_okq (⟨"RoundVotesModel", "proposalSince", "(II)I"⟩, 53) := ⟨⟨by decide +kernel, by decide +kernel⟩, List.mem_of_getElem? (i := 700) (by decide +kernel), List.mem_of_getElem? (i := 988) (by decide +kernel), List.mem_of_getElem? (i := 989) (by decide +kernel)⟩
theorem lw_p56 : lw_okq (⟨"RoundVotesModel", "ruleD", "(I)Z"⟩, 53) := ⟨⟨by decide +kernel, by decide +kernel⟩, List.mem_of_getElem? (i := 700) (by decide +kernel), List.mem_of_getElem? (i := 992) (by decide +kernel), List.mem_of_getElem? (i := 993) (by decide +kernel)⟩
theorem lw_p57 : lw_okq (⟨"RoundVotesModel", "ruleE", "(I)Z"⟩, 53) := ⟨⟨by decide +kernel, by decide +kernel⟩, List.mem_of_getElem? (i := 700) (by decide +kernel), List.mem_of_getElem? (i := 996) (by decide +kernel), List.mem_of_getElem? (i := 997) (by decide +kernel)⟩
theorem lw_p58 : lw_okq (⟨"RoundVotesModel", "ruleF", "(I)Z"⟩, 53) := ⟨⟨by decide +kernel, by decide +kernel⟩, List.mem_of_getElem? (i := 700) (by decide +kernel), List.mem_of_getElem? (i := 1000) (by decide +kernel), List.mem_of_getElem? (i := 1001) (by decide +kernel)⟩
theorem lw_p59 : lw_okq (⟨"RoundVotesModel", "ruleG", "(I)Z"⟩, 53) := ⟨⟨by decide +kernel, by decide +kernel⟩, List.mem_of_getElem? (i := 700) (by decide +kernel), List.mem_of_getElem? (i := 1004) (by decide +kernel), List.mem_of_getElem? (i := 1005) (by decide +kernel)⟩
theorem lw_p60 : lw_okq (⟨"RoundVotesModel", "comeBack", "(I)V"⟩, 53) := ⟨⟨by decide +kernel, by decide +kernel⟩, List.mem_of_getElem? (i := 700) (by decide +kernel), List.mem_of_getElem? (i := 1008) (by decide +kernel), List.mem_of_getElem? (i := 1009) (by decide +kernel)⟩
theorem lw_p61 : lw_okq (⟨"RoundVotesModel", "deliver", "(ZI)V"⟩, 53) := ⟨⟨by decide +kernel, by decide +kernel⟩, List.mem_of_getElem? (i := 700) (by decide +kernel), List.mem_of_getElem? (i := 1012) (by decide +kernel), List.mem_of_getElem? (i := 1013) (by decide +kernel)⟩
theorem lw_p62 : lw_okq (⟨"RoundVotesModel", "timerEnds", "(II)V"⟩, 53) := ⟨⟨by decide +kernel, by decide +kernel⟩, List.mem_of_getElem? (i := 700) (by decide +kernel), List.mem_of_getElem? (i := 1016) (by decide +kernel), List.mem_of_getElem? (i := 1017) (by decide +kernel)⟩
theorem lw_p63 : lw_okq (⟨"RoundVotesModel", "tidy", "()V"⟩, 53) := ⟨⟨by decide +kernel, by decide +kernel⟩, List.mem_of_getElem? (i := 700) (by decide +kernel), List.mem_of_getElem? (i := 1020) (by decide +kernel), List.mem_of_getElem? (i := 1021) (by decide +kernel)⟩
def lw_privs_4 : List (MethodName × Nat) := [(⟨"RoundVotesModel", "hasOf", "(IIII)I"⟩, 53), (⟨"RoundVotesModel", "votes", "(IIII)J"⟩, 53), (⟨"RoundVotesModel", "isMany", "(JI)Z"⟩, 53), (⟨"RoundVotesModel", "all", "(I)J"⟩, 53), (⟨"RoundVotesModel", "nextHeight", "(I)V"⟩, 53), (⟨"RoundVotesModel", "ruleB", "(I)Z"⟩, 53), (⟨"RoundVotesModel", "ruleC", "(I)Z"⟩, 53), (⟨"RoundVotesModel", "proposalSince", "(II)I"⟩, 53), (⟨"RoundVotesModel", "ruleD", "(I)Z"⟩, 53), (⟨"RoundVotesModel", "ruleE", "(I)Z"⟩, 53), (⟨"RoundVotesModel", "ruleF", "(I)Z"⟩, 53), (⟨"RoundVotesModel", "ruleG", "(I)Z"⟩, 53), (⟨"RoundVotesModel", "comeBack", "(I)V"⟩, 53), (⟨"RoundVotesModel", "deliver", "(ZI)V"⟩, 53), (⟨"RoundVotesModel", "timerEnds", "(II)V"⟩, 53), (⟨"RoundVotesModel", "tidy", "()V"⟩, 53)]
theorem lw_r4 : ∀ q ∈ lw_privs_4, lw_okq q := List.forall_mem_cons.mpr ⟨lw_p48, List.forall_mem_cons.mpr ⟨lw_p49, List.forall_mem_cons.mpr ⟨lw_p50, List.forall_mem_cons.mpr ⟨lw_p51, List.forall_mem_cons.mpr ⟨lw_p52, List.forall_mem_cons.mpr ⟨lw_p53, List.forall_mem_cons.mpr ⟨lw_p54, List.forall_mem_cons.mpr ⟨lw_p55, List.forall_mem_cons.mpr ⟨lw_p56, List.forall_mem_cons.mpr ⟨lw_p57, List.forall_mem_cons.mpr ⟨lw_p58, List.forall_mem_cons.mpr ⟨lw_p59, List.forall_mem_cons.mpr ⟨lw_p60, List.forall_mem_cons.mpr ⟨lw_p61, List.forall_mem_cons.mpr ⟨lw_p62, List.forall_mem_cons.mpr ⟨lw_p63, fun _ h => absurd h List.not_mem_nil⟩⟩⟩⟩⟩⟩⟩⟩⟩⟩⟩⟩⟩⟩⟩⟩
theorem lw_p64 : lw_okq (⟨"RoundVotesModel", "noNode", "(I)Z"⟩, 53) := ⟨⟨by decide +kernel, by decide +kernel⟩, List.mem_of_getElem? (i := 700) (by decide +kernel), List.mem_of_getElem? (i := 1028) (by decide +kernel), List.mem_of_getElem? (i := 1029) (by decide +kernel)⟩
def lw_privs_5 : List (MethodName × Nat) := [(⟨"RoundVotesModel", "noNode", "(I)Z"⟩, 53)]
theorem lw_r5 : ∀ q ∈ lw_privs_5, lw_okq q := List.forall_mem_cons.mpr ⟨lw_p64, fun _ h => absurd h List.not_mem_nil⟩
def lw_privs : List (MethodName × Nat) := lw_privs_1 ++ (lw_privs_2 ++ (lw_privs_3 ++ (lw_privs_4 ++ (lw_privs_5))))
def lw_tbl : List Cond := k2_sels lw_privs ++ tables_1
theorem lw_privs_ok : ∀ q ∈ lw_privs, lw_okq q := by
  show ∀ q ∈ lw_privs_1 ++ (lw_privs_2 ++ (lw_privs_3 ++ (lw_privs_4 ++ (lw_privs_5)))), lw_okq q
  exact List.forall_mem_append.mpr ⟨lw_r1, List.forall_mem_append.mpr ⟨lw_r2, List.forall_mem_append.mpr ⟨lw_r3, List.forall_mem_append.mpr ⟨lw_r4, lw_r5⟩⟩⟩⟩
def RX0 : String := "RoundVotes$Ballots"
def TX0 : u_T := fun k => match k with
  | 0 => ("RoundVotes$Ballots", "senders", "I", true)
  | 1 => ("RoundVotes$Ballots", "values", "[I", true)
  | 2 => ("RoundVotes$Ballots", "sinces", "[I", true)
  | _ => ("RoundVotes$Ballots", "topRound", "I", false)
def tyX0 : Nat → FieldType := fun k => match k with
  | 0 => .int
  | 1 => .array .int
  | 2 => .array .int
  | _ => .int
abbrev wsX00 : List Cond := u_ws RX0 TX0 4
theorem nmX0 : ∀ a, a < 4 → ∀ b, b < 4 → a ≠ b → (TX0 a).2.1 ≠ (TX0 b).2.1 := by decide +kernel
theorem tyX0_ok : ∀ k, k < 4 → parseFieldDescriptor (TX0 k).2.2.1 = some (tyX0 k) := by decide +kernel
abbrev cX0_init : ByteArray := prog_2_method_1_code
def yX0_init : MethodName := ⟨RX0, "<init>", "(I)V"⟩
abbrev cX0_valueOf : ByteArray := prog_2_method_2_code
def yX0_valueOf : MethodName := ⟨RX0, "valueOf", "(III)I"⟩
abbrev cX0_sinceOf : ByteArray := prog_2_method_3_code
def yX0_sinceOf : MethodName := ⟨RX0, "sinceOf", "(I)I"⟩
abbrev cX0_holds : ByteArray := prog_2_method_4_code
def yX0_holds : MethodName := ⟨RX0, "holds", "(III)Z"⟩
abbrev cX0_put : ByteArray := prog_2_method_5_code
def yX0_put : MethodName := ⟨RX0, "put", "(IIIII)V"⟩
abbrev cX0_votersFor : ByteArray := prog_2_method_6_code
def yX0_votersFor : MethodName := ⟨RX0, "votersFor", "(III)I"⟩
abbrev cX0_voters : ByteArray := prog_2_method_7_code
def yX0_voters : MethodName := ⟨RX0, "voters", "(II)I"⟩
abbrev cX0_clear : ByteArray := prog_2_method_8_code
def yX0_clear : MethodName := ⟨RX0, "clear", "()V"⟩
def RX1 : String := "RoundVotes$Choice"
def TX1 : u_T := fun k => match k with
  | 0 => ("RoundVotes$Choice", "value", "I", false)
  | _ => ("RoundVotes$Choice", "round", "I", false)
def tyX1 : Nat → FieldType := fun k => match k with
  | 0 => .int
  | _ => .int
abbrev wsX10 : List Cond := u_ws RX1 TX1 2
theorem nmX1 : ∀ a, a < 2 → ∀ b, b < 2 → a ≠ b → (TX1 a).2.1 ≠ (TX1 b).2.1 := by decide +kernel
theorem tyX1_ok : ∀ k, k < 2 → parseFieldDescriptor (TX1 k).2.2.1 = some (tyX1 k) := by decide +kernel
abbrev cX1_init : ByteArray := prog_3_method_1_code
def yX1_init : MethodName := ⟨RX1, "<init>", "()V"⟩
abbrev cX1_choose : ByteArray := prog_3_method_2_code
def yX1_choose : MethodName := ⟨RX1, "choose", "(II)V"⟩
abbrev cX1_isNone : ByteArray := prog_3_method_3_code
def yX1_isNone : MethodName := ⟨RX1, "isNone", "()Z"⟩
def RX2 : String := "RoundVotes$Decisions"
def TX2 : u_T := fun k => match k with
  | 0 => ("RoundVotes$Decisions", "values", "[I", true)
  | 1 => ("RoundVotes$Decisions", "rounds", "[I", true)
  | _ => ("RoundVotes$Decisions", "voters", "[I", true)
def tyX2 : Nat → FieldType := fun k => match k with
  | 0 => .array .int
  | 1 => .array .int
  | _ => .array .int
abbrev wsX20 : List Cond := u_ws RX2 TX2 3
theorem nmX2 : ∀ a, a < 3 → ∀ b, b < 3 → a ≠ b → (TX2 a).2.1 ≠ (TX2 b).2.1 := by decide +kernel
theorem tyX2_ok : ∀ k, k < 3 → parseFieldDescriptor (TX2 k).2.2.1 = some (tyX2 k) := by decide +kernel
abbrev cX2_init : ByteArray := prog_4_method_1_code
def yX2_init : MethodName := ⟨RX2, "<init>", "()V"⟩
abbrev cX2_holds : ByteArray := prog_4_method_2_code
def yX2_holds : MethodName := ⟨RX2, "holds", "(I)Z"⟩
abbrev cX2_put : ByteArray := prog_4_method_3_code
def yX2_put : MethodName := ⟨RX2, "put", "(IIII)V"⟩
def RX3 : String := "RoundVotes$Faults"
def TX3 : u_T := fun k => match k with
  | 0 => ("RoundVotes$Faults", "parts", "[I", true)
  | _ => ("RoundVotes$Faults", "size", "I", false)
def tyX3 : Nat → FieldType := fun k => match k with
  | 0 => .array .int
  | _ => .int
abbrev wsX30 : List Cond := u_ws RX3 TX3 2
theorem nmX3 : ∀ a, a < 2 → ∀ b, b < 2 → a ≠ b → (TX3 a).2.1 ≠ (TX3 b).2.1 := by decide +kernel
theorem tyX3_ok : ∀ k, k < 2 → parseFieldDescriptor (TX3 k).2.2.1 = some (tyX3 k) := by decide +kernel
abbrev cX3_init : ByteArray := prog_5_method_1_code
def yX3_init : MethodName := ⟨RX3, "<init>", "()V"⟩
abbrev cX3_part : ByteArray := prog_5_method_2_code
def yX3_part : MethodName := ⟨RX3, "part", "(II)I"⟩
abbrev cX3_add : ByteArray := prog_5_method_3_code
def yX3_add : MethodName := ⟨RX3, "add", "(LRoundVotes$Message;I)V"⟩
abbrev cX3_isKnown : ByteArray := prog_5_method_4_code
def yX3_isKnown : MethodName := ⟨RX3, "isKnown", "(LRoundVotes$Message;)Z"⟩
def RX4 : String := "RoundVotes$Mail"
def TX4 : u_T := fun k => match k with
  | 0 => ("RoundVotes$Mail", "slots", "[LRoundVotes$Message;", true)
  | 1 => ("RoundVotes$Mail", "size", "I", false)
  | _ => ("RoundVotes$Mail", "underWay", "I", false)
def tyX4 : Nat → FieldType := fun k => match k with
  | 0 => .array (.object "RoundVotes$Message")
  | 1 => .int
  | _ => .int
abbrev wsX40 : List Cond := u_ws RX4 TX4 3
theorem nmX4 : ∀ a, a < 3 → ∀ b, b < 3 → a ≠ b → (TX4 a).2.1 ≠ (TX4 b).2.1 := by decide +kernel
theorem tyX4_ok : ∀ k, k < 3 → parseFieldDescriptor (TX4 k).2.2.1 = some (tyX4 k) := by decide +kernel
abbrev cX4_init : ByteArray := prog_6_method_1_code
def yX4_init : MethodName := ⟨RX4, "<init>", "()V"⟩
abbrev cX4_post : ByteArray := prog_6_method_2_code
def yX4_post : MethodName := ⟨RX4, "post", "(LRoundVotes$Message;IZ)Z"⟩
abbrev cX4_dropUpTo : ByteArray := prog_6_method_3_code
def yX4_dropUpTo : MethodName := ⟨RX4, "dropUpTo", "(I)V"⟩
def RX5 : String := "RoundVotes$Message"
def TX5 : u_T := fun k => match k with
  | 0 => ("RoundVotes$Message", "sender", "I", false)
  | 1 => ("RoundVotes$Message", "receiver", "I", false)
  | 2 => ("RoundVotes$Message", "height", "I", false)
  | 3 => ("RoundVotes$Message", "round", "I", false)
  | 4 => ("RoundVotes$Message", "kind", "I", false)
  | 5 => ("RoundVotes$Message", "value", "I", false)
  | 6 => ("RoundVotes$Message", "since", "I", false)
  | 7 => ("RoundVotes$Message", "due", "I", false)
  | _ => ("RoundVotes$Message", "second", "Z", false)
def tyX5 : Nat → FieldType := fun k => match k with
  | 0 => .int
  | 1 => .int
  | 2 => .int
  | 3 => .int
  | 4 => .int
  | 5 => .int
  | 6 => .int
  | 7 => .int
  | _ => .boolean
abbrev wsX50 : List Cond := u_ws RX5 TX5 9
theorem nmX5 : ∀ a, a < 9 → ∀ b, b < 9 → a ≠ b → (TX5 a).2.1 ≠ (TX5 b).2.1 := by decide +kernel
theorem tyX5_ok : ∀ k, k < 9 → parseFieldDescriptor (TX5 k).2.2.1 = some (tyX5 k) := by decide +kernel
abbrev cX5_init : ByteArray := prog_7_method_1_code
def yX5_init : MethodName := ⟨RX5, "<init>", "()V"⟩
abbrev cX5_copyFrom : ByteArray := prog_7_method_2_code
def yX5_copyFrom : MethodName := ⟨RX5, "copyFrom", "(LRoundVotes$Message;)V"⟩
abbrev cX5_otherValue : ByteArray := prog_7_method_3_code
def yX5_otherValue : MethodName := ⟨RX5, "otherValue", "()I"⟩
def RX6 : String := "RoundVotes$Node"
def TX6 : u_T := fun k => match k with
  | 0 => ("RoundVotes$Node", "number", "I", true)
  | 1 => ("RoundVotes$Node", "setup", "LRoundVotes$Setup;", true)
  | 2 => ("RoundVotes$Node", "height", "I", false)
  | 3 => ("RoundVotes$Node", "round", "I", false)
  | 4 => ("RoundVotes$Node", "step", "I", false)
  | 5 => ("RoundVotes$Node", "locked", "LRoundVotes$Choice;", true)
  | 6 => ("RoundVotes$Node", "valid", "LRoundVotes$Choice;", true)
  | 7 => ("RoundVotes$Node", "behaviour", "I", false)
  | 8 => ("RoundVotes$Node", "lastCutTurn", "I", false)
  | 9 => ("RoundVotes$Node", "timers", "[I", true)
  | 10 => ("RoundVotes$Node", "once", "[Z", true)
  | 11 => ("RoundVotes$Node", "decisions", "LRoundVotes$Decisions;", true)
  | 12 => ("RoundVotes$Node", "present", "LRoundVotes$Ballots;", false)
  | 13 => ("RoundVotes$Node", "next", "LRoundVotes$Ballots;", false)
  | 14 => ("RoundVotes$Node", "signed", "LRoundVotes$Ballots;", true)
  | 15 => ("RoundVotes$Node", "sendings", "LRoundVotes$Sendings;", true)
  | 16 => ("RoundVotes$Node", "outgoing", "LRoundVotes$Message;", true)
  | _ => ("RoundVotes$Node", "hasToSend", "Z", false)
def tyX6 : Nat → FieldType := fun k => match k with
  | 0 => .int
  | 1 => .object "RoundVotes$Setup"
  | 2 => .int
  | 3 => .int
  | 4 => .int
  | 5 => .object "RoundVotes$Choice"
  | 6 => .object "RoundVotes$Choice"
  | 7 => .int
  | 8 => .int
  | 9 => .array .int
  | 10 => .array .boolean
  | 11 => .object "RoundVotes$Decisions"
  | 12 => .object "RoundVotes$Ballots"
  | 13 => .object "RoundVotes$Ballots"
  | 14 => .object "RoundVotes$Ballots"
  | 15 => .object "RoundVotes$Sendings"
  | 16 => .object "RoundVotes$Message"
  | _ => .boolean
abbrev wsX60 : List Cond := u_ws RX6 TX6 18
theorem nmX6 : ∀ a, a < 18 → ∀ b, b < 18 → a ≠ b → (TX6 a).2.1 ≠ (TX6 b).2.1 := by decide +kernel
theorem tyX6_ok : ∀ k, k < 18 → parseFieldDescriptor (TX6 k).2.2.1 = some (tyX6 k) := by decide +kernel
abbrev cX6_init : ByteArray := prog_8_method_1_code
def yX6_init : MethodName := ⟨RX6, "<init>", "(ILRoundVotes$Setup;)V"⟩
abbrev cX6_isCut : ByteArray := prog_8_method_2_code
def yX6_isCut : MethodName := ⟨RX6, "isCut", "()Z"⟩
abbrev cX6_standsStill : ByteArray := prog_8_method_3_code
def yX6_standsStill : MethodName := ⟨RX6, "standsStill", "()Z"⟩
abbrev cX6_begin : ByteArray := prog_8_method_4_code
def yX6_begin : MethodName := ⟨RX6, "begin", "(II)V"⟩
abbrev cX6_timesSending : ByteArray := prog_8_method_5_code
def yX6_timesSending : MethodName := ⟨RX6, "timesSending", "()I"⟩
abbrev cX6_deceives : ByteArray := prog_8_method_6_code
def yX6_deceives : MethodName := ⟨RX6, "deceives", "(I)Z"⟩
abbrev cX6_send : ByteArray := prog_8_method_7_code
def yX6_send : MethodName := ⟨RX6, "send", "(III)V"⟩
abbrev cX6_accepts : ByteArray := prog_8_method_8_code
def yX6_accepts : MethodName := ⟨RX6, "accepts", "(LRoundVotes$Message;)Z"⟩
abbrev cX6_comeBack : ByteArray := prog_8_method_9_code
def yX6_comeBack : MethodName := ⟨RX6, "comeBack", "(I)V"⟩
abbrev cX6_decideAs : ByteArray := prog_8_method_10_code
def yX6_decideAs : MethodName := ⟨RX6, "decideAs", "(LRoundVotes$Node;)V"⟩
abbrev cX6_decide : ByteArray := prog_8_method_11_code
def yX6_decide : MethodName := ⟨RX6, "decide", "(I)V"⟩
abbrev cX6_goToNextHeight : ByteArray := prog_8_method_12_code
def yX6_goToNextHeight : MethodName := ⟨RX6, "goToNextHeight", "()V"⟩
abbrev cX6_endTimer : ByteArray := prog_8_method_13_code
def yX6_endTimer : MethodName := ⟨RX6, "endTimer", "(II)V"⟩
abbrev cX6_followsRule : ByteArray := prog_8_method_14_code
def yX6_followsRule : MethodName := ⟨RX6, "followsRule", "(I)Z"⟩
abbrev cX6_proposalOf : ByteArray := prog_8_method_15_code
def yX6_proposalOf : MethodName := ⟨RX6, "proposalOf", "(I)I"⟩
abbrev cX6_areMany : ByteArray := prog_8_method_16_code
def yX6_areMany : MethodName := ⟨RX6, "areMany", "(I)Z"⟩
abbrev cX6_areSome : ByteArray := prog_8_method_17_code
def yX6_areSome : MethodName := ⟨RX6, "areSome", "(I)Z"⟩
abbrev cX6_roundToDecide : ByteArray := prog_8_method_18_code
def yX6_roundToDecide : MethodName := ⟨RX6, "roundToDecide", "()I"⟩
abbrev cX6_roundToJoin : ByteArray := prog_8_method_19_code
def yX6_roundToJoin : MethodName := ⟨RX6, "roundToJoin", "()I"⟩
abbrev cX6_answersProposal : ByteArray := prog_8_method_20_code
def yX6_answersProposal : MethodName := ⟨RX6, "answersProposal", "()Z"⟩
abbrev cX6_lockAllows : ByteArray := prog_8_method_21_code
def yX6_lockAllows : MethodName := ⟨RX6, "lockAllows", "(II)Z"⟩
abbrev cX6_locks : ByteArray := prog_8_method_22_code
def yX6_locks : MethodName := ⟨RX6, "locks", "()Z"⟩
abbrev cX6_givesUpValue : ByteArray := prog_8_method_23_code
def yX6_givesUpValue : MethodName := ⟨RX6, "givesUpValue", "()Z"⟩
abbrev cX6_waitsForPrevotes : ByteArray := prog_8_method_24_code
def yX6_waitsForPrevotes : MethodName := ⟨RX6, "waitsForPrevotes", "(I)Z"⟩
abbrev cX6_waitsForPrecommits : ByteArray := prog_8_method_25_code
def yX6_waitsForPrecommits : MethodName := ⟨RX6, "waitsForPrecommits", "(I)Z"⟩
def RX7 : String := "RoundVotes$Sendings"
def TX7 : u_T := fun k => match k with
  | 0 => ("RoundVotes$Sendings", "copies", "I", false)
  | 1 => ("RoundVotes$Sendings", "timesUnlike", "I", false)
  | _ => ("RoundVotes$Sendings", "firsts", "LRoundVotes$Ballots;", true)
def tyX7 : Nat → FieldType := fun k => match k with
  | 0 => .int
  | 1 => .int
  | _ => .object "RoundVotes$Ballots"
abbrev wsX70 : List Cond := u_ws RX7 TX7 3
theorem nmX7 : ∀ a, a < 3 → ∀ b, b < 3 → a ≠ b → (TX7 a).2.1 ≠ (TX7 b).2.1 := by decide +kernel
theorem tyX7_ok : ∀ k, k < 3 → parseFieldDescriptor (TX7 k).2.2.1 = some (tyX7 k) := by decide +kernel
abbrev cX7_init : ByteArray := prog_9_method_1_code
def yX7_init : MethodName := ⟨RX7, "<init>", "()V"⟩
abbrev cX7_add : ByteArray := prog_9_method_2_code
def yX7_add : MethodName := ⟨RX7, "add", "(LRoundVotes$Message;)V"⟩
def RX8 : String := "RoundVotes$Setup"
def TX8 : u_T := fun k => match k with
  | 0 => ("RoundVotes$Setup", "size", "I", true)
  | 1 => ("RoundVotes$Setup", "seed", "I", true)
  | 2 => ("RoundVotes$Setup", "weights", "[[I", true)
  | _ => ("RoundVotes$Setup", "all", "[I", true)
def tyX8 : Nat → FieldType := fun k => match k with
  | 0 => .int
  | 1 => .int
  | 2 => .array (.array .int)
  | _ => .array .int
abbrev wsX80 : List Cond := u_ws RX8 TX8 4
theorem nmX8 : ∀ a, a < 4 → ∀ b, b < 4 → a ≠ b → (TX8 a).2.1 ≠ (TX8 b).2.1 := by decide +kernel
theorem tyX8_ok : ∀ k, k < 4 → parseFieldDescriptor (TX8 k).2.2.1 = some (tyX8 k) := by decide +kernel
abbrev cX8_init : ByteArray := prog_10_method_1_code
def yX8_init : MethodName := ⟨RX8, "<init>", "(II)V"⟩
abbrev cX8_changeWeight : ByteArray := prog_10_method_2_code
def yX8_changeWeight : MethodName := ⟨RX8, "changeWeight", "(III)V"⟩
abbrev cX8_weightOfAll : ByteArray := prog_10_method_3_code
def yX8_weightOfAll : MethodName := ⟨RX8, "weightOfAll", "(II)I"⟩
abbrev cX8_proposer : ByteArray := prog_10_method_4_code
def yX8_proposer : MethodName := ⟨RX8, "proposer", "(II)I"⟩
abbrev cX8_ownValue : ByteArray := prog_10_method_5_code
def yX8_ownValue : MethodName := ⟨RX8, "ownValue", "(III)I"⟩
def RX9 : String := "RoundVotes$Told"
def TX9 : u_T := fun k => match k with
  | 0 => ("RoundVotes$Told", "numbers", "[I", true)
  | 1 => ("RoundVotes$Told", "kinds", "[I", true)
  | 2 => ("RoundVotes$Told", "bys", "[I", true)
  | _ => ("RoundVotes$Told", "size", "I", false)
def tyX9 : Nat → FieldType := fun k => match k with
  | 0 => .array .int
  | 1 => .array .int
  | 2 => .array .int
  | _ => .int
abbrev wsX90 : List Cond := u_ws RX9 TX9 4
theorem nmX9 : ∀ a, a < 4 → ∀ b, b < 4 → a ≠ b → (TX9 a).2.1 ≠ (TX9 b).2.1 := by decide +kernel
theorem tyX9_ok : ∀ k, k < 4 → parseFieldDescriptor (TX9 k).2.2.1 = some (tyX9 k) := by decide +kernel
abbrev cX9_init : ByteArray := prog_11_method_1_code
def yX9_init : MethodName := ⟨RX9, "<init>", "()V"⟩
abbrev cX9_find : ByteArray := prog_11_method_2_code
def yX9_find : MethodName := ⟨RX9, "find", "(I)I"⟩
abbrev cX9_add : ByteArray := prog_11_method_3_code
def yX9_add : MethodName := ⟨RX9, "add", "(III)Z"⟩
abbrev cX9_remove : ByteArray := prog_11_method_4_code
def yX9_remove : MethodName := ⟨RX9, "remove", "(I)V"⟩
def RX10 : String := "RoundVotes"
def TX10 : u_T := fun k => match k with
  | 0 => ("RoundVotes", "setup", "LRoundVotes$Setup;", true)
  | 1 => ("RoundVotes", "nodes", "[LRoundVotes$Node;", true)
  | 2 => ("RoundVotes", "mail", "LRoundVotes$Mail;", true)
  | 3 => ("RoundVotes", "told", "LRoundVotes$Told;", true)
  | 4 => ("RoundVotes", "faults", "LRoundVotes$Faults;", true)
  | 5 => ("RoundVotes", "time", "I", false)
  | 6 => ("RoundVotes", "gone", "I", false)
  | 7 => ("RoundVotes", "came", "I", false)
  | 8 => ("RoundVotes", "lost", "I", false)
  | 9 => ("RoundVotes", "sideBits", "I", false)
  | 10 => ("RoundVotes", "firstSideTurn", "I", false)
  | _ => ("RoundVotes", "lastSideTurn", "I", false)
def tyX10 : Nat → FieldType := fun k => match k with
  | 0 => .object "RoundVotes$Setup"
  | 1 => .array (.object "RoundVotes$Node")
  | 2 => .object "RoundVotes$Mail"
  | 3 => .object "RoundVotes$Told"
  | 4 => .object "RoundVotes$Faults"
  | 5 => .int
  | 6 => .int
  | 7 => .int
  | 8 => .int
  | 9 => .int
  | 10 => .int
  | _ => .int
abbrev wsX100 : List Cond := u_ws RX10 TX10 12
theorem nmX10 : ∀ a, a < 12 → ∀ b, b < 12 → a ≠ b → (TX10 a).2.1 ≠ (TX10 b).2.1 := by decide +kernel
theorem tyX10_ok : ∀ k, k < 12 → parseFieldDescriptor (TX10 k).2.2.1 = some (tyX10 k) := by decide +kernel
abbrev cX10_init : ByteArray := prog_1_method_1_code
def yX10_init : MethodName := ⟨RX10, "<init>", "(II)V"⟩
abbrev cX10_weight : ByteArray := prog_1_method_2_code
def yX10_weight : MethodName := ⟨RX10, "weight", "(II)I"⟩
abbrev cX10_behave : ByteArray := prog_1_method_3_code
def yX10_behave : MethodName := ⟨RX10, "behave", "(II)I"⟩
abbrev cX10_disturb : ByteArray := prog_1_method_4_code
def yX10_disturb : MethodName := ⟨RX10, "disturb", "(III)I"⟩
abbrev cX10_sides : ByteArray := prog_1_method_5_code
def yX10_sides : MethodName := ⟨RX10, "sides", "(II)I"⟩
abbrev cX10_cut : ByteArray := prog_1_method_6_code
def yX10_cut : MethodName := ⟨RX10, "cut", "(II)I"⟩
abbrev cX10_turn : ByteArray := prog_1_method_7_code
def yX10_turn : MethodName := ⟨RX10, "turn", "(I)I"⟩
abbrev cX10_catchUp : ByteArray := prog_1_method_8_code
def yX10_catchUp : MethodName := ⟨RX10, "catchUp", "(I)I"⟩
abbrev cX10_node : ByteArray := prog_1_method_9_code
def yX10_node : MethodName := ⟨RX10, "node", "(II)I"⟩
abbrev cX10_vote : ByteArray := prog_1_method_10_code
def yX10_vote : MethodName := ⟨RX10, "vote", "(IIII)I"⟩
abbrev cX10_decided : ByteArray := prog_1_method_11_code
def yX10_decided : MethodName := ⟨RX10, "decided", "(III)I"⟩
abbrev cX10_unlike : ByteArray := prog_1_method_12_code
def yX10_unlike : MethodName := ⟨RX10, "unlike", "(I)I"⟩
abbrev cX10_evidence : ByteArray := prog_1_method_13_code
def yX10_evidence : MethodName := ⟨RX10, "evidence", "(II)I"⟩
abbrev cX10_against : ByteArray := prog_1_method_14_code
def yX10_against : MethodName := ⟨RX10, "against", "(I)I"⟩
abbrev cX10_count : ByteArray := prog_1_method_15_code
def yX10_count : MethodName := ⟨RX10, "count", "(I)I"⟩
abbrev cX10_weightOf : ByteArray := prog_1_method_16_code
def yX10_weightOf : MethodName := ⟨RX10, "weightOf", "(II)I"⟩
abbrev cX10_isNode : ByteArray := prog_1_method_17_code
def yX10_isNode : MethodName := ⟨RX10, "isNode", "(I)Z"⟩
abbrev cX10_isHeight : ByteArray := prog_1_method_18_code
def yX10_isHeight : MethodName := ⟨RX10, "isHeight", "(I)Z"⟩
abbrev cX10_greatestHeight : ByteArray := prog_1_method_19_code
def yX10_greatestHeight : MethodName := ⟨RX10, "greatestHeight", "()I"⟩
abbrev cX10_greatestDecided : ByteArray := prog_1_method_20_code
def yX10_greatestDecided : MethodName := ⟨RX10, "greatestDecided", "()I"⟩
abbrev cX10_tellerOf : ByteArray := prog_1_method_21_code
def yX10_tellerOf : MethodName := ⟨RX10, "tellerOf", "(II)I"⟩
abbrev cX10_beginAll : ByteArray := prog_1_method_22_code
def yX10_beginAll : MethodName := ⟨RX10, "beginAll", "()V"⟩
abbrev cX10_bringNodesBack : ByteArray := prog_1_method_23_code
def yX10_bringNodesBack : MethodName := ⟨RX10, "bringNodesBack", "()V"⟩
abbrev cX10_bringCopies : ByteArray := prog_1_method_24_code
def yX10_bringCopies : MethodName := ⟨RX10, "bringCopies", "()V"⟩
abbrev cX10_handOver : ByteArray := prog_1_method_25_code
def yX10_handOver : MethodName := ⟨RX10, "handOver", "(LRoundVotes$Message;)V"⟩
abbrev cX10_endTimers : ByteArray := prog_1_method_26_code
def yX10_endTimers : MethodName := ⟨RX10, "endTimers", "()V"⟩
abbrev cX10_settle : ByteArray := prog_1_method_27_code
def yX10_settle : MethodName := ⟨RX10, "settle", "(LRoundVotes$Node;)V"⟩
abbrev cX10_dispatch : ByteArray := prog_1_method_28_code
def yX10_dispatch : MethodName := ⟨RX10, "dispatch", "(LRoundVotes$Node;)V"⟩
abbrev cX10_sendCopy : ByteArray := prog_1_method_29_code
def yX10_sendCopy : MethodName := ⟨RX10, "sendCopy", "(LRoundVotes$Message;)V"⟩
abbrev cX10_areOnUnlikeSides : ByteArray := prog_1_method_30_code
def yX10_areOnUnlikeSides : MethodName := ⟨RX10, "areOnUnlikeSides", "(II)Z"⟩
def RX11 : String := "RoundVotesModel"
def TX11 : u_T := fun k => match k with
  | 0 => ("RoundVotesModel", "thrown", "I", false)
  | 1 => ("RoundVotesModel", "n", "I", true)
  | 2 => ("RoundVotesModel", "seed", "I", true)
  | 3 => ("RoundVotesModel", "time", "I", false)
  | 4 => ("RoundVotesModel", "weights", "[I", true)
  | 5 => ("RoundVotesModel", "heightOf", "[I", true)
  | 6 => ("RoundVotesModel", "roundOf", "[I", true)
  | 7 => ("RoundVotesModel", "stepOf", "[I", true)
  | 8 => ("RoundVotesModel", "lockedValue", "[I", true)
  | 9 => ("RoundVotesModel", "lockedRound", "[I", true)
  | 10 => ("RoundVotesModel", "validValue", "[I", true)
  | 11 => ("RoundVotesModel", "validRound", "[I", true)
  | 12 => ("RoundVotesModel", "cutUntil", "[I", true)
  | 13 => ("RoundVotesModel", "isCut", "[Z", true)
  | 14 => ("RoundVotesModel", "behaviour", "[I", true)
  | 15 => ("RoundVotesModel", "timers", "[I", true)
  | 16 => ("RoundVotesModel", "didD", "[Z", true)
  | 17 => ("RoundVotesModel", "didF", "[Z", true)
  | 18 => ("RoundVotesModel", "didG", "[Z", true)
  | 19 => ("RoundVotesModel", "sentCopies", "[I", true)
  | 20 => ("RoundVotesModel", "has", "[I", true)
  | 21 => ("RoundVotesModel", "hasRound", "[I", true)
  | 22 => ("RoundVotesModel", "signed", "[I", true)
  | 23 => ("RoundVotesModel", "signedRound", "[I", true)
  | 24 => ("RoundVotesModel", "decidedValue", "[I", true)
  | 25 => ("RoundVotesModel", "decidedRound", "[I", true)
  | 26 => ("RoundVotesModel", "decidedBits", "[I", true)
  | 27 => ("RoundVotesModel", "decidedWeight", "[J", true)
  | 28 => ("RoundVotesModel", "due", "[I", true)
  | 29 => ("RoundVotesModel", "from", "[I", true)
  | 30 => ("RoundVotesModel", "to", "[I", true)
  | 31 => ("RoundVotesModel", "height", "[I", true)
  | 32 => ("RoundVotesModel", "round", "[I", true)
  | 33 => ("RoundVotesModel", "kind", "[I", true)
  | 34 => ("RoundVotesModel", "value", "[I", true)
  | 35 => ("RoundVotesModel", "since", "[I", true)
  | 36 => ("RoundVotesModel", "isSecond", "[Z", true)
  | 37 => ("RoundVotesModel", "copies", "I", false)
  | 38 => ("RoundVotesModel", "underWay", "I", false)
  | 39 => ("RoundVotesModel", "gone", "I", false)
  | 40 => ("RoundVotesModel", "came", "I", false)
  | 41 => ("RoundVotesModel", "lost", "I", false)
  | 42 => ("RoundVotesModel", "disturbed", "[I", true)
  | 43 => ("RoundVotesModel", "disturbKind", "[I", true)
  | 44 => ("RoundVotesModel", "disturbBy", "[I", true)
  | 45 => ("RoundVotesModel", "disturbs", "I", false)
  | 46 => ("RoundVotesModel", "sideBits", "I", false)
  | 47 => ("RoundVotesModel", "sidesFrom", "I", false)
  | 48 => ("RoundVotesModel", "sidesUntil", "I", false)
  | 49 => ("RoundVotesModel", "evidence", "[I", true)
  | 50 => ("RoundVotesModel", "evidences", "I", false)
  | 51 => ("RoundVotesModel", "firstSent", "[I", true)
  | _ => ("RoundVotesModel", "sentUnlike", "[Z", true)
def tyX11 : Nat → FieldType := fun k => match k with
  | 0 => .int
  | 1 => .int
  | 2 => .int
  | 3 => .int
  | 4 => .array .int
  | 5 => .array .int
  | 6 => .array .int
  | 7 => .array .int
  | 8 => .array .int
  | 9 => .array .int
  | 10 => .array .int
  | 11 => .array .int
  | 12 => .array .int
  | 13 => .array .boolean
  | 14 => .array .int
  | 15 => .array .int
  | 16 => .array .boolean
  | 17 => .array .boolean
  | 18 => .array .boolean
  | 19 => .array .int
  | 20 => .array .int
  | 21 => .array .int
  | 22 => .array .int
  | 23 => .array .int
  | 24 => .array .int
  | 25 => .array .int
  | 26 => .array .int
  | 27 => .array .long
  | 28 => .array .int
  | 29 => .array .int
  | 30 => .array .int
  | 31 => .array .int
  | 32 => .array .int
  | 33 => .array .int
  | 34 => .array .int
  | 35 => .array .int
  | 36 => .array .boolean
  | 37 => .int
  | 38 => .int
  | 39 => .int
  | 40 => .int
  | 41 => .int
  | 42 => .array .int
  | 43 => .array .int
  | 44 => .array .int
  | 45 => .int
  | 46 => .int
  | 47 => .int
  | 48 => .int
  | 49 => .array .int
  | 50 => .int
  | 51 => .array .int
  | _ => .array .boolean
abbrev wsX110 : List Cond := u_ws RX11 TX11 53
theorem nmX11 : ∀ a, a < 53 → ∀ b, b < 53 → a ≠ b → (TX11 a).2.1 ≠ (TX11 b).2.1 := by decide +kernel
theorem tyX11_ok : ∀ k, k < 53 → parseFieldDescriptor (TX11 k).2.2.1 = some (tyX11 k) := by decide +kernel
abbrev cX11_in : ByteArray := prog_13_method_2_code
def yX11_in : MethodName := ⟨RX11, "in", "(JJJ)Z"⟩
abbrev cX11_init : ByteArray := prog_13_method_3_code
def yX11_init : MethodName := ⟨RX11, "<init>", "(II)V"⟩
abbrev cX11_place : ByteArray := prog_13_method_4_code
def yX11_place : MethodName := ⟨RX11, "place", "(IIIII)I"⟩
abbrev cX11_roundPlace : ByteArray := prog_13_method_5_code
def yX11_roundPlace : MethodName := ⟨RX11, "roundPlace", "(IIII)I"⟩
abbrev cX11_clearHeight : ByteArray := prog_13_method_6_code
def yX11_clearHeight : MethodName := ⟨RX11, "clearHeight", "(II)V"⟩
abbrev cX11_clearSigned : ByteArray := prog_13_method_7_code
def yX11_clearSigned : MethodName := ⟨RX11, "clearSigned", "(I)V"⟩
abbrev cX11_all : ByteArray := prog_13_method_8_code
def yX11_all : MethodName := ⟨RX11, "all", "(I)J"⟩
abbrev cX11_isMany : ByteArray := prog_13_method_9_code
def yX11_isMany : MethodName := ⟨RX11, "isMany", "(JI)Z"⟩
abbrev cX11_proposer : ByteArray := prog_13_method_10_code
def yX11_proposer : MethodName := ⟨RX11, "proposer", "(II)I"⟩
abbrev cX11_ownValue : ByteArray := prog_13_method_11_code
def yX11_ownValue : MethodName := ⟨RX11, "ownValue", "(III)I"⟩
abbrev cX11_sentPlace : ByteArray := prog_13_method_12_code
def yX11_sentPlace : MethodName := ⟨RX11, "sentPlace", "(IIII)I"⟩
abbrev cX11_noteSent : ByteArray := prog_13_method_13_code
def yX11_noteSent : MethodName := ⟨RX11, "noteSent", "(IIIII)V"⟩
abbrev cX11_otherValue : ByteArray := prog_13_method_14_code
def yX11_otherValue : MethodName := ⟨RX11, "otherValue", "(II)I"⟩
abbrev cX11_send : ByteArray := prog_13_method_15_code
def yX11_send : MethodName := ⟨RX11, "send", "(IIII)V"⟩
abbrev cX11_areApart : ByteArray := prog_13_method_16_code
def yX11_areApart : MethodName := ⟨RX11, "areApart", "(II)Z"⟩
abbrev cX11_copy : ByteArray := prog_13_method_17_code
def yX11_copy : MethodName := ⟨RX11, "copy", "(IIIIIII)V"⟩
abbrev cX11_put : ByteArray := prog_13_method_18_code
def yX11_put : MethodName := ⟨RX11, "put", "(IIIIIIIIZ)V"⟩
abbrev cX11_keep : ByteArray := prog_13_method_19_code
def yX11_keep : MethodName := ⟨RX11, "keep", "(IIIIIIIZ)V"⟩
abbrev cX11_accuse : ByteArray := prog_13_method_20_code
def yX11_accuse : MethodName := ⟨RX11, "accuse", "(IIIII)V"⟩
abbrev cX11_hasOf : ByteArray := prog_13_method_21_code
def yX11_hasOf : MethodName := ⟨RX11, "hasOf", "(IIII)I"⟩
abbrev cX11_votes : ByteArray := prog_13_method_22_code
def yX11_votes : MethodName := ⟨RX11, "votes", "(IIII)J"⟩
abbrev cX11_proposal : ByteArray := prog_13_method_23_code
def yX11_proposal : MethodName := ⟨RX11, "proposal", "(II)I"⟩
abbrev cX11_proposalSince : ByteArray := prog_13_method_24_code
def yX11_proposalSince : MethodName := ⟨RX11, "proposalSince", "(II)I"⟩
abbrev cX11_begin : ByteArray := prog_13_method_25_code
def yX11_begin : MethodName := ⟨RX11, "begin", "(II)V"⟩
abbrev cX11_nextHeight : ByteArray := prog_13_method_26_code
def yX11_nextHeight : MethodName := ⟨RX11, "nextHeight", "(I)V"⟩
abbrev cX11_ruleA : ByteArray := prog_13_method_27_code
def yX11_ruleA : MethodName := ⟨RX11, "ruleA", "(I)Z"⟩
abbrev cX11_ruleB : ByteArray := prog_13_method_28_code
def yX11_ruleB : MethodName := ⟨RX11, "ruleB", "(I)Z"⟩
abbrev cX11_ruleC : ByteArray := prog_13_method_29_code
def yX11_ruleC : MethodName := ⟨RX11, "ruleC", "(I)Z"⟩
abbrev cX11_ruleD : ByteArray := prog_13_method_30_code
def yX11_ruleD : MethodName := ⟨RX11, "ruleD", "(I)Z"⟩
abbrev cX11_ruleE : ByteArray := prog_13_method_31_code
def yX11_ruleE : MethodName := ⟨RX11, "ruleE", "(I)Z"⟩
abbrev cX11_ruleF : ByteArray := prog_13_method_32_code
def yX11_ruleF : MethodName := ⟨RX11, "ruleF", "(I)Z"⟩
abbrev cX11_ruleG : ByteArray := prog_13_method_33_code
def yX11_ruleG : MethodName := ⟨RX11, "ruleG", "(I)Z"⟩
abbrev cX11_rules : ByteArray := prog_13_method_34_code
def yX11_rules : MethodName := ⟨RX11, "rules", "(I)V"⟩
abbrev cX11_comeBack : ByteArray := prog_13_method_35_code
def yX11_comeBack : MethodName := ⟨RX11, "comeBack", "(I)V"⟩
abbrev cX11_deliver : ByteArray := prog_13_method_36_code
def yX11_deliver : MethodName := ⟨RX11, "deliver", "(ZI)V"⟩
abbrev cX11_tidy : ByteArray := prog_13_method_37_code
def yX11_tidy : MethodName := ⟨RX11, "tidy", "()V"⟩
abbrev cX11_timerEnds : ByteArray := prog_13_method_38_code
def yX11_timerEnds : MethodName := ⟨RX11, "timerEnds", "(II)V"⟩
abbrev cX11_oneTurn : ByteArray := prog_13_method_39_code
def yX11_oneTurn : MethodName := ⟨RX11, "oneTurn", "()V"⟩
abbrev cX11_turn : ByteArray := prog_13_method_40_code
def yX11_turn : MethodName := ⟨RX11, "turn", "(I)I"⟩
abbrev cX11_noNode : ByteArray := prog_13_method_41_code
def yX11_noNode : MethodName := ⟨RX11, "noNode", "(I)Z"⟩
abbrev cX11_weight : ByteArray := prog_13_method_42_code
def yX11_weight : MethodName := ⟨RX11, "weight", "(II)I"⟩
abbrev cX11_behave : ByteArray := prog_13_method_43_code
def yX11_behave : MethodName := ⟨RX11, "behave", "(II)I"⟩
abbrev cX11_disturb : ByteArray := prog_13_method_44_code
def yX11_disturb : MethodName := ⟨RX11, "disturb", "(III)I"⟩
abbrev cX11_sides : ByteArray := prog_13_method_45_code
def yX11_sides : MethodName := ⟨RX11, "sides", "(II)I"⟩
abbrev cX11_cut : ByteArray := prog_13_method_46_code
def yX11_cut : MethodName := ⟨RX11, "cut", "(II)I"⟩
abbrev cX11_catchUp : ByteArray := prog_13_method_47_code
def yX11_catchUp : MethodName := ⟨RX11, "catchUp", "(I)I"⟩
abbrev cX11_node : ByteArray := prog_13_method_48_code
def yX11_node : MethodName := ⟨RX11, "node", "(II)I"⟩
abbrev cX11_vote : ByteArray := prog_13_method_49_code
def yX11_vote : MethodName := ⟨RX11, "vote", "(IIII)I"⟩
abbrev cX11_decided : ByteArray := prog_13_method_50_code
def yX11_decided : MethodName := ⟨RX11, "decided", "(III)I"⟩
abbrev cX11_unlike : ByteArray := prog_13_method_51_code
def yX11_unlike : MethodName := ⟨RX11, "unlike", "(I)I"⟩
abbrev cX11_evidence : ByteArray := prog_13_method_52_code
def yX11_evidence : MethodName := ⟨RX11, "evidence", "(II)I"⟩
abbrev cX11_against : ByteArray := prog_13_method_53_code
def yX11_against : MethodName := ⟨RX11, "against", "(I)I"⟩
abbrev cX11_count : ByteArray := prog_13_method_54_code
def yX11_count : MethodName := ⟨RX11, "count", "(I)I"⟩
abbrev cX11_weightOf : ByteArray := prog_13_method_55_code
def yX11_weightOf : MethodName := ⟨RX11, "weightOf", "(II)I"⟩
def RL : String := "RoundVotesLaw"
abbrev cL_cell : ByteArray := method_2_code
def yL_cell : MethodName := ⟨RL, "cell", "([II)I"⟩
abbrev cL_law : ByteArray := code
def yL_law : MethodName := ⟨RL, "law", "([I)Z"⟩
