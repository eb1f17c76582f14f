section
/-- a private method of a class that the tables say can be made, by its rows of tables_1 -/
def lw_okq (q : MethodName × Nat) : Prop := (q.1.cls ≠ "java/lang/invoke/MethodHandle" ∧ q.1.cls ≠ "java/lang/invoke/VarHandle") ∧ Cond.instantiable q.1.cls q.2 ∈ tables_1 ∧ Cond.privateMethod q.1 ∈ tables_1 ∧ Cond.instanceMethod q.1 ∈ tables_1
theorem lw_p0 : lw_okq (⟨"RoundVotes", "isNode", "(I)Z"⟩, 12) := ⟨⟨by decide +kernel, by decide +kernel⟩, List.mem_of_getElem? (i := 16) (by decide +kernel), List.mem_of_getElem? (i := 370) (by decide +kernel), List.mem_of_getElem? (i := 371) (by decide +kernel)⟩
theorem lw_p1 : lw_okq (⟨"RoundVotes", "greatestHeight", "()I"⟩, 12) := ⟨⟨by decide +kernel, by decide +kernel⟩, List.mem_of_getElem? (i := 16) (by decide +kernel), List.mem_of_getElem? (i := 375) (by decide +kernel), List.mem_of_getElem? (i := 376) (by decide +kernel)⟩
theorem lw_p2 : lw_okq (⟨"RoundVotes", "beginAll", "()V"⟩, 12) := ⟨⟨by decide +kernel, by decide +kernel⟩, List.mem_of_getElem? (i := 16) (by decide +kernel), List.mem_of_getElem? (i := 416) (by decide +kernel), List.mem_of_getElem? (i := 417) (by decide +kernel)⟩
theorem lw_p3 : lw_okq (⟨"RoundVotes$Node", "standsStill", "()Z"⟩, 18) := ⟨⟨by decide +kernel, by decide +kernel⟩, List.mem_of_getElem? (i := 118) (by decide +kernel), List.mem_of_getElem? (i := 424) (by decide +kernel), List.mem_of_getElem? (i := 425) (by decide +kernel)⟩
theorem lw_p4 : lw_okq (⟨"RoundVotes$Node", "send", "(III)V"⟩, 18) := ⟨⟨by decide +kernel, by decide +kernel⟩, List.mem_of_getElem? (i := 118) (by decide +kernel), List.mem_of_getElem? (i := 443) (by decide +kernel), List.mem_of_getElem? (i := 444) (by decide +kernel)⟩
theorem lw_p5 : lw_okq (⟨"RoundVotes", "settle", "(LRoundVotes$Node;)V"⟩, 12) := ⟨⟨by decide +kernel, by decide +kernel⟩, List.mem_of_getElem? (i := 16) (by decide +kernel), List.mem_of_getElem? (i := 463) (by decide +kernel), List.mem_of_getElem? (i := 464) (by decide +kernel)⟩
theorem lw_p6 : lw_okq (⟨"RoundVotes", "dispatch", "(LRoundVotes$Node;)V"⟩, 12) := ⟨⟨by decide +kernel, by decide +kernel⟩, List.mem_of_getElem? (i := 16) (by decide +kernel), List.mem_of_getElem? (i := 467) (by decide +kernel), List.mem_of_getElem? (i := 468) (by decide +kernel)⟩
theorem lw_p7 : lw_okq (⟨"RoundVotes", "sendCopy", "(LRoundVotes$Message;)V"⟩, 12) := ⟨⟨by decide +kernel, by decide +kernel⟩, List.mem_of_getElem? (i := 16) (by decide +kernel), List.mem_of_getElem? (i := 489) (by decide +kernel), List.mem_of_getElem? (i := 490) (by decide +kernel)⟩
theorem lw_p8 : lw_okq (⟨"RoundVotes", "areOnUnlikeSides", "(II)Z"⟩, 12) := ⟨⟨by decide +kernel, by decide +kernel⟩, List.mem_of_getElem? (i := 16) (by decide +kernel), List.mem_of_getElem? (i := 497) (by decide +kernel), List.mem_of_getElem? (i := 498) (by decide +kernel)⟩
theorem lw_p9 : lw_okq (⟨"RoundVotes$Node", "roundToDecide", "()I"⟩, 18) := ⟨⟨by decide +kernel, by decide +kernel⟩, List.mem_of_getElem? (i := 118) (by decide +kernel), List.mem_of_getElem? (i := 514) (by decide +kernel), List.mem_of_getElem? (i := 515) (by decide +kernel)⟩
theorem lw_p10 : lw_okq (⟨"RoundVotes$Node", "proposalOf", "(I)I"⟩, 18) := ⟨⟨by decide +kernel, by decide +kernel⟩, List.mem_of_getElem? (i := 118) (by decide +kernel), List.mem_of_getElem? (i := 518) (by decide +kernel), List.mem_of_getElem? (i := 519) (by decide +kernel)⟩
theorem lw_p11 : lw_okq (⟨"RoundVotes$Node", "areMany", "(I)Z"⟩, 18) := ⟨⟨by decide +kernel, by decide +kernel⟩, List.mem_of_getElem? (i := 118) (by decide +kernel), List.mem_of_getElem? (i := 527) (by decide +kernel), List.mem_of_getElem? (i := 528) (by decide +kernel)⟩
theorem lw_p12 : lw_okq (⟨"RoundVotes$Node", "decide", "(I)V"⟩, 18) := ⟨⟨by decide +kernel, by decide +kernel⟩, List.mem_of_getElem? (i := 118) (by decide +kernel), List.mem_of_getElem? (i := 535) (by decide +kernel), List.mem_of_getElem? (i := 536) (by decide +kernel)⟩
theorem lw_p13 : lw_okq (⟨"RoundVotes$Node", "goToNextHeight", "()V"⟩, 18) := ⟨⟨by decide +kernel, by decide +kernel⟩, List.mem_of_getElem? (i := 118) (by decide +kernel), List.mem_of_getElem? (i := 543) (by decide +kernel), List.mem_of_getElem? (i := 544) (by decide +kernel)⟩
theorem lw_p14 : lw_okq (⟨"RoundVotes$Node", "roundToJoin", "()I"⟩, 18) := ⟨⟨by decide +kernel, by decide +kernel⟩, List.mem_of_getElem? (i := 118) (by decide +kernel), List.mem_of_getElem? (i := 556) (by decide +kernel), List.mem_of_getElem? (i := 557) (by decide +kernel)⟩
theorem lw_p15 : lw_okq (⟨"RoundVotes$Node", "areSome", "(I)Z"⟩, 18) := ⟨⟨by decide +kernel, by decide +kernel⟩, List.mem_of_getElem? (i := 118) (by decide +kernel), List.mem_of_getElem? (i := 565) (by decide +kernel), List.mem_of_getElem? (i := 566) (by decide +kernel)⟩
def lw_privs_1 : List (MethodName × Nat) := [(⟨"RoundVotes", "isNode", "(I)Z"⟩, 12), (⟨"RoundVotes", "greatestHeight", "()I"⟩, 12), (⟨"RoundVotes", "beginAll", "()V"⟩, 12), (⟨"RoundVotes$Node", "standsStill", "()Z"⟩, 18), (⟨"RoundVotes$Node", "send", "(III)V"⟩, 18), (⟨"RoundVotes", "settle", "(LRoundVotes$Node;)V"⟩, 12), (⟨"RoundVotes", "dispatch", "(LRoundVotes$Node;)V"⟩, 12), (⟨"RoundVotes", "sendCopy", "(LRoundVotes$Message;)V"⟩, 12), (⟨"RoundVotes", "areOnUnlikeSides", "(II)Z"⟩, 12), (⟨"RoundVotes$Node", "roundToDecide", "()I"⟩, 18), (⟨"RoundVotes$Node", "proposalOf", "(I)I"⟩, 18), (⟨"RoundVotes$Node", "areMany", "(I)Z"⟩, 18), (⟨"RoundVotes$Node", "decide", "(I)V"⟩, 18), (⟨"RoundVotes$Node", "goToNextHeight", "()V"⟩, 18), (⟨"RoundVotes$Node", "roundToJoin", "()I"⟩, 18), (⟨"RoundVotes$Node", "areSome", "(I)Z"⟩, 18)]
theorem lw_r1 : ∀ q ∈ lw_privs_1, lw_okq q := List.forall_mem_cons.mpr ⟨lw_p0, List.forall_mem_cons.mpr ⟨lw_p1, List.forall_mem_cons.mpr ⟨lw_p2, List.forall_mem_cons.mpr ⟨lw_p3, List.forall_mem_cons.mpr ⟨lw_p4, List.forall_mem_cons.mpr ⟨lw_p5, List.forall_mem_cons.mpr ⟨lw_p6, List.forall_mem_cons.mpr ⟨lw_p7, List.forall_mem_cons.mpr ⟨lw_p8, List.forall_mem_cons.mpr ⟨lw_p9, List.forall_mem_cons.mpr ⟨lw_p10, List.forall_mem_cons.mpr ⟨lw_p11, List.forall_mem_cons.mpr ⟨lw_p12, List.forall_mem_cons.mpr ⟨lw_p13, List.forall_mem_cons.mpr ⟨lw_p14, List.forall_mem_cons.mpr ⟨lw_p15, fun _ h => absurd h List.not_mem_nil⟩⟩⟩⟩⟩⟩⟩⟩⟩⟩⟩⟩⟩⟩⟩⟩
theorem lw_p16 : lw_okq (⟨"RoundVotes$Node", "answersProposal", "()Z"⟩, 18) := ⟨⟨by decide +kernel, by decide +kernel⟩, List.mem_of_getElem? (i := 118) (by decide +kernel), List.mem_of_getElem? (i := 569) (by decide +kernel), List.mem_of_getElem? (i := 570) (by decide +kernel)⟩
theorem lw_p17 : lw_okq (⟨"RoundVotes$Node", "lockAllows", "(II)Z"⟩, 18) := ⟨⟨by decide +kernel, by decide +kernel⟩, List.mem_of_getElem? (i := 118) (by decide +kernel), List.mem_of_getElem? (i := 573) (by decide +kernel), List.mem_of_getElem? (i := 574) (by decide +kernel)⟩
theorem lw_p18 : lw_okq (⟨"RoundVotes$Node", "locks", "()Z"⟩, 18) := ⟨⟨by decide +kernel, by decide +kernel⟩, List.mem_of_getElem? (i := 118) (by decide +kernel), List.mem_of_getElem? (i := 577) (by decide +kernel), List.mem_of_getElem? (i := 578) (by decide +kernel)⟩
theorem lw_p19 : lw_okq (⟨"RoundVotes$Node", "givesUpValue", "()Z"⟩, 18) := ⟨⟨by decide +kernel, by decide +kernel⟩, List.mem_of_getElem? (i := 118) (by decide +kernel), List.mem_of_getElem? (i := 581) (by decide +kernel), List.mem_of_getElem? (i := 582) (by decide +kernel)⟩
theorem lw_p20 : lw_okq (⟨"RoundVotes$Node", "waitsForPrevotes", "(I)Z"⟩, 18) := ⟨⟨by decide +kernel, by decide +kernel⟩, List.mem_of_getElem? (i := 118) (by decide +kernel), List.mem_of_getElem? (i := 585) (by decide +kernel), List.mem_of_getElem? (i := 586) (by decide +kernel)⟩
theorem lw_p21 : lw_okq (⟨"RoundVotes$Node", "waitsForPrecommits", "(I)Z"⟩, 18) := ⟨⟨by decide +kernel, by decide +kernel⟩, List.mem_of_getElem? (i := 118) (by decide +kernel), List.mem_of_getElem? (i := 589) (by decide +kernel), List.mem_of_getElem? (i := 590) (by decide +kernel)⟩
theorem lw_p22 : lw_okq (⟨"RoundVotes", "bringNodesBack", "()V"⟩, 12) := ⟨⟨by decide +kernel, by decide +kernel⟩, List.mem_of_getElem? (i := 16) (by decide +kernel), List.mem_of_getElem? (i := 593) (by decide +kernel), List.mem_of_getElem? (i := 594) (by decide +kernel)⟩
theorem lw_p23 : lw_okq (⟨"RoundVotes", "bringCopies", "()V"⟩, 12) := ⟨⟨by decide +kernel, by decide +kernel⟩, List.mem_of_getElem? (i := 16) (by decide +kernel), List.mem_of_getElem? (i := 601) (by decide +kernel), List.mem_of_getElem? (i := 602) (by decide +kernel)⟩
theorem lw_p24 : lw_okq (⟨"RoundVotes", "handOver", "(LRoundVotes$Message;)V"⟩, 12) := ⟨⟨by decide +kernel, by decide +kernel⟩, List.mem_of_getElem? (i := 16) (by decide +kernel), List.mem_of_getElem? (i := 605) (by decide +kernel), List.mem_of_getElem? (i := 606) (by decide +kernel)⟩
theorem lw_p25 : lw_okq (⟨"RoundVotes$Faults", "isKnown", "(LRoundVotes$Message;)Z"⟩, 2) := ⟨⟨by decide +kernel, by decide +kernel⟩, List.mem_of_getElem? (i := 68) (by decide +kernel), List.mem_of_getElem? (i := 617) (by decide +kernel), List.mem_of_getElem? (i := 618) (by decide +kernel)⟩
theorem lw_p26 : lw_okq (⟨"RoundVotes", "endTimers", "()V"⟩, 12) := ⟨⟨by decide +kernel, by decide +kernel⟩, List.mem_of_getElem? (i := 16) (by decide +kernel), List.mem_of_getElem? (i := 629) (by decide +kernel), List.mem_of_getElem? (i := 630) (by decide +kernel)⟩
theorem lw_p27 : lw_okq (⟨"RoundVotes", "tellerOf", "(II)I"⟩, 12) := ⟨⟨by decide +kernel, by decide +kernel⟩, List.mem_of_getElem? (i := 16) (by decide +kernel), List.mem_of_getElem? (i := 641) (by decide +kernel), List.mem_of_getElem? (i := 642) (by decide +kernel)⟩
theorem lw_p28 : lw_okq (⟨"RoundVotes", "greatestDecided", "()I"⟩, 12) := ⟨⟨by decide +kernel, by decide +kernel⟩, List.mem_of_getElem? (i := 16) (by decide +kernel), List.mem_of_getElem? (i := 689) (by decide +kernel), List.mem_of_getElem? (i := 690) (by decide +kernel)⟩
theorem lw_p29 : lw_okq (⟨"RoundVotesModel", "clearHeight", "(II)V"⟩, 53) := ⟨⟨by decide +kernel, by decide +kernel⟩, List.mem_of_getElem? (i := 700) (by decide +kernel), List.mem_of_getElem? (i := 707) (by decide +kernel), List.mem_of_getElem? (i := 708) (by decide +kernel)⟩
theorem lw_p30 : lw_okq (⟨"RoundVotesModel", "place", "(IIIII)I"⟩, 53) := ⟨⟨by decide +kernel, by decide +kernel⟩, List.mem_of_getElem? (i := 700) (by decide +kernel), List.mem_of_getElem? (i := 711) (by decide +kernel), List.mem_of_getElem? (i := 712) (by decide +kernel)⟩
theorem lw_p31 : lw_okq (⟨"RoundVotesModel", "roundPlace", "(IIII)I"⟩, 53) := ⟨⟨by decide +kernel, by decide +kernel⟩, List.mem_of_getElem? (i := 700) (by decide +kernel), List.mem_of_getElem? (i := 715) (by decide +kernel), List.mem_of_getElem? (i := 716) (by decide +kernel)⟩
def lw_privs_2 : List (MethodName × Nat) := [(⟨"RoundVotes$Node", "answersProposal", "()Z"⟩, 18), (⟨"RoundVotes$Node", "lockAllows", "(II)Z"⟩, 18), (⟨"RoundVotes$Node", "locks", "()Z"⟩, 18), (⟨"RoundVotes$Node", "givesUpValue", "()Z"⟩, 18), (⟨"RoundVotes$Node", "waitsForPrevotes", "(I)Z"⟩, 18), (⟨"RoundVotes$Node", "waitsForPrecommits", "(I)Z"⟩, 18), (⟨"RoundVotes", "bringNodesBack", "()V"⟩, 12), (⟨"RoundVotes", "bringCopies", "()V"⟩, 12), (⟨"RoundVotes", "handOver", "(LRoundVotes$Message;)V"⟩, 12), (⟨"RoundVotes$Faults", "isKnown", "(LRoundVotes$Message;)Z"⟩, 2), (⟨"RoundVotes", "endTimers", "()V"⟩, 12), (⟨"RoundVotes", "tellerOf", "(II)I"⟩, 12), (⟨"RoundVotes", "greatestDecided", "()I"⟩, 12), (⟨"RoundVotesModel", "clearHeight", "(II)V"⟩, 53), (⟨"RoundVotesModel", "place", "(IIIII)I"⟩, 53), (⟨"RoundVotesModel", "roundPlace", "(IIII)I"⟩, 53)]
theorem lw_r2 : ∀ q ∈ lw_privs_2, lw_okq q := List.forall_mem_cons.mpr ⟨lw_p16, List.forall_mem_cons.mpr ⟨lw_p17, List.forall_mem_cons.mpr ⟨lw_p18, List.forall_mem_cons.mpr ⟨lw_p19, List.forall_mem_cons.mpr ⟨lw_p20, List.forall_mem_cons.mpr ⟨lw_p21, List.forall_mem_cons.mpr ⟨lw_p22, List.forall_mem_cons.mpr ⟨lw_p23, List.forall_mem_cons.mpr ⟨lw_p24, List.forall_mem_cons.mpr ⟨lw_p25, List.forall_mem_cons.mpr ⟨lw_p26, List.forall_mem_cons.mpr ⟨lw_p27, List.forall_mem_cons.mpr ⟨lw_p28, List.forall_mem_cons.mpr ⟨lw_p29, List.forall_mem_cons.mpr ⟨lw_p30, List.forall_mem_cons.mpr ⟨lw_p31, fun _ h => absurd h List.not_mem_nil⟩⟩⟩⟩⟩⟩⟩⟩⟩⟩⟩⟩⟩⟩⟩⟩
theorem lw_p32 : lw_okq (⟨"RoundVotesModel", "clearSigned", "(I)V"⟩, 53) := ⟨⟨by decide +kernel, by decide +kernel⟩, List.mem_of_getElem? (i := 700) (by decide +kernel), List.mem_of_getElem? (i := 719) (by decide +kernel), List.mem_of_getElem? (i := 720) (by decide +kernel)⟩
theorem lw_p33 : lw_okq (⟨"RoundVotesModel", "oneTurn", "()V"⟩, 53) := ⟨⟨by decide +kernel, by decide +kernel⟩, List.mem_of_getElem? (i := 700) (by decide +kernel), List.mem_of_getElem? (i := 892) (by decide +kernel), List.mem_of_getElem? (i := 893) (by decide +kernel)⟩
theorem lw_p34 : lw_okq (⟨"RoundVotesModel", "begin", "(II)V"⟩, 53) := ⟨⟨by decide +kernel, by decide +kernel⟩, List.mem_of_getElem? (i := 700) (by decide +kernel), List.mem_of_getElem? (i := 896) (by decide +kernel), List.mem_of_getElem? (i := 897) (by decide +kernel)⟩
theorem lw_p35 : lw_okq (⟨"RoundVotesModel", "proposer", "(II)I"⟩, 53) := ⟨⟨by decide +kernel, by decide +kernel⟩, List.mem_of_getElem? (i := 700) (by decide +kernel), List.mem_of_getElem? (i := 900) (by decide +kernel), List.mem_of_getElem? (i := 901) (by decide +kernel)⟩
theorem lw_p36 : lw_okq (⟨"RoundVotesModel", "send", "(IIII)V"⟩, 53) := ⟨⟨by decide +kernel, by decide +kernel⟩, List.mem_of_getElem? (i := 700) (by decide +kernel), List.mem_of_getElem? (i := 904) (by decide +kernel), List.mem_of_getElem? (i := 905) (by decide +kernel)⟩
theorem lw_p37 : lw_okq (⟨"RoundVotesModel", "keep", "(IIIIIIIZ)V"⟩, 53) := ⟨⟨by decide +kernel, by decide +kernel⟩, List.mem_of_getElem? (i := 700) (by decide +kernel), List.mem_of_getElem? (i := 908) (by decide +kernel), List.mem_of_getElem? (i := 909) (by decide +kernel)⟩
theorem lw_p38 : lw_okq (⟨"RoundVotesModel", "accuse", "(IIIII)V"⟩, 53) := ⟨⟨by decide +kernel, by decide +kernel⟩, List.mem_of_getElem? (i := 700) (by decide +kernel), List.mem_of_getElem? (i := 912) (by decide +kernel), List.mem_of_getElem? (i := 913) (by decide +kernel)⟩
theorem lw_p39 : lw_okq (⟨"RoundVotesModel", "copy", "(IIIIIII)V"⟩, 53) := ⟨⟨by decide +kernel, by decide +kernel⟩, List.mem_of_getElem? (i := 700) (by decide +kernel), List.mem_of_getElem? (i := 919) (by decide +kernel), List.mem_of_getElem? (i := 920) (by decide +kernel)⟩
theorem lw_p40 : lw_okq (⟨"RoundVotesModel", "noteSent", "(IIIII)V"⟩, 53) := ⟨⟨by decide +kernel, by decide +kernel⟩, List.mem_of_getElem? (i := 700) (by decide +kernel), List.mem_of_getElem? (i := 923) (by decide +kernel), List.mem_of_getElem? (i := 924) (by decide +kernel)⟩
theorem lw_p41 : lw_okq (⟨"RoundVotesModel", "sentPlace", "(IIII)I"⟩, 53) := ⟨⟨by decide +kernel, by decide +kernel⟩, List.mem_of_getElem? (i := 700) (by decide +kernel), List.mem_of_getElem? (i := 927) (by decide +kernel), List.mem_of_getElem? (i := 928) (by decide +kernel)⟩
theorem lw_p42 : lw_okq (⟨"RoundVotesModel", "areApart", "(II)Z"⟩, 53) := ⟨⟨by decide +kernel, by decide +kernel⟩, List.mem_of_getElem? (i := 700) (by decide +kernel), List.mem_of_getElem? (i := 931) (by decide +kernel), List.mem_of_getElem? (i := 932) (by decide +kernel)⟩
theorem lw_p43 : lw_okq (⟨"RoundVotesModel", "put", "(IIIIIIIIZ)V"⟩, 53) := ⟨⟨by decide +kernel, by decide +kernel⟩, List.mem_of_getElem? (i := 700) (by decide +kernel), List.mem_of_getElem? (i := 935) (by decide +kernel), List.mem_of_getElem? (i := 936) (by decide +kernel)⟩
theorem lw_p44 : lw_okq (⟨"RoundVotesModel", "ownValue", "(III)I"⟩, 53) := ⟨⟨by decide +kernel, by decide +kernel⟩, List.mem_of_getElem? (i := 700) (by decide +kernel), List.mem_of_getElem? (i := 939) (by decide +kernel), List.mem_of_getElem? (i := 940) (by decide +kernel)⟩
theorem lw_p45 : lw_okq (⟨"RoundVotesModel", "rules", "(I)V"⟩, 53) := ⟨⟨by decide +kernel, by decide +kernel⟩, List.mem_of_getElem? (i := 700) (by decide +kernel), List.mem_of_getElem? (i := 946) (by decide +kernel), List.mem_of_getElem? (i := 947) (by decide +kernel)⟩
theorem lw_p46 : lw_okq (⟨"RoundVotesModel", "ruleA", "(I)Z"⟩, 53) := ⟨⟨by decide +kernel, by decide +kernel⟩, List.mem_of_getElem? (i := 700) (by decide +kernel), List.mem_of_getElem? (i := 950) (by decide +kernel), List.mem_of_getElem? (i := 951) (by decide +kernel)⟩
theorem lw_p47 : lw_okq (⟨"RoundVotesModel", "proposal", "(II)I"⟩, 53) := ⟨⟨by decide +kernel, by decide +kernel⟩, List.mem_of_getElem? (i := 700) (by decide +kernel), List.mem_of_getElem? (i := 954) (by decide +kernel), List.mem_of_getElem? (i := 955) (by decide +kernel)⟩
def lw_privs_3 : List (MethodName × Nat) := [(⟨"RoundVotesModel", "clearSigned", "(I)V"⟩, 53), (⟨"RoundVotesModel", "oneTurn", "()V"⟩, 53), (⟨"RoundVotesModel", "begin", "(II)V"⟩, 53), (⟨"RoundVotesModel", "proposer", "(II)I"⟩, 53), (⟨"RoundVotesModel", "send", "(IIII)V"⟩, 53), (⟨"RoundVotesModel", "keep", "(IIIIIIIZ)V"⟩, 53), (⟨"RoundVotesModel", "accuse", "(IIIII)V"⟩, 53), (⟨"RoundVotesModel", "copy", "(IIIIIII)V"⟩, 53), (⟨"RoundVotesModel", "noteSent", "(IIIII)V"⟩, 53), (⟨"RoundVotesModel", "sentPlace", "(IIII)I"⟩, 53), (⟨"RoundVotesModel", "areApart", "(II)Z"⟩, 53), (⟨"RoundVotesModel", "put", "(IIIIIIIIZ)V"⟩, 53), (⟨"RoundVotesModel", "ownValue", "(III)I"⟩, 53), (⟨"RoundVotesModel", "rules", "(I)V"⟩, 53), (⟨"RoundVotesModel", "ruleA", "(I)Z"⟩, 53), (⟨"RoundVotesModel", "proposal", "(II)I"⟩, 53)]
theorem lw_r3 : ∀ q ∈ lw_privs_3, lw_okq q := List.forall_mem_cons.mpr ⟨lw_p32, List.forall_mem_cons.mpr ⟨lw_p33, List.forall_mem_cons.mpr ⟨lw_p34, List.forall_mem_cons.mpr ⟨lw_p35, List.forall_mem_cons.mpr ⟨lw_p36, List.forall_mem_cons.mpr ⟨lw_p37, List.forall_mem_cons.mpr ⟨lw_p38, List.forall_mem_cons.mpr ⟨lw_p39, List.forall_mem_cons.mpr ⟨lw_p40, List.forall_mem_cons.mpr ⟨lw_p41, List.forall_mem_cons.mpr ⟨lw_p42, List.forall_mem_cons.mpr ⟨lw_p43, List.forall_mem_cons.mpr ⟨lw_p44, List.forall_mem_cons.mpr ⟨lw_p45, List.forall_mem_cons.mpr ⟨lw_p46, List.forall_mem_cons.mpr ⟨lw_p47, fun _ h => absurd h List.not_mem_nil⟩⟩⟩⟩⟩⟩⟩⟩⟩⟩⟩⟩⟩⟩⟩⟩
theorem lw_p48 : lw_okq (⟨"RoundVotesModel", "hasOf", "(IIII)I"⟩, 53) := ⟨⟨by decide +kernel, by decide +kernel⟩, List.mem_of_getElem? (i := 700) (by decide +kernel), List.mem_of_getElem? (i := 958) (by decide +kernel), List.mem_of_getElem? (i := 959) (by decide +kernel)⟩
theorem lw_p49 : lw_okq (⟨"RoundVotesModel", "votes", "(IIII)J"⟩, 53) := ⟨⟨by decide +kernel, by decide +kernel⟩, List.mem_of_getElem? (i := 700) (by decide +kernel), List.mem_of_getElem? (i := 962) (by decide +kernel), List.mem_of_getElem? (i := 963) (by decide +kernel)⟩
theorem lw_p50 : lw_okq (⟨"RoundVotesModel", "isMany", "(JI)Z"⟩, 53) := ⟨⟨by decide +kernel, by decide +kernel⟩, List.mem_of_getElem? (i := 700) (by decide +kernel), List.mem_of_getElem? (i := 966) (by decide +kernel), List.mem_of_getElem? (i := 967) (by decide +kernel)⟩
theorem lw_p51 : lw_okq (⟨"RoundVotesModel", "all", "(I)J"⟩, 53) := ⟨⟨by decide +kernel, by decide +kernel⟩, List.mem_of_getElem? (i := 700) (by decide +kernel), List.mem_of_getElem? (i := 972) (by decide +kernel), List.mem_of_getElem? (i := 973) (by decide +kernel)⟩
theorem lw_p52 : lw_okq (⟨"RoundVotesModel", "nextHeight", "(I)V"⟩, 53) := ⟨⟨by decide +kernel, by decide +kernel⟩, List.mem_of_getElem? (i := 700) (by decide +kernel), List.mem_of_getElem? (i := 976) (by decide +kernel), List.mem_of_getElem? (i := 977) (by decide +kernel)⟩
theorem lw_p53 : lw_okq (⟨"RoundVotesModel", "ruleB", "(I)Z"⟩, 53) := ⟨⟨by decide +kernel, by decide +kernel⟩, List.mem_of_getElem? (i := 700) (by decide +kernel), List.mem_of_getElem? (i := 980) (by decide +kernel), List.mem_of_getElem? (i := 981) (by decide +kernel)⟩
theorem lw_p54 : lw_okq (⟨"RoundVotesModel", "ruleC", "(I)Z"⟩, 53) := ⟨⟨by decide +kernel, by decide +kernel⟩, List.mem_of_getElem? (i := 700) (by decide +kernel), List.mem_of_getElem? (i := 984) (by decide +kernel), List.mem_of_getElem? (i := 985) (by decide +kernel)⟩
theorem lw_p55 : lw_okq (⟨"RoundVotesModel", "proposalSince", "(II)I"⟩, 53) := ⟨⟨by decide +kernel, by decide +kernel⟩, List.mem_of_getElem? (i := 700) (by decide +kernel), List.mem_of_getElem? (i := 988) (by decide +kernel), List.mem_of_getElem? (i := 989) (by decide +kernel)⟩
theorem lw_p56 : lw_okq (⟨"RoundVotesModel", "ruleD", "(I)Z"⟩, 53) := ⟨⟨by decide +kernel, by decide +kernel⟩, List.mem_of_getElem? (i := 700) (by decide +kernel), List.mem_of_getElem? (i := 992) (by decide +kernel), List.mem_of_getElem? (i := 993) (by decide +kernel)⟩
theorem lw_p57 : lw_okq (⟨"RoundVotesModel", "ruleE", "(I)Z"⟩, 53) := ⟨⟨by decide +kernel, by decide +kernel⟩, List.mem_of_getElem? (i := 700) (by decide +kernel), List.mem_of_getElem? (i := 996) (by decide +kernel), List.mem_of_getElem? (i := 997) (by decide +kernel)⟩
theorem lw_p58 : lw_okq (⟨"RoundVotesModel", "ruleF", "(I)Z"⟩, 53) := ⟨⟨by decide +kernel, by decide +kernel⟩, List.mem_of_getElem? (i := 700) (by decide +kernel), List.mem_of_getElem? (i := 1000) (by decide +kernel), List.mem_of_getElem? (i := 1001) (by decide +kernel)⟩
theorem lw_p59 : lw_okq (⟨"RoundVotesModel", "ruleG", "(I)Z"⟩, 53) := ⟨⟨by decide +kernel, by decide +kernel⟩, List.mem_of_getElem? (i := 700) (by decide +kernel), List.mem_of_getElem? (i := 1004) (by decide +kernel), List.mem_of_getElem? (i := 1005) (by decide +kernel)⟩
theorem lw_p60 : lw_okq (⟨"RoundVotesModel", "comeBack", "(I)V"⟩, 53) := ⟨⟨by decide +kernel, by decide +kernel⟩, List.mem_of_getElem? (i := 700) (by decide +kernel), List.mem_of_getElem? (i := 1008) (by decide +kernel), List.mem_of_getElem? (i := 1009) (by decide +kernel)⟩
theorem lw_p61 : lw_okq (⟨"RoundVotesModel", "deliver", "(ZI)V"⟩, 53) := ⟨⟨by decide +kernel, by decide +kernel⟩, List.mem_of_getElem? (i := 700) (by decide +kernel), List.mem_of_getElem? (i := 1012) (by decide +kernel), List.mem_of_getElem? (i := 1013) (by decide +kernel)⟩
theorem lw_p62 : lw_okq (⟨"RoundVotesModel", "timerEnds", "(II)V"⟩, 53) := ⟨⟨by decide +kernel, by decide +kernel⟩, List.mem_of_getElem? (i := 700) (by decide +kernel), List.mem_of_getElem? (i := 1016) (by decide +kernel), List.mem_of_getElem? (i := 1017) (by decide +kernel)⟩
theorem lw_p63 : lw_okq (⟨"RoundVotesModel", "tidy", "()V"⟩, 53) := ⟨⟨by decide +kernel, by decide +kernel⟩, List.mem_of_getElem? (i := 700) (by decide +kernel), List.mem_of_getElem? (i := 1020) (by decide +kernel), List.mem_of_getElem? (i := 1021) (by decide +kernel)⟩
def lw_privs_4 : List (MethodName × Nat) := [(⟨"RoundVotesModel", "hasOf", "(IIII)I"⟩, 53), (⟨"RoundVotesModel", "votes", "(IIII)J"⟩, 53), (⟨"RoundVotesModel", "isMany", "(JI)Z"⟩, 53), (⟨"RoundVotesModel", "all", "(I)J"⟩, 53), (⟨"RoundVotesModel", "nextHeight", "(I)V"⟩, 53), (⟨"RoundVotesModel", "ruleB", "(I)Z"⟩, 53), (⟨"RoundVotesModel", "ruleC", "(I)Z"⟩, 53), (⟨"RoundVotesModel", "proposalSince", "(II)I"⟩, 53), (⟨"RoundVotesModel", "ruleD", "(I)Z"⟩, 53), (⟨"RoundVotesModel", "ruleE", "(I)Z"⟩, 53), (⟨"RoundVotesModel", "ruleF", "(I)Z"⟩, 53), (⟨"RoundVotesModel", "ruleG", "(I)Z"⟩, 53), (⟨"RoundVotesModel", "comeBack", "(I)V"⟩, 53), (⟨"RoundVotesModel", "deliver", "(ZI)V"⟩, 53), (⟨"RoundVotesModel", "timerEnds", "(II)V"⟩, 53), (⟨"RoundVotesModel", "tidy", "()V"⟩, 53)]
theorem lw_r4 : ∀ q ∈ lw_privs_4, lw_okq q := List.forall_mem_cons.mpr ⟨lw_p48, List.forall_mem_cons.mpr ⟨lw_p49, List.forall_mem_cons.mpr ⟨lw_p50, List.forall_mem_cons.mpr ⟨lw_p51, List.forall_mem_cons.mpr ⟨lw_p52, List.forall_mem_cons.mpr ⟨lw_p53, List.forall_mem_cons.mpr ⟨lw_p54, List.forall_mem_cons.mpr ⟨lw_p55, List.forall_mem_cons.mpr ⟨lw_p56, List.forall_mem_cons.mpr ⟨lw_p57, List.forall_mem_cons.mpr ⟨lw_p58, List.forall_mem_cons.mpr ⟨lw_p59, List.forall_mem_cons.mpr ⟨lw_p60, List.forall_mem_cons.mpr ⟨lw_p61, List.forall_mem_cons.mpr ⟨lw_p62, List.forall_mem_cons.mpr ⟨lw_p63, fun _ h => absurd h List.not_mem_nil⟩⟩⟩⟩⟩⟩⟩⟩⟩⟩⟩⟩⟩⟩⟩⟩
theorem lw_p64 : lw_okq (⟨"RoundVotesModel", "noNode", "(I)Z"⟩, 53) := ⟨⟨by decide +kernel, by decide +kernel⟩, List.mem_of_getElem? (i := 700) (by decide +kernel), List.mem_of_getElem? (i := 1028) (by decide +kernel), List.mem_of_getElem? (i := 1029) (by decide +kernel)⟩
def lw_privs_5 : List (MethodName × Nat) := [(⟨"RoundVotesModel", "noNode", "(I)Z"⟩, 53)]
theorem lw_r5 : ∀ q ∈ lw_privs_5, lw_okq q := List.forall_mem_cons.mpr ⟨lw_p64, fun _ h => absurd h List.not_mem_nil⟩
def lw_privs : List (MethodName × Nat) := lw_privs_1 ++ (lw_privs_2 ++ (lw_privs_3 ++ (lw_privs_4 ++ (lw_privs_5))))
def lw_tbl : List Cond := k2_sels lw_privs ++ tables_1
theorem lw_privs_ok : ∀ q ∈ lw_privs, lw_okq q := by
  show ∀ q ∈ lw_privs_1 ++ (lw_privs_2 ++ (lw_privs_3 ++ (lw_privs_4 ++ (lw_privs_5)))), lw_okq q
  exact List.forall_mem_append.mpr ⟨lw_r1, List.forall_mem_append.mpr ⟨lw_r2, List.forall_mem_append.mpr ⟨lw_r3, List.forall_mem_append.mpr ⟨lw_r4, lw_r5⟩⟩⟩⟩
def RX0 : String := "RoundVotes$Ballots"
def TX0 : u_T := fun k => match k with
  | 0 => ("RoundVotes$Ballots", "senders", "I", true)
  | 1 => ("RoundVotes$Ballots", "values", "[I", true)
  | 2 => ("RoundVotes$Ballots", "sinces", "[I", true)
  | _ => ("RoundVotes$Ballots", "topRound", "I", false)
def tyX0 : Nat → FieldType := fun k => match k with
  | 0 => .int
  | 1 => .array .int
  | 2 => .array .int
  | _ => .int
abbrev wsX00 : List Cond := u_ws RX0 TX0 4
theorem nmX0 : ∀ a, a < 4 → ∀ b, b < 4 → a ≠ b → (TX0 a).2.1 ≠ (TX0 b).2.1 := by decide +kernel
theorem tyX0_ok : ∀ k, k < 4 → parseFieldDescriptor (TX0 k).2.2.1 = some (tyX0 k) := by decide +kernel
abbrev cX0_init : ByteArray := prog_2_method_1_code
def yX0_init : MethodName := ⟨RX0, "<init>", "(I)V"⟩
abbrev cX0_valueOf : ByteArray := prog_2_method_2_code
def yX0_valueOf : MethodName := ⟨RX0, "valueOf", "(III)I"⟩
abbrev cX0_sinceOf : ByteArray := prog_2_method_3_code
def yX0_sinceOf : MethodName := ⟨RX0, "sinceOf", "(I)I"⟩
abbrev cX0_holds : ByteArray := prog_2_method_4_code
def yX0_holds : MethodName := ⟨RX0, "holds", "(III)Z"⟩
abbrev cX0_put : ByteArray := prog_2_method_5_code
def yX0_put : MethodName := ⟨RX0, "put", "(IIIII)V"⟩
abbrev cX0_votersFor : ByteArray := prog_2_method_6_code
def yX0_votersFor : MethodName := ⟨RX0, "votersFor", "(III)I"⟩
abbrev cX0_voters : ByteArray := prog_2_method_7_code
def yX0_voters : MethodName := ⟨RX0, "voters", "(II)I"⟩
abbrev cX0_clear : ByteArray := prog_2_method_8_code
def yX0_clear : MethodName := ⟨RX0, "clear", "()V"⟩
def RX1 : String := "RoundVotes$Choice"
def TX1 : u_T := fun k => match k with
  | 0 => ("RoundVotes$Choice", "value", "I", false)
  | _ => ("RoundVotes$Choice", "round", "I", false)
def tyX1 : Nat → FieldType := fun k => match k with
  | 0 => .int
  | _ => .int
abbrev wsX10 : List Cond := u_ws RX1 TX1 2
theorem nmX1 : ∀ a, a < 2 → ∀ b, b < 2 → a ≠ b → (TX1 a).2.1 ≠ (TX1 b).2.1 := by decide +kernel
theorem tyX1_ok : ∀ k, k < 2 → parseFieldDescriptor (TX1 k).2.2.1 = some (tyX1 k) := by decide +kernel
abbrev cX1_init : ByteArray := prog_3_method_1_code
def yX1_init : MethodName := ⟨RX1, "<init>", "()V"⟩
abbrev cX1_choose : ByteArray := prog_3_method_2_code
def yX1_choose : MethodName := ⟨RX1, "choose", "(II)V"⟩
abbrev cX1_isNone : ByteArray := prog_3_method_3_code
def yX1_isNone : MethodName := ⟨RX1, "isNone", "()Z"⟩
def RX2 : String := "RoundVotes$Decisions"
def TX2 : u_T := fun k => match k with
  | 0 => ("RoundVotes$Decisions", "values", "[I", true)
  | 1 => ("RoundVotes$Decisions", "rounds", "[I", true)
  | _ => ("RoundVotes$Decisions", "voters", "[I", true)
def tyX2 : Nat → FieldType := fun k => match k with
  | 0 => .array .int
  | 1 => .array .int
  | _ => .array .int
abbrev wsX20 : List Cond := u_ws RX2 TX2 3
theorem nmX2 : ∀ a, a < 3 → ∀ b, b < 3 → a ≠ b → (TX2 a).2.1 ≠ (TX2 b).2.1 := by decide +kernel
theorem tyX2_ok : ∀ k, k < 3 → parseFieldDescriptor (TX2 k).2.2.1 = some (tyX2 k) := by decide +kernel
abbrev cX2_init : ByteArray := prog_4_method_1_code
def yX2_init : MethodName := ⟨RX2, "<init>", "()V"⟩
abbrev cX2_holds : ByteArray := prog_4_method_2_code
def yX2_holds : MethodName := ⟨RX2, "holds", "(I)Z"⟩
abbrev cX2_put : ByteArray := prog_4_method_3_code
def yX2_put : MethodName := ⟨RX2, "put", "(IIII)V"⟩
def RX3 : String := "RoundVotes$Faults"
def TX3 : u_T := fun k => match k with
  | 0 => ("RoundVotes$Faults", "parts", "[I", true)
  | _ => ("RoundVotes$Faults", "size", "I", false)
def tyX3 : Nat → FieldType := fun k => match k with
  | 0 => .array .int
  | _ => .int
abbrev wsX30 : List Cond := u_ws RX3 TX3 2
theorem nmX3 : ∀ a, a < 2 → ∀ b, b < 2 → a ≠ b → (TX3 a).2.1 ≠ (TX3 b).2.1 := by decide +kernel
theorem tyX3_ok : ∀ k, k < 2 → parseFieldDescriptor (TX3 k).2.2.1 = some (tyX3 k) := by decide +kernel
abbrev cX3_init : ByteArray := prog_5_method_1_code
def yX3_init : MethodName := ⟨RX3, "<init>", "()V"⟩
abbrev cX3_part : ByteArray := prog_5_method_2_code
def yX3_part : MethodName := ⟨RX3, "part", "(II)I"⟩
abbrev cX3_add : ByteArray := prog_5_method_3_code
def yX3_add : MethodName := ⟨RX3, "add", "(LRoundVotes$Message;I)V"⟩
abbrev cX3_isKnown : ByteArray := prog_5_method_4_code
def yX3_isKnown : MethodName := ⟨RX3, "isKnown", "(LRoundVotes$Message;)Z"⟩
def RX4 : String := "RoundVotes$Mail"
def TX4 : u_T := fun k => match k with
  | 0 => ("RoundVotes$Mail", "slots", "[LRoundVotes$Message;", true)
  | 1 => ("RoundVotes$Mail", "size", "I", false)
  | _ => ("RoundVotes$Mail", "underWay", "I", false)
def tyX4 : Nat → FieldType := fun k => match k with
  | 0 => .array (.object "RoundVotes$Message")
  | 1 => .int
  | _ => .int
abbrev wsX40 : List Cond := u_ws RX4 TX4 3
theorem nmX4 : ∀ a, a < 3 → ∀ b, b < 3 → a ≠ b → (TX4 a).2.1 ≠ (TX4 b).2.1 := by decide +kernel
theorem tyX4_ok : ∀ k, k < 3 → parseFieldDescriptor (TX4 k).2.2.1 = some (tyX4 k) := by decide +kernel
abbrev cX4_init : ByteArray := prog_6_method_1_code
def yX4_init : MethodName := ⟨RX4, "<init>", "()V"⟩
abbrev cX4_post : ByteArray := prog_6_method_2_code
def yX4_post : MethodName := ⟨RX4, "post", "(LRoundVotes$Message;IZ)Z"⟩
abbrev cX4_dropUpTo : ByteArray := prog_6_method_3_code
def yX4_dropUpTo : MethodName := ⟨RX4, "dropUpTo", "(I)V"⟩
def RX5 : String := "RoundVotes$Message"
def TX5 : u_T := fun k => match k with
  | 0 => ("RoundVotes$Message", "sender", "I", false)
  | 1 => ("RoundVotes$Message", "receiver", "I", false)
  | 2 => ("RoundVotes$Message", "height", "I", false)
  | 3 => ("RoundVotes$Message", "round", "I", false)
  | 4 => ("RoundVotes$Message", "kind", "I", false)
  | 5 => ("RoundVotes$Message", "value", "I", false)
  | 6 => ("RoundVotes$Message", "since", "I", false)
  | 7 => ("RoundVotes$Message", "due", "I", false)
  | _ => ("RoundVotes$Message", "second", "Z", false)
def tyX5 : Nat → FieldType := fun k => match k with
  | 0 => .int
  | 1 => .int
  | 2 => .int
  | 3 => .int
  | 4 => .int
  | 5 => .int
  | 6 => .int
  | 7 => .int
  | _ => .boolean
abbrev wsX50 : List Cond := u_ws RX5 TX5 9
theorem nmX5 : ∀ a, a < 9 → ∀ b, b < 9 → a ≠ b → (TX5 a).2.1 ≠ (TX5 b).2.1 := by decide +kernel
theorem tyX5_ok : ∀ k, k < 9 → parseFieldDescriptor (TX5 k).2.2.1 = some (tyX5 k) := by decide +kernel
abbrev cX5_init : ByteArray := prog_7_method_1_code
def yX5_init : MethodName := ⟨RX5, "<init>", "()V"⟩
abbrev cX5_copyFrom : ByteArray := prog_7_method_2_code
def yX5_copyFrom : MethodName := ⟨RX5, "copyFrom", "(LRoundVotes$Message;)V"⟩
abbrev cX5_otherValue : ByteArray := prog_7_method_3_code
def yX5_otherValue : MethodName := ⟨RX5, "otherValue", "()I"⟩
def RX6 : String := "RoundVotes$Node"
def TX6 : u_T := fun k => match k with
  | 0 => ("RoundVotes$Node", "number", "I", true)
  | 1 => ("RoundVotes$Node", "setup", "LRoundVotes$Setup;", true)
  | 2 => ("RoundVotes$Node", "height", "I", false)
  | 3 => ("RoundVotes$Node", "round", "I", false)
  | 4 => ("RoundVotes$Node", "step", "I", false)
  | 5 => ("RoundVotes$Node", "locked", "LRoundVotes$Choice;", true)
  | 6 => ("RoundVotes$Node", "valid", "LRoundVotes$Choice;", true)
  | 7 => ("RoundVotes$Node", "behaviour", "I", false)
  | 8 => ("RoundVotes$Node", "lastCutTurn", "I", false)
  | 9 => ("RoundVotes$Node", "timers", "[I", true)
  | 10 => ("RoundVotes$Node", "once", "[Z", true)
  | 11 => ("RoundVotes$Node", "decisions", "LRoundVotes$Decisions;", true)
  | 12 => ("RoundVotes$Node", "present", "LRoundVotes$Ballots;", false)
  | 13 => ("RoundVotes$Node", "next", "LRoundVotes$Ballots;", false)
  | 14 => ("RoundVotes$Node", "signed", "LRoundVotes$Ballots;", true)
  | 15 => ("RoundVotes$Node", "sendings", "LRoundVotes$Sendings;", true)
  | 16 => ("RoundVotes$Node", "outgoing", "LRoundVotes$Message;", true)
  | _ => ("RoundVotes$Node", "hasToSend", "Z", false)
def tyX6 : Nat → FieldType := fun k => match k with
  | 0 => .int
  | 1 => .object "RoundVotes$Setup"
  | 2 => .int
  | 3 => .int
  | 4 => .int
  | 5 => .object "RoundVotes$Choice"
  | 6 => .object "RoundVotes$Choice"
  | 7 => .int
  | 8 => .int
  | 9 => .array .int
  | 10 => .array .boolean
  | 11 => .object "RoundVotes$Decisions"
  | 12 => .object "RoundVotes$Ballots"
  | 13 => .object "RoundVotes$Ballots"
  | 14 => .object "RoundVotes$Ballots"
  | 15 => .object "RoundVotes$Sendings"
  | 16 => .object "RoundVotes$Message"
  | _ => .boolean
abbrev wsX60 : List Cond := u_ws RX6 TX6 18
theorem nmX6 : ∀ a, a < 18 → ∀ b, b < 18 → a ≠ b → (TX6 a).2.1 ≠ (TX6 b).2.1 := by decide +kernel
theorem tyX6_ok : ∀ k, k < 18 → parseFieldDescriptor (TX6 k).2.2.1 = some (tyX6 k) := by decide +kernel
abbrev cX6_init : ByteArray := prog_8_method_1_code
def yX6_init : MethodName := ⟨RX6, "<init>", "(ILRoundVotes$Setup;)V"⟩
abbrev cX6_isCut : ByteArray := prog_8_method_2_code
def yX6_isCut : MethodName := ⟨RX6, "isCut", "()Z"⟩
abbrev cX6_standsStill : ByteArray := prog_8_method_3_code
def yX6_standsStill : MethodName := ⟨RX6, "standsStill", "()Z"⟩
abbrev cX6_begin : ByteArray := prog_8_method_4_code
def yX6_begin : MethodName := ⟨RX6, "begin", "(II)V"⟩
abbrev cX6_timesSending : ByteArray := prog_8_method_5_code
def yX6_timesSending : MethodName := ⟨RX6, "timesSending", "()I"⟩
abbrev cX6_deceives : ByteArray := prog_8_method_6_code
def yX6_deceives : MethodName := ⟨RX6, "deceives", "(I)Z"⟩
abbrev cX6_send : ByteArray := prog_8_method_7_code
def yX6_send : MethodName := ⟨RX6, "send", "(III)V"⟩
abbrev cX6_accepts : ByteArray := prog_8_method_8_code
def yX6_accepts : MethodName := ⟨RX6, "accepts", "(LRoundVotes$Message;)Z"⟩
abbrev cX6_comeBack : ByteArray := prog_8_method_9_code
def yX6_comeBack : MethodName := ⟨RX6, "comeBack", "(I)V"⟩
abbrev cX6_decideAs : ByteArray := prog_8_method_10_code
def yX6_decideAs : MethodName := ⟨RX6, "decideAs", "(LRoundVotes$Node;)V"⟩
abbrev cX6_decide : ByteArray := prog_8_method_11_code
def yX6_decide : MethodName := ⟨RX6, "decide", "(I)V"⟩
abbrev cX6_goToNextHeight : ByteArray := prog_8_method_12_code
def yX6_goToNextHeight : MethodName := ⟨RX6, "goToNextHeight", "()V"⟩
abbrev cX6_endTimer : ByteArray := prog_8_method_13_code
def yX6_endTimer : MethodName := ⟨RX6, "endTimer", "(II)V"⟩
abbrev cX6_followsRule : ByteArray := prog_8_method_14_code
def yX6_followsRule : MethodName := ⟨RX6, "followsRule", "(I)Z"⟩
abbrev cX6_proposalOf : ByteArray := prog_8_method_15_code
def yX6_proposalOf : MethodName := ⟨RX6, "proposalOf", "(I)I"⟩
abbrev cX6_areMany : ByteArray := prog_8_method_16_code
def yX6_areMany : MethodName := ⟨RX6, "areMany", "(I)Z"⟩
abbrev cX6_areSome : ByteArray := prog_8_method_17_code
def yX6_areSome : MethodName := ⟨RX6, "areSome", "(I)Z"⟩
abbrev cX6_roundToDecide : ByteArray := prog_8_method_18_code
def yX6_roundToDecide : MethodName := ⟨RX6, "roundToDecide", "()I"⟩
abbrev cX6_roundToJoin : ByteArray := prog_8_method_19_code
def yX6_roundToJoin : MethodName := ⟨RX6, "roundToJoin", "()I"⟩
abbrev cX6_answersProposal : ByteArray := prog_8_method_20_code
def yX6_answersProposal : MethodName := ⟨RX6, "answersProposal", "()Z"⟩
abbrev cX6_lockAllows : ByteArray := prog_8_method_21_code
def yX6_lockAllows : MethodName := ⟨RX6, "lockAllows", "(II)Z"⟩
abbrev cX6_locks : ByteArray := prog_8_method_22_code
def yX6_locks : MethodName := ⟨RX6, "locks", "()Z"⟩
abbrev cX6_givesUpValue : ByteArray := prog_8_method_23_code
def yX6_givesUpValue : MethodName := ⟨RX6, "givesUpValue", "()Z"⟩
abbrev cX6_waitsForPrevotes : ByteArray := prog_8_method_24_code
def yX6_waitsForPrevotes : MethodName := ⟨RX6, "waitsForPrevotes", "(I)Z"⟩
abbrev cX6_waitsForPrecommits : ByteArray := prog_8_method_25_code
def yX6_waitsForPrecommits : MethodName := ⟨RX6, "waitsForPrecommits", "(I)Z"⟩
def RX7 : String := "RoundVotes$Sendings"
def TX7 : u_T := fun k => match k with
  | 0 => ("RoundVotes$Sendings", "copies", "I", false)
  | 1 => ("RoundVotes$Sendings", "timesUnlike", "I", false)
  | _ => ("RoundVotes$Sendings", "firsts", "LRoundVotes$Ballots;", true)
def tyX7 : Nat → FieldType := fun k => match k with
  | 0 => .int
  | 1 => .int
  | _ => .object "RoundVotes$Ballots"
abbrev wsX70 : List Cond := u_ws RX7 TX7 3
theorem nmX7 : ∀ a, a < 3 → ∀ b, b < 3 → a ≠ b → (TX7 a).2.1 ≠ (TX7 b).2.1 := by decide +kernel
theorem tyX7_ok : ∀ k, k < 3 → parseFieldDescriptor (TX7 k).2.2.1 = some (tyX7 k) := by decide +kernel
abbrev cX7_init : ByteArray := prog_9_method_1_code
def yX7_init : MethodName := ⟨RX7, "<init>", "()V"⟩
abbrev cX7_add : ByteArray := prog_9_method_2_code
def yX7_add : MethodName := ⟨RX7, "add", "(LRoundVotes$Message;)V"⟩
def RX8 : String := "RoundVotes$Setup"
def TX8 : u_T := fun k => match k with
  | 0 => ("RoundVotes$Setup", "size", "I", true)
  | 1 => ("RoundVotes$Setup", "seed", "I", true)
  | 2 => ("RoundVotes$Setup", "weights", "[[I", true)
  | _ => ("RoundVotes$Setup", "all", "[I", true)
def tyX8 : Nat → FieldType := fun k => match k with
  | 0 => .int
  | 1 => .int
  | 2 => .array (.array .int)
  | _ => .array .int
abbrev wsX80 : List Cond := u_ws RX8 TX8 4
theorem nmX8 : ∀ a, a < 4 → ∀ b, b < 4 → a ≠ b → (TX8 a).2.1 ≠ (TX8 b).2.1 := by decide +kernel
theorem tyX8_ok : ∀ k, k < 4 → parseFieldDescriptor (TX8 k).2.2.1 = some (tyX8 k) := by decide +kernel
abbrev cX8_init : ByteArray := prog_10_method_1_code
def yX8_init : MethodName := ⟨RX8, "<init>", "(II)V"⟩
abbrev cX8_changeWeight : ByteArray := prog_10_method_2_code
def yX8_changeWeight : MethodName := ⟨RX8, "changeWeight", "(III)V"⟩
abbrev cX8_weightOfAll : ByteArray := prog_10_method_3_code
def yX8_weightOfAll : MethodName := ⟨RX8, "weightOfAll", "(II)I"⟩
abbrev cX8_proposer : ByteArray := prog_10_method_4_code
def yX8_proposer : MethodName := ⟨RX8, "proposer", "(II)I"⟩
abbrev cX8_ownValue : ByteArray := prog_10_method_5_code
def yX8_ownValue : MethodName := ⟨RX8, "ownValue", "(III)I"⟩
def RX9 : String := "RoundVotes$Told"
def TX9 : u_T := fun k => match k with
  | 0 => ("RoundVotes$Told", "numbers", "[I", true)
  | 1 => ("RoundVotes$Told", "kinds", "[I", true)
  | 2 => ("RoundVotes$Told", "bys", "[I", true)
  | _ => ("RoundVotes$Told", "size", "I", false)
def tyX9 : Nat → FieldType := fun k => match k with
  | 0 => .array .int
  | 1 => .array .int
  | 2 => .array .int
  | _ => .int
abbrev wsX90 : List Cond := u_ws RX9 TX9 4
theorem nmX9 : ∀ a, a < 4 → ∀ b, b < 4 → a ≠ b → (TX9 a).2.1 ≠ (TX9 b).2.1 := by decide +kernel
theorem tyX9_ok : ∀ k, k < 4 → parseFieldDescriptor (TX9 k).2.2.1 = some (tyX9 k) := by decide +kernel
abbrev cX9_init : ByteArray := prog_11_method_1_code
def yX9_init : MethodName := ⟨RX9, "<init>", "()V"⟩
abbrev cX9_find : ByteArray := prog_11_method_2_code
def yX9_find : MethodName := ⟨RX9, "find", "(I)I"⟩
abbrev cX9_add : ByteArray := prog_11_method_3_code
def yX9_add : MethodName := ⟨RX9, "add", "(III)Z"⟩
abbrev cX9_remove : ByteArray := prog_11_method_4_code
def yX9_remove : MethodName := ⟨RX9, "remove", "(I)V"⟩
def RX10 : String := "RoundVotes"
def TX10 : u_T := fun k => match k with
  | 0 => ("RoundVotes", "setup", "LRoundVotes$Setup;", true)
  | 1 => ("RoundVotes", "nodes", "[LRoundVotes$Node;", true)
  | 2 => ("RoundVotes", "mail", "LRoundVotes$Mail;", true)
  | 3 => ("RoundVotes", "told", "LRoundVotes$Told;", true)
  | 4 => ("RoundVotes", "faults", "LRoundVotes$Faults;", true)
  | 5 => ("RoundVotes", "time", "I", false)
  | 6 => ("RoundVotes", "gone", "I", false)
  | 7 => ("RoundVotes", "came", "I", false)
  | 8 => ("RoundVotes", "lost", "I", false)
  | 9 => ("RoundVotes", "sideBits", "I", false)
  | 10 => ("RoundVotes", "firstSideTurn", "I", false)
  | _ => ("RoundVotes", "lastSideTurn", "I", false)
def tyX10 : Nat → FieldType := fun k => match k with
  | 0 => .object "RoundVotes$Setup"
  | 1 => .array (.object "RoundVotes$Node")
  | 2 => .object "RoundVotes$Mail"
  | 3 => .object "RoundVotes$Told"
  | 4 => .object "RoundVotes$Faults"
  | 5 => .int
  | 6 => .int
  | 7 => .int
  | 8 => .int
  | 9 => .int
  | 10 => .int
  | _ => .int
abbrev wsX100 : List Cond := u_ws RX10 TX10 12
theorem nmX10 : ∀ a, a < 12 → ∀ b, b < 12 → a ≠ b → (TX10 a).2.1 ≠ (TX10 b).2.1 := by decide +kernel
theorem tyX10_ok : ∀ k, k < 12 → parseFieldDescriptor (TX10 k).2.2.1 = some (tyX10 k) := by decide +kernel
abbrev cX10_init : ByteArray := prog_1_method_1_code
def yX10_init : MethodName := ⟨RX10, "<init>", "(II)V"⟩
abbrev cX10_weight : ByteArray := prog_1_method_2_code
def yX10_weight : MethodName := ⟨RX10, "weight", "(II)I"⟩
abbrev cX10_behave : ByteArray := prog_1_method_3_code
def yX10_behave : MethodName := ⟨RX10, "behave", "(II)I"⟩
abbrev cX10_disturb : ByteArray := prog_1_method_4_code
def yX10_disturb : MethodName := ⟨RX10, "disturb", "(III)I"⟩
abbrev cX10_sides : ByteArray := prog_1_method_5_code
def yX10_sides : MethodName := ⟨RX10, "sides", "(II)I"⟩
abbrev cX10_cut : ByteArray := prog_1_method_6_code
def yX10_cut : MethodName := ⟨RX10, "cut", "(II)I"⟩
abbrev cX10_turn : ByteArray := prog_1_method_7_code
def yX10_turn : MethodName := ⟨RX10, "turn", "(I)I"⟩
abbrev cX10_catchUp : ByteArray := prog_1_method_8_code
def yX10_catchUp : MethodName := ⟨RX10, "catchUp", "(I)I"⟩
abbrev cX10_node : ByteArray := prog_1_method_9_code
def yX10_node : MethodName := ⟨RX10, "node", "(II)I"⟩
abbrev cX10_vote : ByteArray := prog_1_method_10_code
def yX10_vote : MethodName := ⟨RX10, "vote", "(IIII)I"⟩
abbrev cX10_decided : ByteArray := prog_1_method_11_code
def yX10_decided : MethodName := ⟨RX10, "decided", "(III)I"⟩
abbrev cX10_unlike : ByteArray := prog_1_method_12_code
def yX10_unlike : MethodName := ⟨RX10, "unlike", "(I)I"⟩
abbrev cX10_evidence : ByteArray := prog_1_method_13_code
def yX10_evidence : MethodName := ⟨RX10, "evidence", "(II)I"⟩
abbrev cX10_against : ByteArray := prog_1_method_14_code
def yX10_against : MethodName := ⟨RX10, "against", "(I)I"⟩
abbrev cX10_count : ByteArray := prog_1_method_15_code
def yX10_count : MethodName := ⟨RX10, "count", "(I)I"⟩
abbrev cX10_weightOf : ByteArray := prog_1_method_16_code
def yX10_weightOf : MethodName := ⟨RX10, "weightOf", "(II)I"⟩
abbrev cX10_isNode : ByteArray := prog_1_method_17_code
def yX10_isNode : MethodName := ⟨RX10, "isNode", "(I)Z"⟩
abbrev cX10_isHeight : ByteArray := prog_1_method_18_code
def yX10_isHeight : MethodName := ⟨RX10, "isHeight", "(I)Z"⟩
abbrev cX10_greatestHeight : ByteArray := prog_1_method_19_code
def yX10_greatestHeight : MethodName := ⟨RX10, "greatestHeight", "()I"⟩
abbrev cX10_greatestDecided : ByteArray := prog_1_method_20_code
def yX10_greatestDecided : MethodName := ⟨RX10, "greatestDecided", "()I"⟩
abbrev cX10_tellerOf : ByteArray := prog_1_method_21_code
def yX10_tellerOf : MethodName := ⟨RX10, "tellerOf", "(II)I"⟩
abbrev cX10_beginAll : ByteArray := prog_1_method_22_code
def yX10_beginAll : MethodName := ⟨RX10, "beginAll", "()V"⟩
abbrev cX10_bringNodesBack : ByteArray := prog_1_method_23_code
def yX10_bringNodesBack : MethodName := ⟨RX10, "bringNodesBack", "()V"⟩
abbrev cX10_bringCopies : ByteArray := prog_1_method_24_code
def yX10_bringCopies : MethodName := ⟨RX10, "bringCopies", "()V"⟩
abbrev cX10_handOver : ByteArray := prog_1_method_25_code
def yX10_handOver : MethodName := ⟨RX10, "handOver", "(LRoundVotes$Message;)V"⟩
abbrev cX10_endTimers : ByteArray := prog_1_method_26_code
def yX10_endTimers : MethodName := ⟨RX10, "endTimers", "()V"⟩
abbrev cX10_settle : ByteArray := prog_1_method_27_code
def yX10_settle : MethodName := ⟨RX10, "settle", "(LRoundVotes$Node;)V"⟩
abbrev cX10_dispatch : ByteArray := prog_1_method_28_code
def yX10_dispatch : MethodName := ⟨RX10, "dispatch", "(LRoundVotes$Node;)V"⟩
abbrev cX10_sendCopy : ByteArray := prog_1_method_29_code
def yX10_sendCopy : MethodName := ⟨RX10, "sendCopy", "(LRoundVotes$Message;)V"⟩
abbrev cX10_areOnUnlikeSides : ByteArray := prog_1_method_30_code
def yX10_areOnUnlikeSides : MethodName := ⟨RX10, "areOnUnlikeSides", "(II)Z"⟩
def RX11 : String := "RoundVotesModel"
def TX11 : u_T := fun k => match k with
  | 0 => ("RoundVotesModel", "thrown", "I", false)
  | 1 => ("RoundVotesModel", "n", "I", true)
  | 2 => ("RoundVotesModel", "seed", "I", true)
  | 3 => ("RoundVotesModel", "time", "I", false)
  | 4 => ("RoundVotesModel", "weights", "[I", true)
  | 5 => ("RoundVotesModel", "heightOf", "[I", true)
  | 6 => ("RoundVotesModel", "roundOf", "[I", true)
  | 7 => ("RoundVotesModel", "stepOf", "[I", true)
  | 8 => ("RoundVotesModel", "lockedValue", "[I", true)
  | 9 => ("RoundVotesModel", "lockedRound", "[I", true)
  | 10 => ("RoundVotesModel", "validValue", "[I", true)
  | 11 => ("RoundVotesModel", "validRound", "[I", true)
  | 12 => ("RoundVotesModel", "cutUntil", "[I", true)
  | 13 => ("RoundVotesModel", "isCut", "[Z", true)
  | 14 => ("RoundVotesModel", "behaviour", "[I", true)
  | 15 => ("RoundVotesModel", "timers", "[I", true)
  | 16 => ("RoundVotesModel", "didD", "[Z", true)
  | 17 => ("RoundVotesModel", "didF", "[Z", true)
  | 18 => ("RoundVotesModel", "didG", "[Z", true)
  | 19 => ("RoundVotesModel", "sentCopies", "[I", true)
  | 20 => ("RoundVotesModel", "has", "[I", true)
  | 21 => ("RoundVotesModel", "hasRound", "[I", true)
  | 22 => ("RoundVotesModel", "signed", "[I", true)
  | 23 => ("RoundVotesModel", "signedRound", "[I", true)
  | 24 => ("RoundVotesModel", "decidedValue", "[I", true)
  | 25 => ("RoundVotesModel", "decidedRound", "[I", true)
  | 26 => ("RoundVotesModel", "decidedBits", "[I", true)
  | 27 => ("RoundVotesModel", "decidedWeight", "[J", true)
  | 28 => ("RoundVotesModel", "due", "[I", true)
  | 29 => ("RoundVotesModel", "from", "[I", true)
  | 30 => ("RoundVotesModel", "to", "[I", true)
  | 31 => ("RoundVotesModel", "height", "[I", true)
  | 32 => ("RoundVotesModel", "round", "[I", true)
  | 33 => ("RoundVotesModel", "kind", "[I", true)
  | 34 => ("RoundVotesModel", "value", "[I", true)
  | 35 => ("RoundVotesModel", "since", "[I", true)
  | 36 => ("RoundVotesModel", "isSecond", "[Z", true)
  | 37 => ("RoundVotesModel", "copies", "I", false)
  | 38 => ("RoundVotesModel", "underWay", "I", false)
  | 39 => ("RoundVotesModel", "gone", "I", false)
  | 40 => ("RoundVotesModel", "came", "I", false)
  | 41 => ("RoundVotesModel", "lost", "I", false)
  | 42 => ("RoundVotesModel", "disturbed", "[I", true)
  | 43 => ("RoundVotesModel", "disturbKind", "[I", true)
  | 44 => ("RoundVotesModel", "disturbBy", "[I", true)
  | 45 => ("RoundVotesModel", "disturbs", "I", false)
  | 46 => ("RoundVotesModel", "sideBits", "I", false)
  | 47 => ("RoundVotesModel", "sidesFrom", "I", false)
  | 48 => ("RoundVotesModel", "sidesUntil", "I", false)
  | 49 => ("RoundVotesModel", "evidence", "[I", true)
  | 50 => ("RoundVotesModel", "evidences", "I", false)
  | 51 => ("RoundVotesModel", "firstSent", "[I", true)
  | _ => ("RoundVotesModel", "sentUnlike", "[Z", true)
def tyX11 : Nat → FieldType := fun k => match k with
  | 0 => .int
  | 1 => .int
  | 2 => .int
  | 3 => .int
  | 4 => .array .int
  | 5 => .array .int
  | 6 => .array .int
  | 7 => .array .int
  | 8 => .array .int
  | 9 => .array .int
  | 10 => .array .int
  | 11 => .array .int
  | 12 => .array .int
  | 13 => .array .boolean
  | 14 => .array .int
  | 15 => .array .int
  | 16 => .array .boolean
  | 17 => .array .boolean
  | 18 => .array .boolean
  | 19 => .array .int
  | 20 => .array .int
  | 21 => .array .int
  | 22 => .array .int
  | 23 => .array .int
  | 24 => .array .int
  | 25 => .array .int
  | 26 => .array .int
  | 27 => .array .long
  | 28 => .array .int
  | 29 => .array .int
  | 30 => .array .int
  | 31 => .array .int
  | 32 => .array .int
  | 33 => .array .int
  | 34 => .array .int
  | 35 => .array .int
  | 36 => .array .boolean
  | 37 => .int
  | 38 => .int
  | 39 => .int
  | 40 => .int
  | 41 => .int
  | 42 => .array .int
  | 43 => .array .int
  | 44 => .array .int
  | 45 => .int
  | 46 => .int
  | 47 => .int
  | 48 => .int
  | 49 => .array .int
  | 50 => .int
  | 51 => .array .int
  | _ => .array .boolean
abbrev wsX110 : List Cond := u_ws RX11 TX11 53
theorem nmX11 : ∀ a, a < 53 → ∀ b, b < 53 → a ≠ b → (TX11 a).2.1 ≠ (TX11 b).2.1 := by decide +kernel
theorem tyX11_ok : ∀ k, k < 53 → parseFieldDescriptor (TX11 k).2.2.1 = some (tyX11 k) := by decide +kernel
abbrev cX11_in : ByteArray := prog_13_method_2_code
def yX11_in : MethodName := ⟨RX11, "in", "(JJJ)Z"⟩
abbrev cX11_init : ByteArray := prog_13_method_3_code
def yX11_init : MethodName := ⟨RX11, "<init>", "(II)V"⟩
abbrev cX11_place : ByteArray := prog_13_method_4_code
def yX11_place : MethodName := ⟨RX11, "place", "(IIIII)I"⟩
abbrev cX11_roundPlace : ByteArray := prog_13_method_5_code
def yX11_roundPlace : MethodName := ⟨RX11, "roundPlace", "(IIII)I"⟩
abbrev cX11_clearHeight : ByteArray := prog_13_method_6_code
def yX11_clearHeight : MethodName := ⟨RX11, "clearHeight", "(II)V"⟩
abbrev cX11_clearSigned : ByteArray := prog_13_method_7_code
def yX11_clearSigned : MethodName := ⟨RX11, "clearSigned", "(I)V"⟩
abbrev cX11_all : ByteArray := prog_13_method_8_code
def yX11_all : MethodName := ⟨RX11, "all", "(I)J"⟩
abbrev cX11_isMany : ByteArray := prog_13_method_9_code
def yX11_isMany : MethodName := ⟨RX11, "isMany", "(JI)Z"⟩
abbrev cX11_proposer : ByteArray := prog_13_method_10_code
def yX11_proposer : MethodName := ⟨RX11, "proposer", "(II)I"⟩
abbrev cX11_ownValue : ByteArray := prog_13_method_11_code
def yX11_ownValue : MethodName := ⟨RX11, "ownValue", "(III)I"⟩
abbrev cX11_sentPlace : ByteArray := prog_13_method_12_code
def yX11_sentPlace : MethodName := ⟨RX11, "sentPlace", "(IIII)I"⟩
abbrev cX11_noteSent : ByteArray := prog_13_method_13_code
def yX11_noteSent : MethodName := ⟨RX11, "noteSent", "(IIIII)V"⟩
abbrev cX11_otherValue : ByteArray := prog_13_method_14_code
def yX11_otherValue : MethodName := ⟨RX11, "otherValue", "(II)I"⟩
abbrev cX11_send : ByteArray := prog_13_method_15_code
def yX11_send : MethodName := ⟨RX11, "send", "(IIII)V"⟩
abbrev cX11_areApart : ByteArray := prog_13_method_16_code
def yX11_areApart : MethodName := ⟨RX11, "areApart", "(II)Z"⟩
abbrev cX11_copy : ByteArray := prog_13_method_17_code
def yX11_copy : MethodName := ⟨RX11, "copy", "(IIIIIII)V"⟩
abbrev cX11_put : ByteArray := prog_13_method_18_code
def yX11_put : MethodName := ⟨RX11, "put", "(IIIIIIIIZ)V"⟩
abbrev cX11_keep : ByteArray := prog_13_method_19_code
def yX11_keep : MethodName := ⟨RX11, "keep", "(IIIIIIIZ)V"⟩
abbrev cX11_accuse : ByteArray := prog_13_method_20_code
def yX11_accuse : MethodName := ⟨RX11, "accuse", "(IIIII)V"⟩
abbrev cX11_hasOf : ByteArray := prog_13_method_21_code
def yX11_hasOf : MethodName := ⟨RX11, "hasOf", "(IIII)I"⟩
abbrev cX11_votes : ByteArray := prog_13_method_22_code
def yX11_votes : MethodName := ⟨RX11, "votes", "(IIII)J"⟩
abbrev cX11_proposal : ByteArray := prog_13_method_23_code
def yX11_proposal : MethodName := ⟨RX11, "proposal", "(II)I"⟩
abbrev cX11_proposalSince : ByteArray := prog_13_method_24_code
def yX11_proposalSince : MethodName := ⟨RX11, "proposalSince", "(II)I"⟩
abbrev cX11_begin : ByteArray := prog_13_method_25_code
def yX11_begin : MethodName := ⟨RX11, "begin", "(II)V"⟩
abbrev cX11_nextHeight : ByteArray := prog_13_method_26_code
def yX11_nextHeight : MethodName := ⟨RX11, "nextHeight", "(I)V"⟩
abbrev cX11_ruleA : ByteArray := prog_13_method_27_code
def yX11_ruleA : MethodName := ⟨RX11, "ruleA", "(I)Z"⟩
abbrev cX11_ruleB : ByteArray := prog_13_method_28_code
def yX11_ruleB : MethodName := ⟨RX11, "ruleB", "(I)Z"⟩
abbrev cX11_ruleC : ByteArray := prog_13_method_29_code
def yX11_ruleC : MethodName := ⟨RX11, "ruleC", "(I)Z"⟩
abbrev cX11_ruleD : ByteArray := prog_13_method_30_code
def yX11_ruleD : MethodName := ⟨RX11, "ruleD", "(I)Z"⟩
abbrev cX11_ruleE : ByteArray := prog_13_method_31_code
def yX11_ruleE : MethodName := ⟨RX11, "ruleE", "(I)Z"⟩
abbrev cX11_ruleF : ByteArray := prog_13_method_32_code
def yX11_ruleF : MethodName := ⟨RX11, "ruleF", "(I)Z"⟩
abbrev cX11_ruleG : ByteArray := prog_13_method_33_code
def yX11_ruleG : MethodName := ⟨RX11, "ruleG", "(I)Z"⟩
abbrev cX11_rules : ByteArray := prog_13_method_34_code
def yX11_rules : MethodName := ⟨RX11, "rules", "(I)V"⟩
abbrev cX11_comeBack : ByteArray := prog_13_method_35_code
def yX11_comeBack : MethodName := ⟨RX11, "comeBack", "(I)V"⟩
abbrev cX11_deliver : ByteArray := prog_13_method_36_code
def yX11_deliver : MethodName := ⟨RX11, "deliver", "(ZI)V"⟩
abbrev cX11_tidy : ByteArray := prog_13_method_37_code
def yX11_tidy : MethodName := ⟨RX11, "tidy", "()V"⟩
abbrev cX11_timerEnds : ByteArray := prog_13_method_38_code
def yX11_timerEnds : MethodName := ⟨RX11, "timerEnds", "(II)V"⟩
abbrev cX11_oneTurn : ByteArray := prog_13_method_39_code
def yX11_oneTurn : MethodName := ⟨RX11, "oneTurn", "()V"⟩
abbrev cX11_turn : ByteArray := prog_13_method_40_code
def yX11_turn : MethodName := ⟨RX11, "turn", "(I)I"⟩
abbrev cX11_noNode : ByteArray := prog_13_method_41_code
def yX11_noNode : MethodName := ⟨RX11, "noNode", "(I)Z"⟩
abbrev cX11_weight : ByteArray := prog_13_method_42_code
def yX11_weight : MethodName := ⟨RX11, "weight", "(II)I"⟩
abbrev cX11_behave : ByteArray := prog_13_method_43_code
def yX11_behave : MethodName := ⟨RX11, "behave", "(II)I"⟩
abbrev cX11_disturb : ByteArray := prog_13_method_44_code
def yX11_disturb : MethodName := ⟨RX11, "disturb", "(III)I"⟩
abbrev cX11_sides : ByteArray := prog_13_method_45_code
def yX11_sides : MethodName := ⟨RX11, "sides", "(II)I"⟩
abbrev cX11_cut : ByteArray := prog_13_method_46_code
def yX11_cut : MethodName := ⟨RX11, "cut", "(II)I"⟩
abbrev cX11_catchUp : ByteArray := prog_13_method_47_code
def yX11_catchUp : MethodName := ⟨RX11, "catchUp", "(I)I"⟩
abbrev cX11_node : ByteArray := prog_13_method_48_code
def yX11_node : MethodName := ⟨RX11, "node", "(II)I"⟩
abbrev cX11_vote : ByteArray := prog_13_method_49_code
def yX11_vote : MethodName := ⟨RX11, "vote", "(IIII)I"⟩
abbrev cX11_decided : ByteArray := prog_13_method_50_code
def yX11_decided : MethodName := ⟨RX11, "decided", "(III)I"⟩
abbrev cX11_unlike : ByteArray := prog_13_method_51_code
def yX11_unlike : MethodName := ⟨RX11, "unlike", "(I)I"⟩
abbrev cX11_evidence : ByteArray := prog_13_method_52_code
def yX11_evidence : MethodName := ⟨RX11, "evidence", "(II)I"⟩
abbrev cX11_against : ByteArray := prog_13_method_53_code
def yX11_against : MethodName := ⟨RX11, "against", "(I)I"⟩
abbrev cX11_count : ByteArray := prog_13_method_54_code
def yX11_count : MethodName := ⟨RX11, "count", "(I)I"⟩
abbrev cX11_weightOf : ByteArray := prog_13_method_55_code
def yX11_weightOf : MethodName := ⟨RX11, "weightOf", "(II)I"⟩
def RL : String := "RoundVotesLaw"
abbrev cL_cell : ByteArray := method_2_code
def yL_cell : MethodName := ⟨RL, "cell", "([II)I"⟩
abbrev cL_law : ByteArray := code
def yL_law : MethodName := ⟨RL, "law", "([I)Z"⟩
end
section
/-! ===== the small machine: a heap of typed cells; operations as functions; runs by fuel ===== -/
/-- top, slots made, tags, lengths, ints, longs, references -/
abbrev mH : Type := Nat × Nat × (Nat → Nat) × (Nat → Nat) × (Nat → Nat → Int32) × (Nat → Nat → Int64) × (Nat → Nat → Option Nat)
def mTop (h : mH) : Nat := h.1
def mSl (h : mH) : Nat := h.2.1
def mTg (h : mH) (a : Nat) : Nat := h.2.2.1 a
def mLn (h : mH) (a : Nat) : Nat := h.2.2.2.1 a
def mI (h : mH) (a k : Nat) : Int32 := h.2.2.2.2.1 a k
def mJ (h : mH) (a k : Nat) : Int64 := h.2.2.2.2.2.1 a k
def mP (h : mH) (a k : Nat) : Option Nat := h.2.2.2.2.2.2 a k
/-- one place of a cell changed -/
def up2 {α : Type} (f : Nat → Nat → α) (a k : Nat) (v : α) : Nat → Nat → α := fun b j => if b = a ∧ j = k then v else f b j
def up1 {α : Type} (f : Nat → α) (a : Nat) (v : α) : Nat → α := fun b => if b = a then v else f b
def wI (h : mH) (a k : Nat) (v : Int32) : mH := (h.1, h.2.1, h.2.2.1, h.2.2.2.1, up2 h.2.2.2.2.1 a k v, h.2.2.2.2.2.1, h.2.2.2.2.2.2)
def wJ (h : mH) (a k : Nat) (v : Int64) : mH := (h.1, h.2.1, h.2.2.1, h.2.2.2.1, h.2.2.2.2.1, up2 h.2.2.2.2.2.1 a k v, h.2.2.2.2.2.2)
def wP (h : mH) (a k : Nat) (v : Option Nat) : mH := (h.1, h.2.1, h.2.2.1, h.2.2.2.1, h.2.2.2.2.1, h.2.2.2.2.2.1, up2 h.2.2.2.2.2.2 a k v)
/-- a new cell at the top, of tag t and n slots, with default contents -/
def wN (h : mH) (t n : Nat) : mH := (h.1 + 1, h.2.1 + n, up1 h.2.2.1 h.1 t, up1 h.2.2.2.1 h.1 n, up1 h.2.2.2.2.1 h.1 (fun _ => 0), up1 h.2.2.2.2.2.1 h.1 (fun _ => 0), up1 h.2.2.2.2.2.2 h.1 (fun _ => none))
/-- new int[n][k]: the outer row at the top, the inner ones behind it -/
def wM (h : mH) (n k : Nat) : mH := (h.1 + (1 + n), h.2.1 + (n + n * k),
  fun a => if a = h.1 then 25 else if h.1 < a ∧ a < h.1 + (1 + n) then 20 else h.2.2.1 a,
  fun a => if a = h.1 then n else if h.1 < a ∧ a < h.1 + (1 + n) then k else h.2.2.2.1 a,
  fun a => if h.1 ≤ a ∧ a < h.1 + (1 + n) then (fun _ => 0) else h.2.2.2.2.1 a,
  fun a => if h.1 ≤ a ∧ a < h.1 + (1 + n) then (fun _ => 0) else h.2.2.2.2.2.1 a,
  fun a => if a = h.1 then (fun j => if j < n then some (h.1 + 1 + j) else none) else if h.1 < a ∧ a < h.1 + (1 + n) then (fun _ => none) else h.2.2.2.2.2.2 a)
abbrev mL : Type := List (Option Value)
abbrev mO : Type := Option Value × mH
abbrev mC : Type := Nat → List Value → mH → Option mO
abbrev mK : Type := Nat → mL → List Value → mH → Option mO
abbrev mOp : Type := mC → mK → mL → List Value → mH → Option mO
def o_no : mOp := fun _ _ _ _ _ => none
-- constants, locals
def o_ic (nx : Nat) (v : Int32) : mOp := fun _ k l st h => k nx l (.int v :: st) h
def o_lc (nx : Nat) (v : Int64) : mOp := fun _ k l st h => k nx l (.long v :: st) h
def o_ld (nx i : Nat) : mOp := fun _ k l st h => match l[i]? with
  | some (some v) => k nx l (v :: st) h
  | _ => none
/-- no long stands just ahead of place i -/
def mFree (l : mL) (i : Nat) : Bool := match i with
  | 0 => true
  | j + 1 => match l[j]? with
    | some (some (.long _)) => false
    | some (some (.double _)) => false
    | _ => true
def o_ist (nx i : Nat) : mOp := fun _ k l st h => match st with
  | .int x :: st => bif mFree l i && Nat.blt i l.length then k nx (l.set i (some (.int x))) st h else none
  | _ => none
def o_ast (nx i : Nat) : mOp := fun _ k l st h => match st with
  | .ref x :: st => bif mFree l i && Nat.blt i l.length then k nx (l.set i (some (.ref x))) st h else none
  | _ => none
def o_lst (nx i : Nat) : mOp := fun _ k l st h => match st with
  | .long x :: st => bif mFree l i && Nat.blt (i + 1) l.length then k nx ((l.set i (some (.long x))).set (i + 1) none) st h else none
  | _ => none
def o_inc (nx i : Nat) (n : Int32) : mOp := fun _ k l st h => match l[i]? with
  | some (some (.int x)) => bif mFree l i && Nat.blt i l.length then k nx (l.set i (some (.int (x + n)))) st h else none
  | _ => none
-- arithmetic
def o_ii (nx : Nat) (f : Int32 → Int32 → Int32) : mOp := fun _ k l st h => match st with
  | .int y :: .int x :: st => k nx l (.int (f x y) :: st) h
  | _ => none
def o_ll (nx : Nat) (f : Int64 → Int64 → Int64) : mOp := fun _ k l st h => match st with
  | .long y :: .long x :: st => k nx l (.long (f x y) :: st) h
  | _ => none
def o_rem (nx : Nat) : mOp := fun _ k l st h => match st with
  | .int y :: .int x :: st => if y = 0 then none else k nx l (.int (x - x / y * y) :: st) h
  | _ => none
def o_i2l (nx : Nat) : mOp := fun _ k l st h => match st with
  | .int x :: st => k nx l (.long x.toInt64 :: st) h
  | _ => none
def o_l2i (nx : Nat) : mOp := fun _ k l st h => match st with
  | .long x :: st => k nx l (.int x.toInt32 :: st) h
  | _ => none
def o_lcmp (nx : Nat) : mOp := fun _ k l st h => match st with
  | .long y :: .long x :: st => k nx l (.int (lg_cmp x y) :: st) h
  | _ => none
def o_dup (nx : Nat) : mOp := fun _ k l st h => match st with
  | .int x :: st => k nx l (.int x :: .int x :: st) h
  | .ref x :: st => k nx l (.ref x :: .ref x :: st) h
  | _ => none
def o_dup2 (nx : Nat) : mOp := fun _ k l st h => match st with
  | .int x :: .ref y :: st => k nx l (.int x :: .ref y :: .int x :: .ref y :: st) h
  | _ => none
-- branches
def o_goto (tg : Nat) : mOp := fun _ k l st h => k tg l st h
/-- a comparison of two ints, by kind: 0 eq, 1 ne, 2 lt, 3 ge, 4 gt, 5 le -/
def mCmp (kd : Nat) (x y : Int32) : Prop := match kd with
  | 0 => x = y
  | 1 => ¬ x = y
  | 2 => x < y
  | 3 => y ≤ x
  | 4 => y < x
  | _ => x ≤ y
def o_eq (nx tg : Nat) : mOp := fun _ k l st h => match st with
  | .int y :: .int x :: st => if x = y then k tg l st h else k nx l st h
  | _ => none
def o_ne (nx tg : Nat) : mOp := fun _ k l st h => match st with
  | .int y :: .int x :: st => if x = y then k nx l st h else k tg l st h
  | _ => none
def o_lt (nx tg : Nat) : mOp := fun _ k l st h => match st with
  | .int y :: .int x :: st => if x < y then k tg l st h else k nx l st h
  | _ => none
def o_ge (nx tg : Nat) : mOp := fun _ k l st h => match st with
  | .int y :: .int x :: st => if y ≤ x then k tg l st h else k nx l st h
  | _ => none
def o_gt (nx tg : Nat) : mOp := fun _ k l st h => match st with
  | .int y :: .int x :: st => if y < x then k tg l st h else k nx l st h
  | _ => none
def o_le (nx tg : Nat) : mOp := fun _ k l st h => match st with
  | .int y :: .int x :: st => if x ≤ y then k tg l st h else k nx l st h
  | _ => none
def o_eq0 (nx tg : Nat) : mOp := fun _ k l st h => match st with
  | .int x :: st => if x = 0 then k tg l st h else k nx l st h
  | _ => none
def o_ne0 (nx tg : Nat) : mOp := fun _ k l st h => match st with
  | .int x :: st => if x = 0 then k nx l st h else k tg l st h
  | _ => none
def o_lt0 (nx tg : Nat) : mOp := fun _ k l st h => match st with
  | .int x :: st => if x < 0 then k tg l st h else k nx l st h
  | _ => none
def o_ge0 (nx tg : Nat) : mOp := fun _ k l st h => match st with
  | .int x :: st => if 0 ≤ x then k tg l st h else k nx l st h
  | _ => none
def o_gt0 (nx tg : Nat) : mOp := fun _ k l st h => match st with
  | .int x :: st => if 0 < x then k tg l st h else k nx l st h
  | _ => none
def o_le0 (nx tg : Nat) : mOp := fun _ k l st h => match st with
  | .int x :: st => if x ≤ 0 then k tg l st h else k nx l st h
  | _ => none
def o_nul (nx tg : Nat) : mOp := fun _ k l st h => match st with
  | .null :: st => k tg l st h
  | .ref _ :: st => k nx l st h
  | _ => none
def o_nnul (nx tg : Nat) : mOp := fun _ k l st h => match st with
  | .null :: st => k nx l st h
  | .ref _ :: st => k tg l st h
  | _ => none
/-- a table switch from 0 on -/
def o_tsw (tgs : List Nat) (df : Nat) : mOp := fun _ k l st h => match st with
  | .int x :: st => if x < 0 ∨ tgs.length ≤ x.toNatClampNeg then k df l st h else k (tgs.getD x.toNatClampNeg df) l st h
  | _ => none
-- fields
def o_gI (nx t f : Nat) : mOp := fun _ k l st h => match st with
  | .ref a :: st => if mTg h a = t then k nx l (.int (mI h a f) :: st) h else none
  | _ => none
def o_gP (nx t f : Nat) : mOp := fun _ k l st h => match st with
  | .ref a :: st => if mTg h a = t then k nx l (va_rf (mP h a f) :: st) h else none
  | _ => none
def o_pI (nx t f : Nat) : mOp := fun _ k l st h => match st with
  | .int x :: .ref a :: st => if mTg h a = t then k nx l st (wI h a f x) else none
  | _ => none
def o_pZ (nx t f : Nat) : mOp := fun _ k l st h => match st with
  | .int x :: .ref a :: st => if mTg h a = t ∧ (x = 0 ∨ x = 1) then k nx l st (wI h a f x) else none
  | _ => none
def o_pP (nx t f : Nat) : mOp := fun _ k l st h => match st with
  | .ref x :: .ref a :: st => if mTg h a = t then k nx l st (wP h a f (some x)) else none
  | _ => none
-- rows
def o_ial (nx : Nat) : mOp := fun _ k l st h => match st with
  | .int i :: .ref a :: st => if (mTg h a = 20 ∨ mTg h a = 30) ∧ ¬ i < 0 ∧ i.toNatClampNeg < mLn h a then k nx l (.int (mI h a i.toNatClampNeg) :: st) h else none
  | _ => none
def o_bal (nx : Nat) : mOp := fun _ k l st h => match st with
  | .int i :: .ref a :: st => if mTg h a = 21 ∧ ¬ i < 0 ∧ i.toNatClampNeg < mLn h a then k nx l (.int (mI h a i.toNatClampNeg) :: st) h else none
  | _ => none
def o_lal (nx : Nat) : mOp := fun _ k l st h => match st with
  | .int i :: .ref a :: st => if mTg h a = 22 ∧ ¬ i < 0 ∧ i.toNatClampNeg < mLn h a then k nx l (.long (mJ h a i.toNatClampNeg) :: st) h else none
  | _ => none
def o_aal (nx : Nat) : mOp := fun _ k l st h => match st with
  | .int i :: .ref a :: st => if (mTg h a = 23 ∨ mTg h a = 24 ∨ mTg h a = 25) ∧ ¬ i < 0 ∧ i.toNatClampNeg < mLn h a then k nx l (va_rf (mP h a i.toNatClampNeg) :: st) h else none
  | _ => none
def o_ias (nx : Nat) : mOp := fun _ k l st h => match st with
  | .int x :: .int i :: .ref a :: st => if mTg h a = 20 ∧ ¬ i < 0 ∧ i.toNatClampNeg < mLn h a then k nx l st (wI h a i.toNatClampNeg x) else none
  | _ => none
def o_bas (nx : Nat) : mOp := fun _ k l st h => match st with
  | .int x :: .int i :: .ref a :: st => if mTg h a = 21 ∧ (x = 0 ∨ x = 1) ∧ ¬ i < 0 ∧ i.toNatClampNeg < mLn h a then k nx l st (wI h a i.toNatClampNeg x) else none
  | _ => none
def o_las (nx : Nat) : mOp := fun _ k l st h => match st with
  | .long x :: .int i :: .ref a :: st => if mTg h a = 22 ∧ ¬ i < 0 ∧ i.toNatClampNeg < mLn h a then k nx l st (wJ h a i.toNatClampNeg x) else none
  | _ => none
/-- rows of references: 23 holds cells of tag 6, 24 cells of tag 7 -/
def o_aas (nx : Nat) : mOp := fun _ k l st h => match st with
  | .ref x :: .int i :: .ref a :: st => if ((mTg h a = 23 ∧ mTg h x = 6) ∨ (mTg h a = 24 ∧ mTg h x = 7)) ∧ ¬ i < 0 ∧ i.toNatClampNeg < mLn h a then k nx l st (wP h a i.toNatClampNeg (some x)) else none
  | _ => none
def o_aln (nx : Nat) : mOp := fun _ k l st h => match st with
  | .ref a :: st => if mTg h a = 20 ∨ mTg h a = 23 ∨ mTg h a = 30 then k nx l (.int (nI (mLn h a)) :: st) h else none
  | _ => none
-- what is made
def o_new (nx t n : Nat) : mOp := fun _ k l st h => k nx l (.ref (mTop h) :: st) (wN h t n)
def o_nwa (nx t : Nat) : mOp := fun _ k l st h => match st with
  | .int n :: st => if ¬ n < 0 ∧ n.toNatClampNeg ≤ 1000000 then k nx l (.ref (mTop h) :: st) (wN h t n.toNatClampNeg) else none
  | _ => none
def o_mna (nx : Nat) : mOp := fun _ k l st h => match st with
  | .int m :: .int n :: st => if (¬ n < 0 ∧ n.toNatClampNeg ≤ 1000000) ∧ ¬ m < 0 ∧ m.toNatClampNeg ≤ 1000000 then k nx l (.ref (mTop h) :: st) (wM h n.toNatClampNeg m.toNatClampNeg) else none
  | _ => none
-- calls and ends
def mCat (st : List Value) : Nat := (st.map fun v => v.category).sum
def o_obj (nx : Nat) : mOp := fun _ k l st h => match st with
  | .ref _ :: st => bif Nat.ble (mCat st) 8 then k nx l st h else none
  | _ => none
/-- a static method m of n arguments -/
def o_cS (nx m n : Nat) : mOp := fun c k l st h => bif Nat.ble (mCat (st.drop n)) 8 && Nat.ble n st.length then
    match c m (st.take n).reverse h with
    | some (r, h1) => k nx l (r.toList ++ st.drop n) h1
    | none => none
  else none
/-- a method m of an object of tag t, with n arguments -/
def o_cV (nx m n t : Nat) : mOp := fun c k l st h => match st.drop n with
  | .ref a :: rest => bif Nat.ble (mCat rest) 8 && Nat.ble n st.length then
      if mTg h a = t then
        match c m (.ref a :: (st.take n).reverse) h with
        | some (r, h1) => k nx l (r.toList ++ rest) h1
        | none => none
      else none
    else none
  | _ => none
/-- a constructor -/
def o_cI (nx m n : Nat) : mOp := fun c k l st h => match st.drop n with
  | .ref a :: rest => bif Nat.ble (mCat rest) 8 && Nat.ble n st.length then
      match c m (.ref a :: (st.take n).reverse) h with
      | some (r, h1) => k nx l (r.toList ++ rest) h1
      | none => none
    else none
  | _ => none
def o_ri : mOp := fun _ _ _ st h => match st with
  | [.int x] => some (some (.int x), h)
  | _ => none
def o_rz : mOp := fun _ _ _ st h => match st with
  | [.int x] => if x = 0 ∨ x = 1 then some (some (.int x), h) else none
  | _ => none
def o_rl : mOp := fun _ _ _ st h => match st with
  | [.long x] => some (some (.long x), h)
  | _ => none
def o_rv : mOp := fun _ _ _ st h => match st with
  | [] => some (none, h)
  | _ => none
/-- the locals with which a method begins: a long takes two places -/
def mEn : List Value → mL
  | [] => []
  | v :: vs => if v.category = 2 then some v :: none :: mEn vs else some v :: mEn vs
def mArgs (n : Nat) (vs : List Value) : mL := mEn vs ++ List.replicate (n - (mEn vs).length) none
end
section
/-! ===== the small machine beside the great one ===== -/
def mTy : Nat → Nat → FieldType := fun t k => match t with
  | 1 => tyX0 k
  | 2 => tyX1 k
  | 3 => tyX2 k
  | 4 => tyX3 k
  | 5 => tyX4 k
  | 6 => tyX5 k
  | 7 => tyX6 k
  | 8 => tyX7 k
  | 9 => tyX8 k
  | 10 => tyX9 k
  | 11 => tyX10 k
  | 12 => tyX11 k
  | 20 => .int
  | 21 => .boolean
  | 22 => .long
  | 23 => .object RX5
  | 24 => .object RX6
  | _ => .array .int
def mVal (ty : FieldType) (i : Int32) (j : Int64) (p : Option Nat) : Value := match ty with
  | .long => .long j
  | .object _ => va_rf p
  | .array _ => va_rf p
  | _ => .int i
def mV (h : mH) (a k : Nat) : Value := mVal (mTy (mTg h a) k) (mI h a k) (mJ h a k) (mP h a k)
abbrev mCl : List vw_C := [(RX0, TX0, 4), (RX1, TX1, 2), (RX2, TX2, 3), (RX3, TX3, 2), (RX4, TX4, 3), (RX5, TX5, 9), (RX6, TX6, 18), (RX7, TX7, 3), (RX8, TX8, 4), (RX9, TX9, 4), (RX10, TX10, 12), (RX11, TX11, 53)]
/-- array classes by tag less 20 -/
abbrev mTys (dA : Nat → ClassId) : List (ClassId × FieldType) := [(dA 20, .int), (dA 21, .boolean), (dA 22, .long), (dA 23, .object RX5), (dA 24, .object RX6), (dA 25, .array .int)]
/-- what is fixed for the whole run: the classes' numbers and slots, the arrays' classes, where the new cells begin, where the script lies, its length, its ints, the heap at the start -/
abbrev mG : Type := va_G × (Nat → ClassId) × Nat × Nat × Nat × (Nat → Int32) × Heap
def gD (g : mG) : va_G := g.1
def gA (g : mG) : Nat → ClassId := g.2.1
def gB (g : mG) : Nat := g.2.2.1
def gb (g : mG) : Nat := g.2.2.2.1
def gL (g : mG) : Nat := g.2.2.2.2.1
def gx (g : mG) : Nat → Int32 := g.2.2.2.2.2.1
def gH (g : mG) : Heap := g.2.2.2.2.2.2
/-- the cell at a is as the small heap says -/
def mCR (g : mG) (h : mH) (H : Heap) (a : Nat) : Prop :=
  (∀ r : vw_C, mTg h a ≤ 12 → mCl[mTg h a - 1]? = some r → t_OB a ((gD g).1 (mTg h a - 1)) r.2.2 ((gD g).2 (mTg h a - 1)) H (mV h a)) ∧
  (20 ≤ mTg h a → H[a]? = some (arrV (gA g (mTg h a)) (mLn h a) (mV h a)))
def mHR (g : mG) (h : mH) (H : Heap) : Prop :=
  H.size = mTop h ∧ gB g ≤ mTop h ∧ gb g < gB g ∧ (∀ q : Nat, q < gB g → H[q]? = (gH g)[q]?) ∧
  ∀ a : Nat, mTg h a ≠ 0 → (a = gb g ∧ mTg h a = 30 ∧ mLn h a = gL g ∧ mI h a = gx g) ∨ (mTg h a < 30 ∧ gB g ≤ a ∧ a < mTop h ∧ mCR g h H a)
theorem mHR.in {g : mG} {h : mH} {H : Heap} (R : mHR g h H) {a t : Nat} (ht : mTg h a = t) (h0 : t ≠ 0) (h30 : t ≠ 30) : gB g ≤ a ∧ a < mTop h ∧ mCR g h H a := by
  rcases R.2.2.2.2 a (by rw [ht]; exact h0) with ⟨-, h2, -⟩ | ⟨-, h2⟩
  · exact absurd (ht.symm.trans h2) h30
  · exact h2
theorem mHR.obj {g : mG} {h : mH} {H : Heap} (R : mHR g h H) {a t : Nat} (ht : mTg h a = t + 1) (h12 : t < 12) {r : vw_C} (hr : mCl[t]? = some r) : t_OB a ((gD g).1 t) r.2.2 ((gD g).2 t) H (mV h a) := by
  have h1 := (R.in ht (by omega) (by omega)).2.2.1 r (by omega)
  rw [ht] at h1
  exact h1 hr
theorem mHR.arr {g : mG} {h : mH} {H : Heap} (R : mHR g h H) {a t : Nat} (ht : mTg h a = t) (h20 : 20 ≤ t) (h30 : t ≠ 30) : H[a]? = some (arrV (gA g t) (mLn h a) (mV h a)) := by
  have h1 := (R.in ht (by omega) h30).2.2.2 (by omega)
  rw [ht] at h1
  exact h1
theorem mHR.base {g : mG} {h : mH} {H : Heap} (R : mHR g h H) {a t : Nat} (ht : mTg h a = t) (h0 : t ≠ 0) (h30 : t ≠ 30) : gB g ≤ a := (R.in ht h0 h30).1
-- the small heap's own words
theorem mTop_wI {h : mH} {a k : Nat} {v : Int32} : mTop (wI h a k v) = mTop h := rfl
theorem mSl_wI {h : mH} {a k : Nat} {v : Int32} : mSl (wI h a k v) = mSl h := rfl
theorem mTg_wI {h : mH} {a k : Nat} {v : Int32} : mTg (wI h a k v) = mTg h := rfl
theorem mLn_wI {h : mH} {a k : Nat} {v : Int32} : mLn (wI h a k v) = mLn h := rfl
theorem mI_wI {h : mH} {a k : Nat} {v : Int32} {b j : Nat} : mI (wI h a k v) b j = if b = a ∧ j = k then v else mI h b j := rfl
theorem mJ_wI {h : mH} {a k : Nat} {v : Int32} : mJ (wI h a k v) = mJ h := rfl
theorem mP_wI {h : mH} {a k : Nat} {v : Int32} : mP (wI h a k v) = mP h := rfl
theorem mTop_wJ {h : mH} {a k : Nat} {v : Int64} : mTop (wJ h a k v) = mTop h := rfl
theorem mSl_wJ {h : mH} {a k : Nat} {v : Int64} : mSl (wJ h a k v) = mSl h := rfl
theorem mTg_wJ {h : mH} {a k : Nat} {v : Int64} : mTg (wJ h a k v) = mTg h := rfl
theorem mLn_wJ {h : mH} {a k : Nat} {v : Int64} : mLn (wJ h a k v) = mLn h := rfl
theorem mI_wJ {h : mH} {a k : Nat} {v : Int64} : mI (wJ h a k v) = mI h := rfl
theorem mJ_wJ {h : mH} {a k : Nat} {v : Int64} {b j : Nat} : mJ (wJ h a k v) b j = if b = a ∧ j = k then v else mJ h b j := rfl
theorem mP_wJ {h : mH} {a k : Nat} {v : Int64} : mP (wJ h a k v) = mP h := rfl
theorem mTop_wP {h : mH} {a k : Nat} {v : Option Nat} : mTop (wP h a k v) = mTop h := rfl
theorem mSl_wP {h : mH} {a k : Nat} {v : Option Nat} : mSl (wP h a k v) = mSl h := rfl
theorem mTg_wP {h : mH} {a k : Nat} {v : Option Nat} : mTg (wP h a k v) = mTg h := rfl
theorem mLn_wP {h : mH} {a k : Nat} {v : Option Nat} : mLn (wP h a k v) = mLn h := rfl
theorem mI_wP {h : mH} {a k : Nat} {v : Option Nat} : mI (wP h a k v) = mI h := rfl
theorem mJ_wP {h : mH} {a k : Nat} {v : Option Nat} : mJ (wP h a k v) = mJ h := rfl
theorem mP_wP {h : mH} {a k : Nat} {v : Option Nat} {b j : Nat} : mP (wP h a k v) b j = if b = a ∧ j = k then v else mP h b j := rfl
theorem mTop_wN {h : mH} {t n : Nat} : mTop (wN h t n) = mTop h + 1 := rfl
theorem mSl_wN {h : mH} {t n : Nat} : mSl (wN h t n) = mSl h + n := rfl
theorem mTg_wN {h : mH} {t n a : Nat} : mTg (wN h t n) a = if a = mTop h then t else mTg h a := rfl
theorem mLn_wN {h : mH} {t n a : Nat} : mLn (wN h t n) a = if a = mTop h then n else mLn h a := rfl
theorem mI_wN {h : mH} {t n a : Nat} : mI (wN h t n) a = if a = mTop h then (fun _ => 0) else mI h a := rfl
theorem mJ_wN {h : mH} {t n a : Nat} : mJ (wN h t n) a = if a = mTop h then (fun _ => 0) else mJ h a := rfl
theorem mP_wN {h : mH} {t n a : Nat} : mP (wN h t n) a = if a = mTop h then (fun _ => none) else mP h a := rfl
/-- one cell's contents have changed, at one place -/
theorem mHR.put {g : mG} {h h' : mH} {H H' : Heap} {a t : Nat} (R : mHR g h H) (ht : mTg h a = t) (h0 : t ≠ 0) (h30 : t ≠ 30)
    (e1 : mTop h' = mTop h) (e2 : mTg h' = mTg h) (e3 : mLn h' = mLn h) (e4 : ∀ b, b ≠ a → mI h' b = mI h b) (e5 : ∀ b j, b ≠ a → mV h' b j = mV h b j)
    (hz : H'.size = H.size) (oq : ∀ q : Nat, q ≠ a → H'[q]? = H[q]?) (hc : mCR g h' H' a) : mHR g h' H' := by
  obtain ⟨r1, r2, r3, r4, r5⟩ := id R
  have hb := (R.in ht h0 h30)
  refine ⟨by rw [hz, r1, e1], by rw [e1]; exact r2, r3, fun q hq => ?_, fun b hb0 => ?_⟩
  · rw [oq q (by omega)]
    exact r4 q hq
  · rw [e2] at hb0
    rcases r5 b hb0 with ⟨x1, x2, x3, x4⟩ | ⟨x1, x2, x3, x4⟩
    · have hne : b ≠ a := by
        intro e
        rw [e] at x1
        omega
      exact Or.inl ⟨x1, by rw [e2]; exact x2, by rw [e3]; exact x3, by rw [e4 b hne]; exact x4⟩
    · refine Or.inr ⟨by rw [e2]; exact x1, x2, by rw [e1]; exact x3, ?_⟩
      by_cases hne : b = a
      · subst hne
        exact hc
      · have hv : mV h' b = mV h b := funext fun j => e5 b j hne
        refine ⟨fun r hr1 hr2 => ?_, fun h20 => ?_⟩
        · rw [e2] at hr1 hr2 ⊢
          rw [hv]
          exact (x4.1 r hr1 hr2).kept (oq b hne)
        · rw [e2] at h20 ⊢
          rw [e3, hv, oq b hne]
          exact x4.2 h20
/-- a new cell at the top -/
theorem mHR.push {g : mG} {h : mH} {H H' : Heap} {t n : Nat} (R : mHR g h H) (ht : t < 30) (hz : H'.size = mTop h + 1) (oq : ∀ q : Nat, q < mTop h → H'[q]? = H[q]?) (hc : mCR g (wN h t n) H' (mTop h)) : mHR g (wN h t n) H' := by
  obtain ⟨r1, r2, r3, r4, r5⟩ := id R
  refine ⟨hz, by rw [mTop_wN]; omega, r3, fun q hq => ?_, fun b hb0 => ?_⟩
  · rw [oq q (by omega)]
    exact r4 q hq
  · by_cases hb : b = mTop h
    · subst hb
      exact Or.inr ⟨by rw [mTg_wN, if_pos rfl]; exact ht, r2, by rw [mTop_wN]; omega, hc⟩
    · have q1 : mTg (wN h t n) b = mTg h b := by rw [mTg_wN, if_neg hb]
      have q2 : mLn (wN h t n) b = mLn h b := by rw [mLn_wN, if_neg hb]
      have q3 : mI (wN h t n) b = mI h b := by rw [mI_wN, if_neg hb]
      have q4 : mJ (wN h t n) b = mJ h b := by rw [mJ_wN, if_neg hb]
      have q5 : mP (wN h t n) b = mP h b := by rw [mP_wN, if_neg hb]
      have q6 : mV (wN h t n) b = mV h b := funext fun j => by unfold mV; rw [q1, q3, q4, q5]
      rw [q1] at hb0
      rcases r5 b hb0 with ⟨x1, x2, x3, x4⟩ | ⟨x1, x2, x3, x4⟩
      · exact Or.inl ⟨x1, by rw [q1]; exact x2, by rw [q2]; exact x3, by rw [q3]; exact x4⟩
      · refine Or.inr ⟨by rw [q1]; exact x1, x2, by rw [mTop_wN]; omega, ⟨fun r hr1 hr2 => ?_, fun h20 => ?_⟩⟩
        · rw [q1] at hr1 hr2 ⊢
          rw [q6]
          exact (x4.1 r hr1 hr2).kept (oq b x3)
        · rw [q1] at h20 ⊢
          rw [q2, q6, oq b x3]
          exact x4.2 h20
-- locals
def mLV (ls : Array Slot) (nL : Nat) (l : mL) : Prop := ls.size = nL ∧ lv_wf ls ∧ l.length = nL ∧ ∀ (i : Nat) (v : Value), l[i]? = some (some v) → ls[i]? = some (.val v)
def mAs (l : mL) : List (Nat × Value) := (List.range l.length).filterMap (fun i => match l[i]? with
  | some (some v) => some (i, v)
  | _ => none)
theorem mAs_in {l : mL} {i : Nat} {v : Value} : (i, v) ∈ mAs l ↔ l[i]? = some (some v) := by
  unfold mAs
  rw [List.mem_filterMap]
  constructor
  · rintro ⟨j, -, hj⟩
    split at hj
    · next w hw =>
      cases hj
      exact hw
    · cases hj
  · intro h
    refine ⟨i, List.mem_range.mpr (List.getElem?_eq_some_iff.mp h).1, ?_⟩
    rw [h]
theorem mLV.has {ls : Array Slot} {nL : Nat} {l : mL} (h : mLV ls nL l) : lv_has ls nL (mAs l) := ⟨h.1, h.2.1, fun q hq => h.2.2.2 q.1 q.2 (mAs_in.mp hq)⟩
theorem mFree_spec {l : mL} {i j : Nat} {v : Value} (h : mFree l i = true) (hj : j + 1 = i) (hv : l[j]? = some (some v)) : ¬ v.category = 2 := by
  subst hj
  simp only [mFree, hv] at h
  cases v <;> simp_all [Value.category]
theorem mLV.set1 {ls ls' : Array Slot} {nL : Nat} {l : mL} {i : Nat} {v : Value} (h : mLV ls nL l) (hf : mFree l i = true) (hi : i < l.length) (h' : lv_has ls' nL ((i, v) :: (mAs l).filter (fun q => !(q.1 == i) && !(q.1 + 1 == i && q.2.category == 2)))) : mLV ls' nL (l.set i (some v)) := by
  refine ⟨h'.1, h'.2.1, by rw [List.length_set]; exact h.2.2.1, fun j w hj => ?_⟩
  by_cases hji : j = i
  · subst hji
    rw [List.getElem?_set_self hi] at hj
    cases hj
    exact h'.2.2 (j, v) List.mem_cons_self
  · rw [List.getElem?_set_ne (Ne.symm hji)] at hj
    refine h'.2.2 (j, w) (List.mem_cons_of_mem _ (List.mem_filter.mpr ⟨mAs_in.mpr hj, ?_⟩))
    have h3 : ¬ (j + 1 = i ∧ w.category = 2) := fun q => mFree_spec hf q.1 hj q.2
    simp only [Bool.and_eq_true, Bool.not_eq_true', beq_eq_false_iff_ne, ne_eq, Bool.and_eq_false_iff]
    exact ⟨hji, by
      by_cases e1 : j + 1 = i
      · exact Or.inr fun e2 => h3 ⟨e1, e2⟩
      · exact Or.inl e1⟩
theorem mLV.set2 {ls ls' : Array Slot} {nL : Nat} {l : mL} {i : Nat} {v : Value} (h : mLV ls nL l) (hf : mFree l i = true) (hi : i + 1 < l.length) (h' : lv_has ls' nL ((i, v) :: (mAs l).filter (fun q => !(q.1 == i) && (!(q.1 == i + 1) && !(q.1 + 1 == i && q.2.category == 2))))) : mLV ls' nL ((l.set i (some v)).set (i + 1) none) := by
  refine ⟨h'.1, h'.2.1, by rw [List.length_set, List.length_set]; exact h.2.2.1, fun j w hj => ?_⟩
  by_cases hj1 : j = i + 1
  · subst hj1
    rw [List.getElem?_set_self (by rw [List.length_set]; exact hi)] at hj
    cases hj
  · rw [List.getElem?_set_ne (Ne.symm hj1)] at hj
    by_cases hji : j = i
    · subst hji
      rw [List.getElem?_set_self (by omega)] at hj
      cases hj
      exact h'.2.2 (j, v) List.mem_cons_self
    · rw [List.getElem?_set_ne (Ne.symm hji)] at hj
      refine h'.2.2 (j, w) (List.mem_cons_of_mem _ (List.mem_filter.mpr ⟨mAs_in.mpr hj, ?_⟩))
      have h3 : ¬ (j + 1 = i ∧ w.category = 2) := fun q => mFree_spec hf q.1 hj q.2
      simp only [Bool.and_eq_true, Bool.not_eq_true', beq_eq_false_iff_ne, ne_eq, Bool.and_eq_false_iff]
      exact ⟨hji, hj1, by
        by_cases e1 : j + 1 = i
        · exact Or.inr fun e2 => h3 ⟨e1, e2⟩
        · exact Or.inl e1⟩
theorem mEn_args : ∀ (vs : List Value) (i j : Nat) (v : Value), (mEn vs)[j]? = some (some v) → (i + j, v) ∈ lv_args i vs
  | [], i, j, v, h => by simp [mEn] at h
  | w :: vs, i, j, v, h => by
    unfold mEn at h
    unfold lv_args
    by_cases hc : w.category = 2
    · rw [if_pos hc] at h ⊢
      match j, h with
      | 0, h => cases h; exact List.mem_cons_self
      | 1, h => cases h
      | j + 2, h =>
        have := mEn_args vs (i + 2) j v h
        rw [show i + (j + 2) = i + 2 + j by omega]
        exact List.mem_cons_of_mem _ this
    · rw [if_neg hc] at h ⊢
      match j, h with
      | 0, h => cases h; exact List.mem_cons_self
      | j + 1, h =>
        have := mEn_args vs (i + 1) j v h
        rw [show i + (j + 1) = i + 1 + j by omega]
        exact List.mem_cons_of_mem _ this
theorem mEn_len : ∀ vs : List Value, (mEn vs).length = (lg_sl vs).length
  | [] => rfl
  | w :: vs => by
    have := mEn_len vs
    unfold mEn
    by_cases hc : w.category = 2
    · rw [if_pos hc]
      simp [lg_sl, hc] at this ⊢
      omega
    · rw [if_neg hc]
      simp [lg_sl, hc] at this ⊢
      omega
theorem mLV_entry (vs : List Value) {n : Nat} (h : (mEn vs).length ≤ n) : mLV ((lg_sl vs ++ List.replicate (n - (lg_sl vs).length) Slot.unset).toArray) n (mArgs n vs) := by
  have h1 := lv_entry vs (n := n) (by rw [← mEn_len]; exact h)
  refine ⟨h1.1, h1.2.1, by unfold mArgs; rw [List.length_append, List.length_replicate]; omega, fun i v hi => ?_⟩
  unfold mArgs at hi
  by_cases hl : i < (mEn vs).length
  · rw [List.getElem?_append_left hl] at hi
    have := mEn_args vs 0 i v hi
    rw [Nat.zero_add] at this
    exact h1.2.2 (i, v) this
  · rw [List.getElem?_append_right (by omega), List.getElem?_replicate] at hi
    split at hi <;> cases hi
end
section
/-! ===== what a run of the small machine says of the great one ===== -/
/-- the words that last over every call -/
def mTb : List Cond := lw_tbl.filter goodWord
theorem mTb_of {w : Cond} (h : w ∈ lw_tbl) (hg : goodWord w = true) : w ∈ mTb := List.mem_filter.mpr ⟨h, hg⟩
theorem mTb_lw {w : Cond} (h : w ∈ mTb) : w ∈ lw_tbl := (List.mem_filter.mp h).1
theorem mTb_good {w : Cond} (h : w ∈ mTb) : goodWord w = true := (List.mem_filter.mp h).2
/-- those that last in another way: arrays of references, private constructors of nest mates -/
def mNxA : List FieldType := [.object RX5, .object RX6, .array .int]
def mNxM : List (String × Nat × MethodName × String) := [(RX10, 9, yX4_init, RX10), (RX10, 18, yX9_init, RX10), (RX10, 25, yX3_init, RX10), (RX6, 20, yX1_init, RX10), (RX6, 38, yX2_init, RX10), (RX6, 54, yX7_init, RX10), (RX6, 61, yX5_init, RX10), (RX4, 24, yX5_init, RX10)]
def mNw (U : State) : Prop := (∀ t ∈ mNxA, va_Nw (.arrayOver t) U) ∧ ∀ q ∈ mNxM, va_Nw (.methodLinkNest q.1 q.2.1 q.2.2.1 q.2.2.2) U
theorem mAO {t : FieldType} {u U : State} (hvm : u.vm.Alike U.vm) (h : va_Nw (.arrayOver t) u) : va_Nw (.arrayOver t) U := by
  have e := Cond.arrayOver_setVmC (args := #[]) hvm t
  have h2 : (Cond.arrayOver t).before #[] (u.setVm U.vm) = true := by rw [e]; exact h
  exact h2
theorem mNw.warm {u U : State} (hW : u.WarmedH U.vm) (h : mNw u) : mNw U := ⟨fun t ht => mAO hW.alike (h.1 t ht), fun q hq => va_Nw.warmM hW (h.2 q hq)⟩
theorem mNw.same {u U : State} (e : u.vm = U.vm) (h : mNw u) : mNw U := ⟨fun t ht => mAO (by rw [e]; exact Vm.Alike.refl _) (h.1 t ht), fun q hq => va_Nw.same rfl e (h.2 q hq)⟩
/-- a method: its class, its name, its bytes, places for locals, answer's type, frames and locals' words that it may need -/
abbrev mM : Type := String × MethodName × ByteArray × Nat × Option FieldType × Nat × Nat
def mCn (M : mM) : String := M.1
def mNm (M : mM) : MethodName := M.2.1
def mCc (M : mM) : ByteArray := M.2.2.1
def mNl (M : mM) : Nat := M.2.2.2.1
def mRt (M : mM) : Option FieldType := M.2.2.2.2.1
def mFr (M : mM) : Nat := M.2.2.2.2.2.1
def mLo (M : mM) : Nat := M.2.2.2.2.2.2
/-- what holds in a frame of method M -/
def mCx (g : mG) (M : mM) (p : Program) (s : State) (mth : MethodId) (args : Array Value) (meth : Method) (c : Code) : Prop :=
  p.tables.exec = Jvm.exec ∧ c.code = mCc M ∧ c.maxLocals = mNl M ∧ s.vm.findClass (mCn M) = some mth.cls ∧ (∀ w ∈ mTb, w.before args s = true) ∧
  va_K (gD g) mCl (mTys (gA g)) s ∧ va_X (gb g) (gL g) (gx g) s (gH g) ∧ meth.name = (mNm M).name ∧ mNw s
/-- the instruction at pc gives this answer -/
def mDr (M : mM) (pc : Nat) (r : Option Value) : Prop := match r with
  | some (.int v) => decode (mCc M) pc = .ok (.ireturn, 1) ∧ (mRt M = some .int ∨ (mRt M = some .boolean ∧ (v = 0 ∨ v = 1)))
  | some (.long _) => decode (mCc M) pc = .ok (.lreturn, 1) ∧ mRt M = some .long
  | none => decode (mCc M) pc = .ok (.return_, 1) ∧ mRt M = none
  | _ => False
def mRet (g : mG) (lau : Launch) (M : mM) (p : Program) (e : Env) (R : Room) (s : State) (mth : MethodId) (args : Array Value) (below : List Frame) (meth : Method) (c : Code) (Q : State → Prop) (o : mO) : Prop :=
  ∀ (pc : Nat) (ls : Array Slot) (H : Heap) (locs : List Loc) (cells slots : Nat), mDr M pc o.1 → mHR g o.2 H → (∀ q ∈ locs, gB g ≤ q.base) → cells ≤ R.cells → slots ≤ R.slots →
    W p lau e R s mth args below meth c H locs cells slots Q (F0 mth pc ls o.1.toList)
def mGood (g : mG) (lau : Launch) (M : mM) (pc : Nat) (l : mL) (st : List Value) (h : mH) (o : mO) : Prop :=
  mTop h ≤ mTop o.2 ∧ mSl h ≤ mSl o.2 ∧
  ∀ (p : Program) (e : Env) (R : Room) (s : State) (mth : MethodId) (args : Array Value) (below : List Frame) (meth : Method) (c : Code) (Q : State → Prop), mCx g M p s mth args meth c → mFr M ≤ R.frames → mLo M ≤ R.locals → mRet g lau M p e R s mth args below meth c Q o →
  ∀ (ls : Array Slot) (H : Heap) (locs : List Loc) (cells slots : Nat), mLV ls (mNl M) l → mHR g h H → (∀ q ∈ locs, gB g ≤ q.base) → cells + (mTop o.2 - mTop h) ≤ R.cells → slots + (mSl o.2 - mSl h) ≤ R.slots →
    W p lau e R s mth args below meth c H locs cells slots Q (F0 mth pc ls st)
/-- one step that leaves the heap -/
theorem mG_pure {g : mG} {lau : Launch} {M : mM} {pc pc' : Nat} {l l' : mL} {st st' : List Value} {h : mH} {o : mO}
    (hs : ∀ (p : Program) (e : Env) (R : Room) (s : State) (mth : MethodId) (args : Array Value) (below : List Frame) (meth : Method) (c : Code) (Q : State → Prop), mCx g M p s mth args meth c → mFr M ≤ R.frames → mLo M ≤ R.locals →
      ∀ (ls : Array Slot) (H : Heap) (locs : List Loc) (cells slots : Nat), mLV ls (mNl M) l → mHR g h H →
        (∀ ls' : Array Slot, mLV ls' (mNl M) l' → W p lau e R s mth args below meth c H locs cells slots Q (F0 mth pc' ls' st')) → W p lau e R s mth args below meth c H locs cells slots Q (F0 mth pc ls st))
    (hg : mGood g lau M pc' l' st' h o) : mGood g lau M pc l st h o := by
  refine ⟨hg.1, hg.2.1, fun p e R s mth args below meth c Q hC hf hlo hR ls H locs cells slots hl hH hL hc hsl => ?_⟩
  exact hs p e R s mth args below meth c Q hC hf hlo ls H locs cells slots hl hH (fun ls' hl' => hg.2.2 p e R s mth args below meth c Q hC hf hlo hR ls' H locs cells slots hl' hH hL hc hsl)
/-- one step that writes or makes -/
theorem mG_heap {g : mG} {lau : Launch} {M : mM} {pc pc' : Nat} {l : mL} {st st' : List Value} {h h' : mH} {o : mO} {dc ds : Nat} (h1 : mTop h' = mTop h + dc) (h2 : mSl h' = mSl h + ds)
    (hs : ∀ (p : Program) (e : Env) (R : Room) (s : State) (mth : MethodId) (args : Array Value) (below : List Frame) (meth : Method) (c : Code) (Q : State → Prop), mCx g M p s mth args meth c →
      ∀ (ls : Array Slot) (H : Heap) (locs : List Loc) (cells slots : Nat), mLV ls (mNl M) l → mHR g h H → (∀ q ∈ locs, gB g ≤ q.base) → cells + dc ≤ R.cells → slots + ds ≤ R.slots →
        (∀ (H' : Heap) (locs' : List Loc), mHR g h' H' → (∀ q ∈ locs', gB g ≤ q.base) → W p lau e R s mth args below meth c H' locs' (cells + dc) (slots + ds) Q (F0 mth pc' ls st')) → W p lau e R s mth args below meth c H locs cells slots Q (F0 mth pc ls st))
    (hg : mGood g lau M pc' l st' h' o) : mGood g lau M pc l st h o := by
  obtain ⟨g1, g2, g3⟩ := hg
  refine ⟨by omega, by omega, fun p e R s mth args below meth c Q hC hf hlo hR ls H locs cells slots hl hH hL hc hsl => ?_⟩
  exact hs p e R s mth args below meth c Q hC ls H locs cells slots hl hH hL (by omega) (by omega) (fun H' locs' hH' hL' => g3 p e R s mth args below meth c Q hC hf hlo hR ls H' locs' (cells + dc) (slots + ds) hl hH' hL' (by omega) (by omega))
/-- a call of method M with these arguments, in this heap, ends so -/
def mWs (M : mM) : List Cond := .code (mNm M) (mCc M) (mNl M) (mRt M) :: mTb
def mRm (M : mM) (mc ms : Nat) : Room := { frames := mFr M, cells := mc, slots := ms, locals := mLo M }
def mPc (g : mG) (as : List Value) (h : mH) : Array Value → State → Prop := fun v U => v = as.toArray ∧ mHR g h U.heap ∧ va_K (gD g) mCl (mTys (gA g)) U ∧ va_X (gb g) (gL g) (gx g) U (gH g) ∧ mNw U
def mQc (g : mG) (o : mO) : Array Value → State → Outcome → State → Prop := fun _ _ oc t => oc = .returned o.1 ∧ mHR g o.2 t.heap
def mCall (g : mG) (lau : Launch) (M : mM) (as : List Value) (h : mH) (o : mO) : Prop :=
  mTop h ≤ mTop o.2 ∧ mSl h ≤ mSl o.2 ∧ Met lau (mNm M) (mWs M) (mRm M (mTop o.2 - mTop h) (mSl o.2 - mSl h)) (mPc g as h) (mQc g o) (mTop o.2 - mTop h) (mSl o.2 - mSl h) (fun q => gB g ≤ q)
/-- out of a run of its body -/
theorem mG_call {g : mG} {lau : Launch} {M : mM} {as : List Value} {h : mH} {o : mO} (hp : plainName (mNm M).cls = true) (hcn : (mNm M).cls = mCn M) (hn : (mEn as).length ≤ mNl M) (hg : mGood g lau M 0 (mArgs (mNl M) as) [] h o) : mCall g lau M as h o := by
  obtain ⟨g1, g2, g3⟩ := hg
  refine ⟨g1, g2, ?_⟩
  refine Met.ofW (cc := mCc M) (maxL := mNl M) (ret := mRt M) hp rfl ?_
  intro p e s mth args below meth c s₁ B hml hv
  obtain ⟨rfl, hH, hK, hX, hN⟩ := hv
  have hts := atoms_spec (ws := mWs M) B.pre
  have hown : s.vm.findClass (mCn M) = some mth.cls := by rw [← hcn]; exact findClass_of_methodNamed B.named
  have hlocks := B.notSynchronized
  have hx := B.exec
  have hb := B.bytes
  have hr := B.returns
  have hin : meth.name = (mNm M).name := (name_of_methodNamed B.named B.method).1
  have hl := mLV_entry as hn
  rw [lg_entry_eq]
  generalize (lg_sl as ++ List.replicate (mNl M - (lg_sl as).length) Slot.unset).toArray = ls at hl ⊢
  refine g3 p e (headSpec (mWs M) (mRm M (mTop o.2 - mTop h) (mSl o.2 - mSl h))).room s mth as.toArray below meth c _ ⟨hx, hb, hml, hown, fun w hw => hts w (List.mem_cons_of_mem _ hw), hK, hX, hin, hN⟩ (Nat.le_refl _) (Nat.le_refl _) ?_ ls s.heap [] 0 0 hl hH (fun q hq => by cases hq) ?_ ?_
  · intro pc ls H locs cells slots hd hH' hL hc hs
    refine W.widen (k := mTop o.2 - mTop h) (n := mSl o.2 - mSl h) hc hs ?_
    obtain ⟨r, h'⟩ := o
    match r, hd with
    | some (.int v), hd =>
      obtain ⟨hd1, hd2⟩ := hd
      rcases hd2 with hd2 | ⟨hd2, hd3⟩
      · exact W.iret hx hb (hr.trans hd2) (fun t ht _ => ⟨rfl, by rw [ht]; exact hH'⟩) hL hd1
      · exact W.zret hx hb (hr.trans hd2) (by rcases hd3 with rfl | rfl <;> rfl) (fun t ht _ => ⟨rfl, by rw [ht]; exact hH'⟩) hL hd1
    | some (.long v), hd => exact W.lret hx hb (hr.trans hd.2) (fun t ht _ => ⟨rfl, by rw [ht]; exact hH'⟩) hL hd.1
    | none, hd => exact W.vret hx hb (hr.trans hd.2) (fun t ht _ => ⟨rfl, by rw [ht]; exact hH'⟩) hL hd.1
  · rw [Nat.zero_add]
    exact Nat.le_refl _
  · rw [Nat.zero_add]
    exact Nat.le_refl _
/-- an operation at pc of M is sound -/
def mSnd (g : mG) (lau : Launch) (mt : Nat → mM) (M : mM) (pc : Nat) (op : mOp) : Prop :=
  ∀ (c : mC) (k : mK), (∀ m a h o, c m a h = some o → mCall g lau (mt m) a h o) → (∀ pc l st h o, k pc l st h = some o → mGood g lau M pc l st h o) → ∀ l st h o, op c k l st h = some o → mGood g lau M pc l st h o
theorem s_no {g : mG} {lau : Launch} {mt : Nat → mM} {M : mM} {pc : Nat} : mSnd g lau mt M pc o_no := fun c k _ _ l st h o ho => by cases ho
theorem s_bif {g : mG} {lau : Launch} {mt : Nat → mM} {M : mM} {pc : Nat} {b : Bool} {x y : mOp} (hx : mSnd g lau mt M pc x) (hy : mSnd g lau mt M pc y) : mSnd g lau mt M pc (bif b then x else y) := by
  cases b
  · exact hy
  · exact hx
theorem s_leaf {g : mG} {lau : Launch} {mt : Nat → mM} {M : mM} {pc q : Nat} {x : mOp} (hx : mSnd g lau mt M q x) : mSnd g lau mt M pc (bif Nat.beq pc q then x else o_no) := by
  cases hb : Nat.beq pc q
  · exact s_no
  · have := Nat.eq_of_beq_eq_true hb
    subst this
    exact hx
end
section
/-! ===== the operations are sound: those that leave the heap ===== -/
section MPure
variable {g : mG} {lau : Launch} {mt : Nat → mM} {M : mM} {pc : Nat}
theorem s_iconst {n : Int} {v : Int32} (hd : decode (mCc M) pc = .ok (.iconst n, 1)) (hv : Int32.ofInt n = v) : mSnd g lau mt M pc (o_ic (pc + 1) v) := by
  intro c k _ hk l st h o ho
  exact mG_pure (fun p e R s mth args below meth c Q hC _ _ ls H locs cells slots hl _ kk => lv_iconst hC.1 hC.2.1 hd hv (kk ls hl)) (hk _ _ _ _ _ ho)
theorem s_bipush {n : Int} {v : Int32} (hd : decode (mCc M) pc = .ok (.bipush n, 2)) (hv : (Int8.ofInt n).toInt32 = v) : mSnd g lau mt M pc (o_ic (pc + 2) v) := by
  intro c k _ hk l st h o ho
  exact mG_pure (fun p e R s mth args below meth c Q hC _ _ ls H locs cells slots hl _ kk => lv_bipush hC.1 hC.2.1 hd hv (kk ls hl)) (hk _ _ _ _ _ ho)
theorem s_sipush {n : Int} {v : Int32} (hd : decode (mCc M) pc = .ok (.sipush n, 3)) (hv : (Int16.ofInt n).toInt32 = v) : mSnd g lau mt M pc (o_ic (pc + 3) v) := by
  intro c k _ hk l st h o ho
  exact mG_pure (fun p e R s mth args below meth c Q hC _ _ ls H locs cells slots hl _ kk => lv_sipush hC.1 hC.2.1 hd hv (kk ls hl)) (hk _ _ _ _ _ ho)
theorem s_lconst {n : Fin 2} {v : Int64} (hd : decode (mCc M) pc = .ok (.lconst n, 1)) (hv : Int64.ofNat (n : Nat) = v) : mSnd g lau mt M pc (o_lc (pc + 1) v) := by
  intro c k _ hk l st h o ho
  exact mG_pure (fun p e R s mth args below meth c Q hC _ _ ls H locs cells slots hl _ kk => lv_lconst hC.1 hC.2.1 hd hv (kk ls hl)) (hk _ _ _ _ _ ho)
theorem s_ldc {i : Nat} {v : Int32} (hd : decode (mCc M) pc = .ok (.ldc i, 2)) (hw : Cond.constant (mCn M) i v ∈ mTb) : mSnd g lau mt M pc (o_ic (pc + 2) v) := by
  intro c k _ hk l st h o ho
  exact mG_pure (fun p e R s mth args below meth c Q hC _ _ ls H locs cells slots hl _ kk => W.ldc hC.1 hC.2.1 hC.2.2.2.1 (hC.2.2.2.2.1 _ hw) rfl hd (kk ls hl)) (hk _ _ _ _ _ ho)
theorem s_ldc2 {i : Nat} {v : Int64} (hd : decode (mCc M) pc = .ok (.ldc2_w i, 3)) (hw : Cond.constantLong (mCn M) i v ∈ mTb) : mSnd g lau mt M pc (o_lc (pc + 3) v) := by
  intro c k _ hk l st h o ho
  exact mG_pure (fun p e R s mth args below meth c Q hC _ _ ls H locs cells slots hl _ kk => W.ldc2 hC.1 hC.2.1 hC.2.2.2.1 (hC.2.2.2.2.1 _ hw) rfl hd (kk ls hl)) (hk _ _ _ _ _ ho)
theorem o_ld_spec {c : mC} {k : mK} {nx i : Nat} {l : mL} {st : List Value} {h : mH} {o : mO} (ho : o_ld nx i c k l st h = some o) : ∃ v, l[i]? = some (some v) ∧ k nx l (v :: st) h = some o := by
  unfold o_ld at ho
  split at ho
  · next v hv => exact ⟨v, hv, ho⟩
  · cases ho
def o_il (nx i : Nat) : mOp := fun _ k l st h => match l[i]? with
  | some (some (.int x)) => k nx l (.int x :: st) h
  | _ => none
theorem o_il_spec {c : mC} {k : mK} {nx i : Nat} {l : mL} {st : List Value} {h : mH} {o : mO} (ho : o_il nx i c k l st h = some o) : ∃ x : Int32, l[i]? = some (some (.int x)) ∧ k nx l (.int x :: st) h = some o := by
  unfold o_il at ho
  split at ho
  · next x hv => exact ⟨x, hv, ho⟩
  · cases ho
theorem s_iload {i : Nat} (hd : decode (mCc M) pc = .ok (.iload i, 2)) : mSnd g lau mt M pc (o_il (pc + 2) i) := by
  intro c k _ hk l st h o ho
  obtain ⟨x, hx, ho⟩ := o_il_spec ho
  exact mG_pure (fun p e R s mth args below meth c Q hC _ _ ls H locs cells slots hl _ kk => lv_iload hC.1 hC.2.1 hd (hl.2.2.2 _ _ hx) (kk ls hl)) (hk _ _ _ _ _ ho)
theorem s_iload_n {j : Fin 4} {i : Nat} (hd : decode (mCc M) pc = .ok (.iload_n j, 1)) (hi : (j : Nat) = i) : mSnd g lau mt M pc (o_il (pc + 1) i) := by
  intro c k _ hk l st h o ho
  obtain ⟨x, hx, ho⟩ := o_il_spec ho
  exact mG_pure (fun p e R s mth args below meth c Q hC _ _ ls H locs cells slots hl _ kk => lv_iload_n hC.1 hC.2.1 hd hi (hl.2.2.2 _ _ hx) (kk ls hl)) (hk _ _ _ _ _ ho)
def o_llo (nx i : Nat) : mOp := fun _ k l st h => match l[i]? with
  | some (some (.long x)) => k nx l (.long x :: st) h
  | _ => none
theorem o_llo_spec {c : mC} {k : mK} {nx i : Nat} {l : mL} {st : List Value} {h : mH} {o : mO} (ho : o_llo nx i c k l st h = some o) : ∃ x : Int64, l[i]? = some (some (.long x)) ∧ k nx l (.long x :: st) h = some o := by
  unfold o_llo at ho
  split at ho
  · next x hv => exact ⟨x, hv, ho⟩
  · cases ho
theorem s_lload {i : Nat} (hd : decode (mCc M) pc = .ok (.lload i, 2)) : mSnd g lau mt M pc (o_llo (pc + 2) i) := by
  intro c k _ hk l st h o ho
  obtain ⟨x, hx, ho⟩ := o_llo_spec ho
  exact mG_pure (fun p e R s mth args below meth c Q hC _ _ ls H locs cells slots hl _ kk => lv_lload hC.1 hC.2.1 hd (hl.2.2.2 _ _ hx) (kk ls hl)) (hk _ _ _ _ _ ho)
theorem s_lload_n {j : Fin 4} {i : Nat} (hd : decode (mCc M) pc = .ok (.lload_n j, 1)) (hi : (j : Nat) = i) : mSnd g lau mt M pc (o_llo (pc + 1) i) := by
  intro c k _ hk l st h o ho
  obtain ⟨x, hx, ho⟩ := o_llo_spec ho
  exact mG_pure (fun p e R s mth args below meth c Q hC _ _ ls H locs cells slots hl _ kk => lv_lload_n hC.1 hC.2.1 hd hi (hl.2.2.2 _ _ hx) (kk ls hl)) (hk _ _ _ _ _ ho)
def o_al (nx i : Nat) : mOp := fun _ k l st h => match l[i]? with
  | some (some (.ref x)) => k nx l (.ref x :: st) h
  | _ => none
theorem o_al_spec {c : mC} {k : mK} {nx i : Nat} {l : mL} {st : List Value} {h : mH} {o : mO} (ho : o_al nx i c k l st h = some o) : ∃ x : Nat, l[i]? = some (some (.ref x)) ∧ k nx l (.ref x :: st) h = some o := by
  unfold o_al at ho
  split at ho
  · next x hv => exact ⟨x, hv, ho⟩
  · cases ho
theorem s_aload {i : Nat} (hd : decode (mCc M) pc = .ok (.aload i, 2)) : mSnd g lau mt M pc (o_al (pc + 2) i) := by
  intro c k _ hk l st h o ho
  obtain ⟨x, hx, ho⟩ := o_al_spec ho
  exact mG_pure (fun p e R s mth args below meth c Q hC _ _ ls H locs cells slots hl _ kk => lv_aload hC.1 hC.2.1 hd (hl.2.2.2 _ _ hx) (kk ls hl)) (hk _ _ _ _ _ ho)
theorem s_aload_n {j : Fin 4} {i : Nat} (hd : decode (mCc M) pc = .ok (.aload_n j, 1)) (hi : (j : Nat) = i) : mSnd g lau mt M pc (o_al (pc + 1) i) := by
  intro c k _ hk l st h o ho
  obtain ⟨x, hx, ho⟩ := o_al_spec ho
  exact mG_pure (fun p e R s mth args below meth c Q hC _ _ ls H locs cells slots hl _ kk => lv_aload_n hC.1 hC.2.1 hd hi (hl.2.2.2 _ _ hx) (kk ls hl)) (hk _ _ _ _ _ ho)
theorem o_ist_spec {c : mC} {k : mK} {nx i : Nat} {l : mL} {st : List Value} {h : mH} {o : mO} (ho : o_ist nx i c k l st h = some o) : ∃ (x : Int32) (st' : List Value), st = .int x :: st' ∧ mFree l i = true ∧ i < l.length ∧ k nx (l.set i (some (.int x))) st' h = some o := by
  unfold o_ist at ho
  split at ho
  · next x st' =>
    cases hb : (mFree l i && Nat.blt (i) l.length)
    · rw [hb] at ho
      cases ho
    · rw [hb] at ho
      rw [Bool.and_eq_true] at hb
      exact ⟨x, st', rfl, hb.1, Nat.le_of_ble_eq_true hb.2, ho⟩
  · cases ho
theorem s_istore {i : Nat} (hd : decode (mCc M) pc = .ok (.istore i, 2)) : mSnd g lau mt M pc (o_ist (pc + 2) i) := by
  intro c k _ hk l st h o ho
  obtain ⟨x, st', rfl, hf, hlt, ho⟩ := o_ist_spec ho
  exact mG_pure (fun p e R s mth args below meth c Q hC _ _ ls H locs cells slots hl _ kk => lv_istore hC.1 hC.2.1 hd hl.has (by rw [← hl.2.2.1]; exact hlt) rfl (fun ls' hl' => kk ls' (hl.set1 hf hlt hl'))) (hk _ _ _ _ _ ho)
theorem s_istore_n {j : Fin 4} {i : Nat} (hd : decode (mCc M) pc = .ok (.istore_n j, 1)) (hi : (j : Nat) = i) : mSnd g lau mt M pc (o_ist (pc + 1) i) := by
  intro c k _ hk l st h o ho
  obtain ⟨x, st', rfl, hf, hlt, ho⟩ := o_ist_spec ho
  exact mG_pure (fun p e R s mth args below meth c Q hC _ _ ls H locs cells slots hl _ kk => lv_istore_n hC.1 hC.2.1 hd hi hl.has (by rw [← hl.2.2.1]; exact hlt) rfl (fun ls' hl' => kk ls' (hl.set1 hf hlt hl'))) (hk _ _ _ _ _ ho)
theorem o_ast_spec {c : mC} {k : mK} {nx i : Nat} {l : mL} {st : List Value} {h : mH} {o : mO} (ho : o_ast nx i c k l st h = some o) : ∃ (x : Nat) (st' : List Value), st = .ref x :: st' ∧ mFree l i = true ∧ i < l.length ∧ k nx (l.set i (some (.ref x))) st' h = some o := by
  unfold o_ast at ho
  split at ho
  · next x st' =>
    cases hb : (mFree l i && Nat.blt (i) l.length)
    · rw [hb] at ho
      cases ho
    · rw [hb] at ho
      rw [Bool.and_eq_true] at hb
      exact ⟨x, st', rfl, hb.1, Nat.le_of_ble_eq_true hb.2, ho⟩
  · cases ho
theorem s_astore {i : Nat} (hd : decode (mCc M) pc = .ok (.astore i, 2)) : mSnd g lau mt M pc (o_ast (pc + 2) i) := by
  intro c k _ hk l st h o ho
  obtain ⟨x, st', rfl, hf, hlt, ho⟩ := o_ast_spec ho
  exact mG_pure (fun p e R s mth args below meth c Q hC _ _ ls H locs cells slots hl _ kk => lv_astore hC.1 hC.2.1 hd hl.has (by rw [← hl.2.2.1]; exact hlt) rfl (fun ls' hl' => kk ls' (hl.set1 hf hlt hl'))) (hk _ _ _ _ _ ho)
theorem s_astore_n {j : Fin 4} {i : Nat} (hd : decode (mCc M) pc = .ok (.astore_n j, 1)) (hi : (j : Nat) = i) : mSnd g lau mt M pc (o_ast (pc + 1) i) := by
  intro c k _ hk l st h o ho
  obtain ⟨x, st', rfl, hf, hlt, ho⟩ := o_ast_spec ho
  exact mG_pure (fun p e R s mth args below meth c Q hC _ _ ls H locs cells slots hl _ kk => lv_astore_n hC.1 hC.2.1 hd hi hl.has (by rw [← hl.2.2.1]; exact hlt) rfl (fun ls' hl' => kk ls' (hl.set1 hf hlt hl'))) (hk _ _ _ _ _ ho)
theorem o_lst_spec {c : mC} {k : mK} {nx i : Nat} {l : mL} {st : List Value} {h : mH} {o : mO} (ho : o_lst nx i c k l st h = some o) : ∃ (x : Int64) (st' : List Value), st = .long x :: st' ∧ mFree l i = true ∧ i + 1 < l.length ∧ k nx ((l.set i (some (.long x))).set (i + 1) none) st' h = some o := by
  unfold o_lst at ho
  split at ho
  · next x st' =>
    cases hb : (mFree l i && Nat.blt (i + 1) l.length)
    · rw [hb] at ho
      cases ho
    · rw [hb] at ho
      rw [Bool.and_eq_true] at hb
      exact ⟨x, st', rfl, hb.1, Nat.le_of_ble_eq_true hb.2, ho⟩
  · cases ho
theorem s_lstore {i : Nat} (hd : decode (mCc M) pc = .ok (.lstore i, 2)) : mSnd g lau mt M pc (o_lst (pc + 2) i) := by
  intro c k _ hk l st h o ho
  obtain ⟨x, st', rfl, hf, hlt, ho⟩ := o_lst_spec ho
  exact mG_pure (fun p e R s mth args below meth c Q hC _ _ ls H locs cells slots hl _ kk => lv_lstore hC.1 hC.2.1 hd hl.has (by rw [← hl.2.2.1]; exact hlt) rfl (fun ls' hl' => kk ls' (hl.set2 hf hlt hl'))) (hk _ _ _ _ _ ho)
theorem s_lstore_n {j : Fin 4} {i : Nat} (hd : decode (mCc M) pc = .ok (.lstore_n j, 1)) (hi : (j : Nat) = i) : mSnd g lau mt M pc (o_lst (pc + 1) i) := by
  intro c k _ hk l st h o ho
  obtain ⟨x, st', rfl, hf, hlt, ho⟩ := o_lst_spec ho
  exact mG_pure (fun p e R s mth args below meth c Q hC _ _ ls H locs cells slots hl _ kk => lv_lstore_n hC.1 hC.2.1 hd hi hl.has (by rw [← hl.2.2.1]; exact hlt) rfl (fun ls' hl' => kk ls' (hl.set2 hf hlt hl'))) (hk _ _ _ _ _ ho)
theorem o_inc_spec {c : mC} {k : mK} {nx i : Nat} {n : Int32} {l : mL} {st : List Value} {h : mH} {o : mO} (ho : o_inc nx i n c k l st h = some o) : ∃ x : Int32, l[i]? = some (some (.int x)) ∧ mFree l i = true ∧ i < l.length ∧ k nx (l.set i (some (.int (x + n)))) st h = some o := by
  unfold o_inc at ho
  split at ho
  · next x hx =>
    cases hb : (mFree l i && Nat.blt i l.length)
    · rw [hb] at ho
      cases ho
    · rw [hb] at ho
      rw [Bool.and_eq_true] at hb
      exact ⟨x, hx, hb.1, Nat.le_of_ble_eq_true hb.2, ho⟩
  · cases ho
theorem s_iinc {i : Nat} {n : Int} {v : Int32} (hd : decode (mCc M) pc = .ok (.iinc i n, 3)) (hv : Int32.ofInt n = v) : mSnd g lau mt M pc (o_inc (pc + 3) i v) := by
  intro c k _ hk l st h o ho
  obtain ⟨x, hx, hf, hlt, ho⟩ := o_inc_spec ho
  subst hv
  obtain ⟨j, hj⟩ := List.getElem?_of_mem (mAs_in.mpr hx)
  exact mG_pure (fun p e R s mth args below meth c Q hC _ _ ls H locs cells slots hl _ kk => lv_iinc hC.1 hC.2.1 hd hl.has hj rfl (by rw [← hl.2.2.1]; exact hlt) rfl (fun ls' hl' => kk ls' (hl.set1 hf hlt hl'))) (hk _ _ _ _ _ ho)
theorem o_ii_spec {c : mC} {k : mK} {nx : Nat} {f : Int32 → Int32 → Int32} {l : mL} {st : List Value} {h : mH} {o : mO} (ho : o_ii nx f c k l st h = some o) : ∃ (x y : Int32) (st' : List Value), st = .int y :: .int x :: st' ∧ k nx l (.int (f x y) :: st') h = some o := by
  unfold o_ii at ho
  split at ho
  · next y x st' => exact ⟨x, y, st', rfl, ho⟩
  · cases ho
theorem o_ll_spec {c : mC} {k : mK} {nx : Nat} {f : Int64 → Int64 → Int64} {l : mL} {st : List Value} {h : mH} {o : mO} (ho : o_ll nx f c k l st h = some o) : ∃ (x y : Int64) (st' : List Value), st = .long y :: .long x :: st' ∧ k nx l (.long (f x y) :: st') h = some o := by
  unfold o_ll at ho
  split at ho
  · next y x st' => exact ⟨x, y, st', rfl, ho⟩
  · cases ho
theorem s_iadd (hd : decode (mCc M) pc = .ok (.iadd, 1)) : mSnd g lau mt M pc (o_ii (pc + 1) (fun x y => x + y)) := by
  intro c k _ hk l st h o ho
  obtain ⟨x, y, st', rfl, ho⟩ := o_ii_spec ho
  exact mG_pure (fun p e R s mth args below meth c Q hC _ _ ls H locs cells slots hl _ kk => lv_iadd hC.1 hC.2.1 hd (kk ls hl)) (hk _ _ _ _ _ ho)
theorem s_isub (hd : decode (mCc M) pc = .ok (.isub, 1)) : mSnd g lau mt M pc (o_ii (pc + 1) (fun x y => x - y)) := by
  intro c k _ hk l st h o ho
  obtain ⟨x, y, st', rfl, ho⟩ := o_ii_spec ho
  exact mG_pure (fun p e R s mth args below meth c Q hC _ _ ls H locs cells slots hl _ kk => lv_isub hC.1 hC.2.1 hd (kk ls hl)) (hk _ _ _ _ _ ho)
theorem s_imul (hd : decode (mCc M) pc = .ok (.imul, 1)) : mSnd g lau mt M pc (o_ii (pc + 1) (fun x y => x * y)) := by
  intro c k _ hk l st h o ho
  obtain ⟨x, y, st', rfl, ho⟩ := o_ii_spec ho
  exact mG_pure (fun p e R s mth args below meth c Q hC _ _ ls H locs cells slots hl _ kk => lv_imul hC.1 hC.2.1 hd (kk ls hl)) (hk _ _ _ _ _ ho)
theorem s_iand (hd : decode (mCc M) pc = .ok (.iand, 1)) : mSnd g lau mt M pc (o_ii (pc + 1) (fun x y => x &&& y)) := by
  intro c k _ hk l st h o ho
  obtain ⟨x, y, st', rfl, ho⟩ := o_ii_spec ho
  exact mG_pure (fun p e R s mth args below meth c Q hC _ _ ls H locs cells slots hl _ kk => lv_iand hC.1 hC.2.1 hd (kk ls hl)) (hk _ _ _ _ _ ho)
theorem s_ior (hd : decode (mCc M) pc = .ok (.ior, 1)) : mSnd g lau mt M pc (o_ii (pc + 1) (fun x y => x ||| y)) := by
  intro c k _ hk l st h o ho
  obtain ⟨x, y, st', rfl, ho⟩ := o_ii_spec ho
  exact mG_pure (fun p e R s mth args below meth c Q hC _ _ ls H locs cells slots hl _ kk => lv_ior hC.1 hC.2.1 hd (kk ls hl)) (hk _ _ _ _ _ ho)
theorem s_ixor (hd : decode (mCc M) pc = .ok (.ixor, 1)) : mSnd g lau mt M pc (o_ii (pc + 1) (fun x y => x ^^^ y)) := by
  intro c k _ hk l st h o ho
  obtain ⟨x, y, st', rfl, ho⟩ := o_ii_spec ho
  exact mG_pure (fun p e R s mth args below meth c Q hC _ _ ls H locs cells slots hl _ kk => lv_ixor hC.1 hC.2.1 hd (kk ls hl)) (hk _ _ _ _ _ ho)
theorem s_ishl (hd : decode (mCc M) pc = .ok (.ishl, 1)) : mSnd g lau mt M pc (o_ii (pc + 1) (fun x y => x <<< (y &&& 31))) := by
  intro c k _ hk l st h o ho
  obtain ⟨x, y, st', rfl, ho⟩ := o_ii_spec ho
  exact mG_pure (fun p e R s mth args below meth c Q hC _ _ ls H locs cells slots hl _ kk => lv_ishl hC.1 hC.2.1 hd (kk ls hl)) (hk _ _ _ _ _ ho)
theorem s_ishr (hd : decode (mCc M) pc = .ok (.ishr, 1)) : mSnd g lau mt M pc (o_ii (pc + 1) (fun x y => x >>> (y &&& 31))) := by
  intro c k _ hk l st h o ho
  obtain ⟨x, y, st', rfl, ho⟩ := o_ii_spec ho
  exact mG_pure (fun p e R s mth args below meth c Q hC _ _ ls H locs cells slots hl _ kk => lv_ishr hC.1 hC.2.1 hd (kk ls hl)) (hk _ _ _ _ _ ho)
theorem s_ladd (hd : decode (mCc M) pc = .ok (.ladd, 1)) : mSnd g lau mt M pc (o_ll (pc + 1) (fun x y => x + y)) := by
  intro c k _ hk l st h o ho
  obtain ⟨x, y, st', rfl, ho⟩ := o_ll_spec ho
  exact mG_pure (fun p e R s mth args below meth c Q hC _ _ ls H locs cells slots hl _ kk => lv_ladd hC.1 hC.2.1 hd (kk ls hl)) (hk _ _ _ _ _ ho)
theorem s_lmul (hd : decode (mCc M) pc = .ok (.lmul, 1)) : mSnd g lau mt M pc (o_ll (pc + 1) (fun x y => x * y)) := by
  intro c k _ hk l st h o ho
  obtain ⟨x, y, st', rfl, ho⟩ := o_ll_spec ho
  exact mG_pure (fun p e R s mth args below meth c Q hC _ _ ls H locs cells slots hl _ kk => lv_lmul hC.1 hC.2.1 hd (kk ls hl)) (hk _ _ _ _ _ ho)
theorem s_irem (hd : decode (mCc M) pc = .ok (.irem, 1)) : mSnd g lau mt M pc (o_rem (pc + 1)) := by
  intro c k _ hk l st h o ho
  unfold o_rem at ho
  split at ho
  · next y x st' =>
    split at ho
    · cases ho
    · next hy => exact mG_pure (fun p e R s mth args below meth c Q hC _ _ ls H locs cells slots hl _ kk => lv_irem hC.1 hC.2.1 hd hy (kk ls hl)) (hk _ _ _ _ _ ho)
  · cases ho
theorem s_i2l (hd : decode (mCc M) pc = .ok (.i2l, 1)) : mSnd g lau mt M pc (o_i2l (pc + 1)) := by
  intro c k _ hk l st h o ho
  unfold o_i2l at ho
  split at ho
  · exact mG_pure (fun p e R s mth args below meth c Q hC _ _ ls H locs cells slots hl _ kk => lv_i2l hC.1 hC.2.1 hd rfl (kk ls hl)) (hk _ _ _ _ _ ho)
  · cases ho
theorem s_l2i (hd : decode (mCc M) pc = .ok (.l2i, 1)) : mSnd g lau mt M pc (o_l2i (pc + 1)) := by
  intro c k _ hk l st h o ho
  unfold o_l2i at ho
  split at ho
  · exact mG_pure (fun p e R s mth args below meth c Q hC _ _ ls H locs cells slots hl _ kk => lv_l2i hC.1 hC.2.1 hd rfl (kk ls hl)) (hk _ _ _ _ _ ho)
  · cases ho
theorem s_lcmp (hd : decode (mCc M) pc = .ok (.lcmp, 1)) : mSnd g lau mt M pc (o_lcmp (pc + 1)) := by
  intro c k _ hk l st h o ho
  unfold o_lcmp at ho
  split at ho
  · exact mG_pure (fun p e R s mth args below meth c Q hC _ _ ls H locs cells slots hl _ kk => W.lcmp hC.1 hC.2.1 hd (kk ls hl)) (hk _ _ _ _ _ ho)
  · cases ho
theorem s_dup (hd : decode (mCc M) pc = .ok (.dup, 1)) : mSnd g lau mt M pc (o_dup (pc + 1)) := by
  intro c k _ hk l st h o ho
  unfold o_dup at ho
  split at ho
  · exact mG_pure (fun p e R s mth args below meth c Q hC _ _ ls H locs cells slots hl _ kk => lv_dup hC.1 hC.2.1 hd rfl (kk ls hl)) (hk _ _ _ _ _ ho)
  · exact mG_pure (fun p e R s mth args below meth c Q hC _ _ ls H locs cells slots hl _ kk => lv_dup hC.1 hC.2.1 hd rfl (kk ls hl)) (hk _ _ _ _ _ ho)
  · cases ho
theorem s_dup2 (hd : decode (mCc M) pc = .ok (.dup2, 1)) : mSnd g lau mt M pc (o_dup2 (pc + 1)) := by
  intro c k _ hk l st h o ho
  unfold o_dup2 at ho
  split at ho
  · exact mG_pure (fun p e R s mth args below meth c Q hC _ _ ls H locs cells slots hl _ kk => lv_dup2_11 hC.1 hC.2.1 hd rfl rfl (kk ls hl)) (hk _ _ _ _ _ ho)
  · cases ho
theorem s_goto {off : Int} {tg : Nat} (hd : decode (mCc M) pc = .ok (.goto off, 3)) (ht : (pc : Int) + off = (tg : Int)) : mSnd g lau mt M pc (o_goto tg) := by
  intro c k _ hk l st h o ho
  exact mG_pure (fun p e R s mth args below meth c Q hC _ _ ls H locs cells slots hl _ kk => lv_goto hC.1 hC.2.1 hd ht (kk ls hl)) (hk _ _ _ _ _ ho)
theorem s_icmp_eq {off : Int} {tg : Nat} (hd : decode (mCc M) pc = .ok (.if_icmp .eq off, 3)) (ht : (pc : Int) + off = (tg : Int)) : mSnd g lau mt M pc (o_eq (pc + 3) tg) := by
  intro c k _ hk l st h o ho
  unfold o_eq at ho
  split at ho
  · split at ho
    · next hc => exact mG_pure (fun p e R s mth args below meth c Q hC _ _ ls H locs cells slots hl _ kk => lv_icmp_eq hC.1 hC.2.1 hd ht (fun q => kk ls hl) (fun q => absurd hc q)) (hk _ _ _ _ _ ho)
    · next hc => exact mG_pure (fun p e R s mth args below meth c Q hC _ _ ls H locs cells slots hl _ kk => lv_icmp_eq hC.1 hC.2.1 hd ht (fun q => absurd q hc) (fun q => kk ls hl)) (hk _ _ _ _ _ ho)
  · cases ho
theorem s_if_eq {off : Int} {tg : Nat} (hd : decode (mCc M) pc = .ok (.ifCond .eq off, 3)) (ht : (pc : Int) + off = (tg : Int)) : mSnd g lau mt M pc (o_eq0 (pc + 3) tg) := by
  intro c k _ hk l st h o ho
  unfold o_eq0 at ho
  split at ho
  · split at ho
    · next hc => exact mG_pure (fun p e R s mth args below meth c Q hC _ _ ls H locs cells slots hl _ kk => lv_if_eq hC.1 hC.2.1 hd ht (fun q => kk ls hl) (fun q => absurd hc q)) (hk _ _ _ _ _ ho)
    · next hc => exact mG_pure (fun p e R s mth args below meth c Q hC _ _ ls H locs cells slots hl _ kk => lv_if_eq hC.1 hC.2.1 hd ht (fun q => absurd q hc) (fun q => kk ls hl)) (hk _ _ _ _ _ ho)
  · cases ho
theorem s_icmp_ne {off : Int} {tg : Nat} (hd : decode (mCc M) pc = .ok (.if_icmp .ne off, 3)) (ht : (pc : Int) + off = (tg : Int)) : mSnd g lau mt M pc (o_ne (pc + 3) tg) := by
  intro c k _ hk l st h o ho
  unfold o_ne at ho
  split at ho
  · split at ho
    · next hc => exact mG_pure (fun p e R s mth args below meth c Q hC _ _ ls H locs cells slots hl _ kk => lv_icmp_ne hC.1 hC.2.1 hd ht (fun q => absurd hc q) (fun q => kk ls hl)) (hk _ _ _ _ _ ho)
    · next hc => exact mG_pure (fun p e R s mth args below meth c Q hC _ _ ls H locs cells slots hl _ kk => lv_icmp_ne hC.1 hC.2.1 hd ht (fun q => kk ls hl) (fun q => absurd q hc)) (hk _ _ _ _ _ ho)
  · cases ho
theorem s_if_ne {off : Int} {tg : Nat} (hd : decode (mCc M) pc = .ok (.ifCond .ne off, 3)) (ht : (pc : Int) + off = (tg : Int)) : mSnd g lau mt M pc (o_ne0 (pc + 3) tg) := by
  intro c k _ hk l st h o ho
  unfold o_ne0 at ho
  split at ho
  · split at ho
    · next hc => exact mG_pure (fun p e R s mth args below meth c Q hC _ _ ls H locs cells slots hl _ kk => lv_if_ne hC.1 hC.2.1 hd ht (fun q => absurd hc q) (fun q => kk ls hl)) (hk _ _ _ _ _ ho)
    · next hc => exact mG_pure (fun p e R s mth args below meth c Q hC _ _ ls H locs cells slots hl _ kk => lv_if_ne hC.1 hC.2.1 hd ht (fun q => kk ls hl) (fun q => absurd q hc)) (hk _ _ _ _ _ ho)
  · cases ho
theorem s_icmp_lt {off : Int} {tg : Nat} (hd : decode (mCc M) pc = .ok (.if_icmp .lt off, 3)) (ht : (pc : Int) + off = (tg : Int)) : mSnd g lau mt M pc (o_lt (pc + 3) tg) := by
  intro c k _ hk l st h o ho
  unfold o_lt at ho
  split at ho
  · split at ho
    · next hc => exact mG_pure (fun p e R s mth args below meth c Q hC _ _ ls H locs cells slots hl _ kk => lv_icmp_lt hC.1 hC.2.1 hd ht (fun q => kk ls hl) (fun q => absurd hc q)) (hk _ _ _ _ _ ho)
    · next hc => exact mG_pure (fun p e R s mth args below meth c Q hC _ _ ls H locs cells slots hl _ kk => lv_icmp_lt hC.1 hC.2.1 hd ht (fun q => absurd q hc) (fun q => kk ls hl)) (hk _ _ _ _ _ ho)
  · cases ho
theorem s_if_lt {off : Int} {tg : Nat} (hd : decode (mCc M) pc = .ok (.ifCond .lt off, 3)) (ht : (pc : Int) + off = (tg : Int)) : mSnd g lau mt M pc (o_lt0 (pc + 3) tg) := by
  intro c k _ hk l st h o ho
  unfold o_lt0 at ho
  split at ho
  · split at ho
    · next hc => exact mG_pure (fun p e R s mth args below meth c Q hC _ _ ls H locs cells slots hl _ kk => lv_if_lt hC.1 hC.2.1 hd ht (fun q => kk ls hl) (fun q => absurd hc q)) (hk _ _ _ _ _ ho)
    · next hc => exact mG_pure (fun p e R s mth args below meth c Q hC _ _ ls H locs cells slots hl _ kk => lv_if_lt hC.1 hC.2.1 hd ht (fun q => absurd q hc) (fun q => kk ls hl)) (hk _ _ _ _ _ ho)
  · cases ho
theorem s_icmp_ge {off : Int} {tg : Nat} (hd : decode (mCc M) pc = .ok (.if_icmp .ge off, 3)) (ht : (pc : Int) + off = (tg : Int)) : mSnd g lau mt M pc (o_ge (pc + 3) tg) := by
  intro c k _ hk l st h o ho
  unfold o_ge at ho
  split at ho
  · split at ho
    · next hc => exact mG_pure (fun p e R s mth args below meth c Q hC _ _ ls H locs cells slots hl _ kk => lv_icmp_ge hC.1 hC.2.1 hd ht (fun q => kk ls hl) (fun q => absurd hc q)) (hk _ _ _ _ _ ho)
    · next hc => exact mG_pure (fun p e R s mth args below meth c Q hC _ _ ls H locs cells slots hl _ kk => lv_icmp_ge hC.1 hC.2.1 hd ht (fun q => absurd q hc) (fun q => kk ls hl)) (hk _ _ _ _ _ ho)
  · cases ho
theorem s_if_ge {off : Int} {tg : Nat} (hd : decode (mCc M) pc = .ok (.ifCond .ge off, 3)) (ht : (pc : Int) + off = (tg : Int)) : mSnd g lau mt M pc (o_ge0 (pc + 3) tg) := by
  intro c k _ hk l st h o ho
  unfold o_ge0 at ho
  split at ho
  · split at ho
    · next hc => exact mG_pure (fun p e R s mth args below meth c Q hC _ _ ls H locs cells slots hl _ kk => lv_if_ge hC.1 hC.2.1 hd ht (fun q => kk ls hl) (fun q => absurd hc q)) (hk _ _ _ _ _ ho)
    · next hc => exact mG_pure (fun p e R s mth args below meth c Q hC _ _ ls H locs cells slots hl _ kk => lv_if_ge hC.1 hC.2.1 hd ht (fun q => absurd q hc) (fun q => kk ls hl)) (hk _ _ _ _ _ ho)
  · cases ho
theorem s_icmp_gt {off : Int} {tg : Nat} (hd : decode (mCc M) pc = .ok (.if_icmp .gt off, 3)) (ht : (pc : Int) + off = (tg : Int)) : mSnd g lau mt M pc (o_gt (pc + 3) tg) := by
  intro c k _ hk l st h o ho
  unfold o_gt at ho
  split at ho
  · split at ho
    · next hc => exact mG_pure (fun p e R s mth args below meth c Q hC _ _ ls H locs cells slots hl _ kk => lv_icmp_gt hC.1 hC.2.1 hd ht (fun q => kk ls hl) (fun q => absurd hc q)) (hk _ _ _ _ _ ho)
    · next hc => exact mG_pure (fun p e R s mth args below meth c Q hC _ _ ls H locs cells slots hl _ kk => lv_icmp_gt hC.1 hC.2.1 hd ht (fun q => absurd q hc) (fun q => kk ls hl)) (hk _ _ _ _ _ ho)
  · cases ho
theorem s_if_gt {off : Int} {tg : Nat} (hd : decode (mCc M) pc = .ok (.ifCond .gt off, 3)) (ht : (pc : Int) + off = (tg : Int)) : mSnd g lau mt M pc (o_gt0 (pc + 3) tg) := by
  intro c k _ hk l st h o ho
  unfold o_gt0 at ho
  split at ho
  · split at ho
    · next hc => exact mG_pure (fun p e R s mth args below meth c Q hC _ _ ls H locs cells slots hl _ kk => lv_if_gt hC.1 hC.2.1 hd ht (fun q => kk ls hl) (fun q => absurd hc q)) (hk _ _ _ _ _ ho)
    · next hc => exact mG_pure (fun p e R s mth args below meth c Q hC _ _ ls H locs cells slots hl _ kk => lv_if_gt hC.1 hC.2.1 hd ht (fun q => absurd q hc) (fun q => kk ls hl)) (hk _ _ _ _ _ ho)
  · cases ho
theorem s_icmp_le {off : Int} {tg : Nat} (hd : decode (mCc M) pc = .ok (.if_icmp .le off, 3)) (ht : (pc : Int) + off = (tg : Int)) : mSnd g lau mt M pc (o_le (pc + 3) tg) := by
  intro c k _ hk l st h o ho
  unfold o_le at ho
  split at ho
  · split at ho
    · next hc => exact mG_pure (fun p e R s mth args below meth c Q hC _ _ ls H locs cells slots hl _ kk => lv_icmp_le hC.1 hC.2.1 hd ht (fun q => kk ls hl) (fun q => absurd hc q)) (hk _ _ _ _ _ ho)
    · next hc => exact mG_pure (fun p e R s mth args below meth c Q hC _ _ ls H locs cells slots hl _ kk => lv_icmp_le hC.1 hC.2.1 hd ht (fun q => absurd q hc) (fun q => kk ls hl)) (hk _ _ _ _ _ ho)
  · cases ho
theorem s_if_le {off : Int} {tg : Nat} (hd : decode (mCc M) pc = .ok (.ifCond .le off, 3)) (ht : (pc : Int) + off = (tg : Int)) : mSnd g lau mt M pc (o_le0 (pc + 3) tg) := by
  intro c k _ hk l st h o ho
  unfold o_le0 at ho
  split at ho
  · split at ho
    · next hc => exact mG_pure (fun p e R s mth args below meth c Q hC _ _ ls H locs cells slots hl _ kk => lv_if_le hC.1 hC.2.1 hd ht (fun q => kk ls hl) (fun q => absurd hc q)) (hk _ _ _ _ _ ho)
    · next hc => exact mG_pure (fun p e R s mth args below meth c Q hC _ _ ls H locs cells slots hl _ kk => lv_if_le hC.1 hC.2.1 hd ht (fun q => absurd q hc) (fun q => kk ls hl)) (hk _ _ _ _ _ ho)
  · cases ho
theorem s_ifnull {off : Int} {tg : Nat} (hd : decode (mCc M) pc = .ok (.ifnull off, 3)) (ht : (pc : Int) + off = (tg : Int)) : mSnd g lau mt M pc (o_nul (pc + 3) tg) := by
  intro c k _ hk l st h o ho
  unfold o_nul at ho
  split at ho
  · exact mG_pure (fun p e R s mth args below meth c Q hC _ _ ls H locs cells slots hl _ kk => lv_ifnullN hC.1 hC.2.1 hd ht (kk ls hl)) (hk _ _ _ _ _ ho)
  · exact mG_pure (fun p e R s mth args below meth c Q hC _ _ ls H locs cells slots hl _ kk => lv_ifnull hC.1 hC.2.1 hd (kk ls hl)) (hk _ _ _ _ _ ho)
  · cases ho
theorem s_ifnonnull {off : Int} {tg : Nat} (hd : decode (mCc M) pc = .ok (.ifnonnull off, 3)) (ht : (pc : Int) + off = (tg : Int)) : mSnd g lau mt M pc (o_nnul (pc + 3) tg) := by
  intro c k _ hk l st h o ho
  unfold o_nnul at ho
  split at ho
  · exact mG_pure (fun p e R s mth args below meth c Q hC _ _ ls H locs cells slots hl _ kk => lv_ifnonnullN hC.1 hC.2.1 hd (kk ls hl)) (hk _ _ _ _ _ ho)
  · exact mG_pure (fun p e R s mth args below meth c Q hC _ _ ls H locs cells slots hl _ kk => lv_ifnonnull hC.1 hC.2.1 hd ht (kk ls hl)) (hk _ _ _ _ _ ho)
  · cases ho
theorem mClamp {x : Int32} (h : ¬ x < 0) : ((x.toNatClampNeg : Nat) : Int) = x.toInt := by
  obtain ⟨j, hj, rfl⟩ := nI_of h
  rw [nI_clamp hj, nI_toInt hj]
/-- a switch from 0 to n - 1: the targets as the table has them -/
theorem s_tsw {df hi : Int} {offs : Array Int} {len n dt : Nat} {tgs : List Nat} (hd : decode (mCc M) pc = .ok (.tableswitch df 0 hi offs, len)) (hn : hi = (n : Int) - 1) (hl : tgs.length = n) (ht : ∀ i, i < n → (offs[i]?).map (fun (f : Int) => (pc : Int) + f) = some ((tgs.getD i dt : Nat) : Int)) (hdt : (pc : Int) + df = (dt : Int)) : mSnd g lau mt M pc (o_tsw tgs dt) := by
  intro c k _ hk l st h o ho
  unfold o_tsw at ho
  split at ho
  · next x st' =>
    split at ho
    · next hc =>
      refine mG_pure (fun p e R s mth args below meth c Q hC _ _ ls H locs cells slots hl _ kk => lv_tableOut hC.1 hC.2.1 hd ?_ hdt (kk ls hl)) (hk _ _ _ _ _ ho)
      by_cases h0 : x < 0
      · exact Or.inl (by rw [Int32.lt_iff_toInt_lt, Int32.toInt_zero] at h0; exact h0)
      · have h1 := mClamp h0
        rcases hc with hc | hc
        · exact absurd hc h0
        · right
          omega
    · next hc =>
      have h0 : ¬ x < 0 := fun q => hc (Or.inl q)
      have h1 := mClamp h0
      have h2 : x.toNatClampNeg < n := by
        rw [← hl]
        exact Nat.not_le.mp fun q => hc (Or.inr q)
      have h3 := ht _ h2
      have h4 : (x.toInt - 0).toNat = x.toNatClampNeg := by omega
      cases h5 : offs[x.toNatClampNeg]? with
      | none => rw [h5] at h3; cases h3
      | some f =>
        rw [h5] at h3
        exact mG_pure (fun p e R s mth args below meth c Q hC _ _ ls H locs cells slots hl _ kk => lv_tableIn hC.1 hC.2.1 hd (by omega) (by omega) (by rw [h4]; exact h5) (Option.some.inj h3) (kk ls hl)) (hk _ _ _ _ _ ho)
  · cases ho
end MPure
end
section
/-! ===== the operations are sound: fields and rows ===== -/
theorem mV_wI {h : mH} {a k : Nat} {x : Int32} (hv : ∀ i j p, mVal (mTy (mTg h a) k) i j p = .int i) (j : Nat) : mV (wI h a k x) a j = updV (mV h a) k (.int x) j := by
  unfold mV updV
  rw [mTg_wI, mI_wI, mJ_wI, mP_wI]
  by_cases hj : j = k
  · subst hj
    rw [if_pos ⟨rfl, rfl⟩, if_pos rfl]
    exact hv _ _ _
  · rw [if_neg (fun q => hj q.2), if_neg hj]
theorem mV_wI_ne {h : mH} {a k : Nat} {x : Int32} {b : Nat} (hb : b ≠ a) (j : Nat) : mV (wI h a k x) b j = mV h b j := by
  unfold mV
  rw [mTg_wI, mI_wI, mJ_wI, mP_wI, if_neg (fun q => hb q.1)]
theorem mV_wJ {h : mH} {a k : Nat} {x : Int64} (hv : ∀ i j p, mVal (mTy (mTg h a) k) i j p = .long j) (j : Nat) : mV (wJ h a k x) a j = updV (mV h a) k (.long x) j := by
  unfold mV updV
  rw [mTg_wJ, mI_wJ, mJ_wJ, mP_wJ]
  by_cases hj : j = k
  · subst hj
    rw [if_pos ⟨rfl, rfl⟩, if_pos rfl]
    exact hv _ _ _
  · rw [if_neg (fun q => hj q.2), if_neg hj]
theorem mV_wJ_ne {h : mH} {a k : Nat} {x : Int64} {b : Nat} (hb : b ≠ a) (j : Nat) : mV (wJ h a k x) b j = mV h b j := by
  unfold mV
  rw [mTg_wJ, mI_wJ, mJ_wJ, mP_wJ, if_neg (fun q => hb q.1)]
theorem mV_wP {h : mH} {a k : Nat} {x : Option Nat} (hv : ∀ i j p, mVal (mTy (mTg h a) k) i j p = va_rf p) (j : Nat) : mV (wP h a k x) a j = updV (mV h a) k (va_rf x) j := by
  unfold mV updV
  rw [mTg_wP, mI_wP, mJ_wP, mP_wP]
  by_cases hj : j = k
  · subst hj
    rw [if_pos ⟨rfl, rfl⟩, if_pos rfl]
    exact hv _ _ _
  · rw [if_neg (fun q => hj q.2), if_neg hj]
theorem mV_wP_ne {h : mH} {a k : Nat} {x : Option Nat} {b : Nat} (hb : b ≠ a) (j : Nat) : mV (wP h a k x) b j = mV h b j := by
  unfold mV
  rw [mTg_wP, mI_wP, mJ_wP, mP_wP, if_neg (fun q => hb q.1)]
theorem mLocs {g : mG} {locs : List Loc} {a i : Nat} (h : ∀ q ∈ locs, gB g ≤ q.base) (ha : gB g ≤ a) : ∀ q ∈ locs ++ [(⟨a, i⟩ : Loc)], gB g ≤ q.base := by
  intro q hq
  rcases List.mem_append.mp hq with h1 | h1
  · exact h q h1
  · rw [List.mem_singleton.mp h1]
    exact ha
section MHeap
variable {g : mG} {lau : Launch} {mt : Nat → mM} {M : mM} {pc : Nat}
/-- a field is read -/
theorem mGet {ci f idx : Nat} {C : String} {T : u_T} {N : Nat} (h12 : ci < 12) (hr : mCl[ci]? = some (C, T, N)) (hin : ∀ w ∈ u_ws C T N, w ∈ mTb) (hf : f < N) (hw : Cond.fieldLink (mCn M) idx (T f).1 (T f).2.1 (T f).2.2.1 ∈ mTb) (hd : decode (mCc M) pc = .ok (.getfield idx, 3))
    {h : mH} {a : Nat} (ht : mTg h a = ci + 1) {l : mL} {st : List Value} {o : mO} (hg : mGood g lau M (pc + 3) l (mV h a f :: st) h o) : mGood g lau M pc l (.ref a :: st) h o := by
  refine mG_pure (fun p e R s mth args below meth c Q hC _ _ ls H locs cells slots hl hH kk => ?_) hg
  obtain ⟨hx, hb, hml, hown, hts, hK, hX, hnm⟩ := hC
  obtain ⟨cell, q1, q2, q3, q4⟩ := hH.obj ht h12 hr
  obtain ⟨hS, hfc, kC, hkC, hkind⟩ := hK.1 ci _ hr
  obtain ⟨cf, kf, fi, fd, hi, hsl⟩ := hS f hf
  refine W.getf hx hb hown (hts _ hw) hi (u_facts hfc hkC (u_lays hts hin hf) hi).1 q1 (by rw [q3]; exact fun h => by cases h) (v := mV h a f) ?_ rfl rfl hd (kk ls hl)
  rw [hsl, q4 f hf]
theorem s_getI {ci f idx : Nat} {C : String} {T : u_T} {N : Nat} (h12 : ci < 12) (hr : mCl[ci]? = some (C, T, N)) (hin : ∀ w ∈ u_ws C T N, w ∈ mTb) (hf : f < N) (hv : ∀ i j p, mVal (mTy (ci + 1) f) i j p = .int i) (hw : Cond.fieldLink (mCn M) idx (T f).1 (T f).2.1 (T f).2.2.1 ∈ mTb) (hd : decode (mCc M) pc = .ok (.getfield idx, 3)) : mSnd g lau mt M pc (o_gI (pc + 3) (ci + 1) f) := by
  intro c k _ hk l st h o ho
  unfold o_gI at ho
  split at ho
  · split at ho
    · next a st' ht =>
      refine mGet h12 hr hin hf hw hd ht ?_
      rw [show mV h a f = .int (mI h a f) by unfold mV; rw [ht]; exact hv _ _ _]
      exact hk _ _ _ _ _ ho
    · cases ho
  · cases ho
theorem s_getP {ci f idx : Nat} {C : String} {T : u_T} {N : Nat} (h12 : ci < 12) (hr : mCl[ci]? = some (C, T, N)) (hin : ∀ w ∈ u_ws C T N, w ∈ mTb) (hf : f < N) (hv : ∀ i j p, mVal (mTy (ci + 1) f) i j p = va_rf p) (hw : Cond.fieldLink (mCn M) idx (T f).1 (T f).2.1 (T f).2.2.1 ∈ mTb) (hd : decode (mCc M) pc = .ok (.getfield idx, 3)) : mSnd g lau mt M pc (o_gP (pc + 3) (ci + 1) f) := by
  intro c k _ hk l st h o ho
  unfold o_gP at ho
  split at ho
  · split at ho
    · next a st' ht =>
      refine mGet h12 hr hin hf hw hd ht ?_
      rw [show mV h a f = va_rf (mP h a f) by unfold mV; rw [ht]; exact hv _ _ _]
      exact hk _ _ _ _ _ ho
    · cases ho
  · cases ho
/-- a field is written: what the great machine's heap is behind it -/
theorem mPut {ci f idx : Nat} {C : String} {T : u_T} {N : Nat} (h12 : ci < 12) (hr : mCl[ci]? = some (C, T, N)) (hin : ∀ w ∈ u_ws C T N, w ∈ mTb) (hf : f < N) (ty0 : Nat → FieldType) (hty : ∀ k, k < N → parseFieldDescriptor (T k).2.2.1 = some (ty0 k)) (hnm0 : ∀ a, a < N → ∀ b, b < N → a ≠ b → (T a).2.1 ≠ (T b).2.1)
    (hfin : (T f).2.2.2 = false ∨ ((mNm M).name = "<init>" ∧ (T f).1 = mCn M)) (hw : Cond.fieldLink (mCn M) idx (T f).1 (T f).2.1 (T f).2.2.1 ∈ mTb) (hd : decode (mCc M) pc = .ok (.putfield idx, 3))
    {h h' : mH} {a : Nat} {v : Value} (ht : mTg h a = ci + 1) (hn : narrow (ty0 f) v = v) (hfit : fits (ty0 f) v = true) (e0 : mTop h' = mTop h) (e1 : mSl h' = mSl h) (e2 : mTg h' = mTg h) (e3 : mLn h' = mLn h) (e4 : ∀ b, b ≠ a → mI h' b = mI h b) (e5 : ∀ b j, b ≠ a → mV h' b j = mV h b j) (e6 : ∀ j, mV h' a j = updV (mV h a) f v j)
    {l : mL} {st : List Value} {o : mO} (hg : mGood g lau M (pc + 3) l st h' o) : mGood g lau M pc l (v :: .ref a :: st) h o := by
  refine mG_heap (dc := 0) (ds := 0) e0 e1 (fun p e R s mth args below meth c Q hC ls H locs cells slots hl hH hL _ _ kk => ?_) hg
  obtain ⟨hx, hb, hml, hown, hts, hK, hX, hnm⟩ := hC
  have hap := va_apart (own := mCn M) hts hin ty0 hty hnm0 hK hr
  obtain ⟨cell, q1, q2, q3, q4⟩ := hH.obj ht h12 hr
  have hB := hH.base ht (by omega) (by omega)
  obtain ⟨hS, hfc, kC, hkC, hkind⟩ := hK.1 ci _ hr
  obtain ⟨cf, kf, fi, fd, hi, hsl⟩ := hS f hf
  have hst := (u_facts hfc hkC (u_lays hts hin hf) hi).1
  have done : ∀ H' : Heap, H'[a]? = some (cell.setSlot fd.slot v) → H'.size = H.size → (∀ q, q ≠ a → H'[q]? = H[q]?) → mHR g h' H' := by
    intro H' w1 w2 w3
    refine hH.put ht (by omega) (by omega) e0 e2 e3 e4 e5 w2 w3 ⟨fun r hr1 hr2 => ?_, fun h20 => ?_⟩
    · rw [e2, ht] at hr2 ⊢
      have hrr : r = (C, T, N) := Option.some.inj (hr2.symm.trans hr)
      subst hrr
      rw [hsl] at w1
      exact t_OB.to (V := updV (mV h a) f v) ⟨_, w1, q2, q3, t_set q4 hap hf v⟩ (fun j _ => (e6 j).symm)
    · rw [e2, ht] at h20
      omega
  have hfit2 := u_fits hfc hkC hkind (u_lays hts hin hf) hi (hty f hf) hn hfit
  by_cases hff : (T f).2.2.2 = false
  · have hlay := hts _ (hin _ (u_in_lay hf))
    unfold u_lay at hlay
    rw [if_neg (by rw [hff]; decide)] at hlay
    have h6 := u_store hfc hkC hkind hlay hi (hty f hf) hn hfit
    exact W.putK hx hb (f := fd) ⟨hown, hts _ hw, ⟨_, _, _, hi⟩, hst⟩ (by rw [q2]; exact h6) q1 q3 (by rw [hsl]; exact k2_hasslot (q4 f hf)) rfl rfl hd (fun H' w1 w2 w3 => kk H' _ (done H' w1 w2 w3) (mLocs hL hB))
  · have hff : (T f).2.2.2 = true := by
      cases hq : (T f).2.2.2
      · exact absurd hq hff
      · rfl
    rcases hfin with hfin | ⟨hfin, hdecl⟩
    · rw [hff] at hfin
      cases hfin
    · have hlay := hts _ (hin _ (u_in_lay hf))
      unfold u_lay at hlay
      rw [if_pos hff] at hlay
      have hcf : mth.cls = cf := by
        obtain ⟨_, _, c', _, _, _, -, -, hf', -, -, -, hown2, -⟩ := Cond.laysFinal_spec hlay
        have e1 : c' = cf := by have := hi.symm.trans hf'; simp at this; exact this.1.symm
        rw [hdecl] at hown2
        rw [← e1]
        exact Option.some.inj (hown.symm.trans hown2)
      exact W.putFinK hx hb hown (hts _ hw) hi hst hcf (hnm.1.trans hfin) (by rw [q2]; exact hfit2) q1 q3 (by rw [hsl]; exact k2_hasslot (q4 f hf)) rfl rfl hd (fun H' w1 w2 w3 => kk H' _ (done H' w1 w2 w3) (mLocs hL hB))
theorem s_putI {ci f idx : Nat} {C : String} {T : u_T} {N : Nat} (h12 : ci < 12) (hr : mCl[ci]? = some (C, T, N)) (hin : ∀ w ∈ u_ws C T N, w ∈ mTb) (hf : f < N) (ty0 : Nat → FieldType) (hty : ∀ k, k < N → parseFieldDescriptor (T k).2.2.1 = some (ty0 k)) (hnm0 : ∀ a, a < N → ∀ b, b < N → a ≠ b → (T a).2.1 ≠ (T b).2.1)
    (hfin : (T f).2.2.2 = false ∨ ((mNm M).name = "<init>" ∧ (T f).1 = mCn M)) (hw : Cond.fieldLink (mCn M) idx (T f).1 (T f).2.1 (T f).2.2.1 ∈ mTb) (hd : decode (mCc M) pc = .ok (.putfield idx, 3)) (hv : ∀ i j p, mVal (mTy (ci + 1) f) i j p = .int i) (hi : ty0 f = .int) : mSnd g lau mt M pc (o_pI (pc + 3) (ci + 1) f) := by
  intro c k _ hk l st h o ho
  unfold o_pI at ho
  split at ho
  · split at ho
    · next x a st' ht => exact mPut (h' := wI h a f x) h12 hr hin hf ty0 hty hnm0 hfin hw hd ht (by rw [hi]; rfl) (by rw [hi]; rfl) rfl rfl rfl rfl (fun b hb => funext fun j => by rw [mI_wI, if_neg (fun q => hb q.1)]) (fun b j hb => mV_wI_ne hb j) (mV_wI (by rw [ht]; exact hv)) (hk _ _ _ _ _ ho)
    · cases ho
  · cases ho
theorem s_putZ {ci f idx : Nat} {C : String} {T : u_T} {N : Nat} (h12 : ci < 12) (hr : mCl[ci]? = some (C, T, N)) (hin : ∀ w ∈ u_ws C T N, w ∈ mTb) (hf : f < N) (ty0 : Nat → FieldType) (hty : ∀ k, k < N → parseFieldDescriptor (T k).2.2.1 = some (ty0 k)) (hnm0 : ∀ a, a < N → ∀ b, b < N → a ≠ b → (T a).2.1 ≠ (T b).2.1)
    (hfin : (T f).2.2.2 = false ∨ ((mNm M).name = "<init>" ∧ (T f).1 = mCn M)) (hw : Cond.fieldLink (mCn M) idx (T f).1 (T f).2.1 (T f).2.2.1 ∈ mTb) (hd : decode (mCc M) pc = .ok (.putfield idx, 3)) (hv : ∀ i j p, mVal (mTy (ci + 1) f) i j p = .int i) (hi : ty0 f = .boolean) : mSnd g lau mt M pc (o_pZ (pc + 3) (ci + 1) f) := by
  intro c k _ hk l st h o ho
  unfold o_pZ at ho
  split at ho
  · split at ho
    · next x a st' ht => exact mPut (h' := wI h a f x) h12 hr hin hf ty0 hty hnm0 hfin hw hd ht.1 (by rw [hi]; rcases ht.2 with rfl | rfl <;> rfl) (by rw [hi]; rcases ht.2 with rfl | rfl <;> rfl) rfl rfl rfl rfl (fun b hb => funext fun j => by rw [mI_wI, if_neg (fun q => hb q.1)]) (fun b j hb => mV_wI_ne hb j) (mV_wI (by rw [ht.1]; exact hv)) (hk _ _ _ _ _ ho)
    · cases ho
  · cases ho
theorem s_putP {ci f idx : Nat} {C : String} {T : u_T} {N : Nat} (h12 : ci < 12) (hr : mCl[ci]? = some (C, T, N)) (hin : ∀ w ∈ u_ws C T N, w ∈ mTb) (hf : f < N) (ty0 : Nat → FieldType) (hty : ∀ k, k < N → parseFieldDescriptor (T k).2.2.1 = some (ty0 k)) (hnm0 : ∀ a, a < N → ∀ b, b < N → a ≠ b → (T a).2.1 ≠ (T b).2.1)
    (hfin : (T f).2.2.2 = false ∨ ((mNm M).name = "<init>" ∧ (T f).1 = mCn M)) (hw : Cond.fieldLink (mCn M) idx (T f).1 (T f).2.1 (T f).2.2.1 ∈ mTb) (hd : decode (mCc M) pc = .ok (.putfield idx, 3)) (hv : ∀ i j p, mVal (mTy (ci + 1) f) i j p = va_rf p) (hi : (ty0 f).isReference = true) : mSnd g lau mt M pc (o_pP (pc + 3) (ci + 1) f) := by
  intro c k _ hk l st h o ho
  unfold o_pP at ho
  split at ho
  · split at ho
    · next x a st' ht => exact mPut (h' := wP h a f (some x)) h12 hr hin hf ty0 hty hnm0 hfin hw hd ht (by generalize ty0 f = z at hi; cases z <;> first | rfl | cases hi) (by generalize ty0 f = z at hi; cases z <;> first | rfl | cases hi) rfl rfl rfl rfl (fun b hb => rfl) (fun b j hb => mV_wP_ne hb j) (mV_wP (x := some x) (by rw [ht]; exact hv)) (hk _ _ _ _ _ ho)
    · cases ho
  · cases ho
-- rows
theorem mArr {p : Program} {s : State} {mth : MethodId} {args : Array Value} {meth : Method} {c : Code} (hC : mCx g M p s mth args meth c) {t : Nat} {ty : FieldType} (h20 : 20 ≤ t) (ht : (mTys (gA g))[t - 20]? = some (gA g t, ty)) (n : Nat) (z : Nat → Value) : s.isArrayOf (arrV (gA g t) n z) ty := (hC.2.2.2.2.2.1.2 _ _ ht).1 n z
theorem mIn {i : Int32} {n : Nat} {c : ClassId} {f : Nat → Value} (h : ¬ i < 0 ∧ i.toNatClampNeg < n) : ¬ (i < 0 ∨ (arrV c n f).slots.size ≤ i.toNatClampNeg) := by
  rw [arrV_size]
  rintro (q | q)
  · exact h.1 q
  · exact absurd h.2 (Nat.not_lt.mpr q)
theorem s_iald (hd : decode (mCc M) pc = .ok (.iaload, 1)) : mSnd g lau mt M pc (o_ial (pc + 1)) := by
  intro c k _ hk l st h o ho
  unfold o_ial at ho
  split at ho
  · split at ho
    · next i a st' ht =>
      obtain ⟨ht, hi⟩ := ht
      refine mG_pure (fun p e R s mth args below meth c Q hC _ _ ls H locs cells slots hl hH kk => ?_) (hk _ _ _ _ _ ho)
      rcases ht with ht | ht
      · have hv : mV h a i.toNatClampNeg = .int (mI h a i.toNatClampNeg) := by unfold mV; rw [ht]; rfl
        exact W.iald (v := .int (mI h a i.toNatClampNeg)) hC.1 hC.2.1 (hH.arr ht (by omega) (by omega)) (mArr hC (by omega) rfl _ _) (fun q => by cases q) (mIn hi) (by rw [arrV_read _ _ hi.2, hv]) rfl rfl hd (kk ls hl)
      · rcases hH.2.2.2.2 a (by rw [ht]; omega) with ⟨x1, x2, x3, x4⟩ | ⟨x1, -⟩
        · obtain ⟨scr, h1, h2, h3, h4, h5⟩ := hC.2.2.2.2.2.2.1
          subst x1
          rw [x3] at hi
          exact W.iald (v := .int (mI h (gb g) i.toNatClampNeg)) hC.1 hC.2.1 (by rw [hH.2.2.2.1 _ hH.2.2.1]; exact h1) h2 h3 (by rw [h4]; rintro (q | q); exact hi.1 q; exact absurd hi.2 (Nat.not_lt.mpr q)) (by rw [x4]; exact h5 _ hi.2) rfl rfl hd (kk ls hl)
        · omega
    · cases ho
  · cases ho
theorem s_zald (hd : decode (mCc M) pc = .ok (.baload, 1)) : mSnd g lau mt M pc (o_bal (pc + 1)) := by
  intro c k _ hk l st h o ho
  unfold o_bal at ho
  split at ho
  · split at ho
    · next i a st' ht =>
      obtain ⟨ht, hi⟩ := ht
      refine mG_pure (fun p e R s mth args below meth c Q hC _ _ ls H locs cells slots hl hH kk => ?_) (hk _ _ _ _ _ ho)
      have hv : mV h a i.toNatClampNeg = .int (mI h a i.toNatClampNeg) := by unfold mV; rw [ht]; rfl
      exact W.zald (v := .int (mI h a i.toNatClampNeg)) hC.1 hC.2.1 (hH.arr ht (by omega) (by omega)) (mArr hC (by omega) rfl _ _) (fun q => by cases q) (mIn hi) (by rw [arrV_read _ _ hi.2, hv]) rfl rfl hd (kk ls hl)
    · cases ho
  · cases ho
theorem s_lald (hd : decode (mCc M) pc = .ok (.laload, 1)) : mSnd g lau mt M pc (o_lal (pc + 1)) := by
  intro c k _ hk l st h o ho
  unfold o_lal at ho
  split at ho
  · split at ho
    · next i a st' ht =>
      obtain ⟨ht, hi⟩ := ht
      refine mG_pure (fun p e R s mth args below meth c Q hC _ _ ls H locs cells slots hl hH kk => ?_) (hk _ _ _ _ _ ho)
      have hv : mV h a i.toNatClampNeg = .long (mJ h a i.toNatClampNeg) := by unfold mV; rw [ht]; rfl
      exact W.lald (v := .long (mJ h a i.toNatClampNeg)) hC.1 hC.2.1 (hH.arr ht (by omega) (by omega)) (mArr hC (by omega) rfl _ _) (fun q => by cases q) (mIn hi) (by rw [arrV_read _ _ hi.2, hv]) rfl rfl hd (kk ls hl)
    · cases ho
  · cases ho
theorem s_aald (hd : decode (mCc M) pc = .ok (.aaload, 1)) : mSnd g lau mt M pc (o_aal (pc + 1)) := by
  intro c k _ hk l st h o ho
  unfold o_aal at ho
  split at ho
  · split at ho
    · next i a st' ht =>
      obtain ⟨ht, hi⟩ := ht
      refine mG_pure (fun p e R s mth args below meth c Q hC _ _ ls H locs cells slots hl hH kk => ?_) (hk _ _ _ _ _ ho)
      rcases ht with ht | ht | ht
      · have hv : mV h a i.toNatClampNeg = va_rf (mP h a i.toNatClampNeg) := by unfold mV; rw [ht]; rfl
        exact W.aald (v := va_rf (mP h a i.toNatClampNeg)) hC.1 hC.2.1 (hH.arr ht (by omega) (by omega)) (mArr hC (t := 23) (by omega) rfl _ _) rfl (fun q => by cases q) (mIn hi) (by rw [arrV_read _ _ hi.2, hv]) rfl rfl hd (kk ls hl)
      · have hv : mV h a i.toNatClampNeg = va_rf (mP h a i.toNatClampNeg) := by unfold mV; rw [ht]; rfl
        exact W.aald (v := va_rf (mP h a i.toNatClampNeg)) hC.1 hC.2.1 (hH.arr ht (by omega) (by omega)) (mArr hC (t := 24) (by omega) rfl _ _) rfl (fun q => by cases q) (mIn hi) (by rw [arrV_read _ _ hi.2, hv]) rfl rfl hd (kk ls hl)
      · have hv : mV h a i.toNatClampNeg = va_rf (mP h a i.toNatClampNeg) := by unfold mV; rw [ht]; rfl
        exact W.aald (v := va_rf (mP h a i.toNatClampNeg)) hC.1 hC.2.1 (hH.arr ht (by omega) (by omega)) (mArr hC (t := 25) (by omega) rfl _ _) rfl (fun q => by cases q) (mIn hi) (by rw [arrV_read _ _ hi.2, hv]) rfl rfl hd (kk ls hl)
    · cases ho
  · cases ho
/-- the relation behind a store into a row -/
theorem mStore {h h' : mH} {H H' : Heap} {a t j : Nat} {v : Value} (hH : mHR g h H) (ht : mTg h a = t) (h20 : 20 ≤ t) (h30 : t ≠ 30) (e0 : mTop h' = mTop h) (e2 : mTg h' = mTg h) (e3 : mLn h' = mLn h) (e4 : ∀ b, b ≠ a → mI h' b = mI h b) (e5 : ∀ b j, b ≠ a → mV h' b j = mV h b j) (e6 : ∀ i, mV h' a i = updV (mV h a) j v i)
    (w1 : H'[a]? = some ((arrV (gA g t) (mLn h a) (mV h a)).setSlot j v)) (w2 : H'.size = H.size) (w3 : ∀ q, q ≠ a → H'[q]? = H[q]?) : mHR g h' H' := by
  refine hH.put ht (by omega) h30 e0 e2 e3 e4 e5 w2 w3 ⟨fun r hr1 hr2 => ?_, fun _ => ?_⟩
  · rw [e2, ht] at hr1
    omega
  · rw [w1, arrV_store, e2, e3, ht, show mV h' a = updV (mV h a) j v from funext e6]
theorem s_iast (hd : decode (mCc M) pc = .ok (.iastore, 1)) : mSnd g lau mt M pc (o_ias (pc + 1)) := by
  intro c k _ hk l st h o ho
  unfold o_ias at ho
  split at ho
  · split at ho
    · next x i a st' ht =>
      obtain ⟨ht, hi⟩ := ht
      refine mG_heap (h' := wI h a i.toNatClampNeg x) (dc := 0) (ds := 0) rfl rfl (fun p e R s mth args below meth c Q hC ls H locs cells slots hl hH hL _ _ kk => ?_) (hk _ _ _ _ _ ho)
      refine W.iast hC.1 hC.2.1 (hH.arr ht (by omega) (by omega)) (mArr hC (by omega) rfl _ _) (fun q => by cases q) (mIn hi) rfl rfl hd (fun H' w1 w2 w3 => kk H' _ ?_ (mLocs hL (hH.base ht (by omega) (by omega))))
      exact mStore hH ht (by omega) (by omega) rfl rfl rfl (fun b hb => funext fun j => by rw [mI_wI, if_neg (fun q => hb q.1)]) (fun b j hb => mV_wI_ne hb j) (mV_wI (by rw [ht]; exact fun _ _ _ => rfl)) w1 w2 w3
    · cases ho
  · cases ho
theorem s_zast (hd : decode (mCc M) pc = .ok (.bastore, 1)) : mSnd g lau mt M pc (o_bas (pc + 1)) := by
  intro c k _ hk l st h o ho
  unfold o_bas at ho
  split at ho
  · split at ho
    · next x i a st' ht =>
      obtain ⟨ht, hxx, hi⟩ := ht
      have hnx : narrow .boolean (.int x) = .int x := by rcases hxx with rfl | rfl <;> rfl
      refine mG_heap (h' := wI h a i.toNatClampNeg x) (dc := 0) (ds := 0) rfl rfl (fun p e R s mth args below meth c Q hC ls H locs cells slots hl hH hL _ _ kk => ?_) (hk _ _ _ _ _ ho)
      refine W.zast hC.1 hC.2.1 (hH.arr ht (by omega) (by omega)) (mArr hC (by omega) rfl _ _) (fun q => by cases q) (mIn hi) rfl rfl hd (fun H' w1 w2 w3 => kk H' _ ?_ (mLocs hL (hH.base ht (by omega) (by omega))))
      rw [hnx] at w1
      exact mStore hH ht (by omega) (by omega) rfl rfl rfl (fun b hb => funext fun j => by rw [mI_wI, if_neg (fun q => hb q.1)]) (fun b j hb => mV_wI_ne hb j) (mV_wI (by rw [ht]; exact fun _ _ _ => rfl)) w1 w2 w3
    · cases ho
  · cases ho
theorem s_last (hd : decode (mCc M) pc = .ok (.lastore, 1)) : mSnd g lau mt M pc (o_las (pc + 1)) := by
  intro c k _ hk l st h o ho
  unfold o_las at ho
  split at ho
  · split at ho
    · next x i a st' ht =>
      obtain ⟨ht, hi⟩ := ht
      refine mG_heap (h' := wJ h a i.toNatClampNeg x) (dc := 0) (ds := 0) rfl rfl (fun p e R s mth args below meth c Q hC ls H locs cells slots hl hH hL _ _ kk => ?_) (hk _ _ _ _ _ ho)
      refine W.last hC.1 hC.2.1 (hH.arr ht (by omega) (by omega)) (mArr hC (by omega) rfl _ _) (fun q => by cases q) (mIn hi) rfl rfl hd (fun H' w1 w2 w3 => kk H' _ ?_ (mLocs hL (hH.base ht (by omega) (by omega))))
      exact mStore hH ht (by omega) (by omega) rfl rfl rfl (fun b hb => rfl) (fun b j hb => mV_wJ_ne hb j) (mV_wJ (by rw [ht]; exact fun _ _ _ => rfl)) w1 w2 w3
    · cases ho
  · cases ho
theorem mAast {t ci x i' : Nat} {i : Int32} {h : mH} {a : Nat} {l : mL} {st : List Value} {o : mO} {r : vw_C} (hd : decode (mCc M) pc = .ok (.aastore, 1)) (h20 : 20 ≤ t) (h30 : t ≠ 30) (ht : mTg h a = t) (hty : (mTys (gA g))[t - 20]? = some (gA g t, .object r.1)) (h12 : ci < 12) (hr : mCl[ci]? = some r) (hx : mTg h x = ci + 1) (hi : ¬ i < 0 ∧ i.toNatClampNeg < mLn h a) (hi' : i.toNatClampNeg = i') (hv : ∀ i j p, mVal (mTy t i') i j p = va_rf p) (hg : mGood g lau M (pc + 1) l st (wP h a i' (some x)) o) : mGood g lau M pc l (.ref x :: .int i :: .ref a :: st) h o := by
  subst hi'
  refine mG_heap (h' := wP h a i.toNatClampNeg (some x)) (dc := 0) (ds := 0) rfl rfl (fun p e R s mth args below meth c Q hC ls H locs cells slots hl hH hL _ _ kk => ?_) hg
  obtain ⟨cellV, g1, g2, g3, -⟩ := hH.obj hx h12 hr
  have hK := hC.2.2.2.2.2.1
  have hcls := (hK.1 ci r hr).2
  obtain ⟨kA, comp, k1, k2, k3, -⟩ := (hK.2 _ _ hty).2
  have hcomp : comp = (gD g).1 ci := Option.some.inj (k3.symm.trans hcls.1)
  subst hcomp
  obtain ⟨kC, hkC, -⟩ := hcls.2
  refine W.aast hC.1 hC.2.1 (hH.arr ht h20 h30) (fun q h => by cases h) (fun h => by cases h) k1 k2 rfl hkC ⟨hi.1, by rw [arrV_size]; exact hi.2⟩ g1 (fun q h => by rw [g3] at h; cases h) (by rw [g2]; exact hkC) (by rw [g2]; exact va_assign hcls) rfl rfl hd (fun H' w1 w2 w3 => kk H' _ ?_ (mLocs hL (hH.base ht (by omega) h30)))
  exact mStore hH ht h20 h30 rfl rfl rfl (fun b hb => rfl) (fun b j hb => mV_wP_ne hb j) (mV_wP (x := some x) (by rw [ht]; exact hv)) w1 w2 w3
theorem s_aast (hd : decode (mCc M) pc = .ok (.aastore, 1)) : mSnd g lau mt M pc (o_aas (pc + 1)) := by
  intro c k _ hk l st h o ho
  unfold o_aas at ho
  split at ho
  · split at ho
    · next x i a st' ht =>
      obtain ⟨ht, hi⟩ := ht
      rcases ht with ⟨ht, hx⟩ | ⟨ht, hx⟩
      · exact mAast (t := 23) (ci := 5) (r := (RX5, TX5, 9)) hd (by omega) (by omega) ht rfl (by omega) rfl hx hi rfl (fun _ _ _ => rfl) (hk _ _ _ _ _ ho)
      · exact mAast (t := 24) (ci := 6) (r := (RX6, TX6, 18)) hd (by omega) (by omega) ht rfl (by omega) rfl hx hi rfl (fun _ _ _ => rfl) (hk _ _ _ _ _ ho)
    · cases ho
  · cases ho
theorem s_alen (hd : decode (mCc M) pc = .ok (.arraylength, 1)) : mSnd g lau mt M pc (o_aln (pc + 1)) := by
  intro c k _ hk l st h o ho
  unfold o_aln at ho
  split at ho
  · split at ho
    · next a st' ht =>
      refine mG_pure (fun p e R s mth args below meth c Q hC _ _ ls H locs cells slots hl hH kk => ?_) (hk _ _ _ _ _ ho)
      rcases ht with ht | ht | ht
      · exact W.alen (n := nI (mLn h a)) hC.1 hC.2.1 (hH.arr ht (by omega) (by omega)) (mArr hC (t := 20) (by omega) rfl _ _) (by rw [arrV_size] <;> rfl) rfl rfl hd (kk ls hl)
      · exact W.alen (n := nI (mLn h a)) hC.1 hC.2.1 (hH.arr ht (by omega) (by omega)) (mArr hC (t := 23) (by omega) rfl _ _) (by rw [arrV_size] <;> rfl) rfl rfl hd (kk ls hl)
      · rcases hH.2.2.2.2 a (by rw [ht]; omega) with ⟨x1, x2, x3, x4⟩ | ⟨x1, -⟩
        · obtain ⟨scr, h1, h2, h3, h4, h5⟩ := hC.2.2.2.2.2.2.1
          subst x1
          exact W.alen (n := nI (mLn h (gb g))) hC.1 hC.2.1 (by rw [hH.2.2.2.1 _ hH.2.2.1]; exact h1) h2 (by rw [h4, x3] <;> rfl) rfl rfl hd (kk ls hl)
        · omega
    · cases ho
  · cases ho
end MHeap
end
section
/-! ===== the operations are sound: what is made, calls, ends ===== -/
section MCalls
variable {g : mG} {lau : Launch} {mt : Nat → mM} {M : mM} {pc : Nat}
theorem s_new {ci idx : Nat} {C : String} {T : u_T} {N : Nat} (h12 : ci < 12) (hr : mCl[ci]? = some (C, T, N)) (hin : ∀ w ∈ u_ws C T N, w ∈ mTb) (ty0 : Nat → FieldType) (hty : ∀ k, k < N → parseFieldDescriptor (T k).2.2.1 = some (ty0 k)) (hdef : ∀ j, j < N → defaultValue (ty0 j) = mVal (mTy (ci + 1) j) 0 0 none)
    (hw1 : Cond.classLink (mCn M) idx C ∈ mTb) (hw2 : Cond.instantiable C N ∈ mTb) (hw3 : Cond.initialized C ∈ mTb) (hd : decode (mCc M) pc = .ok (.new idx, 3)) : mSnd g lau mt M pc (o_new (pc + 3) (ci + 1) N) := by
  intro c k _ hk l st h o ho
  unfold o_new at ho
  refine mG_heap (h' := wN h (ci + 1) N) (dc := 1) (ds := N) rfl rfl (fun p e R s mth args below meth c Q hC ls H locs cells slots hl hH hL hcells hslots kk => ?_) (hk _ _ _ _ _ ho)
  obtain ⟨hx, hb, hml, hown, hts, hK, hX, hnm⟩ := hC
  have hKn := hK.1 ci _ hr
  refine W.newcK hx hb hown (hts _ hw1) (hts _ hw2) (hts _ hw3) rfl hd hcells hslots hKn.2.1 hH.1 (fun H1 kC hkC e1 z1 o1 => ?_)
  refine kk H1 locs (hH.push (by omega) z1 o1 ⟨fun r hr1 hr2 => ?_, fun h20 => ?_⟩) hL
  · rw [mTg_wN, if_pos rfl] at hr2 ⊢
    have hrr : r = (C, T, N) := Option.some.inj (hr2.symm.trans hr)
    subst hrr
    refine (u_born ty0 hts hin hKn hkC e1 hty).to (fun j hj => ?_)
    unfold mV
    rw [mTg_wN, if_pos rfl, mI_wN, if_pos rfl, mJ_wN, if_pos rfl, mP_wN, if_pos rfl]
    exact hdef j hj
  · rw [mTg_wN, if_pos rfl] at h20
    omega
theorem mNewArr {h : mH} {H H' : Heap} {t n : Nat} {dv : Value} (hH : mHR g h H) (h20 : 20 ≤ t) (h30 : t < 30) (hdv : ∀ j, mVal (mTy t j) 0 0 none = dv) (hz : H'.size = mTop h + 1) (oq : ∀ q : Nat, q < mTop h → H'[q]? = H[q]?) (hc : H'[mTop h]? = some (arrV (gA g t) n (fun _ => dv))) : mHR g (wN h t n) H' := by
  refine hH.push h30 hz oq ⟨fun r hr1 _ => ?_, fun _ => ?_⟩
  · rw [mTg_wN, if_pos rfl] at hr1
    omega
  · rw [hc, mTg_wN, if_pos rfl, mLn_wN, if_pos rfl]
    congr 2
    funext j
    unfold mV
    rw [mTg_wN, if_pos rfl, mI_wN, if_pos rfl, mJ_wN, if_pos rfl, mP_wN, if_pos rfl, hdv]
theorem s_newa {t : Nat} {atype : ArrayType} (h20 : 20 ≤ t) (h22 : t ≤ 22) (hty : (mTys (gA g))[t - 20]? = some (gA g t, newarray.typeOf atype)) (hdv : ∀ j, mVal (mTy t j) 0 0 none = defaultValue (newarray.typeOf atype)) (hcb : componentBytes (newarray.typeOf atype) ≤ 8) (hra : ∀ (U : State) (cA : ClassId), va_RA U cA (newarray.typeOf atype) → U.vm.findClass ("[" ++ (newarray.typeOf atype).toString) = some cA)
    (hw : Cond.arrayClass (newarray.typeOf atype) ∈ mTb) (hd : decode (mCc M) pc = .ok (.newarray atype, 2)) : mSnd g lau mt M pc (o_nwa (pc + 2) t) := by
  intro c k _ hk l st h o ho
  unfold o_nwa at ho
  split at ho
  · split at ho
    · next n st' hn =>
      refine mG_heap (h' := wN h t n.toNatClampNeg) (dc := 1) (ds := n.toNatClampNeg) rfl rfl (fun p e R s mth args below meth c Q hC ls H locs cells slots hl hH hL hcells hslots kk => ?_) (hk _ _ _ _ _ ho)
      obtain ⟨hx, hb, hml, hown, hts, hK, hX, hnm⟩ := hC
      refine W.newa hx hb (hts _ hw) rfl hd rfl hn.1 (Nat.le_trans (Nat.mul_le_mul hn.2 hcb) (by decide)) hcells hslots (fun cA kA comp h1 h2 h3 => ?_)
      have hcA : cA = gA g t := Option.some.inj (h1.symm.trans (hra _ _ (hK.2 _ _ hty).2))
      rw [hH.1]
      refine kk _ locs (mNewArr hH h20 (by omega) hdv (by simp [hH.1]) (fun q hq => by rw [Array.getElem?_push, if_neg (by rw [hH.1]; omega)]) ?_) hL
      rw [← hcA, ← hH.1, ← arrV_new]
      simp
    · cases ho
  · cases ho
theorem s_anew {t idx : Nat} {C : String} (h20 : 20 ≤ t) (h24 : t ≤ 24) (hty : (mTys (gA g))[t - 20]? = some (gA g t, .object C)) (hdv : ∀ j, mVal (mTy t j) 0 0 none = .null) (hw1 : Cond.classLink (mCn M) idx C ∈ mTb) (hw2 : FieldType.object C ∈ mNxA) (hd : decode (mCc M) pc = .ok (.anewarray idx, 3)) : mSnd g lau mt M pc (o_nwa (pc + 3) t) := by
  intro c k _ hk l st h o ho
  unfold o_nwa at ho
  split at ho
  · split at ho
    · next n st' hn =>
      refine mG_heap (h' := wN h t n.toNatClampNeg) (dc := 1) (ds := n.toNatClampNeg) rfl rfl (fun p e R s mth args below meth c Q hC ls H locs cells slots hl hH hL hcells hslots kk => ?_) (hk _ _ _ _ _ ho)
      obtain ⟨hx, hb, hml, hown, hts, hK, hX, hnm⟩ := hC
      refine W.anew hx hb hown (hts _ hw1) (va_AO.use (hnm.2.1 _ hw2)) rfl hd rfl hn.1 (Nat.le_trans (Nat.mul_le_mul hn.2 (Nat.le_refl 4)) (by decide)) hcells hslots (fun cA kA comp f1 f2 f3 f4 => ?_)
      have hcA : cA = gA g t := by
        obtain ⟨kA', comp', -, -, -, k4⟩ := (hK.2 _ _ hty).2
        exact Option.some.inj (f1.symm.trans k4)
      rw [hH.1]
      refine kk _ locs (mNewArr hH h20 (by omega) hdv (by simp [hH.1]) (fun q hq => by rw [Array.getElem?_push, if_neg (by rw [hH.1]; omega)]) ?_) hL
      rw [← hcA, ← hH.1, ← arrV_new]
      simp
    · cases ho
  · cases ho
theorem s_obj {idx : Nat} (hw1 : Cond.methodLink (mCn M) idx objectInit ∈ mTb) (hw2 : Cond.instanceMethod objectInit ∈ mTb) (hw3 : Cond.code objectInit ⟨#[0xb1]⟩ 1 none ∈ mTb) (hfr : 1 ≤ mFr M) (hlo : 20 ≤ mLo M) (hd : decode (mCc M) pc = .ok (.invokespecial idx, 3)) : mSnd g lau mt M pc (o_obj (pc + 3)) := by
  intro c k _ hk l st h o ho
  unfold o_obj at ho
  split at ho
  · next a st' =>
    cases hb9 : Nat.ble (mCat st') 8
    · rw [hb9] at ho
      cases ho
    · rw [hb9] at ho
      refine mG_pure (fun p e R s mth args below meth c Q hC hF hL9 ls H locs cells slots hl hH kk => ?_) (hk _ _ _ _ _ ho)
      obtain ⟨hx, hb, hml, hown, hts, hK, hX, hnm⟩ := hC
      have h8 : mCat st' ≤ 8 := Nat.le_of_ble_eq_true hb9
      refine W.objInit hx hb hown (hts _ hw1) (hts _ hw2) (hts _ hw3) rfl (by rw [hml]; exact hl.1) rfl hd (by omega) ?_ (kk ls hl)
      have := lv_room (m := mth) (pc := pc) (ls := ls) (rest := .ref a :: st') (st := st') h8
      have e8 : (st'.map fun v => v.category).sum = mCat st' := rfl
      omega
  · cases ho
/-- behind a call -/
theorem mRun {p : Program} {e : Env} {R : Room} {s : State} {mth : MethodId} {args : Array Value} {below : List Frame} {meth : Method} {c : Code} {H : Heap} {locs : List Loc} {cells slots mc ms : Nat} {Q : State → Prop} {ls : Array Slot} {st rest : List Value} {o : mO} {a : Array Value}
    (hr : va_Run p lau e R s mth args below meth c H locs cells slots mc ms (F0 mth pc ls st) rest (mQc g o a) (fun q => gB g ≤ q)) (hL : ∀ q ∈ locs, gB g ≤ q.base)
    (kk : ∀ (H' : Heap) (locs' : List Loc), mHR g o.2 H' → (∀ q ∈ locs', gB g ≤ q.base) → W p lau e R s mth args below meth c H' locs' (cells + mc) (slots + ms) Q (F0 mth (pc + 3) ls (o.1.toList ++ rest))) : W p lau e R s mth args below meth c H locs cells slots Q (F0 mth pc ls st) := by
  intro T hT X
  obtain ⟨v, st₀, t, T', L, h0, X', hL2, e1, e2, ⟨hv, hH'⟩, st9⟩ := hr T hT X
  have hv := Outcome.returned.inj hv
  subst hv
  obtain ⟨t2, a1, b1⟩ := kk T'.heap (locs ++ L) (by rw [e1]; exact hH') (fun q hq => by
    rcases List.mem_append.mp hq with h | h
    · exact hL q h
    · exact hL2 q h) T' rfl X'
  exact ⟨t2, st9 t2 a1, b1⟩
theorem mBlind {as : List Value} {h : mH} : FrameBlind (mPc g as h) := fun a U g' mk hq => ⟨hq.1, hq.2.1, va_K.moved (u := U) (U := U.calling g' mk a) (Vm.Alike.refl U.vm) hq.2.2.1, va_X.moved (u := U) (U := U.calling g' mk a) (Vm.Alike.refl U.vm) hq.2.2.2.1, mNw.same (u := U) (U := U.calling g' mk a) rfl hq.2.2.2.2⟩
theorem mPre {p : Program} {s : State} {mth : MethodId} {args : Array Value} {meth : Method} {c : Code} (hC : mCx g M p s mth args meth c) {h : mH} {H : Heap} (hH : mHR g h H) (as : List Value) : ∀ U : State, U.heap = H → s.WarmedH U.vm → mPc g as h as.toArray U := fun U hU hW => ⟨rfl, by rw [hU]; exact hH, va_K.moved hW.alike hC.2.2.2.2.2.1, va_X.moved hW.alike hC.2.2.2.2.2.2.1, mNw.warm hW hC.2.2.2.2.2.2.2.2⟩
theorem mWsGood {M' : mM} (hc : Cond.code (mNm M') (mCc M') (mNl M') (mRt M') ∈ mTb) : GoodIn mTb (mWs M') := fun w hw => by
  have hm : w ∈ mTb := by
    rcases List.mem_cons.mp hw with h | h
    · rw [h]; exact hc
    · exact h
  exact ⟨hm, good_of_word (mTb_good hm)⟩
/-- what is asked of a call of m: its words, its room -/
def mCw (M M' : mM) (n : Nat) : Prop :=
  Cond.code (mNm M') (mCc M') (mNl M') (mRt M') ∈ mTb ∧ Cond.initialized (mNm M').cls ∈ mTb ∧ ((mNm M').cls ≠ "java/lang/invoke/MethodHandle" ∧ (mNm M').cls ≠ "java/lang/invoke/VarHandle" ∧ (parseMethodDescriptor (mNm M').desc).map (fun d => d.parameters.length) = some n) ∧ (mFr M' + 1 ≤ mFr M ∧ 8 + (mNl M' + 11) + mLo M' ≤ mLo M)
theorem mCwB {M' : mM} {n idx : Nat} (hw : mCw M M' n) (hlk : Cond.methodLink (mCn M) idx (mNm M') ∈ mTb) {p : Program} {s : State} {mth : MethodId} {args : Array Value} {meth : Method} {c : Code} (hC : mCx g M p s mth args meth c) {R : Room} (hf : mFr M ≤ R.frames) (hlo : mLo M ≤ R.locals) (mc ms : Nat) :
    CallB R s args (mCn M) idx (mNm M') (mCc M') (mNl M') (mRt M') (mWs M') (mRm M' mc ms) mc ms n :=
  callB_of n hC.2.2.2.2.1 (mWsGood hw.1) rfl rfl rfl (hC.2.2.2.2.1 _ hw.2.1) (hC.2.2.2.2.1 _ hlk) hw.2.2.1 ⟨Nat.le_trans hw.2.2.2.1 hf, Nat.le_trans hw.2.2.2.2 hlo⟩
/-- the heap behind a call, and the rest of the run -/
theorem mG_run {h : mH} {o1 o : mO} {pc' : Nat} {l : mL} {st st' : List Value} (hm : mTop h ≤ mTop o1.2 ∧ mSl h ≤ mSl o1.2)
    (hs : ∀ (p : Program) (e : Env) (R : Room) (s : State) (mth : MethodId) (args : Array Value) (below : List Frame) (meth : Method) (c : Code) (Q : State → Prop), mCx g M p s mth args meth c → mFr M ≤ R.frames → mLo M ≤ R.locals →
      ∀ (ls : Array Slot) (H : Heap) (locs : List Loc) (cells slots : Nat), mLV ls (mNl M) l → mHR g h H → (∀ q ∈ locs, gB g ≤ q.base) → cells + (mTop o1.2 - mTop h) ≤ R.cells → slots + (mSl o1.2 - mSl h) ≤ R.slots →
        (∀ (H' : Heap) (locs' : List Loc), mHR g o1.2 H' → (∀ q ∈ locs', gB g ≤ q.base) → W p lau e R s mth args below meth c H' locs' (cells + (mTop o1.2 - mTop h)) (slots + (mSl o1.2 - mSl h)) Q (F0 mth pc' ls st')) → W p lau e R s mth args below meth c H locs cells slots Q (F0 mth pc ls st))
    (hg : mGood g lau M pc' l st' o1.2 o) : mGood g lau M pc l st h o := by
  obtain ⟨g1, g2, g3⟩ := hg
  obtain ⟨m1, m2⟩ := hm
  refine ⟨by omega, by omega, fun p e R s mth args below meth c Q hC hf hlo hR ls H locs cells slots hl hH hL hc hsl => ?_⟩
  exact hs p e R s mth args below meth c Q hC hf hlo ls H locs cells slots hl hH hL (by omega) (by omega) (fun H' locs' hH' hL' => g3 p e R s mth args below meth c Q hC hf hlo hR ls H' locs' _ _ hl hH' hL' (by omega) (by omega))
theorem s_cS {m' n idx : Nat} (hw : mCw M (mt m') n) (hlk : Cond.methodLink (mCn M) idx (mNm (mt m')) ∈ mTb) (hst : Cond.static (mNm (mt m')) ∈ mTb) (hd : decode (mCc M) pc = .ok (.invokestatic idx, 3)) : mSnd g lau mt M pc (o_cS (pc + 3) m' n) := by
  intro cl k hcl hk l st h o ho
  unfold o_cS at ho
  cases hb9 : (Nat.ble (mCat (st.drop n)) 8 && Nat.ble n st.length)
  · rw [hb9] at ho
    cases ho
  · rw [hb9] at ho
    rw [Bool.and_eq_true] at hb9
    have h8 : mCat (st.drop n) ≤ 8 := Nat.le_of_ble_eq_true hb9.1
    have hn : n ≤ st.length := Nat.le_of_ble_eq_true hb9.2
    rw [cond_true] at ho
    split at ho
    · next r h1 hr =>
      have hcall := hcl _ _ _ _ hr
      refine mG_run (o1 := (r, h1)) ⟨hcall.1, hcall.2.1⟩ (fun p e R s mth args below meth c Q hC hf hlo ls H locs cells slots hl hH hL hcs hss kk => ?_) (hk _ _ _ _ _ ho)
      obtain ⟨hx, hb, hml, hown, hts, hK, hX, hnm⟩ := id hC
      refine mRun (rest := st.drop n) (a := ((st.take n).reverse).toArray) (va_runS (As := (st.take n).reverse) (Ts := mTb) ⟨hx, hb, hml, hown, hts⟩ hcall.2.2 ⟨mCwB hw hlk hC hf hlo _ _, hts _ hst⟩ ⟨mBlind, mPre hC hH _⟩ rfl (by rw [List.length_reverse, List.length_take]; omega) hl.1 (by rw [List.reverse_reverse]; exact (List.take_append_drop n st).symm) (lv_room h8) hd ⟨hcs, hss⟩) hL kk
    · cases ho
theorem s_cV {m' n t ci idx : Nat} {r0 : vw_C} (hw : mCw M (mt m') n) (hlk : Cond.methodLink (mCn M) idx (mNm (mt m')) ∈ mTb) (hti : t = ci + 1) (h12 : ci < 12) (hr0 : mCl[ci]? = some r0) (hin : Cond.instanceMethod (mNm (mt m')) ∈ mTb) (hse : Cond.selects r0.1 (mNm (mt m')) (mNm (mt m')) ∈ mTb) (hd : decode (mCc M) pc = .ok (.invokevirtual idx, 3)) : mSnd g lau mt M pc (o_cV (pc + 3) m' n t) := by
  intro cl k hcl hk l st h o ho
  subst hti
  unfold o_cV at ho
  split at ho
  · next a rest hdr =>
    cases hb9 : (Nat.ble (mCat rest) 8 && Nat.ble n st.length)
    · rw [hb9] at ho
      cases ho
    · rw [hb9] at ho
      rw [Bool.and_eq_true] at hb9
      have h8 : mCat rest ≤ 8 := Nat.le_of_ble_eq_true hb9.1
      have hn : n ≤ st.length := Nat.le_of_ble_eq_true hb9.2
      rw [cond_true] at ho
      split at ho
      · next htg =>
        split at ho
        · next r h1 hr =>
          have hcall := hcl _ _ _ _ hr
          refine mG_run (o1 := (r, h1)) ⟨hcall.1, hcall.2.1⟩ (fun p e R s mth args below meth c Q hC hf hlo ls H locs cells slots hl hH hL hcs hss kk => ?_) (hk _ _ _ _ _ ho)
          obtain ⟨hx, hb, hml, hown, hts, hK, hX, hnm⟩ := id hC
          obtain ⟨cellB, q1, q2, q3, -⟩ := hH.obj htg h12 hr0
          refine mRun (rest := rest) (a := (Value.ref a :: (st.take n).reverse).toArray) (va_runV (As := (st.take n).reverse) (Ts := mTb) (C := r0.1) ⟨hx, hb, hml, hown, hts⟩ hcall.2.2 ⟨mCwB hw hlk hC hf hlo _ _, hts _ hin, hts _ hse⟩ ⟨mBlind, ⟨cellB, q1, by rw [q3]; rfl, by rw [q2]; exact (hK.1 ci r0 hr0).2.1⟩, mPre hC hH _⟩ rfl (by rw [List.length_reverse, List.length_take]; omega) hl.1 (by rw [List.reverse_reverse, ← hdr]; exact (List.take_append_drop n st).symm) (lv_room h8) hd ⟨hcs, hss⟩) hL kk
        · cases ho
      · cases ho
  · cases ho
theorem s_cI {m' n idx : Nat} (hw : mCw M (mt m') n) (hrt : mRt (mt m') = none) (hlk : Cond.methodLink (mCn M) idx (mNm (mt m')) ∈ mTb) (hy : (mNm (mt m')).name = "<init>") (hin : Cond.instanceMethod (mNm (mt m')) ∈ mTb) (hd : decode (mCc M) pc = .ok (.invokespecial idx, 3)) : mSnd g lau mt M pc (o_cI (pc + 3) m' n) := by
  intro cl k hcl hk l st h o ho
  unfold o_cI at ho
  split at ho
  · next a rest hdr =>
    cases hb9 : (Nat.ble (mCat rest) 8 && Nat.ble n st.length)
    · rw [hb9] at ho
      cases ho
    · rw [hb9] at ho
      rw [Bool.and_eq_true] at hb9
      have h8 : mCat rest ≤ 8 := Nat.le_of_ble_eq_true hb9.1
      have hn : n ≤ st.length := Nat.le_of_ble_eq_true hb9.2
      rw [cond_true] at ho
      split at ho
      · next r h1 hr =>
        have hcall := hcl _ _ _ _ hr
        refine mG_run (o1 := (r, h1)) ⟨hcall.1, hcall.2.1⟩ (fun p e R s mth args below meth c Q hC hf hlo ls H locs cells slots hl hH hL hcs hss kk => ?_) (hk _ _ _ _ _ ho)
        obtain ⟨hx, hb, hml, hown, hts, hK, hX, hnm⟩ := id hC
        have hcb := mCwB hw hlk hC hf hlo (mTop h1 - mTop h) (mSl h1 - mSl h)
        rw [hrt] at hcb
        refine mRun (rest := rest) (a := (Value.ref a :: (st.take n).reverse).toArray) (va_runI (As := (st.take n).reverse) (Ts := mTb) ⟨hx, hb, hml, hown, hts⟩ hcall.2.2 ⟨hcb, hy, hts _ hin⟩ ⟨mBlind, mPre hC hH _⟩ rfl (by rw [List.length_reverse, List.length_take]; omega) hl.1 (by rw [List.reverse_reverse, ← hdr]; exact (List.take_append_drop n st).symm) (lv_room h8) hd ⟨hcs, hss⟩) hL kk
      · cases ho
  · cases ho
theorem s_cN {m' n idx : Nat} {host : String} (hw : mCw M (mt m') n) (hrt : mRt (mt m') = none) (hlk : (mCn M, idx, mNm (mt m'), host) ∈ mNxM) (hy : (mNm (mt m')).name = "<init>") (hin : Cond.instanceMethod (mNm (mt m')) ∈ mTb) (hd : decode (mCc M) pc = .ok (.invokespecial idx, 3)) : mSnd g lau mt M pc (o_cI (pc + 3) m' n) := by
  intro cl k hcl hk l st h o ho
  unfold o_cI at ho
  split at ho
  · next a rest hdr =>
    cases hb9 : (Nat.ble (mCat rest) 8 && Nat.ble n st.length)
    · rw [hb9] at ho
      cases ho
    · rw [hb9] at ho
      rw [Bool.and_eq_true] at hb9
      have h8 : mCat rest ≤ 8 := Nat.le_of_ble_eq_true hb9.1
      have hn : n ≤ st.length := Nat.le_of_ble_eq_true hb9.2
      rw [cond_true] at ho
      split at ho
      · next r h1 hr =>
        have hcall := hcl _ _ _ _ hr
        refine mG_run (o1 := (r, h1)) ⟨hcall.1, hcall.2.1⟩ (fun p e R s mth args below meth c Q hC hf hlo ls H locs cells slots hl hH hL hcs hss kk => ?_) (hk _ _ _ _ _ ho)
        obtain ⟨hx, hb, hml, hown, hts, hK, hX, hnm⟩ := id hC
        have hG := mWsGood hw.1
        have hcb : va_CN R s args (mCn M) idx (mNm (mt m')) host (mCc (mt m')) (mNl (mt m')) none (mWs (mt m')) (mRm (mt m') (mTop h1 - mTop h) (mSl h1 - mSl h)) (mTop h1 - mTop h) (mSl h1 - mSl h) n := by
          have h9 := va_cnB (R := R) (own := mCn M) (host := host) (index := idx) (rm := mRm (mt m') (mTop h1 - mTop h) (mSl h1 - mSl h)) (mc := mTop h1 - mTop h) (ms := mSl h1 - mSl h) n hts hG rfl rfl rfl (hnm.2.2 _ hlk) (hts _ hw.2.1) hw.2.2.1 ⟨Nat.le_trans hw.2.2.2.1 hf, Nat.le_trans hw.2.2.2.2 hlo⟩
          rw [hrt] at h9
          exact h9
        refine mRun (rest := rest) (a := (Value.ref a :: (st.take n).reverse).toArray) (va_runIN (As := (st.take n).reverse) (Ts := mTb) ⟨hx, hb, hml, hown, hts⟩ hcall.2.2 ⟨hcb, hy, hts _ hin⟩ ⟨mBlind, mPre hC hH _⟩ rfl (by rw [List.length_reverse, List.length_take]; omega) hl.1 (by rw [List.reverse_reverse, ← hdr]; exact (List.take_append_drop n st).symm) (lv_room h8) hd ⟨hcs, hss⟩) hL kk
      · cases ho
  · cases ho
-- ends
theorem mG_end {l : mL} {h : mH} {r : Option Value} {st : List Value} (hst : st = r.toList) (hd : mDr M pc r) : mGood g lau M pc l st h (r, h) := by
  subst hst
  refine ⟨Nat.le_refl _, Nat.le_refl _, fun p e R s mth args below meth c Q hC hf hlo hR ls H locs cells slots hl hH hL hc hsl => ?_⟩
  exact hR pc ls H locs cells slots hd hH hL (by omega) (by omega)
theorem s_ri (hd : decode (mCc M) pc = .ok (.ireturn, 1)) (hr : mRt M = some .int) : mSnd g lau mt M pc o_ri := by
  intro c k _ hk l st h o ho
  unfold o_ri at ho
  split at ho
  · cases ho
    exact mG_end rfl ⟨hd, Or.inl hr⟩
  · cases ho
theorem s_rz (hd : decode (mCc M) pc = .ok (.ireturn, 1)) (hr : mRt M = some .boolean) : mSnd g lau mt M pc o_rz := by
  intro c k _ hk l st h o ho
  unfold o_rz at ho
  split at ho
  · split at ho
    · next hx =>
      cases ho
      exact mG_end rfl ⟨hd, Or.inr ⟨hr, hx⟩⟩
    · cases ho
  · cases ho
theorem s_rl (hd : decode (mCc M) pc = .ok (.lreturn, 1)) (hr : mRt M = some .long) : mSnd g lau mt M pc o_rl := by
  intro c k _ hk l st h o ho
  unfold o_rl at ho
  split at ho
  · cases ho
    exact mG_end rfl ⟨hd, hr⟩
  · cases ho
theorem s_rv (hd : decode (mCc M) pc = .ok (.return_, 1)) (hr : mRt M = none) : mSnd g lau mt M pc o_rv := by
  intro c k _ hk l st h o ho
  unfold o_rv at ho
  split at ho
  · cases ho
    exact mG_end rfl ⟨hd, hr⟩
  · cases ho
end MCalls
end
section
/-! ===== new int[n][k] ===== -/
theorem mTop_wM {h : mH} {n k : Nat} : mTop (wM h n k) = mTop h + (1 + n) := rfl
theorem mSl_wM {h : mH} {n k : Nat} : mSl (wM h n k) = mSl h + (n + n * k) := rfl
theorem mTg_wM {h : mH} {n k a : Nat} : mTg (wM h n k) a = if a = mTop h then 25 else if mTop h < a ∧ a < mTop h + (1 + n) then 20 else mTg h a := rfl
theorem mLn_wM {h : mH} {n k a : Nat} : mLn (wM h n k) a = if a = mTop h then n else if mTop h < a ∧ a < mTop h + (1 + n) then k else mLn h a := rfl
theorem mI_wM {h : mH} {n k a : Nat} : mI (wM h n k) a = if mTop h ≤ a ∧ a < mTop h + (1 + n) then (fun _ => 0) else mI h a := rfl
theorem mJ_wM {h : mH} {n k a : Nat} : mJ (wM h n k) a = if mTop h ≤ a ∧ a < mTop h + (1 + n) then (fun _ => 0) else mJ h a := rfl
theorem mP_wM {h : mH} {n k a : Nat} : mP (wM h n k) a = if a = mTop h then (fun j => if j < n then some (mTop h + 1 + j) else none) else if mTop h < a ∧ a < mTop h + (1 + n) then (fun _ => none) else mP h a := rfl
theorem mOuter (c : ClassId) (N h0 : Nat) : ∀ i : Nat, Jvm.Free.Multi.outerC c N h0 i = arrV c N (fun j => va_rf (if j < i then some (h0 + 1 + j) else none))
  | 0 => by
    show ({ cls := c, slots := Array.replicate N .null, vm := .none } : Cell) = _
    rw [arrV_new]
    refine congrArg (arrV c N) (funext fun j => ?_)
    simp [va_rf]
  | i + 1 => by
    show (Jvm.Free.Multi.outerC c N h0 i).setSlot i (.ref (h0 + 1 + i)) = _
    rw [mOuter c N h0 i, arrV_store]
    refine congrArg (arrV c N) (funext fun j => ?_)
    unfold updV
    by_cases e : j = i
    · subst e
      rw [if_pos rfl, if_pos (Nat.lt_succ_self j)]
      rfl
    · rw [if_neg e]
      show va_rf (if j < i then some (h0 + 1 + j) else none) = va_rf (if j < i + 1 then some (h0 + 1 + j) else none)
      by_cases h : j < i
      · rw [if_pos h, if_pos (by omega)]
      · rw [if_neg h, if_neg (by omega)]
theorem mHR.multi {g : mG} {h : mH} {H H' : Heap} {n k : Nat} (R : mHR g h H) (hz : H'.size = mTop h + (1 + n)) (oq : ∀ q : Nat, q < mTop h → H'[q]? = H[q]?) (ho : H'[mTop h]? = some (arrV (gA g 25) n (fun j => va_rf (if j < n then some (mTop h + 1 + j) else none)))) (hi : ∀ j, j < n → H'[mTop h + 1 + j]? = some (arrV (gA g 20) k (fun _ => .int 0))) : mHR g (wM h n k) H' := by
  obtain ⟨r1, r2, r3, r4, r5⟩ := id R
  refine ⟨hz, by rw [mTop_wM]; omega, r3, fun q hq => ?_, fun b hb0 => ?_⟩
  · rw [oq q (by omega)]
    exact r4 q hq
  · by_cases hb : b = mTop h
    · subst hb
      refine Or.inr ⟨by rw [mTg_wM, if_pos rfl]; omega, r2, by rw [mTop_wM]; omega, ⟨fun r hr1 _ => ?_, fun _ => ?_⟩⟩
      · rw [mTg_wM, if_pos rfl] at hr1
        omega
      · rw [ho, mTg_wM, if_pos rfl, mLn_wM, if_pos rfl]
        refine congrArg some (congrArg (arrV (gA g 25) n) (funext fun j => ?_))
        unfold mV
        rw [mTg_wM, if_pos rfl, mP_wM, if_pos rfl]
        rfl
    · by_cases hb2 : mTop h < b ∧ b < mTop h + (1 + n)
      · refine Or.inr ⟨by rw [mTg_wM, if_neg hb, if_pos hb2]; omega, by omega, by rw [mTop_wM]; omega, ⟨fun r hr1 _ => ?_, fun _ => ?_⟩⟩
        · rw [mTg_wM, if_neg hb, if_pos hb2] at hr1
          omega
        · have e := hi (b - (mTop h + 1)) (by omega)
          rw [show mTop h + 1 + (b - (mTop h + 1)) = b by omega] at e
          rw [e, mTg_wM, if_neg hb, if_pos hb2, mLn_wM, if_neg hb, if_pos hb2]
          refine congrArg some (congrArg (arrV (gA g 20) k) (funext fun j => ?_))
          unfold mV
          rw [mTg_wM, if_neg hb, if_pos hb2, mI_wM, if_pos (by omega)]
          rfl
      · have hb3 : ¬ (mTop h ≤ b ∧ b < mTop h + (1 + n)) := fun q => hb2 ⟨by omega, q.2⟩
        have q1 : mTg (wM h n k) b = mTg h b := by rw [mTg_wM, if_neg hb, if_neg hb2]
        have q2 : mLn (wM h n k) b = mLn h b := by rw [mLn_wM, if_neg hb, if_neg hb2]
        have q3 : mI (wM h n k) b = mI h b := by rw [mI_wM, if_neg hb3]
        have q4 : mJ (wM h n k) b = mJ h b := by rw [mJ_wM, if_neg hb3]
        have q5 : mP (wM h n k) b = mP h b := by rw [mP_wM, if_neg hb, if_neg hb2]
        have q6 : mV (wM h n k) b = mV h b := funext fun j => by unfold mV; rw [q1, q3, q4, q5]
        rw [q1] at hb0
        rcases r5 b hb0 with ⟨x1, x2, x3, x4⟩ | ⟨x1, x2, x3, x4⟩
        · exact Or.inl ⟨x1, by rw [q1]; exact x2, by rw [q2]; exact x3, by rw [q3]; exact x4⟩
        · refine Or.inr ⟨by rw [q1]; exact x1, x2, by rw [mTop_wM]; omega, ⟨fun r hr1 hr2 => ?_, fun h20 => ?_⟩⟩
          · rw [q1] at hr1 hr2 ⊢
            rw [q6]
            exact (x4.1 r hr1 hr2).kept (oq b x3)
          · rw [q1] at h20 ⊢
            rw [q2, q6, oq b x3]
            exact x4.2 h20
theorem s_mna {g : mG} {lau : Launch} {mt : Nat → mM} {M : mM} {pc idx : Nat} (hw1 : Cond.classLink (mCn M) idx ("[" ++ (FieldType.array .int).toString) ∈ mTb) (hw2 : FieldType.array .int ∈ mNxA) (hw3 : Cond.arrayClass .int ∈ mTb) (hd : decode (mCc M) pc = .ok (.multianewarray idx 2, 4)) : mSnd g lau mt M pc (o_mna (pc + 4)) := by
  intro cl k _ hk l st h o ho
  unfold o_mna at ho
  split at ho
  · split at ho
    · next m n st' hn =>
      refine mG_heap (h' := wM h n.toNatClampNeg m.toNatClampNeg) (dc := 1 + n.toNatClampNeg) (ds := n.toNatClampNeg + n.toNatClampNeg * m.toNatClampNeg) rfl rfl (fun p e R s mth args below meth c Q hC ls H locs cells slots hl hH hL hcells hslots kk => ?_) (hk _ _ _ _ _ ho)
      obtain ⟨hx, hb, hml, hown, hts, hK, hX, hnm⟩ := hC
      intro T hT X
      obtain ⟨vm₁, cA, comp, -, fA, fC, -, -, X', step⟩ := X.multianewarray2F hx hown (hts _ hw1) (hnm.2.1 _ hw2) (hts _ hw3) (g := F0 mth pc ls (.int m :: .int n :: st')) rfl (by rw [hb]; exact hd) rfl hn.1.1 hn.2.1 (Nat.le_trans (Nat.mul_le_mul hn.1.2 (Nat.le_refl 4)) (by decide)) (Nat.le_trans (Nat.mul_le_mul hn.2.2 (Nat.le_refl _)) (by decide)) (Nat.le_trans hn.2.2 (by decide)) rfl rfl hcells hslots
      have eA : cA = gA g 25 := Option.some.inj (fA.symm.trans (hK.2 5 _ rfl).2)
      have eC : comp = gA g 20 := Option.some.inj (fC.symm.trans (hK.2 0 _ rfl).2)
      subst eA
      subst eC
      generalize hF : Jvm.Free.Multi.fill (T.setVm vm₁) (gA g 25) (gA g 20) n.toNatClampNeg m.toNatClampNeg (defaultValue .int) n.toNatClampNeg = F at X' step
      have hTh : (T.setVm vm₁).heap = H := hT
      obtain ⟨f1, f2, -, -⟩ := Jvm.Free.Multi.fill_facts (T.setVm vm₁) (gA g 25) (gA g 20) n.toNatClampNeg m.toNatClampNeg (defaultValue .int) n.toNatClampNeg
      rw [hF, hTh, hH.1] at f1 f2
      have hrow : ∀ j : Nat, j < n.toNatClampNeg → F.heap[mTop h + 1 + j]? = some (arrV (gA g 20) m.toNatClampNeg (fun _ => .int 0)) := fun j hj => by
        have := Jvm.Free.Multi.fill_inner (T.setVm vm₁) (gA g 25) (gA g 20) n.toNatClampNeg m.toNatClampNeg (defaultValue .int) n.toNatClampNeg j hj
        rw [hF, hTh, hH.1] at this
        rw [this, ← arrV_new]
        rfl
      have hold : ∀ x : Nat, x < mTop h → F.heap[x]? = H[x]? := fun x hx => by
        have := Jvm.Free.Multi.fill_old (T.setVm vm₁) (gA g 25) (gA g 20) n.toNatClampNeg m.toNatClampNeg (defaultValue .int) (a := x) (by rw [hTh, hH.1]; exact hx) n.toNatClampNeg
        rw [hF, hTh] at this
        exact this
      rw [mOuter] at f2
      have hH' : mHR g (wM h n.toNatClampNeg m.toNatClampNeg) F.heap := hH.multi (by rw [f1]; omega) hold f2 hrow
      rw [show cells + 1 + n.toNatClampNeg = cells + (1 + n.toNatClampNeg) by omega, show slots + n.toNatClampNeg + n.toNatClampNeg * m.toNatClampNeg = slots + (n.toNatClampNeg + n.toNatClampNeg * m.toNatClampNeg) by omega] at X'
      obtain ⟨t, a1, b1⟩ := kk F.heap locs hH' hL F rfl X'
      refine ⟨t, step t ?_, b1⟩
      have e : T.heap.size = mTop h := by rw [hT]; exact hH.1
      rw [e]
      exact a1
    · cases ho
  · cases ho
end
section
/-! ===== Math.max, Math.min ===== -/
def o_max (nx : Nat) : mOp := fun _ k l st h => match st with
  | .int y :: .int x :: st => bif Nat.ble (mCat st) 8 then k nx l (.int (if x < y then y else x) :: st) h else none
  | _ => none
def o_min (nx : Nat) : mOp := fun _ k l st h => match st with
  | .int y :: .int x :: st => bif Nat.ble (mCat st) 8 then k nx l (.int (if y < x then y else x) :: st) h else none
  | _ => none
theorem s_max {g : mG} {lau : Launch} {mt : Nat → mM} {M : mM} {pc idx : Nat} (hlk : Cond.methodLink (mCn M) idx Lib.Math.max.name ∈ mTb) (hst : Cond.static Lib.Math.max.name ∈ mTb) (hin : Cond.initialized "java/lang/Math" ∈ mTb) (hcd : Cond.code Lib.Math.max.name Lib.Math.max.code 2 (some .int) ∈ mTb) (hfr : 1 ≤ mFr M) (hlo : 21 ≤ mLo M) (hd : decode (mCc M) pc = .ok (.invokestatic idx, 3)) : mSnd g lau mt M pc (o_max (pc + 3)) := by
  intro cl k _ hk l st h o ho
  unfold o_max at ho
  split at ho
  · next y x st' =>
    cases hb9 : Nat.ble (mCat st') 8
    · rw [hb9] at ho
      cases ho
    · rw [hb9] at ho
      have h8 : (st'.map fun v => v.category).sum ≤ 8 := Nat.le_of_ble_eq_true hb9
      refine mG_run (o1 := (none, h)) ⟨Nat.le_refl _, Nat.le_refl _⟩ (fun p e R s mth args below meth c Q hC hf hL9 ls H locs cells slots hl hH hL hcs hss kk => ?_) (hk _ _ _ _ _ ho)
      have kk := kk H locs hH hL
      simp only [Nat.sub_self, Nat.add_zero] at kk hcs hss
      obtain ⟨hx, hb, hml, hown, hts, hK, hX, hnm⟩ := hC
      exact va_mmax hx hb (hml.trans hl.1.symm) hown (hts _ hlk) (hts _ hst) (hts _ hin) (hts _ hcd) (by omega) (by omega) hcs hss hd kk
  · cases ho
theorem s_min {g : mG} {lau : Launch} {mt : Nat → mM} {M : mM} {pc idx : Nat} (hlk : Cond.methodLink (mCn M) idx Lib.Math.min.name ∈ mTb) (hst : Cond.static Lib.Math.min.name ∈ mTb) (hin : Cond.initialized "java/lang/Math" ∈ mTb) (hcd : Cond.code Lib.Math.min.name Lib.Math.min.code 2 (some .int) ∈ mTb) (hfr : 1 ≤ mFr M) (hlo : 21 ≤ mLo M) (hd : decode (mCc M) pc = .ok (.invokestatic idx, 3)) : mSnd g lau mt M pc (o_min (pc + 3)) := by
  intro cl k _ hk l st h o ho
  unfold o_min at ho
  split at ho
  · next y x st' =>
    cases hb9 : Nat.ble (mCat st') 8
    · rw [hb9] at ho
      cases ho
    · rw [hb9] at ho
      have h8 : (st'.map fun v => v.category).sum ≤ 8 := Nat.le_of_ble_eq_true hb9
      refine mG_run (o1 := (none, h)) ⟨Nat.le_refl _, Nat.le_refl _⟩ (fun p e R s mth args below meth c Q hC hf hL9 ls H locs cells slots hl hH hL hcs hss kk => ?_) (hk _ _ _ _ _ ho)
      have kk := kk H locs hH hL
      simp only [Nat.sub_self, Nat.add_zero] at kk hcs hss
      obtain ⟨hx, hb, hml, hown, hts, hK, hX, hnm⟩ := hC
      exact va_mmin hx hb (hml.trans hl.1.symm) hown (hts _ hlk) (hts _ hst) (hts _ hin) (hts _ hcd) (by omega) (by omega) hcs hss hd kk
  · cases ho
end
section
/-! ===== each word of the tables that is used, by its place ===== -/
theorem mIn1 {w : Cond} (h : w ∈ tables_1_1) (hg : goodWord w = true) : w ∈ mTb := mTb_of (List.mem_append_right _ (List.mem_append_left _ h)) hg
theorem mIn2 {w : Cond} (h : w ∈ tables_1_2) (hg : goodWord w = true) : w ∈ mTb := mTb_of (List.mem_append_right _ (List.mem_append_right _ (List.mem_append_left _ h))) hg
theorem mIn3 {w : Cond} (h : w ∈ tables_1_3) (hg : goodWord w = true) : w ∈ mTb := mTb_of (List.mem_append_right _ (List.mem_append_right _ (List.mem_append_right _ (List.mem_append_left _ h)))) hg
theorem mIn4 {w : Cond} (h : w ∈ tables_1_4) (hg : goodWord w = true) : w ∈ mTb := mTb_of (List.mem_append_right _ (List.mem_append_right _ (List.mem_append_right _ (List.mem_append_right _ (List.mem_append_left _ h))))) hg
theorem mIn5 {w : Cond} (h : w ∈ tables_1_5) (hg : goodWord w = true) : w ∈ mTb := mTb_of (List.mem_append_right _ (List.mem_append_right _ (List.mem_append_right _ (List.mem_append_right _ (List.mem_append_right _ (h)))))) hg
theorem mIp1 {q : MethodName × Nat} (h : q ∈ lw_privs_1) : Cond.selects q.1.cls q.1 q.1 ∈ mTb := mTb_of (List.mem_append_left _ (List.mem_map.mpr ⟨q, List.mem_append_left _ h, rfl⟩)) rfl
theorem mIp2 {q : MethodName × Nat} (h : q ∈ lw_privs_2) : Cond.selects q.1.cls q.1 q.1 ∈ mTb := mTb_of (List.mem_append_left _ (List.mem_map.mpr ⟨q, List.mem_append_right _ (List.mem_append_left _ h), rfl⟩)) rfl
theorem mIp3 {q : MethodName × Nat} (h : q ∈ lw_privs_3) : Cond.selects q.1.cls q.1 q.1 ∈ mTb := mTb_of (List.mem_append_left _ (List.mem_map.mpr ⟨q, List.mem_append_right _ (List.mem_append_right _ (List.mem_append_left _ h)), rfl⟩)) rfl
theorem mIp4 {q : MethodName × Nat} (h : q ∈ lw_privs_4) : Cond.selects q.1.cls q.1 q.1 ∈ mTb := mTb_of (List.mem_append_left _ (List.mem_map.mpr ⟨q, List.mem_append_right _ (List.mem_append_right _ (List.mem_append_right _ (List.mem_append_left _ h))), rfl⟩)) rfl
theorem mIp5 {q : MethodName × Nat} (h : q ∈ lw_privs_5) : Cond.selects q.1.cls q.1 q.1 ∈ mTb := mTb_of (List.mem_append_left _ (List.mem_map.mpr ⟨q, List.mem_append_right _ (List.mem_append_right _ (List.mem_append_right _ (List.mem_append_right _ (h)))), rfl⟩)) rfl
theorem tb_0 : (Jvm.Cond.initialized "RoundVotesLaw") ∈ mTb := mIn1 (List.mem_of_getElem? (i := 0) rfl) rfl
theorem tb_1 : (Jvm.Cond.initialized "RoundVotes") ∈ mTb := mIn1 (List.mem_of_getElem? (i := 1) rfl) rfl
theorem tb_2 : (Jvm.Cond.initialized "RoundVotes$Mail") ∈ mTb := mIn1 (List.mem_of_getElem? (i := 2) rfl) rfl
theorem tb_3 : (Jvm.Cond.initialized "RoundVotes$Told") ∈ mTb := mIn1 (List.mem_of_getElem? (i := 3) rfl) rfl
theorem tb_4 : (Jvm.Cond.initialized "RoundVotes$Faults") ∈ mTb := mIn1 (List.mem_of_getElem? (i := 4) rfl) rfl
theorem tb_5 : (Jvm.Cond.initialized "RoundVotes$Setup") ∈ mTb := mIn1 (List.mem_of_getElem? (i := 5) rfl) rfl
theorem tb_6 : (Jvm.Cond.initialized "java/lang/Math") ∈ mTb := mIn1 (List.mem_of_getElem? (i := 6) rfl) rfl
theorem tb_7 : (Jvm.Cond.initialized "java/util/Arrays") ∈ mTb := mIn1 (List.mem_of_getElem? (i := 7) rfl) rfl
theorem tb_8 : (Jvm.Cond.initialized "RoundVotes$Node") ∈ mTb := mIn1 (List.mem_of_getElem? (i := 8) rfl) rfl
theorem tb_9 : (Jvm.Cond.initialized "RoundVotes$Choice") ∈ mTb := mIn1 (List.mem_of_getElem? (i := 9) rfl) rfl
theorem tb_10 : (Jvm.Cond.initialized "RoundVotes$Decisions") ∈ mTb := mIn1 (List.mem_of_getElem? (i := 10) rfl) rfl
theorem tb_11 : (Jvm.Cond.initialized "RoundVotes$Ballots") ∈ mTb := mIn1 (List.mem_of_getElem? (i := 11) rfl) rfl
theorem tb_12 : (Jvm.Cond.initialized "RoundVotes$Sendings") ∈ mTb := mIn1 (List.mem_of_getElem? (i := 12) rfl) rfl
theorem tb_13 : (Jvm.Cond.initialized "RoundVotes$Message") ∈ mTb := mIn1 (List.mem_of_getElem? (i := 13) rfl) rfl
theorem tb_14 : (Jvm.Cond.initialized "RoundVotesModel") ∈ mTb := mIn1 (List.mem_of_getElem? (i := 14) rfl) rfl
theorem tb_15 : (Jvm.Cond.classLink "RoundVotesLaw" (7 : Nat) "RoundVotes") ∈ mTb := mIn1 (List.mem_of_getElem? (i := 15) rfl) rfl
theorem tb_16 : (Jvm.Cond.instantiable "RoundVotes" (12 : Nat)) ∈ mTb := mIn1 (List.mem_of_getElem? (i := 16) rfl) rfl
theorem tb_17 : (Jvm.Cond.methodLink "RoundVotesLaw" (15 : Nat) ({ cls := "RoundVotes", name := "<init>", desc := "(II)V" } : Jvm.MethodName)) ∈ mTb := mIn1 (List.mem_of_getElem? (i := 17) rfl) rfl
theorem tb_18 : (Jvm.Cond.instanceMethod ({ cls := "RoundVotes", name := "<init>", desc := "(II)V" } : Jvm.MethodName)) ∈ mTb := mIn1 (List.mem_of_getElem? (i := 18) rfl) rfl
theorem tb_19 : (Jvm.Cond.code ({ cls := "RoundVotes", name := "<init>", desc := "(II)V" } : Jvm.MethodName) prog_1_method_1_code (4 : Nat) (Option.none : Option Jvm.ClassFile.FieldType)) ∈ mTb := mIn1 (List.mem_of_getElem? (i := 19) rfl) rfl
theorem tb_20 : (Jvm.Cond.methodLink "RoundVotes" (1 : Nat) ({ cls := "java/lang/Object", name := "<init>", desc := "()V" } : Jvm.MethodName)) ∈ mTb := mIn1 (List.mem_of_getElem? (i := 20) rfl) rfl
theorem tb_21 : (Jvm.Cond.instanceMethod ({ cls := "java/lang/Object", name := "<init>", desc := "()V" } : Jvm.MethodName)) ∈ mTb := mIn1 (List.mem_of_getElem? (i := 21) rfl) rfl
theorem tb_22 : (Jvm.Cond.code ({ cls := "java/lang/Object", name := "<init>", desc := "()V" } : Jvm.MethodName) object_method_1_code (1 : Nat) (Option.none : Option Jvm.ClassFile.FieldType)) ∈ mTb := mIn1 (List.mem_of_getElem? (i := 22) rfl) rfl
theorem tb_23 : (Jvm.Cond.classLink "RoundVotes" (7 : Nat) "RoundVotes$Mail") ∈ mTb := mIn1 (List.mem_of_getElem? (i := 23) rfl) rfl
theorem tb_24 : (Jvm.Cond.instantiable "RoundVotes$Mail" (3 : Nat)) ∈ mTb := mIn1 (List.mem_of_getElem? (i := 24) rfl) rfl
theorem tb_26 : (Jvm.Cond.instanceMethod ({ cls := "RoundVotes$Mail", name := "<init>", desc := "()V" } : Jvm.MethodName)) ∈ mTb := mIn1 (List.mem_of_getElem? (i := 26) rfl) rfl
theorem tb_27 : (Jvm.Cond.code ({ cls := "RoundVotes$Mail", name := "<init>", desc := "()V" } : Jvm.MethodName) prog_6_method_1_code (1 : Nat) (Option.none : Option Jvm.ClassFile.FieldType)) ∈ mTb := mIn1 (List.mem_of_getElem? (i := 27) rfl) rfl
theorem tb_28 : (Jvm.Cond.methodLink "RoundVotes$Mail" (3 : Nat) ({ cls := "java/lang/Object", name := "<init>", desc := "()V" } : Jvm.MethodName)) ∈ mTb := mIn1 (List.mem_of_getElem? (i := 28) rfl) rfl
theorem tb_29 : (Jvm.Cond.classLink "RoundVotes$Mail" (9 : Nat) "RoundVotes$Message") ∈ mTb := mIn1 (List.mem_of_getElem? (i := 29) rfl) rfl
theorem tb_31 : (Jvm.Cond.fieldLink "RoundVotes$Mail" (11 : Nat) "RoundVotes$Mail" "slots" "[LRoundVotes$Message;") ∈ mTb := mIn1 (List.mem_of_getElem? (i := 31) rfl) rfl
theorem tb_32 : (Jvm.Cond.fieldLink "RoundVotes" (235 : Nat) "RoundVotes$Mail" "slots" "[LRoundVotes$Message;") ∈ mTb := mIn1 (List.mem_of_getElem? (i := 32) rfl) rfl
theorem tb_33 : (Jvm.Cond.fieldLink "RoundVotes$Mail" (21 : Nat) "RoundVotes$Mail" "size" "I") ∈ mTb := mIn1 (List.mem_of_getElem? (i := 33) rfl) rfl
theorem tb_34 : (Jvm.Cond.fieldLink "RoundVotes" (234 : Nat) "RoundVotes$Mail" "size" "I") ∈ mTb := mIn1 (List.mem_of_getElem? (i := 34) rfl) rfl
theorem tb_35 : (Jvm.Cond.fieldLink "RoundVotes$Mail" (17 : Nat) "RoundVotes$Mail" "underWay" "I") ∈ mTb := mIn1 (List.mem_of_getElem? (i := 35) rfl) rfl
theorem tb_36 : (Jvm.Cond.fieldLink "RoundVotes" (217 : Nat) "RoundVotes$Mail" "underWay" "I") ∈ mTb := mIn1 (List.mem_of_getElem? (i := 36) rfl) rfl
theorem tb_37 : (Jvm.Cond.laysFinal "RoundVotes$Mail" "RoundVotes$Mail" "slots" "[LRoundVotes$Message;") ∈ mTb := mIn1 (List.mem_of_getElem? (i := 37) rfl) rfl
theorem tb_39 : (Jvm.Cond.lays "RoundVotes$Mail" "RoundVotes$Mail" "size" "I") ∈ mTb := mIn1 (List.mem_of_getElem? (i := 39) rfl) rfl
theorem tb_41 : (Jvm.Cond.lays "RoundVotes$Mail" "RoundVotes$Mail" "underWay" "I") ∈ mTb := mIn1 (List.mem_of_getElem? (i := 41) rfl) rfl
theorem tb_44 : (Jvm.Cond.classLink "RoundVotes" (16 : Nat) "RoundVotes$Told") ∈ mTb := mIn1 (List.mem_of_getElem? (i := 44) rfl) rfl
theorem tb_45 : (Jvm.Cond.instantiable "RoundVotes$Told" (4 : Nat)) ∈ mTb := mIn1 (List.mem_of_getElem? (i := 45) rfl) rfl
theorem tb_47 : (Jvm.Cond.instanceMethod ({ cls := "RoundVotes$Told", name := "<init>", desc := "()V" } : Jvm.MethodName)) ∈ mTb := mIn1 (List.mem_of_getElem? (i := 47) rfl) rfl
theorem tb_48 : (Jvm.Cond.code ({ cls := "RoundVotes$Told", name := "<init>", desc := "()V" } : Jvm.MethodName) prog_11_method_1_code (1 : Nat) (Option.none : Option Jvm.ClassFile.FieldType)) ∈ mTb := mIn1 (List.mem_of_getElem? (i := 48) rfl) rfl
theorem tb_49 : (Jvm.Cond.methodLink "RoundVotes$Told" (3 : Nat) ({ cls := "java/lang/Object", name := "<init>", desc := "()V" } : Jvm.MethodName)) ∈ mTb := mIn1 (List.mem_of_getElem? (i := 49) rfl) rfl
theorem tb_50 : (Jvm.Cond.fieldLink "RoundVotes$Told" (9 : Nat) "RoundVotes$Told" "numbers" "[I") ∈ mTb := mIn1 (List.mem_of_getElem? (i := 50) rfl) rfl
theorem tb_51 : (Jvm.Cond.fieldLink "RoundVotes$Told" (15 : Nat) "RoundVotes$Told" "kinds" "[I") ∈ mTb := mIn1 (List.mem_of_getElem? (i := 51) rfl) rfl
theorem tb_52 : (Jvm.Cond.fieldLink "RoundVotes" (299 : Nat) "RoundVotes$Told" "kinds" "[I") ∈ mTb := mIn1 (List.mem_of_getElem? (i := 52) rfl) rfl
theorem tb_53 : (Jvm.Cond.fieldLink "RoundVotes$Told" (18 : Nat) "RoundVotes$Told" "bys" "[I") ∈ mTb := mIn1 (List.mem_of_getElem? (i := 53) rfl) rfl
theorem tb_54 : (Jvm.Cond.fieldLink "RoundVotes" (302 : Nat) "RoundVotes$Told" "bys" "[I") ∈ mTb := mIn1 (List.mem_of_getElem? (i := 54) rfl) rfl
theorem tb_55 : (Jvm.Cond.fieldLink "RoundVotes$Told" (21 : Nat) "RoundVotes$Told" "size" "I") ∈ mTb := mIn1 (List.mem_of_getElem? (i := 55) rfl) rfl
theorem tb_56 : (Jvm.Cond.fieldLink "RoundVotes" (82 : Nat) "RoundVotes$Told" "size" "I") ∈ mTb := mIn1 (List.mem_of_getElem? (i := 56) rfl) rfl
theorem tb_57 : (Jvm.Cond.laysFinal "RoundVotes$Told" "RoundVotes$Told" "numbers" "[I") ∈ mTb := mIn1 (List.mem_of_getElem? (i := 57) rfl) rfl
theorem tb_59 : (Jvm.Cond.laysFinal "RoundVotes$Told" "RoundVotes$Told" "kinds" "[I") ∈ mTb := mIn1 (List.mem_of_getElem? (i := 59) rfl) rfl
theorem tb_61 : (Jvm.Cond.laysFinal "RoundVotes$Told" "RoundVotes$Told" "bys" "[I") ∈ mTb := mIn1 (List.mem_of_getElem? (i := 61) rfl) rfl
theorem tb_63 : (Jvm.Cond.lays "RoundVotes$Told" "RoundVotes$Told" "size" "I") ∈ mTb := mIn1 (List.mem_of_getElem? (i := 63) rfl) rfl
theorem tb_66 : (Jvm.Cond.arrayClass Jvm.ClassFile.FieldType.int) ∈ mTb := mIn1 (List.mem_of_getElem? (i := 66) rfl) rfl
theorem tb_67 : (Jvm.Cond.classLink "RoundVotes" (23 : Nat) "RoundVotes$Faults") ∈ mTb := mIn1 (List.mem_of_getElem? (i := 67) rfl) rfl
theorem tb_68 : (Jvm.Cond.instantiable "RoundVotes$Faults" (2 : Nat)) ∈ mTb := mIn1 (List.mem_of_getElem? (i := 68) rfl) rfl
theorem tb_70 : (Jvm.Cond.instanceMethod ({ cls := "RoundVotes$Faults", name := "<init>", desc := "()V" } : Jvm.MethodName)) ∈ mTb := mIn1 (List.mem_of_getElem? (i := 70) rfl) rfl
theorem tb_71 : (Jvm.Cond.code ({ cls := "RoundVotes$Faults", name := "<init>", desc := "()V" } : Jvm.MethodName) prog_5_method_1_code (1 : Nat) (Option.none : Option Jvm.ClassFile.FieldType)) ∈ mTb := mIn1 (List.mem_of_getElem? (i := 71) rfl) rfl
theorem tb_72 : (Jvm.Cond.methodLink "RoundVotes$Faults" (3 : Nat) ({ cls := "java/lang/Object", name := "<init>", desc := "()V" } : Jvm.MethodName)) ∈ mTb := mIn1 (List.mem_of_getElem? (i := 72) rfl) rfl
theorem tb_73 : (Jvm.Cond.fieldLink "RoundVotes$Faults" (11 : Nat) "RoundVotes$Faults" "parts" "[I") ∈ mTb := mIn1 (List.mem_of_getElem? (i := 73) rfl) rfl
theorem tb_74 : (Jvm.Cond.fieldLink "RoundVotes$Faults" (15 : Nat) "RoundVotes$Faults" "size" "I") ∈ mTb := mIn1 (List.mem_of_getElem? (i := 74) rfl) rfl
theorem tb_75 : (Jvm.Cond.fieldLink "RoundVotes" (204 : Nat) "RoundVotes$Faults" "size" "I") ∈ mTb := mIn1 (List.mem_of_getElem? (i := 75) rfl) rfl
theorem tb_76 : (Jvm.Cond.laysFinal "RoundVotes$Faults" "RoundVotes$Faults" "parts" "[I") ∈ mTb := mIn1 (List.mem_of_getElem? (i := 76) rfl) rfl
theorem tb_78 : (Jvm.Cond.lays "RoundVotes$Faults" "RoundVotes$Faults" "size" "I") ∈ mTb := mIn1 (List.mem_of_getElem? (i := 78) rfl) rfl
theorem tb_81 : (Jvm.Cond.classLink "RoundVotes" (30 : Nat) "RoundVotes$Setup") ∈ mTb := mIn1 (List.mem_of_getElem? (i := 81) rfl) rfl
theorem tb_82 : (Jvm.Cond.instantiable "RoundVotes$Setup" (4 : Nat)) ∈ mTb := mIn1 (List.mem_of_getElem? (i := 82) rfl) rfl
theorem tb_83 : (Jvm.Cond.methodLink "RoundVotes" (32 : Nat) ({ cls := "RoundVotes$Setup", name := "<init>", desc := "(II)V" } : Jvm.MethodName)) ∈ mTb := mIn1 (List.mem_of_getElem? (i := 83) rfl) rfl
theorem tb_84 : (Jvm.Cond.instanceMethod ({ cls := "RoundVotes$Setup", name := "<init>", desc := "(II)V" } : Jvm.MethodName)) ∈ mTb := mIn1 (List.mem_of_getElem? (i := 84) rfl) rfl
theorem tb_85 : (Jvm.Cond.code ({ cls := "RoundVotes$Setup", name := "<init>", desc := "(II)V" } : Jvm.MethodName) prog_10_method_1_code (4 : Nat) (Option.none : Option Jvm.ClassFile.FieldType)) ∈ mTb := mIn1 (List.mem_of_getElem? (i := 85) rfl) rfl
theorem tb_86 : (Jvm.Cond.methodLink "RoundVotes$Setup" (3 : Nat) ({ cls := "java/lang/Object", name := "<init>", desc := "()V" } : Jvm.MethodName)) ∈ mTb := mIn1 (List.mem_of_getElem? (i := 86) rfl) rfl
theorem tb_87 : (Jvm.Cond.methodLink "RoundVotes$Setup" (15 : Nat) ({ cls := "java/lang/Math", name := "min", desc := "(II)I" } : Jvm.MethodName)) ∈ mTb := mIn1 (List.mem_of_getElem? (i := 87) rfl) rfl
theorem tb_88 : (Jvm.Cond.static ({ cls := "java/lang/Math", name := "min", desc := "(II)I" } : Jvm.MethodName)) ∈ mTb := mIn1 (List.mem_of_getElem? (i := 88) rfl) rfl
theorem tb_89 : (Jvm.Cond.code ({ cls := "java/lang/Math", name := "min", desc := "(II)I" } : Jvm.MethodName) prog_14_method_69_code (2 : Nat) (Option.some Jvm.ClassFile.FieldType.int)) ∈ mTb := mIn1 (List.mem_of_getElem? (i := 89) rfl) rfl
theorem tb_90 : (Jvm.Cond.methodLink "RoundVotes$Setup" (21 : Nat) ({ cls := "java/lang/Math", name := "max", desc := "(II)I" } : Jvm.MethodName)) ∈ mTb := mIn1 (List.mem_of_getElem? (i := 90) rfl) rfl
theorem tb_91 : (Jvm.Cond.static ({ cls := "java/lang/Math", name := "max", desc := "(II)I" } : Jvm.MethodName)) ∈ mTb := mIn1 (List.mem_of_getElem? (i := 91) rfl) rfl
theorem tb_92 : (Jvm.Cond.code ({ cls := "java/lang/Math", name := "max", desc := "(II)I" } : Jvm.MethodName) prog_14_method_65_code (2 : Nat) (Option.some Jvm.ClassFile.FieldType.int)) ∈ mTb := mIn1 (List.mem_of_getElem? (i := 92) rfl) rfl
theorem tb_93 : (Jvm.Cond.classLink "RoundVotes$Setup" (31 : Nat) "[[I") ∈ mTb := mIn1 (List.mem_of_getElem? (i := 93) rfl) rfl
theorem tb_95 : (Jvm.Cond.methodLink "RoundVotes$Setup" (36 : Nat) ({ cls := "java/util/Arrays", name := "fill", desc := "([II)V" } : Jvm.MethodName)) ∈ mTb := mIn1 (List.mem_of_getElem? (i := 95) rfl) rfl
theorem tb_96 : (Jvm.Cond.static ({ cls := "java/util/Arrays", name := "fill", desc := "([II)V" } : Jvm.MethodName)) ∈ mTb := mIn1 (List.mem_of_getElem? (i := 96) rfl) rfl
theorem tb_97 : (Jvm.Cond.code ({ cls := "java/util/Arrays", name := "fill", desc := "([II)V" } : Jvm.MethodName) prog_15_method_103_code (4 : Nat) (Option.none : Option Jvm.ClassFile.FieldType)) ∈ mTb := mIn1 (List.mem_of_getElem? (i := 97) rfl) rfl
theorem tb_98 : (Jvm.Cond.fieldLink "RoundVotes$Setup" (24 : Nat) "RoundVotes$Setup" "size" "I") ∈ mTb := mIn1 (List.mem_of_getElem? (i := 98) rfl) rfl
theorem tb_99 : (Jvm.Cond.fieldLink "RoundVotes" (39 : Nat) "RoundVotes$Setup" "size" "I") ∈ mTb := mIn1 (List.mem_of_getElem? (i := 99) rfl) rfl
theorem tb_100 : (Jvm.Cond.fieldLink "RoundVotes$Node" (73 : Nat) "RoundVotes$Setup" "size" "I") ∈ mTb := mIn1 (List.mem_of_getElem? (i := 100) rfl) rfl
theorem tb_101 : (Jvm.Cond.fieldLink "RoundVotes$Setup" (28 : Nat) "RoundVotes$Setup" "seed" "I") ∈ mTb := mIn1 (List.mem_of_getElem? (i := 101) rfl) rfl
theorem tb_102 : (Jvm.Cond.fieldLink "RoundVotes$Setup" (33 : Nat) "RoundVotes$Setup" "weights" "[[I") ∈ mTb := mIn1 (List.mem_of_getElem? (i := 102) rfl) rfl
theorem tb_103 : (Jvm.Cond.fieldLink "RoundVotes" (226 : Nat) "RoundVotes$Setup" "weights" "[[I") ∈ mTb := mIn1 (List.mem_of_getElem? (i := 103) rfl) rfl
theorem tb_104 : (Jvm.Cond.fieldLink "RoundVotes$Setup" (9 : Nat) "RoundVotes$Setup" "all" "[I") ∈ mTb := mIn1 (List.mem_of_getElem? (i := 104) rfl) rfl
theorem tb_105 : (Jvm.Cond.fieldLink "RoundVotes" (223 : Nat) "RoundVotes$Setup" "all" "[I") ∈ mTb := mIn1 (List.mem_of_getElem? (i := 105) rfl) rfl
theorem tb_106 : (Jvm.Cond.fieldLink "RoundVotes$Node" (213 : Nat) "RoundVotes$Setup" "all" "[I") ∈ mTb := mIn1 (List.mem_of_getElem? (i := 106) rfl) rfl
theorem tb_107 : (Jvm.Cond.laysFinal "RoundVotes$Setup" "RoundVotes$Setup" "size" "I") ∈ mTb := mIn1 (List.mem_of_getElem? (i := 107) rfl) rfl
theorem tb_109 : (Jvm.Cond.laysFinal "RoundVotes$Setup" "RoundVotes$Setup" "seed" "I") ∈ mTb := mIn1 (List.mem_of_getElem? (i := 109) rfl) rfl
theorem tb_111 : (Jvm.Cond.laysFinal "RoundVotes$Setup" "RoundVotes$Setup" "weights" "[[I") ∈ mTb := mIn1 (List.mem_of_getElem? (i := 111) rfl) rfl
theorem tb_113 : (Jvm.Cond.laysFinal "RoundVotes$Setup" "RoundVotes$Setup" "all" "[I") ∈ mTb := mIn1 (List.mem_of_getElem? (i := 113) rfl) rfl
theorem tb_116 : (Jvm.Cond.classLink "RoundVotes" (43 : Nat) "RoundVotes$Node") ∈ mTb := mIn1 (List.mem_of_getElem? (i := 116) rfl) rfl
theorem tb_118 : (Jvm.Cond.instantiable "RoundVotes$Node" (18 : Nat)) ∈ mTb := mIn1 (List.mem_of_getElem? (i := 118) rfl) rfl
theorem tb_119 : (Jvm.Cond.methodLink "RoundVotes" (49 : Nat) ({ cls := "RoundVotes$Node", name := "<init>", desc := "(ILRoundVotes$Setup;)V" } : Jvm.MethodName)) ∈ mTb := mIn1 (List.mem_of_getElem? (i := 119) rfl) rfl
theorem tb_120 : (Jvm.Cond.instanceMethod ({ cls := "RoundVotes$Node", name := "<init>", desc := "(ILRoundVotes$Setup;)V" } : Jvm.MethodName)) ∈ mTb := mIn1 (List.mem_of_getElem? (i := 120) rfl) rfl
theorem tb_121 : (Jvm.Cond.code ({ cls := "RoundVotes$Node", name := "<init>", desc := "(ILRoundVotes$Setup;)V" } : Jvm.MethodName) prog_8_method_1_code (3 : Nat) (Option.none : Option Jvm.ClassFile.FieldType)) ∈ mTb := mIn1 (List.mem_of_getElem? (i := 121) rfl) rfl
theorem tb_122 : (Jvm.Cond.methodLink "RoundVotes$Node" (3 : Nat) ({ cls := "java/lang/Object", name := "<init>", desc := "()V" } : Jvm.MethodName)) ∈ mTb := mIn1 (List.mem_of_getElem? (i := 122) rfl) rfl
theorem tb_123 : (Jvm.Cond.classLink "RoundVotes$Node" (18 : Nat) "RoundVotes$Choice") ∈ mTb := mIn1 (List.mem_of_getElem? (i := 123) rfl) rfl
theorem tb_124 : (Jvm.Cond.instantiable "RoundVotes$Choice" (2 : Nat)) ∈ mTb := mIn1 (List.mem_of_getElem? (i := 124) rfl) rfl
theorem tb_126 : (Jvm.Cond.instanceMethod ({ cls := "RoundVotes$Choice", name := "<init>", desc := "()V" } : Jvm.MethodName)) ∈ mTb := mIn1 (List.mem_of_getElem? (i := 126) rfl) rfl
theorem tb_127 : (Jvm.Cond.code ({ cls := "RoundVotes$Choice", name := "<init>", desc := "()V" } : Jvm.MethodName) prog_3_method_1_code (1 : Nat) (Option.none : Option Jvm.ClassFile.FieldType)) ∈ mTb := mIn1 (List.mem_of_getElem? (i := 127) rfl) rfl
theorem tb_128 : (Jvm.Cond.methodLink "RoundVotes$Choice" (3 : Nat) ({ cls := "java/lang/Object", name := "<init>", desc := "()V" } : Jvm.MethodName)) ∈ mTb := mIn1 (List.mem_of_getElem? (i := 128) rfl) rfl
theorem tb_129 : (Jvm.Cond.fieldLink "RoundVotes$Choice" (9 : Nat) "RoundVotes$Choice" "value" "I") ∈ mTb := mIn1 (List.mem_of_getElem? (i := 129) rfl) rfl
theorem tb_130 : (Jvm.Cond.fieldLink "RoundVotes$Node" (109 : Nat) "RoundVotes$Choice" "value" "I") ∈ mTb := mIn1 (List.mem_of_getElem? (i := 130) rfl) rfl
theorem tb_131 : (Jvm.Cond.fieldLink "RoundVotes" (138 : Nat) "RoundVotes$Choice" "value" "I") ∈ mTb := mIn1 (List.mem_of_getElem? (i := 131) rfl) rfl
theorem tb_132 : (Jvm.Cond.fieldLink "RoundVotes$Choice" (15 : Nat) "RoundVotes$Choice" "round" "I") ∈ mTb := mIn1 (List.mem_of_getElem? (i := 132) rfl) rfl
theorem tb_133 : (Jvm.Cond.fieldLink "RoundVotes$Node" (112 : Nat) "RoundVotes$Choice" "round" "I") ∈ mTb := mIn1 (List.mem_of_getElem? (i := 133) rfl) rfl
theorem tb_134 : (Jvm.Cond.fieldLink "RoundVotes" (143 : Nat) "RoundVotes$Choice" "round" "I") ∈ mTb := mIn1 (List.mem_of_getElem? (i := 134) rfl) rfl
theorem tb_135 : (Jvm.Cond.lays "RoundVotes$Choice" "RoundVotes$Choice" "value" "I") ∈ mTb := mIn1 (List.mem_of_getElem? (i := 135) rfl) rfl
theorem tb_137 : (Jvm.Cond.lays "RoundVotes$Choice" "RoundVotes$Choice" "round" "I") ∈ mTb := mIn1 (List.mem_of_getElem? (i := 137) rfl) rfl
theorem tb_140 : (Jvm.Cond.classLink "RoundVotes$Node" (36 : Nat) "RoundVotes$Decisions") ∈ mTb := mIn1 (List.mem_of_getElem? (i := 140) rfl) rfl
theorem tb_141 : (Jvm.Cond.instantiable "RoundVotes$Decisions" (3 : Nat)) ∈ mTb := mIn1 (List.mem_of_getElem? (i := 141) rfl) rfl
theorem tb_143 : (Jvm.Cond.instanceMethod ({ cls := "RoundVotes$Decisions", name := "<init>", desc := "()V" } : Jvm.MethodName)) ∈ mTb := mIn1 (List.mem_of_getElem? (i := 143) rfl) rfl
theorem tb_144 : (Jvm.Cond.code ({ cls := "RoundVotes$Decisions", name := "<init>", desc := "()V" } : Jvm.MethodName) prog_4_method_1_code (1 : Nat) (Option.none : Option Jvm.ClassFile.FieldType)) ∈ mTb := mIn1 (List.mem_of_getElem? (i := 144) rfl) rfl
theorem tb_145 : (Jvm.Cond.methodLink "RoundVotes$Decisions" (3 : Nat) ({ cls := "java/lang/Object", name := "<init>", desc := "()V" } : Jvm.MethodName)) ∈ mTb := mIn1 (List.mem_of_getElem? (i := 145) rfl) rfl
theorem tb_146 : (Jvm.Cond.fieldLink "RoundVotes$Decisions" (9 : Nat) "RoundVotes$Decisions" "values" "[I") ∈ mTb := mIn1 (List.mem_of_getElem? (i := 146) rfl) rfl
theorem tb_147 : (Jvm.Cond.fieldLink "RoundVotes$Node" (157 : Nat) "RoundVotes$Decisions" "values" "[I") ∈ mTb := mIn1 (List.mem_of_getElem? (i := 147) rfl) rfl
theorem tb_148 : (Jvm.Cond.fieldLink "RoundVotes" (192 : Nat) "RoundVotes$Decisions" "values" "[I") ∈ mTb := mIn1 (List.mem_of_getElem? (i := 148) rfl) rfl
theorem tb_149 : (Jvm.Cond.fieldLink "RoundVotes$Decisions" (15 : Nat) "RoundVotes$Decisions" "rounds" "[I") ∈ mTb := mIn1 (List.mem_of_getElem? (i := 149) rfl) rfl
theorem tb_150 : (Jvm.Cond.fieldLink "RoundVotes$Node" (160 : Nat) "RoundVotes$Decisions" "rounds" "[I") ∈ mTb := mIn1 (List.mem_of_getElem? (i := 150) rfl) rfl
theorem tb_151 : (Jvm.Cond.fieldLink "RoundVotes" (195 : Nat) "RoundVotes$Decisions" "rounds" "[I") ∈ mTb := mIn1 (List.mem_of_getElem? (i := 151) rfl) rfl
theorem tb_152 : (Jvm.Cond.fieldLink "RoundVotes$Decisions" (18 : Nat) "RoundVotes$Decisions" "voters" "[I") ∈ mTb := mIn1 (List.mem_of_getElem? (i := 152) rfl) rfl
theorem tb_153 : (Jvm.Cond.fieldLink "RoundVotes$Node" (163 : Nat) "RoundVotes$Decisions" "voters" "[I") ∈ mTb := mIn1 (List.mem_of_getElem? (i := 153) rfl) rfl
theorem tb_154 : (Jvm.Cond.fieldLink "RoundVotes" (198 : Nat) "RoundVotes$Decisions" "voters" "[I") ∈ mTb := mIn1 (List.mem_of_getElem? (i := 154) rfl) rfl
theorem tb_155 : (Jvm.Cond.laysFinal "RoundVotes$Decisions" "RoundVotes$Decisions" "values" "[I") ∈ mTb := mIn1 (List.mem_of_getElem? (i := 155) rfl) rfl
theorem tb_157 : (Jvm.Cond.laysFinal "RoundVotes$Decisions" "RoundVotes$Decisions" "rounds" "[I") ∈ mTb := mIn1 (List.mem_of_getElem? (i := 157) rfl) rfl
theorem tb_159 : (Jvm.Cond.laysFinal "RoundVotes$Decisions" "RoundVotes$Decisions" "voters" "[I") ∈ mTb := mIn1 (List.mem_of_getElem? (i := 159) rfl) rfl
theorem tb_162 : (Jvm.Cond.arrayClass Jvm.ClassFile.FieldType.boolean) ∈ mTb := mIn1 (List.mem_of_getElem? (i := 162) rfl) rfl
theorem tb_163 : (Jvm.Cond.classLink "RoundVotes$Node" (43 : Nat) "RoundVotes$Ballots") ∈ mTb := mIn1 (List.mem_of_getElem? (i := 163) rfl) rfl
theorem tb_164 : (Jvm.Cond.instantiable "RoundVotes$Ballots" (4 : Nat)) ∈ mTb := mIn1 (List.mem_of_getElem? (i := 164) rfl) rfl
theorem tb_165 : (Jvm.Cond.methodLink "RoundVotes$Node" (45 : Nat) ({ cls := "RoundVotes$Ballots", name := "<init>", desc := "(I)V" } : Jvm.MethodName)) ∈ mTb := mIn1 (List.mem_of_getElem? (i := 165) rfl) rfl
theorem tb_166 : (Jvm.Cond.instanceMethod ({ cls := "RoundVotes$Ballots", name := "<init>", desc := "(I)V" } : Jvm.MethodName)) ∈ mTb := mIn1 (List.mem_of_getElem? (i := 166) rfl) rfl
theorem tb_167 : (Jvm.Cond.code ({ cls := "RoundVotes$Ballots", name := "<init>", desc := "(I)V" } : Jvm.MethodName) prog_2_method_1_code (2 : Nat) (Option.none : Option Jvm.ClassFile.FieldType)) ∈ mTb := mIn1 (List.mem_of_getElem? (i := 167) rfl) rfl
theorem tb_168 : (Jvm.Cond.methodLink "RoundVotes$Ballots" (3 : Nat) ({ cls := "java/lang/Object", name := "<init>", desc := "()V" } : Jvm.MethodName)) ∈ mTb := mIn1 (List.mem_of_getElem? (i := 168) rfl) rfl
theorem tb_169 : (Jvm.Cond.methodLink "RoundVotes$Ballots" (25 : Nat) ({ cls := "java/util/Arrays", name := "fill", desc := "([II)V" } : Jvm.MethodName)) ∈ mTb := mIn1 (List.mem_of_getElem? (i := 169) rfl) rfl
theorem tb_170 : (Jvm.Cond.fieldLink "RoundVotes$Ballots" (19 : Nat) "RoundVotes$Ballots" "senders" "I") ∈ mTb := mIn1 (List.mem_of_getElem? (i := 170) rfl) rfl
theorem tb_171 : (Jvm.Cond.fieldLink "RoundVotes$Ballots" (22 : Nat) "RoundVotes$Ballots" "values" "[I") ∈ mTb := mIn1 (List.mem_of_getElem? (i := 171) rfl) rfl
theorem tb_172 : (Jvm.Cond.fieldLink "RoundVotes$Ballots" (9 : Nat) "RoundVotes$Ballots" "sinces" "[I") ∈ mTb := mIn1 (List.mem_of_getElem? (i := 172) rfl) rfl
theorem tb_173 : (Jvm.Cond.fieldLink "RoundVotes$Ballots" (15 : Nat) "RoundVotes$Ballots" "topRound" "I") ∈ mTb := mIn1 (List.mem_of_getElem? (i := 173) rfl) rfl
theorem tb_174 : (Jvm.Cond.fieldLink "RoundVotes$Node" (150 : Nat) "RoundVotes$Ballots" "topRound" "I") ∈ mTb := mIn1 (List.mem_of_getElem? (i := 174) rfl) rfl
theorem tb_175 : (Jvm.Cond.laysFinal "RoundVotes$Ballots" "RoundVotes$Ballots" "senders" "I") ∈ mTb := mIn1 (List.mem_of_getElem? (i := 175) rfl) rfl
theorem tb_177 : (Jvm.Cond.laysFinal "RoundVotes$Ballots" "RoundVotes$Ballots" "values" "[I") ∈ mTb := mIn1 (List.mem_of_getElem? (i := 177) rfl) rfl
theorem tb_179 : (Jvm.Cond.laysFinal "RoundVotes$Ballots" "RoundVotes$Ballots" "sinces" "[I") ∈ mTb := mIn1 (List.mem_of_getElem? (i := 179) rfl) rfl
theorem tb_181 : (Jvm.Cond.lays "RoundVotes$Ballots" "RoundVotes$Ballots" "topRound" "I") ∈ mTb := mIn1 (List.mem_of_getElem? (i := 181) rfl) rfl
theorem tb_184 : (Jvm.Cond.classLink "RoundVotes$Node" (52 : Nat) "RoundVotes$Sendings") ∈ mTb := mIn1 (List.mem_of_getElem? (i := 184) rfl) rfl
theorem tb_185 : (Jvm.Cond.instantiable "RoundVotes$Sendings" (3 : Nat)) ∈ mTb := mIn1 (List.mem_of_getElem? (i := 185) rfl) rfl
theorem tb_187 : (Jvm.Cond.instanceMethod ({ cls := "RoundVotes$Sendings", name := "<init>", desc := "()V" } : Jvm.MethodName)) ∈ mTb := mIn1 (List.mem_of_getElem? (i := 187) rfl) rfl
theorem tb_188 : (Jvm.Cond.code ({ cls := "RoundVotes$Sendings", name := "<init>", desc := "()V" } : Jvm.MethodName) prog_9_method_1_code (1 : Nat) (Option.none : Option Jvm.ClassFile.FieldType)) ∈ mTb := mIn1 (List.mem_of_getElem? (i := 188) rfl) rfl
theorem tb_189 : (Jvm.Cond.methodLink "RoundVotes$Sendings" (3 : Nat) ({ cls := "java/lang/Object", name := "<init>", desc := "()V" } : Jvm.MethodName)) ∈ mTb := mIn1 (List.mem_of_getElem? (i := 189) rfl) rfl
theorem tb_190 : (Jvm.Cond.classLink "RoundVotes$Sendings" (9 : Nat) "RoundVotes$Ballots") ∈ mTb := mIn1 (List.mem_of_getElem? (i := 190) rfl) rfl
theorem tb_191 : (Jvm.Cond.methodLink "RoundVotes$Sendings" (11 : Nat) ({ cls := "RoundVotes$Ballots", name := "<init>", desc := "(I)V" } : Jvm.MethodName)) ∈ mTb := mIn1 (List.mem_of_getElem? (i := 191) rfl) rfl
theorem tb_192 : (Jvm.Cond.fieldLink "RoundVotes$Sendings" (20 : Nat) "RoundVotes$Sendings" "copies" "I") ∈ mTb := mIn1 (List.mem_of_getElem? (i := 192) rfl) rfl
theorem tb_193 : (Jvm.Cond.fieldLink "RoundVotes" (160 : Nat) "RoundVotes$Sendings" "copies" "I") ∈ mTb := mIn1 (List.mem_of_getElem? (i := 193) rfl) rfl
theorem tb_194 : (Jvm.Cond.fieldLink "RoundVotes$Sendings" (46 : Nat) "RoundVotes$Sendings" "timesUnlike" "I") ∈ mTb := mIn1 (List.mem_of_getElem? (i := 194) rfl) rfl
theorem tb_195 : (Jvm.Cond.fieldLink "RoundVotes" (208 : Nat) "RoundVotes$Sendings" "timesUnlike" "I") ∈ mTb := mIn1 (List.mem_of_getElem? (i := 195) rfl) rfl
theorem tb_196 : (Jvm.Cond.fieldLink "RoundVotes$Sendings" (14 : Nat) "RoundVotes$Sendings" "firsts" "LRoundVotes$Ballots;") ∈ mTb := mIn1 (List.mem_of_getElem? (i := 196) rfl) rfl
theorem tb_197 : (Jvm.Cond.fieldLink "RoundVotes$Node" (181 : Nat) "RoundVotes$Sendings" "firsts" "LRoundVotes$Ballots;") ∈ mTb := mIn1 (List.mem_of_getElem? (i := 197) rfl) rfl
theorem tb_198 : (Jvm.Cond.lays "RoundVotes$Sendings" "RoundVotes$Sendings" "copies" "I") ∈ mTb := mIn1 (List.mem_of_getElem? (i := 198) rfl) rfl
theorem tb_200 : (Jvm.Cond.lays "RoundVotes$Sendings" "RoundVotes$Sendings" "timesUnlike" "I") ∈ mTb := mIn1 (List.mem_of_getElem? (i := 200) rfl) rfl
theorem tb_202 : (Jvm.Cond.laysFinal "RoundVotes$Sendings" "RoundVotes$Sendings" "firsts" "LRoundVotes$Ballots;") ∈ mTb := mIn1 (List.mem_of_getElem? (i := 202) rfl) rfl
theorem tb_205 : (Jvm.Cond.classLink "RoundVotes$Node" (59 : Nat) "RoundVotes$Message") ∈ mTb := mIn1 (List.mem_of_getElem? (i := 205) rfl) rfl
theorem tb_206 : (Jvm.Cond.instantiable "RoundVotes$Message" (9 : Nat)) ∈ mTb := mIn1 (List.mem_of_getElem? (i := 206) rfl) rfl
theorem tb_208 : (Jvm.Cond.instanceMethod ({ cls := "RoundVotes$Message", name := "<init>", desc := "()V" } : Jvm.MethodName)) ∈ mTb := mIn1 (List.mem_of_getElem? (i := 208) rfl) rfl
theorem tb_209 : (Jvm.Cond.code ({ cls := "RoundVotes$Message", name := "<init>", desc := "()V" } : Jvm.MethodName) prog_7_method_1_code (1 : Nat) (Option.none : Option Jvm.ClassFile.FieldType)) ∈ mTb := mIn1 (List.mem_of_getElem? (i := 209) rfl) rfl
theorem tb_210 : (Jvm.Cond.methodLink "RoundVotes$Message" (3 : Nat) ({ cls := "java/lang/Object", name := "<init>", desc := "()V" } : Jvm.MethodName)) ∈ mTb := mIn1 (List.mem_of_getElem? (i := 210) rfl) rfl
theorem tb_211 : (Jvm.Cond.fieldLink "RoundVotes$Message" (9 : Nat) "RoundVotes$Message" "sender" "I") ∈ mTb := mIn1 (List.mem_of_getElem? (i := 211) rfl) rfl
theorem tb_212 : (Jvm.Cond.fieldLink "RoundVotes$Faults" (23 : Nat) "RoundVotes$Message" "sender" "I") ∈ mTb := mIn1 (List.mem_of_getElem? (i := 212) rfl) rfl
theorem tb_213 : (Jvm.Cond.fieldLink "RoundVotes$Node" (131 : Nat) "RoundVotes$Message" "sender" "I") ∈ mTb := mIn1 (List.mem_of_getElem? (i := 213) rfl) rfl
theorem tb_214 : (Jvm.Cond.fieldLink "RoundVotes" (308 : Nat) "RoundVotes$Message" "sender" "I") ∈ mTb := mIn1 (List.mem_of_getElem? (i := 214) rfl) rfl
theorem tb_215 : (Jvm.Cond.fieldLink "RoundVotes$Message" (15 : Nat) "RoundVotes$Message" "receiver" "I") ∈ mTb := mIn1 (List.mem_of_getElem? (i := 215) rfl) rfl
theorem tb_216 : (Jvm.Cond.fieldLink "RoundVotes$Faults" (37 : Nat) "RoundVotes$Message" "receiver" "I") ∈ mTb := mIn1 (List.mem_of_getElem? (i := 216) rfl) rfl
theorem tb_217 : (Jvm.Cond.fieldLink "RoundVotes" (252 : Nat) "RoundVotes$Message" "receiver" "I") ∈ mTb := mIn1 (List.mem_of_getElem? (i := 217) rfl) rfl
theorem tb_218 : (Jvm.Cond.fieldLink "RoundVotes$Message" (18 : Nat) "RoundVotes$Message" "height" "I") ∈ mTb := mIn1 (List.mem_of_getElem? (i := 218) rfl) rfl
theorem tb_219 : (Jvm.Cond.fieldLink "RoundVotes$Faults" (28 : Nat) "RoundVotes$Message" "height" "I") ∈ mTb := mIn1 (List.mem_of_getElem? (i := 219) rfl) rfl
theorem tb_220 : (Jvm.Cond.fieldLink "RoundVotes$Node" (134 : Nat) "RoundVotes$Message" "height" "I") ∈ mTb := mIn1 (List.mem_of_getElem? (i := 220) rfl) rfl
theorem tb_221 : (Jvm.Cond.fieldLink "RoundVotes$Sendings" (24 : Nat) "RoundVotes$Message" "round" "I") ∈ mTb := mIn1 (List.mem_of_getElem? (i := 221) rfl) rfl
theorem tb_222 : (Jvm.Cond.fieldLink "RoundVotes$Message" (21 : Nat) "RoundVotes$Message" "round" "I") ∈ mTb := mIn1 (List.mem_of_getElem? (i := 222) rfl) rfl
theorem tb_223 : (Jvm.Cond.fieldLink "RoundVotes$Faults" (31 : Nat) "RoundVotes$Message" "round" "I") ∈ mTb := mIn1 (List.mem_of_getElem? (i := 223) rfl) rfl
theorem tb_224 : (Jvm.Cond.fieldLink "RoundVotes$Node" (135 : Nat) "RoundVotes$Message" "round" "I") ∈ mTb := mIn1 (List.mem_of_getElem? (i := 224) rfl) rfl
theorem tb_225 : (Jvm.Cond.fieldLink "RoundVotes$Sendings" (29 : Nat) "RoundVotes$Message" "kind" "I") ∈ mTb := mIn1 (List.mem_of_getElem? (i := 225) rfl) rfl
theorem tb_226 : (Jvm.Cond.fieldLink "RoundVotes$Message" (24 : Nat) "RoundVotes$Message" "kind" "I") ∈ mTb := mIn1 (List.mem_of_getElem? (i := 226) rfl) rfl
theorem tb_227 : (Jvm.Cond.fieldLink "RoundVotes$Faults" (34 : Nat) "RoundVotes$Message" "kind" "I") ∈ mTb := mIn1 (List.mem_of_getElem? (i := 227) rfl) rfl
theorem tb_228 : (Jvm.Cond.fieldLink "RoundVotes$Node" (136 : Nat) "RoundVotes$Message" "kind" "I") ∈ mTb := mIn1 (List.mem_of_getElem? (i := 228) rfl) rfl
theorem tb_229 : (Jvm.Cond.fieldLink "RoundVotes$Message" (27 : Nat) "RoundVotes$Message" "value" "I") ∈ mTb := mIn1 (List.mem_of_getElem? (i := 229) rfl) rfl
theorem tb_230 : (Jvm.Cond.fieldLink "RoundVotes$Sendings" (36 : Nat) "RoundVotes$Message" "value" "I") ∈ mTb := mIn1 (List.mem_of_getElem? (i := 230) rfl) rfl
theorem tb_231 : (Jvm.Cond.fieldLink "RoundVotes$Node" (139 : Nat) "RoundVotes$Message" "value" "I") ∈ mTb := mIn1 (List.mem_of_getElem? (i := 231) rfl) rfl
theorem tb_232 : (Jvm.Cond.fieldLink "RoundVotes" (281 : Nat) "RoundVotes$Message" "value" "I") ∈ mTb := mIn1 (List.mem_of_getElem? (i := 232) rfl) rfl
theorem tb_233 : (Jvm.Cond.fieldLink "RoundVotes$Message" (30 : Nat) "RoundVotes$Message" "since" "I") ∈ mTb := mIn1 (List.mem_of_getElem? (i := 233) rfl) rfl
theorem tb_234 : (Jvm.Cond.fieldLink "RoundVotes$Sendings" (39 : Nat) "RoundVotes$Message" "since" "I") ∈ mTb := mIn1 (List.mem_of_getElem? (i := 234) rfl) rfl
theorem tb_235 : (Jvm.Cond.fieldLink "RoundVotes$Node" (140 : Nat) "RoundVotes$Message" "since" "I") ∈ mTb := mIn1 (List.mem_of_getElem? (i := 235) rfl) rfl
theorem tb_236 : (Jvm.Cond.fieldLink "RoundVotes$Mail" (29 : Nat) "RoundVotes$Message" "due" "I") ∈ mTb := mIn1 (List.mem_of_getElem? (i := 236) rfl) rfl
theorem tb_237 : (Jvm.Cond.fieldLink "RoundVotes" (239 : Nat) "RoundVotes$Message" "due" "I") ∈ mTb := mIn1 (List.mem_of_getElem? (i := 237) rfl) rfl
theorem tb_238 : (Jvm.Cond.fieldLink "RoundVotes$Mail" (32 : Nat) "RoundVotes$Message" "second" "Z") ∈ mTb := mIn1 (List.mem_of_getElem? (i := 238) rfl) rfl
theorem tb_239 : (Jvm.Cond.fieldLink "RoundVotes" (244 : Nat) "RoundVotes$Message" "second" "Z") ∈ mTb := mIn1 (List.mem_of_getElem? (i := 239) rfl) rfl
theorem tb_240 : (Jvm.Cond.lays "RoundVotes$Message" "RoundVotes$Message" "sender" "I") ∈ mTb := mIn2 (List.mem_of_getElem? (i := 0) rfl) rfl
theorem tb_242 : (Jvm.Cond.lays "RoundVotes$Message" "RoundVotes$Message" "receiver" "I") ∈ mTb := mIn2 (List.mem_of_getElem? (i := 2) rfl) rfl
theorem tb_244 : (Jvm.Cond.lays "RoundVotes$Message" "RoundVotes$Message" "height" "I") ∈ mTb := mIn2 (List.mem_of_getElem? (i := 4) rfl) rfl
theorem tb_246 : (Jvm.Cond.lays "RoundVotes$Message" "RoundVotes$Message" "round" "I") ∈ mTb := mIn2 (List.mem_of_getElem? (i := 6) rfl) rfl
theorem tb_248 : (Jvm.Cond.lays "RoundVotes$Message" "RoundVotes$Message" "kind" "I") ∈ mTb := mIn2 (List.mem_of_getElem? (i := 8) rfl) rfl
theorem tb_250 : (Jvm.Cond.lays "RoundVotes$Message" "RoundVotes$Message" "value" "I") ∈ mTb := mIn2 (List.mem_of_getElem? (i := 10) rfl) rfl
theorem tb_252 : (Jvm.Cond.lays "RoundVotes$Message" "RoundVotes$Message" "since" "I") ∈ mTb := mIn2 (List.mem_of_getElem? (i := 12) rfl) rfl
theorem tb_254 : (Jvm.Cond.lays "RoundVotes$Message" "RoundVotes$Message" "due" "I") ∈ mTb := mIn2 (List.mem_of_getElem? (i := 14) rfl) rfl
theorem tb_256 : (Jvm.Cond.lays "RoundVotes$Message" "RoundVotes$Message" "second" "Z") ∈ mTb := mIn2 (List.mem_of_getElem? (i := 16) rfl) rfl
theorem tb_259 : (Jvm.Cond.fieldLink "RoundVotes$Node" (66 : Nat) "RoundVotes$Node" "number" "I") ∈ mTb := mIn2 (List.mem_of_getElem? (i := 19) rfl) rfl
theorem tb_260 : (Jvm.Cond.fieldLink "RoundVotes" (288 : Nat) "RoundVotes$Node" "number" "I") ∈ mTb := mIn2 (List.mem_of_getElem? (i := 20) rfl) rfl
theorem tb_261 : (Jvm.Cond.fieldLink "RoundVotes$Node" (69 : Nat) "RoundVotes$Node" "setup" "LRoundVotes$Setup;") ∈ mTb := mIn2 (List.mem_of_getElem? (i := 21) rfl) rfl
theorem tb_262 : (Jvm.Cond.fieldLink "RoundVotes$Node" (9 : Nat) "RoundVotes$Node" "height" "I") ∈ mTb := mIn2 (List.mem_of_getElem? (i := 22) rfl) rfl
theorem tb_263 : (Jvm.Cond.fieldLink "RoundVotes" (111 : Nat) "RoundVotes$Node" "height" "I") ∈ mTb := mIn2 (List.mem_of_getElem? (i := 23) rfl) rfl
theorem tb_264 : (Jvm.Cond.fieldLink "RoundVotes$Node" (87 : Nat) "RoundVotes$Node" "round" "I") ∈ mTb := mIn2 (List.mem_of_getElem? (i := 24) rfl) rfl
theorem tb_265 : (Jvm.Cond.fieldLink "RoundVotes" (128 : Nat) "RoundVotes$Node" "round" "I") ∈ mTb := mIn2 (List.mem_of_getElem? (i := 25) rfl) rfl
theorem tb_266 : (Jvm.Cond.fieldLink "RoundVotes$Node" (15 : Nat) "RoundVotes$Node" "step" "I") ∈ mTb := mIn2 (List.mem_of_getElem? (i := 26) rfl) rfl
theorem tb_267 : (Jvm.Cond.fieldLink "RoundVotes" (131 : Nat) "RoundVotes$Node" "step" "I") ∈ mTb := mIn2 (List.mem_of_getElem? (i := 27) rfl) rfl
theorem tb_268 : (Jvm.Cond.fieldLink "RoundVotes$Node" (21 : Nat) "RoundVotes$Node" "locked" "LRoundVotes$Choice;") ∈ mTb := mIn2 (List.mem_of_getElem? (i := 28) rfl) rfl
theorem tb_269 : (Jvm.Cond.fieldLink "RoundVotes" (134 : Nat) "RoundVotes$Node" "locked" "LRoundVotes$Choice;") ∈ mTb := mIn2 (List.mem_of_getElem? (i := 29) rfl) rfl
theorem tb_270 : (Jvm.Cond.fieldLink "RoundVotes$Node" (25 : Nat) "RoundVotes$Node" "valid" "LRoundVotes$Choice;") ∈ mTb := mIn2 (List.mem_of_getElem? (i := 30) rfl) rfl
theorem tb_271 : (Jvm.Cond.fieldLink "RoundVotes" (144 : Nat) "RoundVotes$Node" "valid" "LRoundVotes$Choice;") ∈ mTb := mIn2 (List.mem_of_getElem? (i := 31) rfl) rfl
theorem tb_272 : (Jvm.Cond.fieldLink "RoundVotes" (68 : Nat) "RoundVotes$Node" "behaviour" "I") ∈ mTb := mIn2 (List.mem_of_getElem? (i := 32) rfl) rfl
theorem tb_273 : (Jvm.Cond.fieldLink "RoundVotes$Node" (113 : Nat) "RoundVotes$Node" "behaviour" "I") ∈ mTb := mIn2 (List.mem_of_getElem? (i := 33) rfl) rfl
theorem tb_274 : (Jvm.Cond.fieldLink "RoundVotes$Node" (84 : Nat) "RoundVotes$Node" "lastCutTurn" "I") ∈ mTb := mIn2 (List.mem_of_getElem? (i := 34) rfl) rfl
theorem tb_275 : (Jvm.Cond.fieldLink "RoundVotes" (96 : Nat) "RoundVotes$Node" "lastCutTurn" "I") ∈ mTb := mIn2 (List.mem_of_getElem? (i := 35) rfl) rfl
theorem tb_276 : (Jvm.Cond.fieldLink "RoundVotes$Node" (28 : Nat) "RoundVotes$Node" "timers" "[I") ∈ mTb := mIn2 (List.mem_of_getElem? (i := 36) rfl) rfl
theorem tb_277 : (Jvm.Cond.fieldLink "RoundVotes" (152 : Nat) "RoundVotes$Node" "timers" "[I") ∈ mTb := mIn2 (List.mem_of_getElem? (i := 37) rfl) rfl
theorem tb_278 : (Jvm.Cond.fieldLink "RoundVotes$Node" (32 : Nat) "RoundVotes$Node" "once" "[Z") ∈ mTb := mIn2 (List.mem_of_getElem? (i := 38) rfl) rfl
theorem tb_279 : (Jvm.Cond.fieldLink "RoundVotes$Node" (39 : Nat) "RoundVotes$Node" "decisions" "LRoundVotes$Decisions;") ∈ mTb := mIn2 (List.mem_of_getElem? (i := 39) rfl) rfl
theorem tb_280 : (Jvm.Cond.fieldLink "RoundVotes" (184 : Nat) "RoundVotes$Node" "decisions" "LRoundVotes$Decisions;") ∈ mTb := mIn2 (List.mem_of_getElem? (i := 40) rfl) rfl
theorem tb_281 : (Jvm.Cond.fieldLink "RoundVotes$Node" (78 : Nat) "RoundVotes$Node" "present" "LRoundVotes$Ballots;") ∈ mTb := mIn2 (List.mem_of_getElem? (i := 41) rfl) rfl
theorem tb_282 : (Jvm.Cond.fieldLink "RoundVotes" (165 : Nat) "RoundVotes$Node" "present" "LRoundVotes$Ballots;") ∈ mTb := mIn2 (List.mem_of_getElem? (i := 42) rfl) rfl
theorem tb_283 : (Jvm.Cond.fieldLink "RoundVotes$Node" (81 : Nat) "RoundVotes$Node" "next" "LRoundVotes$Ballots;") ∈ mTb := mIn2 (List.mem_of_getElem? (i := 43) rfl) rfl
theorem tb_284 : (Jvm.Cond.fieldLink "RoundVotes$Node" (48 : Nat) "RoundVotes$Node" "signed" "LRoundVotes$Ballots;") ∈ mTb := mIn2 (List.mem_of_getElem? (i := 44) rfl) rfl
theorem tb_285 : (Jvm.Cond.fieldLink "RoundVotes$Node" (55 : Nat) "RoundVotes$Node" "sendings" "LRoundVotes$Sendings;") ∈ mTb := mIn2 (List.mem_of_getElem? (i := 45) rfl) rfl
theorem tb_286 : (Jvm.Cond.fieldLink "RoundVotes" (156 : Nat) "RoundVotes$Node" "sendings" "LRoundVotes$Sendings;") ∈ mTb := mIn2 (List.mem_of_getElem? (i := 46) rfl) rfl
theorem tb_287 : (Jvm.Cond.fieldLink "RoundVotes$Node" (62 : Nat) "RoundVotes$Node" "outgoing" "LRoundVotes$Message;") ∈ mTb := mIn2 (List.mem_of_getElem? (i := 47) rfl) rfl
theorem tb_288 : (Jvm.Cond.fieldLink "RoundVotes" (277 : Nat) "RoundVotes$Node" "outgoing" "LRoundVotes$Message;") ∈ mTb := mIn2 (List.mem_of_getElem? (i := 48) rfl) rfl
theorem tb_289 : (Jvm.Cond.fieldLink "RoundVotes$Node" (143 : Nat) "RoundVotes$Node" "hasToSend" "Z") ∈ mTb := mIn2 (List.mem_of_getElem? (i := 49) rfl) rfl
theorem tb_290 : (Jvm.Cond.fieldLink "RoundVotes" (274 : Nat) "RoundVotes$Node" "hasToSend" "Z") ∈ mTb := mIn2 (List.mem_of_getElem? (i := 50) rfl) rfl
theorem tb_291 : (Jvm.Cond.laysFinal "RoundVotes$Node" "RoundVotes$Node" "number" "I") ∈ mTb := mIn2 (List.mem_of_getElem? (i := 51) rfl) rfl
theorem tb_293 : (Jvm.Cond.laysFinal "RoundVotes$Node" "RoundVotes$Node" "setup" "LRoundVotes$Setup;") ∈ mTb := mIn2 (List.mem_of_getElem? (i := 53) rfl) rfl
theorem tb_295 : (Jvm.Cond.lays "RoundVotes$Node" "RoundVotes$Node" "height" "I") ∈ mTb := mIn2 (List.mem_of_getElem? (i := 55) rfl) rfl
theorem tb_297 : (Jvm.Cond.lays "RoundVotes$Node" "RoundVotes$Node" "round" "I") ∈ mTb := mIn2 (List.mem_of_getElem? (i := 57) rfl) rfl
theorem tb_299 : (Jvm.Cond.lays "RoundVotes$Node" "RoundVotes$Node" "step" "I") ∈ mTb := mIn2 (List.mem_of_getElem? (i := 59) rfl) rfl
theorem tb_301 : (Jvm.Cond.laysFinal "RoundVotes$Node" "RoundVotes$Node" "locked" "LRoundVotes$Choice;") ∈ mTb := mIn2 (List.mem_of_getElem? (i := 61) rfl) rfl
theorem tb_303 : (Jvm.Cond.laysFinal "RoundVotes$Node" "RoundVotes$Node" "valid" "LRoundVotes$Choice;") ∈ mTb := mIn2 (List.mem_of_getElem? (i := 63) rfl) rfl
theorem tb_305 : (Jvm.Cond.lays "RoundVotes$Node" "RoundVotes$Node" "behaviour" "I") ∈ mTb := mIn2 (List.mem_of_getElem? (i := 65) rfl) rfl
theorem tb_307 : (Jvm.Cond.lays "RoundVotes$Node" "RoundVotes$Node" "lastCutTurn" "I") ∈ mTb := mIn2 (List.mem_of_getElem? (i := 67) rfl) rfl
theorem tb_309 : (Jvm.Cond.laysFinal "RoundVotes$Node" "RoundVotes$Node" "timers" "[I") ∈ mTb := mIn2 (List.mem_of_getElem? (i := 69) rfl) rfl
theorem tb_311 : (Jvm.Cond.laysFinal "RoundVotes$Node" "RoundVotes$Node" "once" "[Z") ∈ mTb := mIn2 (List.mem_of_getElem? (i := 71) rfl) rfl
theorem tb_313 : (Jvm.Cond.laysFinal "RoundVotes$Node" "RoundVotes$Node" "decisions" "LRoundVotes$Decisions;") ∈ mTb := mIn2 (List.mem_of_getElem? (i := 73) rfl) rfl
theorem tb_315 : (Jvm.Cond.lays "RoundVotes$Node" "RoundVotes$Node" "present" "LRoundVotes$Ballots;") ∈ mTb := mIn2 (List.mem_of_getElem? (i := 75) rfl) rfl
theorem tb_317 : (Jvm.Cond.lays "RoundVotes$Node" "RoundVotes$Node" "next" "LRoundVotes$Ballots;") ∈ mTb := mIn2 (List.mem_of_getElem? (i := 77) rfl) rfl
theorem tb_319 : (Jvm.Cond.laysFinal "RoundVotes$Node" "RoundVotes$Node" "signed" "LRoundVotes$Ballots;") ∈ mTb := mIn2 (List.mem_of_getElem? (i := 79) rfl) rfl
theorem tb_321 : (Jvm.Cond.laysFinal "RoundVotes$Node" "RoundVotes$Node" "sendings" "LRoundVotes$Sendings;") ∈ mTb := mIn2 (List.mem_of_getElem? (i := 81) rfl) rfl
theorem tb_323 : (Jvm.Cond.laysFinal "RoundVotes$Node" "RoundVotes$Node" "outgoing" "LRoundVotes$Message;") ∈ mTb := mIn2 (List.mem_of_getElem? (i := 83) rfl) rfl
theorem tb_325 : (Jvm.Cond.lays "RoundVotes$Node" "RoundVotes$Node" "hasToSend" "Z") ∈ mTb := mIn2 (List.mem_of_getElem? (i := 85) rfl) rfl
theorem tb_328 : (Jvm.Cond.fieldLink "RoundVotes" (35 : Nat) "RoundVotes" "setup" "LRoundVotes$Setup;") ∈ mTb := mIn2 (List.mem_of_getElem? (i := 88) rfl) rfl
theorem tb_329 : (Jvm.Cond.fieldLink "RoundVotes" (45 : Nat) "RoundVotes" "nodes" "[LRoundVotes$Node;") ∈ mTb := mIn2 (List.mem_of_getElem? (i := 89) rfl) rfl
theorem tb_330 : (Jvm.Cond.fieldLink "RoundVotes" (10 : Nat) "RoundVotes" "mail" "LRoundVotes$Mail;") ∈ mTb := mIn2 (List.mem_of_getElem? (i := 90) rfl) rfl
theorem tb_331 : (Jvm.Cond.fieldLink "RoundVotes" (19 : Nat) "RoundVotes" "told" "LRoundVotes$Told;") ∈ mTb := mIn2 (List.mem_of_getElem? (i := 91) rfl) rfl
theorem tb_332 : (Jvm.Cond.fieldLink "RoundVotes" (26 : Nat) "RoundVotes" "faults" "LRoundVotes$Faults;") ∈ mTb := mIn2 (List.mem_of_getElem? (i := 92) rfl) rfl
theorem tb_333 : (Jvm.Cond.fieldLink "RoundVotes" (57 : Nat) "RoundVotes" "time" "I") ∈ mTb := mIn2 (List.mem_of_getElem? (i := 93) rfl) rfl
theorem tb_334 : (Jvm.Cond.fieldLink "RoundVotes" (71 : Nat) "RoundVotes" "gone" "I") ∈ mTb := mIn2 (List.mem_of_getElem? (i := 94) rfl) rfl
theorem tb_335 : (Jvm.Cond.fieldLink "RoundVotes" (211 : Nat) "RoundVotes" "came" "I") ∈ mTb := mIn2 (List.mem_of_getElem? (i := 95) rfl) rfl
theorem tb_336 : (Jvm.Cond.fieldLink "RoundVotes" (214 : Nat) "RoundVotes" "lost" "I") ∈ mTb := mIn2 (List.mem_of_getElem? (i := 96) rfl) rfl
theorem tb_337 : (Jvm.Cond.fieldLink "RoundVotes" (83 : Nat) "RoundVotes" "sideBits" "I") ∈ mTb := mIn2 (List.mem_of_getElem? (i := 97) rfl) rfl
theorem tb_338 : (Jvm.Cond.fieldLink "RoundVotes" (86 : Nat) "RoundVotes" "firstSideTurn" "I") ∈ mTb := mIn2 (List.mem_of_getElem? (i := 98) rfl) rfl
theorem tb_339 : (Jvm.Cond.fieldLink "RoundVotes" (89 : Nat) "RoundVotes" "lastSideTurn" "I") ∈ mTb := mIn2 (List.mem_of_getElem? (i := 99) rfl) rfl
theorem tb_340 : (Jvm.Cond.laysFinal "RoundVotes" "RoundVotes" "setup" "LRoundVotes$Setup;") ∈ mTb := mIn2 (List.mem_of_getElem? (i := 100) rfl) rfl
theorem tb_342 : (Jvm.Cond.laysFinal "RoundVotes" "RoundVotes" "nodes" "[LRoundVotes$Node;") ∈ mTb := mIn2 (List.mem_of_getElem? (i := 102) rfl) rfl
theorem tb_344 : (Jvm.Cond.laysFinal "RoundVotes" "RoundVotes" "mail" "LRoundVotes$Mail;") ∈ mTb := mIn2 (List.mem_of_getElem? (i := 104) rfl) rfl
theorem tb_346 : (Jvm.Cond.laysFinal "RoundVotes" "RoundVotes" "told" "LRoundVotes$Told;") ∈ mTb := mIn2 (List.mem_of_getElem? (i := 106) rfl) rfl
theorem tb_348 : (Jvm.Cond.laysFinal "RoundVotes" "RoundVotes" "faults" "LRoundVotes$Faults;") ∈ mTb := mIn2 (List.mem_of_getElem? (i := 108) rfl) rfl
theorem tb_350 : (Jvm.Cond.lays "RoundVotes" "RoundVotes" "time" "I") ∈ mTb := mIn2 (List.mem_of_getElem? (i := 110) rfl) rfl
theorem tb_352 : (Jvm.Cond.lays "RoundVotes" "RoundVotes" "gone" "I") ∈ mTb := mIn2 (List.mem_of_getElem? (i := 112) rfl) rfl
theorem tb_354 : (Jvm.Cond.lays "RoundVotes" "RoundVotes" "came" "I") ∈ mTb := mIn2 (List.mem_of_getElem? (i := 114) rfl) rfl
theorem tb_356 : (Jvm.Cond.lays "RoundVotes" "RoundVotes" "lost" "I") ∈ mTb := mIn2 (List.mem_of_getElem? (i := 116) rfl) rfl
theorem tb_358 : (Jvm.Cond.lays "RoundVotes" "RoundVotes" "sideBits" "I") ∈ mTb := mIn2 (List.mem_of_getElem? (i := 118) rfl) rfl
theorem tb_360 : (Jvm.Cond.lays "RoundVotes" "RoundVotes" "firstSideTurn" "I") ∈ mTb := mIn2 (List.mem_of_getElem? (i := 120) rfl) rfl
theorem tb_362 : (Jvm.Cond.lays "RoundVotes" "RoundVotes" "lastSideTurn" "I") ∈ mTb := mIn2 (List.mem_of_getElem? (i := 122) rfl) rfl
theorem tb_365 : (Jvm.Cond.methodLink "RoundVotesLaw" (21 : Nat) ({ cls := "RoundVotes", name := "weight", desc := "(II)I" } : Jvm.MethodName)) ∈ mTb := mIn2 (List.mem_of_getElem? (i := 125) rfl) rfl
theorem tb_366 : (Jvm.Cond.instanceMethod ({ cls := "RoundVotes", name := "weight", desc := "(II)I" } : Jvm.MethodName)) ∈ mTb := mIn2 (List.mem_of_getElem? (i := 126) rfl) rfl
theorem tb_367 : (Jvm.Cond.selects "RoundVotes" ({ cls := "RoundVotes", name := "weight", desc := "(II)I" } : Jvm.MethodName) ({ cls := "RoundVotes", name := "weight", desc := "(II)I" } : Jvm.MethodName)) ∈ mTb := mIn2 (List.mem_of_getElem? (i := 127) rfl) rfl
theorem tb_368 : (Jvm.Cond.code ({ cls := "RoundVotes", name := "weight", desc := "(II)I" } : Jvm.MethodName) prog_1_method_2_code (4 : Nat) (Option.some Jvm.ClassFile.FieldType.int)) ∈ mTb := mIn2 (List.mem_of_getElem? (i := 128) rfl) rfl
theorem tb_369 : (Jvm.Cond.methodLink "RoundVotes" (52 : Nat) ({ cls := "RoundVotes", name := "isNode", desc := "(I)Z" } : Jvm.MethodName)) ∈ mTb := mIn2 (List.mem_of_getElem? (i := 129) rfl) rfl
theorem tb_371 : (Jvm.Cond.instanceMethod ({ cls := "RoundVotes", name := "isNode", desc := "(I)Z" } : Jvm.MethodName)) ∈ mTb := mIn2 (List.mem_of_getElem? (i := 131) rfl) rfl
theorem tb_372 : (Jvm.Cond.code ({ cls := "RoundVotes", name := "isNode", desc := "(I)Z" } : Jvm.MethodName) prog_1_method_17_code (2 : Nat) (Option.some Jvm.ClassFile.FieldType.boolean)) ∈ mTb := mIn2 (List.mem_of_getElem? (i := 132) rfl) rfl
theorem tb_373 : (Jvm.Cond.constant "RoundVotes" (56 : Nat) (1000000 : Int32)) ∈ mTb := mIn2 (List.mem_of_getElem? (i := 133) rfl) rfl
theorem tb_374 : (Jvm.Cond.methodLink "RoundVotes" (60 : Nat) ({ cls := "RoundVotes", name := "greatestHeight", desc := "()I" } : Jvm.MethodName)) ∈ mTb := mIn2 (List.mem_of_getElem? (i := 134) rfl) rfl
theorem tb_376 : (Jvm.Cond.instanceMethod ({ cls := "RoundVotes", name := "greatestHeight", desc := "()I" } : Jvm.MethodName)) ∈ mTb := mIn2 (List.mem_of_getElem? (i := 136) rfl) rfl
theorem tb_377 : (Jvm.Cond.code ({ cls := "RoundVotes", name := "greatestHeight", desc := "()I" } : Jvm.MethodName) prog_1_method_19_code (3 : Nat) (Option.some Jvm.ClassFile.FieldType.int)) ∈ mTb := mIn2 (List.mem_of_getElem? (i := 137) rfl) rfl
theorem tb_378 : (Jvm.Cond.methodLink "RoundVotes" (147 : Nat) ({ cls := "java/lang/Math", name := "max", desc := "(II)I" } : Jvm.MethodName)) ∈ mTb := mIn2 (List.mem_of_getElem? (i := 138) rfl) rfl
theorem tb_379 : (Jvm.Cond.methodLink "RoundVotes" (64 : Nat) ({ cls := "RoundVotes$Setup", name := "changeWeight", desc := "(III)V" } : Jvm.MethodName)) ∈ mTb := mIn2 (List.mem_of_getElem? (i := 139) rfl) rfl
theorem tb_380 : (Jvm.Cond.instanceMethod ({ cls := "RoundVotes$Setup", name := "changeWeight", desc := "(III)V" } : Jvm.MethodName)) ∈ mTb := mIn2 (List.mem_of_getElem? (i := 140) rfl) rfl
theorem tb_381 : (Jvm.Cond.selects "RoundVotes$Setup" ({ cls := "RoundVotes$Setup", name := "changeWeight", desc := "(III)V" } : Jvm.MethodName) ({ cls := "RoundVotes$Setup", name := "changeWeight", desc := "(III)V" } : Jvm.MethodName)) ∈ mTb := mIn2 (List.mem_of_getElem? (i := 141) rfl) rfl
theorem tb_382 : (Jvm.Cond.code ({ cls := "RoundVotes$Setup", name := "changeWeight", desc := "(III)V" } : Jvm.MethodName) prog_10_method_2_code (5 : Nat) (Option.none : Option Jvm.ClassFile.FieldType)) ∈ mTb := mIn2 (List.mem_of_getElem? (i := 142) rfl) rfl
theorem tb_383 : (Jvm.Cond.methodLink "RoundVotesLaw" (26 : Nat) ({ cls := "RoundVotes", name := "behave", desc := "(II)I" } : Jvm.MethodName)) ∈ mTb := mIn2 (List.mem_of_getElem? (i := 143) rfl) rfl
theorem tb_384 : (Jvm.Cond.instanceMethod ({ cls := "RoundVotes", name := "behave", desc := "(II)I" } : Jvm.MethodName)) ∈ mTb := mIn2 (List.mem_of_getElem? (i := 144) rfl) rfl
theorem tb_385 : (Jvm.Cond.selects "RoundVotes" ({ cls := "RoundVotes", name := "behave", desc := "(II)I" } : Jvm.MethodName) ({ cls := "RoundVotes", name := "behave", desc := "(II)I" } : Jvm.MethodName)) ∈ mTb := mIn2 (List.mem_of_getElem? (i := 145) rfl) rfl
theorem tb_386 : (Jvm.Cond.code ({ cls := "RoundVotes", name := "behave", desc := "(II)I" } : Jvm.MethodName) prog_1_method_3_code (4 : Nat) (Option.some Jvm.ClassFile.FieldType.int)) ∈ mTb := mIn2 (List.mem_of_getElem? (i := 146) rfl) rfl
theorem tb_387 : (Jvm.Cond.methodLink "RoundVotesLaw" (30 : Nat) ({ cls := "RoundVotes", name := "disturb", desc := "(III)I" } : Jvm.MethodName)) ∈ mTb := mIn2 (List.mem_of_getElem? (i := 147) rfl) rfl
theorem tb_388 : (Jvm.Cond.instanceMethod ({ cls := "RoundVotes", name := "disturb", desc := "(III)I" } : Jvm.MethodName)) ∈ mTb := mIn2 (List.mem_of_getElem? (i := 148) rfl) rfl
theorem tb_389 : (Jvm.Cond.selects "RoundVotes" ({ cls := "RoundVotes", name := "disturb", desc := "(III)I" } : Jvm.MethodName) ({ cls := "RoundVotes", name := "disturb", desc := "(III)I" } : Jvm.MethodName)) ∈ mTb := mIn2 (List.mem_of_getElem? (i := 149) rfl) rfl
theorem tb_390 : (Jvm.Cond.code ({ cls := "RoundVotes", name := "disturb", desc := "(III)I" } : Jvm.MethodName) prog_1_method_4_code (4 : Nat) (Option.some Jvm.ClassFile.FieldType.int)) ∈ mTb := mIn2 (List.mem_of_getElem? (i := 150) rfl) rfl
theorem tb_391 : (Jvm.Cond.methodLink "RoundVotes" (74 : Nat) ({ cls := "RoundVotes$Told", name := "find", desc := "(I)I" } : Jvm.MethodName)) ∈ mTb := mIn2 (List.mem_of_getElem? (i := 151) rfl) rfl
theorem tb_392 : (Jvm.Cond.instanceMethod ({ cls := "RoundVotes$Told", name := "find", desc := "(I)I" } : Jvm.MethodName)) ∈ mTb := mIn2 (List.mem_of_getElem? (i := 152) rfl) rfl
theorem tb_393 : (Jvm.Cond.selects "RoundVotes$Told" ({ cls := "RoundVotes$Told", name := "find", desc := "(I)I" } : Jvm.MethodName) ({ cls := "RoundVotes$Told", name := "find", desc := "(I)I" } : Jvm.MethodName)) ∈ mTb := mIn2 (List.mem_of_getElem? (i := 153) rfl) rfl
theorem tb_394 : (Jvm.Cond.code ({ cls := "RoundVotes$Told", name := "find", desc := "(I)I" } : Jvm.MethodName) prog_11_method_2_code (3 : Nat) (Option.some Jvm.ClassFile.FieldType.int)) ∈ mTb := mIn2 (List.mem_of_getElem? (i := 154) rfl) rfl
theorem tb_395 : (Jvm.Cond.methodLink "RoundVotes" (78 : Nat) ({ cls := "RoundVotes$Told", name := "add", desc := "(III)Z" } : Jvm.MethodName)) ∈ mTb := mIn2 (List.mem_of_getElem? (i := 155) rfl) rfl
theorem tb_396 : (Jvm.Cond.instanceMethod ({ cls := "RoundVotes$Told", name := "add", desc := "(III)Z" } : Jvm.MethodName)) ∈ mTb := mIn2 (List.mem_of_getElem? (i := 156) rfl) rfl
theorem tb_397 : (Jvm.Cond.selects "RoundVotes$Told" ({ cls := "RoundVotes$Told", name := "add", desc := "(III)Z" } : Jvm.MethodName) ({ cls := "RoundVotes$Told", name := "add", desc := "(III)Z" } : Jvm.MethodName)) ∈ mTb := mIn2 (List.mem_of_getElem? (i := 157) rfl) rfl
theorem tb_398 : (Jvm.Cond.code ({ cls := "RoundVotes$Told", name := "add", desc := "(III)Z" } : Jvm.MethodName) prog_11_method_3_code (4 : Nat) (Option.some Jvm.ClassFile.FieldType.boolean)) ∈ mTb := mIn2 (List.mem_of_getElem? (i := 158) rfl) rfl
theorem tb_399 : (Jvm.Cond.methodLink "RoundVotesLaw" (35 : Nat) ({ cls := "RoundVotes", name := "sides", desc := "(II)I" } : Jvm.MethodName)) ∈ mTb := mIn2 (List.mem_of_getElem? (i := 159) rfl) rfl
theorem tb_400 : (Jvm.Cond.instanceMethod ({ cls := "RoundVotes", name := "sides", desc := "(II)I" } : Jvm.MethodName)) ∈ mTb := mIn2 (List.mem_of_getElem? (i := 160) rfl) rfl
theorem tb_401 : (Jvm.Cond.selects "RoundVotes" ({ cls := "RoundVotes", name := "sides", desc := "(II)I" } : Jvm.MethodName) ({ cls := "RoundVotes", name := "sides", desc := "(II)I" } : Jvm.MethodName)) ∈ mTb := mIn2 (List.mem_of_getElem? (i := 161) rfl) rfl
theorem tb_402 : (Jvm.Cond.code ({ cls := "RoundVotes", name := "sides", desc := "(II)I" } : Jvm.MethodName) prog_1_method_5_code (3 : Nat) (Option.some Jvm.ClassFile.FieldType.int)) ∈ mTb := mIn2 (List.mem_of_getElem? (i := 162) rfl) rfl
theorem tb_403 : (Jvm.Cond.methodLink "RoundVotesLaw" (39 : Nat) ({ cls := "RoundVotes", name := "cut", desc := "(II)I" } : Jvm.MethodName)) ∈ mTb := mIn2 (List.mem_of_getElem? (i := 163) rfl) rfl
theorem tb_404 : (Jvm.Cond.instanceMethod ({ cls := "RoundVotes", name := "cut", desc := "(II)I" } : Jvm.MethodName)) ∈ mTb := mIn2 (List.mem_of_getElem? (i := 164) rfl) rfl
theorem tb_405 : (Jvm.Cond.selects "RoundVotes" ({ cls := "RoundVotes", name := "cut", desc := "(II)I" } : Jvm.MethodName) ({ cls := "RoundVotes", name := "cut", desc := "(II)I" } : Jvm.MethodName)) ∈ mTb := mIn2 (List.mem_of_getElem? (i := 165) rfl) rfl
theorem tb_406 : (Jvm.Cond.code ({ cls := "RoundVotes", name := "cut", desc := "(II)I" } : Jvm.MethodName) prog_1_method_6_code (3 : Nat) (Option.some Jvm.ClassFile.FieldType.int)) ∈ mTb := mIn2 (List.mem_of_getElem? (i := 166) rfl) rfl
theorem tb_407 : (Jvm.Cond.methodLink "RoundVotes" (92 : Nat) ({ cls := "RoundVotes$Node", name := "isCut", desc := "()Z" } : Jvm.MethodName)) ∈ mTb := mIn2 (List.mem_of_getElem? (i := 167) rfl) rfl
theorem tb_408 : (Jvm.Cond.instanceMethod ({ cls := "RoundVotes$Node", name := "isCut", desc := "()Z" } : Jvm.MethodName)) ∈ mTb := mIn2 (List.mem_of_getElem? (i := 168) rfl) rfl
theorem tb_409 : (Jvm.Cond.selects "RoundVotes$Node" ({ cls := "RoundVotes$Node", name := "isCut", desc := "()Z" } : Jvm.MethodName) ({ cls := "RoundVotes$Node", name := "isCut", desc := "()Z" } : Jvm.MethodName)) ∈ mTb := mIn2 (List.mem_of_getElem? (i := 169) rfl) rfl
theorem tb_410 : (Jvm.Cond.code ({ cls := "RoundVotes$Node", name := "isCut", desc := "()Z" } : Jvm.MethodName) prog_8_method_2_code (1 : Nat) (Option.some Jvm.ClassFile.FieldType.boolean)) ∈ mTb := mIn2 (List.mem_of_getElem? (i := 170) rfl) rfl
theorem tb_411 : (Jvm.Cond.methodLink "RoundVotesLaw" (43 : Nat) ({ cls := "RoundVotes", name := "turn", desc := "(I)I" } : Jvm.MethodName)) ∈ mTb := mIn2 (List.mem_of_getElem? (i := 171) rfl) rfl
theorem tb_412 : (Jvm.Cond.instanceMethod ({ cls := "RoundVotes", name := "turn", desc := "(I)I" } : Jvm.MethodName)) ∈ mTb := mIn2 (List.mem_of_getElem? (i := 172) rfl) rfl
theorem tb_413 : (Jvm.Cond.selects "RoundVotes" ({ cls := "RoundVotes", name := "turn", desc := "(I)I" } : Jvm.MethodName) ({ cls := "RoundVotes", name := "turn", desc := "(I)I" } : Jvm.MethodName)) ∈ mTb := mIn2 (List.mem_of_getElem? (i := 173) rfl) rfl
theorem tb_414 : (Jvm.Cond.code ({ cls := "RoundVotes", name := "turn", desc := "(I)I" } : Jvm.MethodName) prog_1_method_7_code (3 : Nat) (Option.some Jvm.ClassFile.FieldType.int)) ∈ mTb := mIn2 (List.mem_of_getElem? (i := 174) rfl) rfl
theorem tb_415 : (Jvm.Cond.methodLink "RoundVotes" (99 : Nat) ({ cls := "RoundVotes", name := "beginAll", desc := "()V" } : Jvm.MethodName)) ∈ mTb := mIn2 (List.mem_of_getElem? (i := 175) rfl) rfl
theorem tb_417 : (Jvm.Cond.instanceMethod ({ cls := "RoundVotes", name := "beginAll", desc := "()V" } : Jvm.MethodName)) ∈ mTb := mIn2 (List.mem_of_getElem? (i := 177) rfl) rfl
theorem tb_418 : (Jvm.Cond.code ({ cls := "RoundVotes", name := "beginAll", desc := "()V" } : Jvm.MethodName) prog_1_method_22_code (2 : Nat) (Option.none : Option Jvm.ClassFile.FieldType)) ∈ mTb := mIn2 (List.mem_of_getElem? (i := 178) rfl) rfl
theorem tb_419 : (Jvm.Cond.methodLink "RoundVotes" (122 : Nat) ({ cls := "RoundVotes$Node", name := "begin", desc := "(II)V" } : Jvm.MethodName)) ∈ mTb := mIn2 (List.mem_of_getElem? (i := 179) rfl) rfl
theorem tb_420 : (Jvm.Cond.instanceMethod ({ cls := "RoundVotes$Node", name := "begin", desc := "(II)V" } : Jvm.MethodName)) ∈ mTb := mIn2 (List.mem_of_getElem? (i := 180) rfl) rfl
theorem tb_421 : (Jvm.Cond.selects "RoundVotes$Node" ({ cls := "RoundVotes$Node", name := "begin", desc := "(II)V" } : Jvm.MethodName) ({ cls := "RoundVotes$Node", name := "begin", desc := "(II)V" } : Jvm.MethodName)) ∈ mTb := mIn2 (List.mem_of_getElem? (i := 181) rfl) rfl
theorem tb_422 : (Jvm.Cond.code ({ cls := "RoundVotes$Node", name := "begin", desc := "(II)V" } : Jvm.MethodName) prog_8_method_4_code (4 : Nat) (Option.none : Option Jvm.ClassFile.FieldType)) ∈ mTb := mIn2 (List.mem_of_getElem? (i := 182) rfl) rfl
theorem tb_423 : (Jvm.Cond.methodLink "RoundVotes$Node" (90 : Nat) ({ cls := "RoundVotes$Node", name := "standsStill", desc := "()Z" } : Jvm.MethodName)) ∈ mTb := mIn2 (List.mem_of_getElem? (i := 183) rfl) rfl
theorem tb_425 : (Jvm.Cond.instanceMethod ({ cls := "RoundVotes$Node", name := "standsStill", desc := "()Z" } : Jvm.MethodName)) ∈ mTb := mIn2 (List.mem_of_getElem? (i := 185) rfl) rfl
theorem tb_426 : (Jvm.Cond.code ({ cls := "RoundVotes$Node", name := "standsStill", desc := "()Z" } : Jvm.MethodName) prog_8_method_3_code (1 : Nat) (Option.some Jvm.ClassFile.FieldType.boolean)) ∈ mTb := mIn2 (List.mem_of_getElem? (i := 186) rfl) rfl
theorem tb_427 : (Jvm.Cond.methodLink "RoundVotes$Node" (94 : Nat) ({ cls := "RoundVotes$Setup", name := "proposer", desc := "(II)I" } : Jvm.MethodName)) ∈ mTb := mIn2 (List.mem_of_getElem? (i := 187) rfl) rfl
theorem tb_428 : (Jvm.Cond.instanceMethod ({ cls := "RoundVotes$Setup", name := "proposer", desc := "(II)I" } : Jvm.MethodName)) ∈ mTb := mIn2 (List.mem_of_getElem? (i := 188) rfl) rfl
theorem tb_429 : (Jvm.Cond.selects "RoundVotes$Setup" ({ cls := "RoundVotes$Setup", name := "proposer", desc := "(II)I" } : Jvm.MethodName) ({ cls := "RoundVotes$Setup", name := "proposer", desc := "(II)I" } : Jvm.MethodName)) ∈ mTb := mIn2 (List.mem_of_getElem? (i := 189) rfl) rfl
theorem tb_430 : (Jvm.Cond.code ({ cls := "RoundVotes$Setup", name := "proposer", desc := "(II)I" } : Jvm.MethodName) prog_10_method_4_code (3 : Nat) (Option.some Jvm.ClassFile.FieldType.int)) ∈ mTb := mIn2 (List.mem_of_getElem? (i := 190) rfl) rfl
theorem tb_431 : (Jvm.Cond.methodLink "RoundVotes$Node" (98 : Nat) ({ cls := "RoundVotes$Choice", name := "isNone", desc := "()Z" } : Jvm.MethodName)) ∈ mTb := mIn2 (List.mem_of_getElem? (i := 191) rfl) rfl
theorem tb_432 : (Jvm.Cond.instanceMethod ({ cls := "RoundVotes$Choice", name := "isNone", desc := "()Z" } : Jvm.MethodName)) ∈ mTb := mIn2 (List.mem_of_getElem? (i := 192) rfl) rfl
theorem tb_433 : (Jvm.Cond.selects "RoundVotes$Choice" ({ cls := "RoundVotes$Choice", name := "isNone", desc := "()Z" } : Jvm.MethodName) ({ cls := "RoundVotes$Choice", name := "isNone", desc := "()Z" } : Jvm.MethodName)) ∈ mTb := mIn2 (List.mem_of_getElem? (i := 193) rfl) rfl
theorem tb_434 : (Jvm.Cond.code ({ cls := "RoundVotes$Choice", name := "isNone", desc := "()Z" } : Jvm.MethodName) prog_3_method_3_code (1 : Nat) (Option.some Jvm.ClassFile.FieldType.boolean)) ∈ mTb := mIn2 (List.mem_of_getElem? (i := 194) rfl) rfl
theorem tb_435 : (Jvm.Cond.methodLink "RoundVotes$Node" (101 : Nat) ({ cls := "RoundVotes$Setup", name := "ownValue", desc := "(III)I" } : Jvm.MethodName)) ∈ mTb := mIn2 (List.mem_of_getElem? (i := 195) rfl) rfl
theorem tb_436 : (Jvm.Cond.instanceMethod ({ cls := "RoundVotes$Setup", name := "ownValue", desc := "(III)I" } : Jvm.MethodName)) ∈ mTb := mIn2 (List.mem_of_getElem? (i := 196) rfl) rfl
theorem tb_437 : (Jvm.Cond.selects "RoundVotes$Setup" ({ cls := "RoundVotes$Setup", name := "ownValue", desc := "(III)I" } : Jvm.MethodName) ({ cls := "RoundVotes$Setup", name := "ownValue", desc := "(III)I" } : Jvm.MethodName)) ∈ mTb := mIn2 (List.mem_of_getElem? (i := 197) rfl) rfl
theorem tb_438 : (Jvm.Cond.code ({ cls := "RoundVotes$Setup", name := "ownValue", desc := "(III)I" } : Jvm.MethodName) prog_10_method_5_code (5 : Nat) (Option.some Jvm.ClassFile.FieldType.int)) ∈ mTb := mIn2 (List.mem_of_getElem? (i := 198) rfl) rfl
theorem tb_439 : (Jvm.Cond.constant "RoundVotes$Setup" (42 : Nat) (104729 : Int32)) ∈ mTb := mIn2 (List.mem_of_getElem? (i := 199) rfl) rfl
theorem tb_440 : (Jvm.Cond.constant "RoundVotes$Setup" (43 : Nat) (1299709 : Int32)) ∈ mTb := mIn2 (List.mem_of_getElem? (i := 200) rfl) rfl
theorem tb_441 : (Jvm.Cond.constant "RoundVotes$Setup" (44 : Nat) (1048575 : Int32)) ∈ mTb := mIn2 (List.mem_of_getElem? (i := 201) rfl) rfl
theorem tb_442 : (Jvm.Cond.methodLink "RoundVotes$Node" (105 : Nat) ({ cls := "RoundVotes$Node", name := "send", desc := "(III)V" } : Jvm.MethodName)) ∈ mTb := mIn2 (List.mem_of_getElem? (i := 202) rfl) rfl
theorem tb_444 : (Jvm.Cond.instanceMethod ({ cls := "RoundVotes$Node", name := "send", desc := "(III)V" } : Jvm.MethodName)) ∈ mTb := mIn2 (List.mem_of_getElem? (i := 204) rfl) rfl
theorem tb_445 : (Jvm.Cond.code ({ cls := "RoundVotes$Node", name := "send", desc := "(III)V" } : Jvm.MethodName) prog_8_method_7_code (6 : Nat) (Option.none : Option Jvm.ClassFile.FieldType)) ∈ mTb := mIn2 (List.mem_of_getElem? (i := 205) rfl) rfl
theorem tb_446 : (Jvm.Cond.methodLink "RoundVotes$Node" (116 : Nat) ({ cls := "RoundVotes$Ballots", name := "holds", desc := "(III)Z" } : Jvm.MethodName)) ∈ mTb := mIn2 (List.mem_of_getElem? (i := 206) rfl) rfl
theorem tb_447 : (Jvm.Cond.instanceMethod ({ cls := "RoundVotes$Ballots", name := "holds", desc := "(III)Z" } : Jvm.MethodName)) ∈ mTb := mIn2 (List.mem_of_getElem? (i := 207) rfl) rfl
theorem tb_448 : (Jvm.Cond.selects "RoundVotes$Ballots" ({ cls := "RoundVotes$Ballots", name := "holds", desc := "(III)Z" } : Jvm.MethodName) ({ cls := "RoundVotes$Ballots", name := "holds", desc := "(III)Z" } : Jvm.MethodName)) ∈ mTb := mIn2 (List.mem_of_getElem? (i := 208) rfl) rfl
theorem tb_449 : (Jvm.Cond.code ({ cls := "RoundVotes$Ballots", name := "holds", desc := "(III)Z" } : Jvm.MethodName) prog_2_method_4_code (4 : Nat) (Option.some Jvm.ClassFile.FieldType.boolean)) ∈ mTb := mIn2 (List.mem_of_getElem? (i := 209) rfl) rfl
theorem tb_450 : (Jvm.Cond.methodLink "RoundVotes$Node" (120 : Nat) ({ cls := "RoundVotes$Ballots", name := "valueOf", desc := "(III)I" } : Jvm.MethodName)) ∈ mTb := mIn2 (List.mem_of_getElem? (i := 210) rfl) rfl
theorem tb_451 : (Jvm.Cond.instanceMethod ({ cls := "RoundVotes$Ballots", name := "valueOf", desc := "(III)I" } : Jvm.MethodName)) ∈ mTb := mIn2 (List.mem_of_getElem? (i := 211) rfl) rfl
theorem tb_452 : (Jvm.Cond.selects "RoundVotes$Ballots" ({ cls := "RoundVotes$Ballots", name := "valueOf", desc := "(III)I" } : Jvm.MethodName) ({ cls := "RoundVotes$Ballots", name := "valueOf", desc := "(III)I" } : Jvm.MethodName)) ∈ mTb := mIn2 (List.mem_of_getElem? (i := 212) rfl) rfl
theorem tb_453 : (Jvm.Cond.code ({ cls := "RoundVotes$Ballots", name := "valueOf", desc := "(III)I" } : Jvm.MethodName) prog_2_method_2_code (4 : Nat) (Option.some Jvm.ClassFile.FieldType.int)) ∈ mTb := mIn2 (List.mem_of_getElem? (i := 213) rfl) rfl
theorem tb_454 : (Jvm.Cond.methodLink "RoundVotes$Node" (123 : Nat) ({ cls := "RoundVotes$Ballots", name := "sinceOf", desc := "(I)I" } : Jvm.MethodName)) ∈ mTb := mIn2 (List.mem_of_getElem? (i := 214) rfl) rfl
theorem tb_455 : (Jvm.Cond.instanceMethod ({ cls := "RoundVotes$Ballots", name := "sinceOf", desc := "(I)I" } : Jvm.MethodName)) ∈ mTb := mIn2 (List.mem_of_getElem? (i := 215) rfl) rfl
theorem tb_456 : (Jvm.Cond.selects "RoundVotes$Ballots" ({ cls := "RoundVotes$Ballots", name := "sinceOf", desc := "(I)I" } : Jvm.MethodName) ({ cls := "RoundVotes$Ballots", name := "sinceOf", desc := "(I)I" } : Jvm.MethodName)) ∈ mTb := mIn2 (List.mem_of_getElem? (i := 216) rfl) rfl
theorem tb_457 : (Jvm.Cond.code ({ cls := "RoundVotes$Ballots", name := "sinceOf", desc := "(I)I" } : Jvm.MethodName) prog_2_method_3_code (2 : Nat) (Option.some Jvm.ClassFile.FieldType.int)) ∈ mTb := mIn2 (List.mem_of_getElem? (i := 217) rfl) rfl
theorem tb_458 : (Jvm.Cond.methodLink "RoundVotes$Node" (127 : Nat) ({ cls := "RoundVotes$Ballots", name := "put", desc := "(IIIII)V" } : Jvm.MethodName)) ∈ mTb := mIn2 (List.mem_of_getElem? (i := 218) rfl) rfl
theorem tb_459 : (Jvm.Cond.instanceMethod ({ cls := "RoundVotes$Ballots", name := "put", desc := "(IIIII)V" } : Jvm.MethodName)) ∈ mTb := mIn2 (List.mem_of_getElem? (i := 219) rfl) rfl
theorem tb_460 : (Jvm.Cond.selects "RoundVotes$Ballots" ({ cls := "RoundVotes$Ballots", name := "put", desc := "(IIIII)V" } : Jvm.MethodName) ({ cls := "RoundVotes$Ballots", name := "put", desc := "(IIIII)V" } : Jvm.MethodName)) ∈ mTb := mIn2 (List.mem_of_getElem? (i := 220) rfl) rfl
theorem tb_461 : (Jvm.Cond.code ({ cls := "RoundVotes$Ballots", name := "put", desc := "(IIIII)V" } : Jvm.MethodName) prog_2_method_5_code (6 : Nat) (Option.none : Option Jvm.ClassFile.FieldType)) ∈ mTb := mIn2 (List.mem_of_getElem? (i := 221) rfl) rfl
theorem tb_462 : (Jvm.Cond.methodLink "RoundVotes" (125 : Nat) ({ cls := "RoundVotes", name := "settle", desc := "(LRoundVotes$Node;)V" } : Jvm.MethodName)) ∈ mTb := mIn2 (List.mem_of_getElem? (i := 222) rfl) rfl
theorem tb_464 : (Jvm.Cond.instanceMethod ({ cls := "RoundVotes", name := "settle", desc := "(LRoundVotes$Node;)V" } : Jvm.MethodName)) ∈ mTb := mIn2 (List.mem_of_getElem? (i := 224) rfl) rfl
theorem tb_465 : (Jvm.Cond.code ({ cls := "RoundVotes", name := "settle", desc := "(LRoundVotes$Node;)V" } : Jvm.MethodName) prog_1_method_27_code (3 : Nat) (Option.none : Option Jvm.ClassFile.FieldType)) ∈ mTb := mIn2 (List.mem_of_getElem? (i := 225) rfl) rfl
theorem tb_466 : (Jvm.Cond.methodLink "RoundVotes" (268 : Nat) ({ cls := "RoundVotes", name := "dispatch", desc := "(LRoundVotes$Node;)V" } : Jvm.MethodName)) ∈ mTb := mIn2 (List.mem_of_getElem? (i := 226) rfl) rfl
theorem tb_468 : (Jvm.Cond.instanceMethod ({ cls := "RoundVotes", name := "dispatch", desc := "(LRoundVotes$Node;)V" } : Jvm.MethodName)) ∈ mTb := mIn2 (List.mem_of_getElem? (i := 228) rfl) rfl
theorem tb_469 : (Jvm.Cond.code ({ cls := "RoundVotes", name := "dispatch", desc := "(LRoundVotes$Node;)V" } : Jvm.MethodName) prog_1_method_28_code (8 : Nat) (Option.none : Option Jvm.ClassFile.FieldType)) ∈ mTb := mIn2 (List.mem_of_getElem? (i := 229) rfl) rfl
theorem tb_470 : (Jvm.Cond.methodLink "RoundVotes" (282 : Nat) ({ cls := "RoundVotes$Message", name := "otherValue", desc := "()I" } : Jvm.MethodName)) ∈ mTb := mIn2 (List.mem_of_getElem? (i := 230) rfl) rfl
theorem tb_471 : (Jvm.Cond.instanceMethod ({ cls := "RoundVotes$Message", name := "otherValue", desc := "()I" } : Jvm.MethodName)) ∈ mTb := mIn2 (List.mem_of_getElem? (i := 231) rfl) rfl
theorem tb_472 : (Jvm.Cond.selects "RoundVotes$Message" ({ cls := "RoundVotes$Message", name := "otherValue", desc := "()I" } : Jvm.MethodName) ({ cls := "RoundVotes$Message", name := "otherValue", desc := "()I" } : Jvm.MethodName)) ∈ mTb := mIn2 (List.mem_of_getElem? (i := 232) rfl) rfl
theorem tb_473 : (Jvm.Cond.code ({ cls := "RoundVotes$Message", name := "otherValue", desc := "()I" } : Jvm.MethodName) prog_7_method_3_code (1 : Nat) (Option.some Jvm.ClassFile.FieldType.int)) ∈ mTb := mIn2 (List.mem_of_getElem? (i := 233) rfl) rfl
theorem tb_474 : (Jvm.Cond.methodLink "RoundVotes" (285 : Nat) ({ cls := "RoundVotes$Node", name := "timesSending", desc := "()I" } : Jvm.MethodName)) ∈ mTb := mIn2 (List.mem_of_getElem? (i := 234) rfl) rfl
theorem tb_475 : (Jvm.Cond.instanceMethod ({ cls := "RoundVotes$Node", name := "timesSending", desc := "()I" } : Jvm.MethodName)) ∈ mTb := mIn2 (List.mem_of_getElem? (i := 235) rfl) rfl
theorem tb_476 : (Jvm.Cond.selects "RoundVotes$Node" ({ cls := "RoundVotes$Node", name := "timesSending", desc := "()I" } : Jvm.MethodName) ({ cls := "RoundVotes$Node", name := "timesSending", desc := "()I" } : Jvm.MethodName)) ∈ mTb := mIn2 (List.mem_of_getElem? (i := 236) rfl) rfl
theorem tb_477 : (Jvm.Cond.code ({ cls := "RoundVotes$Node", name := "timesSending", desc := "()I" } : Jvm.MethodName) prog_8_method_5_code (1 : Nat) (Option.some Jvm.ClassFile.FieldType.int)) ∈ mTb := mIn2 (List.mem_of_getElem? (i := 237) rfl) rfl
theorem tb_478 : (Jvm.Cond.methodLink "RoundVotes" (291 : Nat) ({ cls := "RoundVotes$Node", name := "deceives", desc := "(I)Z" } : Jvm.MethodName)) ∈ mTb := mIn2 (List.mem_of_getElem? (i := 238) rfl) rfl
theorem tb_479 : (Jvm.Cond.instanceMethod ({ cls := "RoundVotes$Node", name := "deceives", desc := "(I)Z" } : Jvm.MethodName)) ∈ mTb := mIn2 (List.mem_of_getElem? (i := 239) rfl) rfl
theorem tb_480 : (Jvm.Cond.selects "RoundVotes$Node" ({ cls := "RoundVotes$Node", name := "deceives", desc := "(I)Z" } : Jvm.MethodName) ({ cls := "RoundVotes$Node", name := "deceives", desc := "(I)Z" } : Jvm.MethodName)) ∈ mTb := mIn3 (List.mem_of_getElem? (i := 0) rfl) rfl
theorem tb_481 : (Jvm.Cond.code ({ cls := "RoundVotes$Node", name := "deceives", desc := "(I)Z" } : Jvm.MethodName) prog_8_method_6_code (2 : Nat) (Option.some Jvm.ClassFile.FieldType.boolean)) ∈ mTb := mIn3 (List.mem_of_getElem? (i := 1) rfl) rfl
theorem tb_482 : (Jvm.Cond.methodLink "RoundVotes" (294 : Nat) ({ cls := "RoundVotes$Sendings", name := "add", desc := "(LRoundVotes$Message;)V" } : Jvm.MethodName)) ∈ mTb := mIn3 (List.mem_of_getElem? (i := 2) rfl) rfl
theorem tb_483 : (Jvm.Cond.instanceMethod ({ cls := "RoundVotes$Sendings", name := "add", desc := "(LRoundVotes$Message;)V" } : Jvm.MethodName)) ∈ mTb := mIn3 (List.mem_of_getElem? (i := 3) rfl) rfl
theorem tb_484 : (Jvm.Cond.selects "RoundVotes$Sendings" ({ cls := "RoundVotes$Sendings", name := "add", desc := "(LRoundVotes$Message;)V" } : Jvm.MethodName) ({ cls := "RoundVotes$Sendings", name := "add", desc := "(LRoundVotes$Message;)V" } : Jvm.MethodName)) ∈ mTb := mIn3 (List.mem_of_getElem? (i := 4) rfl) rfl
theorem tb_485 : (Jvm.Cond.code ({ cls := "RoundVotes$Sendings", name := "add", desc := "(LRoundVotes$Message;)V" } : Jvm.MethodName) prog_9_method_2_code (3 : Nat) (Option.none : Option Jvm.ClassFile.FieldType)) ∈ mTb := mIn3 (List.mem_of_getElem? (i := 5) rfl) rfl
theorem tb_486 : (Jvm.Cond.methodLink "RoundVotes$Sendings" (32 : Nat) ({ cls := "RoundVotes$Ballots", name := "valueOf", desc := "(III)I" } : Jvm.MethodName)) ∈ mTb := mIn3 (List.mem_of_getElem? (i := 6) rfl) rfl
theorem tb_487 : (Jvm.Cond.methodLink "RoundVotes$Sendings" (42 : Nat) ({ cls := "RoundVotes$Ballots", name := "put", desc := "(IIIII)V" } : Jvm.MethodName)) ∈ mTb := mIn3 (List.mem_of_getElem? (i := 7) rfl) rfl
theorem tb_488 : (Jvm.Cond.methodLink "RoundVotes" (296 : Nat) ({ cls := "RoundVotes", name := "sendCopy", desc := "(LRoundVotes$Message;)V" } : Jvm.MethodName)) ∈ mTb := mIn3 (List.mem_of_getElem? (i := 8) rfl) rfl
theorem tb_490 : (Jvm.Cond.instanceMethod ({ cls := "RoundVotes", name := "sendCopy", desc := "(LRoundVotes$Message;)V" } : Jvm.MethodName)) ∈ mTb := mIn3 (List.mem_of_getElem? (i := 10) rfl) rfl
theorem tb_491 : (Jvm.Cond.code ({ cls := "RoundVotes", name := "sendCopy", desc := "(LRoundVotes$Message;)V" } : Jvm.MethodName) prog_1_method_29_code (5 : Nat) (Option.none : Option Jvm.ClassFile.FieldType)) ∈ mTb := mIn3 (List.mem_of_getElem? (i := 11) rfl) rfl
theorem tb_492 : (Jvm.Cond.methodLink "RoundVotes" (305 : Nat) ({ cls := "RoundVotes$Told", name := "remove", desc := "(I)V" } : Jvm.MethodName)) ∈ mTb := mIn3 (List.mem_of_getElem? (i := 12) rfl) rfl
theorem tb_493 : (Jvm.Cond.instanceMethod ({ cls := "RoundVotes$Told", name := "remove", desc := "(I)V" } : Jvm.MethodName)) ∈ mTb := mIn3 (List.mem_of_getElem? (i := 13) rfl) rfl
theorem tb_494 : (Jvm.Cond.selects "RoundVotes$Told" ({ cls := "RoundVotes$Told", name := "remove", desc := "(I)V" } : Jvm.MethodName) ({ cls := "RoundVotes$Told", name := "remove", desc := "(I)V" } : Jvm.MethodName)) ∈ mTb := mIn3 (List.mem_of_getElem? (i := 14) rfl) rfl
theorem tb_495 : (Jvm.Cond.code ({ cls := "RoundVotes$Told", name := "remove", desc := "(I)V" } : Jvm.MethodName) prog_11_method_4_code (2 : Nat) (Option.none : Option Jvm.ClassFile.FieldType)) ∈ mTb := mIn3 (List.mem_of_getElem? (i := 15) rfl) rfl
theorem tb_496 : (Jvm.Cond.methodLink "RoundVotes" (311 : Nat) ({ cls := "RoundVotes", name := "areOnUnlikeSides", desc := "(II)Z" } : Jvm.MethodName)) ∈ mTb := mIn3 (List.mem_of_getElem? (i := 16) rfl) rfl
theorem tb_498 : (Jvm.Cond.instanceMethod ({ cls := "RoundVotes", name := "areOnUnlikeSides", desc := "(II)Z" } : Jvm.MethodName)) ∈ mTb := mIn3 (List.mem_of_getElem? (i := 18) rfl) rfl
theorem tb_499 : (Jvm.Cond.code ({ cls := "RoundVotes", name := "areOnUnlikeSides", desc := "(II)Z" } : Jvm.MethodName) prog_1_method_30_code (4 : Nat) (Option.some Jvm.ClassFile.FieldType.boolean)) ∈ mTb := mIn3 (List.mem_of_getElem? (i := 19) rfl) rfl
theorem tb_500 : (Jvm.Cond.methodLink "RoundVotes" (315 : Nat) ({ cls := "RoundVotes$Mail", name := "post", desc := "(LRoundVotes$Message;IZ)Z" } : Jvm.MethodName)) ∈ mTb := mIn3 (List.mem_of_getElem? (i := 20) rfl) rfl
theorem tb_501 : (Jvm.Cond.instanceMethod ({ cls := "RoundVotes$Mail", name := "post", desc := "(LRoundVotes$Message;IZ)Z" } : Jvm.MethodName)) ∈ mTb := mIn3 (List.mem_of_getElem? (i := 21) rfl) rfl
theorem tb_502 : (Jvm.Cond.selects "RoundVotes$Mail" ({ cls := "RoundVotes$Mail", name := "post", desc := "(LRoundVotes$Message;IZ)Z" } : Jvm.MethodName) ({ cls := "RoundVotes$Mail", name := "post", desc := "(LRoundVotes$Message;IZ)Z" } : Jvm.MethodName)) ∈ mTb := mIn3 (List.mem_of_getElem? (i := 22) rfl) rfl
theorem tb_503 : (Jvm.Cond.code ({ cls := "RoundVotes$Mail", name := "post", desc := "(LRoundVotes$Message;IZ)Z" } : Jvm.MethodName) prog_6_method_2_code (5 : Nat) (Option.some Jvm.ClassFile.FieldType.boolean)) ∈ mTb := mIn3 (List.mem_of_getElem? (i := 23) rfl) rfl
theorem tb_505 : (Jvm.Cond.methodLink "RoundVotes$Mail" (25 : Nat) ({ cls := "RoundVotes$Message", name := "copyFrom", desc := "(LRoundVotes$Message;)V" } : Jvm.MethodName)) ∈ mTb := mIn3 (List.mem_of_getElem? (i := 25) rfl) rfl
theorem tb_506 : (Jvm.Cond.instanceMethod ({ cls := "RoundVotes$Message", name := "copyFrom", desc := "(LRoundVotes$Message;)V" } : Jvm.MethodName)) ∈ mTb := mIn3 (List.mem_of_getElem? (i := 26) rfl) rfl
theorem tb_507 : (Jvm.Cond.selects "RoundVotes$Message" ({ cls := "RoundVotes$Message", name := "copyFrom", desc := "(LRoundVotes$Message;)V" } : Jvm.MethodName) ({ cls := "RoundVotes$Message", name := "copyFrom", desc := "(LRoundVotes$Message;)V" } : Jvm.MethodName)) ∈ mTb := mIn3 (List.mem_of_getElem? (i := 27) rfl) rfl
theorem tb_508 : (Jvm.Cond.code ({ cls := "RoundVotes$Message", name := "copyFrom", desc := "(LRoundVotes$Message;)V" } : Jvm.MethodName) prog_7_method_2_code (2 : Nat) (Option.none : Option Jvm.ClassFile.FieldType)) ∈ mTb := mIn3 (List.mem_of_getElem? (i := 28) rfl) rfl
theorem tb_509 : (Jvm.Cond.methodLink "RoundVotes" (271 : Nat) ({ cls := "RoundVotes$Node", name := "followsRule", desc := "(I)Z" } : Jvm.MethodName)) ∈ mTb := mIn3 (List.mem_of_getElem? (i := 29) rfl) rfl
theorem tb_510 : (Jvm.Cond.instanceMethod ({ cls := "RoundVotes$Node", name := "followsRule", desc := "(I)Z" } : Jvm.MethodName)) ∈ mTb := mIn3 (List.mem_of_getElem? (i := 30) rfl) rfl
theorem tb_511 : (Jvm.Cond.selects "RoundVotes$Node" ({ cls := "RoundVotes$Node", name := "followsRule", desc := "(I)Z" } : Jvm.MethodName) ({ cls := "RoundVotes$Node", name := "followsRule", desc := "(I)Z" } : Jvm.MethodName)) ∈ mTb := mIn3 (List.mem_of_getElem? (i := 31) rfl) rfl
theorem tb_512 : (Jvm.Cond.code ({ cls := "RoundVotes$Node", name := "followsRule", desc := "(I)Z" } : Jvm.MethodName) prog_8_method_14_code (4 : Nat) (Option.some Jvm.ClassFile.FieldType.boolean)) ∈ mTb := mIn3 (List.mem_of_getElem? (i := 32) rfl) rfl
theorem tb_513 : (Jvm.Cond.methodLink "RoundVotes$Node" (184 : Nat) ({ cls := "RoundVotes$Node", name := "roundToDecide", desc := "()I" } : Jvm.MethodName)) ∈ mTb := mIn3 (List.mem_of_getElem? (i := 33) rfl) rfl
theorem tb_515 : (Jvm.Cond.instanceMethod ({ cls := "RoundVotes$Node", name := "roundToDecide", desc := "()I" } : Jvm.MethodName)) ∈ mTb := mIn3 (List.mem_of_getElem? (i := 35) rfl) rfl
theorem tb_516 : (Jvm.Cond.code ({ cls := "RoundVotes$Node", name := "roundToDecide", desc := "()I" } : Jvm.MethodName) prog_8_method_18_code (4 : Nat) (Option.some Jvm.ClassFile.FieldType.int)) ∈ mTb := mIn3 (List.mem_of_getElem? (i := 36) rfl) rfl
theorem tb_517 : (Jvm.Cond.methodLink "RoundVotes$Node" (172 : Nat) ({ cls := "RoundVotes$Node", name := "proposalOf", desc := "(I)I" } : Jvm.MethodName)) ∈ mTb := mIn3 (List.mem_of_getElem? (i := 37) rfl) rfl
theorem tb_519 : (Jvm.Cond.instanceMethod ({ cls := "RoundVotes$Node", name := "proposalOf", desc := "(I)I" } : Jvm.MethodName)) ∈ mTb := mIn3 (List.mem_of_getElem? (i := 39) rfl) rfl
theorem tb_520 : (Jvm.Cond.code ({ cls := "RoundVotes$Node", name := "proposalOf", desc := "(I)I" } : Jvm.MethodName) prog_8_method_15_code (2 : Nat) (Option.some Jvm.ClassFile.FieldType.int)) ∈ mTb := mIn3 (List.mem_of_getElem? (i := 40) rfl) rfl
theorem tb_521 : (Jvm.Cond.methodLink "RoundVotes$Node" (175 : Nat) ({ cls := "RoundVotes$Ballots", name := "votersFor", desc := "(III)I" } : Jvm.MethodName)) ∈ mTb := mIn3 (List.mem_of_getElem? (i := 41) rfl) rfl
theorem tb_522 : (Jvm.Cond.instanceMethod ({ cls := "RoundVotes$Ballots", name := "votersFor", desc := "(III)I" } : Jvm.MethodName)) ∈ mTb := mIn3 (List.mem_of_getElem? (i := 42) rfl) rfl
theorem tb_523 : (Jvm.Cond.selects "RoundVotes$Ballots" ({ cls := "RoundVotes$Ballots", name := "votersFor", desc := "(III)I" } : Jvm.MethodName) ({ cls := "RoundVotes$Ballots", name := "votersFor", desc := "(III)I" } : Jvm.MethodName)) ∈ mTb := mIn3 (List.mem_of_getElem? (i := 43) rfl) rfl
theorem tb_524 : (Jvm.Cond.code ({ cls := "RoundVotes$Ballots", name := "votersFor", desc := "(III)I" } : Jvm.MethodName) prog_2_method_6_code (6 : Nat) (Option.some Jvm.ClassFile.FieldType.int)) ∈ mTb := mIn3 (List.mem_of_getElem? (i := 44) rfl) rfl
theorem tb_525 : (Jvm.Cond.methodLink "RoundVotes$Ballots" (31 : Nat) ({ cls := "RoundVotes$Ballots", name := "valueOf", desc := "(III)I" } : Jvm.MethodName)) ∈ mTb := mIn3 (List.mem_of_getElem? (i := 45) rfl) rfl
theorem tb_526 : (Jvm.Cond.methodLink "RoundVotes$Node" (216 : Nat) ({ cls := "RoundVotes$Node", name := "areMany", desc := "(I)Z" } : Jvm.MethodName)) ∈ mTb := mIn3 (List.mem_of_getElem? (i := 46) rfl) rfl
theorem tb_528 : (Jvm.Cond.instanceMethod ({ cls := "RoundVotes$Node", name := "areMany", desc := "(I)Z" } : Jvm.MethodName)) ∈ mTb := mIn3 (List.mem_of_getElem? (i := 48) rfl) rfl
theorem tb_529 : (Jvm.Cond.code ({ cls := "RoundVotes$Node", name := "areMany", desc := "(I)Z" } : Jvm.MethodName) prog_8_method_16_code (2 : Nat) (Option.some Jvm.ClassFile.FieldType.boolean)) ∈ mTb := mIn3 (List.mem_of_getElem? (i := 49) rfl) rfl
theorem tb_530 : (Jvm.Cond.methodLink "RoundVotes$Node" (210 : Nat) ({ cls := "RoundVotes$Setup", name := "weightOfAll", desc := "(II)I" } : Jvm.MethodName)) ∈ mTb := mIn3 (List.mem_of_getElem? (i := 50) rfl) rfl
theorem tb_531 : (Jvm.Cond.instanceMethod ({ cls := "RoundVotes$Setup", name := "weightOfAll", desc := "(II)I" } : Jvm.MethodName)) ∈ mTb := mIn3 (List.mem_of_getElem? (i := 51) rfl) rfl
theorem tb_532 : (Jvm.Cond.selects "RoundVotes$Setup" ({ cls := "RoundVotes$Setup", name := "weightOfAll", desc := "(II)I" } : Jvm.MethodName) ({ cls := "RoundVotes$Setup", name := "weightOfAll", desc := "(II)I" } : Jvm.MethodName)) ∈ mTb := mIn3 (List.mem_of_getElem? (i := 52) rfl) rfl
theorem tb_533 : (Jvm.Cond.code ({ cls := "RoundVotes$Setup", name := "weightOfAll", desc := "(II)I" } : Jvm.MethodName) prog_10_method_3_code (5 : Nat) (Option.some Jvm.ClassFile.FieldType.int)) ∈ mTb := mIn3 (List.mem_of_getElem? (i := 53) rfl) rfl
theorem tb_534 : (Jvm.Cond.methodLink "RoundVotes$Node" (188 : Nat) ({ cls := "RoundVotes$Node", name := "decide", desc := "(I)V" } : Jvm.MethodName)) ∈ mTb := mIn3 (List.mem_of_getElem? (i := 54) rfl) rfl
theorem tb_536 : (Jvm.Cond.instanceMethod ({ cls := "RoundVotes$Node", name := "decide", desc := "(I)V" } : Jvm.MethodName)) ∈ mTb := mIn3 (List.mem_of_getElem? (i := 56) rfl) rfl
theorem tb_537 : (Jvm.Cond.code ({ cls := "RoundVotes$Node", name := "decide", desc := "(I)V" } : Jvm.MethodName) prog_8_method_11_code (3 : Nat) (Option.none : Option Jvm.ClassFile.FieldType)) ∈ mTb := mIn3 (List.mem_of_getElem? (i := 57) rfl) rfl
theorem tb_538 : (Jvm.Cond.methodLink "RoundVotes$Node" (166 : Nat) ({ cls := "RoundVotes$Decisions", name := "put", desc := "(IIII)V" } : Jvm.MethodName)) ∈ mTb := mIn3 (List.mem_of_getElem? (i := 58) rfl) rfl
theorem tb_539 : (Jvm.Cond.instanceMethod ({ cls := "RoundVotes$Decisions", name := "put", desc := "(IIII)V" } : Jvm.MethodName)) ∈ mTb := mIn3 (List.mem_of_getElem? (i := 59) rfl) rfl
theorem tb_540 : (Jvm.Cond.selects "RoundVotes$Decisions" ({ cls := "RoundVotes$Decisions", name := "put", desc := "(IIII)V" } : Jvm.MethodName) ({ cls := "RoundVotes$Decisions", name := "put", desc := "(IIII)V" } : Jvm.MethodName)) ∈ mTb := mIn3 (List.mem_of_getElem? (i := 60) rfl) rfl
theorem tb_541 : (Jvm.Cond.code ({ cls := "RoundVotes$Decisions", name := "put", desc := "(IIII)V" } : Jvm.MethodName) prog_4_method_3_code (5 : Nat) (Option.none : Option Jvm.ClassFile.FieldType)) ∈ mTb := mIn3 (List.mem_of_getElem? (i := 61) rfl) rfl
theorem tb_542 : (Jvm.Cond.methodLink "RoundVotes$Node" (169 : Nat) ({ cls := "RoundVotes$Node", name := "goToNextHeight", desc := "()V" } : Jvm.MethodName)) ∈ mTb := mIn3 (List.mem_of_getElem? (i := 62) rfl) rfl
theorem tb_544 : (Jvm.Cond.instanceMethod ({ cls := "RoundVotes$Node", name := "goToNextHeight", desc := "()V" } : Jvm.MethodName)) ∈ mTb := mIn3 (List.mem_of_getElem? (i := 64) rfl) rfl
theorem tb_545 : (Jvm.Cond.code ({ cls := "RoundVotes$Node", name := "goToNextHeight", desc := "()V" } : Jvm.MethodName) prog_8_method_12_code (2 : Nat) (Option.none : Option Jvm.ClassFile.FieldType)) ∈ mTb := mIn3 (List.mem_of_getElem? (i := 65) rfl) rfl
theorem tb_546 : (Jvm.Cond.methodLink "RoundVotes$Node" (178 : Nat) ({ cls := "RoundVotes$Choice", name := "choose", desc := "(II)V" } : Jvm.MethodName)) ∈ mTb := mIn3 (List.mem_of_getElem? (i := 66) rfl) rfl
theorem tb_547 : (Jvm.Cond.instanceMethod ({ cls := "RoundVotes$Choice", name := "choose", desc := "(II)V" } : Jvm.MethodName)) ∈ mTb := mIn3 (List.mem_of_getElem? (i := 67) rfl) rfl
theorem tb_548 : (Jvm.Cond.selects "RoundVotes$Choice" ({ cls := "RoundVotes$Choice", name := "choose", desc := "(II)V" } : Jvm.MethodName) ({ cls := "RoundVotes$Choice", name := "choose", desc := "(II)V" } : Jvm.MethodName)) ∈ mTb := mIn3 (List.mem_of_getElem? (i := 68) rfl) rfl
theorem tb_549 : (Jvm.Cond.code ({ cls := "RoundVotes$Choice", name := "choose", desc := "(II)V" } : Jvm.MethodName) prog_3_method_2_code (3 : Nat) (Option.none : Option Jvm.ClassFile.FieldType)) ∈ mTb := mIn3 (List.mem_of_getElem? (i := 69) rfl) rfl
theorem tb_550 : (Jvm.Cond.methodLink "RoundVotes$Node" (147 : Nat) ({ cls := "RoundVotes$Ballots", name := "clear", desc := "()V" } : Jvm.MethodName)) ∈ mTb := mIn3 (List.mem_of_getElem? (i := 70) rfl) rfl
theorem tb_551 : (Jvm.Cond.instanceMethod ({ cls := "RoundVotes$Ballots", name := "clear", desc := "()V" } : Jvm.MethodName)) ∈ mTb := mIn3 (List.mem_of_getElem? (i := 71) rfl) rfl
theorem tb_552 : (Jvm.Cond.selects "RoundVotes$Ballots" ({ cls := "RoundVotes$Ballots", name := "clear", desc := "()V" } : Jvm.MethodName) ({ cls := "RoundVotes$Ballots", name := "clear", desc := "()V" } : Jvm.MethodName)) ∈ mTb := mIn3 (List.mem_of_getElem? (i := 72) rfl) rfl
theorem tb_553 : (Jvm.Cond.code ({ cls := "RoundVotes$Ballots", name := "clear", desc := "()V" } : Jvm.MethodName) prog_2_method_8_code (3 : Nat) (Option.none : Option Jvm.ClassFile.FieldType)) ∈ mTb := mIn3 (List.mem_of_getElem? (i := 73) rfl) rfl
theorem tb_554 : (Jvm.Cond.methodLink "RoundVotes$Node" (153 : Nat) ({ cls := "RoundVotes$Node", name := "begin", desc := "(II)V" } : Jvm.MethodName)) ∈ mTb := mIn3 (List.mem_of_getElem? (i := 74) rfl) rfl
theorem tb_555 : (Jvm.Cond.methodLink "RoundVotes$Node" (191 : Nat) ({ cls := "RoundVotes$Node", name := "roundToJoin", desc := "()I" } : Jvm.MethodName)) ∈ mTb := mIn3 (List.mem_of_getElem? (i := 75) rfl) rfl
theorem tb_557 : (Jvm.Cond.instanceMethod ({ cls := "RoundVotes$Node", name := "roundToJoin", desc := "()I" } : Jvm.MethodName)) ∈ mTb := mIn3 (List.mem_of_getElem? (i := 77) rfl) rfl
theorem tb_558 : (Jvm.Cond.code ({ cls := "RoundVotes$Node", name := "roundToJoin", desc := "()I" } : Jvm.MethodName) prog_8_method_19_code (3 : Nat) (Option.some Jvm.ClassFile.FieldType.int)) ∈ mTb := mIn3 (List.mem_of_getElem? (i := 78) rfl) rfl
theorem tb_559 : (Jvm.Cond.methodLink "RoundVotes$Node" (219 : Nat) ({ cls := "RoundVotes$Ballots", name := "voters", desc := "(II)I" } : Jvm.MethodName)) ∈ mTb := mIn3 (List.mem_of_getElem? (i := 79) rfl) rfl
theorem tb_560 : (Jvm.Cond.instanceMethod ({ cls := "RoundVotes$Ballots", name := "voters", desc := "(II)I" } : Jvm.MethodName)) ∈ mTb := mIn3 (List.mem_of_getElem? (i := 80) rfl) rfl
theorem tb_561 : (Jvm.Cond.selects "RoundVotes$Ballots" ({ cls := "RoundVotes$Ballots", name := "voters", desc := "(II)I" } : Jvm.MethodName) ({ cls := "RoundVotes$Ballots", name := "voters", desc := "(II)I" } : Jvm.MethodName)) ∈ mTb := mIn3 (List.mem_of_getElem? (i := 81) rfl) rfl
theorem tb_562 : (Jvm.Cond.code ({ cls := "RoundVotes$Ballots", name := "voters", desc := "(II)I" } : Jvm.MethodName) prog_2_method_7_code (5 : Nat) (Option.some Jvm.ClassFile.FieldType.int)) ∈ mTb := mIn3 (List.mem_of_getElem? (i := 82) rfl) rfl
theorem tb_563 : (Jvm.Cond.methodLink "RoundVotes$Ballots" (35 : Nat) ({ cls := "RoundVotes$Ballots", name := "holds", desc := "(III)Z" } : Jvm.MethodName)) ∈ mTb := mIn3 (List.mem_of_getElem? (i := 83) rfl) rfl
theorem tb_564 : (Jvm.Cond.methodLink "RoundVotes$Node" (221 : Nat) ({ cls := "RoundVotes$Node", name := "areSome", desc := "(I)Z" } : Jvm.MethodName)) ∈ mTb := mIn3 (List.mem_of_getElem? (i := 84) rfl) rfl
theorem tb_566 : (Jvm.Cond.instanceMethod ({ cls := "RoundVotes$Node", name := "areSome", desc := "(I)Z" } : Jvm.MethodName)) ∈ mTb := mIn3 (List.mem_of_getElem? (i := 86) rfl) rfl
theorem tb_567 : (Jvm.Cond.code ({ cls := "RoundVotes$Node", name := "areSome", desc := "(I)Z" } : Jvm.MethodName) prog_8_method_17_code (2 : Nat) (Option.some Jvm.ClassFile.FieldType.boolean)) ∈ mTb := mIn3 (List.mem_of_getElem? (i := 87) rfl) rfl
theorem tb_568 : (Jvm.Cond.methodLink "RoundVotes$Node" (194 : Nat) ({ cls := "RoundVotes$Node", name := "answersProposal", desc := "()Z" } : Jvm.MethodName)) ∈ mTb := mIn3 (List.mem_of_getElem? (i := 88) rfl) rfl
theorem tb_570 : (Jvm.Cond.instanceMethod ({ cls := "RoundVotes$Node", name := "answersProposal", desc := "()Z" } : Jvm.MethodName)) ∈ mTb := mIn3 (List.mem_of_getElem? (i := 90) rfl) rfl
theorem tb_571 : (Jvm.Cond.code ({ cls := "RoundVotes$Node", name := "answersProposal", desc := "()Z" } : Jvm.MethodName) prog_8_method_20_code (3 : Nat) (Option.some Jvm.ClassFile.FieldType.boolean)) ∈ mTb := mIn3 (List.mem_of_getElem? (i := 91) rfl) rfl
theorem tb_572 : (Jvm.Cond.methodLink "RoundVotes$Node" (224 : Nat) ({ cls := "RoundVotes$Node", name := "lockAllows", desc := "(II)Z" } : Jvm.MethodName)) ∈ mTb := mIn3 (List.mem_of_getElem? (i := 92) rfl) rfl
theorem tb_574 : (Jvm.Cond.instanceMethod ({ cls := "RoundVotes$Node", name := "lockAllows", desc := "(II)Z" } : Jvm.MethodName)) ∈ mTb := mIn3 (List.mem_of_getElem? (i := 94) rfl) rfl
theorem tb_575 : (Jvm.Cond.code ({ cls := "RoundVotes$Node", name := "lockAllows", desc := "(II)Z" } : Jvm.MethodName) prog_8_method_21_code (3 : Nat) (Option.some Jvm.ClassFile.FieldType.boolean)) ∈ mTb := mIn3 (List.mem_of_getElem? (i := 95) rfl) rfl
theorem tb_576 : (Jvm.Cond.methodLink "RoundVotes$Node" (197 : Nat) ({ cls := "RoundVotes$Node", name := "locks", desc := "()Z" } : Jvm.MethodName)) ∈ mTb := mIn3 (List.mem_of_getElem? (i := 96) rfl) rfl
theorem tb_578 : (Jvm.Cond.instanceMethod ({ cls := "RoundVotes$Node", name := "locks", desc := "()Z" } : Jvm.MethodName)) ∈ mTb := mIn3 (List.mem_of_getElem? (i := 98) rfl) rfl
theorem tb_579 : (Jvm.Cond.code ({ cls := "RoundVotes$Node", name := "locks", desc := "()Z" } : Jvm.MethodName) prog_8_method_22_code (2 : Nat) (Option.some Jvm.ClassFile.FieldType.boolean)) ∈ mTb := mIn3 (List.mem_of_getElem? (i := 99) rfl) rfl
theorem tb_580 : (Jvm.Cond.methodLink "RoundVotes$Node" (200 : Nat) ({ cls := "RoundVotes$Node", name := "givesUpValue", desc := "()Z" } : Jvm.MethodName)) ∈ mTb := mIn3 (List.mem_of_getElem? (i := 100) rfl) rfl
theorem tb_582 : (Jvm.Cond.instanceMethod ({ cls := "RoundVotes$Node", name := "givesUpValue", desc := "()Z" } : Jvm.MethodName)) ∈ mTb := mIn3 (List.mem_of_getElem? (i := 102) rfl) rfl
theorem tb_583 : (Jvm.Cond.code ({ cls := "RoundVotes$Node", name := "givesUpValue", desc := "()Z" } : Jvm.MethodName) prog_8_method_23_code (1 : Nat) (Option.some Jvm.ClassFile.FieldType.boolean)) ∈ mTb := mIn3 (List.mem_of_getElem? (i := 103) rfl) rfl
theorem tb_584 : (Jvm.Cond.methodLink "RoundVotes$Node" (203 : Nat) ({ cls := "RoundVotes$Node", name := "waitsForPrevotes", desc := "(I)Z" } : Jvm.MethodName)) ∈ mTb := mIn3 (List.mem_of_getElem? (i := 104) rfl) rfl
theorem tb_586 : (Jvm.Cond.instanceMethod ({ cls := "RoundVotes$Node", name := "waitsForPrevotes", desc := "(I)Z" } : Jvm.MethodName)) ∈ mTb := mIn3 (List.mem_of_getElem? (i := 106) rfl) rfl
theorem tb_587 : (Jvm.Cond.code ({ cls := "RoundVotes$Node", name := "waitsForPrevotes", desc := "(I)Z" } : Jvm.MethodName) prog_8_method_24_code (2 : Nat) (Option.some Jvm.ClassFile.FieldType.boolean)) ∈ mTb := mIn3 (List.mem_of_getElem? (i := 107) rfl) rfl
theorem tb_588 : (Jvm.Cond.methodLink "RoundVotes$Node" (207 : Nat) ({ cls := "RoundVotes$Node", name := "waitsForPrecommits", desc := "(I)Z" } : Jvm.MethodName)) ∈ mTb := mIn3 (List.mem_of_getElem? (i := 108) rfl) rfl
theorem tb_590 : (Jvm.Cond.instanceMethod ({ cls := "RoundVotes$Node", name := "waitsForPrecommits", desc := "(I)Z" } : Jvm.MethodName)) ∈ mTb := mIn3 (List.mem_of_getElem? (i := 110) rfl) rfl
theorem tb_591 : (Jvm.Cond.code ({ cls := "RoundVotes$Node", name := "waitsForPrecommits", desc := "(I)Z" } : Jvm.MethodName) prog_8_method_25_code (2 : Nat) (Option.some Jvm.ClassFile.FieldType.boolean)) ∈ mTb := mIn3 (List.mem_of_getElem? (i := 111) rfl) rfl
theorem tb_592 : (Jvm.Cond.methodLink "RoundVotes" (102 : Nat) ({ cls := "RoundVotes", name := "bringNodesBack", desc := "()V" } : Jvm.MethodName)) ∈ mTb := mIn3 (List.mem_of_getElem? (i := 112) rfl) rfl
theorem tb_594 : (Jvm.Cond.instanceMethod ({ cls := "RoundVotes", name := "bringNodesBack", desc := "()V" } : Jvm.MethodName)) ∈ mTb := mIn3 (List.mem_of_getElem? (i := 114) rfl) rfl
theorem tb_595 : (Jvm.Cond.code ({ cls := "RoundVotes", name := "bringNodesBack", desc := "()V" } : Jvm.MethodName) prog_1_method_23_code (3 : Nat) (Option.none : Option Jvm.ClassFile.FieldType)) ∈ mTb := mIn3 (List.mem_of_getElem? (i := 115) rfl) rfl
theorem tb_596 : (Jvm.Cond.methodLink "RoundVotes" (230 : Nat) ({ cls := "RoundVotes$Node", name := "comeBack", desc := "(I)V" } : Jvm.MethodName)) ∈ mTb := mIn3 (List.mem_of_getElem? (i := 116) rfl) rfl
theorem tb_597 : (Jvm.Cond.instanceMethod ({ cls := "RoundVotes$Node", name := "comeBack", desc := "(I)V" } : Jvm.MethodName)) ∈ mTb := mIn3 (List.mem_of_getElem? (i := 117) rfl) rfl
theorem tb_598 : (Jvm.Cond.selects "RoundVotes$Node" ({ cls := "RoundVotes$Node", name := "comeBack", desc := "(I)V" } : Jvm.MethodName) ({ cls := "RoundVotes$Node", name := "comeBack", desc := "(I)V" } : Jvm.MethodName)) ∈ mTb := mIn3 (List.mem_of_getElem? (i := 118) rfl) rfl
theorem tb_599 : (Jvm.Cond.code ({ cls := "RoundVotes$Node", name := "comeBack", desc := "(I)V" } : Jvm.MethodName) prog_8_method_9_code (5 : Nat) (Option.none : Option Jvm.ClassFile.FieldType)) ∈ mTb := mIn3 (List.mem_of_getElem? (i := 119) rfl) rfl
theorem tb_600 : (Jvm.Cond.methodLink "RoundVotes" (105 : Nat) ({ cls := "RoundVotes", name := "bringCopies", desc := "()V" } : Jvm.MethodName)) ∈ mTb := mIn3 (List.mem_of_getElem? (i := 120) rfl) rfl
theorem tb_602 : (Jvm.Cond.instanceMethod ({ cls := "RoundVotes", name := "bringCopies", desc := "()V" } : Jvm.MethodName)) ∈ mTb := mIn3 (List.mem_of_getElem? (i := 122) rfl) rfl
theorem tb_603 : (Jvm.Cond.code ({ cls := "RoundVotes", name := "bringCopies", desc := "()V" } : Jvm.MethodName) prog_1_method_24_code (5 : Nat) (Option.none : Option Jvm.ClassFile.FieldType)) ∈ mTb := mIn3 (List.mem_of_getElem? (i := 123) rfl) rfl
theorem tb_604 : (Jvm.Cond.methodLink "RoundVotes" (248 : Nat) ({ cls := "RoundVotes", name := "handOver", desc := "(LRoundVotes$Message;)V" } : Jvm.MethodName)) ∈ mTb := mIn3 (List.mem_of_getElem? (i := 124) rfl) rfl
theorem tb_606 : (Jvm.Cond.instanceMethod ({ cls := "RoundVotes", name := "handOver", desc := "(LRoundVotes$Message;)V" } : Jvm.MethodName)) ∈ mTb := mIn3 (List.mem_of_getElem? (i := 126) rfl) rfl
theorem tb_607 : (Jvm.Cond.code ({ cls := "RoundVotes", name := "handOver", desc := "(LRoundVotes$Message;)V" } : Jvm.MethodName) prog_1_method_25_code (3 : Nat) (Option.none : Option Jvm.ClassFile.FieldType)) ∈ mTb := mIn3 (List.mem_of_getElem? (i := 127) rfl) rfl
theorem tb_608 : (Jvm.Cond.methodLink "RoundVotes" (258 : Nat) ({ cls := "RoundVotes$Node", name := "accepts", desc := "(LRoundVotes$Message;)Z" } : Jvm.MethodName)) ∈ mTb := mIn3 (List.mem_of_getElem? (i := 128) rfl) rfl
theorem tb_609 : (Jvm.Cond.instanceMethod ({ cls := "RoundVotes$Node", name := "accepts", desc := "(LRoundVotes$Message;)Z" } : Jvm.MethodName)) ∈ mTb := mIn3 (List.mem_of_getElem? (i := 129) rfl) rfl
theorem tb_610 : (Jvm.Cond.selects "RoundVotes$Node" ({ cls := "RoundVotes$Node", name := "accepts", desc := "(LRoundVotes$Message;)Z" } : Jvm.MethodName) ({ cls := "RoundVotes$Node", name := "accepts", desc := "(LRoundVotes$Message;)Z" } : Jvm.MethodName)) ∈ mTb := mIn3 (List.mem_of_getElem? (i := 130) rfl) rfl
theorem tb_611 : (Jvm.Cond.code ({ cls := "RoundVotes$Node", name := "accepts", desc := "(LRoundVotes$Message;)Z" } : Jvm.MethodName) prog_8_method_8_code (3 : Nat) (Option.some Jvm.ClassFile.FieldType.boolean)) ∈ mTb := mIn3 (List.mem_of_getElem? (i := 131) rfl) rfl
theorem tb_612 : (Jvm.Cond.methodLink "RoundVotes" (262 : Nat) ({ cls := "RoundVotes$Faults", name := "add", desc := "(LRoundVotes$Message;I)V" } : Jvm.MethodName)) ∈ mTb := mIn3 (List.mem_of_getElem? (i := 132) rfl) rfl
theorem tb_613 : (Jvm.Cond.instanceMethod ({ cls := "RoundVotes$Faults", name := "add", desc := "(LRoundVotes$Message;I)V" } : Jvm.MethodName)) ∈ mTb := mIn3 (List.mem_of_getElem? (i := 133) rfl) rfl
theorem tb_614 : (Jvm.Cond.selects "RoundVotes$Faults" ({ cls := "RoundVotes$Faults", name := "add", desc := "(LRoundVotes$Message;I)V" } : Jvm.MethodName) ({ cls := "RoundVotes$Faults", name := "add", desc := "(LRoundVotes$Message;I)V" } : Jvm.MethodName)) ∈ mTb := mIn3 (List.mem_of_getElem? (i := 134) rfl) rfl
theorem tb_615 : (Jvm.Cond.code ({ cls := "RoundVotes$Faults", name := "add", desc := "(LRoundVotes$Message;I)V" } : Jvm.MethodName) prog_5_method_3_code (4 : Nat) (Option.none : Option Jvm.ClassFile.FieldType)) ∈ mTb := mIn3 (List.mem_of_getElem? (i := 135) rfl) rfl
theorem tb_616 : (Jvm.Cond.methodLink "RoundVotes$Faults" (19 : Nat) ({ cls := "RoundVotes$Faults", name := "isKnown", desc := "(LRoundVotes$Message;)Z" } : Jvm.MethodName)) ∈ mTb := mIn3 (List.mem_of_getElem? (i := 136) rfl) rfl
theorem tb_618 : (Jvm.Cond.instanceMethod ({ cls := "RoundVotes$Faults", name := "isKnown", desc := "(LRoundVotes$Message;)Z" } : Jvm.MethodName)) ∈ mTb := mIn3 (List.mem_of_getElem? (i := 138) rfl) rfl
theorem tb_619 : (Jvm.Cond.code ({ cls := "RoundVotes$Faults", name := "isKnown", desc := "(LRoundVotes$Message;)Z" } : Jvm.MethodName) prog_5_method_4_code (4 : Nat) (Option.some Jvm.ClassFile.FieldType.boolean)) ∈ mTb := mIn3 (List.mem_of_getElem? (i := 139) rfl) rfl
theorem tb_620 : (Jvm.Cond.methodLink "RoundVotes$Faults" (40 : Nat) ({ cls := "RoundVotes$Faults", name := "part", desc := "(II)I" } : Jvm.MethodName)) ∈ mTb := mIn3 (List.mem_of_getElem? (i := 140) rfl) rfl
theorem tb_621 : (Jvm.Cond.instanceMethod ({ cls := "RoundVotes$Faults", name := "part", desc := "(II)I" } : Jvm.MethodName)) ∈ mTb := mIn3 (List.mem_of_getElem? (i := 141) rfl) rfl
theorem tb_622 : (Jvm.Cond.selects "RoundVotes$Faults" ({ cls := "RoundVotes$Faults", name := "part", desc := "(II)I" } : Jvm.MethodName) ({ cls := "RoundVotes$Faults", name := "part", desc := "(II)I" } : Jvm.MethodName)) ∈ mTb := mIn3 (List.mem_of_getElem? (i := 142) rfl) rfl
theorem tb_623 : (Jvm.Cond.code ({ cls := "RoundVotes$Faults", name := "part", desc := "(II)I" } : Jvm.MethodName) prog_5_method_2_code (3 : Nat) (Option.some Jvm.ClassFile.FieldType.int)) ∈ mTb := mIn3 (List.mem_of_getElem? (i := 143) rfl) rfl
theorem tb_624 : (Jvm.Cond.methodLink "RoundVotes" (255 : Nat) ({ cls := "RoundVotes$Mail", name := "dropUpTo", desc := "(I)V" } : Jvm.MethodName)) ∈ mTb := mIn3 (List.mem_of_getElem? (i := 144) rfl) rfl
theorem tb_625 : (Jvm.Cond.instanceMethod ({ cls := "RoundVotes$Mail", name := "dropUpTo", desc := "(I)V" } : Jvm.MethodName)) ∈ mTb := mIn3 (List.mem_of_getElem? (i := 145) rfl) rfl
theorem tb_626 : (Jvm.Cond.selects "RoundVotes$Mail" ({ cls := "RoundVotes$Mail", name := "dropUpTo", desc := "(I)V" } : Jvm.MethodName) ({ cls := "RoundVotes$Mail", name := "dropUpTo", desc := "(I)V" } : Jvm.MethodName)) ∈ mTb := mIn3 (List.mem_of_getElem? (i := 146) rfl) rfl
theorem tb_627 : (Jvm.Cond.code ({ cls := "RoundVotes$Mail", name := "dropUpTo", desc := "(I)V" } : Jvm.MethodName) prog_6_method_3_code (5 : Nat) (Option.none : Option Jvm.ClassFile.FieldType)) ∈ mTb := mIn3 (List.mem_of_getElem? (i := 147) rfl) rfl
theorem tb_628 : (Jvm.Cond.methodLink "RoundVotes" (108 : Nat) ({ cls := "RoundVotes", name := "endTimers", desc := "()V" } : Jvm.MethodName)) ∈ mTb := mIn3 (List.mem_of_getElem? (i := 148) rfl) rfl
theorem tb_630 : (Jvm.Cond.instanceMethod ({ cls := "RoundVotes", name := "endTimers", desc := "()V" } : Jvm.MethodName)) ∈ mTb := mIn3 (List.mem_of_getElem? (i := 150) rfl) rfl
theorem tb_631 : (Jvm.Cond.code ({ cls := "RoundVotes", name := "endTimers", desc := "()V" } : Jvm.MethodName) prog_1_method_26_code (4 : Nat) (Option.none : Option Jvm.ClassFile.FieldType)) ∈ mTb := mIn3 (List.mem_of_getElem? (i := 151) rfl) rfl
theorem tb_632 : (Jvm.Cond.methodLink "RoundVotes" (265 : Nat) ({ cls := "RoundVotes$Node", name := "endTimer", desc := "(II)V" } : Jvm.MethodName)) ∈ mTb := mIn3 (List.mem_of_getElem? (i := 152) rfl) rfl
theorem tb_633 : (Jvm.Cond.instanceMethod ({ cls := "RoundVotes$Node", name := "endTimer", desc := "(II)V" } : Jvm.MethodName)) ∈ mTb := mIn3 (List.mem_of_getElem? (i := 153) rfl) rfl
theorem tb_634 : (Jvm.Cond.selects "RoundVotes$Node" ({ cls := "RoundVotes$Node", name := "endTimer", desc := "(II)V" } : Jvm.MethodName) ({ cls := "RoundVotes$Node", name := "endTimer", desc := "(II)V" } : Jvm.MethodName)) ∈ mTb := mIn3 (List.mem_of_getElem? (i := 154) rfl) rfl
theorem tb_635 : (Jvm.Cond.code ({ cls := "RoundVotes$Node", name := "endTimer", desc := "(II)V" } : Jvm.MethodName) prog_8_method_13_code (3 : Nat) (Option.none : Option Jvm.ClassFile.FieldType)) ∈ mTb := mIn3 (List.mem_of_getElem? (i := 155) rfl) rfl
theorem tb_636 : (Jvm.Cond.methodLink "RoundVotesLaw" (48 : Nat) ({ cls := "RoundVotes", name := "catchUp", desc := "(I)I" } : Jvm.MethodName)) ∈ mTb := mIn3 (List.mem_of_getElem? (i := 156) rfl) rfl
theorem tb_637 : (Jvm.Cond.instanceMethod ({ cls := "RoundVotes", name := "catchUp", desc := "(I)I" } : Jvm.MethodName)) ∈ mTb := mIn3 (List.mem_of_getElem? (i := 157) rfl) rfl
theorem tb_638 : (Jvm.Cond.selects "RoundVotes" ({ cls := "RoundVotes", name := "catchUp", desc := "(I)I" } : Jvm.MethodName) ({ cls := "RoundVotes", name := "catchUp", desc := "(I)I" } : Jvm.MethodName)) ∈ mTb := mIn3 (List.mem_of_getElem? (i := 158) rfl) rfl
theorem tb_639 : (Jvm.Cond.code ({ cls := "RoundVotes", name := "catchUp", desc := "(I)I" } : Jvm.MethodName) prog_1_method_8_code (6 : Nat) (Option.some Jvm.ClassFile.FieldType.int)) ∈ mTb := mIn3 (List.mem_of_getElem? (i := 159) rfl) rfl
theorem tb_640 : (Jvm.Cond.methodLink "RoundVotes" (114 : Nat) ({ cls := "RoundVotes", name := "tellerOf", desc := "(II)I" } : Jvm.MethodName)) ∈ mTb := mIn3 (List.mem_of_getElem? (i := 160) rfl) rfl
theorem tb_642 : (Jvm.Cond.instanceMethod ({ cls := "RoundVotes", name := "tellerOf", desc := "(II)I" } : Jvm.MethodName)) ∈ mTb := mIn3 (List.mem_of_getElem? (i := 162) rfl) rfl
theorem tb_643 : (Jvm.Cond.code ({ cls := "RoundVotes", name := "tellerOf", desc := "(II)I" } : Jvm.MethodName) prog_1_method_21_code (4 : Nat) (Option.some Jvm.ClassFile.FieldType.int)) ∈ mTb := mIn3 (List.mem_of_getElem? (i := 163) rfl) rfl
theorem tb_644 : (Jvm.Cond.methodLink "RoundVotes" (188 : Nat) ({ cls := "RoundVotes$Decisions", name := "holds", desc := "(I)Z" } : Jvm.MethodName)) ∈ mTb := mIn3 (List.mem_of_getElem? (i := 164) rfl) rfl
theorem tb_645 : (Jvm.Cond.instanceMethod ({ cls := "RoundVotes$Decisions", name := "holds", desc := "(I)Z" } : Jvm.MethodName)) ∈ mTb := mIn3 (List.mem_of_getElem? (i := 165) rfl) rfl
theorem tb_646 : (Jvm.Cond.selects "RoundVotes$Decisions" ({ cls := "RoundVotes$Decisions", name := "holds", desc := "(I)Z" } : Jvm.MethodName) ({ cls := "RoundVotes$Decisions", name := "holds", desc := "(I)Z" } : Jvm.MethodName)) ∈ mTb := mIn3 (List.mem_of_getElem? (i := 166) rfl) rfl
theorem tb_647 : (Jvm.Cond.code ({ cls := "RoundVotes$Decisions", name := "holds", desc := "(I)Z" } : Jvm.MethodName) prog_4_method_2_code (2 : Nat) (Option.some Jvm.ClassFile.FieldType.boolean)) ∈ mTb := mIn3 (List.mem_of_getElem? (i := 167) rfl) rfl
theorem tb_648 : (Jvm.Cond.methodLink "RoundVotes" (118 : Nat) ({ cls := "RoundVotes$Node", name := "decideAs", desc := "(LRoundVotes$Node;)V" } : Jvm.MethodName)) ∈ mTb := mIn3 (List.mem_of_getElem? (i := 168) rfl) rfl
theorem tb_649 : (Jvm.Cond.instanceMethod ({ cls := "RoundVotes$Node", name := "decideAs", desc := "(LRoundVotes$Node;)V" } : Jvm.MethodName)) ∈ mTb := mIn3 (List.mem_of_getElem? (i := 169) rfl) rfl
theorem tb_650 : (Jvm.Cond.selects "RoundVotes$Node" ({ cls := "RoundVotes$Node", name := "decideAs", desc := "(LRoundVotes$Node;)V" } : Jvm.MethodName) ({ cls := "RoundVotes$Node", name := "decideAs", desc := "(LRoundVotes$Node;)V" } : Jvm.MethodName)) ∈ mTb := mIn3 (List.mem_of_getElem? (i := 170) rfl) rfl
theorem tb_651 : (Jvm.Cond.code ({ cls := "RoundVotes$Node", name := "decideAs", desc := "(LRoundVotes$Node;)V" } : Jvm.MethodName) prog_8_method_10_code (3 : Nat) (Option.none : Option Jvm.ClassFile.FieldType)) ∈ mTb := mIn3 (List.mem_of_getElem? (i := 171) rfl) rfl
theorem tb_652 : (Jvm.Cond.methodLink "RoundVotesLaw" (52 : Nat) ({ cls := "RoundVotes", name := "node", desc := "(II)I" } : Jvm.MethodName)) ∈ mTb := mIn3 (List.mem_of_getElem? (i := 172) rfl) rfl
theorem tb_653 : (Jvm.Cond.instanceMethod ({ cls := "RoundVotes", name := "node", desc := "(II)I" } : Jvm.MethodName)) ∈ mTb := mIn3 (List.mem_of_getElem? (i := 173) rfl) rfl
theorem tb_654 : (Jvm.Cond.selects "RoundVotes" ({ cls := "RoundVotes", name := "node", desc := "(II)I" } : Jvm.MethodName) ({ cls := "RoundVotes", name := "node", desc := "(II)I" } : Jvm.MethodName)) ∈ mTb := mIn3 (List.mem_of_getElem? (i := 174) rfl) rfl
theorem tb_655 : (Jvm.Cond.code ({ cls := "RoundVotes", name := "node", desc := "(II)I" } : Jvm.MethodName) prog_1_method_9_code (4 : Nat) (Option.some Jvm.ClassFile.FieldType.int)) ∈ mTb := mIn3 (List.mem_of_getElem? (i := 175) rfl) rfl
theorem tb_656 : (Jvm.Cond.methodLink "RoundVotesLaw" (56 : Nat) ({ cls := "RoundVotes", name := "vote", desc := "(IIII)I" } : Jvm.MethodName)) ∈ mTb := mIn3 (List.mem_of_getElem? (i := 176) rfl) rfl
theorem tb_657 : (Jvm.Cond.instanceMethod ({ cls := "RoundVotes", name := "vote", desc := "(IIII)I" } : Jvm.MethodName)) ∈ mTb := mIn3 (List.mem_of_getElem? (i := 177) rfl) rfl
theorem tb_658 : (Jvm.Cond.selects "RoundVotes" ({ cls := "RoundVotes", name := "vote", desc := "(IIII)I" } : Jvm.MethodName) ({ cls := "RoundVotes", name := "vote", desc := "(IIII)I" } : Jvm.MethodName)) ∈ mTb := mIn3 (List.mem_of_getElem? (i := 178) rfl) rfl
theorem tb_659 : (Jvm.Cond.code ({ cls := "RoundVotes", name := "vote", desc := "(IIII)I" } : Jvm.MethodName) prog_1_method_10_code (6 : Nat) (Option.some Jvm.ClassFile.FieldType.int)) ∈ mTb := mIn3 (List.mem_of_getElem? (i := 179) rfl) rfl
theorem tb_660 : (Jvm.Cond.methodLink "RoundVotes" (169 : Nat) ({ cls := "RoundVotes$Ballots", name := "valueOf", desc := "(III)I" } : Jvm.MethodName)) ∈ mTb := mIn3 (List.mem_of_getElem? (i := 180) rfl) rfl
theorem tb_661 : (Jvm.Cond.methodLink "RoundVotes" (175 : Nat) ({ cls := "RoundVotes$Ballots", name := "holds", desc := "(III)Z" } : Jvm.MethodName)) ∈ mTb := mIn3 (List.mem_of_getElem? (i := 181) rfl) rfl
theorem tb_662 : (Jvm.Cond.methodLink "RoundVotes" (178 : Nat) ({ cls := "RoundVotes$Ballots", name := "sinceOf", desc := "(I)I" } : Jvm.MethodName)) ∈ mTb := mIn3 (List.mem_of_getElem? (i := 182) rfl) rfl
theorem tb_663 : (Jvm.Cond.methodLink "RoundVotesLaw" (61 : Nat) ({ cls := "RoundVotes", name := "decided", desc := "(III)I" } : Jvm.MethodName)) ∈ mTb := mIn3 (List.mem_of_getElem? (i := 183) rfl) rfl
theorem tb_664 : (Jvm.Cond.instanceMethod ({ cls := "RoundVotes", name := "decided", desc := "(III)I" } : Jvm.MethodName)) ∈ mTb := mIn3 (List.mem_of_getElem? (i := 184) rfl) rfl
theorem tb_665 : (Jvm.Cond.selects "RoundVotes" ({ cls := "RoundVotes", name := "decided", desc := "(III)I" } : Jvm.MethodName) ({ cls := "RoundVotes", name := "decided", desc := "(III)I" } : Jvm.MethodName)) ∈ mTb := mIn3 (List.mem_of_getElem? (i := 185) rfl) rfl
theorem tb_666 : (Jvm.Cond.code ({ cls := "RoundVotes", name := "decided", desc := "(III)I" } : Jvm.MethodName) prog_1_method_11_code (5 : Nat) (Option.some Jvm.ClassFile.FieldType.int)) ∈ mTb := mIn3 (List.mem_of_getElem? (i := 186) rfl) rfl
theorem tb_667 : (Jvm.Cond.methodLink "RoundVotes" (181 : Nat) ({ cls := "RoundVotes", name := "isHeight", desc := "(I)Z" } : Jvm.MethodName)) ∈ mTb := mIn3 (List.mem_of_getElem? (i := 187) rfl) rfl
theorem tb_668 : (Jvm.Cond.static ({ cls := "RoundVotes", name := "isHeight", desc := "(I)Z" } : Jvm.MethodName)) ∈ mTb := mIn3 (List.mem_of_getElem? (i := 188) rfl) rfl
theorem tb_669 : (Jvm.Cond.code ({ cls := "RoundVotes", name := "isHeight", desc := "(I)Z" } : Jvm.MethodName) prog_1_method_18_code (1 : Nat) (Option.some Jvm.ClassFile.FieldType.boolean)) ∈ mTb := mIn3 (List.mem_of_getElem? (i := 189) rfl) rfl
theorem tb_670 : (Jvm.Cond.methodLink "RoundVotes" (201 : Nat) ({ cls := "RoundVotes$Setup", name := "weightOfAll", desc := "(II)I" } : Jvm.MethodName)) ∈ mTb := mIn3 (List.mem_of_getElem? (i := 190) rfl) rfl
theorem tb_671 : (Jvm.Cond.methodLink "RoundVotesLaw" (65 : Nat) ({ cls := "RoundVotes", name := "unlike", desc := "(I)I" } : Jvm.MethodName)) ∈ mTb := mIn3 (List.mem_of_getElem? (i := 191) rfl) rfl
theorem tb_672 : (Jvm.Cond.instanceMethod ({ cls := "RoundVotes", name := "unlike", desc := "(I)I" } : Jvm.MethodName)) ∈ mTb := mIn3 (List.mem_of_getElem? (i := 192) rfl) rfl
theorem tb_673 : (Jvm.Cond.selects "RoundVotes" ({ cls := "RoundVotes", name := "unlike", desc := "(I)I" } : Jvm.MethodName) ({ cls := "RoundVotes", name := "unlike", desc := "(I)I" } : Jvm.MethodName)) ∈ mTb := mIn3 (List.mem_of_getElem? (i := 193) rfl) rfl
theorem tb_674 : (Jvm.Cond.code ({ cls := "RoundVotes", name := "unlike", desc := "(I)I" } : Jvm.MethodName) prog_1_method_12_code (5 : Nat) (Option.some Jvm.ClassFile.FieldType.int)) ∈ mTb := mIn3 (List.mem_of_getElem? (i := 194) rfl) rfl
theorem tb_675 : (Jvm.Cond.methodLink "RoundVotesLaw" (69 : Nat) ({ cls := "RoundVotes", name := "evidence", desc := "(II)I" } : Jvm.MethodName)) ∈ mTb := mIn3 (List.mem_of_getElem? (i := 195) rfl) rfl
theorem tb_676 : (Jvm.Cond.instanceMethod ({ cls := "RoundVotes", name := "evidence", desc := "(II)I" } : Jvm.MethodName)) ∈ mTb := mIn3 (List.mem_of_getElem? (i := 196) rfl) rfl
theorem tb_677 : (Jvm.Cond.selects "RoundVotes" ({ cls := "RoundVotes", name := "evidence", desc := "(II)I" } : Jvm.MethodName) ({ cls := "RoundVotes", name := "evidence", desc := "(II)I" } : Jvm.MethodName)) ∈ mTb := mIn3 (List.mem_of_getElem? (i := 197) rfl) rfl
theorem tb_678 : (Jvm.Cond.code ({ cls := "RoundVotes", name := "evidence", desc := "(II)I" } : Jvm.MethodName) prog_1_method_13_code (3 : Nat) (Option.some Jvm.ClassFile.FieldType.int)) ∈ mTb := mIn3 (List.mem_of_getElem? (i := 198) rfl) rfl
theorem tb_679 : (Jvm.Cond.methodLink "RoundVotes" (205 : Nat) ({ cls := "RoundVotes$Faults", name := "part", desc := "(II)I" } : Jvm.MethodName)) ∈ mTb := mIn3 (List.mem_of_getElem? (i := 199) rfl) rfl
theorem tb_680 : (Jvm.Cond.methodLink "RoundVotesLaw" (73 : Nat) ({ cls := "RoundVotes", name := "against", desc := "(I)I" } : Jvm.MethodName)) ∈ mTb := mIn3 (List.mem_of_getElem? (i := 200) rfl) rfl
theorem tb_681 : (Jvm.Cond.instanceMethod ({ cls := "RoundVotes", name := "against", desc := "(I)I" } : Jvm.MethodName)) ∈ mTb := mIn3 (List.mem_of_getElem? (i := 201) rfl) rfl
theorem tb_682 : (Jvm.Cond.selects "RoundVotes" ({ cls := "RoundVotes", name := "against", desc := "(I)I" } : Jvm.MethodName) ({ cls := "RoundVotes", name := "against", desc := "(I)I" } : Jvm.MethodName)) ∈ mTb := mIn3 (List.mem_of_getElem? (i := 202) rfl) rfl
theorem tb_683 : (Jvm.Cond.code ({ cls := "RoundVotes", name := "against", desc := "(I)I" } : Jvm.MethodName) prog_1_method_14_code (2 : Nat) (Option.some Jvm.ClassFile.FieldType.int)) ∈ mTb := mIn3 (List.mem_of_getElem? (i := 203) rfl) rfl
theorem tb_684 : (Jvm.Cond.methodLink "RoundVotesLaw" (77 : Nat) ({ cls := "RoundVotes", name := "count", desc := "(I)I" } : Jvm.MethodName)) ∈ mTb := mIn3 (List.mem_of_getElem? (i := 204) rfl) rfl
theorem tb_685 : (Jvm.Cond.instanceMethod ({ cls := "RoundVotes", name := "count", desc := "(I)I" } : Jvm.MethodName)) ∈ mTb := mIn3 (List.mem_of_getElem? (i := 205) rfl) rfl
theorem tb_686 : (Jvm.Cond.selects "RoundVotes" ({ cls := "RoundVotes", name := "count", desc := "(I)I" } : Jvm.MethodName) ({ cls := "RoundVotes", name := "count", desc := "(I)I" } : Jvm.MethodName)) ∈ mTb := mIn3 (List.mem_of_getElem? (i := 206) rfl) rfl
theorem tb_687 : (Jvm.Cond.code ({ cls := "RoundVotes", name := "count", desc := "(I)I" } : Jvm.MethodName) prog_1_method_15_code (2 : Nat) (Option.some Jvm.ClassFile.FieldType.int)) ∈ mTb := mIn3 (List.mem_of_getElem? (i := 207) rfl) rfl
theorem tb_688 : (Jvm.Cond.methodLink "RoundVotes" (220 : Nat) ({ cls := "RoundVotes", name := "greatestDecided", desc := "()I" } : Jvm.MethodName)) ∈ mTb := mIn3 (List.mem_of_getElem? (i := 208) rfl) rfl
theorem tb_690 : (Jvm.Cond.instanceMethod ({ cls := "RoundVotes", name := "greatestDecided", desc := "()I" } : Jvm.MethodName)) ∈ mTb := mIn3 (List.mem_of_getElem? (i := 210) rfl) rfl
theorem tb_691 : (Jvm.Cond.code ({ cls := "RoundVotes", name := "greatestDecided", desc := "()I" } : Jvm.MethodName) prog_1_method_20_code (1 : Nat) (Option.some Jvm.ClassFile.FieldType.int)) ∈ mTb := mIn3 (List.mem_of_getElem? (i := 211) rfl) rfl
theorem tb_692 : (Jvm.Cond.methodLink "RoundVotesLaw" (81 : Nat) ({ cls := "RoundVotes", name := "weightOf", desc := "(II)I" } : Jvm.MethodName)) ∈ mTb := mIn3 (List.mem_of_getElem? (i := 212) rfl) rfl
theorem tb_693 : (Jvm.Cond.instanceMethod ({ cls := "RoundVotes", name := "weightOf", desc := "(II)I" } : Jvm.MethodName)) ∈ mTb := mIn3 (List.mem_of_getElem? (i := 213) rfl) rfl
theorem tb_694 : (Jvm.Cond.selects "RoundVotes" ({ cls := "RoundVotes", name := "weightOf", desc := "(II)I" } : Jvm.MethodName) ({ cls := "RoundVotes", name := "weightOf", desc := "(II)I" } : Jvm.MethodName)) ∈ mTb := mIn3 (List.mem_of_getElem? (i := 214) rfl) rfl
theorem tb_695 : (Jvm.Cond.code ({ cls := "RoundVotes", name := "weightOf", desc := "(II)I" } : Jvm.MethodName) prog_1_method_16_code (3 : Nat) (Option.some Jvm.ClassFile.FieldType.int)) ∈ mTb := mIn3 (List.mem_of_getElem? (i := 215) rfl) rfl
theorem tb_696 : (Jvm.Cond.methodLink "RoundVotesLaw" (9 : Nat) ({ cls := "RoundVotesLaw", name := "cell", desc := "([II)I" } : Jvm.MethodName)) ∈ mTb := mIn3 (List.mem_of_getElem? (i := 216) rfl) rfl
theorem tb_697 : (Jvm.Cond.static ({ cls := "RoundVotesLaw", name := "cell", desc := "([II)I" } : Jvm.MethodName)) ∈ mTb := mIn3 (List.mem_of_getElem? (i := 217) rfl) rfl
theorem tb_698 : (Jvm.Cond.code ({ cls := "RoundVotesLaw", name := "cell", desc := "([II)I" } : Jvm.MethodName) method_2_code (2 : Nat) (Option.some Jvm.ClassFile.FieldType.int)) ∈ mTb := mIn3 (List.mem_of_getElem? (i := 218) rfl) rfl
theorem tb_699 : (Jvm.Cond.classLink "RoundVotesLaw" (18 : Nat) "RoundVotesModel") ∈ mTb := mIn3 (List.mem_of_getElem? (i := 219) rfl) rfl
theorem tb_700 : (Jvm.Cond.instantiable "RoundVotesModel" (53 : Nat)) ∈ mTb := mIn3 (List.mem_of_getElem? (i := 220) rfl) rfl
theorem tb_701 : (Jvm.Cond.methodLink "RoundVotesLaw" (20 : Nat) ({ cls := "RoundVotesModel", name := "<init>", desc := "(II)V" } : Jvm.MethodName)) ∈ mTb := mIn3 (List.mem_of_getElem? (i := 221) rfl) rfl
theorem tb_702 : (Jvm.Cond.instanceMethod ({ cls := "RoundVotesModel", name := "<init>", desc := "(II)V" } : Jvm.MethodName)) ∈ mTb := mIn3 (List.mem_of_getElem? (i := 222) rfl) rfl
theorem tb_703 : (Jvm.Cond.code ({ cls := "RoundVotesModel", name := "<init>", desc := "(II)V" } : Jvm.MethodName) prog_13_method_3_code (4 : Nat) (Option.none : Option Jvm.ClassFile.FieldType)) ∈ mTb := mIn3 (List.mem_of_getElem? (i := 223) rfl) rfl
theorem tb_704 : (Jvm.Cond.methodLink "RoundVotesModel" (7 : Nat) ({ cls := "java/lang/Object", name := "<init>", desc := "()V" } : Jvm.MethodName)) ∈ mTb := mIn3 (List.mem_of_getElem? (i := 224) rfl) rfl
theorem tb_705 : (Jvm.Cond.constant "RoundVotesModel" (127 : Nat) (36900 : Int32)) ∈ mTb := mIn3 (List.mem_of_getElem? (i := 225) rfl) rfl
theorem tb_706 : (Jvm.Cond.methodLink "RoundVotesModel" (140 : Nat) ({ cls := "RoundVotesModel", name := "clearHeight", desc := "(II)V" } : Jvm.MethodName)) ∈ mTb := mIn3 (List.mem_of_getElem? (i := 226) rfl) rfl
theorem tb_708 : (Jvm.Cond.instanceMethod ({ cls := "RoundVotesModel", name := "clearHeight", desc := "(II)V" } : Jvm.MethodName)) ∈ mTb := mIn3 (List.mem_of_getElem? (i := 228) rfl) rfl
theorem tb_709 : (Jvm.Cond.code ({ cls := "RoundVotesModel", name := "clearHeight", desc := "(II)V" } : Jvm.MethodName) prog_13_method_6_code (6 : Nat) (Option.none : Option Jvm.ClassFile.FieldType)) ∈ mTb := mIn3 (List.mem_of_getElem? (i := 229) rfl) rfl
theorem tb_710 : (Jvm.Cond.methodLink "RoundVotesModel" (148 : Nat) ({ cls := "RoundVotesModel", name := "place", desc := "(IIIII)I" } : Jvm.MethodName)) ∈ mTb := mIn3 (List.mem_of_getElem? (i := 230) rfl) rfl
theorem tb_712 : (Jvm.Cond.instanceMethod ({ cls := "RoundVotesModel", name := "place", desc := "(IIIII)I" } : Jvm.MethodName)) ∈ mTb := mIn3 (List.mem_of_getElem? (i := 232) rfl) rfl
theorem tb_713 : (Jvm.Cond.code ({ cls := "RoundVotesModel", name := "place", desc := "(IIIII)I" } : Jvm.MethodName) prog_13_method_4_code (6 : Nat) (Option.some Jvm.ClassFile.FieldType.int)) ∈ mTb := mIn3 (List.mem_of_getElem? (i := 233) rfl) rfl
theorem tb_714 : (Jvm.Cond.methodLink "RoundVotesModel" (152 : Nat) ({ cls := "RoundVotesModel", name := "roundPlace", desc := "(IIII)I" } : Jvm.MethodName)) ∈ mTb := mIn3 (List.mem_of_getElem? (i := 234) rfl) rfl
theorem tb_716 : (Jvm.Cond.instanceMethod ({ cls := "RoundVotesModel", name := "roundPlace", desc := "(IIII)I" } : Jvm.MethodName)) ∈ mTb := mIn3 (List.mem_of_getElem? (i := 236) rfl) rfl
theorem tb_717 : (Jvm.Cond.code ({ cls := "RoundVotesModel", name := "roundPlace", desc := "(IIII)I" } : Jvm.MethodName) prog_13_method_5_code (5 : Nat) (Option.some Jvm.ClassFile.FieldType.int)) ∈ mTb := mIn3 (List.mem_of_getElem? (i := 237) rfl) rfl
theorem tb_718 : (Jvm.Cond.methodLink "RoundVotesModel" (144 : Nat) ({ cls := "RoundVotesModel", name := "clearSigned", desc := "(I)V" } : Jvm.MethodName)) ∈ mTb := mIn3 (List.mem_of_getElem? (i := 238) rfl) rfl
theorem tb_720 : (Jvm.Cond.instanceMethod ({ cls := "RoundVotesModel", name := "clearSigned", desc := "(I)V" } : Jvm.MethodName)) ∈ mTb := mIn4 (List.mem_of_getElem? (i := 0) rfl) rfl
theorem tb_721 : (Jvm.Cond.code ({ cls := "RoundVotesModel", name := "clearSigned", desc := "(I)V" } : Jvm.MethodName) prog_13_method_7_code (3 : Nat) (Option.none : Option Jvm.ClassFile.FieldType)) ∈ mTb := mIn4 (List.mem_of_getElem? (i := 1) rfl) rfl
theorem tb_722 : (Jvm.Cond.fieldLink "RoundVotesModel" (1 : Nat) "RoundVotesModel" "thrown" "I") ∈ mTb := mIn4 (List.mem_of_getElem? (i := 2) rfl) rfl
theorem tb_723 : (Jvm.Cond.fieldLink "RoundVotesModel" (134 : Nat) "RoundVotesModel" "n" "I") ∈ mTb := mIn4 (List.mem_of_getElem? (i := 3) rfl) rfl
theorem tb_724 : (Jvm.Cond.fieldLink "RoundVotesModel" (137 : Nat) "RoundVotesModel" "seed" "I") ∈ mTb := mIn4 (List.mem_of_getElem? (i := 4) rfl) rfl
theorem tb_725 : (Jvm.Cond.fieldLink "RoundVotesModel" (182 : Nat) "RoundVotesModel" "time" "I") ∈ mTb := mIn4 (List.mem_of_getElem? (i := 5) rfl) rfl
theorem tb_726 : (Jvm.Cond.fieldLink "RoundVotesModel" (13 : Nat) "RoundVotesModel" "weights" "[I") ∈ mTb := mIn4 (List.mem_of_getElem? (i := 6) rfl) rfl
theorem tb_727 : (Jvm.Cond.fieldLink "RoundVotesModel" (17 : Nat) "RoundVotesModel" "heightOf" "[I") ∈ mTb := mIn4 (List.mem_of_getElem? (i := 7) rfl) rfl
theorem tb_728 : (Jvm.Cond.fieldLink "RoundVotesModel" (20 : Nat) "RoundVotesModel" "roundOf" "[I") ∈ mTb := mIn4 (List.mem_of_getElem? (i := 8) rfl) rfl
theorem tb_729 : (Jvm.Cond.fieldLink "RoundVotesModel" (23 : Nat) "RoundVotesModel" "stepOf" "[I") ∈ mTb := mIn4 (List.mem_of_getElem? (i := 9) rfl) rfl
theorem tb_730 : (Jvm.Cond.fieldLink "RoundVotesModel" (26 : Nat) "RoundVotesModel" "lockedValue" "[I") ∈ mTb := mIn4 (List.mem_of_getElem? (i := 10) rfl) rfl
theorem tb_731 : (Jvm.Cond.fieldLink "RoundVotesModel" (29 : Nat) "RoundVotesModel" "lockedRound" "[I") ∈ mTb := mIn4 (List.mem_of_getElem? (i := 11) rfl) rfl
theorem tb_732 : (Jvm.Cond.fieldLink "RoundVotesModel" (32 : Nat) "RoundVotesModel" "validValue" "[I") ∈ mTb := mIn4 (List.mem_of_getElem? (i := 12) rfl) rfl
theorem tb_733 : (Jvm.Cond.fieldLink "RoundVotesModel" (35 : Nat) "RoundVotesModel" "validRound" "[I") ∈ mTb := mIn4 (List.mem_of_getElem? (i := 13) rfl) rfl
theorem tb_734 : (Jvm.Cond.fieldLink "RoundVotesModel" (38 : Nat) "RoundVotesModel" "cutUntil" "[I") ∈ mTb := mIn4 (List.mem_of_getElem? (i := 14) rfl) rfl
theorem tb_735 : (Jvm.Cond.fieldLink "RoundVotesModel" (41 : Nat) "RoundVotesModel" "isCut" "[Z") ∈ mTb := mIn4 (List.mem_of_getElem? (i := 15) rfl) rfl
theorem tb_736 : (Jvm.Cond.fieldLink "RoundVotesModel" (45 : Nat) "RoundVotesModel" "behaviour" "[I") ∈ mTb := mIn4 (List.mem_of_getElem? (i := 16) rfl) rfl
theorem tb_737 : (Jvm.Cond.fieldLink "RoundVotesModel" (48 : Nat) "RoundVotesModel" "timers" "[I") ∈ mTb := mIn4 (List.mem_of_getElem? (i := 17) rfl) rfl
theorem tb_738 : (Jvm.Cond.fieldLink "RoundVotesModel" (51 : Nat) "RoundVotesModel" "didD" "[Z") ∈ mTb := mIn4 (List.mem_of_getElem? (i := 18) rfl) rfl
theorem tb_739 : (Jvm.Cond.fieldLink "RoundVotesModel" (54 : Nat) "RoundVotesModel" "didF" "[Z") ∈ mTb := mIn4 (List.mem_of_getElem? (i := 19) rfl) rfl
theorem tb_740 : (Jvm.Cond.fieldLink "RoundVotesModel" (57 : Nat) "RoundVotesModel" "didG" "[Z") ∈ mTb := mIn4 (List.mem_of_getElem? (i := 20) rfl) rfl
theorem tb_741 : (Jvm.Cond.fieldLink "RoundVotesModel" (60 : Nat) "RoundVotesModel" "sentCopies" "[I") ∈ mTb := mIn4 (List.mem_of_getElem? (i := 21) rfl) rfl
theorem tb_742 : (Jvm.Cond.fieldLink "RoundVotesModel" (63 : Nat) "RoundVotesModel" "has" "[I") ∈ mTb := mIn4 (List.mem_of_getElem? (i := 22) rfl) rfl
theorem tb_743 : (Jvm.Cond.fieldLink "RoundVotesModel" (66 : Nat) "RoundVotesModel" "hasRound" "[I") ∈ mTb := mIn4 (List.mem_of_getElem? (i := 23) rfl) rfl
theorem tb_744 : (Jvm.Cond.fieldLink "RoundVotesModel" (69 : Nat) "RoundVotesModel" "signed" "[I") ∈ mTb := mIn4 (List.mem_of_getElem? (i := 24) rfl) rfl
theorem tb_745 : (Jvm.Cond.fieldLink "RoundVotesModel" (72 : Nat) "RoundVotesModel" "signedRound" "[I") ∈ mTb := mIn4 (List.mem_of_getElem? (i := 25) rfl) rfl
theorem tb_746 : (Jvm.Cond.fieldLink "RoundVotesModel" (75 : Nat) "RoundVotesModel" "decidedValue" "[I") ∈ mTb := mIn4 (List.mem_of_getElem? (i := 26) rfl) rfl
theorem tb_747 : (Jvm.Cond.fieldLink "RoundVotesModel" (78 : Nat) "RoundVotesModel" "decidedRound" "[I") ∈ mTb := mIn4 (List.mem_of_getElem? (i := 27) rfl) rfl
theorem tb_748 : (Jvm.Cond.fieldLink "RoundVotesModel" (81 : Nat) "RoundVotesModel" "decidedBits" "[I") ∈ mTb := mIn4 (List.mem_of_getElem? (i := 28) rfl) rfl
theorem tb_749 : (Jvm.Cond.fieldLink "RoundVotesModel" (84 : Nat) "RoundVotesModel" "decidedWeight" "[J") ∈ mTb := mIn4 (List.mem_of_getElem? (i := 29) rfl) rfl
theorem tb_750 : (Jvm.Cond.fieldLink "RoundVotesModel" (88 : Nat) "RoundVotesModel" "due" "[I") ∈ mTb := mIn4 (List.mem_of_getElem? (i := 30) rfl) rfl
theorem tb_751 : (Jvm.Cond.fieldLink "RoundVotesModel" (91 : Nat) "RoundVotesModel" "from" "[I") ∈ mTb := mIn4 (List.mem_of_getElem? (i := 31) rfl) rfl
theorem tb_752 : (Jvm.Cond.fieldLink "RoundVotesModel" (94 : Nat) "RoundVotesModel" "to" "[I") ∈ mTb := mIn4 (List.mem_of_getElem? (i := 32) rfl) rfl
theorem tb_753 : (Jvm.Cond.fieldLink "RoundVotesModel" (97 : Nat) "RoundVotesModel" "height" "[I") ∈ mTb := mIn4 (List.mem_of_getElem? (i := 33) rfl) rfl
theorem tb_754 : (Jvm.Cond.fieldLink "RoundVotesModel" (100 : Nat) "RoundVotesModel" "round" "[I") ∈ mTb := mIn4 (List.mem_of_getElem? (i := 34) rfl) rfl
theorem tb_755 : (Jvm.Cond.fieldLink "RoundVotesModel" (103 : Nat) "RoundVotesModel" "kind" "[I") ∈ mTb := mIn4 (List.mem_of_getElem? (i := 35) rfl) rfl
theorem tb_756 : (Jvm.Cond.fieldLink "RoundVotesModel" (106 : Nat) "RoundVotesModel" "value" "[I") ∈ mTb := mIn4 (List.mem_of_getElem? (i := 36) rfl) rfl
theorem tb_757 : (Jvm.Cond.fieldLink "RoundVotesModel" (109 : Nat) "RoundVotesModel" "since" "[I") ∈ mTb := mIn4 (List.mem_of_getElem? (i := 37) rfl) rfl
theorem tb_758 : (Jvm.Cond.fieldLink "RoundVotesModel" (112 : Nat) "RoundVotesModel" "isSecond" "[Z") ∈ mTb := mIn4 (List.mem_of_getElem? (i := 38) rfl) rfl
theorem tb_759 : (Jvm.Cond.fieldLink "RoundVotesModel" (222 : Nat) "RoundVotesModel" "copies" "I") ∈ mTb := mIn4 (List.mem_of_getElem? (i := 39) rfl) rfl
theorem tb_760 : (Jvm.Cond.fieldLink "RoundVotesModel" (212 : Nat) "RoundVotesModel" "underWay" "I") ∈ mTb := mIn4 (List.mem_of_getElem? (i := 40) rfl) rfl
theorem tb_761 : (Jvm.Cond.fieldLink "RoundVotesModel" (198 : Nat) "RoundVotesModel" "gone" "I") ∈ mTb := mIn4 (List.mem_of_getElem? (i := 41) rfl) rfl
theorem tb_762 : (Jvm.Cond.fieldLink "RoundVotesModel" (290 : Nat) "RoundVotesModel" "came" "I") ∈ mTb := mIn4 (List.mem_of_getElem? (i := 42) rfl) rfl
theorem tb_763 : (Jvm.Cond.fieldLink "RoundVotesModel" (215 : Nat) "RoundVotesModel" "lost" "I") ∈ mTb := mIn4 (List.mem_of_getElem? (i := 43) rfl) rfl
theorem tb_764 : (Jvm.Cond.fieldLink "RoundVotesModel" (115 : Nat) "RoundVotesModel" "disturbed" "[I") ∈ mTb := mIn4 (List.mem_of_getElem? (i := 44) rfl) rfl
theorem tb_765 : (Jvm.Cond.fieldLink "RoundVotesModel" (118 : Nat) "RoundVotesModel" "disturbKind" "[I") ∈ mTb := mIn4 (List.mem_of_getElem? (i := 45) rfl) rfl
theorem tb_766 : (Jvm.Cond.fieldLink "RoundVotesModel" (121 : Nat) "RoundVotesModel" "disturbBy" "[I") ∈ mTb := mIn4 (List.mem_of_getElem? (i := 46) rfl) rfl
theorem tb_767 : (Jvm.Cond.fieldLink "RoundVotesModel" (205 : Nat) "RoundVotesModel" "disturbs" "I") ∈ mTb := mIn4 (List.mem_of_getElem? (i := 47) rfl) rfl
theorem tb_768 : (Jvm.Cond.fieldLink "RoundVotesModel" (195 : Nat) "RoundVotesModel" "sideBits" "I") ∈ mTb := mIn4 (List.mem_of_getElem? (i := 48) rfl) rfl
theorem tb_769 : (Jvm.Cond.fieldLink "RoundVotesModel" (185 : Nat) "RoundVotesModel" "sidesFrom" "I") ∈ mTb := mIn4 (List.mem_of_getElem? (i := 49) rfl) rfl
theorem tb_770 : (Jvm.Cond.fieldLink "RoundVotesModel" (188 : Nat) "RoundVotesModel" "sidesUntil" "I") ∈ mTb := mIn4 (List.mem_of_getElem? (i := 50) rfl) rfl
theorem tb_771 : (Jvm.Cond.fieldLink "RoundVotesModel" (124 : Nat) "RoundVotesModel" "evidence" "[I") ∈ mTb := mIn4 (List.mem_of_getElem? (i := 51) rfl) rfl
theorem tb_772 : (Jvm.Cond.fieldLink "RoundVotesModel" (228 : Nat) "RoundVotesModel" "evidences" "I") ∈ mTb := mIn4 (List.mem_of_getElem? (i := 52) rfl) rfl
theorem tb_773 : (Jvm.Cond.fieldLink "RoundVotesModel" (128 : Nat) "RoundVotesModel" "firstSent" "[I") ∈ mTb := mIn4 (List.mem_of_getElem? (i := 53) rfl) rfl
theorem tb_774 : (Jvm.Cond.fieldLink "RoundVotesModel" (131 : Nat) "RoundVotesModel" "sentUnlike" "[Z") ∈ mTb := mIn4 (List.mem_of_getElem? (i := 54) rfl) rfl
theorem tb_775 : (Jvm.Cond.lays "RoundVotesModel" "RoundVotesModel" "thrown" "I") ∈ mTb := mIn4 (List.mem_of_getElem? (i := 55) rfl) rfl
theorem tb_777 : (Jvm.Cond.laysFinal "RoundVotesModel" "RoundVotesModel" "n" "I") ∈ mTb := mIn4 (List.mem_of_getElem? (i := 57) rfl) rfl
theorem tb_779 : (Jvm.Cond.laysFinal "RoundVotesModel" "RoundVotesModel" "seed" "I") ∈ mTb := mIn4 (List.mem_of_getElem? (i := 59) rfl) rfl
theorem tb_781 : (Jvm.Cond.lays "RoundVotesModel" "RoundVotesModel" "time" "I") ∈ mTb := mIn4 (List.mem_of_getElem? (i := 61) rfl) rfl
theorem tb_783 : (Jvm.Cond.laysFinal "RoundVotesModel" "RoundVotesModel" "weights" "[I") ∈ mTb := mIn4 (List.mem_of_getElem? (i := 63) rfl) rfl
theorem tb_785 : (Jvm.Cond.laysFinal "RoundVotesModel" "RoundVotesModel" "heightOf" "[I") ∈ mTb := mIn4 (List.mem_of_getElem? (i := 65) rfl) rfl
theorem tb_787 : (Jvm.Cond.laysFinal "RoundVotesModel" "RoundVotesModel" "roundOf" "[I") ∈ mTb := mIn4 (List.mem_of_getElem? (i := 67) rfl) rfl
theorem tb_789 : (Jvm.Cond.laysFinal "RoundVotesModel" "RoundVotesModel" "stepOf" "[I") ∈ mTb := mIn4 (List.mem_of_getElem? (i := 69) rfl) rfl
theorem tb_791 : (Jvm.Cond.laysFinal "RoundVotesModel" "RoundVotesModel" "lockedValue" "[I") ∈ mTb := mIn4 (List.mem_of_getElem? (i := 71) rfl) rfl
theorem tb_793 : (Jvm.Cond.laysFinal "RoundVotesModel" "RoundVotesModel" "lockedRound" "[I") ∈ mTb := mIn4 (List.mem_of_getElem? (i := 73) rfl) rfl
theorem tb_795 : (Jvm.Cond.laysFinal "RoundVotesModel" "RoundVotesModel" "validValue" "[I") ∈ mTb := mIn4 (List.mem_of_getElem? (i := 75) rfl) rfl
theorem tb_797 : (Jvm.Cond.laysFinal "RoundVotesModel" "RoundVotesModel" "validRound" "[I") ∈ mTb := mIn4 (List.mem_of_getElem? (i := 77) rfl) rfl
theorem tb_799 : (Jvm.Cond.laysFinal "RoundVotesModel" "RoundVotesModel" "cutUntil" "[I") ∈ mTb := mIn4 (List.mem_of_getElem? (i := 79) rfl) rfl
theorem tb_801 : (Jvm.Cond.laysFinal "RoundVotesModel" "RoundVotesModel" "isCut" "[Z") ∈ mTb := mIn4 (List.mem_of_getElem? (i := 81) rfl) rfl
theorem tb_803 : (Jvm.Cond.laysFinal "RoundVotesModel" "RoundVotesModel" "behaviour" "[I") ∈ mTb := mIn4 (List.mem_of_getElem? (i := 83) rfl) rfl
theorem tb_805 : (Jvm.Cond.laysFinal "RoundVotesModel" "RoundVotesModel" "timers" "[I") ∈ mTb := mIn4 (List.mem_of_getElem? (i := 85) rfl) rfl
theorem tb_807 : (Jvm.Cond.laysFinal "RoundVotesModel" "RoundVotesModel" "didD" "[Z") ∈ mTb := mIn4 (List.mem_of_getElem? (i := 87) rfl) rfl
theorem tb_809 : (Jvm.Cond.laysFinal "RoundVotesModel" "RoundVotesModel" "didF" "[Z") ∈ mTb := mIn4 (List.mem_of_getElem? (i := 89) rfl) rfl
theorem tb_811 : (Jvm.Cond.laysFinal "RoundVotesModel" "RoundVotesModel" "didG" "[Z") ∈ mTb := mIn4 (List.mem_of_getElem? (i := 91) rfl) rfl
theorem tb_813 : (Jvm.Cond.laysFinal "RoundVotesModel" "RoundVotesModel" "sentCopies" "[I") ∈ mTb := mIn4 (List.mem_of_getElem? (i := 93) rfl) rfl
theorem tb_815 : (Jvm.Cond.laysFinal "RoundVotesModel" "RoundVotesModel" "has" "[I") ∈ mTb := mIn4 (List.mem_of_getElem? (i := 95) rfl) rfl
theorem tb_817 : (Jvm.Cond.laysFinal "RoundVotesModel" "RoundVotesModel" "hasRound" "[I") ∈ mTb := mIn4 (List.mem_of_getElem? (i := 97) rfl) rfl
theorem tb_819 : (Jvm.Cond.laysFinal "RoundVotesModel" "RoundVotesModel" "signed" "[I") ∈ mTb := mIn4 (List.mem_of_getElem? (i := 99) rfl) rfl
theorem tb_821 : (Jvm.Cond.laysFinal "RoundVotesModel" "RoundVotesModel" "signedRound" "[I") ∈ mTb := mIn4 (List.mem_of_getElem? (i := 101) rfl) rfl
theorem tb_823 : (Jvm.Cond.laysFinal "RoundVotesModel" "RoundVotesModel" "decidedValue" "[I") ∈ mTb := mIn4 (List.mem_of_getElem? (i := 103) rfl) rfl
theorem tb_825 : (Jvm.Cond.laysFinal "RoundVotesModel" "RoundVotesModel" "decidedRound" "[I") ∈ mTb := mIn4 (List.mem_of_getElem? (i := 105) rfl) rfl
theorem tb_827 : (Jvm.Cond.laysFinal "RoundVotesModel" "RoundVotesModel" "decidedBits" "[I") ∈ mTb := mIn4 (List.mem_of_getElem? (i := 107) rfl) rfl
theorem tb_829 : (Jvm.Cond.laysFinal "RoundVotesModel" "RoundVotesModel" "decidedWeight" "[J") ∈ mTb := mIn4 (List.mem_of_getElem? (i := 109) rfl) rfl
theorem tb_831 : (Jvm.Cond.laysFinal "RoundVotesModel" "RoundVotesModel" "due" "[I") ∈ mTb := mIn4 (List.mem_of_getElem? (i := 111) rfl) rfl
theorem tb_833 : (Jvm.Cond.laysFinal "RoundVotesModel" "RoundVotesModel" "from" "[I") ∈ mTb := mIn4 (List.mem_of_getElem? (i := 113) rfl) rfl
theorem tb_835 : (Jvm.Cond.laysFinal "RoundVotesModel" "RoundVotesModel" "to" "[I") ∈ mTb := mIn4 (List.mem_of_getElem? (i := 115) rfl) rfl
theorem tb_837 : (Jvm.Cond.laysFinal "RoundVotesModel" "RoundVotesModel" "height" "[I") ∈ mTb := mIn4 (List.mem_of_getElem? (i := 117) rfl) rfl
theorem tb_839 : (Jvm.Cond.laysFinal "RoundVotesModel" "RoundVotesModel" "round" "[I") ∈ mTb := mIn4 (List.mem_of_getElem? (i := 119) rfl) rfl
theorem tb_841 : (Jvm.Cond.laysFinal "RoundVotesModel" "RoundVotesModel" "kind" "[I") ∈ mTb := mIn4 (List.mem_of_getElem? (i := 121) rfl) rfl
theorem tb_843 : (Jvm.Cond.laysFinal "RoundVotesModel" "RoundVotesModel" "value" "[I") ∈ mTb := mIn4 (List.mem_of_getElem? (i := 123) rfl) rfl
theorem tb_845 : (Jvm.Cond.laysFinal "RoundVotesModel" "RoundVotesModel" "since" "[I") ∈ mTb := mIn4 (List.mem_of_getElem? (i := 125) rfl) rfl
theorem tb_847 : (Jvm.Cond.laysFinal "RoundVotesModel" "RoundVotesModel" "isSecond" "[Z") ∈ mTb := mIn4 (List.mem_of_getElem? (i := 127) rfl) rfl
theorem tb_849 : (Jvm.Cond.lays "RoundVotesModel" "RoundVotesModel" "copies" "I") ∈ mTb := mIn4 (List.mem_of_getElem? (i := 129) rfl) rfl
theorem tb_851 : (Jvm.Cond.lays "RoundVotesModel" "RoundVotesModel" "underWay" "I") ∈ mTb := mIn4 (List.mem_of_getElem? (i := 131) rfl) rfl
theorem tb_853 : (Jvm.Cond.lays "RoundVotesModel" "RoundVotesModel" "gone" "I") ∈ mTb := mIn4 (List.mem_of_getElem? (i := 133) rfl) rfl
theorem tb_855 : (Jvm.Cond.lays "RoundVotesModel" "RoundVotesModel" "came" "I") ∈ mTb := mIn4 (List.mem_of_getElem? (i := 135) rfl) rfl
theorem tb_857 : (Jvm.Cond.lays "RoundVotesModel" "RoundVotesModel" "lost" "I") ∈ mTb := mIn4 (List.mem_of_getElem? (i := 137) rfl) rfl
theorem tb_859 : (Jvm.Cond.laysFinal "RoundVotesModel" "RoundVotesModel" "disturbed" "[I") ∈ mTb := mIn4 (List.mem_of_getElem? (i := 139) rfl) rfl
theorem tb_861 : (Jvm.Cond.laysFinal "RoundVotesModel" "RoundVotesModel" "disturbKind" "[I") ∈ mTb := mIn4 (List.mem_of_getElem? (i := 141) rfl) rfl
theorem tb_863 : (Jvm.Cond.laysFinal "RoundVotesModel" "RoundVotesModel" "disturbBy" "[I") ∈ mTb := mIn4 (List.mem_of_getElem? (i := 143) rfl) rfl
theorem tb_865 : (Jvm.Cond.lays "RoundVotesModel" "RoundVotesModel" "disturbs" "I") ∈ mTb := mIn4 (List.mem_of_getElem? (i := 145) rfl) rfl
theorem tb_867 : (Jvm.Cond.lays "RoundVotesModel" "RoundVotesModel" "sideBits" "I") ∈ mTb := mIn4 (List.mem_of_getElem? (i := 147) rfl) rfl
theorem tb_869 : (Jvm.Cond.lays "RoundVotesModel" "RoundVotesModel" "sidesFrom" "I") ∈ mTb := mIn4 (List.mem_of_getElem? (i := 149) rfl) rfl
theorem tb_871 : (Jvm.Cond.lays "RoundVotesModel" "RoundVotesModel" "sidesUntil" "I") ∈ mTb := mIn4 (List.mem_of_getElem? (i := 151) rfl) rfl
theorem tb_873 : (Jvm.Cond.laysFinal "RoundVotesModel" "RoundVotesModel" "evidence" "[I") ∈ mTb := mIn4 (List.mem_of_getElem? (i := 153) rfl) rfl
theorem tb_875 : (Jvm.Cond.lays "RoundVotesModel" "RoundVotesModel" "evidences" "I") ∈ mTb := mIn4 (List.mem_of_getElem? (i := 155) rfl) rfl
theorem tb_877 : (Jvm.Cond.laysFinal "RoundVotesModel" "RoundVotesModel" "firstSent" "[I") ∈ mTb := mIn4 (List.mem_of_getElem? (i := 157) rfl) rfl
theorem tb_879 : (Jvm.Cond.laysFinal "RoundVotesModel" "RoundVotesModel" "sentUnlike" "[Z") ∈ mTb := mIn4 (List.mem_of_getElem? (i := 159) rfl) rfl
theorem tb_882 : (Jvm.Cond.arrayClass Jvm.ClassFile.FieldType.long) ∈ mTb := mIn4 (List.mem_of_getElem? (i := 162) rfl) rfl
theorem tb_883 : (Jvm.Cond.methodLink "RoundVotesLaw" (47 : Nat) ({ cls := "RoundVotesModel", name := "turn", desc := "(I)I" } : Jvm.MethodName)) ∈ mTb := mIn4 (List.mem_of_getElem? (i := 163) rfl) rfl
theorem tb_884 : (Jvm.Cond.instanceMethod ({ cls := "RoundVotesModel", name := "turn", desc := "(I)I" } : Jvm.MethodName)) ∈ mTb := mIn4 (List.mem_of_getElem? (i := 164) rfl) rfl
theorem tb_885 : (Jvm.Cond.selects "RoundVotesModel" ({ cls := "RoundVotesModel", name := "turn", desc := "(I)I" } : Jvm.MethodName) ({ cls := "RoundVotesModel", name := "turn", desc := "(I)I" } : Jvm.MethodName)) ∈ mTb := mIn4 (List.mem_of_getElem? (i := 165) rfl) rfl
theorem tb_886 : (Jvm.Cond.code ({ cls := "RoundVotesModel", name := "turn", desc := "(I)I" } : Jvm.MethodName) prog_13_method_40_code (3 : Nat) (Option.some Jvm.ClassFile.FieldType.int)) ∈ mTb := mIn4 (List.mem_of_getElem? (i := 166) rfl) rfl
theorem tb_887 : (Jvm.Cond.constantLong "RoundVotesModel" (306 : Nat) (100 : Int64)) ∈ mTb := mIn4 (List.mem_of_getElem? (i := 167) rfl) rfl
theorem tb_888 : (Jvm.Cond.methodLink "RoundVotesModel" (191 : Nat) ({ cls := "RoundVotesModel", name := "in", desc := "(JJJ)Z" } : Jvm.MethodName)) ∈ mTb := mIn4 (List.mem_of_getElem? (i := 168) rfl) rfl
theorem tb_889 : (Jvm.Cond.static ({ cls := "RoundVotesModel", name := "in", desc := "(JJJ)Z" } : Jvm.MethodName)) ∈ mTb := mIn4 (List.mem_of_getElem? (i := 169) rfl) rfl
theorem tb_890 : (Jvm.Cond.code ({ cls := "RoundVotesModel", name := "in", desc := "(JJJ)Z" } : Jvm.MethodName) prog_13_method_2_code (6 : Nat) (Option.some Jvm.ClassFile.FieldType.boolean)) ∈ mTb := mIn4 (List.mem_of_getElem? (i := 170) rfl) rfl
theorem tb_891 : (Jvm.Cond.methodLink "RoundVotesModel" (308 : Nat) ({ cls := "RoundVotesModel", name := "oneTurn", desc := "()V" } : Jvm.MethodName)) ∈ mTb := mIn4 (List.mem_of_getElem? (i := 171) rfl) rfl
theorem tb_893 : (Jvm.Cond.instanceMethod ({ cls := "RoundVotesModel", name := "oneTurn", desc := "()V" } : Jvm.MethodName)) ∈ mTb := mIn4 (List.mem_of_getElem? (i := 173) rfl) rfl
theorem tb_894 : (Jvm.Cond.code ({ cls := "RoundVotesModel", name := "oneTurn", desc := "()V" } : Jvm.MethodName) prog_13_method_39_code (4 : Nat) (Option.none : Option Jvm.ClassFile.FieldType)) ∈ mTb := mIn4 (List.mem_of_getElem? (i := 174) rfl) rfl
theorem tb_895 : (Jvm.Cond.methodLink "RoundVotesModel" (259 : Nat) ({ cls := "RoundVotesModel", name := "begin", desc := "(II)V" } : Jvm.MethodName)) ∈ mTb := mIn4 (List.mem_of_getElem? (i := 175) rfl) rfl
theorem tb_897 : (Jvm.Cond.instanceMethod ({ cls := "RoundVotesModel", name := "begin", desc := "(II)V" } : Jvm.MethodName)) ∈ mTb := mIn4 (List.mem_of_getElem? (i := 177) rfl) rfl
theorem tb_898 : (Jvm.Cond.code ({ cls := "RoundVotesModel", name := "begin", desc := "(II)V" } : Jvm.MethodName) prog_13_method_25_code (4 : Nat) (Option.none : Option Jvm.ClassFile.FieldType)) ∈ mTb := mIn4 (List.mem_of_getElem? (i := 178) rfl) rfl
theorem tb_899 : (Jvm.Cond.methodLink "RoundVotesModel" (234 : Nat) ({ cls := "RoundVotesModel", name := "proposer", desc := "(II)I" } : Jvm.MethodName)) ∈ mTb := mIn4 (List.mem_of_getElem? (i := 179) rfl) rfl
theorem tb_901 : (Jvm.Cond.instanceMethod ({ cls := "RoundVotesModel", name := "proposer", desc := "(II)I" } : Jvm.MethodName)) ∈ mTb := mIn4 (List.mem_of_getElem? (i := 181) rfl) rfl
theorem tb_902 : (Jvm.Cond.code ({ cls := "RoundVotesModel", name := "proposer", desc := "(II)I" } : Jvm.MethodName) prog_13_method_10_code (3 : Nat) (Option.some Jvm.ClassFile.FieldType.int)) ∈ mTb := mIn4 (List.mem_of_getElem? (i := 182) rfl) rfl
theorem tb_903 : (Jvm.Cond.methodLink "RoundVotesModel" (237 : Nat) ({ cls := "RoundVotesModel", name := "send", desc := "(IIII)V" } : Jvm.MethodName)) ∈ mTb := mIn4 (List.mem_of_getElem? (i := 183) rfl) rfl
theorem tb_905 : (Jvm.Cond.instanceMethod ({ cls := "RoundVotesModel", name := "send", desc := "(IIII)V" } : Jvm.MethodName)) ∈ mTb := mIn4 (List.mem_of_getElem? (i := 185) rfl) rfl
theorem tb_906 : (Jvm.Cond.code ({ cls := "RoundVotesModel", name := "send", desc := "(IIII)V" } : Jvm.MethodName) prog_13_method_15_code (12 : Nat) (Option.none : Option Jvm.ClassFile.FieldType)) ∈ mTb := mIn4 (List.mem_of_getElem? (i := 186) rfl) rfl
theorem tb_907 : (Jvm.Cond.methodLink "RoundVotesModel" (170 : Nat) ({ cls := "RoundVotesModel", name := "keep", desc := "(IIIIIIIZ)V" } : Jvm.MethodName)) ∈ mTb := mIn4 (List.mem_of_getElem? (i := 187) rfl) rfl
theorem tb_909 : (Jvm.Cond.instanceMethod ({ cls := "RoundVotesModel", name := "keep", desc := "(IIIIIIIZ)V" } : Jvm.MethodName)) ∈ mTb := mIn4 (List.mem_of_getElem? (i := 189) rfl) rfl
theorem tb_910 : (Jvm.Cond.code ({ cls := "RoundVotesModel", name := "keep", desc := "(IIIIIIIZ)V" } : Jvm.MethodName) prog_13_method_19_code (11 : Nat) (Option.none : Option Jvm.ClassFile.FieldType)) ∈ mTb := mIn4 (List.mem_of_getElem? (i := 190) rfl) rfl
theorem tb_911 : (Jvm.Cond.methodLink "RoundVotesModel" (225 : Nat) ({ cls := "RoundVotesModel", name := "accuse", desc := "(IIIII)V" } : Jvm.MethodName)) ∈ mTb := mIn4 (List.mem_of_getElem? (i := 191) rfl) rfl
theorem tb_913 : (Jvm.Cond.instanceMethod ({ cls := "RoundVotesModel", name := "accuse", desc := "(IIIII)V" } : Jvm.MethodName)) ∈ mTb := mIn4 (List.mem_of_getElem? (i := 193) rfl) rfl
theorem tb_914 : (Jvm.Cond.code ({ cls := "RoundVotesModel", name := "accuse", desc := "(IIIII)V" } : Jvm.MethodName) prog_13_method_20_code (7 : Nat) (Option.none : Option Jvm.ClassFile.FieldType)) ∈ mTb := mIn4 (List.mem_of_getElem? (i := 194) rfl) rfl
theorem tb_915 : (Jvm.Cond.methodLink "RoundVotesModel" (174 : Nat) ({ cls := "RoundVotesModel", name := "otherValue", desc := "(II)I" } : Jvm.MethodName)) ∈ mTb := mIn4 (List.mem_of_getElem? (i := 195) rfl) rfl
theorem tb_916 : (Jvm.Cond.static ({ cls := "RoundVotesModel", name := "otherValue", desc := "(II)I" } : Jvm.MethodName)) ∈ mTb := mIn4 (List.mem_of_getElem? (i := 196) rfl) rfl
theorem tb_917 : (Jvm.Cond.code ({ cls := "RoundVotesModel", name := "otherValue", desc := "(II)I" } : Jvm.MethodName) prog_13_method_14_code (2 : Nat) (Option.some Jvm.ClassFile.FieldType.int)) ∈ mTb := mIn4 (List.mem_of_getElem? (i := 197) rfl) rfl
theorem tb_918 : (Jvm.Cond.methodLink "RoundVotesModel" (178 : Nat) ({ cls := "RoundVotesModel", name := "copy", desc := "(IIIIIII)V" } : Jvm.MethodName)) ∈ mTb := mIn4 (List.mem_of_getElem? (i := 198) rfl) rfl
theorem tb_920 : (Jvm.Cond.instanceMethod ({ cls := "RoundVotesModel", name := "copy", desc := "(IIIIIII)V" } : Jvm.MethodName)) ∈ mTb := mIn4 (List.mem_of_getElem? (i := 200) rfl) rfl
theorem tb_921 : (Jvm.Cond.code ({ cls := "RoundVotesModel", name := "copy", desc := "(IIIIIII)V" } : Jvm.MethodName) prog_13_method_17_code (13 : Nat) (Option.none : Option Jvm.ClassFile.FieldType)) ∈ mTb := mIn4 (List.mem_of_getElem? (i := 201) rfl) rfl
theorem tb_922 : (Jvm.Cond.methodLink "RoundVotesModel" (201 : Nat) ({ cls := "RoundVotesModel", name := "noteSent", desc := "(IIIII)V" } : Jvm.MethodName)) ∈ mTb := mIn4 (List.mem_of_getElem? (i := 202) rfl) rfl
theorem tb_924 : (Jvm.Cond.instanceMethod ({ cls := "RoundVotesModel", name := "noteSent", desc := "(IIIII)V" } : Jvm.MethodName)) ∈ mTb := mIn4 (List.mem_of_getElem? (i := 204) rfl) rfl
theorem tb_925 : (Jvm.Cond.code ({ cls := "RoundVotesModel", name := "noteSent", desc := "(IIIII)V" } : Jvm.MethodName) prog_13_method_13_code (7 : Nat) (Option.none : Option Jvm.ClassFile.FieldType)) ∈ mTb := mIn4 (List.mem_of_getElem? (i := 205) rfl) rfl
theorem tb_926 : (Jvm.Cond.methodLink "RoundVotesModel" (167 : Nat) ({ cls := "RoundVotesModel", name := "sentPlace", desc := "(IIII)I" } : Jvm.MethodName)) ∈ mTb := mIn4 (List.mem_of_getElem? (i := 206) rfl) rfl
theorem tb_928 : (Jvm.Cond.instanceMethod ({ cls := "RoundVotesModel", name := "sentPlace", desc := "(IIII)I" } : Jvm.MethodName)) ∈ mTb := mIn4 (List.mem_of_getElem? (i := 208) rfl) rfl
theorem tb_929 : (Jvm.Cond.code ({ cls := "RoundVotesModel", name := "sentPlace", desc := "(IIII)I" } : Jvm.MethodName) prog_13_method_12_code (5 : Nat) (Option.some Jvm.ClassFile.FieldType.int)) ∈ mTb := mIn4 (List.mem_of_getElem? (i := 209) rfl) rfl
theorem tb_930 : (Jvm.Cond.methodLink "RoundVotesModel" (208 : Nat) ({ cls := "RoundVotesModel", name := "areApart", desc := "(II)Z" } : Jvm.MethodName)) ∈ mTb := mIn4 (List.mem_of_getElem? (i := 210) rfl) rfl
theorem tb_932 : (Jvm.Cond.instanceMethod ({ cls := "RoundVotesModel", name := "areApart", desc := "(II)Z" } : Jvm.MethodName)) ∈ mTb := mIn4 (List.mem_of_getElem? (i := 212) rfl) rfl
theorem tb_933 : (Jvm.Cond.code ({ cls := "RoundVotesModel", name := "areApart", desc := "(II)Z" } : Jvm.MethodName) prog_13_method_16_code (3 : Nat) (Option.some Jvm.ClassFile.FieldType.boolean)) ∈ mTb := mIn4 (List.mem_of_getElem? (i := 213) rfl) rfl
theorem tb_934 : (Jvm.Cond.methodLink "RoundVotesModel" (218 : Nat) ({ cls := "RoundVotesModel", name := "put", desc := "(IIIIIIIIZ)V" } : Jvm.MethodName)) ∈ mTb := mIn4 (List.mem_of_getElem? (i := 214) rfl) rfl
theorem tb_936 : (Jvm.Cond.instanceMethod ({ cls := "RoundVotesModel", name := "put", desc := "(IIIIIIIIZ)V" } : Jvm.MethodName)) ∈ mTb := mIn4 (List.mem_of_getElem? (i := 216) rfl) rfl
theorem tb_937 : (Jvm.Cond.code ({ cls := "RoundVotesModel", name := "put", desc := "(IIIIIIIIZ)V" } : Jvm.MethodName) prog_13_method_18_code (11 : Nat) (Option.none : Option Jvm.ClassFile.FieldType)) ∈ mTb := mIn4 (List.mem_of_getElem? (i := 217) rfl) rfl
theorem tb_938 : (Jvm.Cond.methodLink "RoundVotesModel" (241 : Nat) ({ cls := "RoundVotesModel", name := "ownValue", desc := "(III)I" } : Jvm.MethodName)) ∈ mTb := mIn4 (List.mem_of_getElem? (i := 218) rfl) rfl
theorem tb_940 : (Jvm.Cond.instanceMethod ({ cls := "RoundVotesModel", name := "ownValue", desc := "(III)I" } : Jvm.MethodName)) ∈ mTb := mIn4 (List.mem_of_getElem? (i := 220) rfl) rfl
theorem tb_941 : (Jvm.Cond.code ({ cls := "RoundVotesModel", name := "ownValue", desc := "(III)I" } : Jvm.MethodName) prog_13_method_11_code (4 : Nat) (Option.some Jvm.ClassFile.FieldType.int)) ∈ mTb := mIn4 (List.mem_of_getElem? (i := 221) rfl) rfl
theorem tb_942 : (Jvm.Cond.constant "RoundVotesModel" (164 : Nat) (104729 : Int32)) ∈ mTb := mIn4 (List.mem_of_getElem? (i := 222) rfl) rfl
theorem tb_943 : (Jvm.Cond.constant "RoundVotesModel" (165 : Nat) (1299709 : Int32)) ∈ mTb := mIn4 (List.mem_of_getElem? (i := 223) rfl) rfl
theorem tb_944 : (Jvm.Cond.constant "RoundVotesModel" (166 : Nat) (1048575 : Int32)) ∈ mTb := mIn4 (List.mem_of_getElem? (i := 224) rfl) rfl
theorem tb_945 : (Jvm.Cond.methodLink "RoundVotesModel" (287 : Nat) ({ cls := "RoundVotesModel", name := "rules", desc := "(I)V" } : Jvm.MethodName)) ∈ mTb := mIn4 (List.mem_of_getElem? (i := 225) rfl) rfl
theorem tb_947 : (Jvm.Cond.instanceMethod ({ cls := "RoundVotesModel", name := "rules", desc := "(I)V" } : Jvm.MethodName)) ∈ mTb := mIn4 (List.mem_of_getElem? (i := 227) rfl) rfl
theorem tb_948 : (Jvm.Cond.code ({ cls := "RoundVotesModel", name := "rules", desc := "(I)V" } : Jvm.MethodName) prog_13_method_34_code (3 : Nat) (Option.none : Option Jvm.ClassFile.FieldType)) ∈ mTb := mIn4 (List.mem_of_getElem? (i := 228) rfl) rfl
theorem tb_949 : (Jvm.Cond.methodLink "RoundVotesModel" (265 : Nat) ({ cls := "RoundVotesModel", name := "ruleA", desc := "(I)Z" } : Jvm.MethodName)) ∈ mTb := mIn4 (List.mem_of_getElem? (i := 229) rfl) rfl
theorem tb_951 : (Jvm.Cond.instanceMethod ({ cls := "RoundVotesModel", name := "ruleA", desc := "(I)Z" } : Jvm.MethodName)) ∈ mTb := mIn4 (List.mem_of_getElem? (i := 231) rfl) rfl
theorem tb_952 : (Jvm.Cond.code ({ cls := "RoundVotesModel", name := "ruleA", desc := "(I)Z" } : Jvm.MethodName) prog_13_method_27_code (7 : Nat) (Option.some Jvm.ClassFile.FieldType.boolean)) ∈ mTb := mIn4 (List.mem_of_getElem? (i := 232) rfl) rfl
theorem tb_953 : (Jvm.Cond.methodLink "RoundVotesModel" (245 : Nat) ({ cls := "RoundVotesModel", name := "proposal", desc := "(II)I" } : Jvm.MethodName)) ∈ mTb := mIn4 (List.mem_of_getElem? (i := 233) rfl) rfl
theorem tb_955 : (Jvm.Cond.instanceMethod ({ cls := "RoundVotesModel", name := "proposal", desc := "(II)I" } : Jvm.MethodName)) ∈ mTb := mIn4 (List.mem_of_getElem? (i := 235) rfl) rfl
theorem tb_956 : (Jvm.Cond.code ({ cls := "RoundVotesModel", name := "proposal", desc := "(II)I" } : Jvm.MethodName) prog_13_method_23_code (3 : Nat) (Option.some Jvm.ClassFile.FieldType.int)) ∈ mTb := mIn4 (List.mem_of_getElem? (i := 236) rfl) rfl
theorem tb_957 : (Jvm.Cond.methodLink "RoundVotesModel" (231 : Nat) ({ cls := "RoundVotesModel", name := "hasOf", desc := "(IIII)I" } : Jvm.MethodName)) ∈ mTb := mIn4 (List.mem_of_getElem? (i := 237) rfl) rfl
theorem tb_959 : (Jvm.Cond.instanceMethod ({ cls := "RoundVotesModel", name := "hasOf", desc := "(IIII)I" } : Jvm.MethodName)) ∈ mTb := mIn4 (List.mem_of_getElem? (i := 239) rfl) rfl
theorem tb_960 : (Jvm.Cond.code ({ cls := "RoundVotesModel", name := "hasOf", desc := "(IIII)I" } : Jvm.MethodName) prog_13_method_21_code (5 : Nat) (Option.some Jvm.ClassFile.FieldType.int)) ∈ mTb := mIn5 (List.mem_of_getElem? (i := 0) rfl) rfl
theorem tb_961 : (Jvm.Cond.methodLink "RoundVotesModel" (248 : Nat) ({ cls := "RoundVotesModel", name := "votes", desc := "(IIII)J" } : Jvm.MethodName)) ∈ mTb := mIn5 (List.mem_of_getElem? (i := 1) rfl) rfl
theorem tb_963 : (Jvm.Cond.instanceMethod ({ cls := "RoundVotesModel", name := "votes", desc := "(IIII)J" } : Jvm.MethodName)) ∈ mTb := mIn5 (List.mem_of_getElem? (i := 3) rfl) rfl
theorem tb_964 : (Jvm.Cond.code ({ cls := "RoundVotesModel", name := "votes", desc := "(IIII)J" } : Jvm.MethodName) prog_13_method_22_code (9 : Nat) (Option.some Jvm.ClassFile.FieldType.long)) ∈ mTb := mIn5 (List.mem_of_getElem? (i := 4) rfl) rfl
theorem tb_965 : (Jvm.Cond.methodLink "RoundVotesModel" (252 : Nat) ({ cls := "RoundVotesModel", name := "isMany", desc := "(JI)Z" } : Jvm.MethodName)) ∈ mTb := mIn5 (List.mem_of_getElem? (i := 5) rfl) rfl
theorem tb_967 : (Jvm.Cond.instanceMethod ({ cls := "RoundVotesModel", name := "isMany", desc := "(JI)Z" } : Jvm.MethodName)) ∈ mTb := mIn5 (List.mem_of_getElem? (i := 7) rfl) rfl
theorem tb_968 : (Jvm.Cond.code ({ cls := "RoundVotesModel", name := "isMany", desc := "(JI)Z" } : Jvm.MethodName) prog_13_method_9_code (4 : Nat) (Option.some Jvm.ClassFile.FieldType.boolean)) ∈ mTb := mIn5 (List.mem_of_getElem? (i := 8) rfl) rfl
theorem tb_969 : (Jvm.Cond.constantLong "RoundVotesModel" (156 : Nat) (3 : Int64)) ∈ mTb := mIn5 (List.mem_of_getElem? (i := 9) rfl) rfl
theorem tb_970 : (Jvm.Cond.constantLong "RoundVotesModel" (158 : Nat) (2 : Int64)) ∈ mTb := mIn5 (List.mem_of_getElem? (i := 10) rfl) rfl
theorem tb_971 : (Jvm.Cond.methodLink "RoundVotesModel" (160 : Nat) ({ cls := "RoundVotesModel", name := "all", desc := "(I)J" } : Jvm.MethodName)) ∈ mTb := mIn5 (List.mem_of_getElem? (i := 11) rfl) rfl
theorem tb_973 : (Jvm.Cond.instanceMethod ({ cls := "RoundVotesModel", name := "all", desc := "(I)J" } : Jvm.MethodName)) ∈ mTb := mIn5 (List.mem_of_getElem? (i := 13) rfl) rfl
theorem tb_974 : (Jvm.Cond.code ({ cls := "RoundVotesModel", name := "all", desc := "(I)J" } : Jvm.MethodName) prog_13_method_8_code (5 : Nat) (Option.some Jvm.ClassFile.FieldType.long)) ∈ mTb := mIn5 (List.mem_of_getElem? (i := 14) rfl) rfl
theorem tb_975 : (Jvm.Cond.methodLink "RoundVotesModel" (256 : Nat) ({ cls := "RoundVotesModel", name := "nextHeight", desc := "(I)V" } : Jvm.MethodName)) ∈ mTb := mIn5 (List.mem_of_getElem? (i := 15) rfl) rfl
theorem tb_977 : (Jvm.Cond.instanceMethod ({ cls := "RoundVotesModel", name := "nextHeight", desc := "(I)V" } : Jvm.MethodName)) ∈ mTb := mIn5 (List.mem_of_getElem? (i := 17) rfl) rfl
theorem tb_978 : (Jvm.Cond.code ({ cls := "RoundVotesModel", name := "nextHeight", desc := "(I)V" } : Jvm.MethodName) prog_13_method_26_code (3 : Nat) (Option.none : Option Jvm.ClassFile.FieldType)) ∈ mTb := mIn5 (List.mem_of_getElem? (i := 18) rfl) rfl
theorem tb_979 : (Jvm.Cond.methodLink "RoundVotesModel" (269 : Nat) ({ cls := "RoundVotesModel", name := "ruleB", desc := "(I)Z" } : Jvm.MethodName)) ∈ mTb := mIn5 (List.mem_of_getElem? (i := 19) rfl) rfl
theorem tb_981 : (Jvm.Cond.instanceMethod ({ cls := "RoundVotesModel", name := "ruleB", desc := "(I)Z" } : Jvm.MethodName)) ∈ mTb := mIn5 (List.mem_of_getElem? (i := 21) rfl) rfl
theorem tb_982 : (Jvm.Cond.code ({ cls := "RoundVotesModel", name := "ruleB", desc := "(I)Z" } : Jvm.MethodName) prog_13_method_28_code (8 : Nat) (Option.some Jvm.ClassFile.FieldType.boolean)) ∈ mTb := mIn5 (List.mem_of_getElem? (i := 22) rfl) rfl
theorem tb_983 : (Jvm.Cond.methodLink "RoundVotesModel" (272 : Nat) ({ cls := "RoundVotesModel", name := "ruleC", desc := "(I)Z" } : Jvm.MethodName)) ∈ mTb := mIn5 (List.mem_of_getElem? (i := 23) rfl) rfl
theorem tb_985 : (Jvm.Cond.instanceMethod ({ cls := "RoundVotesModel", name := "ruleC", desc := "(I)Z" } : Jvm.MethodName)) ∈ mTb := mIn5 (List.mem_of_getElem? (i := 25) rfl) rfl
theorem tb_986 : (Jvm.Cond.code ({ cls := "RoundVotesModel", name := "ruleC", desc := "(I)Z" } : Jvm.MethodName) prog_13_method_29_code (6 : Nat) (Option.some Jvm.ClassFile.FieldType.boolean)) ∈ mTb := mIn5 (List.mem_of_getElem? (i := 26) rfl) rfl
theorem tb_987 : (Jvm.Cond.methodLink "RoundVotesModel" (262 : Nat) ({ cls := "RoundVotesModel", name := "proposalSince", desc := "(II)I" } : Jvm.MethodName)) ∈ mTb := mIn5 (List.mem_of_getElem? (i := 27) rfl) rfl
theorem tb_989 : (Jvm.Cond.instanceMethod ({ cls := "RoundVotesModel", name := "proposalSince", desc := "(II)I" } : Jvm.MethodName)) ∈ mTb := mIn5 (List.mem_of_getElem? (i := 29) rfl) rfl
theorem tb_990 : (Jvm.Cond.code ({ cls := "RoundVotesModel", name := "proposalSince", desc := "(II)I" } : Jvm.MethodName) prog_13_method_24_code (3 : Nat) (Option.some Jvm.ClassFile.FieldType.int)) ∈ mTb := mIn5 (List.mem_of_getElem? (i := 30) rfl) rfl
theorem tb_991 : (Jvm.Cond.methodLink "RoundVotesModel" (275 : Nat) ({ cls := "RoundVotesModel", name := "ruleD", desc := "(I)Z" } : Jvm.MethodName)) ∈ mTb := mIn5 (List.mem_of_getElem? (i := 31) rfl) rfl
theorem tb_993 : (Jvm.Cond.instanceMethod ({ cls := "RoundVotesModel", name := "ruleD", desc := "(I)Z" } : Jvm.MethodName)) ∈ mTb := mIn5 (List.mem_of_getElem? (i := 33) rfl) rfl
theorem tb_994 : (Jvm.Cond.code ({ cls := "RoundVotesModel", name := "ruleD", desc := "(I)Z" } : Jvm.MethodName) prog_13_method_30_code (4 : Nat) (Option.some Jvm.ClassFile.FieldType.boolean)) ∈ mTb := mIn5 (List.mem_of_getElem? (i := 34) rfl) rfl
theorem tb_995 : (Jvm.Cond.methodLink "RoundVotesModel" (278 : Nat) ({ cls := "RoundVotesModel", name := "ruleE", desc := "(I)Z" } : Jvm.MethodName)) ∈ mTb := mIn5 (List.mem_of_getElem? (i := 35) rfl) rfl
theorem tb_997 : (Jvm.Cond.instanceMethod ({ cls := "RoundVotesModel", name := "ruleE", desc := "(I)Z" } : Jvm.MethodName)) ∈ mTb := mIn5 (List.mem_of_getElem? (i := 37) rfl) rfl
theorem tb_998 : (Jvm.Cond.code ({ cls := "RoundVotesModel", name := "ruleE", desc := "(I)Z" } : Jvm.MethodName) prog_13_method_31_code (2 : Nat) (Option.some Jvm.ClassFile.FieldType.boolean)) ∈ mTb := mIn5 (List.mem_of_getElem? (i := 38) rfl) rfl
theorem tb_999 : (Jvm.Cond.methodLink "RoundVotesModel" (281 : Nat) ({ cls := "RoundVotesModel", name := "ruleF", desc := "(I)Z" } : Jvm.MethodName)) ∈ mTb := mIn5 (List.mem_of_getElem? (i := 39) rfl) rfl
theorem tb_1001 : (Jvm.Cond.instanceMethod ({ cls := "RoundVotesModel", name := "ruleF", desc := "(I)Z" } : Jvm.MethodName)) ∈ mTb := mIn5 (List.mem_of_getElem? (i := 41) rfl) rfl
theorem tb_1002 : (Jvm.Cond.code ({ cls := "RoundVotesModel", name := "ruleF", desc := "(I)Z" } : Jvm.MethodName) prog_13_method_32_code (2 : Nat) (Option.some Jvm.ClassFile.FieldType.boolean)) ∈ mTb := mIn5 (List.mem_of_getElem? (i := 42) rfl) rfl
theorem tb_1003 : (Jvm.Cond.methodLink "RoundVotesModel" (284 : Nat) ({ cls := "RoundVotesModel", name := "ruleG", desc := "(I)Z" } : Jvm.MethodName)) ∈ mTb := mIn5 (List.mem_of_getElem? (i := 43) rfl) rfl
theorem tb_1005 : (Jvm.Cond.instanceMethod ({ cls := "RoundVotesModel", name := "ruleG", desc := "(I)Z" } : Jvm.MethodName)) ∈ mTb := mIn5 (List.mem_of_getElem? (i := 45) rfl) rfl
theorem tb_1006 : (Jvm.Cond.code ({ cls := "RoundVotesModel", name := "ruleG", desc := "(I)Z" } : Jvm.MethodName) prog_13_method_33_code (2 : Nat) (Option.some Jvm.ClassFile.FieldType.boolean)) ∈ mTb := mIn5 (List.mem_of_getElem? (i := 46) rfl) rfl
theorem tb_1007 : (Jvm.Cond.methodLink "RoundVotesModel" (293 : Nat) ({ cls := "RoundVotesModel", name := "comeBack", desc := "(I)V" } : Jvm.MethodName)) ∈ mTb := mIn5 (List.mem_of_getElem? (i := 47) rfl) rfl
theorem tb_1009 : (Jvm.Cond.instanceMethod ({ cls := "RoundVotesModel", name := "comeBack", desc := "(I)V" } : Jvm.MethodName)) ∈ mTb := mIn5 (List.mem_of_getElem? (i := 49) rfl) rfl
theorem tb_1010 : (Jvm.Cond.code ({ cls := "RoundVotesModel", name := "comeBack", desc := "(I)V" } : Jvm.MethodName) prog_13_method_35_code (5 : Nat) (Option.none : Option Jvm.ClassFile.FieldType)) ∈ mTb := mIn5 (List.mem_of_getElem? (i := 50) rfl) rfl
theorem tb_1011 : (Jvm.Cond.methodLink "RoundVotesModel" (296 : Nat) ({ cls := "RoundVotesModel", name := "deliver", desc := "(ZI)V" } : Jvm.MethodName)) ∈ mTb := mIn5 (List.mem_of_getElem? (i := 51) rfl) rfl
theorem tb_1013 : (Jvm.Cond.instanceMethod ({ cls := "RoundVotesModel", name := "deliver", desc := "(ZI)V" } : Jvm.MethodName)) ∈ mTb := mIn5 (List.mem_of_getElem? (i := 53) rfl) rfl
theorem tb_1014 : (Jvm.Cond.code ({ cls := "RoundVotesModel", name := "deliver", desc := "(ZI)V" } : Jvm.MethodName) prog_13_method_36_code (5 : Nat) (Option.none : Option Jvm.ClassFile.FieldType)) ∈ mTb := mIn5 (List.mem_of_getElem? (i := 54) rfl) rfl
theorem tb_1015 : (Jvm.Cond.methodLink "RoundVotesModel" (300 : Nat) ({ cls := "RoundVotesModel", name := "timerEnds", desc := "(II)V" } : Jvm.MethodName)) ∈ mTb := mIn5 (List.mem_of_getElem? (i := 55) rfl) rfl
theorem tb_1017 : (Jvm.Cond.instanceMethod ({ cls := "RoundVotesModel", name := "timerEnds", desc := "(II)V" } : Jvm.MethodName)) ∈ mTb := mIn5 (List.mem_of_getElem? (i := 57) rfl) rfl
theorem tb_1018 : (Jvm.Cond.code ({ cls := "RoundVotesModel", name := "timerEnds", desc := "(II)V" } : Jvm.MethodName) prog_13_method_38_code (3 : Nat) (Option.none : Option Jvm.ClassFile.FieldType)) ∈ mTb := mIn5 (List.mem_of_getElem? (i := 58) rfl) rfl
theorem tb_1019 : (Jvm.Cond.methodLink "RoundVotesModel" (303 : Nat) ({ cls := "RoundVotesModel", name := "tidy", desc := "()V" } : Jvm.MethodName)) ∈ mTb := mIn5 (List.mem_of_getElem? (i := 59) rfl) rfl
theorem tb_1021 : (Jvm.Cond.instanceMethod ({ cls := "RoundVotesModel", name := "tidy", desc := "()V" } : Jvm.MethodName)) ∈ mTb := mIn5 (List.mem_of_getElem? (i := 61) rfl) rfl
theorem tb_1022 : (Jvm.Cond.code ({ cls := "RoundVotesModel", name := "tidy", desc := "()V" } : Jvm.MethodName) prog_13_method_37_code (3 : Nat) (Option.none : Option Jvm.ClassFile.FieldType)) ∈ mTb := mIn5 (List.mem_of_getElem? (i := 62) rfl) rfl
theorem tb_1023 : (Jvm.Cond.methodLink "RoundVotesLaw" (25 : Nat) ({ cls := "RoundVotesModel", name := "weight", desc := "(II)I" } : Jvm.MethodName)) ∈ mTb := mIn5 (List.mem_of_getElem? (i := 63) rfl) rfl
theorem tb_1024 : (Jvm.Cond.instanceMethod ({ cls := "RoundVotesModel", name := "weight", desc := "(II)I" } : Jvm.MethodName)) ∈ mTb := mIn5 (List.mem_of_getElem? (i := 64) rfl) rfl
theorem tb_1025 : (Jvm.Cond.selects "RoundVotesModel" ({ cls := "RoundVotesModel", name := "weight", desc := "(II)I" } : Jvm.MethodName) ({ cls := "RoundVotesModel", name := "weight", desc := "(II)I" } : Jvm.MethodName)) ∈ mTb := mIn5 (List.mem_of_getElem? (i := 65) rfl) rfl
theorem tb_1026 : (Jvm.Cond.code ({ cls := "RoundVotesModel", name := "weight", desc := "(II)I" } : Jvm.MethodName) prog_13_method_42_code (5 : Nat) (Option.some Jvm.ClassFile.FieldType.int)) ∈ mTb := mIn5 (List.mem_of_getElem? (i := 66) rfl) rfl
theorem tb_1027 : (Jvm.Cond.methodLink "RoundVotesModel" (311 : Nat) ({ cls := "RoundVotesModel", name := "noNode", desc := "(I)Z" } : Jvm.MethodName)) ∈ mTb := mIn5 (List.mem_of_getElem? (i := 67) rfl) rfl
theorem tb_1029 : (Jvm.Cond.instanceMethod ({ cls := "RoundVotesModel", name := "noNode", desc := "(I)Z" } : Jvm.MethodName)) ∈ mTb := mIn5 (List.mem_of_getElem? (i := 69) rfl) rfl
theorem tb_1030 : (Jvm.Cond.code ({ cls := "RoundVotesModel", name := "noNode", desc := "(I)Z" } : Jvm.MethodName) prog_13_method_41_code (2 : Nat) (Option.some Jvm.ClassFile.FieldType.boolean)) ∈ mTb := mIn5 (List.mem_of_getElem? (i := 70) rfl) rfl
theorem tb_1031 : (Jvm.Cond.constantLong "RoundVotesModel" (314 : Nat) (1000000 : Int64)) ∈ mTb := mIn5 (List.mem_of_getElem? (i := 71) rfl) rfl
theorem tb_1032 : (Jvm.Cond.methodLink "RoundVotesLaw" (29 : Nat) ({ cls := "RoundVotesModel", name := "behave", desc := "(II)I" } : Jvm.MethodName)) ∈ mTb := mIn5 (List.mem_of_getElem? (i := 72) rfl) rfl
theorem tb_1033 : (Jvm.Cond.instanceMethod ({ cls := "RoundVotesModel", name := "behave", desc := "(II)I" } : Jvm.MethodName)) ∈ mTb := mIn5 (List.mem_of_getElem? (i := 73) rfl) rfl
theorem tb_1034 : (Jvm.Cond.selects "RoundVotesModel" ({ cls := "RoundVotesModel", name := "behave", desc := "(II)I" } : Jvm.MethodName) ({ cls := "RoundVotesModel", name := "behave", desc := "(II)I" } : Jvm.MethodName)) ∈ mTb := mIn5 (List.mem_of_getElem? (i := 74) rfl) rfl
theorem tb_1035 : (Jvm.Cond.code ({ cls := "RoundVotesModel", name := "behave", desc := "(II)I" } : Jvm.MethodName) prog_13_method_43_code (4 : Nat) (Option.some Jvm.ClassFile.FieldType.int)) ∈ mTb := mIn5 (List.mem_of_getElem? (i := 75) rfl) rfl
theorem tb_1036 : (Jvm.Cond.constantLong "RoundVotesModel" (316 : Nat) (5 : Int64)) ∈ mTb := mIn5 (List.mem_of_getElem? (i := 76) rfl) rfl
theorem tb_1037 : (Jvm.Cond.methodLink "RoundVotesLaw" (34 : Nat) ({ cls := "RoundVotesModel", name := "disturb", desc := "(III)I" } : Jvm.MethodName)) ∈ mTb := mIn5 (List.mem_of_getElem? (i := 77) rfl) rfl
theorem tb_1038 : (Jvm.Cond.instanceMethod ({ cls := "RoundVotesModel", name := "disturb", desc := "(III)I" } : Jvm.MethodName)) ∈ mTb := mIn5 (List.mem_of_getElem? (i := 78) rfl) rfl
theorem tb_1039 : (Jvm.Cond.selects "RoundVotesModel" ({ cls := "RoundVotesModel", name := "disturb", desc := "(III)I" } : Jvm.MethodName) ({ cls := "RoundVotesModel", name := "disturb", desc := "(III)I" } : Jvm.MethodName)) ∈ mTb := mIn5 (List.mem_of_getElem? (i := 79) rfl) rfl
theorem tb_1040 : (Jvm.Cond.code ({ cls := "RoundVotesModel", name := "disturb", desc := "(III)I" } : Jvm.MethodName) prog_13_method_44_code (5 : Nat) (Option.some Jvm.ClassFile.FieldType.int)) ∈ mTb := mIn5 (List.mem_of_getElem? (i := 80) rfl) rfl
theorem tb_1041 : (Jvm.Cond.constantLong "RoundVotesModel" (318 : Nat) (20 : Int64)) ∈ mTb := mIn5 (List.mem_of_getElem? (i := 81) rfl) rfl
theorem tb_1042 : (Jvm.Cond.methodLink "RoundVotesLaw" (38 : Nat) ({ cls := "RoundVotesModel", name := "sides", desc := "(II)I" } : Jvm.MethodName)) ∈ mTb := mIn5 (List.mem_of_getElem? (i := 82) rfl) rfl
theorem tb_1043 : (Jvm.Cond.instanceMethod ({ cls := "RoundVotesModel", name := "sides", desc := "(II)I" } : Jvm.MethodName)) ∈ mTb := mIn5 (List.mem_of_getElem? (i := 83) rfl) rfl
theorem tb_1044 : (Jvm.Cond.selects "RoundVotesModel" ({ cls := "RoundVotesModel", name := "sides", desc := "(II)I" } : Jvm.MethodName) ({ cls := "RoundVotesModel", name := "sides", desc := "(II)I" } : Jvm.MethodName)) ∈ mTb := mIn5 (List.mem_of_getElem? (i := 84) rfl) rfl
theorem tb_1045 : (Jvm.Cond.code ({ cls := "RoundVotesModel", name := "sides", desc := "(II)I" } : Jvm.MethodName) prog_13_method_45_code (3 : Nat) (Option.some Jvm.ClassFile.FieldType.int)) ∈ mTb := mIn5 (List.mem_of_getElem? (i := 85) rfl) rfl
theorem tb_1046 : (Jvm.Cond.methodLink "RoundVotesLaw" (42 : Nat) ({ cls := "RoundVotesModel", name := "cut", desc := "(II)I" } : Jvm.MethodName)) ∈ mTb := mIn5 (List.mem_of_getElem? (i := 86) rfl) rfl
theorem tb_1047 : (Jvm.Cond.instanceMethod ({ cls := "RoundVotesModel", name := "cut", desc := "(II)I" } : Jvm.MethodName)) ∈ mTb := mIn5 (List.mem_of_getElem? (i := 87) rfl) rfl
theorem tb_1048 : (Jvm.Cond.selects "RoundVotesModel" ({ cls := "RoundVotesModel", name := "cut", desc := "(II)I" } : Jvm.MethodName) ({ cls := "RoundVotesModel", name := "cut", desc := "(II)I" } : Jvm.MethodName)) ∈ mTb := mIn5 (List.mem_of_getElem? (i := 88) rfl) rfl
theorem tb_1049 : (Jvm.Cond.code ({ cls := "RoundVotesModel", name := "cut", desc := "(II)I" } : Jvm.MethodName) prog_13_method_46_code (3 : Nat) (Option.some Jvm.ClassFile.FieldType.int)) ∈ mTb := mIn5 (List.mem_of_getElem? (i := 89) rfl) rfl
theorem tb_1050 : (Jvm.Cond.constantLong "RoundVotesModel" (320 : Nat) (50 : Int64)) ∈ mTb := mIn5 (List.mem_of_getElem? (i := 90) rfl) rfl
theorem tb_1051 : (Jvm.Cond.methodLink "RoundVotesLaw" (51 : Nat) ({ cls := "RoundVotesModel", name := "catchUp", desc := "(I)I" } : Jvm.MethodName)) ∈ mTb := mIn5 (List.mem_of_getElem? (i := 91) rfl) rfl
theorem tb_1052 : (Jvm.Cond.instanceMethod ({ cls := "RoundVotesModel", name := "catchUp", desc := "(I)I" } : Jvm.MethodName)) ∈ mTb := mIn5 (List.mem_of_getElem? (i := 92) rfl) rfl
theorem tb_1053 : (Jvm.Cond.selects "RoundVotesModel" ({ cls := "RoundVotesModel", name := "catchUp", desc := "(I)I" } : Jvm.MethodName) ({ cls := "RoundVotesModel", name := "catchUp", desc := "(I)I" } : Jvm.MethodName)) ∈ mTb := mIn5 (List.mem_of_getElem? (i := 93) rfl) rfl
theorem tb_1054 : (Jvm.Cond.code ({ cls := "RoundVotesModel", name := "catchUp", desc := "(I)I" } : Jvm.MethodName) prog_13_method_47_code (8 : Nat) (Option.some Jvm.ClassFile.FieldType.int)) ∈ mTb := mIn5 (List.mem_of_getElem? (i := 94) rfl) rfl
theorem tb_1055 : (Jvm.Cond.methodLink "RoundVotesLaw" (55 : Nat) ({ cls := "RoundVotesModel", name := "node", desc := "(II)I" } : Jvm.MethodName)) ∈ mTb := mIn5 (List.mem_of_getElem? (i := 95) rfl) rfl
theorem tb_1056 : (Jvm.Cond.instanceMethod ({ cls := "RoundVotesModel", name := "node", desc := "(II)I" } : Jvm.MethodName)) ∈ mTb := mIn5 (List.mem_of_getElem? (i := 96) rfl) rfl
theorem tb_1057 : (Jvm.Cond.selects "RoundVotesModel" ({ cls := "RoundVotesModel", name := "node", desc := "(II)I" } : Jvm.MethodName) ({ cls := "RoundVotesModel", name := "node", desc := "(II)I" } : Jvm.MethodName)) ∈ mTb := mIn5 (List.mem_of_getElem? (i := 97) rfl) rfl
theorem tb_1058 : (Jvm.Cond.code ({ cls := "RoundVotesModel", name := "node", desc := "(II)I" } : Jvm.MethodName) prog_13_method_48_code (3 : Nat) (Option.some Jvm.ClassFile.FieldType.int)) ∈ mTb := mIn5 (List.mem_of_getElem? (i := 98) rfl) rfl
theorem tb_1059 : (Jvm.Cond.constantLong "RoundVotesModel" (322 : Nat) (12 : Int64)) ∈ mTb := mIn5 (List.mem_of_getElem? (i := 99) rfl) rfl
theorem tb_1060 : (Jvm.Cond.methodLink "RoundVotesLaw" (60 : Nat) ({ cls := "RoundVotesModel", name := "vote", desc := "(IIII)I" } : Jvm.MethodName)) ∈ mTb := mIn5 (List.mem_of_getElem? (i := 100) rfl) rfl
theorem tb_1061 : (Jvm.Cond.instanceMethod ({ cls := "RoundVotesModel", name := "vote", desc := "(IIII)I" } : Jvm.MethodName)) ∈ mTb := mIn5 (List.mem_of_getElem? (i := 101) rfl) rfl
theorem tb_1062 : (Jvm.Cond.selects "RoundVotesModel" ({ cls := "RoundVotesModel", name := "vote", desc := "(IIII)I" } : Jvm.MethodName) ({ cls := "RoundVotesModel", name := "vote", desc := "(IIII)I" } : Jvm.MethodName)) ∈ mTb := mIn5 (List.mem_of_getElem? (i := 102) rfl) rfl
theorem tb_1063 : (Jvm.Cond.code ({ cls := "RoundVotesModel", name := "vote", desc := "(IIII)I" } : Jvm.MethodName) prog_13_method_49_code (6 : Nat) (Option.some Jvm.ClassFile.FieldType.int)) ∈ mTb := mIn5 (List.mem_of_getElem? (i := 103) rfl) rfl
theorem tb_1064 : (Jvm.Cond.constantLong "RoundVotesModel" (324 : Nat) (29 : Int64)) ∈ mTb := mIn5 (List.mem_of_getElem? (i := 104) rfl) rfl
theorem tb_1065 : (Jvm.Cond.methodLink "RoundVotesLaw" (64 : Nat) ({ cls := "RoundVotesModel", name := "decided", desc := "(III)I" } : Jvm.MethodName)) ∈ mTb := mIn5 (List.mem_of_getElem? (i := 105) rfl) rfl
theorem tb_1066 : (Jvm.Cond.instanceMethod ({ cls := "RoundVotesModel", name := "decided", desc := "(III)I" } : Jvm.MethodName)) ∈ mTb := mIn5 (List.mem_of_getElem? (i := 106) rfl) rfl
theorem tb_1067 : (Jvm.Cond.selects "RoundVotesModel" ({ cls := "RoundVotesModel", name := "decided", desc := "(III)I" } : Jvm.MethodName) ({ cls := "RoundVotesModel", name := "decided", desc := "(III)I" } : Jvm.MethodName)) ∈ mTb := mIn5 (List.mem_of_getElem? (i := 107) rfl) rfl
theorem tb_1068 : (Jvm.Cond.code ({ cls := "RoundVotesModel", name := "decided", desc := "(III)I" } : Jvm.MethodName) prog_13_method_50_code (5 : Nat) (Option.some Jvm.ClassFile.FieldType.int)) ∈ mTb := mIn5 (List.mem_of_getElem? (i := 108) rfl) rfl
theorem tb_1069 : (Jvm.Cond.constantLong "RoundVotesModel" (326 : Nat) (40 : Int64)) ∈ mTb := mIn5 (List.mem_of_getElem? (i := 109) rfl) rfl
theorem tb_1070 : (Jvm.Cond.methodLink "RoundVotesLaw" (68 : Nat) ({ cls := "RoundVotesModel", name := "unlike", desc := "(I)I" } : Jvm.MethodName)) ∈ mTb := mIn5 (List.mem_of_getElem? (i := 110) rfl) rfl
theorem tb_1071 : (Jvm.Cond.instanceMethod ({ cls := "RoundVotesModel", name := "unlike", desc := "(I)I" } : Jvm.MethodName)) ∈ mTb := mIn5 (List.mem_of_getElem? (i := 111) rfl) rfl
theorem tb_1072 : (Jvm.Cond.selects "RoundVotesModel" ({ cls := "RoundVotesModel", name := "unlike", desc := "(I)I" } : Jvm.MethodName) ({ cls := "RoundVotesModel", name := "unlike", desc := "(I)I" } : Jvm.MethodName)) ∈ mTb := mIn5 (List.mem_of_getElem? (i := 112) rfl) rfl
theorem tb_1073 : (Jvm.Cond.code ({ cls := "RoundVotesModel", name := "unlike", desc := "(I)I" } : Jvm.MethodName) prog_13_method_51_code (5 : Nat) (Option.some Jvm.ClassFile.FieldType.int)) ∈ mTb := mIn5 (List.mem_of_getElem? (i := 113) rfl) rfl
theorem tb_1074 : (Jvm.Cond.methodLink "RoundVotesLaw" (72 : Nat) ({ cls := "RoundVotesModel", name := "evidence", desc := "(II)I" } : Jvm.MethodName)) ∈ mTb := mIn5 (List.mem_of_getElem? (i := 114) rfl) rfl
theorem tb_1075 : (Jvm.Cond.instanceMethod ({ cls := "RoundVotesModel", name := "evidence", desc := "(II)I" } : Jvm.MethodName)) ∈ mTb := mIn5 (List.mem_of_getElem? (i := 115) rfl) rfl
theorem tb_1076 : (Jvm.Cond.selects "RoundVotesModel" ({ cls := "RoundVotesModel", name := "evidence", desc := "(II)I" } : Jvm.MethodName) ({ cls := "RoundVotesModel", name := "evidence", desc := "(II)I" } : Jvm.MethodName)) ∈ mTb := mIn5 (List.mem_of_getElem? (i := 116) rfl) rfl
theorem tb_1077 : (Jvm.Cond.code ({ cls := "RoundVotesModel", name := "evidence", desc := "(II)I" } : Jvm.MethodName) prog_13_method_52_code (3 : Nat) (Option.some Jvm.ClassFile.FieldType.int)) ∈ mTb := mIn5 (List.mem_of_getElem? (i := 117) rfl) rfl
theorem tb_1078 : (Jvm.Cond.methodLink "RoundVotesLaw" (76 : Nat) ({ cls := "RoundVotesModel", name := "against", desc := "(I)I" } : Jvm.MethodName)) ∈ mTb := mIn5 (List.mem_of_getElem? (i := 118) rfl) rfl
theorem tb_1079 : (Jvm.Cond.instanceMethod ({ cls := "RoundVotesModel", name := "against", desc := "(I)I" } : Jvm.MethodName)) ∈ mTb := mIn5 (List.mem_of_getElem? (i := 119) rfl) rfl
theorem tb_1080 : (Jvm.Cond.selects "RoundVotesModel" ({ cls := "RoundVotesModel", name := "against", desc := "(I)I" } : Jvm.MethodName) ({ cls := "RoundVotesModel", name := "against", desc := "(I)I" } : Jvm.MethodName)) ∈ mTb := mIn5 (List.mem_of_getElem? (i := 120) rfl) rfl
theorem tb_1081 : (Jvm.Cond.code ({ cls := "RoundVotesModel", name := "against", desc := "(I)I" } : Jvm.MethodName) prog_13_method_53_code (4 : Nat) (Option.some Jvm.ClassFile.FieldType.int)) ∈ mTb := mIn5 (List.mem_of_getElem? (i := 121) rfl) rfl
theorem tb_1082 : (Jvm.Cond.methodLink "RoundVotesLaw" (80 : Nat) ({ cls := "RoundVotesModel", name := "count", desc := "(I)I" } : Jvm.MethodName)) ∈ mTb := mIn5 (List.mem_of_getElem? (i := 122) rfl) rfl
theorem tb_1083 : (Jvm.Cond.instanceMethod ({ cls := "RoundVotesModel", name := "count", desc := "(I)I" } : Jvm.MethodName)) ∈ mTb := mIn5 (List.mem_of_getElem? (i := 123) rfl) rfl
theorem tb_1084 : (Jvm.Cond.selects "RoundVotesModel" ({ cls := "RoundVotesModel", name := "count", desc := "(I)I" } : Jvm.MethodName) ({ cls := "RoundVotesModel", name := "count", desc := "(I)I" } : Jvm.MethodName)) ∈ mTb := mIn5 (List.mem_of_getElem? (i := 124) rfl) rfl
theorem tb_1085 : (Jvm.Cond.code ({ cls := "RoundVotesModel", name := "count", desc := "(I)I" } : Jvm.MethodName) prog_13_method_54_code (5 : Nat) (Option.some Jvm.ClassFile.FieldType.int)) ∈ mTb := mIn5 (List.mem_of_getElem? (i := 125) rfl) rfl
theorem tb_1086 : (Jvm.Cond.methodLink "RoundVotesLaw" (84 : Nat) ({ cls := "RoundVotesModel", name := "weightOf", desc := "(II)I" } : Jvm.MethodName)) ∈ mTb := mIn5 (List.mem_of_getElem? (i := 126) rfl) rfl
theorem tb_1087 : (Jvm.Cond.instanceMethod ({ cls := "RoundVotesModel", name := "weightOf", desc := "(II)I" } : Jvm.MethodName)) ∈ mTb := mIn5 (List.mem_of_getElem? (i := 127) rfl) rfl
theorem tb_1088 : (Jvm.Cond.selects "RoundVotesModel" ({ cls := "RoundVotesModel", name := "weightOf", desc := "(II)I" } : Jvm.MethodName) ({ cls := "RoundVotesModel", name := "weightOf", desc := "(II)I" } : Jvm.MethodName)) ∈ mTb := mIn5 (List.mem_of_getElem? (i := 128) rfl) rfl
theorem tb_1089 : (Jvm.Cond.code ({ cls := "RoundVotesModel", name := "weightOf", desc := "(II)I" } : Jvm.MethodName) prog_13_method_55_code (3 : Nat) (Option.some Jvm.ClassFile.FieldType.int)) ∈ mTb := mIn5 (List.mem_of_getElem? (i := 129) rfl) rfl
theorem tb_s0 : Cond.selects "RoundVotes" ⟨"RoundVotes", "isNode", "(I)Z"⟩ ⟨"RoundVotes", "isNode", "(I)Z"⟩ ∈ mTb := mIp1 (q := (⟨"RoundVotes", "isNode", "(I)Z"⟩, 12)) (List.mem_of_getElem? (i := 0) rfl)
theorem tb_s1 : Cond.selects "RoundVotes" ⟨"RoundVotes", "greatestHeight", "()I"⟩ ⟨"RoundVotes", "greatestHeight", "()I"⟩ ∈ mTb := mIp1 (q := (⟨"RoundVotes", "greatestHeight", "()I"⟩, 12)) (List.mem_of_getElem? (i := 1) rfl)
theorem tb_s2 : Cond.selects "RoundVotes" ⟨"RoundVotes", "beginAll", "()V"⟩ ⟨"RoundVotes", "beginAll", "()V"⟩ ∈ mTb := mIp1 (q := (⟨"RoundVotes", "beginAll", "()V"⟩, 12)) (List.mem_of_getElem? (i := 2) rfl)
theorem tb_s3 : Cond.selects "RoundVotes$Node" ⟨"RoundVotes$Node", "standsStill", "()Z"⟩ ⟨"RoundVotes$Node", "standsStill", "()Z"⟩ ∈ mTb := mIp1 (q := (⟨"RoundVotes$Node", "standsStill", "()Z"⟩, 18)) (List.mem_of_getElem? (i := 3) rfl)
theorem tb_s4 : Cond.selects "RoundVotes$Node" ⟨"RoundVotes$Node", "send", "(III)V"⟩ ⟨"RoundVotes$Node", "send", "(III)V"⟩ ∈ mTb := mIp1 (q := (⟨"RoundVotes$Node", "send", "(III)V"⟩, 18)) (List.mem_of_getElem? (i := 4) rfl)
theorem tb_s5 : Cond.selects "RoundVotes" ⟨"RoundVotes", "settle", "(LRoundVotes$Node;)V"⟩ ⟨"RoundVotes", "settle", "(LRoundVotes$Node;)V"⟩ ∈ mTb := mIp1 (q := (⟨"RoundVotes", "settle", "(LRoundVotes$Node;)V"⟩, 12)) (List.mem_of_getElem? (i := 5) rfl)
theorem tb_s6 : Cond.selects "RoundVotes" ⟨"RoundVotes", "dispatch", "(LRoundVotes$Node;)V"⟩ ⟨"RoundVotes", "dispatch", "(LRoundVotes$Node;)V"⟩ ∈ mTb := mIp1 (q := (⟨"RoundVotes", "dispatch", "(LRoundVotes$Node;)V"⟩, 12)) (List.mem_of_getElem? (i := 6) rfl)
theorem tb_s7 : Cond.selects "RoundVotes" ⟨"RoundVotes", "sendCopy", "(LRoundVotes$Message;)V"⟩ ⟨"RoundVotes", "sendCopy", "(LRoundVotes$Message;)V"⟩ ∈ mTb := mIp1 (q := (⟨"RoundVotes", "sendCopy", "(LRoundVotes$Message;)V"⟩, 12)) (List.mem_of_getElem? (i := 7) rfl)
theorem tb_s8 : Cond.selects "RoundVotes" ⟨"RoundVotes", "areOnUnlikeSides", "(II)Z"⟩ ⟨"RoundVotes", "areOnUnlikeSides", "(II)Z"⟩ ∈ mTb := mIp1 (q := (⟨"RoundVotes", "areOnUnlikeSides", "(II)Z"⟩, 12)) (List.mem_of_getElem? (i := 8) rfl)
theorem tb_s9 : Cond.selects "RoundVotes$Node" ⟨"RoundVotes$Node", "roundToDecide", "()I"⟩ ⟨"RoundVotes$Node", "roundToDecide", "()I"⟩ ∈ mTb := mIp1 (q := (⟨"RoundVotes$Node", "roundToDecide", "()I"⟩, 18)) (List.mem_of_getElem? (i := 9) rfl)
theorem tb_s10 : Cond.selects "RoundVotes$Node" ⟨"RoundVotes$Node", "proposalOf", "(I)I"⟩ ⟨"RoundVotes$Node", "proposalOf", "(I)I"⟩ ∈ mTb := mIp1 (q := (⟨"RoundVotes$Node", "proposalOf", "(I)I"⟩, 18)) (List.mem_of_getElem? (i := 10) rfl)
theorem tb_s11 : Cond.selects "RoundVotes$Node" ⟨"RoundVotes$Node", "areMany", "(I)Z"⟩ ⟨"RoundVotes$Node", "areMany", "(I)Z"⟩ ∈ mTb := mIp1 (q := (⟨"RoundVotes$Node", "areMany", "(I)Z"⟩, 18)) (List.mem_of_getElem? (i := 11) rfl)
theorem tb_s12 : Cond.selects "RoundVotes$Node" ⟨"RoundVotes$Node", "decide", "(I)V"⟩ ⟨"RoundVotes$Node", "decide", "(I)V"⟩ ∈ mTb := mIp1 (q := (⟨"RoundVotes$Node", "decide", "(I)V"⟩, 18)) (List.mem_of_getElem? (i := 12) rfl)
theorem tb_s13 : Cond.selects "RoundVotes$Node" ⟨"RoundVotes$Node", "goToNextHeight", "()V"⟩ ⟨"RoundVotes$Node", "goToNextHeight", "()V"⟩ ∈ mTb := mIp1 (q := (⟨"RoundVotes$Node", "goToNextHeight", "()V"⟩, 18)) (List.mem_of_getElem? (i := 13) rfl)
theorem tb_s14 : Cond.selects "RoundVotes$Node" ⟨"RoundVotes$Node", "roundToJoin", "()I"⟩ ⟨"RoundVotes$Node", "roundToJoin", "()I"⟩ ∈ mTb := mIp1 (q := (⟨"RoundVotes$Node", "roundToJoin", "()I"⟩, 18)) (List.mem_of_getElem? (i := 14) rfl)
theorem tb_s15 : Cond.selects "RoundVotes$Node" ⟨"RoundVotes$Node", "areSome", "(I)Z"⟩ ⟨"RoundVotes$Node", "areSome", "(I)Z"⟩ ∈ mTb := mIp1 (q := (⟨"RoundVotes$Node", "areSome", "(I)Z"⟩, 18)) (List.mem_of_getElem? (i := 15) rfl)
theorem tb_s16 : Cond.selects "RoundVotes$Node" ⟨"RoundVotes$Node", "answersProposal", "()Z"⟩ ⟨"RoundVotes$Node", "answersProposal", "()Z"⟩ ∈ mTb := mIp2 (q := (⟨"RoundVotes$Node", "answersProposal", "()Z"⟩, 18)) (List.mem_of_getElem? (i := 0) rfl)
theorem tb_s17 : Cond.selects "RoundVotes$Node" ⟨"RoundVotes$Node", "lockAllows", "(II)Z"⟩ ⟨"RoundVotes$Node", "lockAllows", "(II)Z"⟩ ∈ mTb := mIp2 (q := (⟨"RoundVotes$Node", "lockAllows", "(II)Z"⟩, 18)) (List.mem_of_getElem? (i := 1) rfl)
theorem tb_s18 : Cond.selects "RoundVotes$Node" ⟨"RoundVotes$Node", "locks", "()Z"⟩ ⟨"RoundVotes$Node", "locks", "()Z"⟩ ∈ mTb := mIp2 (q := (⟨"RoundVotes$Node", "locks", "()Z"⟩, 18)) (List.mem_of_getElem? (i := 2) rfl)
theorem tb_s19 : Cond.selects "RoundVotes$Node" ⟨"RoundVotes$Node", "givesUpValue", "()Z"⟩ ⟨"RoundVotes$Node", "givesUpValue", "()Z"⟩ ∈ mTb := mIp2 (q := (⟨"RoundVotes$Node", "givesUpValue", "()Z"⟩, 18)) (List.mem_of_getElem? (i := 3) rfl)
theorem tb_s20 : Cond.selects "RoundVotes$Node" ⟨"RoundVotes$Node", "waitsForPrevotes", "(I)Z"⟩ ⟨"RoundVotes$Node", "waitsForPrevotes", "(I)Z"⟩ ∈ mTb := mIp2 (q := (⟨"RoundVotes$Node", "waitsForPrevotes", "(I)Z"⟩, 18)) (List.mem_of_getElem? (i := 4) rfl)
theorem tb_s21 : Cond.selects "RoundVotes$Node" ⟨"RoundVotes$Node", "waitsForPrecommits", "(I)Z"⟩ ⟨"RoundVotes$Node", "waitsForPrecommits", "(I)Z"⟩ ∈ mTb := mIp2 (q := (⟨"RoundVotes$Node", "waitsForPrecommits", "(I)Z"⟩, 18)) (List.mem_of_getElem? (i := 5) rfl)
theorem tb_s22 : Cond.selects "RoundVotes" ⟨"RoundVotes", "bringNodesBack", "()V"⟩ ⟨"RoundVotes", "bringNodesBack", "()V"⟩ ∈ mTb := mIp2 (q := (⟨"RoundVotes", "bringNodesBack", "()V"⟩, 12)) (List.mem_of_getElem? (i := 6) rfl)
theorem tb_s23 : Cond.selects "RoundVotes" ⟨"RoundVotes", "bringCopies", "()V"⟩ ⟨"RoundVotes", "bringCopies", "()V"⟩ ∈ mTb := mIp2 (q := (⟨"RoundVotes", "bringCopies", "()V"⟩, 12)) (List.mem_of_getElem? (i := 7) rfl)
theorem tb_s24 : Cond.selects "RoundVotes" ⟨"RoundVotes", "handOver", "(LRoundVotes$Message;)V"⟩ ⟨"RoundVotes", "handOver", "(LRoundVotes$Message;)V"⟩ ∈ mTb := mIp2 (q := (⟨"RoundVotes", "handOver", "(LRoundVotes$Message;)V"⟩, 12)) (List.mem_of_getElem? (i := 8) rfl)
theorem tb_s25 : Cond.selects "RoundVotes$Faults" ⟨"RoundVotes$Faults", "isKnown", "(LRoundVotes$Message;)Z"⟩ ⟨"RoundVotes$Faults", "isKnown", "(LRoundVotes$Message;)Z"⟩ ∈ mTb := mIp2 (q := (⟨"RoundVotes$Faults", "isKnown", "(LRoundVotes$Message;)Z"⟩, 2)) (List.mem_of_getElem? (i := 9) rfl)
theorem tb_s26 : Cond.selects "RoundVotes" ⟨"RoundVotes", "endTimers", "()V"⟩ ⟨"RoundVotes", "endTimers", "()V"⟩ ∈ mTb := mIp2 (q := (⟨"RoundVotes", "endTimers", "()V"⟩, 12)) (List.mem_of_getElem? (i := 10) rfl)
theorem tb_s27 : Cond.selects "RoundVotes" ⟨"RoundVotes", "tellerOf", "(II)I"⟩ ⟨"RoundVotes", "tellerOf", "(II)I"⟩ ∈ mTb := mIp2 (q := (⟨"RoundVotes", "tellerOf", "(II)I"⟩, 12)) (List.mem_of_getElem? (i := 11) rfl)
theorem tb_s28 : Cond.selects "RoundVotes" ⟨"RoundVotes", "greatestDecided", "()I"⟩ ⟨"RoundVotes", "greatestDecided", "()I"⟩ ∈ mTb := mIp2 (q := (⟨"RoundVotes", "greatestDecided", "()I"⟩, 12)) (List.mem_of_getElem? (i := 12) rfl)
theorem tb_s29 : Cond.selects "RoundVotesModel" ⟨"RoundVotesModel", "clearHeight", "(II)V"⟩ ⟨"RoundVotesModel", "clearHeight", "(II)V"⟩ ∈ mTb := mIp2 (q := (⟨"RoundVotesModel", "clearHeight", "(II)V"⟩, 53)) (List.mem_of_getElem? (i := 13) rfl)
theorem tb_s30 : Cond.selects "RoundVotesModel" ⟨"RoundVotesModel", "place", "(IIIII)I"⟩ ⟨"RoundVotesModel", "place", "(IIIII)I"⟩ ∈ mTb := mIp2 (q := (⟨"RoundVotesModel", "place", "(IIIII)I"⟩, 53)) (List.mem_of_getElem? (i := 14) rfl)
theorem tb_s31 : Cond.selects "RoundVotesModel" ⟨"RoundVotesModel", "roundPlace", "(IIII)I"⟩ ⟨"RoundVotesModel", "roundPlace", "(IIII)I"⟩ ∈ mTb := mIp2 (q := (⟨"RoundVotesModel", "roundPlace", "(IIII)I"⟩, 53)) (List.mem_of_getElem? (i := 15) rfl)
theorem tb_s32 : Cond.selects "RoundVotesModel" ⟨"RoundVotesModel", "clearSigned", "(I)V"⟩ ⟨"RoundVotesModel", "clearSigned", "(I)V"⟩ ∈ mTb := mIp3 (q := (⟨"RoundVotesModel", "clearSigned", "(I)V"⟩, 53)) (List.mem_of_getElem? (i := 0) rfl)
theorem tb_s33 : Cond.selects "RoundVotesModel" ⟨"RoundVotesModel", "oneTurn", "()V"⟩ ⟨"RoundVotesModel", "oneTurn", "()V"⟩ ∈ mTb := mIp3 (q := (⟨"RoundVotesModel", "oneTurn", "()V"⟩, 53)) (List.mem_of_getElem? (i := 1) rfl)
theorem tb_s34 : Cond.selects "RoundVotesModel" ⟨"RoundVotesModel", "begin", "(II)V"⟩ ⟨"RoundVotesModel", "begin", "(II)V"⟩ ∈ mTb := mIp3 (q := (⟨"RoundVotesModel", "begin", "(II)V"⟩, 53)) (List.mem_of_getElem? (i := 2) rfl)
theorem tb_s35 : Cond.selects "RoundVotesModel" ⟨"RoundVotesModel", "proposer", "(II)I"⟩ ⟨"RoundVotesModel", "proposer", "(II)I"⟩ ∈ mTb := mIp3 (q := (⟨"RoundVotesModel", "proposer", "(II)I"⟩, 53)) (List.mem_of_getElem? (i := 3) rfl)
theorem tb_s36 : Cond.selects "RoundVotesModel" ⟨"RoundVotesModel", "send", "(IIII)V"⟩ ⟨"RoundVotesModel", "send", "(IIII)V"⟩ ∈ mTb := mIp3 (q := (⟨"RoundVotesModel", "send", "(IIII)V"⟩, 53)) (List.mem_of_getElem? (i := 4) rfl)
theorem tb_s37 : Cond.selects "RoundVotesModel" ⟨"RoundVotesModel", "keep", "(IIIIIIIZ)V"⟩ ⟨"RoundVotesModel", "keep", "(IIIIIIIZ)V"⟩ ∈ mTb := mIp3 (q := (⟨"RoundVotesModel", "keep", "(IIIIIIIZ)V"⟩, 53)) (List.mem_of_getElem? (i := 5) rfl)
theorem tb_s38 : Cond.selects "RoundVotesModel" ⟨"RoundVotesModel", "accuse", "(IIIII)V"⟩ ⟨"RoundVotesModel", "accuse", "(IIIII)V"⟩ ∈ mTb := mIp3 (q := (⟨"RoundVotesModel", "accuse", "(IIIII)V"⟩, 53)) (List.mem_of_getElem? (i := 6) rfl)
theorem tb_s39 : Cond.selects "RoundVotesModel" ⟨"RoundVotesModel", "copy", "(IIIIIII)V"⟩ ⟨"RoundVotesModel", "copy", "(IIIIIII)V"⟩ ∈ mTb := mIp3 (q := (⟨"RoundVotesModel", "copy", "(IIIIIII)V"⟩, 53)) (List.mem_of_getElem? (i := 7) rfl)
theorem tb_s40 : Cond.selects "RoundVotesModel" ⟨"RoundVotesModel", "noteSent", "(IIIII)V"⟩ ⟨"RoundVotesModel", "noteSent", "(IIIII)V"⟩ ∈ mTb := mIp3 (q := (⟨"RoundVotesModel", "noteSent", "(IIIII)V"⟩, 53)) (List.mem_of_getElem? (i := 8) rfl)
theorem tb_s41 : Cond.selects "RoundVotesModel" ⟨"RoundVotesModel", "sentPlace", "(IIII)I"⟩ ⟨"RoundVotesModel", "sentPlace", "(IIII)I"⟩ ∈ mTb := mIp3 (q := (⟨"RoundVotesModel", "sentPlace", "(IIII)I"⟩, 53)) (List.mem_of_getElem? (i := 9) rfl)
theorem tb_s42 : Cond.selects "RoundVotesModel" ⟨"RoundVotesModel", "areApart", "(II)Z"⟩ ⟨"RoundVotesModel", "areApart", "(II)Z"⟩ ∈ mTb := mIp3 (q := (⟨"RoundVotesModel", "areApart", "(II)Z"⟩, 53)) (List.mem_of_getElem? (i := 10) rfl)
theorem tb_s43 : Cond.selects "RoundVotesModel" ⟨"RoundVotesModel", "put", "(IIIIIIIIZ)V"⟩ ⟨"RoundVotesModel", "put", "(IIIIIIIIZ)V"⟩ ∈ mTb := mIp3 (q := (⟨"RoundVotesModel", "put", "(IIIIIIIIZ)V"⟩, 53)) (List.mem_of_getElem? (i := 11) rfl)
theorem tb_s44 : Cond.selects "RoundVotesModel" ⟨"RoundVotesModel", "ownValue", "(III)I"⟩ ⟨"RoundVotesModel", "ownValue", "(III)I"⟩ ∈ mTb := mIp3 (q := (⟨"RoundVotesModel", "ownValue", "(III)I"⟩, 53)) (List.mem_of_getElem? (i := 12) rfl)
theorem tb_s45 : Cond.selects "RoundVotesModel" ⟨"RoundVotesModel", "rules", "(I)V"⟩ ⟨"RoundVotesModel", "rules", "(I)V"⟩ ∈ mTb := mIp3 (q := (⟨"RoundVotesModel", "rules", "(I)V"⟩, 53)) (List.mem_of_getElem? (i := 13) rfl)
theorem tb_s46 : Cond.selects "RoundVotesModel" ⟨"RoundVotesModel", "ruleA", "(I)Z"⟩ ⟨"RoundVotesModel", "ruleA", "(I)Z"⟩ ∈ mTb := mIp3 (q := (⟨"RoundVotesModel", "ruleA", "(I)Z"⟩, 53)) (List.mem_of_getElem? (i := 14) rfl)
theorem tb_s47 : Cond.selects "RoundVotesModel" ⟨"RoundVotesModel", "proposal", "(II)I"⟩ ⟨"RoundVotesModel", "proposal", "(II)I"⟩ ∈ mTb := mIp3 (q := (⟨"RoundVotesModel", "proposal", "(II)I"⟩, 53)) (List.mem_of_getElem? (i := 15) rfl)
theorem tb_s48 : Cond.selects "RoundVotesModel" ⟨"RoundVotesModel", "hasOf", "(IIII)I"⟩ ⟨"RoundVotesModel", "hasOf", "(IIII)I"⟩ ∈ mTb := mIp4 (q := (⟨"RoundVotesModel", "hasOf", "(IIII)I"⟩, 53)) (List.mem_of_getElem? (i := 0) rfl)
theorem tb_s49 : Cond.selects "RoundVotesModel" ⟨"RoundVotesModel", "votes", "(IIII)J"⟩ ⟨"RoundVotesModel", "votes", "(IIII)J"⟩ ∈ mTb := mIp4 (q := (⟨"RoundVotesModel", "votes", "(IIII)J"⟩, 53)) (List.mem_of_getElem? (i := 1) rfl)
theorem tb_s50 : Cond.selects "RoundVotesModel" ⟨"RoundVotesModel", "isMany", "(JI)Z"⟩ ⟨"RoundVotesModel", "isMany", "(JI)Z"⟩ ∈ mTb := mIp4 (q := (⟨"RoundVotesModel", "isMany", "(JI)Z"⟩, 53)) (List.mem_of_getElem? (i := 2) rfl)
theorem tb_s51 : Cond.selects "RoundVotesModel" ⟨"RoundVotesModel", "all", "(I)J"⟩ ⟨"RoundVotesModel", "all", "(I)J"⟩ ∈ mTb := mIp4 (q := (⟨"RoundVotesModel", "all", "(I)J"⟩, 53)) (List.mem_of_getElem? (i := 3) rfl)
theorem tb_s52 : Cond.selects "RoundVotesModel" ⟨"RoundVotesModel", "nextHeight", "(I)V"⟩ ⟨"RoundVotesModel", "nextHeight", "(I)V"⟩ ∈ mTb := mIp4 (q := (⟨"RoundVotesModel", "nextHeight", "(I)V"⟩, 53)) (List.mem_of_getElem? (i := 4) rfl)
theorem tb_s53 : Cond.selects "RoundVotesModel" ⟨"RoundVotesModel", "ruleB", "(I)Z"⟩ ⟨"RoundVotesModel", "ruleB", "(I)Z"⟩ ∈ mTb := mIp4 (q := (⟨"RoundVotesModel", "ruleB", "(I)Z"⟩, 53)) (List.mem_of_getElem? (i := 5) rfl)
theorem tb_s54 : Cond.selects "RoundVotesModel" ⟨"RoundVotesModel", "ruleC", "(I)Z"⟩ ⟨"RoundVotesModel", "ruleC", "(I)Z"⟩ ∈ mTb := mIp4 (q := (⟨"RoundVotesModel", "ruleC", "(I)Z"⟩, 53)) (List.mem_of_getElem? (i := 6) rfl)
theorem tb_s55 : Cond.selects "RoundVotesModel" ⟨"RoundVotesModel", "proposalSince", "(II)I"⟩ ⟨"RoundVotesModel", "proposalSince", "(II)I"⟩ ∈ mTb := mIp4 (q := (⟨"RoundVotesModel", "proposalSince", "(II)I"⟩, 53)) (List.mem_of_getElem? (i := 7) rfl)
theorem tb_s56 : Cond.selects "RoundVotesModel" ⟨"RoundVotesModel", "ruleD", "(I)Z"⟩ ⟨"RoundVotesModel", "ruleD", "(I)Z"⟩ ∈ mTb := mIp4 (q := (⟨"RoundVotesModel", "ruleD", "(I)Z"⟩, 53)) (List.mem_of_getElem? (i := 8) rfl)
theorem tb_s57 : Cond.selects "RoundVotesModel" ⟨"RoundVotesModel", "ruleE", "(I)Z"⟩ ⟨"RoundVotesModel", "ruleE", "(I)Z"⟩ ∈ mTb := mIp4 (q := (⟨"RoundVotesModel", "ruleE", "(I)Z"⟩, 53)) (List.mem_of_getElem? (i := 9) rfl)
theorem tb_s58 : Cond.selects "RoundVotesModel" ⟨"RoundVotesModel", "ruleF", "(I)Z"⟩ ⟨"RoundVotesModel", "ruleF", "(I)Z"⟩ ∈ mTb := mIp4 (q := (⟨"RoundVotesModel", "ruleF", "(I)Z"⟩, 53)) (List.mem_of_getElem? (i := 10) rfl)
theorem tb_s59 : Cond.selects "RoundVotesModel" ⟨"RoundVotesModel", "ruleG", "(I)Z"⟩ ⟨"RoundVotesModel", "ruleG", "(I)Z"⟩ ∈ mTb := mIp4 (q := (⟨"RoundVotesModel", "ruleG", "(I)Z"⟩, 53)) (List.mem_of_getElem? (i := 11) rfl)
theorem tb_s60 : Cond.selects "RoundVotesModel" ⟨"RoundVotesModel", "comeBack", "(I)V"⟩ ⟨"RoundVotesModel", "comeBack", "(I)V"⟩ ∈ mTb := mIp4 (q := (⟨"RoundVotesModel", "comeBack", "(I)V"⟩, 53)) (List.mem_of_getElem? (i := 12) rfl)
theorem tb_s61 : Cond.selects "RoundVotesModel" ⟨"RoundVotesModel", "deliver", "(ZI)V"⟩ ⟨"RoundVotesModel", "deliver", "(ZI)V"⟩ ∈ mTb := mIp4 (q := (⟨"RoundVotesModel", "deliver", "(ZI)V"⟩, 53)) (List.mem_of_getElem? (i := 13) rfl)
theorem tb_s62 : Cond.selects "RoundVotesModel" ⟨"RoundVotesModel", "timerEnds", "(II)V"⟩ ⟨"RoundVotesModel", "timerEnds", "(II)V"⟩ ∈ mTb := mIp4 (q := (⟨"RoundVotesModel", "timerEnds", "(II)V"⟩, 53)) (List.mem_of_getElem? (i := 14) rfl)
theorem tb_s63 : Cond.selects "RoundVotesModel" ⟨"RoundVotesModel", "tidy", "()V"⟩ ⟨"RoundVotesModel", "tidy", "()V"⟩ ∈ mTb := mIp4 (q := (⟨"RoundVotesModel", "tidy", "()V"⟩, 53)) (List.mem_of_getElem? (i := 15) rfl)
theorem tb_s64 : Cond.selects "RoundVotesModel" ⟨"RoundVotesModel", "noNode", "(I)Z"⟩ ⟨"RoundVotesModel", "noNode", "(I)Z"⟩ ∈ mTb := mIp5 (q := (⟨"RoundVotesModel", "noNode", "(I)Z"⟩, 53)) (List.mem_of_getElem? (i := 0) rfl)
set_option maxRecDepth 10000 in
theorem inX0 : ∀ w ∈ u_ws RX0 TX0 4, w ∈ mTb := by
  have e : u_ws RX0 TX0 4 = [(Jvm.Cond.laysFinal "RoundVotes$Ballots" "RoundVotes$Ballots" "senders" "I"), (Jvm.Cond.laysFinal "RoundVotes$Ballots" "RoundVotes$Ballots" "values" "[I"), (Jvm.Cond.laysFinal "RoundVotes$Ballots" "RoundVotes$Ballots" "sinces" "[I"), (Jvm.Cond.lays "RoundVotes$Ballots" "RoundVotes$Ballots" "topRound" "I")] := by decide +kernel
  rw [e]
  exact List.forall_mem_cons.mpr ⟨tb_175, List.forall_mem_cons.mpr ⟨tb_177, List.forall_mem_cons.mpr ⟨tb_179, List.forall_mem_cons.mpr ⟨tb_181, fun _ h => absurd h List.not_mem_nil⟩⟩⟩⟩
set_option maxRecDepth 10000 in
theorem inX1 : ∀ w ∈ u_ws RX1 TX1 2, w ∈ mTb := by
  have e : u_ws RX1 TX1 2 = [(Jvm.Cond.lays "RoundVotes$Choice" "RoundVotes$Choice" "value" "I"), (Jvm.Cond.lays "RoundVotes$Choice" "RoundVotes$Choice" "round" "I")] := by decide +kernel
  rw [e]
  exact List.forall_mem_cons.mpr ⟨tb_135, List.forall_mem_cons.mpr ⟨tb_137, fun _ h => absurd h List.not_mem_nil⟩⟩
set_option maxRecDepth 10000 in
theorem inX2 : ∀ w ∈ u_ws RX2 TX2 3, w ∈ mTb := by
  have e : u_ws RX2 TX2 3 = [(Jvm.Cond.laysFinal "RoundVotes$Decisions" "RoundVotes$Decisions" "values" "[I"), (Jvm.Cond.laysFinal "RoundVotes$Decisions" "RoundVotes$Decisions" "rounds" "[I"), (Jvm.Cond.laysFinal "RoundVotes$Decisions" "RoundVotes$Decisions" "voters" "[I")] := by decide +kernel
  rw [e]
  exact List.forall_mem_cons.mpr ⟨tb_155, List.forall_mem_cons.mpr ⟨tb_157, List.forall_mem_cons.mpr ⟨tb_159, fun _ h => absurd h List.not_mem_nil⟩⟩⟩
set_option maxRecDepth 10000 in
theorem inX3 : ∀ w ∈ u_ws RX3 TX3 2, w ∈ mTb := by
  have e : u_ws RX3 TX3 2 = [(Jvm.Cond.laysFinal "RoundVotes$Faults" "RoundVotes$Faults" "parts" "[I"), (Jvm.Cond.lays "RoundVotes$Faults" "RoundVotes$Faults" "size" "I")] := by decide +kernel
  rw [e]
  exact List.forall_mem_cons.mpr ⟨tb_76, List.forall_mem_cons.mpr ⟨tb_78, fun _ h => absurd h List.not_mem_nil⟩⟩
set_option maxRecDepth 10000 in
theorem inX4 : ∀ w ∈ u_ws RX4 TX4 3, w ∈ mTb := by
  have e : u_ws RX4 TX4 3 = [(Jvm.Cond.laysFinal "RoundVotes$Mail" "RoundVotes$Mail" "slots" "[LRoundVotes$Message;"), (Jvm.Cond.lays "RoundVotes$Mail" "RoundVotes$Mail" "size" "I"), (Jvm.Cond.lays "RoundVotes$Mail" "RoundVotes$Mail" "underWay" "I")] := by decide +kernel
  rw [e]
  exact List.forall_mem_cons.mpr ⟨tb_37, List.forall_mem_cons.mpr ⟨tb_39, List.forall_mem_cons.mpr ⟨tb_41, fun _ h => absurd h List.not_mem_nil⟩⟩⟩
set_option maxRecDepth 10000 in
theorem inX5 : ∀ w ∈ u_ws RX5 TX5 9, w ∈ mTb := by
  have e : u_ws RX5 TX5 9 = [(Jvm.Cond.lays "RoundVotes$Message" "RoundVotes$Message" "sender" "I"), (Jvm.Cond.lays "RoundVotes$Message" "RoundVotes$Message" "receiver" "I"), (Jvm.Cond.lays "RoundVotes$Message" "RoundVotes$Message" "height" "I"), (Jvm.Cond.lays "RoundVotes$Message" "RoundVotes$Message" "round" "I"), (Jvm.Cond.lays "RoundVotes$Message" "RoundVotes$Message" "kind" "I"), (Jvm.Cond.lays "RoundVotes$Message" "RoundVotes$Message" "value" "I"), (Jvm.Cond.lays "RoundVotes$Message" "RoundVotes$Message" "since" "I"), (Jvm.Cond.lays "RoundVotes$Message" "RoundVotes$Message" "due" "I"), (Jvm.Cond.lays "RoundVotes$Message" "RoundVotes$Message" "second" "Z")] := by decide +kernel
  rw [e]
  exact List.forall_mem_cons.mpr ⟨tb_240, List.forall_mem_cons.mpr ⟨tb_242, List.forall_mem_cons.mpr ⟨tb_244, List.forall_mem_cons.mpr ⟨tb_246, List.forall_mem_cons.mpr ⟨tb_248, List.forall_mem_cons.mpr ⟨tb_250, List.forall_mem_cons.mpr ⟨tb_252, List.forall_mem_cons.mpr ⟨tb_254, List.forall_mem_cons.mpr ⟨tb_256, fun _ h => absurd h List.not_mem_nil⟩⟩⟩⟩⟩⟩⟩⟩⟩
set_option maxRecDepth 10000 in
theorem inX6 : ∀ w ∈ u_ws RX6 TX6 18, w ∈ mTb := by
  have e : u_ws RX6 TX6 18 = [(Jvm.Cond.laysFinal "RoundVotes$Node" "RoundVotes$Node" "number" "I"), (Jvm.Cond.laysFinal "RoundVotes$Node" "RoundVotes$Node" "setup" "LRoundVotes$Setup;"), (Jvm.Cond.lays "RoundVotes$Node" "RoundVotes$Node" "height" "I"), (Jvm.Cond.lays "RoundVotes$Node" "RoundVotes$Node" "round" "I"), (Jvm.Cond.lays "RoundVotes$Node" "RoundVotes$Node" "step" "I"), (Jvm.Cond.laysFinal "RoundVotes$Node" "RoundVotes$Node" "locked" "LRoundVotes$Choice;"), (Jvm.Cond.laysFinal "RoundVotes$Node" "RoundVotes$Node" "valid" "LRoundVotes$Choice;"), (Jvm.Cond.lays "RoundVotes$Node" "RoundVotes$Node" "behaviour" "I"), (Jvm.Cond.lays "RoundVotes$Node" "RoundVotes$Node" "lastCutTurn" "I"), (Jvm.Cond.laysFinal "RoundVotes$Node" "RoundVotes$Node" "timers" "[I"), (Jvm.Cond.laysFinal "RoundVotes$Node" "RoundVotes$Node" "once" "[Z"), (Jvm.Cond.laysFinal "RoundVotes$Node" "RoundVotes$Node" "decisions" "LRoundVotes$Decisions;"), (Jvm.Cond.lays "RoundVotes$Node" "RoundVotes$Node" "present" "LRoundVotes$Ballots;"), (Jvm.Cond.lays "RoundVotes$Node" "RoundVotes$Node" "next" "LRoundVotes$Ballots;"), (Jvm.Cond.laysFinal "RoundVotes$Node" "RoundVotes$Node" "signed" "LRoundVotes$Ballots;"), (Jvm.Cond.laysFinal "RoundVotes$Node" "RoundVotes$Node" "sendings" "LRoundVotes$Sendings;"), (Jvm.Cond.laysFinal "RoundVotes$Node" "RoundVotes$Node" "outgoing" "LRoundVotes$Message;"), (Jvm.Cond.lays "RoundVotes$Node" "RoundVotes$Node" "hasToSend" "Z")] := by decide +kernel
  rw [e]
  exact List.forall_mem_cons.mpr ⟨tb_291, List.forall_mem_cons.mpr ⟨tb_293, List.forall_mem_cons.mpr ⟨tb_295, List.forall_mem_cons.mpr ⟨tb_297, List.forall_mem_cons.mpr ⟨tb_299, List.forall_mem_cons.mpr ⟨tb_301, List.forall_mem_cons.mpr ⟨tb_303, List.forall_mem_cons.mpr ⟨tb_305, List.forall_mem_cons.mpr ⟨tb_307, List.forall_mem_cons.mpr ⟨tb_309, List.forall_mem_cons.mpr ⟨tb_311, List.forall_mem_cons.mpr ⟨tb_313, List.forall_mem_cons.mpr ⟨tb_315, List.forall_mem_cons.mpr ⟨tb_317, List.forall_mem_cons.mpr ⟨tb_319, List.forall_mem_cons.mpr ⟨tb_321, List.forall_mem_cons.mpr ⟨tb_323, List.forall_mem_cons.mpr ⟨tb_325, fun _ h => absurd h List.not_mem_nil⟩⟩⟩⟩⟩⟩⟩⟩⟩⟩⟩⟩⟩⟩⟩⟩⟩⟩
set_option maxRecDepth 10000 in
theorem inX7 : ∀ w ∈ u_ws RX7 TX7 3, w ∈ mTb := by
  have e : u_ws RX7 TX7 3 = [(Jvm.Cond.lays "RoundVotes$Sendings" "RoundVotes$Sendings" "copies" "I"), (Jvm.Cond.lays "RoundVotes$Sendings" "RoundVotes$Sendings" "timesUnlike" "I"), (Jvm.Cond.laysFinal "RoundVotes$Sendings" "RoundVotes$Sendings" "firsts" "LRoundVotes$Ballots;")] := by decide +kernel
  rw [e]
  exact List.forall_mem_cons.mpr ⟨tb_198, List.forall_mem_cons.mpr ⟨tb_200, List.forall_mem_cons.mpr ⟨tb_202, fun _ h => absurd h List.not_mem_nil⟩⟩⟩
set_option maxRecDepth 10000 in
theorem inX8 : ∀ w ∈ u_ws RX8 TX8 4, w ∈ mTb := by
  have e : u_ws RX8 TX8 4 = [(Jvm.Cond.laysFinal "RoundVotes$Setup" "RoundVotes$Setup" "size" "I"), (Jvm.Cond.laysFinal "RoundVotes$Setup" "RoundVotes$Setup" "seed" "I"), (Jvm.Cond.laysFinal "RoundVotes$Setup" "RoundVotes$Setup" "weights" "[[I"), (Jvm.Cond.laysFinal "RoundVotes$Setup" "RoundVotes$Setup" "all" "[I")] := by decide +kernel
  rw [e]
  exact List.forall_mem_cons.mpr ⟨tb_107, List.forall_mem_cons.mpr ⟨tb_109, List.forall_mem_cons.mpr ⟨tb_111, List.forall_mem_cons.mpr ⟨tb_113, fun _ h => absurd h List.not_mem_nil⟩⟩⟩⟩
set_option maxRecDepth 10000 in
theorem inX9 : ∀ w ∈ u_ws RX9 TX9 4, w ∈ mTb := by
  have e : u_ws RX9 TX9 4 = [(Jvm.Cond.laysFinal "RoundVotes$Told" "RoundVotes$Told" "numbers" "[I"), (Jvm.Cond.laysFinal "RoundVotes$Told" "RoundVotes$Told" "kinds" "[I"), (Jvm.Cond.laysFinal "RoundVotes$Told" "RoundVotes$Told" "bys" "[I"), (Jvm.Cond.lays "RoundVotes$Told" "RoundVotes$Told" "size" "I")] := by decide +kernel
  rw [e]
  exact List.forall_mem_cons.mpr ⟨tb_57, List.forall_mem_cons.mpr ⟨tb_59, List.forall_mem_cons.mpr ⟨tb_61, List.forall_mem_cons.mpr ⟨tb_63, fun _ h => absurd h List.not_mem_nil⟩⟩⟩⟩
set_option maxRecDepth 10000 in
theorem inX10 : ∀ w ∈ u_ws RX10 TX10 12, w ∈ mTb := by
  have e : u_ws RX10 TX10 12 = [(Jvm.Cond.laysFinal "RoundVotes" "RoundVotes" "setup" "LRoundVotes$Setup;"), (Jvm.Cond.laysFinal "RoundVotes" "RoundVotes" "nodes" "[LRoundVotes$Node;"), (Jvm.Cond.laysFinal "RoundVotes" "RoundVotes" "mail" "LRoundVotes$Mail;"), (Jvm.Cond.laysFinal "RoundVotes" "RoundVotes" "told" "LRoundVotes$Told;"), (Jvm.Cond.laysFinal "RoundVotes" "RoundVotes" "faults" "LRoundVotes$Faults;"), (Jvm.Cond.lays "RoundVotes" "RoundVotes" "time" "I"), (Jvm.Cond.lays "RoundVotes" "RoundVotes" "gone" "I"), (Jvm.Cond.lays "RoundVotes" "RoundVotes" "came" "I"), (Jvm.Cond.lays "RoundVotes" "RoundVotes" "lost" "I"), (Jvm.Cond.lays "RoundVotes" "RoundVotes" "sideBits" "I"), (Jvm.Cond.lays "RoundVotes" "RoundVotes" "firstSideTurn" "I"), (Jvm.Cond.lays "RoundVotes" "RoundVotes" "lastSideTurn" "I")] := by decide +kernel
  rw [e]
  exact List.forall_mem_cons.mpr ⟨tb_340, List.forall_mem_cons.mpr ⟨tb_342, List.forall_mem_cons.mpr ⟨tb_344, List.forall_mem_cons.mpr ⟨tb_346, List.forall_mem_cons.mpr ⟨tb_348, List.forall_mem_cons.mpr ⟨tb_350, List.forall_mem_cons.mpr ⟨tb_352, List.forall_mem_cons.mpr ⟨tb_354, List.forall_mem_cons.mpr ⟨tb_356, List.forall_mem_cons.mpr ⟨tb_358, List.forall_mem_cons.mpr ⟨tb_360, List.forall_mem_cons.mpr ⟨tb_362, fun _ h => absurd h List.not_mem_nil⟩⟩⟩⟩⟩⟩⟩⟩⟩⟩⟩⟩
set_option maxRecDepth 10000 in
theorem inX11 : ∀ w ∈ u_ws RX11 TX11 53, w ∈ mTb := by
  have e : u_ws RX11 TX11 53 = [(Jvm.Cond.lays "RoundVotesModel" "RoundVotesModel" "thrown" "I"), (Jvm.Cond.laysFinal "RoundVotesModel" "RoundVotesModel" "n" "I"), (Jvm.Cond.laysFinal "RoundVotesModel" "RoundVotesModel" "seed" "I"), (Jvm.Cond.lays "RoundVotesModel" "RoundVotesModel" "time" "I"), (Jvm.Cond.laysFinal "RoundVotesModel" "RoundVotesModel" "weights" "[I"), (Jvm.Cond.laysFinal "RoundVotesModel" "RoundVotesModel" "heightOf" "[I"), (Jvm.Cond.laysFinal "RoundVotesModel" "RoundVotesModel" "roundOf" "[I"), (Jvm.Cond.laysFinal "RoundVotesModel" "RoundVotesModel" "stepOf" "[I"), (Jvm.Cond.laysFinal "RoundVotesModel" "RoundVotesModel" "lockedValue" "[I"), (Jvm.Cond.laysFinal "RoundVotesModel" "RoundVotesModel" "lockedRound" "[I"), (Jvm.Cond.laysFinal "RoundVotesModel" "RoundVotesModel" "validValue" "[I"), (Jvm.Cond.laysFinal "RoundVotesModel" "RoundVotesModel" "validRound" "[I"), (Jvm.Cond.laysFinal "RoundVotesModel" "RoundVotesModel" "cutUntil" "[I"), (Jvm.Cond.laysFinal "RoundVotesModel" "RoundVotesModel" "isCut" "[Z"), (Jvm.Cond.laysFinal "RoundVotesModel" "RoundVotesModel" "behaviour" "[I"), (Jvm.Cond.laysFinal "RoundVotesModel" "RoundVotesModel" "timers" "[I"), (Jvm.Cond.laysFinal "RoundVotesModel" "RoundVotesModel" "didD" "[Z"), (Jvm.Cond.laysFinal "RoundVotesModel" "RoundVotesModel" "didF" "[Z"), (Jvm.Cond.laysFinal "RoundVotesModel" "RoundVotesModel" "didG" "[Z"), (Jvm.Cond.laysFinal "RoundVotesModel" "RoundVotesModel" "sentCopies" "[I"), (Jvm.Cond.laysFinal "RoundVotesModel" "RoundVotesModel" "has" "[I"), (Jvm.Cond.laysFinal "RoundVotesModel" "RoundVotesModel" "hasRound" "[I"), (Jvm.Cond.laysFinal "RoundVotesModel" "RoundVotesModel" "signed" "[I"), (Jvm.Cond.laysFinal "RoundVotesModel" "RoundVotesModel" "signedRound" "[I"), (Jvm.Cond.laysFinal "RoundVotesModel" "RoundVotesModel" "decidedValue" "[I"), (Jvm.Cond.laysFinal "RoundVotesModel" "RoundVotesModel" "decidedRound" "[I"), (Jvm.Cond.laysFinal "RoundVotesModel" "RoundVotesModel" "decidedBits" "[I"), (Jvm.Cond.laysFinal "RoundVotesModel" "RoundVotesModel" "decidedWeight" "[J"), (Jvm.Cond.laysFinal "RoundVotesModel" "RoundVotesModel" "due" "[I"), (Jvm.Cond.laysFinal "RoundVotesModel" "RoundVotesModel" "from" "[I"), (Jvm.Cond.laysFinal "RoundVotesModel" "RoundVotesModel" "to" "[I"), (Jvm.Cond.laysFinal "RoundVotesModel" "RoundVotesModel" "height" "[I"), (Jvm.Cond.laysFinal "RoundVotesModel" "RoundVotesModel" "round" "[I"), (Jvm.Cond.laysFinal "RoundVotesModel" "RoundVotesModel" "kind" "[I"), (Jvm.Cond.laysFinal "RoundVotesModel" "RoundVotesModel" "value" "[I"), (Jvm.Cond.laysFinal "RoundVotesModel" "RoundVotesModel" "since" "[I"), (Jvm.Cond.laysFinal "RoundVotesModel" "RoundVotesModel" "isSecond" "[Z"), (Jvm.Cond.lays "RoundVotesModel" "RoundVotesModel" "copies" "I"), (Jvm.Cond.lays "RoundVotesModel" "RoundVotesModel" "underWay" "I"), (Jvm.Cond.lays "RoundVotesModel" "RoundVotesModel" "gone" "I"), (Jvm.Cond.lays "RoundVotesModel" "RoundVotesModel" "came" "I"), (Jvm.Cond.lays "RoundVotesModel" "RoundVotesModel" "lost" "I"), (Jvm.Cond.laysFinal "RoundVotesModel" "RoundVotesModel" "disturbed" "[I"), (Jvm.Cond.laysFinal "RoundVotesModel" "RoundVotesModel" "disturbKind" "[I"), (Jvm.Cond.laysFinal "RoundVotesModel" "RoundVotesModel" "disturbBy" "[I"), (Jvm.Cond.lays "RoundVotesModel" "RoundVotesModel" "disturbs" "I"), (Jvm.Cond.lays "RoundVotesModel" "RoundVotesModel" "sideBits" "I"), (Jvm.Cond.lays "RoundVotesModel" "RoundVotesModel" "sidesFrom" "I"), (Jvm.Cond.lays "RoundVotesModel" "RoundVotesModel" "sidesUntil" "I"), (Jvm.Cond.laysFinal "RoundVotesModel" "RoundVotesModel" "evidence" "[I"), (Jvm.Cond.lays "RoundVotesModel" "RoundVotesModel" "evidences" "I"), (Jvm.Cond.laysFinal "RoundVotesModel" "RoundVotesModel" "firstSent" "[I"), (Jvm.Cond.laysFinal "RoundVotesModel" "RoundVotesModel" "sentUnlike" "[Z")] := by decide +kernel
  rw [e]
  exact List.forall_mem_cons.mpr ⟨tb_775, List.forall_mem_cons.mpr ⟨tb_777, List.forall_mem_cons.mpr ⟨tb_779, List.forall_mem_cons.mpr ⟨tb_781, List.forall_mem_cons.mpr ⟨tb_783, List.forall_mem_cons.mpr ⟨tb_785, List.forall_mem_cons.mpr ⟨tb_787, List.forall_mem_cons.mpr ⟨tb_789, List.forall_mem_cons.mpr ⟨tb_791, List.forall_mem_cons.mpr ⟨tb_793, List.forall_mem_cons.mpr ⟨tb_795, List.forall_mem_cons.mpr ⟨tb_797, List.forall_mem_cons.mpr ⟨tb_799, List.forall_mem_cons.mpr ⟨tb_801, List.forall_mem_cons.mpr ⟨tb_803, List.forall_mem_cons.mpr ⟨tb_805, List.forall_mem_cons.mpr ⟨tb_807, List.forall_mem_cons.mpr ⟨tb_809, List.forall_mem_cons.mpr ⟨tb_811, List.forall_mem_cons.mpr ⟨tb_813, List.forall_mem_cons.mpr ⟨tb_815, List.forall_mem_cons.mpr ⟨tb_817, List.forall_mem_cons.mpr ⟨tb_819, List.forall_mem_cons.mpr ⟨tb_821, List.forall_mem_cons.mpr ⟨tb_823, List.forall_mem_cons.mpr ⟨tb_825, List.forall_mem_cons.mpr ⟨tb_827, List.forall_mem_cons.mpr ⟨tb_829, List.forall_mem_cons.mpr ⟨tb_831, List.forall_mem_cons.mpr ⟨tb_833, List.forall_mem_cons.mpr ⟨tb_835, List.forall_mem_cons.mpr ⟨tb_837, List.forall_mem_cons.mpr ⟨tb_839, List.forall_mem_cons.mpr ⟨tb_841, List.forall_mem_cons.mpr ⟨tb_843, List.forall_mem_cons.mpr ⟨tb_845, List.forall_mem_cons.mpr ⟨tb_847, List.forall_mem_cons.mpr ⟨tb_849, List.forall_mem_cons.mpr ⟨tb_851, List.forall_mem_cons.mpr ⟨tb_853, List.forall_mem_cons.mpr ⟨tb_855, List.forall_mem_cons.mpr ⟨tb_857, List.forall_mem_cons.mpr ⟨tb_859, List.forall_mem_cons.mpr ⟨tb_861, List.forall_mem_cons.mpr ⟨tb_863, List.forall_mem_cons.mpr ⟨tb_865, List.forall_mem_cons.mpr ⟨tb_867, List.forall_mem_cons.mpr ⟨tb_869, List.forall_mem_cons.mpr ⟨tb_871, List.forall_mem_cons.mpr ⟨tb_873, List.forall_mem_cons.mpr ⟨tb_875, List.forall_mem_cons.mpr ⟨tb_877, List.forall_mem_cons.mpr ⟨tb_879, fun _ h => absurd h List.not_mem_nil⟩⟩⟩⟩⟩⟩⟩⟩⟩⟩⟩⟩⟩⟩⟩⟩⟩⟩⟩⟩⟩⟩⟩⟩⟩⟩⟩⟩⟩⟩⟩⟩⟩⟩⟩⟩⟩⟩⟩⟩⟩⟩⟩⟩⟩⟩⟩⟩⟩⟩⟩⟩⟩
theorem dfX0 : ∀ j, j < 4 → defaultValue (tyX0 j) = mVal (mTy (0 + 1) j) 0 0 none := by decide +kernel
theorem dfX1 : ∀ j, j < 2 → defaultValue (tyX1 j) = mVal (mTy (1 + 1) j) 0 0 none := by decide +kernel
theorem dfX2 : ∀ j, j < 3 → defaultValue (tyX2 j) = mVal (mTy (2 + 1) j) 0 0 none := by decide +kernel
theorem dfX3 : ∀ j, j < 2 → defaultValue (tyX3 j) = mVal (mTy (3 + 1) j) 0 0 none := by decide +kernel
theorem dfX4 : ∀ j, j < 3 → defaultValue (tyX4 j) = mVal (mTy (4 + 1) j) 0 0 none := by decide +kernel
theorem dfX5 : ∀ j, j < 9 → defaultValue (tyX5 j) = mVal (mTy (5 + 1) j) 0 0 none := by decide +kernel
theorem dfX6 : ∀ j, j < 18 → defaultValue (tyX6 j) = mVal (mTy (6 + 1) j) 0 0 none := by decide +kernel
theorem dfX7 : ∀ j, j < 3 → defaultValue (tyX7 j) = mVal (mTy (7 + 1) j) 0 0 none := by decide +kernel
theorem dfX8 : ∀ j, j < 4 → defaultValue (tyX8 j) = mVal (mTy (8 + 1) j) 0 0 none := by decide +kernel
theorem dfX9 : ∀ j, j < 4 → defaultValue (tyX9 j) = mVal (mTy (9 + 1) j) 0 0 none := by decide +kernel
theorem dfX10 : ∀ j, j < 12 → defaultValue (tyX10 j) = mVal (mTy (10 + 1) j) 0 0 none := by decide +kernel
theorem dfX11 : ∀ j, j < 53 → defaultValue (tyX11 j) = mVal (mTy (11 + 1) j) 0 0 none := by decide +kernel
end
section
/-! ===== the methods: class, name, bytes, locals, answer, frames, locals' words ===== -/
/-- java/util/Arrays.fill([II)V -/
abbrev mm0 : mM := ("java/util/Arrays", ⟨"java/util/Arrays", "fill", "([II)V"⟩, prog_15_method_103_code, 4, none, 0, 0)
/-- RoundVotes$Choice.<init>()V -/
abbrev mm1 : mM := (RX1, yX1_init, cX1_init, 1, none, 1, 20)
/-- RoundVotes$Choice.isNone()Z -/
abbrev mm2 : mM := (RX1, yX1_isNone, cX1_isNone, 1, (some .boolean), 0, 0)
/-- RoundVotes$Choice.choose(II)V -/
abbrev mm3 : mM := (RX1, yX1_choose, cX1_choose, 3, none, 0, 0)
/-- RoundVotes$Message.<init>()V -/
abbrev mm4 : mM := (RX5, yX5_init, cX5_init, 1, none, 1, 20)
/-- RoundVotes$Message.otherValue()I -/
abbrev mm5 : mM := (RX5, yX5_otherValue, cX5_otherValue, 1, (some .int), 0, 0)
/-- RoundVotes$Message.copyFrom(LRoundVotes$Message;)V -/
abbrev mm6 : mM := (RX5, yX5_copyFrom, cX5_copyFrom, 2, none, 0, 0)
/-- RoundVotes$Ballots.<init>(I)V -/
abbrev mm7 : mM := (RX0, yX0_init, cX0_init, 2, none, 1, 23)
/-- RoundVotes$Ballots.holds(III)Z -/
abbrev mm8 : mM := (RX0, yX0_holds, cX0_holds, 4, (some .boolean), 0, 0)
/-- RoundVotes$Ballots.valueOf(III)I -/
abbrev mm9 : mM := (RX0, yX0_valueOf, cX0_valueOf, 4, (some .int), 0, 0)
/-- RoundVotes$Ballots.sinceOf(I)I -/
abbrev mm10 : mM := (RX0, yX0_sinceOf, cX0_sinceOf, 2, (some .int), 0, 0)
/-- RoundVotes$Ballots.put(IIIII)V -/
abbrev mm11 : mM := (RX0, yX0_put, cX0_put, 6, none, 0, 0)
/-- RoundVotes$Ballots.votersFor(III)I -/
abbrev mm12 : mM := (RX0, yX0_votersFor, cX0_votersFor, 6, (some .int), 1, 23)
/-- RoundVotes$Ballots.clear()V -/
abbrev mm13 : mM := (RX0, yX0_clear, cX0_clear, 3, none, 0, 0)
/-- RoundVotes$Ballots.voters(II)I -/
abbrev mm14 : mM := (RX0, yX0_voters, cX0_voters, 5, (some .int), 1, 23)
/-- RoundVotes$Decisions.<init>()V -/
abbrev mm15 : mM := (RX2, yX2_init, cX2_init, 1, none, 1, 20)
/-- RoundVotes$Decisions.put(IIII)V -/
abbrev mm16 : mM := (RX2, yX2_put, cX2_put, 5, none, 0, 0)
/-- RoundVotes$Decisions.holds(I)Z -/
abbrev mm17 : mM := (RX2, yX2_holds, cX2_holds, 2, (some .boolean), 0, 0)
/-- RoundVotes$Faults.<init>()V -/
abbrev mm18 : mM := (RX3, yX3_init, cX3_init, 1, none, 1, 20)
/-- RoundVotes$Faults.add(LRoundVotes$Message;I)V -/
abbrev mm19 : mM := (RX3, yX3_add, cX3_add, 4, none, 2, 45)
/-- RoundVotes$Faults.isKnown(LRoundVotes$Message;)Z -/
abbrev mm20 : mM := (RX3, yX3_isKnown, cX3_isKnown, 4, (some .boolean), 1, 22)
/-- RoundVotes$Faults.part(II)I -/
abbrev mm21 : mM := (RX3, yX3_part, cX3_part, 3, (some .int), 0, 0)
/-- RoundVotes$Told.<init>()V -/
abbrev mm22 : mM := (RX9, yX9_init, cX9_init, 1, none, 1, 20)
/-- RoundVotes$Told.find(I)I -/
abbrev mm23 : mM := (RX9, yX9_find, cX9_find, 3, (some .int), 0, 0)
/-- RoundVotes$Told.add(III)Z -/
abbrev mm24 : mM := (RX9, yX9_add, cX9_add, 4, (some .boolean), 0, 0)
/-- RoundVotes$Told.remove(I)V -/
abbrev mm25 : mM := (RX9, yX9_remove, cX9_remove, 2, none, 0, 0)
/-- RoundVotes$Setup.<init>(II)V -/
abbrev mm26 : mM := (RX8, yX8_init, cX8_init, 4, none, 1, 23)
/-- RoundVotes$Setup.changeWeight(III)V -/
abbrev mm27 : mM := (RX8, yX8_changeWeight, cX8_changeWeight, 5, none, 0, 0)
/-- RoundVotes$Setup.proposer(II)I -/
abbrev mm28 : mM := (RX8, yX8_proposer, cX8_proposer, 3, (some .int), 0, 0)
/-- RoundVotes$Setup.ownValue(III)I -/
abbrev mm29 : mM := (RX8, yX8_ownValue, cX8_ownValue, 5, (some .int), 0, 0)
/-- RoundVotes$Setup.weightOfAll(II)I -/
abbrev mm30 : mM := (RX8, yX8_weightOfAll, cX8_weightOfAll, 5, (some .int), 0, 0)
/-- RoundVotes$Mail.<init>()V -/
abbrev mm31 : mM := (RX4, yX4_init, cX4_init, 1, none, 1, 20)
/-- RoundVotes$Mail.post(LRoundVotes$Message;IZ)Z -/
abbrev mm32 : mM := (RX4, yX4_post, cX4_post, 5, (some .boolean), 2, 40)
/-- RoundVotes$Mail.dropUpTo(I)V -/
abbrev mm33 : mM := (RX4, yX4_dropUpTo, cX4_dropUpTo, 5, none, 0, 0)
/-- RoundVotes$Sendings.<init>()V -/
abbrev mm34 : mM := (RX7, yX7_init, cX7_init, 1, none, 2, 44)
/-- RoundVotes$Sendings.add(LRoundVotes$Message;)V -/
abbrev mm35 : mM := (RX7, yX7_add, cX7_add, 3, none, 1, 25)
/-- RoundVotes$Node.<init>(ILRoundVotes$Setup;)V -/
abbrev mm36 : mM := (RX6, yX6_init, cX6_init, 3, none, 3, 64)
/-- RoundVotes$Node.isCut()Z -/
abbrev mm37 : mM := (RX6, yX6_isCut, cX6_isCut, 1, (some .boolean), 0, 0)
/-- RoundVotes$Node.begin(II)V -/
abbrev mm38 : mM := (RX6, yX6_begin, cX6_begin, 4, none, 2, 50)
/-- RoundVotes$Node.standsStill()Z -/
abbrev mm39 : mM := (RX6, yX6_standsStill, cX6_standsStill, 1, (some .boolean), 0, 0)
/-- RoundVotes$Node.send(III)V -/
abbrev mm40 : mM := (RX6, yX6_send, cX6_send, 6, none, 1, 25)
/-- RoundVotes$Node.timesSending()I -/
abbrev mm41 : mM := (RX6, yX6_timesSending, cX6_timesSending, 1, (some .int), 0, 0)
/-- RoundVotes$Node.deceives(I)Z -/
abbrev mm42 : mM := (RX6, yX6_deceives, cX6_deceives, 2, (some .boolean), 0, 0)
/-- RoundVotes$Node.followsRule(I)Z -/
abbrev mm43 : mM := (RX6, yX6_followsRule, cX6_followsRule, 4, (some .boolean), 3, 73)
/-- RoundVotes$Node.roundToDecide()I -/
abbrev mm44 : mM := (RX6, yX6_roundToDecide, cX6_roundToDecide, 4, (some .int), 2, 48)
/-- RoundVotes$Node.proposalOf(I)I -/
abbrev mm45 : mM := (RX6, yX6_proposalOf, cX6_proposalOf, 2, (some .int), 1, 23)
/-- RoundVotes$Node.areMany(I)Z -/
abbrev mm46 : mM := (RX6, yX6_areMany, cX6_areMany, 2, (some .boolean), 1, 24)
/-- RoundVotes$Node.decide(I)V -/
abbrev mm47 : mM := (RX6, yX6_decide, cX6_decide, 3, none, 2, 48)
/-- RoundVotes$Node.goToNextHeight()V -/
abbrev mm48 : mM := (RX6, yX6_goToNextHeight, cX6_goToNextHeight, 2, none, 1, 22)
/-- RoundVotes$Node.roundToJoin()I -/
abbrev mm49 : mM := (RX6, yX6_roundToJoin, cX6_roundToJoin, 3, (some .int), 2, 47)
/-- RoundVotes$Node.areSome(I)Z -/
abbrev mm50 : mM := (RX6, yX6_areSome, cX6_areSome, 2, (some .boolean), 1, 24)
/-- RoundVotes$Node.answersProposal()Z -/
abbrev mm51 : mM := (RX6, yX6_answersProposal, cX6_answersProposal, 3, (some .boolean), 2, 50)
/-- RoundVotes$Node.lockAllows(II)Z -/
abbrev mm52 : mM := (RX6, yX6_lockAllows, cX6_lockAllows, 3, (some .boolean), 1, 20)
/-- RoundVotes$Node.locks()Z -/
abbrev mm53 : mM := (RX6, yX6_locks, cX6_locks, 2, (some .boolean), 2, 50)
/-- RoundVotes$Node.givesUpValue()Z -/
abbrev mm54 : mM := (RX6, yX6_givesUpValue, cX6_givesUpValue, 1, (some .boolean), 2, 50)
/-- RoundVotes$Node.waitsForPrevotes(I)Z -/
abbrev mm55 : mM := (RX6, yX6_waitsForPrevotes, cX6_waitsForPrevotes, 2, (some .boolean), 2, 47)
/-- RoundVotes$Node.waitsForPrecommits(I)Z -/
abbrev mm56 : mM := (RX6, yX6_waitsForPrecommits, cX6_waitsForPrecommits, 2, (some .boolean), 2, 47)
/-- RoundVotes$Node.comeBack(I)V -/
abbrev mm57 : mM := (RX6, yX6_comeBack, cX6_comeBack, 5, none, 3, 73)
/-- RoundVotes$Node.accepts(LRoundVotes$Message;)Z -/
abbrev mm58 : mM := (RX6, yX6_accepts, cX6_accepts, 3, (some .boolean), 1, 25)
/-- RoundVotes$Node.endTimer(II)V -/
abbrev mm59 : mM := (RX6, yX6_endTimer, cX6_endTimer, 3, none, 3, 73)
/-- RoundVotes$Node.decideAs(LRoundVotes$Node;)V -/
abbrev mm60 : mM := (RX6, yX6_decideAs, cX6_decideAs, 3, none, 2, 43)
/-- RoundVotes.<init>(II)V -/
abbrev mm61 : mM := (RX10, yX10_init, cX10_init, 4, none, 4, 86)
/-- RoundVotes.weight(II)I -/
abbrev mm62 : mM := (RX10, yX10_weight, cX10_weight, 4, (some .int), 2, 43)
/-- RoundVotes.isNode(I)Z -/
abbrev mm63 : mM := (RX10, yX10_isNode, cX10_isNode, 2, (some .boolean), 0, 0)
/-- RoundVotes.greatestHeight()I -/
abbrev mm64 : mM := (RX10, yX10_greatestHeight, cX10_greatestHeight, 3, (some .int), 1, 21)
/-- RoundVotes.behave(II)I -/
abbrev mm65 : mM := (RX10, yX10_behave, cX10_behave, 4, (some .int), 1, 21)
/-- RoundVotes.disturb(III)I -/
abbrev mm66 : mM := (RX10, yX10_disturb, cX10_disturb, 4, (some .int), 1, 23)
/-- RoundVotes.sides(II)I -/
abbrev mm67 : mM := (RX10, yX10_sides, cX10_sides, 3, (some .int), 0, 0)
/-- RoundVotes.cut(II)I -/
abbrev mm68 : mM := (RX10, yX10_cut, cX10_cut, 3, (some .int), 1, 21)
/-- RoundVotes.turn(I)I -/
abbrev mm69 : mM := (RX10, yX10_turn, cX10_turn, 3, (some .int), 7, 161)
/-- RoundVotes.beginAll()V -/
abbrev mm70 : mM := (RX10, yX10_beginAll, cX10_beginAll, 2, none, 6, 137)
/-- RoundVotes.settle(LRoundVotes$Node;)V -/
abbrev mm71 : mM := (RX10, yX10_settle, cX10_settle, 3, none, 5, 115)
/-- RoundVotes.dispatch(LRoundVotes$Node;)V -/
abbrev mm72 : mM := (RX10, yX10_dispatch, cX10_dispatch, 8, none, 4, 88)
/-- RoundVotes.sendCopy(LRoundVotes$Message;)V -/
abbrev mm73 : mM := (RX10, yX10_sendCopy, cX10_sendCopy, 5, none, 3, 64)
/-- RoundVotes.areOnUnlikeSides(II)Z -/
abbrev mm74 : mM := (RX10, yX10_areOnUnlikeSides, cX10_areOnUnlikeSides, 4, (some .boolean), 0, 0)
/-- RoundVotes.bringNodesBack()V -/
abbrev mm75 : mM := (RX10, yX10_bringNodesBack, cX10_bringNodesBack, 3, none, 6, 137)
/-- RoundVotes.bringCopies()V -/
abbrev mm76 : mM := (RX10, yX10_bringCopies, cX10_bringCopies, 5, none, 6, 137)
/-- RoundVotes.handOver(LRoundVotes$Message;)V -/
abbrev mm77 : mM := (RX10, yX10_handOver, cX10_handOver, 3, none, 3, 68)
/-- RoundVotes.endTimers()V -/
abbrev mm78 : mM := (RX10, yX10_endTimers, cX10_endTimers, 4, none, 6, 137)
/-- RoundVotes.catchUp(I)I -/
abbrev mm79 : mM := (RX10, yX10_catchUp, cX10_catchUp, 6, (some .int), 6, 137)
/-- RoundVotes.tellerOf(II)I -/
abbrev mm80 : mM := (RX10, yX10_tellerOf, cX10_tellerOf, 4, (some .int), 1, 21)
/-- RoundVotes.node(II)I -/
abbrev mm81 : mM := (RX10, yX10_node, cX10_node, 4, (some .int), 1, 21)
/-- RoundVotes.vote(IIII)I -/
abbrev mm82 : mM := (RX10, yX10_vote, cX10_vote, 6, (some .int), 1, 23)
/-- RoundVotes.decided(III)I -/
abbrev mm83 : mM := (RX10, yX10_decided, cX10_decided, 5, (some .int), 1, 24)
/-- RoundVotes.isHeight(I)Z -/
abbrev mm84 : mM := (RX10, yX10_isHeight, cX10_isHeight, 1, (some .boolean), 0, 0)
/-- RoundVotes.unlike(I)I -/
abbrev mm85 : mM := (RX10, yX10_unlike, cX10_unlike, 5, (some .int), 1, 20)
/-- RoundVotes.evidence(II)I -/
abbrev mm86 : mM := (RX10, yX10_evidence, cX10_evidence, 3, (some .int), 1, 22)
/-- RoundVotes.against(I)I -/
abbrev mm87 : mM := (RX10, yX10_against, cX10_against, 2, (some .int), 1, 21)
/-- RoundVotes.count(I)I -/
abbrev mm88 : mM := (RX10, yX10_count, cX10_count, 2, (some .int), 3, 63)
/-- RoundVotes.greatestDecided()I -/
abbrev mm89 : mM := (RX10, yX10_greatestDecided, cX10_greatestDecided, 1, (some .int), 2, 43)
/-- RoundVotes.weightOf(II)I -/
abbrev mm90 : mM := (RX10, yX10_weightOf, cX10_weightOf, 3, (some .int), 1, 21)
/-- RoundVotesModel.<init>(II)V -/
abbrev mm91 : mM := (RX11, yX11_init, cX11_init, 4, none, 2, 50)
/-- RoundVotesModel.clearHeight(II)V -/
abbrev mm92 : mM := (RX11, yX11_clearHeight, cX11_clearHeight, 6, none, 1, 25)
/-- RoundVotesModel.place(IIIII)I -/
abbrev mm93 : mM := (RX11, yX11_place, cX11_place, 6, (some .int), 0, 0)
/-- RoundVotesModel.roundPlace(IIII)I -/
abbrev mm94 : mM := (RX11, yX11_roundPlace, cX11_roundPlace, 5, (some .int), 0, 0)
/-- RoundVotesModel.clearSigned(I)V -/
abbrev mm95 : mM := (RX11, yX11_clearSigned, cX11_clearSigned, 3, none, 0, 0)
/-- RoundVotesModel.turn(I)I -/
abbrev mm96 : mM := (RX11, yX11_turn, cX11_turn, 3, (some .int), 9, 232)
/-- RoundVotesModel.in(JJJ)Z -/
abbrev mm97 : mM := (RX11, yX11_in, cX11_in, 6, (some .boolean), 0, 0)
/-- RoundVotesModel.oneTurn()V -/
abbrev mm98 : mM := (RX11, yX11_oneTurn, cX11_oneTurn, 4, none, 8, 209)
/-- RoundVotesModel.begin(II)V -/
abbrev mm99 : mM := (RX11, yX11_begin, cX11_begin, 4, none, 4, 113)
/-- RoundVotesModel.proposer(II)I -/
abbrev mm100 : mM := (RX11, yX11_proposer, cX11_proposer, 3, (some .int), 0, 0)
/-- RoundVotesModel.send(IIII)V -/
abbrev mm101 : mM := (RX11, yX11_send, cX11_send, 12, none, 3, 82)
/-- RoundVotesModel.keep(IIIIIIIZ)V -/
abbrev mm102 : mM := (RX11, yX11_keep, cX11_keep, 11, none, 1, 26)
/-- RoundVotesModel.accuse(IIIII)V -/
abbrev mm103 : mM := (RX11, yX11_accuse, cX11_accuse, 7, none, 0, 0)
/-- RoundVotesModel.otherValue(II)I -/
abbrev mm104 : mM := (RX11, yX11_otherValue, cX11_otherValue, 2, (some .int), 0, 0)
/-- RoundVotesModel.copy(IIIIIII)V -/
abbrev mm105 : mM := (RX11, yX11_copy, cX11_copy, 13, none, 2, 50)
/-- RoundVotesModel.noteSent(IIIII)V -/
abbrev mm106 : mM := (RX11, yX11_noteSent, cX11_noteSent, 7, none, 1, 24)
/-- RoundVotesModel.sentPlace(IIII)I -/
abbrev mm107 : mM := (RX11, yX11_sentPlace, cX11_sentPlace, 5, (some .int), 0, 0)
/-- RoundVotesModel.areApart(II)Z -/
abbrev mm108 : mM := (RX11, yX11_areApart, cX11_areApart, 3, (some .boolean), 1, 25)
/-- RoundVotesModel.put(IIIIIIIIZ)V -/
abbrev mm109 : mM := (RX11, yX11_put, cX11_put, 11, none, 0, 0)
/-- RoundVotesModel.ownValue(III)I -/
abbrev mm110 : mM := (RX11, yX11_ownValue, cX11_ownValue, 4, (some .int), 0, 0)
/-- RoundVotesModel.rules(I)V -/
abbrev mm111 : mM := (RX11, yX11_rules, cX11_rules, 3, none, 6, 163)
/-- RoundVotesModel.ruleA(I)Z -/
abbrev mm112 : mM := (RX11, yX11_ruleA, cX11_ruleA, 7, (some .boolean), 5, 136)
/-- RoundVotesModel.proposal(II)I -/
abbrev mm113 : mM := (RX11, yX11_proposal, cX11_proposal, 3, (some .int), 2, 49)
/-- RoundVotesModel.hasOf(IIII)I -/
abbrev mm114 : mM := (RX11, yX11_hasOf, cX11_hasOf, 5, (some .int), 1, 25)
/-- RoundVotesModel.votes(IIII)J -/
abbrev mm115 : mM := (RX11, yX11_votes, cX11_votes, 9, (some .long), 2, 49)
/-- RoundVotesModel.isMany(JI)Z -/
abbrev mm116 : mM := (RX11, yX11_isMany, cX11_isMany, 4, (some .boolean), 1, 24)
/-- RoundVotesModel.all(I)J -/
abbrev mm117 : mM := (RX11, yX11_all, cX11_all, 5, (some .long), 0, 0)
/-- RoundVotesModel.nextHeight(I)V -/
abbrev mm118 : mM := (RX11, yX11_nextHeight, cX11_nextHeight, 3, none, 2, 50)
/-- RoundVotesModel.ruleB(I)Z -/
abbrev mm119 : mM := (RX11, yX11_ruleB, cX11_ruleB, 8, (some .boolean), 5, 136)
/-- RoundVotesModel.ruleC(I)Z -/
abbrev mm120 : mM := (RX11, yX11_ruleC, cX11_ruleC, 6, (some .boolean), 4, 113)
/-- RoundVotesModel.proposalSince(II)I -/
abbrev mm121 : mM := (RX11, yX11_proposalSince, cX11_proposalSince, 3, (some .int), 1, 24)
/-- RoundVotesModel.ruleD(I)Z -/
abbrev mm122 : mM := (RX11, yX11_ruleD, cX11_ruleD, 4, (some .boolean), 4, 113)
/-- RoundVotesModel.ruleE(I)Z -/
abbrev mm123 : mM := (RX11, yX11_ruleE, cX11_ruleE, 2, (some .boolean), 4, 113)
/-- RoundVotesModel.ruleF(I)Z -/
abbrev mm124 : mM := (RX11, yX11_ruleF, cX11_ruleF, 2, (some .boolean), 3, 77)
/-- RoundVotesModel.ruleG(I)Z -/
abbrev mm125 : mM := (RX11, yX11_ruleG, cX11_ruleG, 2, (some .boolean), 3, 77)
/-- RoundVotesModel.comeBack(I)V -/
abbrev mm126 : mM := (RX11, yX11_comeBack, cX11_comeBack, 5, none, 7, 185)
/-- RoundVotesModel.deliver(ZI)V -/
abbrev mm127 : mM := (RX11, yX11_deliver, cX11_deliver, 5, none, 7, 185)
/-- RoundVotesModel.timerEnds(II)V -/
abbrev mm128 : mM := (RX11, yX11_timerEnds, cX11_timerEnds, 3, none, 7, 185)
/-- RoundVotesModel.tidy()V -/
abbrev mm129 : mM := (RX11, yX11_tidy, cX11_tidy, 3, none, 0, 0)
/-- RoundVotesModel.weight(II)I -/
abbrev mm130 : mM := (RX11, yX11_weight, cX11_weight, 5, (some .int), 2, 46)
/-- RoundVotesModel.noNode(I)Z -/
abbrev mm131 : mM := (RX11, yX11_noNode, cX11_noNode, 2, (some .boolean), 1, 25)
/-- RoundVotesModel.behave(II)I -/
abbrev mm132 : mM := (RX11, yX11_behave, cX11_behave, 4, (some .int), 2, 46)
/-- RoundVotesModel.disturb(III)I -/
abbrev mm133 : mM := (RX11, yX11_disturb, cX11_disturb, 5, (some .int), 1, 25)
/-- RoundVotesModel.sides(II)I -/
abbrev mm134 : mM := (RX11, yX11_sides, cX11_sides, 3, (some .int), 1, 25)
/-- RoundVotesModel.cut(II)I -/
abbrev mm135 : mM := (RX11, yX11_cut, cX11_cut, 3, (some .int), 2, 46)
/-- RoundVotesModel.catchUp(I)I -/
abbrev mm136 : mM := (RX11, yX11_catchUp, cX11_catchUp, 8, (some .int), 7, 185)
/-- RoundVotesModel.node(II)I -/
abbrev mm137 : mM := (RX11, yX11_node, cX11_node, 3, (some .int), 2, 46)
/-- RoundVotesModel.vote(IIII)I -/
abbrev mm138 : mM := (RX11, yX11_vote, cX11_vote, 6, (some .int), 2, 49)
/-- RoundVotesModel.decided(III)I -/
abbrev mm139 : mM := (RX11, yX11_decided, cX11_decided, 5, (some .int), 2, 46)
/-- RoundVotesModel.unlike(I)I -/
abbrev mm140 : mM := (RX11, yX11_unlike, cX11_unlike, 5, (some .int), 1, 25)
/-- RoundVotesModel.evidence(II)I -/
abbrev mm141 : mM := (RX11, yX11_evidence, cX11_evidence, 3, (some .int), 1, 25)
/-- RoundVotesModel.against(I)I -/
abbrev mm142 : mM := (RX11, yX11_against, cX11_against, 4, (some .int), 2, 46)
/-- RoundVotesModel.count(I)I -/
abbrev mm143 : mM := (RX11, yX11_count, cX11_count, 5, (some .int), 1, 24)
/-- RoundVotesModel.weightOf(II)I -/
abbrev mm144 : mM := (RX11, yX11_weightOf, cX11_weightOf, 3, (some .int), 2, 46)
/-- RoundVotesLaw.cell([II)I -/
abbrev mm145 : mM := (RL, yL_cell, cL_cell, 2, (some .int), 0, 0)
/-- RoundVotesLaw.law([I)Z -/
abbrev mm146 : mM := (RL, yL_law, cL_law, 4, (some .boolean), 10, 254)
def mt : Nat → mM := fun m => bif Nat.blt m 73 then (bif Nat.blt m 36 then (bif Nat.blt m 18 then (bif Nat.blt m 9 then (bif Nat.blt m 4 then (bif Nat.blt m 2 then (bif Nat.blt m 1 then (mm0) else (mm1)) else (bif Nat.blt m 3 then (mm2) else (mm3))) else (bif Nat.blt m 6 then (bif Nat.blt m 5 then (mm4) else (mm5)) else (bif Nat.blt m 7 then (mm6) else (bif Nat.blt m 8 then (mm7) else (mm8))))) else (bif Nat.blt m 13 then (bif Nat.blt m 11 then (bif Nat.blt m 10 then (mm9) else (mm10)) else (bif Nat.blt m 12 then (mm11) else (mm12))) else (bif Nat.blt m 15 then (bif Nat.blt m 14 then (mm13) else (mm14)) else (bif Nat.blt m 16 then (mm15) else (bif Nat.blt m 17 then (mm16) else (mm17)))))) else (bif Nat.blt m 27 then (bif Nat.blt m 22 then (bif Nat.blt m 20 then (bif Nat.blt m 19 then (mm18) else (mm19)) else (bif Nat.blt m 21 then (mm20) else (mm21))) else (bif Nat.blt m 24 then (bif Nat.blt m 23 then (mm22) else (mm23)) else (bif Nat.blt m 25 then (mm24) else (bif Nat.blt m 26 then (mm25) else (mm26))))) else (bif Nat.blt m 31 then (bif Nat.blt m 29 then (bif Nat.blt m 28 then (mm27) else (mm28)) else (bif Nat.blt m 30 then (mm29) else (mm30))) else (bif Nat.blt m 33 then (bif Nat.blt m 32 then (mm31) else (mm32)) else (bif Nat.blt m 34 then (mm33) else (bif Nat.blt m 35 then (mm34) else (mm35))))))) else (bif Nat.blt m 54 then (bif Nat.blt m 45 then (bif Nat.blt m 40 then (bif Nat.blt m 38 then (bif Nat.blt m 37 then (mm36) else (mm37)) else (bif Nat.blt m 39 then (mm38) else (mm39))) else (bif Nat.blt m 42 then (bif Nat.blt m 41 then (mm40) else (mm41)) else (bif Nat.blt m 43 then (mm42) else (bif Nat.blt m 44 then (mm43) else (mm44))))) else (bif Nat.blt m 49 then (bif Nat.blt m 47 then (bif Nat.blt m 46 then (mm45) else (mm46)) else (bif Nat.blt m 48 then (mm47) else (mm48))) else (bif Nat.blt m 51 then (bif Nat.blt m 50 then (mm49) else (mm50)) else (bif Nat.blt m 52 then (mm51) else (bif Nat.blt m 53 then (mm52) else (mm53)))))) else (bif Nat.blt m 63 then (bif Nat.blt m 58 then (bif Nat.blt m 56 then (bif Nat.blt m 55 then (mm54) else (mm55)) else (bif Nat.blt m 57 then (mm56) else (mm57))) else (bif Nat.blt m 60 then (bif Nat.blt m 59 then (mm58) else (mm59)) else (bif Nat.blt m 61 then (mm60) else (bif Nat.blt m 62 then (mm61) else (mm62))))) else (bif Nat.blt m 68 then (bif Nat.blt m 65 then (bif Nat.blt m 64 then (mm63) else (mm64)) else (bif Nat.blt m 66 then (mm65) else (bif Nat.blt m 67 then (mm66) else (mm67)))) else (bif Nat.blt m 70 then (bif Nat.blt m 69 then (mm68) else (mm69)) else (bif Nat.blt m 71 then (mm70) else (bif Nat.blt m 72 then (mm71) else (mm72)))))))) else (bif Nat.blt m 110 then (bif Nat.blt m 91 then (bif Nat.blt m 82 then (bif Nat.blt m 77 then (bif Nat.blt m 75 then (bif Nat.blt m 74 then (mm73) else (mm74)) else (bif Nat.blt m 76 then (mm75) else (mm76))) else (bif Nat.blt m 79 then (bif Nat.blt m 78 then (mm77) else (mm78)) else (bif Nat.blt m 80 then (mm79) else (bif Nat.blt m 81 then (mm80) else (mm81))))) else (bif Nat.blt m 86 then (bif Nat.blt m 84 then (bif Nat.blt m 83 then (mm82) else (mm83)) else (bif Nat.blt m 85 then (mm84) else (mm85))) else (bif Nat.blt m 88 then (bif Nat.blt m 87 then (mm86) else (mm87)) else (bif Nat.blt m 89 then (mm88) else (bif Nat.blt m 90 then (mm89) else (mm90)))))) else (bif Nat.blt m 100 then (bif Nat.blt m 95 then (bif Nat.blt m 93 then (bif Nat.blt m 92 then (mm91) else (mm92)) else (bif Nat.blt m 94 then (mm93) else (mm94))) else (bif Nat.blt m 97 then (bif Nat.blt m 96 then (mm95) else (mm96)) else (bif Nat.blt m 98 then (mm97) else (bif Nat.blt m 99 then (mm98) else (mm99))))) else (bif Nat.blt m 105 then (bif Nat.blt m 102 then (bif Nat.blt m 101 then (mm100) else (mm101)) else (bif Nat.blt m 103 then (mm102) else (bif Nat.blt m 104 then (mm103) else (mm104)))) else (bif Nat.blt m 107 then (bif Nat.blt m 106 then (mm105) else (mm106)) else (bif Nat.blt m 108 then (mm107) else (bif Nat.blt m 109 then (mm108) else (mm109))))))) else (bif Nat.blt m 128 then (bif Nat.blt m 119 then (bif Nat.blt m 114 then (bif Nat.blt m 112 then (bif Nat.blt m 111 then (mm110) else (mm111)) else (bif Nat.blt m 113 then (mm112) else (mm113))) else (bif Nat.blt m 116 then (bif Nat.blt m 115 then (mm114) else (mm115)) else (bif Nat.blt m 117 then (mm116) else (bif Nat.blt m 118 then (mm117) else (mm118))))) else (bif Nat.blt m 123 then (bif Nat.blt m 121 then (bif Nat.blt m 120 then (mm119) else (mm120)) else (bif Nat.blt m 122 then (mm121) else (mm122))) else (bif Nat.blt m 125 then (bif Nat.blt m 124 then (mm123) else (mm124)) else (bif Nat.blt m 126 then (mm125) else (bif Nat.blt m 127 then (mm126) else (mm127)))))) else (bif Nat.blt m 137 then (bif Nat.blt m 132 then (bif Nat.blt m 130 then (bif Nat.blt m 129 then (mm128) else (mm129)) else (bif Nat.blt m 131 then (mm130) else (mm131))) else (bif Nat.blt m 134 then (bif Nat.blt m 133 then (mm132) else (mm133)) else (bif Nat.blt m 135 then (mm134) else (bif Nat.blt m 136 then (mm135) else (mm136))))) else (bif Nat.blt m 142 then (bif Nat.blt m 139 then (bif Nat.blt m 138 then (mm137) else (mm138)) else (bif Nat.blt m 140 then (mm139) else (bif Nat.blt m 141 then (mm140) else (mm141)))) else (bif Nat.blt m 144 then (bif Nat.blt m 143 then (mm142) else (mm143)) else (bif Nat.blt m 145 then (mm144) else (bif Nat.blt m 146 then (mm145) else (mm146))))))))
theorem p_bif {P : mM → Prop} {b : Bool} {x y : mM} (hx : P x) (hy : P y) : P (bif b then x else y) := by cases b; exact hy; exact hx
theorem mt_ok (m : Nat) : plainName (mNm (mt m)).cls = true ∧ (mNm (mt m)).cls = mCn (mt m) := p_bif (P := fun M => plainName (mNm M).cls = true ∧ (mNm M).cls = mCn M) (p_bif (P := fun M => plainName (mNm M).cls = true ∧ (mNm M).cls = mCn M) (p_bif (P := fun M => plainName (mNm M).cls = true ∧ (mNm M).cls = mCn M) (p_bif (P := fun M => plainName (mNm M).cls = true ∧ (mNm M).cls = mCn M) (p_bif (P := fun M => plainName (mNm M).cls = true ∧ (mNm M).cls = mCn M) (p_bif (P := fun M => plainName (mNm M).cls = true ∧ (mNm M).cls = mCn M) (p_bif (P := fun M => plainName (mNm M).cls = true ∧ (mNm M).cls = mCn M) (⟨by decide +kernel, rfl⟩) (⟨by decide +kernel, rfl⟩)) (p_bif (P := fun M => plainName (mNm M).cls = true ∧ (mNm M).cls = mCn M) (⟨by decide +kernel, rfl⟩) (⟨by decide +kernel, rfl⟩))) (p_bif (P := fun M => plainName (mNm M).cls = true ∧ (mNm M).cls = mCn M) (p_bif (P := fun M => plainName (mNm M).cls = true ∧ (mNm M).cls = mCn M) (⟨by decide +kernel, rfl⟩) (⟨by decide +kernel, rfl⟩)) (p_bif (P := fun M => plainName (mNm M).cls = true ∧ (mNm M).cls = mCn M) (⟨by decide +kernel, rfl⟩) (p_bif (P := fun M => plainName (mNm M).cls = true ∧ (mNm M).cls = mCn M) (⟨by decide +kernel, rfl⟩) (⟨by decide +kernel, rfl⟩))))) (p_bif (P := fun M => plainName (mNm M).cls = true ∧ (mNm M).cls = mCn M) (p_bif (P := fun M => plainName (mNm M).cls = true ∧ (mNm M).cls = mCn M) (p_bif (P := fun M => plainName (mNm M).cls = true ∧ (mNm M).cls = mCn M) (⟨by decide +kernel, rfl⟩) (⟨by decide +kernel, rfl⟩)) (p_bif (P := fun M => plainName (mNm M).cls = true ∧ (mNm M).cls = mCn M) (⟨by decide +kernel, rfl⟩) (⟨by decide +kernel, rfl⟩))) (p_bif (P := fun M => plainName (mNm M).cls = true ∧ (mNm M).cls = mCn M) (p_bif (P := fun M => plainName (mNm M).cls = true ∧ (mNm M).cls = mCn M) (⟨by decide +kernel, rfl⟩) (⟨by decide +kernel, rfl⟩)) (p_bif (P := fun M => plainName (mNm M).cls = true ∧ (mNm M).cls = mCn M) (⟨by decide +kernel, rfl⟩) (p_bif (P := fun M => plainName (mNm M).cls = true ∧ (mNm M).cls = mCn M) (⟨by decide +kernel, rfl⟩) (⟨by decide +kernel, rfl⟩)))))) (p_bif (P := fun M => plainName (mNm M).cls = true ∧ (mNm M).cls = mCn M) (p_bif (P := fun M => plainName (mNm M).cls = true ∧ (mNm M).cls = mCn M) (p_bif (P := fun M => plainName (mNm M).cls = true ∧ (mNm M).cls = mCn M) (p_bif (P := fun M => plainName (mNm M).cls = true ∧ (mNm M).cls = mCn M) (⟨by decide +kernel, rfl⟩) (⟨by decide +kernel, rfl⟩)) (p_bif (P := fun M => plainName (mNm M).cls = true ∧ (mNm M).cls = mCn M) (⟨by decide +kernel, rfl⟩) (⟨by decide +kernel, rfl⟩))) (p_bif (P := fun M => plainName (mNm M).cls = true ∧ (mNm M).cls = mCn M) (p_bif (P := fun M => plainName (mNm M).cls = true ∧ (mNm M).cls = mCn M) (⟨by decide +kernel, rfl⟩) (⟨by decide +kernel, rfl⟩)) (p_bif (P := fun M => plainName (mNm M).cls = true ∧ (mNm M).cls = mCn M) (⟨by decide +kernel, rfl⟩) (p_bif (P := fun M => plainName (mNm M).cls = true ∧ (mNm M).cls = mCn M) (⟨by decide +kernel, rfl⟩) (⟨by decide +kernel, rfl⟩))))) (p_bif (P := fun M => plainName (mNm M).cls = true ∧ (mNm M).cls = mCn M) (p_bif (P := fun M => plainName (mNm M).cls = true ∧ (mNm M).cls = mCn M) (p_bif (P := fun M => plainName (mNm M).cls = true ∧ (mNm M).cls = mCn M) (⟨by decide +kernel, rfl⟩) (⟨by decide +kernel, rfl⟩)) (p_bif (P := fun M => plainName (mNm M).cls = true ∧ (mNm M).cls = mCn M) (⟨by decide +kernel, rfl⟩) (⟨by decide +kernel, rfl⟩))) (p_bif (P := fun M => plainName (mNm M).cls = true ∧ (mNm M).cls = mCn M) (p_bif (P := fun M => plainName (mNm M).cls = true ∧ (mNm M).cls = mCn M) (⟨by decide +kernel, rfl⟩) (⟨by decide +kernel, rfl⟩)) (p_bif (P := fun M => plainName (mNm M).cls = true ∧ (mNm M).cls = mCn M) (⟨by decide +kernel, rfl⟩) (p_bif (P := fun M => plainName (mNm M).cls = true ∧ (mNm M).cls = mCn M) (⟨by decide +kernel, rfl⟩) (⟨by decide +kernel, rfl⟩))))))) (p_bif (P := fun M => plainName (mNm M).cls = true ∧ (mNm M).cls = mCn M) (p_bif (P := fun M => plainName (mNm M).cls = true ∧ (mNm M).cls = mCn M) (p_bif (P := fun M => plainName (mNm M).cls = true ∧ (mNm M).cls = mCn M) (p_bif (P := fun M => plainName (mNm M).cls = true ∧ (mNm M).cls = mCn M) (p_bif (P := fun M => plainName (mNm M).cls = true ∧ (mNm M).cls = mCn M) (⟨by decide +kernel, rfl⟩) (⟨by decide +kernel, rfl⟩)) (p_bif (P := fun M => plainName (mNm M).cls = true ∧ (mNm M).cls = mCn M) (⟨by decide +kernel, rfl⟩) (⟨by decide +kernel, rfl⟩))) (p_bif (P := fun M => plainName (mNm M).cls = true ∧ (mNm M).cls = mCn M) (p_bif (P := fun M => plainName (mNm M).cls = true ∧ (mNm M).cls = mCn M) (⟨by decide +kernel, rfl⟩) (⟨by decide +kernel, rfl⟩)) (p_bif (P := fun M => plainName (mNm M).cls = true ∧ (mNm M).cls = mCn M) (⟨by decide +kernel, rfl⟩) (p_bif (P := fun M => plainName (mNm M).cls = true ∧ (mNm M).cls = mCn M) (⟨by decide +kernel, rfl⟩) (⟨by decide +kernel, rfl⟩))))) (p_bif (P := fun M => plainName (mNm M).cls = true ∧ (mNm M).cls = mCn M) (p_bif (P := fun M => plainName (mNm M).cls = true ∧ (mNm M).cls = mCn M) (p_bif (P := fun M => plainName (mNm M).cls = true ∧ (mNm M).cls = mCn M) (⟨by decide +kernel, rfl⟩) (⟨by decide +kernel, rfl⟩)) (p_bif (P := fun M => plainName (mNm M).cls = true ∧ (mNm M).cls = mCn M) (⟨by decide +kernel, rfl⟩) (⟨by decide +kernel, rfl⟩))) (p_bif (P := fun M => plainName (mNm M).cls = true ∧ (mNm M).cls = mCn M) (p_bif (P := fun M => plainName (mNm M).cls = true ∧ (mNm M).cls = mCn M) (⟨by decide +kernel, rfl⟩) (⟨by decide +kernel, rfl⟩)) (p_bif (P := fun M => plainName (mNm M).cls = true ∧ (mNm M).cls = mCn M) (⟨by decide +kernel, rfl⟩) (p_bif (P := fun M => plainName (mNm M).cls = true ∧ (mNm M).cls = mCn M) (⟨by decide +kernel, rfl⟩) (⟨by decide +kernel, rfl⟩)))))) (p_bif (P := fun M => plainName (mNm M).cls = true ∧ (mNm M).cls = mCn M) (p_bif (P := fun M => plainName (mNm M).cls = true ∧ (mNm M).cls = mCn M) (p_bif (P := fun M => plainName (mNm M).cls = true ∧ (mNm M).cls = mCn M) (p_bif (P := fun M => plainName (mNm M).cls = true ∧ (mNm M).cls = mCn M) (⟨by decide +kernel, rfl⟩) (⟨by decide +kernel, rfl⟩)) (p_bif (P := fun M => plainName (mNm M).cls = true ∧ (mNm M).cls = mCn M) (⟨by decide +kernel, rfl⟩) (⟨by decide +kernel, rfl⟩))) (p_bif (P := fun M => plainName (mNm M).cls = true ∧ (mNm M).cls = mCn M) (p_bif (P := fun M => plainName (mNm M).cls = true ∧ (mNm M).cls = mCn M) (⟨by decide +kernel, rfl⟩) (⟨by decide +kernel, rfl⟩)) (p_bif (P := fun M => plainName (mNm M).cls = true ∧ (mNm M).cls = mCn M) (⟨by decide +kernel, rfl⟩) (p_bif (P := fun M => plainName (mNm M).cls = true ∧ (mNm M).cls = mCn M) (⟨by decide +kernel, rfl⟩) (⟨by decide +kernel, rfl⟩))))) (p_bif (P := fun M => plainName (mNm M).cls = true ∧ (mNm M).cls = mCn M) (p_bif (P := fun M => plainName (mNm M).cls = true ∧ (mNm M).cls = mCn M) (p_bif (P := fun M => plainName (mNm M).cls = true ∧ (mNm M).cls = mCn M) (⟨by decide +kernel, rfl⟩) (⟨by decide +kernel, rfl⟩)) (p_bif (P := fun M => plainName (mNm M).cls = true ∧ (mNm M).cls = mCn M) (⟨by decide +kernel, rfl⟩) (p_bif (P := fun M => plainName (mNm M).cls = true ∧ (mNm M).cls = mCn M) (⟨by decide +kernel, rfl⟩) (⟨by decide +kernel, rfl⟩)))) (p_bif (P := fun M => plainName (mNm M).cls = true ∧ (mNm M).cls = mCn M) (p_bif (P := fun M => plainName (mNm M).cls = true ∧ (mNm M).cls = mCn M) (⟨by decide +kernel, rfl⟩) (⟨by decide +kernel, rfl⟩)) (p_bif (P := fun M => plainName (mNm M).cls = true ∧ (mNm M).cls = mCn M) (⟨by decide +kernel, rfl⟩) (p_bif (P := fun M => plainName (mNm M).cls = true ∧ (mNm M).cls = mCn M) (⟨by decide +kernel, rfl⟩) (⟨by decide +kernel, rfl⟩)))))))) (p_bif (P := fun M => plainName (mNm M).cls = true ∧ (mNm M).cls = mCn M) (p_bif (P := fun M => plainName (mNm M).cls = true ∧ (mNm M).cls = mCn M) (p_bif (P := fun M => plainName (mNm M).cls = true ∧ (mNm M).cls = mCn M) (p_bif (P := fun M => plainName (mNm M).cls = true ∧ (mNm M).cls = mCn M) (p_bif (P := fun M => plainName (mNm M).cls = true ∧ (mNm M).cls = mCn M) (p_bif (P := fun M => plainName (mNm M).cls = true ∧ (mNm M).cls = mCn M) (⟨by decide +kernel, rfl⟩) (⟨by decide +kernel, rfl⟩)) (p_bif (P := fun M => plainName (mNm M).cls = true ∧ (mNm M).cls = mCn M) (⟨by decide +kernel, rfl⟩) (⟨by decide +kernel, rfl⟩))) (p_bif (P := fun M => plainName (mNm M).cls = true ∧ (mNm M).cls = mCn M) (p_bif (P := fun M => plainName (mNm M).cls = true ∧ (mNm M).cls = mCn M) (⟨by decide +kernel, rfl⟩) (⟨by decide +kernel, rfl⟩)) (p_bif (P := fun M => plainName (mNm M).cls = true ∧ (mNm M).cls = mCn M) (⟨by decide +kernel, rfl⟩) (p_bif (P := fun M => plainName (mNm M).cls = true ∧ (mNm M).cls = mCn M) (⟨by decide +kernel, rfl⟩) (⟨by decide +kernel, rfl⟩))))) (p_bif (P := fun M => plainName (mNm M).cls = true ∧ (mNm M).cls = mCn M) (p_bif (P := fun M => plainName (mNm M).cls = true ∧ (mNm M).cls = mCn M) (p_bif (P := fun M => plainName (mNm M).cls = true ∧ (mNm M).cls = mCn M) (⟨by decide +kernel, rfl⟩) (⟨by decide +kernel, rfl⟩)) (p_bif (P := fun M => plainName (mNm M).cls = true ∧ (mNm M).cls = mCn M) (⟨by decide +kernel, rfl⟩) (⟨by decide +kernel, rfl⟩))) (p_bif (P := fun M => plainName (mNm M).cls = true ∧ (mNm M).cls = mCn M) (p_bif (P := fun M => plainName (mNm M).cls = true ∧ (mNm M).cls = mCn M) (⟨by decide +kernel, rfl⟩) (⟨by decide +kernel, rfl⟩)) (p_bif (P := fun M => plainName (mNm M).cls = true ∧ (mNm M).cls = mCn M) (⟨by decide +kernel, rfl⟩) (p_bif (P := fun M => plainName (mNm M).cls = true ∧ (mNm M).cls = mCn M) (⟨by decide +kernel, rfl⟩) (⟨by decide +kernel, rfl⟩)))))) (p_bif (P := fun M => plainName (mNm M).cls = true ∧ (mNm M).cls = mCn M) (p_bif (P := fun M => plainName (mNm M).cls = true ∧ (mNm M).cls = mCn M) (p_bif (P := fun M => plainName (mNm M).cls = true ∧ (mNm M).cls = mCn M) (p_bif (P := fun M => plainName (mNm M).cls = true ∧ (mNm M).cls = mCn M) (⟨by decide +kernel, rfl⟩) (⟨by decide +kernel, rfl⟩)) (p_bif (P := fun M => plainName (mNm M).cls = true ∧ (mNm M).cls = mCn M) (⟨by decide +kernel, rfl⟩) (⟨by decide +kernel, rfl⟩))) (p_bif (P := fun M => plainName (mNm M).cls = true ∧ (mNm M).cls = mCn M) (p_bif (P := fun M => plainName (mNm M).cls = true ∧ (mNm M).cls = mCn M) (⟨by decide +kernel, rfl⟩) (⟨by decide +kernel, rfl⟩)) (p_bif (P := fun M => plainName (mNm M).cls = true ∧ (mNm M).cls = mCn M) (⟨by decide +kernel, rfl⟩) (p_bif (P := fun M => plainName (mNm M).cls = true ∧ (mNm M).cls = mCn M) (⟨by decide +kernel, rfl⟩) (⟨by decide +kernel, rfl⟩))))) (p_bif (P := fun M => plainName (mNm M).cls = true ∧ (mNm M).cls = mCn M) (p_bif (P := fun M => plainName (mNm M).cls = true ∧ (mNm M).cls = mCn M) (p_bif (P := fun M => plainName (mNm M).cls = true ∧ (mNm M).cls = mCn M) (⟨by decide +kernel, rfl⟩) (⟨by decide +kernel, rfl⟩)) (p_bif (P := fun M => plainName (mNm M).cls = true ∧ (mNm M).cls = mCn M) (⟨by decide +kernel, rfl⟩) (p_bif (P := fun M => plainName (mNm M).cls = true ∧ (mNm M).cls = mCn M) (⟨by decide +kernel, rfl⟩) (⟨by decide +kernel, rfl⟩)))) (p_bif (P := fun M => plainName (mNm M).cls = true ∧ (mNm M).cls = mCn M) (p_bif (P := fun M => plainName (mNm M).cls = true ∧ (mNm M).cls = mCn M) (⟨by decide +kernel, rfl⟩) (⟨by decide +kernel, rfl⟩)) (p_bif (P := fun M => plainName (mNm M).cls = true ∧ (mNm M).cls = mCn M) (⟨by decide +kernel, rfl⟩) (p_bif (P := fun M => plainName (mNm M).cls = true ∧ (mNm M).cls = mCn M) (⟨by decide +kernel, rfl⟩) (⟨by decide +kernel, rfl⟩))))))) (p_bif (P := fun M => plainName (mNm M).cls = true ∧ (mNm M).cls = mCn M) (p_bif (P := fun M => plainName (mNm M).cls = true ∧ (mNm M).cls = mCn M) (p_bif (P := fun M => plainName (mNm M).cls = true ∧ (mNm M).cls = mCn M) (p_bif (P := fun M => plainName (mNm M).cls = true ∧ (mNm M).cls = mCn M) (p_bif (P := fun M => plainName (mNm M).cls = true ∧ (mNm M).cls = mCn M) (⟨by decide +kernel, rfl⟩) (⟨by decide +kernel, rfl⟩)) (p_bif (P := fun M => plainName (mNm M).cls = true ∧ (mNm M).cls = mCn M) (⟨by decide +kernel, rfl⟩) (⟨by decide +kernel, rfl⟩))) (p_bif (P := fun M => plainName (mNm M).cls = true ∧ (mNm M).cls = mCn M) (p_bif (P := fun M => plainName (mNm M).cls = true ∧ (mNm M).cls = mCn M) (⟨by decide +kernel, rfl⟩) (⟨by decide +kernel, rfl⟩)) (p_bif (P := fun M => plainName (mNm M).cls = true ∧ (mNm M).cls = mCn M) (⟨by decide +kernel, rfl⟩) (p_bif (P := fun M => plainName (mNm M).cls = true ∧ (mNm M).cls = mCn M) (⟨by decide +kernel, rfl⟩) (⟨by decide +kernel, rfl⟩))))) (p_bif (P := fun M => plainName (mNm M).cls = true ∧ (mNm M).cls = mCn M) (p_bif (P := fun M => plainName (mNm M).cls = true ∧ (mNm M).cls = mCn M) (p_bif (P := fun M => plainName (mNm M).cls = true ∧ (mNm M).cls = mCn M) (⟨by decide +kernel, rfl⟩) (⟨by decide +kernel, rfl⟩)) (p_bif (P := fun M => plainName (mNm M).cls = true ∧ (mNm M).cls = mCn M) (⟨by decide +kernel, rfl⟩) (⟨by decide +kernel, rfl⟩))) (p_bif (P := fun M => plainName (mNm M).cls = true ∧ (mNm M).cls = mCn M) (p_bif (P := fun M => plainName (mNm M).cls = true ∧ (mNm M).cls = mCn M) (⟨by decide +kernel, rfl⟩) (⟨by decide +kernel, rfl⟩)) (p_bif (P := fun M => plainName (mNm M).cls = true ∧ (mNm M).cls = mCn M) (⟨by decide +kernel, rfl⟩) (p_bif (P := fun M => plainName (mNm M).cls = true ∧ (mNm M).cls = mCn M) (⟨by decide +kernel, rfl⟩) (⟨by decide +kernel, rfl⟩)))))) (p_bif (P := fun M => plainName (mNm M).cls = true ∧ (mNm M).cls = mCn M) (p_bif (P := fun M => plainName (mNm M).cls = true ∧ (mNm M).cls = mCn M) (p_bif (P := fun M => plainName (mNm M).cls = true ∧ (mNm M).cls = mCn M) (p_bif (P := fun M => plainName (mNm M).cls = true ∧ (mNm M).cls = mCn M) (⟨by decide +kernel, rfl⟩) (⟨by decide +kernel, rfl⟩)) (p_bif (P := fun M => plainName (mNm M).cls = true ∧ (mNm M).cls = mCn M) (⟨by decide +kernel, rfl⟩) (⟨by decide +kernel, rfl⟩))) (p_bif (P := fun M => plainName (mNm M).cls = true ∧ (mNm M).cls = mCn M) (p_bif (P := fun M => plainName (mNm M).cls = true ∧ (mNm M).cls = mCn M) (⟨by decide +kernel, rfl⟩) (⟨by decide +kernel, rfl⟩)) (p_bif (P := fun M => plainName (mNm M).cls = true ∧ (mNm M).cls = mCn M) (⟨by decide +kernel, rfl⟩) (p_bif (P := fun M => plainName (mNm M).cls = true ∧ (mNm M).cls = mCn M) (⟨by decide +kernel, rfl⟩) (⟨by decide +kernel, rfl⟩))))) (p_bif (P := fun M => plainName (mNm M).cls = true ∧ (mNm M).cls = mCn M) (p_bif (P := fun M => plainName (mNm M).cls = true ∧ (mNm M).cls = mCn M) (p_bif (P := fun M => plainName (mNm M).cls = true ∧ (mNm M).cls = mCn M) (⟨by decide +kernel, rfl⟩) (⟨by decide +kernel, rfl⟩)) (p_bif (P := fun M => plainName (mNm M).cls = true ∧ (mNm M).cls = mCn M) (⟨by decide +kernel, rfl⟩) (p_bif (P := fun M => plainName (mNm M).cls = true ∧ (mNm M).cls = mCn M) (⟨by decide +kernel, rfl⟩) (⟨by decide +kernel, rfl⟩)))) (p_bif (P := fun M => plainName (mNm M).cls = true ∧ (mNm M).cls = mCn M) (p_bif (P := fun M => plainName (mNm M).cls = true ∧ (mNm M).cls = mCn M) (⟨by decide +kernel, rfl⟩) (⟨by decide +kernel, rfl⟩)) (p_bif (P := fun M => plainName (mNm M).cls = true ∧ (mNm M).cls = mCn M) (⟨by decide +kernel, rfl⟩) (p_bif (P := fun M => plainName (mNm M).cls = true ∧ (mNm M).cls = mCn M) (⟨by decide +kernel, rfl⟩) (⟨by decide +kernel, rfl⟩))))))))
theorem cw_0 : Cond.code (mNm mm0) (mCc mm0) (mNl mm0) (mRt mm0) ∈ mTb ∧ Cond.initialized (mNm mm0).cls ∈ mTb ∧ ((mNm mm0).cls ≠ "java/lang/invoke/MethodHandle" ∧ (mNm mm0).cls ≠ "java/lang/invoke/VarHandle" ∧ (parseMethodDescriptor (mNm mm0).desc).map (fun d => d.parameters.length) = some 2) := ⟨tb_97, tb_7, by decide +kernel, by decide +kernel, by decide +kernel⟩
theorem cw_1 : Cond.code (mNm mm1) (mCc mm1) (mNl mm1) (mRt mm1) ∈ mTb ∧ Cond.initialized (mNm mm1).cls ∈ mTb ∧ ((mNm mm1).cls ≠ "java/lang/invoke/MethodHandle" ∧ (mNm mm1).cls ≠ "java/lang/invoke/VarHandle" ∧ (parseMethodDescriptor (mNm mm1).desc).map (fun d => d.parameters.length) = some 0) := ⟨tb_127, tb_9, by decide +kernel, by decide +kernel, by decide +kernel⟩
theorem cw_2 : Cond.code (mNm mm2) (mCc mm2) (mNl mm2) (mRt mm2) ∈ mTb ∧ Cond.initialized (mNm mm2).cls ∈ mTb ∧ ((mNm mm2).cls ≠ "java/lang/invoke/MethodHandle" ∧ (mNm mm2).cls ≠ "java/lang/invoke/VarHandle" ∧ (parseMethodDescriptor (mNm mm2).desc).map (fun d => d.parameters.length) = some 0) := ⟨tb_434, tb_9, by decide +kernel, by decide +kernel, by decide +kernel⟩
theorem cw_3 : Cond.code (mNm mm3) (mCc mm3) (mNl mm3) (mRt mm3) ∈ mTb ∧ Cond.initialized (mNm mm3).cls ∈ mTb ∧ ((mNm mm3).cls ≠ "java/lang/invoke/MethodHandle" ∧ (mNm mm3).cls ≠ "java/lang/invoke/VarHandle" ∧ (parseMethodDescriptor (mNm mm3).desc).map (fun d => d.parameters.length) = some 2) := ⟨tb_549, tb_9, by decide +kernel, by decide +kernel, by decide +kernel⟩
theorem cw_4 : Cond.code (mNm mm4) (mCc mm4) (mNl mm4) (mRt mm4) ∈ mTb ∧ Cond.initialized (mNm mm4).cls ∈ mTb ∧ ((mNm mm4).cls ≠ "java/lang/invoke/MethodHandle" ∧ (mNm mm4).cls ≠ "java/lang/invoke/VarHandle" ∧ (parseMethodDescriptor (mNm mm4).desc).map (fun d => d.parameters.length) = some 0) := ⟨tb_209, tb_13, by decide +kernel, by decide +kernel, by decide +kernel⟩
theorem cw_5 : Cond.code (mNm mm5) (mCc mm5) (mNl mm5) (mRt mm5) ∈ mTb ∧ Cond.initialized (mNm mm5).cls ∈ mTb ∧ ((mNm mm5).cls ≠ "java/lang/invoke/MethodHandle" ∧ (mNm mm5).cls ≠ "java/lang/invoke/VarHandle" ∧ (parseMethodDescriptor (mNm mm5).desc).map (fun d => d.parameters.length) = some 0) := ⟨tb_473, tb_13, by decide +kernel, by decide +kernel, by decide +kernel⟩
theorem cw_6 : Cond.code (mNm mm6) (mCc mm6) (mNl mm6) (mRt mm6) ∈ mTb ∧ Cond.initialized (mNm mm6).cls ∈ mTb ∧ ((mNm mm6).cls ≠ "java/lang/invoke/MethodHandle" ∧ (mNm mm6).cls ≠ "java/lang/invoke/VarHandle" ∧ (parseMethodDescriptor (mNm mm6).desc).map (fun d => d.parameters.length) = some 1) := ⟨tb_508, tb_13, by decide +kernel, by decide +kernel, by decide +kernel⟩
theorem cw_7 : Cond.code (mNm mm7) (mCc mm7) (mNl mm7) (mRt mm7) ∈ mTb ∧ Cond.initialized (mNm mm7).cls ∈ mTb ∧ ((mNm mm7).cls ≠ "java/lang/invoke/MethodHandle" ∧ (mNm mm7).cls ≠ "java/lang/invoke/VarHandle" ∧ (parseMethodDescriptor (mNm mm7).desc).map (fun d => d.parameters.length) = some 1) := ⟨tb_167, tb_11, by decide +kernel, by decide +kernel, by decide +kernel⟩
theorem cw_8 : Cond.code (mNm mm8) (mCc mm8) (mNl mm8) (mRt mm8) ∈ mTb ∧ Cond.initialized (mNm mm8).cls ∈ mTb ∧ ((mNm mm8).cls ≠ "java/lang/invoke/MethodHandle" ∧ (mNm mm8).cls ≠ "java/lang/invoke/VarHandle" ∧ (parseMethodDescriptor (mNm mm8).desc).map (fun d => d.parameters.length) = some 3) := ⟨tb_449, tb_11, by decide +kernel, by decide +kernel, by decide +kernel⟩
theorem cw_9 : Cond.code (mNm mm9) (mCc mm9) (mNl mm9) (mRt mm9) ∈ mTb ∧ Cond.initialized (mNm mm9).cls ∈ mTb ∧ ((mNm mm9).cls ≠ "java/lang/invoke/MethodHandle" ∧ (mNm mm9).cls ≠ "java/lang/invoke/VarHandle" ∧ (parseMethodDescriptor (mNm mm9).desc).map (fun d => d.parameters.length) = some 3) := ⟨tb_453, tb_11, by decide +kernel, by decide +kernel, by decide +kernel⟩
theorem cw_10 : Cond.code (mNm mm10) (mCc mm10) (mNl mm10) (mRt mm10) ∈ mTb ∧ Cond.initialized (mNm mm10).cls ∈ mTb ∧ ((mNm mm10).cls ≠ "java/lang/invoke/MethodHandle" ∧ (mNm mm10).cls ≠ "java/lang/invoke/VarHandle" ∧ (parseMethodDescriptor (mNm mm10).desc).map (fun d => d.parameters.length) = some 1) := ⟨tb_457, tb_11, by decide +kernel, by decide +kernel, by decide +kernel⟩
theorem cw_11 : Cond.code (mNm mm11) (mCc mm11) (mNl mm11) (mRt mm11) ∈ mTb ∧ Cond.initialized (mNm mm11).cls ∈ mTb ∧ ((mNm mm11).cls ≠ "java/lang/invoke/MethodHandle" ∧ (mNm mm11).cls ≠ "java/lang/invoke/VarHandle" ∧ (parseMethodDescriptor (mNm mm11).desc).map (fun d => d.parameters.length) = some 5) := ⟨tb_461, tb_11, by decide +kernel, by decide +kernel, by decide +kernel⟩
theorem cw_12 : Cond.code (mNm mm12) (mCc mm12) (mNl mm12) (mRt mm12) ∈ mTb ∧ Cond.initialized (mNm mm12).cls ∈ mTb ∧ ((mNm mm12).cls ≠ "java/lang/invoke/MethodHandle" ∧ (mNm mm12).cls ≠ "java/lang/invoke/VarHandle" ∧ (parseMethodDescriptor (mNm mm12).desc).map (fun d => d.parameters.length) = some 3) := ⟨tb_524, tb_11, by decide +kernel, by decide +kernel, by decide +kernel⟩
theorem cw_13 : Cond.code (mNm mm13) (mCc mm13) (mNl mm13) (mRt mm13) ∈ mTb ∧ Cond.initialized (mNm mm13).cls ∈ mTb ∧ ((mNm mm13).cls ≠ "java/lang/invoke/MethodHandle" ∧ (mNm mm13).cls ≠ "java/lang/invoke/VarHandle" ∧ (parseMethodDescriptor (mNm mm13).desc).map (fun d => d.parameters.length) = some 0) := ⟨tb_553, tb_11, by decide +kernel, by decide +kernel, by decide +kernel⟩
theorem cw_14 : Cond.code (mNm mm14) (mCc mm14) (mNl mm14) (mRt mm14) ∈ mTb ∧ Cond.initialized (mNm mm14).cls ∈ mTb ∧ ((mNm mm14).cls ≠ "java/lang/invoke/MethodHandle" ∧ (mNm mm14).cls ≠ "java/lang/invoke/VarHandle" ∧ (parseMethodDescriptor (mNm mm14).desc).map (fun d => d.parameters.length) = some 2) := ⟨tb_562, tb_11, by decide +kernel, by decide +kernel, by decide +kernel⟩
theorem cw_15 : Cond.code (mNm mm15) (mCc mm15) (mNl mm15) (mRt mm15) ∈ mTb ∧ Cond.initialized (mNm mm15).cls ∈ mTb ∧ ((mNm mm15).cls ≠ "java/lang/invoke/MethodHandle" ∧ (mNm mm15).cls ≠ "java/lang/invoke/VarHandle" ∧ (parseMethodDescriptor (mNm mm15).desc).map (fun d => d.parameters.length) = some 0) := ⟨tb_144, tb_10, by decide +kernel, by decide +kernel, by decide +kernel⟩
theorem cw_16 : Cond.code (mNm mm16) (mCc mm16) (mNl mm16) (mRt mm16) ∈ mTb ∧ Cond.initialized (mNm mm16).cls ∈ mTb ∧ ((mNm mm16).cls ≠ "java/lang/invoke/MethodHandle" ∧ (mNm mm16).cls ≠ "java/lang/invoke/VarHandle" ∧ (parseMethodDescriptor (mNm mm16).desc).map (fun d => d.parameters.length) = some 4) := ⟨tb_541, tb_10, by decide +kernel, by decide +kernel, by decide +kernel⟩
theorem cw_17 : Cond.code (mNm mm17) (mCc mm17) (mNl mm17) (mRt mm17) ∈ mTb ∧ Cond.initialized (mNm mm17).cls ∈ mTb ∧ ((mNm mm17).cls ≠ "java/lang/invoke/MethodHandle" ∧ (mNm mm17).cls ≠ "java/lang/invoke/VarHandle" ∧ (parseMethodDescriptor (mNm mm17).desc).map (fun d => d.parameters.length) = some 1) := ⟨tb_647, tb_10, by decide +kernel, by decide +kernel, by decide +kernel⟩
theorem cw_18 : Cond.code (mNm mm18) (mCc mm18) (mNl mm18) (mRt mm18) ∈ mTb ∧ Cond.initialized (mNm mm18).cls ∈ mTb ∧ ((mNm mm18).cls ≠ "java/lang/invoke/MethodHandle" ∧ (mNm mm18).cls ≠ "java/lang/invoke/VarHandle" ∧ (parseMethodDescriptor (mNm mm18).desc).map (fun d => d.parameters.length) = some 0) := ⟨tb_71, tb_4, by decide +kernel, by decide +kernel, by decide +kernel⟩
theorem cw_19 : Cond.code (mNm mm19) (mCc mm19) (mNl mm19) (mRt mm19) ∈ mTb ∧ Cond.initialized (mNm mm19).cls ∈ mTb ∧ ((mNm mm19).cls ≠ "java/lang/invoke/MethodHandle" ∧ (mNm mm19).cls ≠ "java/lang/invoke/VarHandle" ∧ (parseMethodDescriptor (mNm mm19).desc).map (fun d => d.parameters.length) = some 2) := ⟨tb_615, tb_4, by decide +kernel, by decide +kernel, by decide +kernel⟩
theorem cw_20 : Cond.code (mNm mm20) (mCc mm20) (mNl mm20) (mRt mm20) ∈ mTb ∧ Cond.initialized (mNm mm20).cls ∈ mTb ∧ ((mNm mm20).cls ≠ "java/lang/invoke/MethodHandle" ∧ (mNm mm20).cls ≠ "java/lang/invoke/VarHandle" ∧ (parseMethodDescriptor (mNm mm20).desc).map (fun d => d.parameters.length) = some 1) := ⟨tb_619, tb_4, by decide +kernel, by decide +kernel, by decide +kernel⟩
theorem cw_21 : Cond.code (mNm mm21) (mCc mm21) (mNl mm21) (mRt mm21) ∈ mTb ∧ Cond.initialized (mNm mm21).cls ∈ mTb ∧ ((mNm mm21).cls ≠ "java/lang/invoke/MethodHandle" ∧ (mNm mm21).cls ≠ "java/lang/invoke/VarHandle" ∧ (parseMethodDescriptor (mNm mm21).desc).map (fun d => d.parameters.length) = some 2) := ⟨tb_623, tb_4, by decide +kernel, by decide +kernel, by decide +kernel⟩
theorem cw_22 : Cond.code (mNm mm22) (mCc mm22) (mNl mm22) (mRt mm22) ∈ mTb ∧ Cond.initialized (mNm mm22).cls ∈ mTb ∧ ((mNm mm22).cls ≠ "java/lang/invoke/MethodHandle" ∧ (mNm mm22).cls ≠ "java/lang/invoke/VarHandle" ∧ (parseMethodDescriptor (mNm mm22).desc).map (fun d => d.parameters.length) = some 0) := ⟨tb_48, tb_3, by decide +kernel, by decide +kernel, by decide +kernel⟩
theorem cw_23 : Cond.code (mNm mm23) (mCc mm23) (mNl mm23) (mRt mm23) ∈ mTb ∧ Cond.initialized (mNm mm23).cls ∈ mTb ∧ ((mNm mm23).cls ≠ "java/lang/invoke/MethodHandle" ∧ (mNm mm23).cls ≠ "java/lang/invoke/VarHandle" ∧ (parseMethodDescriptor (mNm mm23).desc).map (fun d => d.parameters.length) = some 1) := ⟨tb_394, tb_3, by decide +kernel, by decide +kernel, by decide +kernel⟩
theorem cw_24 : Cond.code (mNm mm24) (mCc mm24) (mNl mm24) (mRt mm24) ∈ mTb ∧ Cond.initialized (mNm mm24).cls ∈ mTb ∧ ((mNm mm24).cls ≠ "java/lang/invoke/MethodHandle" ∧ (mNm mm24).cls ≠ "java/lang/invoke/VarHandle" ∧ (parseMethodDescriptor (mNm mm24).desc).map (fun d => d.parameters.length) = some 3) := ⟨tb_398, tb_3, by decide +kernel, by decide +kernel, by decide +kernel⟩
theorem cw_25 : Cond.code (mNm mm25) (mCc mm25) (mNl mm25) (mRt mm25) ∈ mTb ∧ Cond.initialized (mNm mm25).cls ∈ mTb ∧ ((mNm mm25).cls ≠ "java/lang/invoke/MethodHandle" ∧ (mNm mm25).cls ≠ "java/lang/invoke/VarHandle" ∧ (parseMethodDescriptor (mNm mm25).desc).map (fun d => d.parameters.length) = some 1) := ⟨tb_495, tb_3, by decide +kernel, by decide +kernel, by decide +kernel⟩
theorem cw_26 : Cond.code (mNm mm26) (mCc mm26) (mNl mm26) (mRt mm26) ∈ mTb ∧ Cond.initialized (mNm mm26).cls ∈ mTb ∧ ((mNm mm26).cls ≠ "java/lang/invoke/MethodHandle" ∧ (mNm mm26).cls ≠ "java/lang/invoke/VarHandle" ∧ (parseMethodDescriptor (mNm mm26).desc).map (fun d => d.parameters.length) = some 2) := ⟨tb_85, tb_5, by decide +kernel, by decide +kernel, by decide +kernel⟩
theorem cw_27 : Cond.code (mNm mm27) (mCc mm27) (mNl mm27) (mRt mm27) ∈ mTb ∧ Cond.initialized (mNm mm27).cls ∈ mTb ∧ ((mNm mm27).cls ≠ "java/lang/invoke/MethodHandle" ∧ (mNm mm27).cls ≠ "java/lang/invoke/VarHandle" ∧ (parseMethodDescriptor (mNm mm27).desc).map (fun d => d.parameters.length) = some 3) := ⟨tb_382, tb_5, by decide +kernel, by decide +kernel, by decide +kernel⟩
theorem cw_28 : Cond.code (mNm mm28) (mCc mm28) (mNl mm28) (mRt mm28) ∈ mTb ∧ Cond.initialized (mNm mm28).cls ∈ mTb ∧ ((mNm mm28).cls ≠ "java/lang/invoke/MethodHandle" ∧ (mNm mm28).cls ≠ "java/lang/invoke/VarHandle" ∧ (parseMethodDescriptor (mNm mm28).desc).map (fun d => d.parameters.length) = some 2) := ⟨tb_430, tb_5, by decide +kernel, by decide +kernel, by decide +kernel⟩
theorem cw_29 : Cond.code (mNm mm29) (mCc mm29) (mNl mm29) (mRt mm29) ∈ mTb ∧ Cond.initialized (mNm mm29).cls ∈ mTb ∧ ((mNm mm29).cls ≠ "java/lang/invoke/MethodHandle" ∧ (mNm mm29).cls ≠ "java/lang/invoke/VarHandle" ∧ (parseMethodDescriptor (mNm mm29).desc).map (fun d => d.parameters.length) = some 3) := ⟨tb_438, tb_5, by decide +kernel, by decide +kernel, by decide +kernel⟩
theorem cw_30 : Cond.code (mNm mm30) (mCc mm30) (mNl mm30) (mRt mm30) ∈ mTb ∧ Cond.initialized (mNm mm30).cls ∈ mTb ∧ ((mNm mm30).cls ≠ "java/lang/invoke/MethodHandle" ∧ (mNm mm30).cls ≠ "java/lang/invoke/VarHandle" ∧ (parseMethodDescriptor (mNm mm30).desc).map (fun d => d.parameters.length) = some 2) := ⟨tb_533, tb_5, by decide +kernel, by decide +kernel, by decide +kernel⟩
theorem cw_31 : Cond.code (mNm mm31) (mCc mm31) (mNl mm31) (mRt mm31) ∈ mTb ∧ Cond.initialized (mNm mm31).cls ∈ mTb ∧ ((mNm mm31).cls ≠ "java/lang/invoke/MethodHandle" ∧ (mNm mm31).cls ≠ "java/lang/invoke/VarHandle" ∧ (parseMethodDescriptor (mNm mm31).desc).map (fun d => d.parameters.length) = some 0) := ⟨tb_27, tb_2, by decide +kernel, by decide +kernel, by decide +kernel⟩
theorem cw_32 : Cond.code (mNm mm32) (mCc mm32) (mNl mm32) (mRt mm32) ∈ mTb ∧ Cond.initialized (mNm mm32).cls ∈ mTb ∧ ((mNm mm32).cls ≠ "java/lang/invoke/MethodHandle" ∧ (mNm mm32).cls ≠ "java/lang/invoke/VarHandle" ∧ (parseMethodDescriptor (mNm mm32).desc).map (fun d => d.parameters.length) = some 3) := ⟨tb_503, tb_2, by decide +kernel, by decide +kernel, by decide +kernel⟩
theorem cw_33 : Cond.code (mNm mm33) (mCc mm33) (mNl mm33) (mRt mm33) ∈ mTb ∧ Cond.initialized (mNm mm33).cls ∈ mTb ∧ ((mNm mm33).cls ≠ "java/lang/invoke/MethodHandle" ∧ (mNm mm33).cls ≠ "java/lang/invoke/VarHandle" ∧ (parseMethodDescriptor (mNm mm33).desc).map (fun d => d.parameters.length) = some 1) := ⟨tb_627, tb_2, by decide +kernel, by decide +kernel, by decide +kernel⟩
theorem cw_34 : Cond.code (mNm mm34) (mCc mm34) (mNl mm34) (mRt mm34) ∈ mTb ∧ Cond.initialized (mNm mm34).cls ∈ mTb ∧ ((mNm mm34).cls ≠ "java/lang/invoke/MethodHandle" ∧ (mNm mm34).cls ≠ "java/lang/invoke/VarHandle" ∧ (parseMethodDescriptor (mNm mm34).desc).map (fun d => d.parameters.length) = some 0) := ⟨tb_188, tb_12, by decide +kernel, by decide +kernel, by decide +kernel⟩
theorem cw_35 : Cond.code (mNm mm35) (mCc mm35) (mNl mm35) (mRt mm35) ∈ mTb ∧ Cond.initialized (mNm mm35).cls ∈ mTb ∧ ((mNm mm35).cls ≠ "java/lang/invoke/MethodHandle" ∧ (mNm mm35).cls ≠ "java/lang/invoke/VarHandle" ∧ (parseMethodDescriptor (mNm mm35).desc).map (fun d => d.parameters.length) = some 1) := ⟨tb_485, tb_12, by decide +kernel, by decide +kernel, by decide +kernel⟩
theorem cw_36 : Cond.code (mNm mm36) (mCc mm36) (mNl mm36) (mRt mm36) ∈ mTb ∧ Cond.initialized (mNm mm36).cls ∈ mTb ∧ ((mNm mm36).cls ≠ "java/lang/invoke/MethodHandle" ∧ (mNm mm36).cls ≠ "java/lang/invoke/VarHandle" ∧ (parseMethodDescriptor (mNm mm36).desc).map (fun d => d.parameters.length) = some 2) := ⟨tb_121, tb_8, by decide +kernel, by decide +kernel, by decide +kernel⟩
theorem cw_37 : Cond.code (mNm mm37) (mCc mm37) (mNl mm37) (mRt mm37) ∈ mTb ∧ Cond.initialized (mNm mm37).cls ∈ mTb ∧ ((mNm mm37).cls ≠ "java/lang/invoke/MethodHandle" ∧ (mNm mm37).cls ≠ "java/lang/invoke/VarHandle" ∧ (parseMethodDescriptor (mNm mm37).desc).map (fun d => d.parameters.length) = some 0) := ⟨tb_410, tb_8, by decide +kernel, by decide +kernel, by decide +kernel⟩
theorem cw_38 : Cond.code (mNm mm38) (mCc mm38) (mNl mm38) (mRt mm38) ∈ mTb ∧ Cond.initialized (mNm mm38).cls ∈ mTb ∧ ((mNm mm38).cls ≠ "java/lang/invoke/MethodHandle" ∧ (mNm mm38).cls ≠ "java/lang/invoke/VarHandle" ∧ (parseMethodDescriptor (mNm mm38).desc).map (fun d => d.parameters.length) = some 2) := ⟨tb_422, tb_8, by decide +kernel, by decide +kernel, by decide +kernel⟩
theorem cw_39 : Cond.code (mNm mm39) (mCc mm39) (mNl mm39) (mRt mm39) ∈ mTb ∧ Cond.initialized (mNm mm39).cls ∈ mTb ∧ ((mNm mm39).cls ≠ "java/lang/invoke/MethodHandle" ∧ (mNm mm39).cls ≠ "java/lang/invoke/VarHandle" ∧ (parseMethodDescriptor (mNm mm39).desc).map (fun d => d.parameters.length) = some 0) := ⟨tb_426, tb_8, by decide +kernel, by decide +kernel, by decide +kernel⟩
theorem cw_40 : Cond.code (mNm mm40) (mCc mm40) (mNl mm40) (mRt mm40) ∈ mTb ∧ Cond.initialized (mNm mm40).cls ∈ mTb ∧ ((mNm mm40).cls ≠ "java/lang/invoke/MethodHandle" ∧ (mNm mm40).cls ≠ "java/lang/invoke/VarHandle" ∧ (parseMethodDescriptor (mNm mm40).desc).map (fun d => d.parameters.length) = some 3) := ⟨tb_445, tb_8, by decide +kernel, by decide +kernel, by decide +kernel⟩
theorem cw_41 : Cond.code (mNm mm41) (mCc mm41) (mNl mm41) (mRt mm41) ∈ mTb ∧ Cond.initialized (mNm mm41).cls ∈ mTb ∧ ((mNm mm41).cls ≠ "java/lang/invoke/MethodHandle" ∧ (mNm mm41).cls ≠ "java/lang/invoke/VarHandle" ∧ (parseMethodDescriptor (mNm mm41).desc).map (fun d => d.parameters.length) = some 0) := ⟨tb_477, tb_8, by decide +kernel, by decide +kernel, by decide +kernel⟩
theorem cw_42 : Cond.code (mNm mm42) (mCc mm42) (mNl mm42) (mRt mm42) ∈ mTb ∧ Cond.initialized (mNm mm42).cls ∈ mTb ∧ ((mNm mm42).cls ≠ "java/lang/invoke/MethodHandle" ∧ (mNm mm42).cls ≠ "java/lang/invoke/VarHandle" ∧ (parseMethodDescriptor (mNm mm42).desc).map (fun d => d.parameters.length) = some 1) := ⟨tb_481, tb_8, by decide +kernel, by decide +kernel, by decide +kernel⟩
theorem cw_43 : Cond.code (mNm mm43) (mCc mm43) (mNl mm43) (mRt mm43) ∈ mTb ∧ Cond.initialized (mNm mm43).cls ∈ mTb ∧ ((mNm mm43).cls ≠ "java/lang/invoke/MethodHandle" ∧ (mNm mm43).cls ≠ "java/lang/invoke/VarHandle" ∧ (parseMethodDescriptor (mNm mm43).desc).map (fun d => d.parameters.length) = some 1) := ⟨tb_512, tb_8, by decide +kernel, by decide +kernel, by decide +kernel⟩
theorem cw_44 : Cond.code (mNm mm44) (mCc mm44) (mNl mm44) (mRt mm44) ∈ mTb ∧ Cond.initialized (mNm mm44).cls ∈ mTb ∧ ((mNm mm44).cls ≠ "java/lang/invoke/MethodHandle" ∧ (mNm mm44).cls ≠ "java/lang/invoke/VarHandle" ∧ (parseMethodDescriptor (mNm mm44).desc).map (fun d => d.parameters.length) = some 0) := ⟨tb_516, tb_8, by decide +kernel, by decide +kernel, by decide +kernel⟩
theorem cw_45 : Cond.code (mNm mm45) (mCc mm45) (mNl mm45) (mRt mm45) ∈ mTb ∧ Cond.initialized (mNm mm45).cls ∈ mTb ∧ ((mNm mm45).cls ≠ "java/lang/invoke/MethodHandle" ∧ (mNm mm45).cls ≠ "java/lang/invoke/VarHandle" ∧ (parseMethodDescriptor (mNm mm45).desc).map (fun d => d.parameters.length) = some 1) := ⟨tb_520, tb_8, by decide +kernel, by decide +kernel, by decide +kernel⟩
theorem cw_46 : Cond.code (mNm mm46) (mCc mm46) (mNl mm46) (mRt mm46) ∈ mTb ∧ Cond.initialized (mNm mm46).cls ∈ mTb ∧ ((mNm mm46).cls ≠ "java/lang/invoke/MethodHandle" ∧ (mNm mm46).cls ≠ "java/lang/invoke/VarHandle" ∧ (parseMethodDescriptor (mNm mm46).desc).map (fun d => d.parameters.length) = some 1) := ⟨tb_529, tb_8, by decide +kernel, by decide +kernel, by decide +kernel⟩
theorem cw_47 : Cond.code (mNm mm47) (mCc mm47) (mNl mm47) (mRt mm47) ∈ mTb ∧ Cond.initialized (mNm mm47).cls ∈ mTb ∧ ((mNm mm47).cls ≠ "java/lang/invoke/MethodHandle" ∧ (mNm mm47).cls ≠ "java/lang/invoke/VarHandle" ∧ (parseMethodDescriptor (mNm mm47).desc).map (fun d => d.parameters.length) = some 1) := ⟨tb_537, tb_8, by decide +kernel, by decide +kernel, by decide +kernel⟩
theorem cw_48 : Cond.code (mNm mm48) (mCc mm48) (mNl mm48) (mRt mm48) ∈ mTb ∧ Cond.initialized (mNm mm48).cls ∈ mTb ∧ ((mNm mm48).cls ≠ "java/lang/invoke/MethodHandle" ∧ (mNm mm48).cls ≠ "java/lang/invoke/VarHandle" ∧ (parseMethodDescriptor (mNm mm48).desc).map (fun d => d.parameters.length) = some 0) := ⟨tb_545, tb_8, by decide +kernel, by decide +kernel, by decide +kernel⟩
theorem cw_49 : Cond.code (mNm mm49) (mCc mm49) (mNl mm49) (mRt mm49) ∈ mTb ∧ Cond.initialized (mNm mm49).cls ∈ mTb ∧ ((mNm mm49).cls ≠ "java/lang/invoke/MethodHandle" ∧ (mNm mm49).cls ≠ "java/lang/invoke/VarHandle" ∧ (parseMethodDescriptor (mNm mm49).desc).map (fun d => d.parameters.length) = some 0) := ⟨tb_558, tb_8, by decide +kernel, by decide +kernel, by decide +kernel⟩
theorem cw_50 : Cond.code (mNm mm50) (mCc mm50) (mNl mm50) (mRt mm50) ∈ mTb ∧ Cond.initialized (mNm mm50).cls ∈ mTb ∧ ((mNm mm50).cls ≠ "java/lang/invoke/MethodHandle" ∧ (mNm mm50).cls ≠ "java/lang/invoke/VarHandle" ∧ (parseMethodDescriptor (mNm mm50).desc).map (fun d => d.parameters.length) = some 1) := ⟨tb_567, tb_8, by decide +kernel, by decide +kernel, by decide +kernel⟩
theorem cw_51 : Cond.code (mNm mm51) (mCc mm51) (mNl mm51) (mRt mm51) ∈ mTb ∧ Cond.initialized (mNm mm51).cls ∈ mTb ∧ ((mNm mm51).cls ≠ "java/lang/invoke/MethodHandle" ∧ (mNm mm51).cls ≠ "java/lang/invoke/VarHandle" ∧ (parseMethodDescriptor (mNm mm51).desc).map (fun d => d.parameters.length) = some 0) := ⟨tb_571, tb_8, by decide +kernel, by decide +kernel, by decide +kernel⟩
theorem cw_52 : Cond.code (mNm mm52) (mCc mm52) (mNl mm52) (mRt mm52) ∈ mTb ∧ Cond.initialized (mNm mm52).cls ∈ mTb ∧ ((mNm mm52).cls ≠ "java/lang/invoke/MethodHandle" ∧ (mNm mm52).cls ≠ "java/lang/invoke/VarHandle" ∧ (parseMethodDescriptor (mNm mm52).desc).map (fun d => d.parameters.length) = some 2) := ⟨tb_575, tb_8, by decide +kernel, by decide +kernel, by decide +kernel⟩
theorem cw_53 : Cond.code (mNm mm53) (mCc mm53) (mNl mm53) (mRt mm53) ∈ mTb ∧ Cond.initialized (mNm mm53).cls ∈ mTb ∧ ((mNm mm53).cls ≠ "java/lang/invoke/MethodHandle" ∧ (mNm mm53).cls ≠ "java/lang/invoke/VarHandle" ∧ (parseMethodDescriptor (mNm mm53).desc).map (fun d => d.parameters.length) = some 0) := ⟨tb_579, tb_8, by decide +kernel, by decide +kernel, by decide +kernel⟩
theorem cw_54 : Cond.code (mNm mm54) (mCc mm54) (mNl mm54) (mRt mm54) ∈ mTb ∧ Cond.initialized (mNm mm54).cls ∈ mTb ∧ ((mNm mm54).cls ≠ "java/lang/invoke/MethodHandle" ∧ (mNm mm54).cls ≠ "java/lang/invoke/VarHandle" ∧ (parseMethodDescriptor (mNm mm54).desc).map (fun d => d.parameters.length) = some 0) := ⟨tb_583, tb_8, by decide +kernel, by decide +kernel, by decide +kernel⟩
theorem cw_55 : Cond.code (mNm mm55) (mCc mm55) (mNl mm55) (mRt mm55) ∈ mTb ∧ Cond.initialized (mNm mm55).cls ∈ mTb ∧ ((mNm mm55).cls ≠ "java/lang/invoke/MethodHandle" ∧ (mNm mm55).cls ≠ "java/lang/invoke/VarHandle" ∧ (parseMethodDescriptor (mNm mm55).desc).map (fun d => d.parameters.length) = some 1) := ⟨tb_587, tb_8, by decide +kernel, by decide +kernel, by decide +kernel⟩
theorem cw_56 : Cond.code (mNm mm56) (mCc mm56) (mNl mm56) (mRt mm56) ∈ mTb ∧ Cond.initialized (mNm mm56).cls ∈ mTb ∧ ((mNm mm56).cls ≠ "java/lang/invoke/MethodHandle" ∧ (mNm mm56).cls ≠ "java/lang/invoke/VarHandle" ∧ (parseMethodDescriptor (mNm mm56).desc).map (fun d => d.parameters.length) = some 1) := ⟨tb_591, tb_8, by decide +kernel, by decide +kernel, by decide +kernel⟩
theorem cw_57 : Cond.code (mNm mm57) (mCc mm57) (mNl mm57) (mRt mm57) ∈ mTb ∧ Cond.initialized (mNm mm57).cls ∈ mTb ∧ ((mNm mm57).cls ≠ "java/lang/invoke/MethodHandle" ∧ (mNm mm57).cls ≠ "java/lang/invoke/VarHandle" ∧ (parseMethodDescriptor (mNm mm57).desc).map (fun d => d.parameters.length) = some 1) := ⟨tb_599, tb_8, by decide +kernel, by decide +kernel, by decide +kernel⟩
theorem cw_58 : Cond.code (mNm mm58) (mCc mm58) (mNl mm58) (mRt mm58) ∈ mTb ∧ Cond.initialized (mNm mm58).cls ∈ mTb ∧ ((mNm mm58).cls ≠ "java/lang/invoke/MethodHandle" ∧ (mNm mm58).cls ≠ "java/lang/invoke/VarHandle" ∧ (parseMethodDescriptor (mNm mm58).desc).map (fun d => d.parameters.length) = some 1) := ⟨tb_611, tb_8, by decide +kernel, by decide +kernel, by decide +kernel⟩
theorem cw_59 : Cond.code (mNm mm59) (mCc mm59) (mNl mm59) (mRt mm59) ∈ mTb ∧ Cond.initialized (mNm mm59).cls ∈ mTb ∧ ((mNm mm59).cls ≠ "java/lang/invoke/MethodHandle" ∧ (mNm mm59).cls ≠ "java/lang/invoke/VarHandle" ∧ (parseMethodDescriptor (mNm mm59).desc).map (fun d => d.parameters.length) = some 2) := ⟨tb_635, tb_8, by decide +kernel, by decide +kernel, by decide +kernel⟩
theorem cw_60 : Cond.code (mNm mm60) (mCc mm60) (mNl mm60) (mRt mm60) ∈ mTb ∧ Cond.initialized (mNm mm60).cls ∈ mTb ∧ ((mNm mm60).cls ≠ "java/lang/invoke/MethodHandle" ∧ (mNm mm60).cls ≠ "java/lang/invoke/VarHandle" ∧ (parseMethodDescriptor (mNm mm60).desc).map (fun d => d.parameters.length) = some 1) := ⟨tb_651, tb_8, by decide +kernel, by decide +kernel, by decide +kernel⟩
theorem cw_61 : Cond.code (mNm mm61) (mCc mm61) (mNl mm61) (mRt mm61) ∈ mTb ∧ Cond.initialized (mNm mm61).cls ∈ mTb ∧ ((mNm mm61).cls ≠ "java/lang/invoke/MethodHandle" ∧ (mNm mm61).cls ≠ "java/lang/invoke/VarHandle" ∧ (parseMethodDescriptor (mNm mm61).desc).map (fun d => d.parameters.length) = some 2) := ⟨tb_19, tb_1, by decide +kernel, by decide +kernel, by decide +kernel⟩
theorem cw_62 : Cond.code (mNm mm62) (mCc mm62) (mNl mm62) (mRt mm62) ∈ mTb ∧ Cond.initialized (mNm mm62).cls ∈ mTb ∧ ((mNm mm62).cls ≠ "java/lang/invoke/MethodHandle" ∧ (mNm mm62).cls ≠ "java/lang/invoke/VarHandle" ∧ (parseMethodDescriptor (mNm mm62).desc).map (fun d => d.parameters.length) = some 2) := ⟨tb_368, tb_1, by decide +kernel, by decide +kernel, by decide +kernel⟩
theorem cw_63 : Cond.code (mNm mm63) (mCc mm63) (mNl mm63) (mRt mm63) ∈ mTb ∧ Cond.initialized (mNm mm63).cls ∈ mTb ∧ ((mNm mm63).cls ≠ "java/lang/invoke/MethodHandle" ∧ (mNm mm63).cls ≠ "java/lang/invoke/VarHandle" ∧ (parseMethodDescriptor (mNm mm63).desc).map (fun d => d.parameters.length) = some 1) := ⟨tb_372, tb_1, by decide +kernel, by decide +kernel, by decide +kernel⟩
theorem cw_64 : Cond.code (mNm mm64) (mCc mm64) (mNl mm64) (mRt mm64) ∈ mTb ∧ Cond.initialized (mNm mm64).cls ∈ mTb ∧ ((mNm mm64).cls ≠ "java/lang/invoke/MethodHandle" ∧ (mNm mm64).cls ≠ "java/lang/invoke/VarHandle" ∧ (parseMethodDescriptor (mNm mm64).desc).map (fun d => d.parameters.length) = some 0) := ⟨tb_377, tb_1, by decide +kernel, by decide +kernel, by decide +kernel⟩
theorem cw_65 : Cond.code (mNm mm65) (mCc mm65) (mNl mm65) (mRt mm65) ∈ mTb ∧ Cond.initialized (mNm mm65).cls ∈ mTb ∧ ((mNm mm65).cls ≠ "java/lang/invoke/MethodHandle" ∧ (mNm mm65).cls ≠ "java/lang/invoke/VarHandle" ∧ (parseMethodDescriptor (mNm mm65).desc).map (fun d => d.parameters.length) = some 2) := ⟨tb_386, tb_1, by decide +kernel, by decide +kernel, by decide +kernel⟩
theorem cw_66 : Cond.code (mNm mm66) (mCc mm66) (mNl mm66) (mRt mm66) ∈ mTb ∧ Cond.initialized (mNm mm66).cls ∈ mTb ∧ ((mNm mm66).cls ≠ "java/lang/invoke/MethodHandle" ∧ (mNm mm66).cls ≠ "java/lang/invoke/VarHandle" ∧ (parseMethodDescriptor (mNm mm66).desc).map (fun d => d.parameters.length) = some 3) := ⟨tb_390, tb_1, by decide +kernel, by decide +kernel, by decide +kernel⟩
theorem cw_67 : Cond.code (mNm mm67) (mCc mm67) (mNl mm67) (mRt mm67) ∈ mTb ∧ Cond.initialized (mNm mm67).cls ∈ mTb ∧ ((mNm mm67).cls ≠ "java/lang/invoke/MethodHandle" ∧ (mNm mm67).cls ≠ "java/lang/invoke/VarHandle" ∧ (parseMethodDescriptor (mNm mm67).desc).map (fun d => d.parameters.length) = some 2) := ⟨tb_402, tb_1, by decide +kernel, by decide +kernel, by decide +kernel⟩
theorem cw_68 : Cond.code (mNm mm68) (mCc mm68) (mNl mm68) (mRt mm68) ∈ mTb ∧ Cond.initialized (mNm mm68).cls ∈ mTb ∧ ((mNm mm68).cls ≠ "java/lang/invoke/MethodHandle" ∧ (mNm mm68).cls ≠ "java/lang/invoke/VarHandle" ∧ (parseMethodDescriptor (mNm mm68).desc).map (fun d => d.parameters.length) = some 2) := ⟨tb_406, tb_1, by decide +kernel, by decide +kernel, by decide +kernel⟩
theorem cw_69 : Cond.code (mNm mm69) (mCc mm69) (mNl mm69) (mRt mm69) ∈ mTb ∧ Cond.initialized (mNm mm69).cls ∈ mTb ∧ ((mNm mm69).cls ≠ "java/lang/invoke/MethodHandle" ∧ (mNm mm69).cls ≠ "java/lang/invoke/VarHandle" ∧ (parseMethodDescriptor (mNm mm69).desc).map (fun d => d.parameters.length) = some 1) := ⟨tb_414, tb_1, by decide +kernel, by decide +kernel, by decide +kernel⟩
theorem cw_70 : Cond.code (mNm mm70) (mCc mm70) (mNl mm70) (mRt mm70) ∈ mTb ∧ Cond.initialized (mNm mm70).cls ∈ mTb ∧ ((mNm mm70).cls ≠ "java/lang/invoke/MethodHandle" ∧ (mNm mm70).cls ≠ "java/lang/invoke/VarHandle" ∧ (parseMethodDescriptor (mNm mm70).desc).map (fun d => d.parameters.length) = some 0) := ⟨tb_418, tb_1, by decide +kernel, by decide +kernel, by decide +kernel⟩
theorem cw_71 : Cond.code (mNm mm71) (mCc mm71) (mNl mm71) (mRt mm71) ∈ mTb ∧ Cond.initialized (mNm mm71).cls ∈ mTb ∧ ((mNm mm71).cls ≠ "java/lang/invoke/MethodHandle" ∧ (mNm mm71).cls ≠ "java/lang/invoke/VarHandle" ∧ (parseMethodDescriptor (mNm mm71).desc).map (fun d => d.parameters.length) = some 1) := ⟨tb_465, tb_1, by decide +kernel, by decide +kernel, by decide +kernel⟩
theorem cw_72 : Cond.code (mNm mm72) (mCc mm72) (mNl mm72) (mRt mm72) ∈ mTb ∧ Cond.initialized (mNm mm72).cls ∈ mTb ∧ ((mNm mm72).cls ≠ "java/lang/invoke/MethodHandle" ∧ (mNm mm72).cls ≠ "java/lang/invoke/VarHandle" ∧ (parseMethodDescriptor (mNm mm72).desc).map (fun d => d.parameters.length) = some 1) := ⟨tb_469, tb_1, by decide +kernel, by decide +kernel, by decide +kernel⟩
theorem cw_73 : Cond.code (mNm mm73) (mCc mm73) (mNl mm73) (mRt mm73) ∈ mTb ∧ Cond.initialized (mNm mm73).cls ∈ mTb ∧ ((mNm mm73).cls ≠ "java/lang/invoke/MethodHandle" ∧ (mNm mm73).cls ≠ "java/lang/invoke/VarHandle" ∧ (parseMethodDescriptor (mNm mm73).desc).map (fun d => d.parameters.length) = some 1) := ⟨tb_491, tb_1, by decide +kernel, by decide +kernel, by decide +kernel⟩
theorem cw_74 : Cond.code (mNm mm74) (mCc mm74) (mNl mm74) (mRt mm74) ∈ mTb ∧ Cond.initialized (mNm mm74).cls ∈ mTb ∧ ((mNm mm74).cls ≠ "java/lang/invoke/MethodHandle" ∧ (mNm mm74).cls ≠ "java/lang/invoke/VarHandle" ∧ (parseMethodDescriptor (mNm mm74).desc).map (fun d => d.parameters.length) = some 2) := ⟨tb_499, tb_1, by decide +kernel, by decide +kernel, by decide +kernel⟩
theorem cw_75 : Cond.code (mNm mm75) (mCc mm75) (mNl mm75) (mRt mm75) ∈ mTb ∧ Cond.initialized (mNm mm75).cls ∈ mTb ∧ ((mNm mm75).cls ≠ "java/lang/invoke/MethodHandle" ∧ (mNm mm75).cls ≠ "java/lang/invoke/VarHandle" ∧ (parseMethodDescriptor (mNm mm75).desc).map (fun d => d.parameters.length) = some 0) := ⟨tb_595, tb_1, by decide +kernel, by decide +kernel, by decide +kernel⟩
theorem cw_76 : Cond.code (mNm mm76) (mCc mm76) (mNl mm76) (mRt mm76) ∈ mTb ∧ Cond.initialized (mNm mm76).cls ∈ mTb ∧ ((mNm mm76).cls ≠ "java/lang/invoke/MethodHandle" ∧ (mNm mm76).cls ≠ "java/lang/invoke/VarHandle" ∧ (parseMethodDescriptor (mNm mm76).desc).map (fun d => d.parameters.length) = some 0) := ⟨tb_603, tb_1, by decide +kernel, by decide +kernel, by decide +kernel⟩
theorem cw_77 : Cond.code (mNm mm77) (mCc mm77) (mNl mm77) (mRt mm77) ∈ mTb ∧ Cond.initialized (mNm mm77).cls ∈ mTb ∧ ((mNm mm77).cls ≠ "java/lang/invoke/MethodHandle" ∧ (mNm mm77).cls ≠ "java/lang/invoke/VarHandle" ∧ (parseMethodDescriptor (mNm mm77).desc).map (fun d => d.parameters.length) = some 1) := ⟨tb_607, tb_1, by decide +kernel, by decide +kernel, by decide +kernel⟩
theorem cw_78 : Cond.code (mNm mm78) (mCc mm78) (mNl mm78) (mRt mm78) ∈ mTb ∧ Cond.initialized (mNm mm78).cls ∈ mTb ∧ ((mNm mm78).cls ≠ "java/lang/invoke/MethodHandle" ∧ (mNm mm78).cls ≠ "java/lang/invoke/VarHandle" ∧ (parseMethodDescriptor (mNm mm78).desc).map (fun d => d.parameters.length) = some 0) := ⟨tb_631, tb_1, by decide +kernel, by decide +kernel, by decide +kernel⟩
theorem cw_79 : Cond.code (mNm mm79) (mCc mm79) (mNl mm79) (mRt mm79) ∈ mTb ∧ Cond.initialized (mNm mm79).cls ∈ mTb ∧ ((mNm mm79).cls ≠ "java/lang/invoke/MethodHandle" ∧ (mNm mm79).cls ≠ "java/lang/invoke/VarHandle" ∧ (parseMethodDescriptor (mNm mm79).desc).map (fun d => d.parameters.length) = some 1) := ⟨tb_639, tb_1, by decide +kernel, by decide +kernel, by decide +kernel⟩
theorem cw_80 : Cond.code (mNm mm80) (mCc mm80) (mNl mm80) (mRt mm80) ∈ mTb ∧ Cond.initialized (mNm mm80).cls ∈ mTb ∧ ((mNm mm80).cls ≠ "java/lang/invoke/MethodHandle" ∧ (mNm mm80).cls ≠ "java/lang/invoke/VarHandle" ∧ (parseMethodDescriptor (mNm mm80).desc).map (fun d => d.parameters.length) = some 2) := ⟨tb_643, tb_1, by decide +kernel, by decide +kernel, by decide +kernel⟩
theorem cw_81 : Cond.code (mNm mm81) (mCc mm81) (mNl mm81) (mRt mm81) ∈ mTb ∧ Cond.initialized (mNm mm81).cls ∈ mTb ∧ ((mNm mm81).cls ≠ "java/lang/invoke/MethodHandle" ∧ (mNm mm81).cls ≠ "java/lang/invoke/VarHandle" ∧ (parseMethodDescriptor (mNm mm81).desc).map (fun d => d.parameters.length) = some 2) := ⟨tb_655, tb_1, by decide +kernel, by decide +kernel, by decide +kernel⟩
theorem cw_82 : Cond.code (mNm mm82) (mCc mm82) (mNl mm82) (mRt mm82) ∈ mTb ∧ Cond.initialized (mNm mm82).cls ∈ mTb ∧ ((mNm mm82).cls ≠ "java/lang/invoke/MethodHandle" ∧ (mNm mm82).cls ≠ "java/lang/invoke/VarHandle" ∧ (parseMethodDescriptor (mNm mm82).desc).map (fun d => d.parameters.length) = some 4) := ⟨tb_659, tb_1, by decide +kernel, by decide +kernel, by decide +kernel⟩
theorem cw_83 : Cond.code (mNm mm83) (mCc mm83) (mNl mm83) (mRt mm83) ∈ mTb ∧ Cond.initialized (mNm mm83).cls ∈ mTb ∧ ((mNm mm83).cls ≠ "java/lang/invoke/MethodHandle" ∧ (mNm mm83).cls ≠ "java/lang/invoke/VarHandle" ∧ (parseMethodDescriptor (mNm mm83).desc).map (fun d => d.parameters.length) = some 3) := ⟨tb_666, tb_1, by decide +kernel, by decide +kernel, by decide +kernel⟩
theorem cw_84 : Cond.code (mNm mm84) (mCc mm84) (mNl mm84) (mRt mm84) ∈ mTb ∧ Cond.initialized (mNm mm84).cls ∈ mTb ∧ ((mNm mm84).cls ≠ "java/lang/invoke/MethodHandle" ∧ (mNm mm84).cls ≠ "java/lang/invoke/VarHandle" ∧ (parseMethodDescriptor (mNm mm84).desc).map (fun d => d.parameters.length) = some 1) := ⟨tb_669, tb_1, by decide +kernel, by decide +kernel, by decide +kernel⟩
theorem cw_85 : Cond.code (mNm mm85) (mCc mm85) (mNl mm85) (mRt mm85) ∈ mTb ∧ Cond.initialized (mNm mm85).cls ∈ mTb ∧ ((mNm mm85).cls ≠ "java/lang/invoke/MethodHandle" ∧ (mNm mm85).cls ≠ "java/lang/invoke/VarHandle" ∧ (parseMethodDescriptor (mNm mm85).desc).map (fun d => d.parameters.length) = some 1) := ⟨tb_674, tb_1, by decide +kernel, by decide +kernel, by decide +kernel⟩
theorem cw_86 : Cond.code (mNm mm86) (mCc mm86) (mNl mm86) (mRt mm86) ∈ mTb ∧ Cond.initialized (mNm mm86).cls ∈ mTb ∧ ((mNm mm86).cls ≠ "java/lang/invoke/MethodHandle" ∧ (mNm mm86).cls ≠ "java/lang/invoke/VarHandle" ∧ (parseMethodDescriptor (mNm mm86).desc).map (fun d => d.parameters.length) = some 2) := ⟨tb_678, tb_1, by decide +kernel, by decide +kernel, by decide +kernel⟩
theorem cw_87 : Cond.code (mNm mm87) (mCc mm87) (mNl mm87) (mRt mm87) ∈ mTb ∧ Cond.initialized (mNm mm87).cls ∈ mTb ∧ ((mNm mm87).cls ≠ "java/lang/invoke/MethodHandle" ∧ (mNm mm87).cls ≠ "java/lang/invoke/VarHandle" ∧ (parseMethodDescriptor (mNm mm87).desc).map (fun d => d.parameters.length) = some 1) := ⟨tb_683, tb_1, by decide +kernel, by decide +kernel, by decide +kernel⟩
theorem cw_88 : Cond.code (mNm mm88) (mCc mm88) (mNl mm88) (mRt mm88) ∈ mTb ∧ Cond.initialized (mNm mm88).cls ∈ mTb ∧ ((mNm mm88).cls ≠ "java/lang/invoke/MethodHandle" ∧ (mNm mm88).cls ≠ "java/lang/invoke/VarHandle" ∧ (parseMethodDescriptor (mNm mm88).desc).map (fun d => d.parameters.length) = some 1) := ⟨tb_687, tb_1, by decide +kernel, by decide +kernel, by decide +kernel⟩
theorem cw_89 : Cond.code (mNm mm89) (mCc mm89) (mNl mm89) (mRt mm89) ∈ mTb ∧ Cond.initialized (mNm mm89).cls ∈ mTb ∧ ((mNm mm89).cls ≠ "java/lang/invoke/MethodHandle" ∧ (mNm mm89).cls ≠ "java/lang/invoke/VarHandle" ∧ (parseMethodDescriptor (mNm mm89).desc).map (fun d => d.parameters.length) = some 0) := ⟨tb_691, tb_1, by decide +kernel, by decide +kernel, by decide +kernel⟩
theorem cw_90 : Cond.code (mNm mm90) (mCc mm90) (mNl mm90) (mRt mm90) ∈ mTb ∧ Cond.initialized (mNm mm90).cls ∈ mTb ∧ ((mNm mm90).cls ≠ "java/lang/invoke/MethodHandle" ∧ (mNm mm90).cls ≠ "java/lang/invoke/VarHandle" ∧ (parseMethodDescriptor (mNm mm90).desc).map (fun d => d.parameters.length) = some 2) := ⟨tb_695, tb_1, by decide +kernel, by decide +kernel, by decide +kernel⟩
theorem cw_91 : Cond.code (mNm mm91) (mCc mm91) (mNl mm91) (mRt mm91) ∈ mTb ∧ Cond.initialized (mNm mm91).cls ∈ mTb ∧ ((mNm mm91).cls ≠ "java/lang/invoke/MethodHandle" ∧ (mNm mm91).cls ≠ "java/lang/invoke/VarHandle" ∧ (parseMethodDescriptor (mNm mm91).desc).map (fun d => d.parameters.length) = some 2) := ⟨tb_703, tb_14, by decide +kernel, by decide +kernel, by decide +kernel⟩
theorem cw_92 : Cond.code (mNm mm92) (mCc mm92) (mNl mm92) (mRt mm92) ∈ mTb ∧ Cond.initialized (mNm mm92).cls ∈ mTb ∧ ((mNm mm92).cls ≠ "java/lang/invoke/MethodHandle" ∧ (mNm mm92).cls ≠ "java/lang/invoke/VarHandle" ∧ (parseMethodDescriptor (mNm mm92).desc).map (fun d => d.parameters.length) = some 2) := ⟨tb_709, tb_14, by decide +kernel, by decide +kernel, by decide +kernel⟩
theorem cw_93 : Cond.code (mNm mm93) (mCc mm93) (mNl mm93) (mRt mm93) ∈ mTb ∧ Cond.initialized (mNm mm93).cls ∈ mTb ∧ ((mNm mm93).cls ≠ "java/lang/invoke/MethodHandle" ∧ (mNm mm93).cls ≠ "java/lang/invoke/VarHandle" ∧ (parseMethodDescriptor (mNm mm93).desc).map (fun d => d.parameters.length) = some 5) := ⟨tb_713, tb_14, by decide +kernel, by decide +kernel, by decide +kernel⟩
theorem cw_94 : Cond.code (mNm mm94) (mCc mm94) (mNl mm94) (mRt mm94) ∈ mTb ∧ Cond.initialized (mNm mm94).cls ∈ mTb ∧ ((mNm mm94).cls ≠ "java/lang/invoke/MethodHandle" ∧ (mNm mm94).cls ≠ "java/lang/invoke/VarHandle" ∧ (parseMethodDescriptor (mNm mm94).desc).map (fun d => d.parameters.length) = some 4) := ⟨tb_717, tb_14, by decide +kernel, by decide +kernel, by decide +kernel⟩
theorem cw_95 : Cond.code (mNm mm95) (mCc mm95) (mNl mm95) (mRt mm95) ∈ mTb ∧ Cond.initialized (mNm mm95).cls ∈ mTb ∧ ((mNm mm95).cls ≠ "java/lang/invoke/MethodHandle" ∧ (mNm mm95).cls ≠ "java/lang/invoke/VarHandle" ∧ (parseMethodDescriptor (mNm mm95).desc).map (fun d => d.parameters.length) = some 1) := ⟨tb_721, tb_14, by decide +kernel, by decide +kernel, by decide +kernel⟩
theorem cw_96 : Cond.code (mNm mm96) (mCc mm96) (mNl mm96) (mRt mm96) ∈ mTb ∧ Cond.initialized (mNm mm96).cls ∈ mTb ∧ ((mNm mm96).cls ≠ "java/lang/invoke/MethodHandle" ∧ (mNm mm96).cls ≠ "java/lang/invoke/VarHandle" ∧ (parseMethodDescriptor (mNm mm96).desc).map (fun d => d.parameters.length) = some 1) := ⟨tb_886, tb_14, by decide +kernel, by decide +kernel, by decide +kernel⟩
theorem cw_97 : Cond.code (mNm mm97) (mCc mm97) (mNl mm97) (mRt mm97) ∈ mTb ∧ Cond.initialized (mNm mm97).cls ∈ mTb ∧ ((mNm mm97).cls ≠ "java/lang/invoke/MethodHandle" ∧ (mNm mm97).cls ≠ "java/lang/invoke/VarHandle" ∧ (parseMethodDescriptor (mNm mm97).desc).map (fun d => d.parameters.length) = some 3) := ⟨tb_890, tb_14, by decide +kernel, by decide +kernel, by decide +kernel⟩
theorem cw_98 : Cond.code (mNm mm98) (mCc mm98) (mNl mm98) (mRt mm98) ∈ mTb ∧ Cond.initialized (mNm mm98).cls ∈ mTb ∧ ((mNm mm98).cls ≠ "java/lang/invoke/MethodHandle" ∧ (mNm mm98).cls ≠ "java/lang/invoke/VarHandle" ∧ (parseMethodDescriptor (mNm mm98).desc).map (fun d => d.parameters.length) = some 0) := ⟨tb_894, tb_14, by decide +kernel, by decide +kernel, by decide +kernel⟩
theorem cw_99 : Cond.code (mNm mm99) (mCc mm99) (mNl mm99) (mRt mm99) ∈ mTb ∧ Cond.initialized (mNm mm99).cls ∈ mTb ∧ ((mNm mm99).cls ≠ "java/lang/invoke/MethodHandle" ∧ (mNm mm99).cls ≠ "java/lang/invoke/VarHandle" ∧ (parseMethodDescriptor (mNm mm99).desc).map (fun d => d.parameters.length) = some 2) := ⟨tb_898, tb_14, by decide +kernel, by decide +kernel, by decide +kernel⟩
theorem cw_100 : Cond.code (mNm mm100) (mCc mm100) (mNl mm100) (mRt mm100) ∈ mTb ∧ Cond.initialized (mNm mm100).cls ∈ mTb ∧ ((mNm mm100).cls ≠ "java/lang/invoke/MethodHandle" ∧ (mNm mm100).cls ≠ "java/lang/invoke/VarHandle" ∧ (parseMethodDescriptor (mNm mm100).desc).map (fun d => d.parameters.length) = some 2) := ⟨tb_902, tb_14, by decide +kernel, by decide +kernel, by decide +kernel⟩
theorem cw_101 : Cond.code (mNm mm101) (mCc mm101) (mNl mm101) (mRt mm101) ∈ mTb ∧ Cond.initialized (mNm mm101).cls ∈ mTb ∧ ((mNm mm101).cls ≠ "java/lang/invoke/MethodHandle" ∧ (mNm mm101).cls ≠ "java/lang/invoke/VarHandle" ∧ (parseMethodDescriptor (mNm mm101).desc).map (fun d => d.parameters.length) = some 4) := ⟨tb_906, tb_14, by decide +kernel, by decide +kernel, by decide +kernel⟩
theorem cw_102 : Cond.code (mNm mm102) (mCc mm102) (mNl mm102) (mRt mm102) ∈ mTb ∧ Cond.initialized (mNm mm102).cls ∈ mTb ∧ ((mNm mm102).cls ≠ "java/lang/invoke/MethodHandle" ∧ (mNm mm102).cls ≠ "java/lang/invoke/VarHandle" ∧ (parseMethodDescriptor (mNm mm102).desc).map (fun d => d.parameters.length) = some 8) := ⟨tb_910, tb_14, by decide +kernel, by decide +kernel, by decide +kernel⟩
theorem cw_103 : Cond.code (mNm mm103) (mCc mm103) (mNl mm103) (mRt mm103) ∈ mTb ∧ Cond.initialized (mNm mm103).cls ∈ mTb ∧ ((mNm mm103).cls ≠ "java/lang/invoke/MethodHandle" ∧ (mNm mm103).cls ≠ "java/lang/invoke/VarHandle" ∧ (parseMethodDescriptor (mNm mm103).desc).map (fun d => d.parameters.length) = some 5) := ⟨tb_914, tb_14, by decide +kernel, by decide +kernel, by decide +kernel⟩
theorem cw_104 : Cond.code (mNm mm104) (mCc mm104) (mNl mm104) (mRt mm104) ∈ mTb ∧ Cond.initialized (mNm mm104).cls ∈ mTb ∧ ((mNm mm104).cls ≠ "java/lang/invoke/MethodHandle" ∧ (mNm mm104).cls ≠ "java/lang/invoke/VarHandle" ∧ (parseMethodDescriptor (mNm mm104).desc).map (fun d => d.parameters.length) = some 2) := ⟨tb_917, tb_14, by decide +kernel, by decide +kernel, by decide +kernel⟩
theorem cw_105 : Cond.code (mNm mm105) (mCc mm105) (mNl mm105) (mRt mm105) ∈ mTb ∧ Cond.initialized (mNm mm105).cls ∈ mTb ∧ ((mNm mm105).cls ≠ "java/lang/invoke/MethodHandle" ∧ (mNm mm105).cls ≠ "java/lang/invoke/VarHandle" ∧ (parseMethodDescriptor (mNm mm105).desc).map (fun d => d.parameters.length) = some 7) := ⟨tb_921, tb_14, by decide +kernel, by decide +kernel, by decide +kernel⟩
theorem cw_106 : Cond.code (mNm mm106) (mCc mm106) (mNl mm106) (mRt mm106) ∈ mTb ∧ Cond.initialized (mNm mm106).cls ∈ mTb ∧ ((mNm mm106).cls ≠ "java/lang/invoke/MethodHandle" ∧ (mNm mm106).cls ≠ "java/lang/invoke/VarHandle" ∧ (parseMethodDescriptor (mNm mm106).desc).map (fun d => d.parameters.length) = some 5) := ⟨tb_925, tb_14, by decide +kernel, by decide +kernel, by decide +kernel⟩
theorem cw_107 : Cond.code (mNm mm107) (mCc mm107) (mNl mm107) (mRt mm107) ∈ mTb ∧ Cond.initialized (mNm mm107).cls ∈ mTb ∧ ((mNm mm107).cls ≠ "java/lang/invoke/MethodHandle" ∧ (mNm mm107).cls ≠ "java/lang/invoke/VarHandle" ∧ (parseMethodDescriptor (mNm mm107).desc).map (fun d => d.parameters.length) = some 4) := ⟨tb_929, tb_14, by decide +kernel, by decide +kernel, by decide +kernel⟩
theorem cw_108 : Cond.code (mNm mm108) (mCc mm108) (mNl mm108) (mRt mm108) ∈ mTb ∧ Cond.initialized (mNm mm108).cls ∈ mTb ∧ ((mNm mm108).cls ≠ "java/lang/invoke/MethodHandle" ∧ (mNm mm108).cls ≠ "java/lang/invoke/VarHandle" ∧ (parseMethodDescriptor (mNm mm108).desc).map (fun d => d.parameters.length) = some 2) := ⟨tb_933, tb_14, by decide +kernel, by decide +kernel, by decide +kernel⟩
theorem cw_109 : Cond.code (mNm mm109) (mCc mm109) (mNl mm109) (mRt mm109) ∈ mTb ∧ Cond.initialized (mNm mm109).cls ∈ mTb ∧ ((mNm mm109).cls ≠ "java/lang/invoke/MethodHandle" ∧ (mNm mm109).cls ≠ "java/lang/invoke/VarHandle" ∧ (parseMethodDescriptor (mNm mm109).desc).map (fun d => d.parameters.length) = some 9) := ⟨tb_937, tb_14, by decide +kernel, by decide +kernel, by decide +kernel⟩
theorem cw_110 : Cond.code (mNm mm110) (mCc mm110) (mNl mm110) (mRt mm110) ∈ mTb ∧ Cond.initialized (mNm mm110).cls ∈ mTb ∧ ((mNm mm110).cls ≠ "java/lang/invoke/MethodHandle" ∧ (mNm mm110).cls ≠ "java/lang/invoke/VarHandle" ∧ (parseMethodDescriptor (mNm mm110).desc).map (fun d => d.parameters.length) = some 3) := ⟨tb_941, tb_14, by decide +kernel, by decide +kernel, by decide +kernel⟩
theorem cw_111 : Cond.code (mNm mm111) (mCc mm111) (mNl mm111) (mRt mm111) ∈ mTb ∧ Cond.initialized (mNm mm111).cls ∈ mTb ∧ ((mNm mm111).cls ≠ "java/lang/invoke/MethodHandle" ∧ (mNm mm111).cls ≠ "java/lang/invoke/VarHandle" ∧ (parseMethodDescriptor (mNm mm111).desc).map (fun d => d.parameters.length) = some 1) := ⟨tb_948, tb_14, by decide +kernel, by decide +kernel, by decide +kernel⟩
theorem cw_112 : Cond.code (mNm mm112) (mCc mm112) (mNl mm112) (mRt mm112) ∈ mTb ∧ Cond.initialized (mNm mm112).cls ∈ mTb ∧ ((mNm mm112).cls ≠ "java/lang/invoke/MethodHandle" ∧ (mNm mm112).cls ≠ "java/lang/invoke/VarHandle" ∧ (parseMethodDescriptor (mNm mm112).desc).map (fun d => d.parameters.length) = some 1) := ⟨tb_952, tb_14, by decide +kernel, by decide +kernel, by decide +kernel⟩
theorem cw_113 : Cond.code (mNm mm113) (mCc mm113) (mNl mm113) (mRt mm113) ∈ mTb ∧ Cond.initialized (mNm mm113).cls ∈ mTb ∧ ((mNm mm113).cls ≠ "java/lang/invoke/MethodHandle" ∧ (mNm mm113).cls ≠ "java/lang/invoke/VarHandle" ∧ (parseMethodDescriptor (mNm mm113).desc).map (fun d => d.parameters.length) = some 2) := ⟨tb_956, tb_14, by decide +kernel, by decide +kernel, by decide +kernel⟩
theorem cw_114 : Cond.code (mNm mm114) (mCc mm114) (mNl mm114) (mRt mm114) ∈ mTb ∧ Cond.initialized (mNm mm114).cls ∈ mTb ∧ ((mNm mm114).cls ≠ "java/lang/invoke/MethodHandle" ∧ (mNm mm114).cls ≠ "java/lang/invoke/VarHandle" ∧ (parseMethodDescriptor (mNm mm114).desc).map (fun d => d.parameters.length) = some 4) := ⟨tb_960, tb_14, by decide +kernel, by decide +kernel, by decide +kernel⟩
theorem cw_115 : Cond.code (mNm mm115) (mCc mm115) (mNl mm115) (mRt mm115) ∈ mTb ∧ Cond.initialized (mNm mm115).cls ∈ mTb ∧ ((mNm mm115).cls ≠ "java/lang/invoke/MethodHandle" ∧ (mNm mm115).cls ≠ "java/lang/invoke/VarHandle" ∧ (parseMethodDescriptor (mNm mm115).desc).map (fun d => d.parameters.length) = some 4) := ⟨tb_964, tb_14, by decide +kernel, by decide +kernel, by decide +kernel⟩
theorem cw_116 : Cond.code (mNm mm116) (mCc mm116) (mNl mm116) (mRt mm116) ∈ mTb ∧ Cond.initialized (mNm mm116).cls ∈ mTb ∧ ((mNm mm116).cls ≠ "java/lang/invoke/MethodHandle" ∧ (mNm mm116).cls ≠ "java/lang/invoke/VarHandle" ∧ (parseMethodDescriptor (mNm mm116).desc).map (fun d => d.parameters.length) = some 2) := ⟨tb_968, tb_14, by decide +kernel, by decide +kernel, by decide +kernel⟩
theorem cw_117 : Cond.code (mNm mm117) (mCc mm117) (mNl mm117) (mRt mm117) ∈ mTb ∧ Cond.initialized (mNm mm117).cls ∈ mTb ∧ ((mNm mm117).cls ≠ "java/lang/invoke/MethodHandle" ∧ (mNm mm117).cls ≠ "java/lang/invoke/VarHandle" ∧ (parseMethodDescriptor (mNm mm117).desc).map (fun d => d.parameters.length) = some 1) := ⟨tb_974, tb_14, by decide +kernel, by decide +kernel, by decide +kernel⟩
theorem cw_118 : Cond.code (mNm mm118) (mCc mm118) (mNl mm118) (mRt mm118) ∈ mTb ∧ Cond.initialized (mNm mm118).cls ∈ mTb ∧ ((mNm mm118).cls ≠ "java/lang/invoke/MethodHandle" ∧ (mNm mm118).cls ≠ "java/lang/invoke/VarHandle" ∧ (parseMethodDescriptor (mNm mm118).desc).map (fun d => d.parameters.length) = some 1) := ⟨tb_978, tb_14, by decide +kernel, by decide +kernel, by decide +kernel⟩
theorem cw_119 : Cond.code (mNm mm119) (mCc mm119) (mNl mm119) (mRt mm119) ∈ mTb ∧ Cond.initialized (mNm mm119).cls ∈ mTb ∧ ((mNm mm119).cls ≠ "java/lang/invoke/MethodHandle" ∧ (mNm mm119).cls ≠ "java/lang/invoke/VarHandle" ∧ (parseMethodDescriptor (mNm mm119).desc).map (fun d => d.parameters.length) = some 1) := ⟨tb_982, tb_14, by decide +kernel, by decide +kernel, by decide +kernel⟩
theorem cw_120 : Cond.code (mNm mm120) (mCc mm120) (mNl mm120) (mRt mm120) ∈ mTb ∧ Cond.initialized (mNm mm120).cls ∈ mTb ∧ ((mNm mm120).cls ≠ "java/lang/invoke/MethodHandle" ∧ (mNm mm120).cls ≠ "java/lang/invoke/VarHandle" ∧ (parseMethodDescriptor (mNm mm120).desc).map (fun d => d.parameters.length) = some 1) := ⟨tb_986, tb_14, by decide +kernel, by decide +kernel, by decide +kernel⟩
theorem cw_121 : Cond.code (mNm mm121) (mCc mm121) (mNl mm121) (mRt mm121) ∈ mTb ∧ Cond.initialized (mNm mm121).cls ∈ mTb ∧ ((mNm mm121).cls ≠ "java/lang/invoke/MethodHandle" ∧ (mNm mm121).cls ≠ "java/lang/invoke/VarHandle" ∧ (parseMethodDescriptor (mNm mm121).desc).map (fun d => d.parameters.length) = some 2) := ⟨tb_990, tb_14, by decide +kernel, by decide +kernel, by decide +kernel⟩
theorem cw_122 : Cond.code (mNm mm122) (mCc mm122) (mNl mm122) (mRt mm122) ∈ mTb ∧ Cond.initialized (mNm mm122).cls ∈ mTb ∧ ((mNm mm122).cls ≠ "java/lang/invoke/MethodHandle" ∧ (mNm mm122).cls ≠ "java/lang/invoke/VarHandle" ∧ (parseMethodDescriptor (mNm mm122).desc).map (fun d => d.parameters.length) = some 1) := ⟨tb_994, tb_14, by decide +kernel, by decide +kernel, by decide +kernel⟩
theorem cw_123 : Cond.code (mNm mm123) (mCc mm123) (mNl mm123) (mRt mm123) ∈ mTb ∧ Cond.initialized (mNm mm123).cls ∈ mTb ∧ ((mNm mm123).cls ≠ "java/lang/invoke/MethodHandle" ∧ (mNm mm123).cls ≠ "java/lang/invoke/VarHandle" ∧ (parseMethodDescriptor (mNm mm123).desc).map (fun d => d.parameters.length) = some 1) := ⟨tb_998, tb_14, by decide +kernel, by decide +kernel, by decide +kernel⟩
theorem cw_124 : Cond.code (mNm mm124) (mCc mm124) (mNl mm124) (mRt mm124) ∈ mTb ∧ Cond.initialized (mNm mm124).cls ∈ mTb ∧ ((mNm mm124).cls ≠ "java/lang/invoke/MethodHandle" ∧ (mNm mm124).cls ≠ "java/lang/invoke/VarHandle" ∧ (parseMethodDescriptor (mNm mm124).desc).map (fun d => d.parameters.length) = some 1) := ⟨tb_1002, tb_14, by decide +kernel, by decide +kernel, by decide +kernel⟩
theorem cw_125 : Cond.code (mNm mm125) (mCc mm125) (mNl mm125) (mRt mm125) ∈ mTb ∧ Cond.initialized (mNm mm125).cls ∈ mTb ∧ ((mNm mm125).cls ≠ "java/lang/invoke/MethodHandle" ∧ (mNm mm125).cls ≠ "java/lang/invoke/VarHandle" ∧ (parseMethodDescriptor (mNm mm125).desc).map (fun d => d.parameters.length) = some 1) := ⟨tb_1006, tb_14, by decide +kernel, by decide +kernel, by decide +kernel⟩
theorem cw_126 : Cond.code (mNm mm126) (mCc mm126) (mNl mm126) (mRt mm126) ∈ mTb ∧ Cond.initialized (mNm mm126).cls ∈ mTb ∧ ((mNm mm126).cls ≠ "java/lang/invoke/MethodHandle" ∧ (mNm mm126).cls ≠ "java/lang/invoke/VarHandle" ∧ (parseMethodDescriptor (mNm mm126).desc).map (fun d => d.parameters.length) = some 1) := ⟨tb_1010, tb_14, by decide +kernel, by decide +kernel, by decide +kernel⟩
theorem cw_127 : Cond.code (mNm mm127) (mCc mm127) (mNl mm127) (mRt mm127) ∈ mTb ∧ Cond.initialized (mNm mm127).cls ∈ mTb ∧ ((mNm mm127).cls ≠ "java/lang/invoke/MethodHandle" ∧ (mNm mm127).cls ≠ "java/lang/invoke/VarHandle" ∧ (parseMethodDescriptor (mNm mm127).desc).map (fun d => d.parameters.length) = some 2) := ⟨tb_1014, tb_14, by decide +kernel, by decide +kernel, by decide +kernel⟩
theorem cw_128 : Cond.code (mNm mm128) (mCc mm128) (mNl mm128) (mRt mm128) ∈ mTb ∧ Cond.initialized (mNm mm128).cls ∈ mTb ∧ ((mNm mm128).cls ≠ "java/lang/invoke/MethodHandle" ∧ (mNm mm128).cls ≠ "java/lang/invoke/VarHandle" ∧ (parseMethodDescriptor (mNm mm128).desc).map (fun d => d.parameters.length) = some 2) := ⟨tb_1018, tb_14, by decide +kernel, by decide +kernel, by decide +kernel⟩
theorem cw_129 : Cond.code (mNm mm129) (mCc mm129) (mNl mm129) (mRt mm129) ∈ mTb ∧ Cond.initialized (mNm mm129).cls ∈ mTb ∧ ((mNm mm129).cls ≠ "java/lang/invoke/MethodHandle" ∧ (mNm mm129).cls ≠ "java/lang/invoke/VarHandle" ∧ (parseMethodDescriptor (mNm mm129).desc).map (fun d => d.parameters.length) = some 0) := ⟨tb_1022, tb_14, by decide +kernel, by decide +kernel, by decide +kernel⟩
theorem cw_130 : Cond.code (mNm mm130) (mCc mm130) (mNl mm130) (mRt mm130) ∈ mTb ∧ Cond.initialized (mNm mm130).cls ∈ mTb ∧ ((mNm mm130).cls ≠ "java/lang/invoke/MethodHandle" ∧ (mNm mm130).cls ≠ "java/lang/invoke/VarHandle" ∧ (parseMethodDescriptor (mNm mm130).desc).map (fun d => d.parameters.length) = some 2) := ⟨tb_1026, tb_14, by decide +kernel, by decide +kernel, by decide +kernel⟩
theorem cw_131 : Cond.code (mNm mm131) (mCc mm131) (mNl mm131) (mRt mm131) ∈ mTb ∧ Cond.initialized (mNm mm131).cls ∈ mTb ∧ ((mNm mm131).cls ≠ "java/lang/invoke/MethodHandle" ∧ (mNm mm131).cls ≠ "java/lang/invoke/VarHandle" ∧ (parseMethodDescriptor (mNm mm131).desc).map (fun d => d.parameters.length) = some 1) := ⟨tb_1030, tb_14, by decide +kernel, by decide +kernel, by decide +kernel⟩
theorem cw_132 : Cond.code (mNm mm132) (mCc mm132) (mNl mm132) (mRt mm132) ∈ mTb ∧ Cond.initialized (mNm mm132).cls ∈ mTb ∧ ((mNm mm132).cls ≠ "java/lang/invoke/MethodHandle" ∧ (mNm mm132).cls ≠ "java/lang/invoke/VarHandle" ∧ (parseMethodDescriptor (mNm mm132).desc).map (fun d => d.parameters.length) = some 2) := ⟨tb_1035, tb_14, by decide +kernel, by decide +kernel, by decide +kernel⟩
theorem cw_133 : Cond.code (mNm mm133) (mCc mm133) (mNl mm133) (mRt mm133) ∈ mTb ∧ Cond.initialized (mNm mm133).cls ∈ mTb ∧ ((mNm mm133).cls ≠ "java/lang/invoke/MethodHandle" ∧ (mNm mm133).cls ≠ "java/lang/invoke/VarHandle" ∧ (parseMethodDescriptor (mNm mm133).desc).map (fun d => d.parameters.length) = some 3) := ⟨tb_1040, tb_14, by decide +kernel, by decide +kernel, by decide +kernel⟩
theorem cw_134 : Cond.code (mNm mm134) (mCc mm134) (mNl mm134) (mRt mm134) ∈ mTb ∧ Cond.initialized (mNm mm134).cls ∈ mTb ∧ ((mNm mm134).cls ≠ "java/lang/invoke/MethodHandle" ∧ (mNm mm134).cls ≠ "java/lang/invoke/VarHandle" ∧ (parseMethodDescriptor (mNm mm134).desc).map (fun d => d.parameters.length) = some 2) := ⟨tb_1045, tb_14, by decide +kernel, by decide +kernel, by decide +kernel⟩
theorem cw_135 : Cond.code (mNm mm135) (mCc mm135) (mNl mm135) (mRt mm135) ∈ mTb ∧ Cond.initialized (mNm mm135).cls ∈ mTb ∧ ((mNm mm135).cls ≠ "java/lang/invoke/MethodHandle" ∧ (mNm mm135).cls ≠ "java/lang/invoke/VarHandle" ∧ (parseMethodDescriptor (mNm mm135).desc).map (fun d => d.parameters.length) = some 2) := ⟨tb_1049, tb_14, by decide +kernel, by decide +kernel, by decide +kernel⟩
theorem cw_136 : Cond.code (mNm mm136) (mCc mm136) (mNl mm136) (mRt mm136) ∈ mTb ∧ Cond.initialized (mNm mm136).cls ∈ mTb ∧ ((mNm mm136).cls ≠ "java/lang/invoke/MethodHandle" ∧ (mNm mm136).cls ≠ "java/lang/invoke/VarHandle" ∧ (parseMethodDescriptor (mNm mm136).desc).map (fun d => d.parameters.length) = some 1) := ⟨tb_1054, tb_14, by decide +kernel, by decide +kernel, by decide +kernel⟩
theorem cw_137 : Cond.code (mNm mm137) (mCc mm137) (mNl mm137) (mRt mm137) ∈ mTb ∧ Cond.initialized (mNm mm137).cls ∈ mTb ∧ ((mNm mm137).cls ≠ "java/lang/invoke/MethodHandle" ∧ (mNm mm137).cls ≠ "java/lang/invoke/VarHandle" ∧ (parseMethodDescriptor (mNm mm137).desc).map (fun d => d.parameters.length) = some 2) := ⟨tb_1058, tb_14, by decide +kernel, by decide +kernel, by decide +kernel⟩
theorem cw_138 : Cond.code (mNm mm138) (mCc mm138) (mNl mm138) (mRt mm138) ∈ mTb ∧ Cond.initialized (mNm mm138).cls ∈ mTb ∧ ((mNm mm138).cls ≠ "java/lang/invoke/MethodHandle" ∧ (mNm mm138).cls ≠ "java/lang/invoke/VarHandle" ∧ (parseMethodDescriptor (mNm mm138).desc).map (fun d => d.parameters.length) = some 4) := ⟨tb_1063, tb_14, by decide +kernel, by decide +kernel, by decide +kernel⟩
theorem cw_139 : Cond.code (mNm mm139) (mCc mm139) (mNl mm139) (mRt mm139) ∈ mTb ∧ Cond.initialized (mNm mm139).cls ∈ mTb ∧ ((mNm mm139).cls ≠ "java/lang/invoke/MethodHandle" ∧ (mNm mm139).cls ≠ "java/lang/invoke/VarHandle" ∧ (parseMethodDescriptor (mNm mm139).desc).map (fun d => d.parameters.length) = some 3) := ⟨tb_1068, tb_14, by decide +kernel, by decide +kernel, by decide +kernel⟩
theorem cw_140 : Cond.code (mNm mm140) (mCc mm140) (mNl mm140) (mRt mm140) ∈ mTb ∧ Cond.initialized (mNm mm140).cls ∈ mTb ∧ ((mNm mm140).cls ≠ "java/lang/invoke/MethodHandle" ∧ (mNm mm140).cls ≠ "java/lang/invoke/VarHandle" ∧ (parseMethodDescriptor (mNm mm140).desc).map (fun d => d.parameters.length) = some 1) := ⟨tb_1073, tb_14, by decide +kernel, by decide +kernel, by decide +kernel⟩
theorem cw_141 : Cond.code (mNm mm141) (mCc mm141) (mNl mm141) (mRt mm141) ∈ mTb ∧ Cond.initialized (mNm mm141).cls ∈ mTb ∧ ((mNm mm141).cls ≠ "java/lang/invoke/MethodHandle" ∧ (mNm mm141).cls ≠ "java/lang/invoke/VarHandle" ∧ (parseMethodDescriptor (mNm mm141).desc).map (fun d => d.parameters.length) = some 2) := ⟨tb_1077, tb_14, by decide +kernel, by decide +kernel, by decide +kernel⟩
theorem cw_142 : Cond.code (mNm mm142) (mCc mm142) (mNl mm142) (mRt mm142) ∈ mTb ∧ Cond.initialized (mNm mm142).cls ∈ mTb ∧ ((mNm mm142).cls ≠ "java/lang/invoke/MethodHandle" ∧ (mNm mm142).cls ≠ "java/lang/invoke/VarHandle" ∧ (parseMethodDescriptor (mNm mm142).desc).map (fun d => d.parameters.length) = some 1) := ⟨tb_1081, tb_14, by decide +kernel, by decide +kernel, by decide +kernel⟩
theorem cw_143 : Cond.code (mNm mm143) (mCc mm143) (mNl mm143) (mRt mm143) ∈ mTb ∧ Cond.initialized (mNm mm143).cls ∈ mTb ∧ ((mNm mm143).cls ≠ "java/lang/invoke/MethodHandle" ∧ (mNm mm143).cls ≠ "java/lang/invoke/VarHandle" ∧ (parseMethodDescriptor (mNm mm143).desc).map (fun d => d.parameters.length) = some 1) := ⟨tb_1085, tb_14, by decide +kernel, by decide +kernel, by decide +kernel⟩
theorem cw_144 : Cond.code (mNm mm144) (mCc mm144) (mNl mm144) (mRt mm144) ∈ mTb ∧ Cond.initialized (mNm mm144).cls ∈ mTb ∧ ((mNm mm144).cls ≠ "java/lang/invoke/MethodHandle" ∧ (mNm mm144).cls ≠ "java/lang/invoke/VarHandle" ∧ (parseMethodDescriptor (mNm mm144).desc).map (fun d => d.parameters.length) = some 2) := ⟨tb_1089, tb_14, by decide +kernel, by decide +kernel, by decide +kernel⟩
theorem cw_145 : Cond.code (mNm mm145) (mCc mm145) (mNl mm145) (mRt mm145) ∈ mTb ∧ Cond.initialized (mNm mm145).cls ∈ mTb ∧ ((mNm mm145).cls ≠ "java/lang/invoke/MethodHandle" ∧ (mNm mm145).cls ≠ "java/lang/invoke/VarHandle" ∧ (parseMethodDescriptor (mNm mm145).desc).map (fun d => d.parameters.length) = some 2) := ⟨tb_698, tb_0, by decide +kernel, by decide +kernel, by decide +kernel⟩
end
section
/-! ===== code tables and their soundness, 1 ===== -/
section MCode
variable {g : mG} {lau : Launch}
-- java/util/Arrays.fill([II)V
theorem sd0_0 : mSnd g lau mt mm0 0 (o_ic 1 0) := s_iconst (n := 0) (by decide +kernel) rfl
theorem sd0_1 : mSnd g lau mt mm0 1 (o_ist 2 2) := s_istore_n (j := 2) (by decide +kernel) rfl
theorem sd0_2 : mSnd g lau mt mm0 2 (o_al 3 0) := s_aload_n (j := 0) (by decide +kernel) rfl
theorem sd0_3 : mSnd g lau mt mm0 3 (o_aln 4) := s_alen (by decide +kernel)
theorem sd0_4 : mSnd g lau mt mm0 4 (o_ist 5 3) := s_istore_n (j := 3) (by decide +kernel) rfl
theorem sd0_5 : mSnd g lau mt mm0 5 (o_il 6 2) := s_iload_n (j := 2) (by decide +kernel) rfl
theorem sd0_6 : mSnd g lau mt mm0 6 (o_il 7 3) := s_iload_n (j := 3) (by decide +kernel) rfl
theorem sd0_7 : mSnd g lau mt mm0 7 (o_ge 10 20) := s_icmp_ge (off := 13) (by decide +kernel) rfl
theorem sd0_10 : mSnd g lau mt mm0 10 (o_al 11 0) := s_aload_n (j := 0) (by decide +kernel) rfl
theorem sd0_11 : mSnd g lau mt mm0 11 (o_il 12 2) := s_iload_n (j := 2) (by decide +kernel) rfl
theorem sd0_12 : mSnd g lau mt mm0 12 (o_il 13 1) := s_iload_n (j := 1) (by decide +kernel) rfl
theorem sd0_13 : mSnd g lau mt mm0 13 (o_ias 14) := s_iast (by decide +kernel)
theorem sd0_14 : mSnd g lau mt mm0 14 (o_inc 17 2 1) := s_iinc (n := 1) (by decide +kernel) rfl
theorem sd0_17 : mSnd g lau mt mm0 17 (o_goto 5) := s_goto (off := (-12)) (by decide +kernel) rfl
theorem sd0_20 : mSnd g lau mt mm0 20 (o_rv) := s_rv (by decide +kernel) rfl
def op0 : Nat → mOp := fun pc => bif Nat.blt pc 7 then (bif Nat.blt pc 3 then (bif Nat.blt pc 1 then (bif Nat.beq pc 0 then o_ic 1 0 else o_no) else (bif Nat.blt pc 2 then (bif Nat.beq pc 1 then o_ist 2 2 else o_no) else (bif Nat.beq pc 2 then o_al 3 0 else o_no))) else (bif Nat.blt pc 5 then (bif Nat.blt pc 4 then (bif Nat.beq pc 3 then o_aln 4 else o_no) else (bif Nat.beq pc 4 then o_ist 5 3 else o_no)) else (bif Nat.blt pc 6 then (bif Nat.beq pc 5 then o_il 6 2 else o_no) else (bif Nat.beq pc 6 then o_il 7 3 else o_no)))) else (bif Nat.blt pc 13 then (bif Nat.blt pc 11 then (bif Nat.blt pc 10 then (bif Nat.beq pc 7 then o_ge 10 20 else o_no) else (bif Nat.beq pc 10 then o_al 11 0 else o_no)) else (bif Nat.blt pc 12 then (bif Nat.beq pc 11 then o_il 12 2 else o_no) else (bif Nat.beq pc 12 then o_il 13 1 else o_no))) else (bif Nat.blt pc 17 then (bif Nat.blt pc 14 then (bif Nat.beq pc 13 then o_ias 14 else o_no) else (bif Nat.beq pc 14 then o_inc 17 2 1 else o_no)) else (bif Nat.blt pc 20 then (bif Nat.beq pc 17 then o_goto 5 else o_no) else (bif Nat.beq pc 20 then o_rv else o_no))))
theorem sn0 (pc : Nat) : mSnd g lau mt mm0 pc (op0 pc) := s_bif (s_bif (s_bif (s_leaf sd0_0) (s_bif (s_leaf sd0_1) (s_leaf sd0_2))) (s_bif (s_bif (s_leaf sd0_3) (s_leaf sd0_4)) (s_bif (s_leaf sd0_5) (s_leaf sd0_6)))) (s_bif (s_bif (s_bif (s_leaf sd0_7) (s_leaf sd0_10)) (s_bif (s_leaf sd0_11) (s_leaf sd0_12))) (s_bif (s_bif (s_leaf sd0_13) (s_leaf sd0_14)) (s_bif (s_leaf sd0_17) (s_leaf sd0_20))))
-- RoundVotes$Choice.<init>()V
theorem sd1_0 : mSnd g lau mt mm1 0 (o_al 1 0) := s_aload_n (j := 0) (by decide +kernel) rfl
theorem sd1_1 : mSnd g lau mt mm1 1 (o_obj 4) := s_obj (idx := 3) tb_128 tb_21 tb_22 (by decide) (by decide) (by decide +kernel)
theorem sd1_4 : mSnd g lau mt mm1 4 (o_al 5 0) := s_aload_n (j := 0) (by decide +kernel) rfl
theorem sd1_5 : mSnd g lau mt mm1 5 (o_ic 6 0) := s_iconst (n := 0) (by decide +kernel) rfl
theorem sd1_6 : mSnd g lau mt mm1 6 (o_pI 9 2 0) := s_putI (ci := 1) (f := 0) (idx := 9) (C := RX1) (T := TX1) (N := 2) (by decide) rfl inX1 (by decide) tyX1 tyX1_ok nmX1 (Or.inl rfl) tb_129 (by decide +kernel) (fun _ _ _ => rfl) rfl
theorem sd1_9 : mSnd g lau mt mm1 9 (o_al 10 0) := s_aload_n (j := 0) (by decide +kernel) rfl
theorem sd1_10 : mSnd g lau mt mm1 10 (o_ic 11 (-1)) := s_iconst (n := (-1)) (by decide +kernel) rfl
theorem sd1_11 : mSnd g lau mt mm1 11 (o_pI 14 2 1) := s_putI (ci := 1) (f := 1) (idx := 15) (C := RX1) (T := TX1) (N := 2) (by decide) rfl inX1 (by decide) tyX1 tyX1_ok nmX1 (Or.inl rfl) tb_132 (by decide +kernel) (fun _ _ _ => rfl) rfl
theorem sd1_14 : mSnd g lau mt mm1 14 (o_rv) := s_rv (by decide +kernel) rfl
def op1 : Nat → mOp := fun pc => bif Nat.blt pc 6 then (bif Nat.blt pc 4 then (bif Nat.blt pc 1 then (bif Nat.beq pc 0 then o_al 1 0 else o_no) else (bif Nat.beq pc 1 then o_obj 4 else o_no)) else (bif Nat.blt pc 5 then (bif Nat.beq pc 4 then o_al 5 0 else o_no) else (bif Nat.beq pc 5 then o_ic 6 0 else o_no))) else (bif Nat.blt pc 10 then (bif Nat.blt pc 9 then (bif Nat.beq pc 6 then o_pI 9 2 0 else o_no) else (bif Nat.beq pc 9 then o_al 10 0 else o_no)) else (bif Nat.blt pc 11 then (bif Nat.beq pc 10 then o_ic 11 (-1) else o_no) else (bif Nat.blt pc 14 then (bif Nat.beq pc 11 then o_pI 14 2 1 else o_no) else (bif Nat.beq pc 14 then o_rv else o_no))))
theorem sn1 (pc : Nat) : mSnd g lau mt mm1 pc (op1 pc) := s_bif (s_bif (s_bif (s_leaf sd1_0) (s_leaf sd1_1)) (s_bif (s_leaf sd1_4) (s_leaf sd1_5))) (s_bif (s_bif (s_leaf sd1_6) (s_leaf sd1_9)) (s_bif (s_leaf sd1_10) (s_bif (s_leaf sd1_11) (s_leaf sd1_14))))
-- RoundVotes$Choice.isNone()Z
theorem sd2_0 : mSnd g lau mt mm2 0 (o_al 1 0) := s_aload_n (j := 0) (by decide +kernel) rfl
theorem sd2_1 : mSnd g lau mt mm2 1 (o_gI 4 2 0) := s_getI (ci := 1) (f := 0) (idx := 9) (C := RX1) (T := TX1) (N := 2) (by decide) rfl inX1 (by decide) (fun _ _ _ => rfl) tb_129 (by decide +kernel)
theorem sd2_4 : mSnd g lau mt mm2 4 (o_ne0 7 11) := s_if_ne (off := 7) (by decide +kernel) rfl
theorem sd2_7 : mSnd g lau mt mm2 7 (o_ic 8 1) := s_iconst (n := 1) (by decide +kernel) rfl
theorem sd2_8 : mSnd g lau mt mm2 8 (o_goto 12) := s_goto (off := 4) (by decide +kernel) rfl
theorem sd2_11 : mSnd g lau mt mm2 11 (o_ic 12 0) := s_iconst (n := 0) (by decide +kernel) rfl
theorem sd2_12 : mSnd g lau mt mm2 12 (o_rz) := s_rz (by decide +kernel) rfl
def op2 : Nat → mOp := fun pc => bif Nat.blt pc 7 then (bif Nat.blt pc 1 then (bif Nat.beq pc 0 then o_al 1 0 else o_no) else (bif Nat.blt pc 4 then (bif Nat.beq pc 1 then o_gI 4 2 0 else o_no) else (bif Nat.beq pc 4 then o_ne0 7 11 else o_no))) else (bif Nat.blt pc 11 then (bif Nat.blt pc 8 then (bif Nat.beq pc 7 then o_ic 8 1 else o_no) else (bif Nat.beq pc 8 then o_goto 12 else o_no)) else (bif Nat.blt pc 12 then (bif Nat.beq pc 11 then o_ic 12 0 else o_no) else (bif Nat.beq pc 12 then o_rz else o_no)))
theorem sn2 (pc : Nat) : mSnd g lau mt mm2 pc (op2 pc) := s_bif (s_bif (s_leaf sd2_0) (s_bif (s_leaf sd2_1) (s_leaf sd2_4))) (s_bif (s_bif (s_leaf sd2_7) (s_leaf sd2_8)) (s_bif (s_leaf sd2_11) (s_leaf sd2_12)))
-- RoundVotes$Choice.choose(II)V
theorem sd3_0 : mSnd g lau mt mm3 0 (o_al 1 0) := s_aload_n (j := 0) (by decide +kernel) rfl
theorem sd3_1 : mSnd g lau mt mm3 1 (o_il 2 1) := s_iload_n (j := 1) (by decide +kernel) rfl
theorem sd3_2 : mSnd g lau mt mm3 2 (o_pI 5 2 0) := s_putI (ci := 1) (f := 0) (idx := 9) (C := RX1) (T := TX1) (N := 2) (by decide) rfl inX1 (by decide) tyX1 tyX1_ok nmX1 (Or.inl rfl) tb_129 (by decide +kernel) (fun _ _ _ => rfl) rfl
theorem sd3_5 : mSnd g lau mt mm3 5 (o_al 6 0) := s_aload_n (j := 0) (by decide +kernel) rfl
theorem sd3_6 : mSnd g lau mt mm3 6 (o_il 7 2) := s_iload_n (j := 2) (by decide +kernel) rfl
theorem sd3_7 : mSnd g lau mt mm3 7 (o_pI 10 2 1) := s_putI (ci := 1) (f := 1) (idx := 15) (C := RX1) (T := TX1) (N := 2) (by decide) rfl inX1 (by decide) tyX1 tyX1_ok nmX1 (Or.inl rfl) tb_132 (by decide +kernel) (fun _ _ _ => rfl) rfl
theorem sd3_10 : mSnd g lau mt mm3 10 (o_rv) := s_rv (by decide +kernel) rfl
def op3 : Nat → mOp := fun pc => bif Nat.blt pc 5 then (bif Nat.blt pc 1 then (bif Nat.beq pc 0 then o_al 1 0 else o_no) else (bif Nat.blt pc 2 then (bif Nat.beq pc 1 then o_il 2 1 else o_no) else (bif Nat.beq pc 2 then o_pI 5 2 0 else o_no))) else (bif Nat.blt pc 7 then (bif Nat.blt pc 6 then (bif Nat.beq pc 5 then o_al 6 0 else o_no) else (bif Nat.beq pc 6 then o_il 7 2 else o_no)) else (bif Nat.blt pc 10 then (bif Nat.beq pc 7 then o_pI 10 2 1 else o_no) else (bif Nat.beq pc 10 then o_rv else o_no)))
theorem sn3 (pc : Nat) : mSnd g lau mt mm3 pc (op3 pc) := s_bif (s_bif (s_leaf sd3_0) (s_bif (s_leaf sd3_1) (s_leaf sd3_2))) (s_bif (s_bif (s_leaf sd3_5) (s_leaf sd3_6)) (s_bif (s_leaf sd3_7) (s_leaf sd3_10)))
-- RoundVotes$Message.<init>()V
theorem sd4_0 : mSnd g lau mt mm4 0 (o_al 1 0) := s_aload_n (j := 0) (by decide +kernel) rfl
theorem sd4_1 : mSnd g lau mt mm4 1 (o_obj 4) := s_obj (idx := 3) tb_210 tb_21 tb_22 (by decide) (by decide) (by decide +kernel)
theorem sd4_4 : mSnd g lau mt mm4 4 (o_rv) := s_rv (by decide +kernel) rfl
def op4 : Nat → mOp := fun pc => bif Nat.blt pc 1 then (bif Nat.beq pc 0 then o_al 1 0 else o_no) else (bif Nat.blt pc 4 then (bif Nat.beq pc 1 then o_obj 4 else o_no) else (bif Nat.beq pc 4 then o_rv else o_no))
theorem sn4 (pc : Nat) : mSnd g lau mt mm4 pc (op4 pc) := s_bif (s_leaf sd4_0) (s_bif (s_leaf sd4_1) (s_leaf sd4_4))
-- RoundVotes$Message.otherValue()I
theorem sd5_0 : mSnd g lau mt mm5 0 (o_al 1 0) := s_aload_n (j := 0) (by decide +kernel) rfl
theorem sd5_1 : mSnd g lau mt mm5 1 (o_gI 4 6 4) := s_getI (ci := 5) (f := 4) (idx := 24) (C := RX5) (T := TX5) (N := 9) (by decide) rfl inX5 (by decide) (fun _ _ _ => rfl) tb_226 (by decide +kernel)
theorem sd5_4 : mSnd g lau mt mm5 4 (o_ne0 7 14) := s_if_ne (off := 10) (by decide +kernel) rfl
theorem sd5_7 : mSnd g lau mt mm5 7 (o_al 8 0) := s_aload_n (j := 0) (by decide +kernel) rfl
theorem sd5_8 : mSnd g lau mt mm5 8 (o_gI 11 6 5) := s_getI (ci := 5) (f := 5) (idx := 27) (C := RX5) (T := TX5) (N := 9) (by decide) rfl inX5 (by decide) (fun _ _ _ => rfl) tb_229 (by decide +kernel)
theorem sd5_11 : mSnd g lau mt mm5 11 (o_ic 12 1) := s_iconst (n := 1) (by decide +kernel) rfl
theorem sd5_12 : mSnd g lau mt mm5 12 (o_ii 13 (fun x y => x + y)) := s_iadd (by decide +kernel)
theorem sd5_13 : mSnd g lau mt mm5 13 (o_ri) := s_ri (by decide +kernel) rfl
theorem sd5_14 : mSnd g lau mt mm5 14 (o_al 15 0) := s_aload_n (j := 0) (by decide +kernel) rfl
theorem sd5_15 : mSnd g lau mt mm5 15 (o_gI 18 6 5) := s_getI (ci := 5) (f := 5) (idx := 27) (C := RX5) (T := TX5) (N := 9) (by decide) rfl inX5 (by decide) (fun _ _ _ => rfl) tb_229 (by decide +kernel)
theorem sd5_18 : mSnd g lau mt mm5 18 (o_ne0 21 25) := s_if_ne (off := 7) (by decide +kernel) rfl
theorem sd5_21 : mSnd g lau mt mm5 21 (o_ic 22 1) := s_iconst (n := 1) (by decide +kernel) rfl
theorem sd5_22 : mSnd g lau mt mm5 22 (o_goto 26) := s_goto (off := 4) (by decide +kernel) rfl
theorem sd5_25 : mSnd g lau mt mm5 25 (o_ic 26 0) := s_iconst (n := 0) (by decide +kernel) rfl
theorem sd5_26 : mSnd g lau mt mm5 26 (o_ri) := s_ri (by decide +kernel) rfl
def op5 : Nat → mOp := fun pc => bif Nat.blt pc 13 then (bif Nat.blt pc 7 then (bif Nat.blt pc 1 then (bif Nat.beq pc 0 then o_al 1 0 else o_no) else (bif Nat.blt pc 4 then (bif Nat.beq pc 1 then o_gI 4 6 4 else o_no) else (bif Nat.beq pc 4 then o_ne0 7 14 else o_no))) else (bif Nat.blt pc 11 then (bif Nat.blt pc 8 then (bif Nat.beq pc 7 then o_al 8 0 else o_no) else (bif Nat.beq pc 8 then o_gI 11 6 5 else o_no)) else (bif Nat.blt pc 12 then (bif Nat.beq pc 11 then o_ic 12 1 else o_no) else (bif Nat.beq pc 12 then o_ii 13 (fun x y => x + y) else o_no)))) else (bif Nat.blt pc 21 then (bif Nat.blt pc 15 then (bif Nat.blt pc 14 then (bif Nat.beq pc 13 then o_ri else o_no) else (bif Nat.beq pc 14 then o_al 15 0 else o_no)) else (bif Nat.blt pc 18 then (bif Nat.beq pc 15 then o_gI 18 6 5 else o_no) else (bif Nat.beq pc 18 then o_ne0 21 25 else o_no))) else (bif Nat.blt pc 25 then (bif Nat.blt pc 22 then (bif Nat.beq pc 21 then o_ic 22 1 else o_no) else (bif Nat.beq pc 22 then o_goto 26 else o_no)) else (bif Nat.blt pc 26 then (bif Nat.beq pc 25 then o_ic 26 0 else o_no) else (bif Nat.beq pc 26 then o_ri else o_no))))
theorem sn5 (pc : Nat) : mSnd g lau mt mm5 pc (op5 pc) := s_bif (s_bif (s_bif (s_leaf sd5_0) (s_bif (s_leaf sd5_1) (s_leaf sd5_4))) (s_bif (s_bif (s_leaf sd5_7) (s_leaf sd5_8)) (s_bif (s_leaf sd5_11) (s_leaf sd5_12)))) (s_bif (s_bif (s_bif (s_leaf sd5_13) (s_leaf sd5_14)) (s_bif (s_leaf sd5_15) (s_leaf sd5_18))) (s_bif (s_bif (s_leaf sd5_21) (s_leaf sd5_22)) (s_bif (s_leaf sd5_25) (s_leaf sd5_26))))
-- RoundVotes$Message.copyFrom(LRoundVotes$Message;)V
theorem sd6_0 : mSnd g lau mt mm6 0 (o_al 1 0) := s_aload_n (j := 0) (by decide +kernel) rfl
theorem sd6_1 : mSnd g lau mt mm6 1 (o_al 2 1) := s_aload_n (j := 1) (by decide +kernel) rfl
theorem sd6_2 : mSnd g lau mt mm6 2 (o_gI 5 6 0) := s_getI (ci := 5) (f := 0) (idx := 9) (C := RX5) (T := TX5) (N := 9) (by decide) rfl inX5 (by decide) (fun _ _ _ => rfl) tb_211 (by decide +kernel)
theorem sd6_5 : mSnd g lau mt mm6 5 (o_pI 8 6 0) := s_putI (ci := 5) (f := 0) (idx := 9) (C := RX5) (T := TX5) (N := 9) (by decide) rfl inX5 (by decide) tyX5 tyX5_ok nmX5 (Or.inl rfl) tb_211 (by decide +kernel) (fun _ _ _ => rfl) rfl
theorem sd6_8 : mSnd g lau mt mm6 8 (o_al 9 0) := s_aload_n (j := 0) (by decide +kernel) rfl
theorem sd6_9 : mSnd g lau mt mm6 9 (o_al 10 1) := s_aload_n (j := 1) (by decide +kernel) rfl
theorem sd6_10 : mSnd g lau mt mm6 10 (o_gI 13 6 1) := s_getI (ci := 5) (f := 1) (idx := 15) (C := RX5) (T := TX5) (N := 9) (by decide) rfl inX5 (by decide) (fun _ _ _ => rfl) tb_215 (by decide +kernel)
theorem sd6_13 : mSnd g lau mt mm6 13 (o_pI 16 6 1) := s_putI (ci := 5) (f := 1) (idx := 15) (C := RX5) (T := TX5) (N := 9) (by decide) rfl inX5 (by decide) tyX5 tyX5_ok nmX5 (Or.inl rfl) tb_215 (by decide +kernel) (fun _ _ _ => rfl) rfl
theorem sd6_16 : mSnd g lau mt mm6 16 (o_al 17 0) := s_aload_n (j := 0) (by decide +kernel) rfl
theorem sd6_17 : mSnd g lau mt mm6 17 (o_al 18 1) := s_aload_n (j := 1) (by decide +kernel) rfl
theorem sd6_18 : mSnd g lau mt mm6 18 (o_gI 21 6 2) := s_getI (ci := 5) (f := 2) (idx := 18) (C := RX5) (T := TX5) (N := 9) (by decide) rfl inX5 (by decide) (fun _ _ _ => rfl) tb_218 (by decide +kernel)
theorem sd6_21 : mSnd g lau mt mm6 21 (o_pI 24 6 2) := s_putI (ci := 5) (f := 2) (idx := 18) (C := RX5) (T := TX5) (N := 9) (by decide) rfl inX5 (by decide) tyX5 tyX5_ok nmX5 (Or.inl rfl) tb_218 (by decide +kernel) (fun _ _ _ => rfl) rfl
theorem sd6_24 : mSnd g lau mt mm6 24 (o_al 25 0) := s_aload_n (j := 0) (by decide +kernel) rfl
theorem sd6_25 : mSnd g lau mt mm6 25 (o_al 26 1) := s_aload_n (j := 1) (by decide +kernel) rfl
theorem sd6_26 : mSnd g lau mt mm6 26 (o_gI 29 6 3) := s_getI (ci := 5) (f := 3) (idx := 21) (C := RX5) (T := TX5) (N := 9) (by decide) rfl inX5 (by decide) (fun _ _ _ => rfl) tb_222 (by decide +kernel)
theorem sd6_29 : mSnd g lau mt mm6 29 (o_pI 32 6 3) := s_putI (ci := 5) (f := 3) (idx := 21) (C := RX5) (T := TX5) (N := 9) (by decide) rfl inX5 (by decide) tyX5 tyX5_ok nmX5 (Or.inl rfl) tb_222 (by decide +kernel) (fun _ _ _ => rfl) rfl
theorem sd6_32 : mSnd g lau mt mm6 32 (o_al 33 0) := s_aload_n (j := 0) (by decide +kernel) rfl
theorem sd6_33 : mSnd g lau mt mm6 33 (o_al 34 1) := s_aload_n (j := 1) (by decide +kernel) rfl
theorem sd6_34 : mSnd g lau mt mm6 34 (o_gI 37 6 4) := s_getI (ci := 5) (f := 4) (idx := 24) (C := RX5) (T := TX5) (N := 9) (by decide) rfl inX5 (by decide) (fun _ _ _ => rfl) tb_226 (by decide +kernel)
theorem sd6_37 : mSnd g lau mt mm6 37 (o_pI 40 6 4) := s_putI (ci := 5) (f := 4) (idx := 24) (C := RX5) (T := TX5) (N := 9) (by decide) rfl inX5 (by decide) tyX5 tyX5_ok nmX5 (Or.inl rfl) tb_226 (by decide +kernel) (fun _ _ _ => rfl) rfl
theorem sd6_40 : mSnd g lau mt mm6 40 (o_al 41 0) := s_aload_n (j := 0) (by decide +kernel) rfl
theorem sd6_41 : mSnd g lau mt mm6 41 (o_al 42 1) := s_aload_n (j := 1) (by decide +kernel) rfl
theorem sd6_42 : mSnd g lau mt mm6 42 (o_gI 45 6 5) := s_getI (ci := 5) (f := 5) (idx := 27) (C := RX5) (T := TX5) (N := 9) (by decide) rfl inX5 (by decide) (fun _ _ _ => rfl) tb_229 (by decide +kernel)
theorem sd6_45 : mSnd g lau mt mm6 45 (o_pI 48 6 5) := s_putI (ci := 5) (f := 5) (idx := 27) (C := RX5) (T := TX5) (N := 9) (by decide) rfl inX5 (by decide) tyX5 tyX5_ok nmX5 (Or.inl rfl) tb_229 (by decide +kernel) (fun _ _ _ => rfl) rfl
theorem sd6_48 : mSnd g lau mt mm6 48 (o_al 49 0) := s_aload_n (j := 0) (by decide +kernel) rfl
theorem sd6_49 : mSnd g lau mt mm6 49 (o_al 50 1) := s_aload_n (j := 1) (by decide +kernel) rfl
theorem sd6_50 : mSnd g lau mt mm6 50 (o_gI 53 6 6) := s_getI (ci := 5) (f := 6) (idx := 30) (C := RX5) (T := TX5) (N := 9) (by decide) rfl inX5 (by decide) (fun _ _ _ => rfl) tb_233 (by decide +kernel)
theorem sd6_53 : mSnd g lau mt mm6 53 (o_pI 56 6 6) := s_putI (ci := 5) (f := 6) (idx := 30) (C := RX5) (T := TX5) (N := 9) (by decide) rfl inX5 (by decide) tyX5 tyX5_ok nmX5 (Or.inl rfl) tb_233 (by decide +kernel) (fun _ _ _ => rfl) rfl
theorem sd6_56 : mSnd g lau mt mm6 56 (o_rv) := s_rv (by decide +kernel) rfl
def op6 : Nat → mOp := fun pc => bif Nat.blt pc 26 then (bif Nat.blt pc 13 then (bif Nat.blt pc 5 then (bif Nat.blt pc 1 then (bif Nat.beq pc 0 then o_al 1 0 else o_no) else (bif Nat.blt pc 2 then (bif Nat.beq pc 1 then o_al 2 1 else o_no) else (bif Nat.beq pc 2 then o_gI 5 6 0 else o_no))) else (bif Nat.blt pc 9 then (bif Nat.blt pc 8 then (bif Nat.beq pc 5 then o_pI 8 6 0 else o_no) else (bif Nat.beq pc 8 then o_al 9 0 else o_no)) else (bif Nat.blt pc 10 then (bif Nat.beq pc 9 then o_al 10 1 else o_no) else (bif Nat.beq pc 10 then o_gI 13 6 1 else o_no)))) else (bif Nat.blt pc 18 then (bif Nat.blt pc 16 then (bif Nat.beq pc 13 then o_pI 16 6 1 else o_no) else (bif Nat.blt pc 17 then (bif Nat.beq pc 16 then o_al 17 0 else o_no) else (bif Nat.beq pc 17 then o_al 18 1 else o_no))) else (bif Nat.blt pc 24 then (bif Nat.blt pc 21 then (bif Nat.beq pc 18 then o_gI 21 6 2 else o_no) else (bif Nat.beq pc 21 then o_pI 24 6 2 else o_no)) else (bif Nat.blt pc 25 then (bif Nat.beq pc 24 then o_al 25 0 else o_no) else (bif Nat.beq pc 25 then o_al 26 1 else o_no))))) else (bif Nat.blt pc 41 then (bif Nat.blt pc 33 then (bif Nat.blt pc 29 then (bif Nat.beq pc 26 then o_gI 29 6 3 else o_no) else (bif Nat.blt pc 32 then (bif Nat.beq pc 29 then o_pI 32 6 3 else o_no) else (bif Nat.beq pc 32 then o_al 33 0 else o_no))) else (bif Nat.blt pc 37 then (bif Nat.blt pc 34 then (bif Nat.beq pc 33 then o_al 34 1 else o_no) else (bif Nat.beq pc 34 then o_gI 37 6 4 else o_no)) else (bif Nat.blt pc 40 then (bif Nat.beq pc 37 then o_pI 40 6 4 else o_no) else (bif Nat.beq pc 40 then o_al 41 0 else o_no)))) else (bif Nat.blt pc 49 then (bif Nat.blt pc 45 then (bif Nat.blt pc 42 then (bif Nat.beq pc 41 then o_al 42 1 else o_no) else (bif Nat.beq pc 42 then o_gI 45 6 5 else o_no)) else (bif Nat.blt pc 48 then (bif Nat.beq pc 45 then o_pI 48 6 5 else o_no) else (bif Nat.beq pc 48 then o_al 49 0 else o_no))) else (bif Nat.blt pc 53 then (bif Nat.blt pc 50 then (bif Nat.beq pc 49 then o_al 50 1 else o_no) else (bif Nat.beq pc 50 then o_gI 53 6 6 else o_no)) else (bif Nat.blt pc 56 then (bif Nat.beq pc 53 then o_pI 56 6 6 else o_no) else (bif Nat.beq pc 56 then o_rv else o_no)))))
theorem sn6 (pc : Nat) : mSnd g lau mt mm6 pc (op6 pc) := s_bif (s_bif (s_bif (s_bif (s_leaf sd6_0) (s_bif (s_leaf sd6_1) (s_leaf sd6_2))) (s_bif (s_bif (s_leaf sd6_5) (s_leaf sd6_8)) (s_bif (s_leaf sd6_9) (s_leaf sd6_10)))) (s_bif (s_bif (s_leaf sd6_13) (s_bif (s_leaf sd6_16) (s_leaf sd6_17))) (s_bif (s_bif (s_leaf sd6_18) (s_leaf sd6_21)) (s_bif (s_leaf sd6_24) (s_leaf sd6_25))))) (s_bif (s_bif (s_bif (s_leaf sd6_26) (s_bif (s_leaf sd6_29) (s_leaf sd6_32))) (s_bif (s_bif (s_leaf sd6_33) (s_leaf sd6_34)) (s_bif (s_leaf sd6_37) (s_leaf sd6_40)))) (s_bif (s_bif (s_bif (s_leaf sd6_41) (s_leaf sd6_42)) (s_bif (s_leaf sd6_45) (s_leaf sd6_48))) (s_bif (s_bif (s_leaf sd6_49) (s_leaf sd6_50)) (s_bif (s_leaf sd6_53) (s_leaf sd6_56)))))
-- RoundVotes$Ballots.<init>(I)V
theorem sd7_0 : mSnd g lau mt mm7 0 (o_al 1 0) := s_aload_n (j := 0) (by decide +kernel) rfl
theorem sd7_1 : mSnd g lau mt mm7 1 (o_obj 4) := s_obj (idx := 3) tb_168 tb_21 tb_22 (by decide) (by decide) (by decide +kernel)
theorem sd7_4 : mSnd g lau mt mm7 4 (o_al 5 0) := s_aload_n (j := 0) (by decide +kernel) rfl
theorem sd7_5 : mSnd g lau mt mm7 5 (o_ic 7 30) := s_bipush (n := 30) (by decide +kernel) rfl
theorem sd7_7 : mSnd g lau mt mm7 7 (o_nwa 9 20) := s_newa (t := 20) (atype := .int) (by decide) (by decide) rfl (fun _ => rfl) (by decide) (fun _ _ h => h) tb_66 (by decide +kernel)
theorem sd7_9 : mSnd g lau mt mm7 9 (o_pP 12 1 2) := s_putP (ci := 0) (f := 2) (idx := 9) (C := RX0) (T := TX0) (N := 4) (by decide) rfl inX0 (by decide) tyX0 tyX0_ok nmX0 (Or.inr ⟨rfl, rfl⟩) tb_172 (by decide +kernel) (fun _ _ _ => rfl) rfl
theorem sd7_12 : mSnd g lau mt mm7 12 (o_al 13 0) := s_aload_n (j := 0) (by decide +kernel) rfl
theorem sd7_13 : mSnd g lau mt mm7 13 (o_ic 14 (-1)) := s_iconst (n := (-1)) (by decide +kernel) rfl
theorem sd7_14 : mSnd g lau mt mm7 14 (o_pI 17 1 3) := s_putI (ci := 0) (f := 3) (idx := 15) (C := RX0) (T := TX0) (N := 4) (by decide) rfl inX0 (by decide) tyX0 tyX0_ok nmX0 (Or.inl rfl) tb_173 (by decide +kernel) (fun _ _ _ => rfl) rfl
theorem sd7_17 : mSnd g lau mt mm7 17 (o_al 18 0) := s_aload_n (j := 0) (by decide +kernel) rfl
theorem sd7_18 : mSnd g lau mt mm7 18 (o_il 19 1) := s_iload_n (j := 1) (by decide +kernel) rfl
theorem sd7_19 : mSnd g lau mt mm7 19 (o_pI 22 1 0) := s_putI (ci := 0) (f := 0) (idx := 19) (C := RX0) (T := TX0) (N := 4) (by decide) rfl inX0 (by decide) tyX0 tyX0_ok nmX0 (Or.inr ⟨rfl, rfl⟩) tb_170 (by decide +kernel) (fun _ _ _ => rfl) rfl
theorem sd7_22 : mSnd g lau mt mm7 22 (o_al 23 0) := s_aload_n (j := 0) (by decide +kernel) rfl
theorem sd7_23 : mSnd g lau mt mm7 23 (o_ic 25 30) := s_bipush (n := 30) (by decide +kernel) rfl
theorem sd7_25 : mSnd g lau mt mm7 25 (o_il 26 1) := s_iload_n (j := 1) (by decide +kernel) rfl
theorem sd7_26 : mSnd g lau mt mm7 26 (o_ii 27 (fun x y => x * y)) := s_imul (by decide +kernel)
theorem sd7_27 : mSnd g lau mt mm7 27 (o_ic 28 3) := s_iconst (n := 3) (by decide +kernel) rfl
theorem sd7_28 : mSnd g lau mt mm7 28 (o_ii 29 (fun x y => x * y)) := s_imul (by decide +kernel)
theorem sd7_29 : mSnd g lau mt mm7 29 (o_nwa 31 20) := s_newa (t := 20) (atype := .int) (by decide) (by decide) rfl (fun _ => rfl) (by decide) (fun _ _ h => h) tb_66 (by decide +kernel)
theorem sd7_31 : mSnd g lau mt mm7 31 (o_pP 34 1 1) := s_putP (ci := 0) (f := 1) (idx := 22) (C := RX0) (T := TX0) (N := 4) (by decide) rfl inX0 (by decide) tyX0 tyX0_ok nmX0 (Or.inr ⟨rfl, rfl⟩) tb_171 (by decide +kernel) (fun _ _ _ => rfl) rfl
theorem sd7_34 : mSnd g lau mt mm7 34 (o_al 35 0) := s_aload_n (j := 0) (by decide +kernel) rfl
theorem sd7_35 : mSnd g lau mt mm7 35 (o_gP 38 1 1) := s_getP (ci := 0) (f := 1) (idx := 22) (C := RX0) (T := TX0) (N := 4) (by decide) rfl inX0 (by decide) (fun _ _ _ => rfl) tb_171 (by decide +kernel)
theorem sd7_38 : mSnd g lau mt mm7 38 (o_ic 40 (-2)) := s_bipush (n := (-2)) (by decide +kernel) rfl
theorem sd7_40 : mSnd g lau mt mm7 40 (o_cS 43 0 2) := s_cS (m' := 0) (idx := 25) ⟨cw_0.1, cw_0.2.1, cw_0.2.2, by decide⟩ tb_169 tb_96 (by decide +kernel)
theorem sd7_43 : mSnd g lau mt mm7 43 (o_rv) := s_rv (by decide +kernel) rfl
def op7 : Nat → mOp := fun pc => bif Nat.blt pc 22 then (bif Nat.blt pc 12 then (bif Nat.blt pc 5 then (bif Nat.blt pc 1 then (bif Nat.beq pc 0 then o_al 1 0 else o_no) else (bif Nat.blt pc 4 then (bif Nat.beq pc 1 then o_obj 4 else o_no) else (bif Nat.beq pc 4 then o_al 5 0 else o_no))) else (bif Nat.blt pc 7 then (bif Nat.beq pc 5 then o_ic 7 30 else o_no) else (bif Nat.blt pc 9 then (bif Nat.beq pc 7 then o_nwa 9 20 else o_no) else (bif Nat.beq pc 9 then o_pP 12 1 2 else o_no)))) else (bif Nat.blt pc 17 then (bif Nat.blt pc 13 then (bif Nat.beq pc 12 then o_al 13 0 else o_no) else (bif Nat.blt pc 14 then (bif Nat.beq pc 13 then o_ic 14 (-1) else o_no) else (bif Nat.beq pc 14 then o_pI 17 1 3 else o_no))) else (bif Nat.blt pc 18 then (bif Nat.beq pc 17 then o_al 18 0 else o_no) else (bif Nat.blt pc 19 then (bif Nat.beq pc 18 then o_il 19 1 else o_no) else (bif Nat.beq pc 19 then o_pI 22 1 0 else o_no))))) else (bif Nat.blt pc 29 then (bif Nat.blt pc 26 then (bif Nat.blt pc 23 then (bif Nat.beq pc 22 then o_al 23 0 else o_no) else (bif Nat.blt pc 25 then (bif Nat.beq pc 23 then o_ic 25 30 else o_no) else (bif Nat.beq pc 25 then o_il 26 1 else o_no))) else (bif Nat.blt pc 27 then (bif Nat.beq pc 26 then o_ii 27 (fun x y => x * y) else o_no) else (bif Nat.blt pc 28 then (bif Nat.beq pc 27 then o_ic 28 3 else o_no) else (bif Nat.beq pc 28 then o_ii 29 (fun x y => x * y) else o_no)))) else (bif Nat.blt pc 35 then (bif Nat.blt pc 31 then (bif Nat.beq pc 29 then o_nwa 31 20 else o_no) else (bif Nat.blt pc 34 then (bif Nat.beq pc 31 then o_pP 34 1 1 else o_no) else (bif Nat.beq pc 34 then o_al 35 0 else o_no))) else (bif Nat.blt pc 40 then (bif Nat.blt pc 38 then (bif Nat.beq pc 35 then o_gP 38 1 1 else o_no) else (bif Nat.beq pc 38 then o_ic 40 (-2) else o_no)) else (bif Nat.blt pc 43 then (bif Nat.beq pc 40 then o_cS 43 0 2 else o_no) else (bif Nat.beq pc 43 then o_rv else o_no)))))
theorem sn7 (pc : Nat) : mSnd g lau mt mm7 pc (op7 pc) := s_bif (s_bif (s_bif (s_bif (s_leaf sd7_0) (s_bif (s_leaf sd7_1) (s_leaf sd7_4))) (s_bif (s_leaf sd7_5) (s_bif (s_leaf sd7_7) (s_leaf sd7_9)))) (s_bif (s_bif (s_leaf sd7_12) (s_bif (s_leaf sd7_13) (s_leaf sd7_14))) (s_bif (s_leaf sd7_17) (s_bif (s_leaf sd7_18) (s_leaf sd7_19))))) (s_bif (s_bif (s_bif (s_leaf sd7_22) (s_bif (s_leaf sd7_23) (s_leaf sd7_25))) (s_bif (s_leaf sd7_26) (s_bif (s_leaf sd7_27) (s_leaf sd7_28)))) (s_bif (s_bif (s_leaf sd7_29) (s_bif (s_leaf sd7_31) (s_leaf sd7_34))) (s_bif (s_bif (s_leaf sd7_35) (s_leaf sd7_38)) (s_bif (s_leaf sd7_40) (s_leaf sd7_43)))))
-- RoundVotes$Ballots.holds(III)Z
theorem sd8_0 : mSnd g lau mt mm8 0 (o_al 1 0) := s_aload_n (j := 0) (by decide +kernel) rfl
theorem sd8_1 : mSnd g lau mt mm8 1 (o_gP 4 1 1) := s_getP (ci := 0) (f := 1) (idx := 22) (C := RX0) (T := TX0) (N := 4) (by decide) rfl inX0 (by decide) (fun _ _ _ => rfl) tb_171 (by decide +kernel)
theorem sd8_4 : mSnd g lau mt mm8 4 (o_il 5 1) := s_iload_n (j := 1) (by decide +kernel) rfl
theorem sd8_5 : mSnd g lau mt mm8 5 (o_al 6 0) := s_aload_n (j := 0) (by decide +kernel) rfl
theorem sd8_6 : mSnd g lau mt mm8 6 (o_gI 9 1 0) := s_getI (ci := 0) (f := 0) (idx := 19) (C := RX0) (T := TX0) (N := 4) (by decide) rfl inX0 (by decide) (fun _ _ _ => rfl) tb_170 (by decide +kernel)
theorem sd8_9 : mSnd g lau mt mm8 9 (o_ii 10 (fun x y => x * y)) := s_imul (by decide +kernel)
theorem sd8_10 : mSnd g lau mt mm8 10 (o_il 11 2) := s_iload_n (j := 2) (by decide +kernel) rfl
theorem sd8_11 : mSnd g lau mt mm8 11 (o_ii 12 (fun x y => x + y)) := s_iadd (by decide +kernel)
theorem sd8_12 : mSnd g lau mt mm8 12 (o_ic 13 3) := s_iconst (n := 3) (by decide +kernel) rfl
theorem sd8_13 : mSnd g lau mt mm8 13 (o_ii 14 (fun x y => x * y)) := s_imul (by decide +kernel)
theorem sd8_14 : mSnd g lau mt mm8 14 (o_il 15 3) := s_iload_n (j := 3) (by decide +kernel) rfl
theorem sd8_15 : mSnd g lau mt mm8 15 (o_ii 16 (fun x y => x + y)) := s_iadd (by decide +kernel)
theorem sd8_16 : mSnd g lau mt mm8 16 (o_ial 17) := s_iald (by decide +kernel)
theorem sd8_17 : mSnd g lau mt mm8 17 (o_ic 19 (-2)) := s_bipush (n := (-2)) (by decide +kernel) rfl
theorem sd8_19 : mSnd g lau mt mm8 19 (o_eq 22 26) := s_icmp_eq (off := 7) (by decide +kernel) rfl
theorem sd8_22 : mSnd g lau mt mm8 22 (o_ic 23 1) := s_iconst (n := 1) (by decide +kernel) rfl
theorem sd8_23 : mSnd g lau mt mm8 23 (o_goto 27) := s_goto (off := 4) (by decide +kernel) rfl
theorem sd8_26 : mSnd g lau mt mm8 26 (o_ic 27 0) := s_iconst (n := 0) (by decide +kernel) rfl
theorem sd8_27 : mSnd g lau mt mm8 27 (o_rz) := s_rz (by decide +kernel) rfl
def op8 : Nat → mOp := fun pc => bif Nat.blt pc 13 then (bif Nat.blt pc 6 then (bif Nat.blt pc 4 then (bif Nat.blt pc 1 then (bif Nat.beq pc 0 then o_al 1 0 else o_no) else (bif Nat.beq pc 1 then o_gP 4 1 1 else o_no)) else (bif Nat.blt pc 5 then (bif Nat.beq pc 4 then o_il 5 1 else o_no) else (bif Nat.beq pc 5 then o_al 6 0 else o_no))) else (bif Nat.blt pc 10 then (bif Nat.blt pc 9 then (bif Nat.beq pc 6 then o_gI 9 1 0 else o_no) else (bif Nat.beq pc 9 then o_ii 10 (fun x y => x * y) else o_no)) else (bif Nat.blt pc 11 then (bif Nat.beq pc 10 then o_il 11 2 else o_no) else (bif Nat.blt pc 12 then (bif Nat.beq pc 11 then o_ii 12 (fun x y => x + y) else o_no) else (bif Nat.beq pc 12 then o_ic 13 3 else o_no))))) else (bif Nat.blt pc 19 then (bif Nat.blt pc 15 then (bif Nat.blt pc 14 then (bif Nat.beq pc 13 then o_ii 14 (fun x y => x * y) else o_no) else (bif Nat.beq pc 14 then o_il 15 3 else o_no)) else (bif Nat.blt pc 16 then (bif Nat.beq pc 15 then o_ii 16 (fun x y => x + y) else o_no) else (bif Nat.blt pc 17 then (bif Nat.beq pc 16 then o_ial 17 else o_no) else (bif Nat.beq pc 17 then o_ic 19 (-2) else o_no)))) else (bif Nat.blt pc 23 then (bif Nat.blt pc 22 then (bif Nat.beq pc 19 then o_eq 22 26 else o_no) else (bif Nat.beq pc 22 then o_ic 23 1 else o_no)) else (bif Nat.blt pc 26 then (bif Nat.beq pc 23 then o_goto 27 else o_no) else (bif Nat.blt pc 27 then (bif Nat.beq pc 26 then o_ic 27 0 else o_no) else (bif Nat.beq pc 27 then o_rz else o_no)))))
theorem sn8 (pc : Nat) : mSnd g lau mt mm8 pc (op8 pc) := s_bif (s_bif (s_bif (s_bif (s_leaf sd8_0) (s_leaf sd8_1)) (s_bif (s_leaf sd8_4) (s_leaf sd8_5))) (s_bif (s_bif (s_leaf sd8_6) (s_leaf sd8_9)) (s_bif (s_leaf sd8_10) (s_bif (s_leaf sd8_11) (s_leaf sd8_12))))) (s_bif (s_bif (s_bif (s_leaf sd8_13) (s_leaf sd8_14)) (s_bif (s_leaf sd8_15) (s_bif (s_leaf sd8_16) (s_leaf sd8_17)))) (s_bif (s_bif (s_leaf sd8_19) (s_leaf sd8_22)) (s_bif (s_leaf sd8_23) (s_bif (s_leaf sd8_26) (s_leaf sd8_27)))))
-- RoundVotes$Ballots.valueOf(III)I
theorem sd9_0 : mSnd g lau mt mm9 0 (o_al 1 0) := s_aload_n (j := 0) (by decide +kernel) rfl
theorem sd9_1 : mSnd g lau mt mm9 1 (o_gP 4 1 1) := s_getP (ci := 0) (f := 1) (idx := 22) (C := RX0) (T := TX0) (N := 4) (by decide) rfl inX0 (by decide) (fun _ _ _ => rfl) tb_171 (by decide +kernel)
theorem sd9_4 : mSnd g lau mt mm9 4 (o_il 5 1) := s_iload_n (j := 1) (by decide +kernel) rfl
theorem sd9_5 : mSnd g lau mt mm9 5 (o_al 6 0) := s_aload_n (j := 0) (by decide +kernel) rfl
theorem sd9_6 : mSnd g lau mt mm9 6 (o_gI 9 1 0) := s_getI (ci := 0) (f := 0) (idx := 19) (C := RX0) (T := TX0) (N := 4) (by decide) rfl inX0 (by decide) (fun _ _ _ => rfl) tb_170 (by decide +kernel)
theorem sd9_9 : mSnd g lau mt mm9 9 (o_ii 10 (fun x y => x * y)) := s_imul (by decide +kernel)
theorem sd9_10 : mSnd g lau mt mm9 10 (o_il 11 2) := s_iload_n (j := 2) (by decide +kernel) rfl
theorem sd9_11 : mSnd g lau mt mm9 11 (o_ii 12 (fun x y => x + y)) := s_iadd (by decide +kernel)
theorem sd9_12 : mSnd g lau mt mm9 12 (o_ic 13 3) := s_iconst (n := 3) (by decide +kernel) rfl
theorem sd9_13 : mSnd g lau mt mm9 13 (o_ii 14 (fun x y => x * y)) := s_imul (by decide +kernel)
theorem sd9_14 : mSnd g lau mt mm9 14 (o_il 15 3) := s_iload_n (j := 3) (by decide +kernel) rfl
theorem sd9_15 : mSnd g lau mt mm9 15 (o_ii 16 (fun x y => x + y)) := s_iadd (by decide +kernel)
theorem sd9_16 : mSnd g lau mt mm9 16 (o_ial 17) := s_iald (by decide +kernel)
theorem sd9_17 : mSnd g lau mt mm9 17 (o_ri) := s_ri (by decide +kernel) rfl
def op9 : Nat → mOp := fun pc => bif Nat.blt pc 11 then (bif Nat.blt pc 5 then (bif Nat.blt pc 1 then (bif Nat.beq pc 0 then o_al 1 0 else o_no) else (bif Nat.blt pc 4 then (bif Nat.beq pc 1 then o_gP 4 1 1 else o_no) else (bif Nat.beq pc 4 then o_il 5 1 else o_no))) else (bif Nat.blt pc 9 then (bif Nat.blt pc 6 then (bif Nat.beq pc 5 then o_al 6 0 else o_no) else (bif Nat.beq pc 6 then o_gI 9 1 0 else o_no)) else (bif Nat.blt pc 10 then (bif Nat.beq pc 9 then o_ii 10 (fun x y => x * y) else o_no) else (bif Nat.beq pc 10 then o_il 11 2 else o_no)))) else (bif Nat.blt pc 14 then (bif Nat.blt pc 12 then (bif Nat.beq pc 11 then o_ii 12 (fun x y => x + y) else o_no) else (bif Nat.blt pc 13 then (bif Nat.beq pc 12 then o_ic 13 3 else o_no) else (bif Nat.beq pc 13 then o_ii 14 (fun x y => x * y) else o_no))) else (bif Nat.blt pc 16 then (bif Nat.blt pc 15 then (bif Nat.beq pc 14 then o_il 15 3 else o_no) else (bif Nat.beq pc 15 then o_ii 16 (fun x y => x + y) else o_no)) else (bif Nat.blt pc 17 then (bif Nat.beq pc 16 then o_ial 17 else o_no) else (bif Nat.beq pc 17 then o_ri else o_no))))
theorem sn9 (pc : Nat) : mSnd g lau mt mm9 pc (op9 pc) := s_bif (s_bif (s_bif (s_leaf sd9_0) (s_bif (s_leaf sd9_1) (s_leaf sd9_4))) (s_bif (s_bif (s_leaf sd9_5) (s_leaf sd9_6)) (s_bif (s_leaf sd9_9) (s_leaf sd9_10)))) (s_bif (s_bif (s_leaf sd9_11) (s_bif (s_leaf sd9_12) (s_leaf sd9_13))) (s_bif (s_bif (s_leaf sd9_14) (s_leaf sd9_15)) (s_bif (s_leaf sd9_16) (s_leaf sd9_17))))
-- RoundVotes$Ballots.sinceOf(I)I
theorem sd10_0 : mSnd g lau mt mm10 0 (o_al 1 0) := s_aload_n (j := 0) (by decide +kernel) rfl
theorem sd10_1 : mSnd g lau mt mm10 1 (o_gP 4 1 2) := s_getP (ci := 0) (f := 2) (idx := 9) (C := RX0) (T := TX0) (N := 4) (by decide) rfl inX0 (by decide) (fun _ _ _ => rfl) tb_172 (by decide +kernel)
theorem sd10_4 : mSnd g lau mt mm10 4 (o_il 5 1) := s_iload_n (j := 1) (by decide +kernel) rfl
theorem sd10_5 : mSnd g lau mt mm10 5 (o_ial 6) := s_iald (by decide +kernel)
theorem sd10_6 : mSnd g lau mt mm10 6 (o_ri) := s_ri (by decide +kernel) rfl
def op10 : Nat → mOp := fun pc => bif Nat.blt pc 4 then (bif Nat.blt pc 1 then (bif Nat.beq pc 0 then o_al 1 0 else o_no) else (bif Nat.beq pc 1 then o_gP 4 1 2 else o_no)) else (bif Nat.blt pc 5 then (bif Nat.beq pc 4 then o_il 5 1 else o_no) else (bif Nat.blt pc 6 then (bif Nat.beq pc 5 then o_ial 6 else o_no) else (bif Nat.beq pc 6 then o_ri else o_no)))
theorem sn10 (pc : Nat) : mSnd g lau mt mm10 pc (op10 pc) := s_bif (s_bif (s_leaf sd10_0) (s_leaf sd10_1)) (s_bif (s_leaf sd10_4) (s_bif (s_leaf sd10_5) (s_leaf sd10_6)))
-- RoundVotes$Ballots.put(IIIII)V
theorem sd11_0 : mSnd g lau mt mm11 0 (o_al 1 0) := s_aload_n (j := 0) (by decide +kernel) rfl
theorem sd11_1 : mSnd g lau mt mm11 1 (o_gP 4 1 1) := s_getP (ci := 0) (f := 1) (idx := 22) (C := RX0) (T := TX0) (N := 4) (by decide) rfl inX0 (by decide) (fun _ _ _ => rfl) tb_171 (by decide +kernel)
theorem sd11_4 : mSnd g lau mt mm11 4 (o_il 5 1) := s_iload_n (j := 1) (by decide +kernel) rfl
theorem sd11_5 : mSnd g lau mt mm11 5 (o_al 6 0) := s_aload_n (j := 0) (by decide +kernel) rfl
theorem sd11_6 : mSnd g lau mt mm11 6 (o_gI 9 1 0) := s_getI (ci := 0) (f := 0) (idx := 19) (C := RX0) (T := TX0) (N := 4) (by decide) rfl inX0 (by decide) (fun _ _ _ => rfl) tb_170 (by decide +kernel)
theorem sd11_9 : mSnd g lau mt mm11 9 (o_ii 10 (fun x y => x * y)) := s_imul (by decide +kernel)
theorem sd11_10 : mSnd g lau mt mm11 10 (o_il 11 2) := s_iload_n (j := 2) (by decide +kernel) rfl
theorem sd11_11 : mSnd g lau mt mm11 11 (o_ii 12 (fun x y => x + y)) := s_iadd (by decide +kernel)
theorem sd11_12 : mSnd g lau mt mm11 12 (o_ic 13 3) := s_iconst (n := 3) (by decide +kernel) rfl
theorem sd11_13 : mSnd g lau mt mm11 13 (o_ii 14 (fun x y => x * y)) := s_imul (by decide +kernel)
theorem sd11_14 : mSnd g lau mt mm11 14 (o_il 15 3) := s_iload_n (j := 3) (by decide +kernel) rfl
theorem sd11_15 : mSnd g lau mt mm11 15 (o_ii 16 (fun x y => x + y)) := s_iadd (by decide +kernel)
theorem sd11_16 : mSnd g lau mt mm11 16 (o_il 18 4) := s_iload (by decide +kernel)
theorem sd11_18 : mSnd g lau mt mm11 18 (o_ias 19) := s_iast (by decide +kernel)
theorem sd11_19 : mSnd g lau mt mm11 19 (o_il 20 3) := s_iload_n (j := 3) (by decide +kernel) rfl
theorem sd11_20 : mSnd g lau mt mm11 20 (o_ne0 23 31) := s_if_ne (off := 11) (by decide +kernel) rfl
theorem sd11_23 : mSnd g lau mt mm11 23 (o_al 24 0) := s_aload_n (j := 0) (by decide +kernel) rfl
theorem sd11_24 : mSnd g lau mt mm11 24 (o_gP 27 1 2) := s_getP (ci := 0) (f := 2) (idx := 9) (C := RX0) (T := TX0) (N := 4) (by decide) rfl inX0 (by decide) (fun _ _ _ => rfl) tb_172 (by decide +kernel)
theorem sd11_27 : mSnd g lau mt mm11 27 (o_il 28 1) := s_iload_n (j := 1) (by decide +kernel) rfl
theorem sd11_28 : mSnd g lau mt mm11 28 (o_il 30 5) := s_iload (by decide +kernel)
theorem sd11_30 : mSnd g lau mt mm11 30 (o_ias 31) := s_iast (by decide +kernel)
theorem sd11_31 : mSnd g lau mt mm11 31 (o_il 32 1) := s_iload_n (j := 1) (by decide +kernel) rfl
theorem sd11_32 : mSnd g lau mt mm11 32 (o_al 33 0) := s_aload_n (j := 0) (by decide +kernel) rfl
theorem sd11_33 : mSnd g lau mt mm11 33 (o_gI 36 1 3) := s_getI (ci := 0) (f := 3) (idx := 15) (C := RX0) (T := TX0) (N := 4) (by decide) rfl inX0 (by decide) (fun _ _ _ => rfl) tb_173 (by decide +kernel)
theorem sd11_36 : mSnd g lau mt mm11 36 (o_le 39 44) := s_icmp_le (off := 8) (by decide +kernel) rfl
theorem sd11_39 : mSnd g lau mt mm11 39 (o_al 40 0) := s_aload_n (j := 0) (by decide +kernel) rfl
theorem sd11_40 : mSnd g lau mt mm11 40 (o_il 41 1) := s_iload_n (j := 1) (by decide +kernel) rfl
theorem sd11_41 : mSnd g lau mt mm11 41 (o_pI 44 1 3) := s_putI (ci := 0) (f := 3) (idx := 15) (C := RX0) (T := TX0) (N := 4) (by decide) rfl inX0 (by decide) tyX0 tyX0_ok nmX0 (Or.inl rfl) tb_173 (by decide +kernel) (fun _ _ _ => rfl) rfl
theorem sd11_44 : mSnd g lau mt mm11 44 (o_rv) := s_rv (by decide +kernel) rfl
def op11 : Nat → mOp := fun pc => bif Nat.blt pc 19 then (bif Nat.blt pc 11 then (bif Nat.blt pc 5 then (bif Nat.blt pc 1 then (bif Nat.beq pc 0 then o_al 1 0 else o_no) else (bif Nat.blt pc 4 then (bif Nat.beq pc 1 then o_gP 4 1 1 else o_no) else (bif Nat.beq pc 4 then o_il 5 1 else o_no))) else (bif Nat.blt pc 9 then (bif Nat.blt pc 6 then (bif Nat.beq pc 5 then o_al 6 0 else o_no) else (bif Nat.beq pc 6 then o_gI 9 1 0 else o_no)) else (bif Nat.blt pc 10 then (bif Nat.beq pc 9 then o_ii 10 (fun x y => x * y) else o_no) else (bif Nat.beq pc 10 then o_il 11 2 else o_no)))) else (bif Nat.blt pc 14 then (bif Nat.blt pc 12 then (bif Nat.beq pc 11 then o_ii 12 (fun x y => x + y) else o_no) else (bif Nat.blt pc 13 then (bif Nat.beq pc 12 then o_ic 13 3 else o_no) else (bif Nat.beq pc 13 then o_ii 14 (fun x y => x * y) else o_no))) else (bif Nat.blt pc 16 then (bif Nat.blt pc 15 then (bif Nat.beq pc 14 then o_il 15 3 else o_no) else (bif Nat.beq pc 15 then o_ii 16 (fun x y => x + y) else o_no)) else (bif Nat.blt pc 18 then (bif Nat.beq pc 16 then o_il 18 4 else o_no) else (bif Nat.beq pc 18 then o_ias 19 else o_no))))) else (bif Nat.blt pc 31 then (bif Nat.blt pc 24 then (bif Nat.blt pc 20 then (bif Nat.beq pc 19 then o_il 20 3 else o_no) else (bif Nat.blt pc 23 then (bif Nat.beq pc 20 then o_ne0 23 31 else o_no) else (bif Nat.beq pc 23 then o_al 24 0 else o_no))) else (bif Nat.blt pc 28 then (bif Nat.blt pc 27 then (bif Nat.beq pc 24 then o_gP 27 1 2 else o_no) else (bif Nat.beq pc 27 then o_il 28 1 else o_no)) else (bif Nat.blt pc 30 then (bif Nat.beq pc 28 then o_il 30 5 else o_no) else (bif Nat.beq pc 30 then o_ias 31 else o_no)))) else (bif Nat.blt pc 39 then (bif Nat.blt pc 33 then (bif Nat.blt pc 32 then (bif Nat.beq pc 31 then o_il 32 1 else o_no) else (bif Nat.beq pc 32 then o_al 33 0 else o_no)) else (bif Nat.blt pc 36 then (bif Nat.beq pc 33 then o_gI 36 1 3 else o_no) else (bif Nat.beq pc 36 then o_le 39 44 else o_no))) else (bif Nat.blt pc 41 then (bif Nat.blt pc 40 then (bif Nat.beq pc 39 then o_al 40 0 else o_no) else (bif Nat.beq pc 40 then o_il 41 1 else o_no)) else (bif Nat.blt pc 44 then (bif Nat.beq pc 41 then o_pI 44 1 3 else o_no) else (bif Nat.beq pc 44 then o_rv else o_no)))))
theorem sn11 (pc : Nat) : mSnd g lau mt mm11 pc (op11 pc) := s_bif (s_bif (s_bif (s_bif (s_leaf sd11_0) (s_bif (s_leaf sd11_1) (s_leaf sd11_4))) (s_bif (s_bif (s_leaf sd11_5) (s_leaf sd11_6)) (s_bif (s_leaf sd11_9) (s_leaf sd11_10)))) (s_bif (s_bif (s_leaf sd11_11) (s_bif (s_leaf sd11_12) (s_leaf sd11_13))) (s_bif (s_bif (s_leaf sd11_14) (s_leaf sd11_15)) (s_bif (s_leaf sd11_16) (s_leaf sd11_18))))) (s_bif (s_bif (s_bif (s_leaf sd11_19) (s_bif (s_leaf sd11_20) (s_leaf sd11_23))) (s_bif (s_bif (s_leaf sd11_24) (s_leaf sd11_27)) (s_bif (s_leaf sd11_28) (s_leaf sd11_30)))) (s_bif (s_bif (s_bif (s_leaf sd11_31) (s_leaf sd11_32)) (s_bif (s_leaf sd11_33) (s_leaf sd11_36))) (s_bif (s_bif (s_leaf sd11_39) (s_leaf sd11_40)) (s_bif (s_leaf sd11_41) (s_leaf sd11_44)))))
-- RoundVotes$Ballots.votersFor(III)I
theorem sd12_0 : mSnd g lau mt mm12 0 (o_ic 1 0) := s_iconst (n := 0) (by decide +kernel) rfl
theorem sd12_1 : mSnd g lau mt mm12 1 (o_ist 3 4) := s_istore (by decide +kernel)
theorem sd12_3 : mSnd g lau mt mm12 3 (o_ic 4 0) := s_iconst (n := 0) (by decide +kernel) rfl
theorem sd12_4 : mSnd g lau mt mm12 4 (o_ist 6 5) := s_istore (by decide +kernel)
theorem sd12_6 : mSnd g lau mt mm12 6 (o_il 8 5) := s_iload (by decide +kernel)
theorem sd12_8 : mSnd g lau mt mm12 8 (o_al 9 0) := s_aload_n (j := 0) (by decide +kernel) rfl
theorem sd12_9 : mSnd g lau mt mm12 9 (o_gI 12 1 0) := s_getI (ci := 0) (f := 0) (idx := 19) (C := RX0) (T := TX0) (N := 4) (by decide) rfl inX0 (by decide) (fun _ _ _ => rfl) tb_170 (by decide +kernel)
theorem sd12_12 : mSnd g lau mt mm12 12 (o_ge 15 42) := s_icmp_ge (off := 30) (by decide +kernel) rfl
theorem sd12_15 : mSnd g lau mt mm12 15 (o_al 16 0) := s_aload_n (j := 0) (by decide +kernel) rfl
theorem sd12_16 : mSnd g lau mt mm12 16 (o_il 17 1) := s_iload_n (j := 1) (by decide +kernel) rfl
theorem sd12_17 : mSnd g lau mt mm12 17 (o_il 19 5) := s_iload (by decide +kernel)
theorem sd12_19 : mSnd g lau mt mm12 19 (o_il 20 2) := s_iload_n (j := 2) (by decide +kernel) rfl
theorem sd12_20 : mSnd g lau mt mm12 20 (o_cV 23 9 3 1) := s_cV (m' := 9) (ci := 0) (idx := 31) (r0 := (RX0, TX0, 4)) ⟨cw_9.1, cw_9.2.1, cw_9.2.2, by decide⟩ tb_525 rfl (by decide) rfl tb_451 tb_452 (by decide +kernel)
theorem sd12_23 : mSnd g lau mt mm12 23 (o_il 24 3) := s_iload_n (j := 3) (by decide +kernel) rfl
theorem sd12_24 : mSnd g lau mt mm12 24 (o_ne 27 36) := s_icmp_ne (off := 12) (by decide +kernel) rfl
theorem sd12_27 : mSnd g lau mt mm12 27 (o_il 29 4) := s_iload (by decide +kernel)
theorem sd12_29 : mSnd g lau mt mm12 29 (o_ic 30 1) := s_iconst (n := 1) (by decide +kernel) rfl
theorem sd12_30 : mSnd g lau mt mm12 30 (o_il 32 5) := s_iload (by decide +kernel)
theorem sd12_32 : mSnd g lau mt mm12 32 (o_ii 33 (fun x y => x <<< (y &&& 31))) := s_ishl (by decide +kernel)
theorem sd12_33 : mSnd g lau mt mm12 33 (o_ii 34 (fun x y => x ||| y)) := s_ior (by decide +kernel)
theorem sd12_34 : mSnd g lau mt mm12 34 (o_ist 36 4) := s_istore (by decide +kernel)
theorem sd12_36 : mSnd g lau mt mm12 36 (o_inc 39 5 1) := s_iinc (n := 1) (by decide +kernel) rfl
theorem sd12_39 : mSnd g lau mt mm12 39 (o_goto 6) := s_goto (off := (-33)) (by decide +kernel) rfl
theorem sd12_42 : mSnd g lau mt mm12 42 (o_il 44 4) := s_iload (by decide +kernel)
theorem sd12_44 : mSnd g lau mt mm12 44 (o_ri) := s_ri (by decide +kernel) rfl
def op12 : Nat → mOp := fun pc => bif Nat.blt pc 20 then (bif Nat.blt pc 9 then (bif Nat.blt pc 4 then (bif Nat.blt pc 1 then (bif Nat.beq pc 0 then o_ic 1 0 else o_no) else (bif Nat.blt pc 3 then (bif Nat.beq pc 1 then o_ist 3 4 else o_no) else (bif Nat.beq pc 3 then o_ic 4 0 else o_no))) else (bif Nat.blt pc 6 then (bif Nat.beq pc 4 then o_ist 6 5 else o_no) else (bif Nat.blt pc 8 then (bif Nat.beq pc 6 then o_il 8 5 else o_no) else (bif Nat.beq pc 8 then o_al 9 0 else o_no)))) else (bif Nat.blt pc 16 then (bif Nat.blt pc 12 then (bif Nat.beq pc 9 then o_gI 12 1 0 else o_no) else (bif Nat.blt pc 15 then (bif Nat.beq pc 12 then o_ge 15 42 else o_no) else (bif Nat.beq pc 15 then o_al 16 0 else o_no))) else (bif Nat.blt pc 17 then (bif Nat.beq pc 16 then o_il 17 1 else o_no) else (bif Nat.blt pc 19 then (bif Nat.beq pc 17 then o_il 19 5 else o_no) else (bif Nat.beq pc 19 then o_il 20 2 else o_no))))) else (bif Nat.blt pc 32 then (bif Nat.blt pc 27 then (bif Nat.blt pc 23 then (bif Nat.beq pc 20 then o_cV 23 9 3 1 else o_no) else (bif Nat.blt pc 24 then (bif Nat.beq pc 23 then o_il 24 3 else o_no) else (bif Nat.beq pc 24 then o_ne 27 36 else o_no))) else (bif Nat.blt pc 29 then (bif Nat.beq pc 27 then o_il 29 4 else o_no) else (bif Nat.blt pc 30 then (bif Nat.beq pc 29 then o_ic 30 1 else o_no) else (bif Nat.beq pc 30 then o_il 32 5 else o_no)))) else (bif Nat.blt pc 36 then (bif Nat.blt pc 33 then (bif Nat.beq pc 32 then o_ii 33 (fun x y => x <<< (y &&& 31)) else o_no) else (bif Nat.blt pc 34 then (bif Nat.beq pc 33 then o_ii 34 (fun x y => x ||| y) else o_no) else (bif Nat.beq pc 34 then o_ist 36 4 else o_no))) else (bif Nat.blt pc 42 then (bif Nat.blt pc 39 then (bif Nat.beq pc 36 then o_inc 39 5 1 else o_no) else (bif Nat.beq pc 39 then o_goto 6 else o_no)) else (bif Nat.blt pc 44 then (bif Nat.beq pc 42 then o_il 44 4 else o_no) else (bif Nat.beq pc 44 then o_ri else o_no)))))
theorem sn12 (pc : Nat) : mSnd g lau mt mm12 pc (op12 pc) := s_bif (s_bif (s_bif (s_bif (s_leaf sd12_0) (s_bif (s_leaf sd12_1) (s_leaf sd12_3))) (s_bif (s_leaf sd12_4) (s_bif (s_leaf sd12_6) (s_leaf sd12_8)))) (s_bif (s_bif (s_leaf sd12_9) (s_bif (s_leaf sd12_12) (s_leaf sd12_15))) (s_bif (s_leaf sd12_16) (s_bif (s_leaf sd12_17) (s_leaf sd12_19))))) (s_bif (s_bif (s_bif (s_leaf sd12_20) (s_bif (s_leaf sd12_23) (s_leaf sd12_24))) (s_bif (s_leaf sd12_27) (s_bif (s_leaf sd12_29) (s_leaf sd12_30)))) (s_bif (s_bif (s_leaf sd12_32) (s_bif (s_leaf sd12_33) (s_leaf sd12_34))) (s_bif (s_bif (s_leaf sd12_36) (s_leaf sd12_39)) (s_bif (s_leaf sd12_42) (s_leaf sd12_44)))))
-- RoundVotes$Ballots.clear()V
theorem sd13_0 : mSnd g lau mt mm13 0 (o_al 1 0) := s_aload_n (j := 0) (by decide +kernel) rfl
theorem sd13_1 : mSnd g lau mt mm13 1 (o_gI 4 1 3) := s_getI (ci := 0) (f := 3) (idx := 15) (C := RX0) (T := TX0) (N := 4) (by decide) rfl inX0 (by decide) (fun _ _ _ => rfl) tb_173 (by decide +kernel)
theorem sd13_4 : mSnd g lau mt mm13 4 (o_ic 5 1) := s_iconst (n := 1) (by decide +kernel) rfl
theorem sd13_5 : mSnd g lau mt mm13 5 (o_ii 6 (fun x y => x + y)) := s_iadd (by decide +kernel)
theorem sd13_6 : mSnd g lau mt mm13 6 (o_al 7 0) := s_aload_n (j := 0) (by decide +kernel) rfl
theorem sd13_7 : mSnd g lau mt mm13 7 (o_gI 10 1 0) := s_getI (ci := 0) (f := 0) (idx := 19) (C := RX0) (T := TX0) (N := 4) (by decide) rfl inX0 (by decide) (fun _ _ _ => rfl) tb_170 (by decide +kernel)
theorem sd13_10 : mSnd g lau mt mm13 10 (o_ii 11 (fun x y => x * y)) := s_imul (by decide +kernel)
theorem sd13_11 : mSnd g lau mt mm13 11 (o_ic 12 3) := s_iconst (n := 3) (by decide +kernel) rfl
theorem sd13_12 : mSnd g lau mt mm13 12 (o_ii 13 (fun x y => x * y)) := s_imul (by decide +kernel)
theorem sd13_13 : mSnd g lau mt mm13 13 (o_ist 14 1) := s_istore_n (j := 1) (by decide +kernel) rfl
theorem sd13_14 : mSnd g lau mt mm13 14 (o_ic 15 0) := s_iconst (n := 0) (by decide +kernel) rfl
theorem sd13_15 : mSnd g lau mt mm13 15 (o_ist 16 2) := s_istore_n (j := 2) (by decide +kernel) rfl
theorem sd13_16 : mSnd g lau mt mm13 16 (o_il 17 2) := s_iload_n (j := 2) (by decide +kernel) rfl
theorem sd13_17 : mSnd g lau mt mm13 17 (o_il 18 1) := s_iload_n (j := 1) (by decide +kernel) rfl
theorem sd13_18 : mSnd g lau mt mm13 18 (o_ge 21 35) := s_icmp_ge (off := 17) (by decide +kernel) rfl
theorem sd13_21 : mSnd g lau mt mm13 21 (o_al 22 0) := s_aload_n (j := 0) (by decide +kernel) rfl
theorem sd13_22 : mSnd g lau mt mm13 22 (o_gP 25 1 1) := s_getP (ci := 0) (f := 1) (idx := 22) (C := RX0) (T := TX0) (N := 4) (by decide) rfl inX0 (by decide) (fun _ _ _ => rfl) tb_171 (by decide +kernel)
theorem sd13_25 : mSnd g lau mt mm13 25 (o_il 26 2) := s_iload_n (j := 2) (by decide +kernel) rfl
theorem sd13_26 : mSnd g lau mt mm13 26 (o_ic 28 (-2)) := s_bipush (n := (-2)) (by decide +kernel) rfl
theorem sd13_28 : mSnd g lau mt mm13 28 (o_ias 29) := s_iast (by decide +kernel)
theorem sd13_29 : mSnd g lau mt mm13 29 (o_inc 32 2 1) := s_iinc (n := 1) (by decide +kernel) rfl
theorem sd13_32 : mSnd g lau mt mm13 32 (o_goto 16) := s_goto (off := (-16)) (by decide +kernel) rfl
theorem sd13_35 : mSnd g lau mt mm13 35 (o_al 36 0) := s_aload_n (j := 0) (by decide +kernel) rfl
theorem sd13_36 : mSnd g lau mt mm13 36 (o_ic 37 (-1)) := s_iconst (n := (-1)) (by decide +kernel) rfl
theorem sd13_37 : mSnd g lau mt mm13 37 (o_pI 40 1 3) := s_putI (ci := 0) (f := 3) (idx := 15) (C := RX0) (T := TX0) (N := 4) (by decide) rfl inX0 (by decide) tyX0 tyX0_ok nmX0 (Or.inl rfl) tb_173 (by decide +kernel) (fun _ _ _ => rfl) rfl
theorem sd13_40 : mSnd g lau mt mm13 40 (o_rv) := s_rv (by decide +kernel) rfl
def op13 : Nat → mOp := fun pc => bif Nat.blt pc 17 then (bif Nat.blt pc 10 then (bif Nat.blt pc 5 then (bif Nat.blt pc 1 then (bif Nat.beq pc 0 then o_al 1 0 else o_no) else (bif Nat.blt pc 4 then (bif Nat.beq pc 1 then o_gI 4 1 3 else o_no) else (bif Nat.beq pc 4 then o_ic 5 1 else o_no))) else (bif Nat.blt pc 6 then (bif Nat.beq pc 5 then o_ii 6 (fun x y => x + y) else o_no) else (bif Nat.blt pc 7 then (bif Nat.beq pc 6 then o_al 7 0 else o_no) else (bif Nat.beq pc 7 then o_gI 10 1 0 else o_no)))) else (bif Nat.blt pc 13 then (bif Nat.blt pc 11 then (bif Nat.beq pc 10 then o_ii 11 (fun x y => x * y) else o_no) else (bif Nat.blt pc 12 then (bif Nat.beq pc 11 then o_ic 12 3 else o_no) else (bif Nat.beq pc 12 then o_ii 13 (fun x y => x * y) else o_no))) else (bif Nat.blt pc 15 then (bif Nat.blt pc 14 then (bif Nat.beq pc 13 then o_ist 14 1 else o_no) else (bif Nat.beq pc 14 then o_ic 15 0 else o_no)) else (bif Nat.blt pc 16 then (bif Nat.beq pc 15 then o_ist 16 2 else o_no) else (bif Nat.beq pc 16 then o_il 17 2 else o_no))))) else (bif Nat.blt pc 28 then (bif Nat.blt pc 22 then (bif Nat.blt pc 18 then (bif Nat.beq pc 17 then o_il 18 1 else o_no) else (bif Nat.blt pc 21 then (bif Nat.beq pc 18 then o_ge 21 35 else o_no) else (bif Nat.beq pc 21 then o_al 22 0 else o_no))) else (bif Nat.blt pc 25 then (bif Nat.beq pc 22 then o_gP 25 1 1 else o_no) else (bif Nat.blt pc 26 then (bif Nat.beq pc 25 then o_il 26 2 else o_no) else (bif Nat.beq pc 26 then o_ic 28 (-2) else o_no)))) else (bif Nat.blt pc 35 then (bif Nat.blt pc 29 then (bif Nat.beq pc 28 then o_ias 29 else o_no) else (bif Nat.blt pc 32 then (bif Nat.beq pc 29 then o_inc 32 2 1 else o_no) else (bif Nat.beq pc 32 then o_goto 16 else o_no))) else (bif Nat.blt pc 37 then (bif Nat.blt pc 36 then (bif Nat.beq pc 35 then o_al 36 0 else o_no) else (bif Nat.beq pc 36 then o_ic 37 (-1) else o_no)) else (bif Nat.blt pc 40 then (bif Nat.beq pc 37 then o_pI 40 1 3 else o_no) else (bif Nat.beq pc 40 then o_rv else o_no)))))
theorem sn13 (pc : Nat) : mSnd g lau mt mm13 pc (op13 pc) := s_bif (s_bif (s_bif (s_bif (s_leaf sd13_0) (s_bif (s_leaf sd13_1) (s_leaf sd13_4))) (s_bif (s_leaf sd13_5) (s_bif (s_leaf sd13_6) (s_leaf sd13_7)))) (s_bif (s_bif (s_leaf sd13_10) (s_bif (s_leaf sd13_11) (s_leaf sd13_12))) (s_bif (s_bif (s_leaf sd13_13) (s_leaf sd13_14)) (s_bif (s_leaf sd13_15) (s_leaf sd13_16))))) (s_bif (s_bif (s_bif (s_leaf sd13_17) (s_bif (s_leaf sd13_18) (s_leaf sd13_21))) (s_bif (s_leaf sd13_22) (s_bif (s_leaf sd13_25) (s_leaf sd13_26)))) (s_bif (s_bif (s_leaf sd13_28) (s_bif (s_leaf sd13_29) (s_leaf sd13_32))) (s_bif (s_bif (s_leaf sd13_35) (s_leaf sd13_36)) (s_bif (s_leaf sd13_37) (s_leaf sd13_40)))))
-- RoundVotes$Ballots.voters(II)I
theorem sd14_0 : mSnd g lau mt mm14 0 (o_ic 1 0) := s_iconst (n := 0) (by decide +kernel) rfl
theorem sd14_1 : mSnd g lau mt mm14 1 (o_ist 2 3) := s_istore_n (j := 3) (by decide +kernel) rfl
theorem sd14_2 : mSnd g lau mt mm14 2 (o_ic 3 0) := s_iconst (n := 0) (by decide +kernel) rfl
theorem sd14_3 : mSnd g lau mt mm14 3 (o_ist 5 4) := s_istore (by decide +kernel)
theorem sd14_5 : mSnd g lau mt mm14 5 (o_il 7 4) := s_iload (by decide +kernel)
theorem sd14_7 : mSnd g lau mt mm14 7 (o_al 8 0) := s_aload_n (j := 0) (by decide +kernel) rfl
theorem sd14_8 : mSnd g lau mt mm14 8 (o_gI 11 1 0) := s_getI (ci := 0) (f := 0) (idx := 19) (C := RX0) (T := TX0) (N := 4) (by decide) rfl inX0 (by decide) (fun _ _ _ => rfl) tb_170 (by decide +kernel)
theorem sd14_11 : mSnd g lau mt mm14 11 (o_ge 14 38) := s_icmp_ge (off := 27) (by decide +kernel) rfl
theorem sd14_14 : mSnd g lau mt mm14 14 (o_al 15 0) := s_aload_n (j := 0) (by decide +kernel) rfl
theorem sd14_15 : mSnd g lau mt mm14 15 (o_il 16 1) := s_iload_n (j := 1) (by decide +kernel) rfl
theorem sd14_16 : mSnd g lau mt mm14 16 (o_il 18 4) := s_iload (by decide +kernel)
theorem sd14_18 : mSnd g lau mt mm14 18 (o_il 19 2) := s_iload_n (j := 2) (by decide +kernel) rfl
theorem sd14_19 : mSnd g lau mt mm14 19 (o_cV 22 8 3 1) := s_cV (m' := 8) (ci := 0) (idx := 35) (r0 := (RX0, TX0, 4)) ⟨cw_8.1, cw_8.2.1, cw_8.2.2, by decide⟩ tb_563 rfl (by decide) rfl tb_447 tb_448 (by decide +kernel)
theorem sd14_22 : mSnd g lau mt mm14 22 (o_eq0 25 32) := s_if_eq (off := 10) (by decide +kernel) rfl
theorem sd14_25 : mSnd g lau mt mm14 25 (o_il 26 3) := s_iload_n (j := 3) (by decide +kernel) rfl
theorem sd14_26 : mSnd g lau mt mm14 26 (o_ic 27 1) := s_iconst (n := 1) (by decide +kernel) rfl
theorem sd14_27 : mSnd g lau mt mm14 27 (o_il 29 4) := s_iload (by decide +kernel)
theorem sd14_29 : mSnd g lau mt mm14 29 (o_ii 30 (fun x y => x <<< (y &&& 31))) := s_ishl (by decide +kernel)
theorem sd14_30 : mSnd g lau mt mm14 30 (o_ii 31 (fun x y => x ||| y)) := s_ior (by decide +kernel)
theorem sd14_31 : mSnd g lau mt mm14 31 (o_ist 32 3) := s_istore_n (j := 3) (by decide +kernel) rfl
theorem sd14_32 : mSnd g lau mt mm14 32 (o_inc 35 4 1) := s_iinc (n := 1) (by decide +kernel) rfl
theorem sd14_35 : mSnd g lau mt mm14 35 (o_goto 5) := s_goto (off := (-30)) (by decide +kernel) rfl
theorem sd14_38 : mSnd g lau mt mm14 38 (o_il 39 3) := s_iload_n (j := 3) (by decide +kernel) rfl
theorem sd14_39 : mSnd g lau mt mm14 39 (o_ri) := s_ri (by decide +kernel) rfl
def op14 : Nat → mOp := fun pc => bif Nat.blt pc 19 then (bif Nat.blt pc 8 then (bif Nat.blt pc 3 then (bif Nat.blt pc 1 then (bif Nat.beq pc 0 then o_ic 1 0 else o_no) else (bif Nat.blt pc 2 then (bif Nat.beq pc 1 then o_ist 2 3 else o_no) else (bif Nat.beq pc 2 then o_ic 3 0 else o_no))) else (bif Nat.blt pc 5 then (bif Nat.beq pc 3 then o_ist 5 4 else o_no) else (bif Nat.blt pc 7 then (bif Nat.beq pc 5 then o_il 7 4 else o_no) else (bif Nat.beq pc 7 then o_al 8 0 else o_no)))) else (bif Nat.blt pc 15 then (bif Nat.blt pc 11 then (bif Nat.beq pc 8 then o_gI 11 1 0 else o_no) else (bif Nat.blt pc 14 then (bif Nat.beq pc 11 then o_ge 14 38 else o_no) else (bif Nat.beq pc 14 then o_al 15 0 else o_no))) else (bif Nat.blt pc 16 then (bif Nat.beq pc 15 then o_il 16 1 else o_no) else (bif Nat.blt pc 18 then (bif Nat.beq pc 16 then o_il 18 4 else o_no) else (bif Nat.beq pc 18 then o_il 19 2 else o_no))))) else (bif Nat.blt pc 30 then (bif Nat.blt pc 26 then (bif Nat.blt pc 22 then (bif Nat.beq pc 19 then o_cV 22 8 3 1 else o_no) else (bif Nat.blt pc 25 then (bif Nat.beq pc 22 then o_eq0 25 32 else o_no) else (bif Nat.beq pc 25 then o_il 26 3 else o_no))) else (bif Nat.blt pc 27 then (bif Nat.beq pc 26 then o_ic 27 1 else o_no) else (bif Nat.blt pc 29 then (bif Nat.beq pc 27 then o_il 29 4 else o_no) else (bif Nat.beq pc 29 then o_ii 30 (fun x y => x <<< (y &&& 31)) else o_no)))) else (bif Nat.blt pc 35 then (bif Nat.blt pc 31 then (bif Nat.beq pc 30 then o_ii 31 (fun x y => x ||| y) else o_no) else (bif Nat.blt pc 32 then (bif Nat.beq pc 31 then o_ist 32 3 else o_no) else (bif Nat.beq pc 32 then o_inc 35 4 1 else o_no))) else (bif Nat.blt pc 38 then (bif Nat.beq pc 35 then o_goto 5 else o_no) else (bif Nat.blt pc 39 then (bif Nat.beq pc 38 then o_il 39 3 else o_no) else (bif Nat.beq pc 39 then o_ri else o_no)))))
theorem sn14 (pc : Nat) : mSnd g lau mt mm14 pc (op14 pc) := s_bif (s_bif (s_bif (s_bif (s_leaf sd14_0) (s_bif (s_leaf sd14_1) (s_leaf sd14_2))) (s_bif (s_leaf sd14_3) (s_bif (s_leaf sd14_5) (s_leaf sd14_7)))) (s_bif (s_bif (s_leaf sd14_8) (s_bif (s_leaf sd14_11) (s_leaf sd14_14))) (s_bif (s_leaf sd14_15) (s_bif (s_leaf sd14_16) (s_leaf sd14_18))))) (s_bif (s_bif (s_bif (s_leaf sd14_19) (s_bif (s_leaf sd14_22) (s_leaf sd14_25))) (s_bif (s_leaf sd14_26) (s_bif (s_leaf sd14_27) (s_leaf sd14_29)))) (s_bif (s_bif (s_leaf sd14_30) (s_bif (s_leaf sd14_31) (s_leaf sd14_32))) (s_bif (s_leaf sd14_35) (s_bif (s_leaf sd14_38) (s_leaf sd14_39)))))
-- RoundVotes$Decisions.<init>()V
theorem sd15_0 : mSnd g lau mt mm15 0 (o_al 1 0) := s_aload_n (j := 0) (by decide +kernel) rfl
theorem sd15_1 : mSnd g lau mt mm15 1 (o_obj 4) := s_obj (idx := 3) tb_145 tb_21 tb_22 (by decide) (by decide) (by decide +kernel)
theorem sd15_4 : mSnd g lau mt mm15 4 (o_al 5 0) := s_aload_n (j := 0) (by decide +kernel) rfl
theorem sd15_5 : mSnd g lau mt mm15 5 (o_ic 7 41) := s_bipush (n := 41) (by decide +kernel) rfl
theorem sd15_7 : mSnd g lau mt mm15 7 (o_nwa 9 20) := s_newa (t := 20) (atype := .int) (by decide) (by decide) rfl (fun _ => rfl) (by decide) (fun _ _ h => h) tb_66 (by decide +kernel)
theorem sd15_9 : mSnd g lau mt mm15 9 (o_pP 12 3 0) := s_putP (ci := 2) (f := 0) (idx := 9) (C := RX2) (T := TX2) (N := 3) (by decide) rfl inX2 (by decide) tyX2 tyX2_ok nmX2 (Or.inr ⟨rfl, rfl⟩) tb_146 (by decide +kernel) (fun _ _ _ => rfl) rfl
theorem sd15_12 : mSnd g lau mt mm15 12 (o_al 13 0) := s_aload_n (j := 0) (by decide +kernel) rfl
theorem sd15_13 : mSnd g lau mt mm15 13 (o_ic 15 41) := s_bipush (n := 41) (by decide +kernel) rfl
theorem sd15_15 : mSnd g lau mt mm15 15 (o_nwa 17 20) := s_newa (t := 20) (atype := .int) (by decide) (by decide) rfl (fun _ => rfl) (by decide) (fun _ _ h => h) tb_66 (by decide +kernel)
theorem sd15_17 : mSnd g lau mt mm15 17 (o_pP 20 3 1) := s_putP (ci := 2) (f := 1) (idx := 15) (C := RX2) (T := TX2) (N := 3) (by decide) rfl inX2 (by decide) tyX2 tyX2_ok nmX2 (Or.inr ⟨rfl, rfl⟩) tb_149 (by decide +kernel) (fun _ _ _ => rfl) rfl
theorem sd15_20 : mSnd g lau mt mm15 20 (o_al 21 0) := s_aload_n (j := 0) (by decide +kernel) rfl
theorem sd15_21 : mSnd g lau mt mm15 21 (o_ic 23 41) := s_bipush (n := 41) (by decide +kernel) rfl
theorem sd15_23 : mSnd g lau mt mm15 23 (o_nwa 25 20) := s_newa (t := 20) (atype := .int) (by decide) (by decide) rfl (fun _ => rfl) (by decide) (fun _ _ h => h) tb_66 (by decide +kernel)
theorem sd15_25 : mSnd g lau mt mm15 25 (o_pP 28 3 2) := s_putP (ci := 2) (f := 2) (idx := 18) (C := RX2) (T := TX2) (N := 3) (by decide) rfl inX2 (by decide) tyX2 tyX2_ok nmX2 (Or.inr ⟨rfl, rfl⟩) tb_152 (by decide +kernel) (fun _ _ _ => rfl) rfl
theorem sd15_28 : mSnd g lau mt mm15 28 (o_rv) := s_rv (by decide +kernel) rfl
def op15 : Nat → mOp := fun pc => bif Nat.blt pc 13 then (bif Nat.blt pc 5 then (bif Nat.blt pc 1 then (bif Nat.beq pc 0 then o_al 1 0 else o_no) else (bif Nat.blt pc 4 then (bif Nat.beq pc 1 then o_obj 4 else o_no) else (bif Nat.beq pc 4 then o_al 5 0 else o_no))) else (bif Nat.blt pc 9 then (bif Nat.blt pc 7 then (bif Nat.beq pc 5 then o_ic 7 41 else o_no) else (bif Nat.beq pc 7 then o_nwa 9 20 else o_no)) else (bif Nat.blt pc 12 then (bif Nat.beq pc 9 then o_pP 12 3 0 else o_no) else (bif Nat.beq pc 12 then o_al 13 0 else o_no)))) else (bif Nat.blt pc 21 then (bif Nat.blt pc 17 then (bif Nat.blt pc 15 then (bif Nat.beq pc 13 then o_ic 15 41 else o_no) else (bif Nat.beq pc 15 then o_nwa 17 20 else o_no)) else (bif Nat.blt pc 20 then (bif Nat.beq pc 17 then o_pP 20 3 1 else o_no) else (bif Nat.beq pc 20 then o_al 21 0 else o_no))) else (bif Nat.blt pc 25 then (bif Nat.blt pc 23 then (bif Nat.beq pc 21 then o_ic 23 41 else o_no) else (bif Nat.beq pc 23 then o_nwa 25 20 else o_no)) else (bif Nat.blt pc 28 then (bif Nat.beq pc 25 then o_pP 28 3 2 else o_no) else (bif Nat.beq pc 28 then o_rv else o_no))))
theorem sn15 (pc : Nat) : mSnd g lau mt mm15 pc (op15 pc) := s_bif (s_bif (s_bif (s_leaf sd15_0) (s_bif (s_leaf sd15_1) (s_leaf sd15_4))) (s_bif (s_bif (s_leaf sd15_5) (s_leaf sd15_7)) (s_bif (s_leaf sd15_9) (s_leaf sd15_12)))) (s_bif (s_bif (s_bif (s_leaf sd15_13) (s_leaf sd15_15)) (s_bif (s_leaf sd15_17) (s_leaf sd15_20))) (s_bif (s_bif (s_leaf sd15_21) (s_leaf sd15_23)) (s_bif (s_leaf sd15_25) (s_leaf sd15_28))))
-- RoundVotes$Decisions.put(IIII)V
theorem sd16_0 : mSnd g lau mt mm16 0 (o_al 1 0) := s_aload_n (j := 0) (by decide +kernel) rfl
theorem sd16_1 : mSnd g lau mt mm16 1 (o_gP 4 3 0) := s_getP (ci := 2) (f := 0) (idx := 9) (C := RX2) (T := TX2) (N := 3) (by decide) rfl inX2 (by decide) (fun _ _ _ => rfl) tb_146 (by decide +kernel)
theorem sd16_4 : mSnd g lau mt mm16 4 (o_il 5 1) := s_iload_n (j := 1) (by decide +kernel) rfl
theorem sd16_5 : mSnd g lau mt mm16 5 (o_il 6 2) := s_iload_n (j := 2) (by decide +kernel) rfl
theorem sd16_6 : mSnd g lau mt mm16 6 (o_ias 7) := s_iast (by decide +kernel)
theorem sd16_7 : mSnd g lau mt mm16 7 (o_al 8 0) := s_aload_n (j := 0) (by decide +kernel) rfl
theorem sd16_8 : mSnd g lau mt mm16 8 (o_gP 11 3 1) := s_getP (ci := 2) (f := 1) (idx := 15) (C := RX2) (T := TX2) (N := 3) (by decide) rfl inX2 (by decide) (fun _ _ _ => rfl) tb_149 (by decide +kernel)
theorem sd16_11 : mSnd g lau mt mm16 11 (o_il 12 1) := s_iload_n (j := 1) (by decide +kernel) rfl
theorem sd16_12 : mSnd g lau mt mm16 12 (o_il 13 3) := s_iload_n (j := 3) (by decide +kernel) rfl
theorem sd16_13 : mSnd g lau mt mm16 13 (o_ias 14) := s_iast (by decide +kernel)
theorem sd16_14 : mSnd g lau mt mm16 14 (o_al 15 0) := s_aload_n (j := 0) (by decide +kernel) rfl
theorem sd16_15 : mSnd g lau mt mm16 15 (o_gP 18 3 2) := s_getP (ci := 2) (f := 2) (idx := 18) (C := RX2) (T := TX2) (N := 3) (by decide) rfl inX2 (by decide) (fun _ _ _ => rfl) tb_152 (by decide +kernel)
theorem sd16_18 : mSnd g lau mt mm16 18 (o_il 19 1) := s_iload_n (j := 1) (by decide +kernel) rfl
theorem sd16_19 : mSnd g lau mt mm16 19 (o_il 21 4) := s_iload (by decide +kernel)
theorem sd16_21 : mSnd g lau mt mm16 21 (o_ias 22) := s_iast (by decide +kernel)
theorem sd16_22 : mSnd g lau mt mm16 22 (o_rv) := s_rv (by decide +kernel) rfl
def op16 : Nat → mOp := fun pc => bif Nat.blt pc 12 then (bif Nat.blt pc 6 then (bif Nat.blt pc 4 then (bif Nat.blt pc 1 then (bif Nat.beq pc 0 then o_al 1 0 else o_no) else (bif Nat.beq pc 1 then o_gP 4 3 0 else o_no)) else (bif Nat.blt pc 5 then (bif Nat.beq pc 4 then o_il 5 1 else o_no) else (bif Nat.beq pc 5 then o_il 6 2 else o_no))) else (bif Nat.blt pc 8 then (bif Nat.blt pc 7 then (bif Nat.beq pc 6 then o_ias 7 else o_no) else (bif Nat.beq pc 7 then o_al 8 0 else o_no)) else (bif Nat.blt pc 11 then (bif Nat.beq pc 8 then o_gP 11 3 1 else o_no) else (bif Nat.beq pc 11 then o_il 12 1 else o_no)))) else (bif Nat.blt pc 18 then (bif Nat.blt pc 14 then (bif Nat.blt pc 13 then (bif Nat.beq pc 12 then o_il 13 3 else o_no) else (bif Nat.beq pc 13 then o_ias 14 else o_no)) else (bif Nat.blt pc 15 then (bif Nat.beq pc 14 then o_al 15 0 else o_no) else (bif Nat.beq pc 15 then o_gP 18 3 2 else o_no))) else (bif Nat.blt pc 21 then (bif Nat.blt pc 19 then (bif Nat.beq pc 18 then o_il 19 1 else o_no) else (bif Nat.beq pc 19 then o_il 21 4 else o_no)) else (bif Nat.blt pc 22 then (bif Nat.beq pc 21 then o_ias 22 else o_no) else (bif Nat.beq pc 22 then o_rv else o_no))))
theorem sn16 (pc : Nat) : mSnd g lau mt mm16 pc (op16 pc) := s_bif (s_bif (s_bif (s_bif (s_leaf sd16_0) (s_leaf sd16_1)) (s_bif (s_leaf sd16_4) (s_leaf sd16_5))) (s_bif (s_bif (s_leaf sd16_6) (s_leaf sd16_7)) (s_bif (s_leaf sd16_8) (s_leaf sd16_11)))) (s_bif (s_bif (s_bif (s_leaf sd16_12) (s_leaf sd16_13)) (s_bif (s_leaf sd16_14) (s_leaf sd16_15))) (s_bif (s_bif (s_leaf sd16_18) (s_leaf sd16_19)) (s_bif (s_leaf sd16_21) (s_leaf sd16_22))))
-- RoundVotes$Decisions.holds(I)Z
theorem sd17_0 : mSnd g lau mt mm17 0 (o_al 1 0) := s_aload_n (j := 0) (by decide +kernel) rfl
theorem sd17_1 : mSnd g lau mt mm17 1 (o_gP 4 3 0) := s_getP (ci := 2) (f := 0) (idx := 9) (C := RX2) (T := TX2) (N := 3) (by decide) rfl inX2 (by decide) (fun _ _ _ => rfl) tb_146 (by decide +kernel)
theorem sd17_4 : mSnd g lau mt mm17 4 (o_il 5 1) := s_iload_n (j := 1) (by decide +kernel) rfl
theorem sd17_5 : mSnd g lau mt mm17 5 (o_ial 6) := s_iald (by decide +kernel)
theorem sd17_6 : mSnd g lau mt mm17 6 (o_eq0 9 13) := s_if_eq (off := 7) (by decide +kernel) rfl
theorem sd17_9 : mSnd g lau mt mm17 9 (o_ic 10 1) := s_iconst (n := 1) (by decide +kernel) rfl
theorem sd17_10 : mSnd g lau mt mm17 10 (o_goto 14) := s_goto (off := 4) (by decide +kernel) rfl
theorem sd17_13 : mSnd g lau mt mm17 13 (o_ic 14 0) := s_iconst (n := 0) (by decide +kernel) rfl
theorem sd17_14 : mSnd g lau mt mm17 14 (o_rz) := s_rz (by decide +kernel) rfl
def op17 : Nat → mOp := fun pc => bif Nat.blt pc 6 then (bif Nat.blt pc 4 then (bif Nat.blt pc 1 then (bif Nat.beq pc 0 then o_al 1 0 else o_no) else (bif Nat.beq pc 1 then o_gP 4 3 0 else o_no)) else (bif Nat.blt pc 5 then (bif Nat.beq pc 4 then o_il 5 1 else o_no) else (bif Nat.beq pc 5 then o_ial 6 else o_no))) else (bif Nat.blt pc 10 then (bif Nat.blt pc 9 then (bif Nat.beq pc 6 then o_eq0 9 13 else o_no) else (bif Nat.beq pc 9 then o_ic 10 1 else o_no)) else (bif Nat.blt pc 13 then (bif Nat.beq pc 10 then o_goto 14 else o_no) else (bif Nat.blt pc 14 then (bif Nat.beq pc 13 then o_ic 14 0 else o_no) else (bif Nat.beq pc 14 then o_rz else o_no))))
theorem sn17 (pc : Nat) : mSnd g lau mt mm17 pc (op17 pc) := s_bif (s_bif (s_bif (s_leaf sd17_0) (s_leaf sd17_1)) (s_bif (s_leaf sd17_4) (s_leaf sd17_5))) (s_bif (s_bif (s_leaf sd17_6) (s_leaf sd17_9)) (s_bif (s_leaf sd17_10) (s_bif (s_leaf sd17_13) (s_leaf sd17_14))))
-- RoundVotes$Faults.<init>()V
theorem sd18_0 : mSnd g lau mt mm18 0 (o_al 1 0) := s_aload_n (j := 0) (by decide +kernel) rfl
theorem sd18_1 : mSnd g lau mt mm18 1 (o_obj 4) := s_obj (idx := 3) tb_72 tb_21 tb_22 (by decide) (by decide) (by decide +kernel)
theorem sd18_4 : mSnd g lau mt mm18 4 (o_al 5 0) := s_aload_n (j := 0) (by decide +kernel) rfl
theorem sd18_5 : mSnd g lau mt mm18 5 (o_ic 8 1200) := s_sipush (n := 1200) (by decide +kernel) rfl
theorem sd18_8 : mSnd g lau mt mm18 8 (o_nwa 10 20) := s_newa (t := 20) (atype := .int) (by decide) (by decide) rfl (fun _ => rfl) (by decide) (fun _ _ h => h) tb_66 (by decide +kernel)
theorem sd18_10 : mSnd g lau mt mm18 10 (o_pP 13 4 0) := s_putP (ci := 3) (f := 0) (idx := 11) (C := RX3) (T := TX3) (N := 2) (by decide) rfl inX3 (by decide) tyX3 tyX3_ok nmX3 (Or.inr ⟨rfl, rfl⟩) tb_73 (by decide +kernel) (fun _ _ _ => rfl) rfl
theorem sd18_13 : mSnd g lau mt mm18 13 (o_rv) := s_rv (by decide +kernel) rfl
def op18 : Nat → mOp := fun pc => bif Nat.blt pc 5 then (bif Nat.blt pc 1 then (bif Nat.beq pc 0 then o_al 1 0 else o_no) else (bif Nat.blt pc 4 then (bif Nat.beq pc 1 then o_obj 4 else o_no) else (bif Nat.beq pc 4 then o_al 5 0 else o_no))) else (bif Nat.blt pc 10 then (bif Nat.blt pc 8 then (bif Nat.beq pc 5 then o_ic 8 1200 else o_no) else (bif Nat.beq pc 8 then o_nwa 10 20 else o_no)) else (bif Nat.blt pc 13 then (bif Nat.beq pc 10 then o_pP 13 4 0 else o_no) else (bif Nat.beq pc 13 then o_rv else o_no)))
theorem sn18 (pc : Nat) : mSnd g lau mt mm18 pc (op18 pc) := s_bif (s_bif (s_leaf sd18_0) (s_bif (s_leaf sd18_1) (s_leaf sd18_4))) (s_bif (s_bif (s_leaf sd18_5) (s_leaf sd18_8)) (s_bif (s_leaf sd18_10) (s_leaf sd18_13)))
-- RoundVotes$Faults.add(LRoundVotes$Message;I)V
theorem sd19_0 : mSnd g lau mt mm19 0 (o_al 1 0) := s_aload_n (j := 0) (by decide +kernel) rfl
theorem sd19_1 : mSnd g lau mt mm19 1 (o_gI 4 4 1) := s_getI (ci := 3) (f := 1) (idx := 15) (C := RX3) (T := TX3) (N := 2) (by decide) rfl inX3 (by decide) (fun _ _ _ => rfl) tb_74 (by decide +kernel)
theorem sd19_4 : mSnd g lau mt mm19 4 (o_ic 7 200) := s_sipush (n := 200) (by decide +kernel) rfl
theorem sd19_7 : mSnd g lau mt mm19 7 (o_ge 10 18) := s_icmp_ge (off := 11) (by decide +kernel) rfl
theorem sd19_10 : mSnd g lau mt mm19 10 (o_al 11 0) := s_aload_n (j := 0) (by decide +kernel) rfl
theorem sd19_11 : mSnd g lau mt mm19 11 (o_al 12 1) := s_aload_n (j := 1) (by decide +kernel) rfl
theorem sd19_12 : mSnd g lau mt mm19 12 (o_cV 15 20 1 4) := s_cV (m' := 20) (ci := 3) (idx := 19) (r0 := (RX3, TX3, 2)) ⟨cw_20.1, cw_20.2.1, cw_20.2.2, by decide⟩ tb_616 rfl (by decide) rfl tb_618 tb_s25 (by decide +kernel)
theorem sd19_15 : mSnd g lau mt mm19 15 (o_eq0 18 19) := s_if_eq (off := 4) (by decide +kernel) rfl
theorem sd19_18 : mSnd g lau mt mm19 18 (o_rv) := s_rv (by decide +kernel) rfl
theorem sd19_19 : mSnd g lau mt mm19 19 (o_al 20 0) := s_aload_n (j := 0) (by decide +kernel) rfl
theorem sd19_20 : mSnd g lau mt mm19 20 (o_gI 23 4 1) := s_getI (ci := 3) (f := 1) (idx := 15) (C := RX3) (T := TX3) (N := 2) (by decide) rfl inX3 (by decide) (fun _ _ _ => rfl) tb_74 (by decide +kernel)
theorem sd19_23 : mSnd g lau mt mm19 23 (o_ic 25 6) := s_bipush (n := 6) (by decide +kernel) rfl
theorem sd19_25 : mSnd g lau mt mm19 25 (o_ii 26 (fun x y => x * y)) := s_imul (by decide +kernel)
theorem sd19_26 : mSnd g lau mt mm19 26 (o_ist 27 3) := s_istore_n (j := 3) (by decide +kernel) rfl
theorem sd19_27 : mSnd g lau mt mm19 27 (o_al 28 0) := s_aload_n (j := 0) (by decide +kernel) rfl
theorem sd19_28 : mSnd g lau mt mm19 28 (o_gP 31 4 0) := s_getP (ci := 3) (f := 0) (idx := 11) (C := RX3) (T := TX3) (N := 2) (by decide) rfl inX3 (by decide) (fun _ _ _ => rfl) tb_73 (by decide +kernel)
theorem sd19_31 : mSnd g lau mt mm19 31 (o_il 32 3) := s_iload_n (j := 3) (by decide +kernel) rfl
theorem sd19_32 : mSnd g lau mt mm19 32 (o_ic 33 0) := s_iconst (n := 0) (by decide +kernel) rfl
theorem sd19_33 : mSnd g lau mt mm19 33 (o_ii 34 (fun x y => x + y)) := s_iadd (by decide +kernel)
theorem sd19_34 : mSnd g lau mt mm19 34 (o_al 35 1) := s_aload_n (j := 1) (by decide +kernel) rfl
theorem sd19_35 : mSnd g lau mt mm19 35 (o_gI 38 6 0) := s_getI (ci := 5) (f := 0) (idx := 23) (C := RX5) (T := TX5) (N := 9) (by decide) rfl inX5 (by decide) (fun _ _ _ => rfl) tb_212 (by decide +kernel)
theorem sd19_38 : mSnd g lau mt mm19 38 (o_ias 39) := s_iast (by decide +kernel)
theorem sd19_39 : mSnd g lau mt mm19 39 (o_al 40 0) := s_aload_n (j := 0) (by decide +kernel) rfl
theorem sd19_40 : mSnd g lau mt mm19 40 (o_gP 43 4 0) := s_getP (ci := 3) (f := 0) (idx := 11) (C := RX3) (T := TX3) (N := 2) (by decide) rfl inX3 (by decide) (fun _ _ _ => rfl) tb_73 (by decide +kernel)
theorem sd19_43 : mSnd g lau mt mm19 43 (o_il 44 3) := s_iload_n (j := 3) (by decide +kernel) rfl
theorem sd19_44 : mSnd g lau mt mm19 44 (o_ic 45 1) := s_iconst (n := 1) (by decide +kernel) rfl
theorem sd19_45 : mSnd g lau mt mm19 45 (o_ii 46 (fun x y => x + y)) := s_iadd (by decide +kernel)
theorem sd19_46 : mSnd g lau mt mm19 46 (o_al 47 1) := s_aload_n (j := 1) (by decide +kernel) rfl
theorem sd19_47 : mSnd g lau mt mm19 47 (o_gI 50 6 2) := s_getI (ci := 5) (f := 2) (idx := 28) (C := RX5) (T := TX5) (N := 9) (by decide) rfl inX5 (by decide) (fun _ _ _ => rfl) tb_219 (by decide +kernel)
theorem sd19_50 : mSnd g lau mt mm19 50 (o_ias 51) := s_iast (by decide +kernel)
theorem sd19_51 : mSnd g lau mt mm19 51 (o_al 52 0) := s_aload_n (j := 0) (by decide +kernel) rfl
theorem sd19_52 : mSnd g lau mt mm19 52 (o_gP 55 4 0) := s_getP (ci := 3) (f := 0) (idx := 11) (C := RX3) (T := TX3) (N := 2) (by decide) rfl inX3 (by decide) (fun _ _ _ => rfl) tb_73 (by decide +kernel)
theorem sd19_55 : mSnd g lau mt mm19 55 (o_il 56 3) := s_iload_n (j := 3) (by decide +kernel) rfl
theorem sd19_56 : mSnd g lau mt mm19 56 (o_ic 57 2) := s_iconst (n := 2) (by decide +kernel) rfl
theorem sd19_57 : mSnd g lau mt mm19 57 (o_ii 58 (fun x y => x + y)) := s_iadd (by decide +kernel)
theorem sd19_58 : mSnd g lau mt mm19 58 (o_al 59 1) := s_aload_n (j := 1) (by decide +kernel) rfl
theorem sd19_59 : mSnd g lau mt mm19 59 (o_gI 62 6 3) := s_getI (ci := 5) (f := 3) (idx := 31) (C := RX5) (T := TX5) (N := 9) (by decide) rfl inX5 (by decide) (fun _ _ _ => rfl) tb_223 (by decide +kernel)
theorem sd19_62 : mSnd g lau mt mm19 62 (o_ias 63) := s_iast (by decide +kernel)
theorem sd19_63 : mSnd g lau mt mm19 63 (o_al 64 0) := s_aload_n (j := 0) (by decide +kernel) rfl
theorem sd19_64 : mSnd g lau mt mm19 64 (o_gP 67 4 0) := s_getP (ci := 3) (f := 0) (idx := 11) (C := RX3) (T := TX3) (N := 2) (by decide) rfl inX3 (by decide) (fun _ _ _ => rfl) tb_73 (by decide +kernel)
theorem sd19_67 : mSnd g lau mt mm19 67 (o_il 68 3) := s_iload_n (j := 3) (by decide +kernel) rfl
theorem sd19_68 : mSnd g lau mt mm19 68 (o_ic 69 3) := s_iconst (n := 3) (by decide +kernel) rfl
theorem sd19_69 : mSnd g lau mt mm19 69 (o_ii 70 (fun x y => x + y)) := s_iadd (by decide +kernel)
theorem sd19_70 : mSnd g lau mt mm19 70 (o_al 71 1) := s_aload_n (j := 1) (by decide +kernel) rfl
theorem sd19_71 : mSnd g lau mt mm19 71 (o_gI 74 6 4) := s_getI (ci := 5) (f := 4) (idx := 34) (C := RX5) (T := TX5) (N := 9) (by decide) rfl inX5 (by decide) (fun _ _ _ => rfl) tb_227 (by decide +kernel)
theorem sd19_74 : mSnd g lau mt mm19 74 (o_ias 75) := s_iast (by decide +kernel)
theorem sd19_75 : mSnd g lau mt mm19 75 (o_al 76 0) := s_aload_n (j := 0) (by decide +kernel) rfl
theorem sd19_76 : mSnd g lau mt mm19 76 (o_gP 79 4 0) := s_getP (ci := 3) (f := 0) (idx := 11) (C := RX3) (T := TX3) (N := 2) (by decide) rfl inX3 (by decide) (fun _ _ _ => rfl) tb_73 (by decide +kernel)
theorem sd19_79 : mSnd g lau mt mm19 79 (o_il 80 3) := s_iload_n (j := 3) (by decide +kernel) rfl
theorem sd19_80 : mSnd g lau mt mm19 80 (o_ic 81 4) := s_iconst (n := 4) (by decide +kernel) rfl
theorem sd19_81 : mSnd g lau mt mm19 81 (o_ii 82 (fun x y => x + y)) := s_iadd (by decide +kernel)
theorem sd19_82 : mSnd g lau mt mm19 82 (o_al 83 1) := s_aload_n (j := 1) (by decide +kernel) rfl
theorem sd19_83 : mSnd g lau mt mm19 83 (o_gI 86 6 1) := s_getI (ci := 5) (f := 1) (idx := 37) (C := RX5) (T := TX5) (N := 9) (by decide) rfl inX5 (by decide) (fun _ _ _ => rfl) tb_216 (by decide +kernel)
theorem sd19_86 : mSnd g lau mt mm19 86 (o_ias 87) := s_iast (by decide +kernel)
theorem sd19_87 : mSnd g lau mt mm19 87 (o_al 88 0) := s_aload_n (j := 0) (by decide +kernel) rfl
theorem sd19_88 : mSnd g lau mt mm19 88 (o_gP 91 4 0) := s_getP (ci := 3) (f := 0) (idx := 11) (C := RX3) (T := TX3) (N := 2) (by decide) rfl inX3 (by decide) (fun _ _ _ => rfl) tb_73 (by decide +kernel)
theorem sd19_91 : mSnd g lau mt mm19 91 (o_il 92 3) := s_iload_n (j := 3) (by decide +kernel) rfl
theorem sd19_92 : mSnd g lau mt mm19 92 (o_ic 93 5) := s_iconst (n := 5) (by decide +kernel) rfl
theorem sd19_93 : mSnd g lau mt mm19 93 (o_ii 94 (fun x y => x + y)) := s_iadd (by decide +kernel)
theorem sd19_94 : mSnd g lau mt mm19 94 (o_il 95 2) := s_iload_n (j := 2) (by decide +kernel) rfl
theorem sd19_95 : mSnd g lau mt mm19 95 (o_ias 96) := s_iast (by decide +kernel)
theorem sd19_96 : mSnd g lau mt mm19 96 (o_al 97 0) := s_aload_n (j := 0) (by decide +kernel) rfl
theorem sd19_97 : mSnd g lau mt mm19 97 (o_dup 98) := s_dup (by decide +kernel)
theorem sd19_98 : mSnd g lau mt mm19 98 (o_gI 101 4 1) := s_getI (ci := 3) (f := 1) (idx := 15) (C := RX3) (T := TX3) (N := 2) (by decide) rfl inX3 (by decide) (fun _ _ _ => rfl) tb_74 (by decide +kernel)
theorem sd19_101 : mSnd g lau mt mm19 101 (o_ic 102 1) := s_iconst (n := 1) (by decide +kernel) rfl
theorem sd19_102 : mSnd g lau mt mm19 102 (o_ii 103 (fun x y => x + y)) := s_iadd (by decide +kernel)
theorem sd19_103 : mSnd g lau mt mm19 103 (o_pI 106 4 1) := s_putI (ci := 3) (f := 1) (idx := 15) (C := RX3) (T := TX3) (N := 2) (by decide) rfl inX3 (by decide) tyX3 tyX3_ok nmX3 (Or.inl rfl) tb_74 (by decide +kernel) (fun _ _ _ => rfl) rfl
theorem sd19_106 : mSnd g lau mt mm19 106 (o_rv) := s_rv (by decide +kernel) rfl
def op19 : Nat → mOp := fun pc => bif Nat.blt pc 57 then (bif Nat.blt pc 32 then (bif Nat.blt pc 18 then (bif Nat.blt pc 10 then (bif Nat.blt pc 4 then (bif Nat.blt pc 1 then (bif Nat.beq pc 0 then o_al 1 0 else o_no) else (bif Nat.beq pc 1 then o_gI 4 4 1 else o_no)) else (bif Nat.blt pc 7 then (bif Nat.beq pc 4 then o_ic 7 200 else o_no) else (bif Nat.beq pc 7 then o_ge 10 18 else o_no))) else (bif Nat.blt pc 12 then (bif Nat.blt pc 11 then (bif Nat.beq pc 10 then o_al 11 0 else o_no) else (bif Nat.beq pc 11 then o_al 12 1 else o_no)) else (bif Nat.blt pc 15 then (bif Nat.beq pc 12 then o_cV 15 20 1 4 else o_no) else (bif Nat.beq pc 15 then o_eq0 18 19 else o_no)))) else (bif Nat.blt pc 25 then (bif Nat.blt pc 20 then (bif Nat.blt pc 19 then (bif Nat.beq pc 18 then o_rv else o_no) else (bif Nat.beq pc 19 then o_al 20 0 else o_no)) else (bif Nat.blt pc 23 then (bif Nat.beq pc 20 then o_gI 23 4 1 else o_no) else (bif Nat.beq pc 23 then o_ic 25 6 else o_no))) else (bif Nat.blt pc 27 then (bif Nat.blt pc 26 then (bif Nat.beq pc 25 then o_ii 26 (fun x y => x * y) else o_no) else (bif Nat.beq pc 26 then o_ist 27 3 else o_no)) else (bif Nat.blt pc 28 then (bif Nat.beq pc 27 then o_al 28 0 else o_no) else (bif Nat.blt pc 31 then (bif Nat.beq pc 28 then o_gP 31 4 0 else o_no) else (bif Nat.beq pc 31 then o_il 32 3 else o_no)))))) else (bif Nat.blt pc 44 then (bif Nat.blt pc 38 then (bif Nat.blt pc 34 then (bif Nat.blt pc 33 then (bif Nat.beq pc 32 then o_ic 33 0 else o_no) else (bif Nat.beq pc 33 then o_ii 34 (fun x y => x + y) else o_no)) else (bif Nat.blt pc 35 then (bif Nat.beq pc 34 then o_al 35 1 else o_no) else (bif Nat.beq pc 35 then o_gI 38 6 0 else o_no))) else (bif Nat.blt pc 40 then (bif Nat.blt pc 39 then (bif Nat.beq pc 38 then o_ias 39 else o_no) else (bif Nat.beq pc 39 then o_al 40 0 else o_no)) else (bif Nat.blt pc 43 then (bif Nat.beq pc 40 then o_gP 43 4 0 else o_no) else (bif Nat.beq pc 43 then o_il 44 3 else o_no)))) else (bif Nat.blt pc 50 then (bif Nat.blt pc 46 then (bif Nat.blt pc 45 then (bif Nat.beq pc 44 then o_ic 45 1 else o_no) else (bif Nat.beq pc 45 then o_ii 46 (fun x y => x + y) else o_no)) else (bif Nat.blt pc 47 then (bif Nat.beq pc 46 then o_al 47 1 else o_no) else (bif Nat.beq pc 47 then o_gI 50 6 2 else o_no))) else (bif Nat.blt pc 52 then (bif Nat.blt pc 51 then (bif Nat.beq pc 50 then o_ias 51 else o_no) else (bif Nat.beq pc 51 then o_al 52 0 else o_no)) else (bif Nat.blt pc 55 then (bif Nat.beq pc 52 then o_gP 55 4 0 else o_no) else (bif Nat.blt pc 56 then (bif Nat.beq pc 55 then o_il 56 3 else o_no) else (bif Nat.beq pc 56 then o_ic 57 2 else o_no))))))) else (bif Nat.blt pc 82 then (bif Nat.blt pc 69 then (bif Nat.blt pc 63 then (bif Nat.blt pc 59 then (bif Nat.blt pc 58 then (bif Nat.beq pc 57 then o_ii 58 (fun x y => x + y) else o_no) else (bif Nat.beq pc 58 then o_al 59 1 else o_no)) else (bif Nat.blt pc 62 then (bif Nat.beq pc 59 then o_gI 62 6 3 else o_no) else (bif Nat.beq pc 62 then o_ias 63 else o_no))) else (bif Nat.blt pc 67 then (bif Nat.blt pc 64 then (bif Nat.beq pc 63 then o_al 64 0 else o_no) else (bif Nat.beq pc 64 then o_gP 67 4 0 else o_no)) else (bif Nat.blt pc 68 then (bif Nat.beq pc 67 then o_il 68 3 else o_no) else (bif Nat.beq pc 68 then o_ic 69 3 else o_no)))) else (bif Nat.blt pc 75 then (bif Nat.blt pc 71 then (bif Nat.blt pc 70 then (bif Nat.beq pc 69 then o_ii 70 (fun x y => x + y) else o_no) else (bif Nat.beq pc 70 then o_al 71 1 else o_no)) else (bif Nat.blt pc 74 then (bif Nat.beq pc 71 then o_gI 74 6 4 else o_no) else (bif Nat.beq pc 74 then o_ias 75 else o_no))) else (bif Nat.blt pc 79 then (bif Nat.blt pc 76 then (bif Nat.beq pc 75 then o_al 76 0 else o_no) else (bif Nat.beq pc 76 then o_gP 79 4 0 else o_no)) else (bif Nat.blt pc 80 then (bif Nat.beq pc 79 then o_il 80 3 else o_no) else (bif Nat.blt pc 81 then (bif Nat.beq pc 80 then o_ic 81 4 else o_no) else (bif Nat.beq pc 81 then o_ii 82 (fun x y => x + y) else o_no)))))) else (bif Nat.blt pc 94 then (bif Nat.blt pc 88 then (bif Nat.blt pc 86 then (bif Nat.blt pc 83 then (bif Nat.beq pc 82 then o_al 83 1 else o_no) else (bif Nat.beq pc 83 then o_gI 86 6 1 else o_no)) else (bif Nat.blt pc 87 then (bif Nat.beq pc 86 then o_ias 87 else o_no) else (bif Nat.beq pc 87 then o_al 88 0 else o_no))) else (bif Nat.blt pc 92 then (bif Nat.blt pc 91 then (bif Nat.beq pc 88 then o_gP 91 4 0 else o_no) else (bif Nat.beq pc 91 then o_il 92 3 else o_no)) else (bif Nat.blt pc 93 then (bif Nat.beq pc 92 then o_ic 93 5 else o_no) else (bif Nat.beq pc 93 then o_ii 94 (fun x y => x + y) else o_no)))) else (bif Nat.blt pc 98 then (bif Nat.blt pc 96 then (bif Nat.blt pc 95 then (bif Nat.beq pc 94 then o_il 95 2 else o_no) else (bif Nat.beq pc 95 then o_ias 96 else o_no)) else (bif Nat.blt pc 97 then (bif Nat.beq pc 96 then o_al 97 0 else o_no) else (bif Nat.beq pc 97 then o_dup 98 else o_no))) else (bif Nat.blt pc 102 then (bif Nat.blt pc 101 then (bif Nat.beq pc 98 then o_gI 101 4 1 else o_no) else (bif Nat.beq pc 101 then o_ic 102 1 else o_no)) else (bif Nat.blt pc 103 then (bif Nat.beq pc 102 then o_ii 103 (fun x y => x + y) else o_no) else (bif Nat.blt pc 106 then (bif Nat.beq pc 103 then o_pI 106 4 1 else o_no) else (bif Nat.beq pc 106 then o_rv else o_no)))))))
theorem sn19 (pc : Nat) : mSnd g lau mt mm19 pc (op19 pc) := s_bif (s_bif (s_bif (s_bif (s_bif (s_bif (s_leaf sd19_0) (s_leaf sd19_1)) (s_bif (s_leaf sd19_4) (s_leaf sd19_7))) (s_bif (s_bif (s_leaf sd19_10) (s_leaf sd19_11)) (s_bif (s_leaf sd19_12) (s_leaf sd19_15)))) (s_bif (s_bif (s_bif (s_leaf sd19_18) (s_leaf sd19_19)) (s_bif (s_leaf sd19_20) (s_leaf sd19_23))) (s_bif (s_bif (s_leaf sd19_25) (s_leaf sd19_26)) (s_bif (s_leaf sd19_27) (s_bif (s_leaf sd19_28) (s_leaf sd19_31)))))) (s_bif (s_bif (s_bif (s_bif (s_leaf sd19_32) (s_leaf sd19_33)) (s_bif (s_leaf sd19_34) (s_leaf sd19_35))) (s_bif (s_bif (s_leaf sd19_38) (s_leaf sd19_39)) (s_bif (s_leaf sd19_40) (s_leaf sd19_43)))) (s_bif (s_bif (s_bif (s_leaf sd19_44) (s_leaf sd19_45)) (s_bif (s_leaf sd19_46) (s_leaf sd19_47))) (s_bif (s_bif (s_leaf sd19_50) (s_leaf sd19_51)) (s_bif (s_leaf sd19_52) (s_bif (s_leaf sd19_55) (s_leaf sd19_56))))))) (s_bif (s_bif (s_bif (s_bif (s_bif (s_leaf sd19_57) (s_leaf sd19_58)) (s_bif (s_leaf sd19_59) (s_leaf sd19_62))) (s_bif (s_bif (s_leaf sd19_63) (s_leaf sd19_64)) (s_bif (s_leaf sd19_67) (s_leaf sd19_68)))) (s_bif (s_bif (s_bif (s_leaf sd19_69) (s_leaf sd19_70)) (s_bif (s_leaf sd19_71) (s_leaf sd19_74))) (s_bif (s_bif (s_leaf sd19_75) (s_leaf sd19_76)) (s_bif (s_leaf sd19_79) (s_bif (s_leaf sd19_80) (s_leaf sd19_81)))))) (s_bif (s_bif (s_bif (s_bif (s_leaf sd19_82) (s_leaf sd19_83)) (s_bif (s_leaf sd19_86) (s_leaf sd19_87))) (s_bif (s_bif (s_leaf sd19_88) (s_leaf sd19_91)) (s_bif (s_leaf sd19_92) (s_leaf sd19_93)))) (s_bif (s_bif (s_bif (s_leaf sd19_94) (s_leaf sd19_95)) (s_bif (s_leaf sd19_96) (s_leaf sd19_97))) (s_bif (s_bif (s_leaf sd19_98) (s_leaf sd19_101)) (s_bif (s_leaf sd19_102) (s_bif (s_leaf sd19_103) (s_leaf sd19_106)))))))
-- RoundVotes$Faults.isKnown(LRoundVotes$Message;)Z
theorem sd20_0 : mSnd g lau mt mm20 0 (o_ic 1 0) := s_iconst (n := 0) (by decide +kernel) rfl
theorem sd20_1 : mSnd g lau mt mm20 1 (o_ist 2 2) := s_istore_n (j := 2) (by decide +kernel) rfl
theorem sd20_2 : mSnd g lau mt mm20 2 (o_il 3 2) := s_iload_n (j := 2) (by decide +kernel) rfl
theorem sd20_3 : mSnd g lau mt mm20 3 (o_al 4 0) := s_aload_n (j := 0) (by decide +kernel) rfl
theorem sd20_4 : mSnd g lau mt mm20 4 (o_gI 7 4 1) := s_getI (ci := 3) (f := 1) (idx := 15) (C := RX3) (T := TX3) (N := 2) (by decide) rfl inX3 (by decide) (fun _ _ _ => rfl) tb_74 (by decide +kernel)
theorem sd20_7 : mSnd g lau mt mm20 7 (o_ge 10 80) := s_icmp_ge (off := 73) (by decide +kernel) rfl
theorem sd20_10 : mSnd g lau mt mm20 10 (o_al 11 0) := s_aload_n (j := 0) (by decide +kernel) rfl
theorem sd20_11 : mSnd g lau mt mm20 11 (o_il 12 2) := s_iload_n (j := 2) (by decide +kernel) rfl
theorem sd20_12 : mSnd g lau mt mm20 12 (o_ic 13 0) := s_iconst (n := 0) (by decide +kernel) rfl
theorem sd20_13 : mSnd g lau mt mm20 13 (o_cV 16 21 2 4) := s_cV (m' := 21) (ci := 3) (idx := 40) (r0 := (RX3, TX3, 2)) ⟨cw_21.1, cw_21.2.1, cw_21.2.2, by decide⟩ tb_620 rfl (by decide) rfl tb_621 tb_622 (by decide +kernel)
theorem sd20_16 : mSnd g lau mt mm20 16 (o_al 17 1) := s_aload_n (j := 1) (by decide +kernel) rfl
theorem sd20_17 : mSnd g lau mt mm20 17 (o_gI 20 6 0) := s_getI (ci := 5) (f := 0) (idx := 23) (C := RX5) (T := TX5) (N := 9) (by decide) rfl inX5 (by decide) (fun _ _ _ => rfl) tb_212 (by decide +kernel)
theorem sd20_20 : mSnd g lau mt mm20 20 (o_ne 23 40) := s_icmp_ne (off := 20) (by decide +kernel) rfl
theorem sd20_23 : mSnd g lau mt mm20 23 (o_al 24 0) := s_aload_n (j := 0) (by decide +kernel) rfl
theorem sd20_24 : mSnd g lau mt mm20 24 (o_il 25 2) := s_iload_n (j := 2) (by decide +kernel) rfl
theorem sd20_25 : mSnd g lau mt mm20 25 (o_ic 26 1) := s_iconst (n := 1) (by decide +kernel) rfl
theorem sd20_26 : mSnd g lau mt mm20 26 (o_cV 29 21 2 4) := s_cV (m' := 21) (ci := 3) (idx := 40) (r0 := (RX3, TX3, 2)) ⟨cw_21.1, cw_21.2.1, cw_21.2.2, by decide⟩ tb_620 rfl (by decide) rfl tb_621 tb_622 (by decide +kernel)
theorem sd20_29 : mSnd g lau mt mm20 29 (o_al 30 1) := s_aload_n (j := 1) (by decide +kernel) rfl
theorem sd20_30 : mSnd g lau mt mm20 30 (o_gI 33 6 2) := s_getI (ci := 5) (f := 2) (idx := 28) (C := RX5) (T := TX5) (N := 9) (by decide) rfl inX5 (by decide) (fun _ _ _ => rfl) tb_219 (by decide +kernel)
theorem sd20_33 : mSnd g lau mt mm20 33 (o_ne 36 40) := s_icmp_ne (off := 7) (by decide +kernel) rfl
theorem sd20_36 : mSnd g lau mt mm20 36 (o_ic 37 1) := s_iconst (n := 1) (by decide +kernel) rfl
theorem sd20_37 : mSnd g lau mt mm20 37 (o_goto 41) := s_goto (off := 4) (by decide +kernel) rfl
theorem sd20_40 : mSnd g lau mt mm20 40 (o_ic 41 0) := s_iconst (n := 0) (by decide +kernel) rfl
theorem sd20_41 : mSnd g lau mt mm20 41 (o_ist 42 3) := s_istore_n (j := 3) (by decide +kernel) rfl
theorem sd20_42 : mSnd g lau mt mm20 42 (o_il 43 3) := s_iload_n (j := 3) (by decide +kernel) rfl
theorem sd20_43 : mSnd g lau mt mm20 43 (o_eq0 46 74) := s_if_eq (off := 31) (by decide +kernel) rfl
theorem sd20_46 : mSnd g lau mt mm20 46 (o_al 47 0) := s_aload_n (j := 0) (by decide +kernel) rfl
theorem sd20_47 : mSnd g lau mt mm20 47 (o_il 48 2) := s_iload_n (j := 2) (by decide +kernel) rfl
theorem sd20_48 : mSnd g lau mt mm20 48 (o_ic 49 2) := s_iconst (n := 2) (by decide +kernel) rfl
theorem sd20_49 : mSnd g lau mt mm20 49 (o_cV 52 21 2 4) := s_cV (m' := 21) (ci := 3) (idx := 40) (r0 := (RX3, TX3, 2)) ⟨cw_21.1, cw_21.2.1, cw_21.2.2, by decide⟩ tb_620 rfl (by decide) rfl tb_621 tb_622 (by decide +kernel)
theorem sd20_52 : mSnd g lau mt mm20 52 (o_al 53 1) := s_aload_n (j := 1) (by decide +kernel) rfl
theorem sd20_53 : mSnd g lau mt mm20 53 (o_gI 56 6 3) := s_getI (ci := 5) (f := 3) (idx := 31) (C := RX5) (T := TX5) (N := 9) (by decide) rfl inX5 (by decide) (fun _ _ _ => rfl) tb_223 (by decide +kernel)
theorem sd20_56 : mSnd g lau mt mm20 56 (o_ne 59 74) := s_icmp_ne (off := 18) (by decide +kernel) rfl
theorem sd20_59 : mSnd g lau mt mm20 59 (o_al 60 0) := s_aload_n (j := 0) (by decide +kernel) rfl
theorem sd20_60 : mSnd g lau mt mm20 60 (o_il 61 2) := s_iload_n (j := 2) (by decide +kernel) rfl
theorem sd20_61 : mSnd g lau mt mm20 61 (o_ic 62 3) := s_iconst (n := 3) (by decide +kernel) rfl
theorem sd20_62 : mSnd g lau mt mm20 62 (o_cV 65 21 2 4) := s_cV (m' := 21) (ci := 3) (idx := 40) (r0 := (RX3, TX3, 2)) ⟨cw_21.1, cw_21.2.1, cw_21.2.2, by decide⟩ tb_620 rfl (by decide) rfl tb_621 tb_622 (by decide +kernel)
theorem sd20_65 : mSnd g lau mt mm20 65 (o_al 66 1) := s_aload_n (j := 1) (by decide +kernel) rfl
theorem sd20_66 : mSnd g lau mt mm20 66 (o_gI 69 6 4) := s_getI (ci := 5) (f := 4) (idx := 34) (C := RX5) (T := TX5) (N := 9) (by decide) rfl inX5 (by decide) (fun _ _ _ => rfl) tb_227 (by decide +kernel)
theorem sd20_69 : mSnd g lau mt mm20 69 (o_ne 72 74) := s_icmp_ne (off := 5) (by decide +kernel) rfl
theorem sd20_72 : mSnd g lau mt mm20 72 (o_ic 73 1) := s_iconst (n := 1) (by decide +kernel) rfl
theorem sd20_73 : mSnd g lau mt mm20 73 (o_rz) := s_rz (by decide +kernel) rfl
theorem sd20_74 : mSnd g lau mt mm20 74 (o_inc 77 2 1) := s_iinc (n := 1) (by decide +kernel) rfl
theorem sd20_77 : mSnd g lau mt mm20 77 (o_goto 2) := s_goto (off := (-75)) (by decide +kernel) rfl
theorem sd20_80 : mSnd g lau mt mm20 80 (o_ic 81 0) := s_iconst (n := 0) (by decide +kernel) rfl
theorem sd20_81 : mSnd g lau mt mm20 81 (o_rz) := s_rz (by decide +kernel) rfl
def op20 : Nat → mOp := fun pc => bif Nat.blt pc 41 then (bif Nat.blt pc 17 then (bif Nat.blt pc 7 then (bif Nat.blt pc 2 then (bif Nat.blt pc 1 then (bif Nat.beq pc 0 then o_ic 1 0 else o_no) else (bif Nat.beq pc 1 then o_ist 2 2 else o_no)) else (bif Nat.blt pc 3 then (bif Nat.beq pc 2 then o_il 3 2 else o_no) else (bif Nat.blt pc 4 then (bif Nat.beq pc 3 then o_al 4 0 else o_no) else (bif Nat.beq pc 4 then o_gI 7 4 1 else o_no)))) else (bif Nat.blt pc 12 then (bif Nat.blt pc 10 then (bif Nat.beq pc 7 then o_ge 10 80 else o_no) else (bif Nat.blt pc 11 then (bif Nat.beq pc 10 then o_al 11 0 else o_no) else (bif Nat.beq pc 11 then o_il 12 2 else o_no))) else (bif Nat.blt pc 13 then (bif Nat.beq pc 12 then o_ic 13 0 else o_no) else (bif Nat.blt pc 16 then (bif Nat.beq pc 13 then o_cV 16 21 2 4 else o_no) else (bif Nat.beq pc 16 then o_al 17 1 else o_no))))) else (bif Nat.blt pc 29 then (bif Nat.blt pc 24 then (bif Nat.blt pc 20 then (bif Nat.beq pc 17 then o_gI 20 6 0 else o_no) else (bif Nat.blt pc 23 then (bif Nat.beq pc 20 then o_ne 23 40 else o_no) else (bif Nat.beq pc 23 then o_al 24 0 else o_no))) else (bif Nat.blt pc 25 then (bif Nat.beq pc 24 then o_il 25 2 else o_no) else (bif Nat.blt pc 26 then (bif Nat.beq pc 25 then o_ic 26 1 else o_no) else (bif Nat.beq pc 26 then o_cV 29 21 2 4 else o_no)))) else (bif Nat.blt pc 36 then (bif Nat.blt pc 30 then (bif Nat.beq pc 29 then o_al 30 1 else o_no) else (bif Nat.blt pc 33 then (bif Nat.beq pc 30 then o_gI 33 6 2 else o_no) else (bif Nat.beq pc 33 then o_ne 36 40 else o_no))) else (bif Nat.blt pc 37 then (bif Nat.beq pc 36 then o_ic 37 1 else o_no) else (bif Nat.blt pc 40 then (bif Nat.beq pc 37 then o_goto 41 else o_no) else (bif Nat.beq pc 40 then o_ic 41 0 else o_no)))))) else (bif Nat.blt pc 60 then (bif Nat.blt pc 48 then (bif Nat.blt pc 43 then (bif Nat.blt pc 42 then (bif Nat.beq pc 41 then o_ist 42 3 else o_no) else (bif Nat.beq pc 42 then o_il 43 3 else o_no)) else (bif Nat.blt pc 46 then (bif Nat.beq pc 43 then o_eq0 46 74 else o_no) else (bif Nat.blt pc 47 then (bif Nat.beq pc 46 then o_al 47 0 else o_no) else (bif Nat.beq pc 47 then o_il 48 2 else o_no)))) else (bif Nat.blt pc 53 then (bif Nat.blt pc 49 then (bif Nat.beq pc 48 then o_ic 49 2 else o_no) else (bif Nat.blt pc 52 then (bif Nat.beq pc 49 then o_cV 52 21 2 4 else o_no) else (bif Nat.beq pc 52 then o_al 53 1 else o_no))) else (bif Nat.blt pc 56 then (bif Nat.beq pc 53 then o_gI 56 6 3 else o_no) else (bif Nat.blt pc 59 then (bif Nat.beq pc 56 then o_ne 59 74 else o_no) else (bif Nat.beq pc 59 then o_al 60 0 else o_no))))) else (bif Nat.blt pc 72 then (bif Nat.blt pc 65 then (bif Nat.blt pc 61 then (bif Nat.beq pc 60 then o_il 61 2 else o_no) else (bif Nat.blt pc 62 then (bif Nat.beq pc 61 then o_ic 62 3 else o_no) else (bif Nat.beq pc 62 then o_cV 65 21 2 4 else o_no))) else (bif Nat.blt pc 66 then (bif Nat.beq pc 65 then o_al 66 1 else o_no) else (bif Nat.blt pc 69 then (bif Nat.beq pc 66 then o_gI 69 6 4 else o_no) else (bif Nat.beq pc 69 then o_ne 72 74 else o_no)))) else (bif Nat.blt pc 77 then (bif Nat.blt pc 73 then (bif Nat.beq pc 72 then o_ic 73 1 else o_no) else (bif Nat.blt pc 74 then (bif Nat.beq pc 73 then o_rz else o_no) else (bif Nat.beq pc 74 then o_inc 77 2 1 else o_no))) else (bif Nat.blt pc 80 then (bif Nat.beq pc 77 then o_goto 2 else o_no) else (bif Nat.blt pc 81 then (bif Nat.beq pc 80 then o_ic 81 0 else o_no) else (bif Nat.beq pc 81 then o_rz else o_no))))))
theorem sn20 (pc : Nat) : mSnd g lau mt mm20 pc (op20 pc) := s_bif (s_bif (s_bif (s_bif (s_bif (s_leaf sd20_0) (s_leaf sd20_1)) (s_bif (s_leaf sd20_2) (s_bif (s_leaf sd20_3) (s_leaf sd20_4)))) (s_bif (s_bif (s_leaf sd20_7) (s_bif (s_leaf sd20_10) (s_leaf sd20_11))) (s_bif (s_leaf sd20_12) (s_bif (s_leaf sd20_13) (s_leaf sd20_16))))) (s_bif (s_bif (s_bif (s_leaf sd20_17) (s_bif (s_leaf sd20_20) (s_leaf sd20_23))) (s_bif (s_leaf sd20_24) (s_bif (s_leaf sd20_25) (s_leaf sd20_26)))) (s_bif (s_bif (s_leaf sd20_29) (s_bif (s_leaf sd20_30) (s_leaf sd20_33))) (s_bif (s_leaf sd20_36) (s_bif (s_leaf sd20_37) (s_leaf sd20_40)))))) (s_bif (s_bif (s_bif (s_bif (s_leaf sd20_41) (s_leaf sd20_42)) (s_bif (s_leaf sd20_43) (s_bif (s_leaf sd20_46) (s_leaf sd20_47)))) (s_bif (s_bif (s_leaf sd20_48) (s_bif (s_leaf sd20_49) (s_leaf sd20_52))) (s_bif (s_leaf sd20_53) (s_bif (s_leaf sd20_56) (s_leaf sd20_59))))) (s_bif (s_bif (s_bif (s_leaf sd20_60) (s_bif (s_leaf sd20_61) (s_leaf sd20_62))) (s_bif (s_leaf sd20_65) (s_bif (s_leaf sd20_66) (s_leaf sd20_69)))) (s_bif (s_bif (s_leaf sd20_72) (s_bif (s_leaf sd20_73) (s_leaf sd20_74))) (s_bif (s_leaf sd20_77) (s_bif (s_leaf sd20_80) (s_leaf sd20_81))))))
-- RoundVotes$Faults.part(II)I
theorem sd21_0 : mSnd g lau mt mm21 0 (o_al 1 0) := s_aload_n (j := 0) (by decide +kernel) rfl
theorem sd21_1 : mSnd g lau mt mm21 1 (o_gP 4 4 0) := s_getP (ci := 3) (f := 0) (idx := 11) (C := RX3) (T := TX3) (N := 2) (by decide) rfl inX3 (by decide) (fun _ _ _ => rfl) tb_73 (by decide +kernel)
theorem sd21_4 : mSnd g lau mt mm21 4 (o_il 5 1) := s_iload_n (j := 1) (by decide +kernel) rfl
theorem sd21_5 : mSnd g lau mt mm21 5 (o_ic 7 6) := s_bipush (n := 6) (by decide +kernel) rfl
theorem sd21_7 : mSnd g lau mt mm21 7 (o_ii 8 (fun x y => x * y)) := s_imul (by decide +kernel)
theorem sd21_8 : mSnd g lau mt mm21 8 (o_il 9 2) := s_iload_n (j := 2) (by decide +kernel) rfl
theorem sd21_9 : mSnd g lau mt mm21 9 (o_ii 10 (fun x y => x + y)) := s_iadd (by decide +kernel)
theorem sd21_10 : mSnd g lau mt mm21 10 (o_ial 11) := s_iald (by decide +kernel)
theorem sd21_11 : mSnd g lau mt mm21 11 (o_ri) := s_ri (by decide +kernel) rfl
def op21 : Nat → mOp := fun pc => bif Nat.blt pc 7 then (bif Nat.blt pc 4 then (bif Nat.blt pc 1 then (bif Nat.beq pc 0 then o_al 1 0 else o_no) else (bif Nat.beq pc 1 then o_gP 4 4 0 else o_no)) else (bif Nat.blt pc 5 then (bif Nat.beq pc 4 then o_il 5 1 else o_no) else (bif Nat.beq pc 5 then o_ic 7 6 else o_no))) else (bif Nat.blt pc 9 then (bif Nat.blt pc 8 then (bif Nat.beq pc 7 then o_ii 8 (fun x y => x * y) else o_no) else (bif Nat.beq pc 8 then o_il 9 2 else o_no)) else (bif Nat.blt pc 10 then (bif Nat.beq pc 9 then o_ii 10 (fun x y => x + y) else o_no) else (bif Nat.blt pc 11 then (bif Nat.beq pc 10 then o_ial 11 else o_no) else (bif Nat.beq pc 11 then o_ri else o_no))))
theorem sn21 (pc : Nat) : mSnd g lau mt mm21 pc (op21 pc) := s_bif (s_bif (s_bif (s_leaf sd21_0) (s_leaf sd21_1)) (s_bif (s_leaf sd21_4) (s_leaf sd21_5))) (s_bif (s_bif (s_leaf sd21_7) (s_leaf sd21_8)) (s_bif (s_leaf sd21_9) (s_bif (s_leaf sd21_10) (s_leaf sd21_11))))
-- RoundVotes$Told.<init>()V
theorem sd22_0 : mSnd g lau mt mm22 0 (o_al 1 0) := s_aload_n (j := 0) (by decide +kernel) rfl
theorem sd22_1 : mSnd g lau mt mm22 1 (o_obj 4) := s_obj (idx := 3) tb_49 tb_21 tb_22 (by decide) (by decide) (by decide +kernel)
theorem sd22_4 : mSnd g lau mt mm22 4 (o_al 5 0) := s_aload_n (j := 0) (by decide +kernel) rfl
theorem sd22_5 : mSnd g lau mt mm22 5 (o_ic 7 60) := s_bipush (n := 60) (by decide +kernel) rfl
theorem sd22_7 : mSnd g lau mt mm22 7 (o_nwa 9 20) := s_newa (t := 20) (atype := .int) (by decide) (by decide) rfl (fun _ => rfl) (by decide) (fun _ _ h => h) tb_66 (by decide +kernel)
theorem sd22_9 : mSnd g lau mt mm22 9 (o_pP 12 10 0) := s_putP (ci := 9) (f := 0) (idx := 9) (C := RX9) (T := TX9) (N := 4) (by decide) rfl inX9 (by decide) tyX9 tyX9_ok nmX9 (Or.inr ⟨rfl, rfl⟩) tb_50 (by decide +kernel) (fun _ _ _ => rfl) rfl
theorem sd22_12 : mSnd g lau mt mm22 12 (o_al 13 0) := s_aload_n (j := 0) (by decide +kernel) rfl
theorem sd22_13 : mSnd g lau mt mm22 13 (o_ic 15 60) := s_bipush (n := 60) (by decide +kernel) rfl
theorem sd22_15 : mSnd g lau mt mm22 15 (o_nwa 17 20) := s_newa (t := 20) (atype := .int) (by decide) (by decide) rfl (fun _ => rfl) (by decide) (fun _ _ h => h) tb_66 (by decide +kernel)
theorem sd22_17 : mSnd g lau mt mm22 17 (o_pP 20 10 1) := s_putP (ci := 9) (f := 1) (idx := 15) (C := RX9) (T := TX9) (N := 4) (by decide) rfl inX9 (by decide) tyX9 tyX9_ok nmX9 (Or.inr ⟨rfl, rfl⟩) tb_51 (by decide +kernel) (fun _ _ _ => rfl) rfl
theorem sd22_20 : mSnd g lau mt mm22 20 (o_al 21 0) := s_aload_n (j := 0) (by decide +kernel) rfl
theorem sd22_21 : mSnd g lau mt mm22 21 (o_ic 23 60) := s_bipush (n := 60) (by decide +kernel) rfl
theorem sd22_23 : mSnd g lau mt mm22 23 (o_nwa 25 20) := s_newa (t := 20) (atype := .int) (by decide) (by decide) rfl (fun _ => rfl) (by decide) (fun _ _ h => h) tb_66 (by decide +kernel)
theorem sd22_25 : mSnd g lau mt mm22 25 (o_pP 28 10 2) := s_putP (ci := 9) (f := 2) (idx := 18) (C := RX9) (T := TX9) (N := 4) (by decide) rfl inX9 (by decide) tyX9 tyX9_ok nmX9 (Or.inr ⟨rfl, rfl⟩) tb_53 (by decide +kernel) (fun _ _ _ => rfl) rfl
theorem sd22_28 : mSnd g lau mt mm22 28 (o_rv) := s_rv (by decide +kernel) rfl
def op22 : Nat → mOp := fun pc => bif Nat.blt pc 13 then (bif Nat.blt pc 5 then (bif Nat.blt pc 1 then (bif Nat.beq pc 0 then o_al 1 0 else o_no) else (bif Nat.blt pc 4 then (bif Nat.beq pc 1 then o_obj 4 else o_no) else (bif Nat.beq pc 4 then o_al 5 0 else o_no))) else (bif Nat.blt pc 9 then (bif Nat.blt pc 7 then (bif Nat.beq pc 5 then o_ic 7 60 else o_no) else (bif Nat.beq pc 7 then o_nwa 9 20 else o_no)) else (bif Nat.blt pc 12 then (bif Nat.beq pc 9 then o_pP 12 10 0 else o_no) else (bif Nat.beq pc 12 then o_al 13 0 else o_no)))) else (bif Nat.blt pc 21 then (bif Nat.blt pc 17 then (bif Nat.blt pc 15 then (bif Nat.beq pc 13 then o_ic 15 60 else o_no) else (bif Nat.beq pc 15 then o_nwa 17 20 else o_no)) else (bif Nat.blt pc 20 then (bif Nat.beq pc 17 then o_pP 20 10 1 else o_no) else (bif Nat.beq pc 20 then o_al 21 0 else o_no))) else (bif Nat.blt pc 25 then (bif Nat.blt pc 23 then (bif Nat.beq pc 21 then o_ic 23 60 else o_no) else (bif Nat.beq pc 23 then o_nwa 25 20 else o_no)) else (bif Nat.blt pc 28 then (bif Nat.beq pc 25 then o_pP 28 10 2 else o_no) else (bif Nat.beq pc 28 then o_rv else o_no))))
theorem sn22 (pc : Nat) : mSnd g lau mt mm22 pc (op22 pc) := s_bif (s_bif (s_bif (s_leaf sd22_0) (s_bif (s_leaf sd22_1) (s_leaf sd22_4))) (s_bif (s_bif (s_leaf sd22_5) (s_leaf sd22_7)) (s_bif (s_leaf sd22_9) (s_leaf sd22_12)))) (s_bif (s_bif (s_bif (s_leaf sd22_13) (s_leaf sd22_15)) (s_bif (s_leaf sd22_17) (s_leaf sd22_20))) (s_bif (s_bif (s_leaf sd22_21) (s_leaf sd22_23)) (s_bif (s_leaf sd22_25) (s_leaf sd22_28))))
-- RoundVotes$Told.find(I)I
theorem sd23_0 : mSnd g lau mt mm23 0 (o_ic 1 0) := s_iconst (n := 0) (by decide +kernel) rfl
theorem sd23_1 : mSnd g lau mt mm23 1 (o_ist 2 2) := s_istore_n (j := 2) (by decide +kernel) rfl
theorem sd23_2 : mSnd g lau mt mm23 2 (o_il 3 2) := s_iload_n (j := 2) (by decide +kernel) rfl
theorem sd23_3 : mSnd g lau mt mm23 3 (o_al 4 0) := s_aload_n (j := 0) (by decide +kernel) rfl
theorem sd23_4 : mSnd g lau mt mm23 4 (o_gI 7 10 3) := s_getI (ci := 9) (f := 3) (idx := 21) (C := RX9) (T := TX9) (N := 4) (by decide) rfl inX9 (by decide) (fun _ _ _ => rfl) tb_55 (by decide +kernel)
theorem sd23_7 : mSnd g lau mt mm23 7 (o_ge 10 28) := s_icmp_ge (off := 21) (by decide +kernel) rfl
theorem sd23_10 : mSnd g lau mt mm23 10 (o_al 11 0) := s_aload_n (j := 0) (by decide +kernel) rfl
theorem sd23_11 : mSnd g lau mt mm23 11 (o_gP 14 10 0) := s_getP (ci := 9) (f := 0) (idx := 9) (C := RX9) (T := TX9) (N := 4) (by decide) rfl inX9 (by decide) (fun _ _ _ => rfl) tb_50 (by decide +kernel)
theorem sd23_14 : mSnd g lau mt mm23 14 (o_il 15 2) := s_iload_n (j := 2) (by decide +kernel) rfl
theorem sd23_15 : mSnd g lau mt mm23 15 (o_ial 16) := s_iald (by decide +kernel)
theorem sd23_16 : mSnd g lau mt mm23 16 (o_il 17 1) := s_iload_n (j := 1) (by decide +kernel) rfl
theorem sd23_17 : mSnd g lau mt mm23 17 (o_ne 20 22) := s_icmp_ne (off := 5) (by decide +kernel) rfl
theorem sd23_20 : mSnd g lau mt mm23 20 (o_il 21 2) := s_iload_n (j := 2) (by decide +kernel) rfl
theorem sd23_21 : mSnd g lau mt mm23 21 (o_ri) := s_ri (by decide +kernel) rfl
theorem sd23_22 : mSnd g lau mt mm23 22 (o_inc 25 2 1) := s_iinc (n := 1) (by decide +kernel) rfl
theorem sd23_25 : mSnd g lau mt mm23 25 (o_goto 2) := s_goto (off := (-23)) (by decide +kernel) rfl
theorem sd23_28 : mSnd g lau mt mm23 28 (o_ic 29 (-1)) := s_iconst (n := (-1)) (by decide +kernel) rfl
theorem sd23_29 : mSnd g lau mt mm23 29 (o_ri) := s_ri (by decide +kernel) rfl
def op23 : Nat → mOp := fun pc => bif Nat.blt pc 15 then (bif Nat.blt pc 4 then (bif Nat.blt pc 2 then (bif Nat.blt pc 1 then (bif Nat.beq pc 0 then o_ic 1 0 else o_no) else (bif Nat.beq pc 1 then o_ist 2 2 else o_no)) else (bif Nat.blt pc 3 then (bif Nat.beq pc 2 then o_il 3 2 else o_no) else (bif Nat.beq pc 3 then o_al 4 0 else o_no))) else (bif Nat.blt pc 10 then (bif Nat.blt pc 7 then (bif Nat.beq pc 4 then o_gI 7 10 3 else o_no) else (bif Nat.beq pc 7 then o_ge 10 28 else o_no)) else (bif Nat.blt pc 11 then (bif Nat.beq pc 10 then o_al 11 0 else o_no) else (bif Nat.blt pc 14 then (bif Nat.beq pc 11 then o_gP 14 10 0 else o_no) else (bif Nat.beq pc 14 then o_il 15 2 else o_no))))) else (bif Nat.blt pc 21 then (bif Nat.blt pc 17 then (bif Nat.blt pc 16 then (bif Nat.beq pc 15 then o_ial 16 else o_no) else (bif Nat.beq pc 16 then o_il 17 1 else o_no)) else (bif Nat.blt pc 20 then (bif Nat.beq pc 17 then o_ne 20 22 else o_no) else (bif Nat.beq pc 20 then o_il 21 2 else o_no))) else (bif Nat.blt pc 25 then (bif Nat.blt pc 22 then (bif Nat.beq pc 21 then o_ri else o_no) else (bif Nat.beq pc 22 then o_inc 25 2 1 else o_no)) else (bif Nat.blt pc 28 then (bif Nat.beq pc 25 then o_goto 2 else o_no) else (bif Nat.blt pc 29 then (bif Nat.beq pc 28 then o_ic 29 (-1) else o_no) else (bif Nat.beq pc 29 then o_ri else o_no)))))
theorem sn23 (pc : Nat) : mSnd g lau mt mm23 pc (op23 pc) := s_bif (s_bif (s_bif (s_bif (s_leaf sd23_0) (s_leaf sd23_1)) (s_bif (s_leaf sd23_2) (s_leaf sd23_3))) (s_bif (s_bif (s_leaf sd23_4) (s_leaf sd23_7)) (s_bif (s_leaf sd23_10) (s_bif (s_leaf sd23_11) (s_leaf sd23_14))))) (s_bif (s_bif (s_bif (s_leaf sd23_15) (s_leaf sd23_16)) (s_bif (s_leaf sd23_17) (s_leaf sd23_20))) (s_bif (s_bif (s_leaf sd23_21) (s_leaf sd23_22)) (s_bif (s_leaf sd23_25) (s_bif (s_leaf sd23_28) (s_leaf sd23_29)))))
-- RoundVotes$Told.add(III)Z
theorem sd24_0 : mSnd g lau mt mm24 0 (o_al 1 0) := s_aload_n (j := 0) (by decide +kernel) rfl
theorem sd24_1 : mSnd g lau mt mm24 1 (o_gI 4 10 3) := s_getI (ci := 9) (f := 3) (idx := 21) (C := RX9) (T := TX9) (N := 4) (by decide) rfl inX9 (by decide) (fun _ _ _ => rfl) tb_55 (by decide +kernel)
theorem sd24_4 : mSnd g lau mt mm24 4 (o_ic 6 60) := s_bipush (n := 60) (by decide +kernel) rfl
theorem sd24_6 : mSnd g lau mt mm24 6 (o_lt 9 11) := s_icmp_lt (off := 5) (by decide +kernel) rfl
theorem sd24_9 : mSnd g lau mt mm24 9 (o_ic 10 0) := s_iconst (n := 0) (by decide +kernel) rfl
theorem sd24_10 : mSnd g lau mt mm24 10 (o_rz) := s_rz (by decide +kernel) rfl
theorem sd24_11 : mSnd g lau mt mm24 11 (o_al 12 0) := s_aload_n (j := 0) (by decide +kernel) rfl
theorem sd24_12 : mSnd g lau mt mm24 12 (o_gP 15 10 0) := s_getP (ci := 9) (f := 0) (idx := 9) (C := RX9) (T := TX9) (N := 4) (by decide) rfl inX9 (by decide) (fun _ _ _ => rfl) tb_50 (by decide +kernel)
theorem sd24_15 : mSnd g lau mt mm24 15 (o_al 16 0) := s_aload_n (j := 0) (by decide +kernel) rfl
theorem sd24_16 : mSnd g lau mt mm24 16 (o_gI 19 10 3) := s_getI (ci := 9) (f := 3) (idx := 21) (C := RX9) (T := TX9) (N := 4) (by decide) rfl inX9 (by decide) (fun _ _ _ => rfl) tb_55 (by decide +kernel)
theorem sd24_19 : mSnd g lau mt mm24 19 (o_il 20 1) := s_iload_n (j := 1) (by decide +kernel) rfl
theorem sd24_20 : mSnd g lau mt mm24 20 (o_ias 21) := s_iast (by decide +kernel)
theorem sd24_21 : mSnd g lau mt mm24 21 (o_al 22 0) := s_aload_n (j := 0) (by decide +kernel) rfl
theorem sd24_22 : mSnd g lau mt mm24 22 (o_gP 25 10 1) := s_getP (ci := 9) (f := 1) (idx := 15) (C := RX9) (T := TX9) (N := 4) (by decide) rfl inX9 (by decide) (fun _ _ _ => rfl) tb_51 (by decide +kernel)
theorem sd24_25 : mSnd g lau mt mm24 25 (o_al 26 0) := s_aload_n (j := 0) (by decide +kernel) rfl
theorem sd24_26 : mSnd g lau mt mm24 26 (o_gI 29 10 3) := s_getI (ci := 9) (f := 3) (idx := 21) (C := RX9) (T := TX9) (N := 4) (by decide) rfl inX9 (by decide) (fun _ _ _ => rfl) tb_55 (by decide +kernel)
theorem sd24_29 : mSnd g lau mt mm24 29 (o_il 30 2) := s_iload_n (j := 2) (by decide +kernel) rfl
theorem sd24_30 : mSnd g lau mt mm24 30 (o_ias 31) := s_iast (by decide +kernel)
theorem sd24_31 : mSnd g lau mt mm24 31 (o_al 32 0) := s_aload_n (j := 0) (by decide +kernel) rfl
theorem sd24_32 : mSnd g lau mt mm24 32 (o_gP 35 10 2) := s_getP (ci := 9) (f := 2) (idx := 18) (C := RX9) (T := TX9) (N := 4) (by decide) rfl inX9 (by decide) (fun _ _ _ => rfl) tb_53 (by decide +kernel)
theorem sd24_35 : mSnd g lau mt mm24 35 (o_al 36 0) := s_aload_n (j := 0) (by decide +kernel) rfl
theorem sd24_36 : mSnd g lau mt mm24 36 (o_gI 39 10 3) := s_getI (ci := 9) (f := 3) (idx := 21) (C := RX9) (T := TX9) (N := 4) (by decide) rfl inX9 (by decide) (fun _ _ _ => rfl) tb_55 (by decide +kernel)
theorem sd24_39 : mSnd g lau mt mm24 39 (o_il 40 3) := s_iload_n (j := 3) (by decide +kernel) rfl
theorem sd24_40 : mSnd g lau mt mm24 40 (o_ias 41) := s_iast (by decide +kernel)
theorem sd24_41 : mSnd g lau mt mm24 41 (o_al 42 0) := s_aload_n (j := 0) (by decide +kernel) rfl
theorem sd24_42 : mSnd g lau mt mm24 42 (o_dup 43) := s_dup (by decide +kernel)
theorem sd24_43 : mSnd g lau mt mm24 43 (o_gI 46 10 3) := s_getI (ci := 9) (f := 3) (idx := 21) (C := RX9) (T := TX9) (N := 4) (by decide) rfl inX9 (by decide) (fun _ _ _ => rfl) tb_55 (by decide +kernel)
theorem sd24_46 : mSnd g lau mt mm24 46 (o_ic 47 1) := s_iconst (n := 1) (by decide +kernel) rfl
theorem sd24_47 : mSnd g lau mt mm24 47 (o_ii 48 (fun x y => x + y)) := s_iadd (by decide +kernel)
theorem sd24_48 : mSnd g lau mt mm24 48 (o_pI 51 10 3) := s_putI (ci := 9) (f := 3) (idx := 21) (C := RX9) (T := TX9) (N := 4) (by decide) rfl inX9 (by decide) tyX9 tyX9_ok nmX9 (Or.inl rfl) tb_55 (by decide +kernel) (fun _ _ _ => rfl) rfl
theorem sd24_51 : mSnd g lau mt mm24 51 (o_ic 52 1) := s_iconst (n := 1) (by decide +kernel) rfl
theorem sd24_52 : mSnd g lau mt mm24 52 (o_rz) := s_rz (by decide +kernel) rfl
def op24 : Nat → mOp := fun pc => bif Nat.blt pc 29 then (bif Nat.blt pc 15 then (bif Nat.blt pc 9 then (bif Nat.blt pc 4 then (bif Nat.blt pc 1 then (bif Nat.beq pc 0 then o_al 1 0 else o_no) else (bif Nat.beq pc 1 then o_gI 4 10 3 else o_no)) else (bif Nat.blt pc 6 then (bif Nat.beq pc 4 then o_ic 6 60 else o_no) else (bif Nat.beq pc 6 then o_lt 9 11 else o_no))) else (bif Nat.blt pc 11 then (bif Nat.blt pc 10 then (bif Nat.beq pc 9 then o_ic 10 0 else o_no) else (bif Nat.beq pc 10 then o_rz else o_no)) else (bif Nat.blt pc 12 then (bif Nat.beq pc 11 then o_al 12 0 else o_no) else (bif Nat.beq pc 12 then o_gP 15 10 0 else o_no)))) else (bif Nat.blt pc 21 then (bif Nat.blt pc 19 then (bif Nat.blt pc 16 then (bif Nat.beq pc 15 then o_al 16 0 else o_no) else (bif Nat.beq pc 16 then o_gI 19 10 3 else o_no)) else (bif Nat.blt pc 20 then (bif Nat.beq pc 19 then o_il 20 1 else o_no) else (bif Nat.beq pc 20 then o_ias 21 else o_no))) else (bif Nat.blt pc 25 then (bif Nat.blt pc 22 then (bif Nat.beq pc 21 then o_al 22 0 else o_no) else (bif Nat.beq pc 22 then o_gP 25 10 1 else o_no)) else (bif Nat.blt pc 26 then (bif Nat.beq pc 25 then o_al 26 0 else o_no) else (bif Nat.beq pc 26 then o_gI 29 10 3 else o_no))))) else (bif Nat.blt pc 41 then (bif Nat.blt pc 35 then (bif Nat.blt pc 31 then (bif Nat.blt pc 30 then (bif Nat.beq pc 29 then o_il 30 2 else o_no) else (bif Nat.beq pc 30 then o_ias 31 else o_no)) else (bif Nat.blt pc 32 then (bif Nat.beq pc 31 then o_al 32 0 else o_no) else (bif Nat.beq pc 32 then o_gP 35 10 2 else o_no))) else (bif Nat.blt pc 39 then (bif Nat.blt pc 36 then (bif Nat.beq pc 35 then o_al 36 0 else o_no) else (bif Nat.beq pc 36 then o_gI 39 10 3 else o_no)) else (bif Nat.blt pc 40 then (bif Nat.beq pc 39 then o_il 40 3 else o_no) else (bif Nat.beq pc 40 then o_ias 41 else o_no)))) else (bif Nat.blt pc 47 then (bif Nat.blt pc 43 then (bif Nat.blt pc 42 then (bif Nat.beq pc 41 then o_al 42 0 else o_no) else (bif Nat.beq pc 42 then o_dup 43 else o_no)) else (bif Nat.blt pc 46 then (bif Nat.beq pc 43 then o_gI 46 10 3 else o_no) else (bif Nat.beq pc 46 then o_ic 47 1 else o_no))) else (bif Nat.blt pc 51 then (bif Nat.blt pc 48 then (bif Nat.beq pc 47 then o_ii 48 (fun x y => x + y) else o_no) else (bif Nat.beq pc 48 then o_pI 51 10 3 else o_no)) else (bif Nat.blt pc 52 then (bif Nat.beq pc 51 then o_ic 52 1 else o_no) else (bif Nat.beq pc 52 then o_rz else o_no)))))
theorem sn24 (pc : Nat) : mSnd g lau mt mm24 pc (op24 pc) := s_bif (s_bif (s_bif (s_bif (s_bif (s_leaf sd24_0) (s_leaf sd24_1)) (s_bif (s_leaf sd24_4) (s_leaf sd24_6))) (s_bif (s_bif (s_leaf sd24_9) (s_leaf sd24_10)) (s_bif (s_leaf sd24_11) (s_leaf sd24_12)))) (s_bif (s_bif (s_bif (s_leaf sd24_15) (s_leaf sd24_16)) (s_bif (s_leaf sd24_19) (s_leaf sd24_20))) (s_bif (s_bif (s_leaf sd24_21) (s_leaf sd24_22)) (s_bif (s_leaf sd24_25) (s_leaf sd24_26))))) (s_bif (s_bif (s_bif (s_bif (s_leaf sd24_29) (s_leaf sd24_30)) (s_bif (s_leaf sd24_31) (s_leaf sd24_32))) (s_bif (s_bif (s_leaf sd24_35) (s_leaf sd24_36)) (s_bif (s_leaf sd24_39) (s_leaf sd24_40)))) (s_bif (s_bif (s_bif (s_leaf sd24_41) (s_leaf sd24_42)) (s_bif (s_leaf sd24_43) (s_leaf sd24_46))) (s_bif (s_bif (s_leaf sd24_47) (s_leaf sd24_48)) (s_bif (s_leaf sd24_51) (s_leaf sd24_52)))))
-- RoundVotes$Told.remove(I)V
theorem sd25_0 : mSnd g lau mt mm25 0 (o_il 1 1) := s_iload_n (j := 1) (by decide +kernel) rfl
theorem sd25_1 : mSnd g lau mt mm25 1 (o_lt0 4 12) := s_if_lt (off := 11) (by decide +kernel) rfl
theorem sd25_4 : mSnd g lau mt mm25 4 (o_il 5 1) := s_iload_n (j := 1) (by decide +kernel) rfl
theorem sd25_5 : mSnd g lau mt mm25 5 (o_al 6 0) := s_aload_n (j := 0) (by decide +kernel) rfl
theorem sd25_6 : mSnd g lau mt mm25 6 (o_gI 9 10 3) := s_getI (ci := 9) (f := 3) (idx := 21) (C := RX9) (T := TX9) (N := 4) (by decide) rfl inX9 (by decide) (fun _ _ _ => rfl) tb_55 (by decide +kernel)
theorem sd25_9 : mSnd g lau mt mm25 9 (o_lt 12 13) := s_icmp_lt (off := 4) (by decide +kernel) rfl
theorem sd25_12 : mSnd g lau mt mm25 12 (o_rv) := s_rv (by decide +kernel) rfl
theorem sd25_13 : mSnd g lau mt mm25 13 (o_al 14 0) := s_aload_n (j := 0) (by decide +kernel) rfl
theorem sd25_14 : mSnd g lau mt mm25 14 (o_dup 15) := s_dup (by decide +kernel)
theorem sd25_15 : mSnd g lau mt mm25 15 (o_gI 18 10 3) := s_getI (ci := 9) (f := 3) (idx := 21) (C := RX9) (T := TX9) (N := 4) (by decide) rfl inX9 (by decide) (fun _ _ _ => rfl) tb_55 (by decide +kernel)
theorem sd25_18 : mSnd g lau mt mm25 18 (o_ic 19 1) := s_iconst (n := 1) (by decide +kernel) rfl
theorem sd25_19 : mSnd g lau mt mm25 19 (o_ii 20 (fun x y => x - y)) := s_isub (by decide +kernel)
theorem sd25_20 : mSnd g lau mt mm25 20 (o_pI 23 10 3) := s_putI (ci := 9) (f := 3) (idx := 21) (C := RX9) (T := TX9) (N := 4) (by decide) rfl inX9 (by decide) tyX9 tyX9_ok nmX9 (Or.inl rfl) tb_55 (by decide +kernel) (fun _ _ _ => rfl) rfl
theorem sd25_23 : mSnd g lau mt mm25 23 (o_al 24 0) := s_aload_n (j := 0) (by decide +kernel) rfl
theorem sd25_24 : mSnd g lau mt mm25 24 (o_gP 27 10 0) := s_getP (ci := 9) (f := 0) (idx := 9) (C := RX9) (T := TX9) (N := 4) (by decide) rfl inX9 (by decide) (fun _ _ _ => rfl) tb_50 (by decide +kernel)
theorem sd25_27 : mSnd g lau mt mm25 27 (o_il 28 1) := s_iload_n (j := 1) (by decide +kernel) rfl
theorem sd25_28 : mSnd g lau mt mm25 28 (o_al 29 0) := s_aload_n (j := 0) (by decide +kernel) rfl
theorem sd25_29 : mSnd g lau mt mm25 29 (o_gP 32 10 0) := s_getP (ci := 9) (f := 0) (idx := 9) (C := RX9) (T := TX9) (N := 4) (by decide) rfl inX9 (by decide) (fun _ _ _ => rfl) tb_50 (by decide +kernel)
theorem sd25_32 : mSnd g lau mt mm25 32 (o_al 33 0) := s_aload_n (j := 0) (by decide +kernel) rfl
theorem sd25_33 : mSnd g lau mt mm25 33 (o_gI 36 10 3) := s_getI (ci := 9) (f := 3) (idx := 21) (C := RX9) (T := TX9) (N := 4) (by decide) rfl inX9 (by decide) (fun _ _ _ => rfl) tb_55 (by decide +kernel)
theorem sd25_36 : mSnd g lau mt mm25 36 (o_ial 37) := s_iald (by decide +kernel)
theorem sd25_37 : mSnd g lau mt mm25 37 (o_ias 38) := s_iast (by decide +kernel)
theorem sd25_38 : mSnd g lau mt mm25 38 (o_al 39 0) := s_aload_n (j := 0) (by decide +kernel) rfl
theorem sd25_39 : mSnd g lau mt mm25 39 (o_gP 42 10 1) := s_getP (ci := 9) (f := 1) (idx := 15) (C := RX9) (T := TX9) (N := 4) (by decide) rfl inX9 (by decide) (fun _ _ _ => rfl) tb_51 (by decide +kernel)
theorem sd25_42 : mSnd g lau mt mm25 42 (o_il 43 1) := s_iload_n (j := 1) (by decide +kernel) rfl
theorem sd25_43 : mSnd g lau mt mm25 43 (o_al 44 0) := s_aload_n (j := 0) (by decide +kernel) rfl
theorem sd25_44 : mSnd g lau mt mm25 44 (o_gP 47 10 1) := s_getP (ci := 9) (f := 1) (idx := 15) (C := RX9) (T := TX9) (N := 4) (by decide) rfl inX9 (by decide) (fun _ _ _ => rfl) tb_51 (by decide +kernel)
theorem sd25_47 : mSnd g lau mt mm25 47 (o_al 48 0) := s_aload_n (j := 0) (by decide +kernel) rfl
theorem sd25_48 : mSnd g lau mt mm25 48 (o_gI 51 10 3) := s_getI (ci := 9) (f := 3) (idx := 21) (C := RX9) (T := TX9) (N := 4) (by decide) rfl inX9 (by decide) (fun _ _ _ => rfl) tb_55 (by decide +kernel)
theorem sd25_51 : mSnd g lau mt mm25 51 (o_ial 52) := s_iald (by decide +kernel)
theorem sd25_52 : mSnd g lau mt mm25 52 (o_ias 53) := s_iast (by decide +kernel)
theorem sd25_53 : mSnd g lau mt mm25 53 (o_al 54 0) := s_aload_n (j := 0) (by decide +kernel) rfl
theorem sd25_54 : mSnd g lau mt mm25 54 (o_gP 57 10 2) := s_getP (ci := 9) (f := 2) (idx := 18) (C := RX9) (T := TX9) (N := 4) (by decide) rfl inX9 (by decide) (fun _ _ _ => rfl) tb_53 (by decide +kernel)
theorem sd25_57 : mSnd g lau mt mm25 57 (o_il 58 1) := s_iload_n (j := 1) (by decide +kernel) rfl
theorem sd25_58 : mSnd g lau mt mm25 58 (o_al 59 0) := s_aload_n (j := 0) (by decide +kernel) rfl
theorem sd25_59 : mSnd g lau mt mm25 59 (o_gP 62 10 2) := s_getP (ci := 9) (f := 2) (idx := 18) (C := RX9) (T := TX9) (N := 4) (by decide) rfl inX9 (by decide) (fun _ _ _ => rfl) tb_53 (by decide +kernel)
theorem sd25_62 : mSnd g lau mt mm25 62 (o_al 63 0) := s_aload_n (j := 0) (by decide +kernel) rfl
theorem sd25_63 : mSnd g lau mt mm25 63 (o_gI 66 10 3) := s_getI (ci := 9) (f := 3) (idx := 21) (C := RX9) (T := TX9) (N := 4) (by decide) rfl inX9 (by decide) (fun _ _ _ => rfl) tb_55 (by decide +kernel)
theorem sd25_66 : mSnd g lau mt mm25 66 (o_ial 67) := s_iald (by decide +kernel)
theorem sd25_67 : mSnd g lau mt mm25 67 (o_ias 68) := s_iast (by decide +kernel)
theorem sd25_68 : mSnd g lau mt mm25 68 (o_rv) := s_rv (by decide +kernel) rfl
def op25 : Nat → mOp := fun pc => bif Nat.blt pc 36 then (bif Nat.blt pc 18 then (bif Nat.blt pc 9 then (bif Nat.blt pc 4 then (bif Nat.blt pc 1 then (bif Nat.beq pc 0 then o_il 1 1 else o_no) else (bif Nat.beq pc 1 then o_lt0 4 12 else o_no)) else (bif Nat.blt pc 5 then (bif Nat.beq pc 4 then o_il 5 1 else o_no) else (bif Nat.blt pc 6 then (bif Nat.beq pc 5 then o_al 6 0 else o_no) else (bif Nat.beq pc 6 then o_gI 9 10 3 else o_no)))) else (bif Nat.blt pc 13 then (bif Nat.blt pc 12 then (bif Nat.beq pc 9 then o_lt 12 13 else o_no) else (bif Nat.beq pc 12 then o_rv else o_no)) else (bif Nat.blt pc 14 then (bif Nat.beq pc 13 then o_al 14 0 else o_no) else (bif Nat.blt pc 15 then (bif Nat.beq pc 14 then o_dup 15 else o_no) else (bif Nat.beq pc 15 then o_gI 18 10 3 else o_no))))) else (bif Nat.blt pc 27 then (bif Nat.blt pc 20 then (bif Nat.blt pc 19 then (bif Nat.beq pc 18 then o_ic 19 1 else o_no) else (bif Nat.beq pc 19 then o_ii 20 (fun x y => x - y) else o_no)) else (bif Nat.blt pc 23 then (bif Nat.beq pc 20 then o_pI 23 10 3 else o_no) else (bif Nat.blt pc 24 then (bif Nat.beq pc 23 then o_al 24 0 else o_no) else (bif Nat.beq pc 24 then o_gP 27 10 0 else o_no)))) else (bif Nat.blt pc 29 then (bif Nat.blt pc 28 then (bif Nat.beq pc 27 then o_il 28 1 else o_no) else (bif Nat.beq pc 28 then o_al 29 0 else o_no)) else (bif Nat.blt pc 32 then (bif Nat.beq pc 29 then o_gP 32 10 0 else o_no) else (bif Nat.blt pc 33 then (bif Nat.beq pc 32 then o_al 33 0 else o_no) else (bif Nat.beq pc 33 then o_gI 36 10 3 else o_no)))))) else (bif Nat.blt pc 52 then (bif Nat.blt pc 43 then (bif Nat.blt pc 38 then (bif Nat.blt pc 37 then (bif Nat.beq pc 36 then o_ial 37 else o_no) else (bif Nat.beq pc 37 then o_ias 38 else o_no)) else (bif Nat.blt pc 39 then (bif Nat.beq pc 38 then o_al 39 0 else o_no) else (bif Nat.blt pc 42 then (bif Nat.beq pc 39 then o_gP 42 10 1 else o_no) else (bif Nat.beq pc 42 then o_il 43 1 else o_no)))) else (bif Nat.blt pc 47 then (bif Nat.blt pc 44 then (bif Nat.beq pc 43 then o_al 44 0 else o_no) else (bif Nat.beq pc 44 then o_gP 47 10 1 else o_no)) else (bif Nat.blt pc 48 then (bif Nat.beq pc 47 then o_al 48 0 else o_no) else (bif Nat.blt pc 51 then (bif Nat.beq pc 48 then o_gI 51 10 3 else o_no) else (bif Nat.beq pc 51 then o_ial 52 else o_no))))) else (bif Nat.blt pc 59 then (bif Nat.blt pc 54 then (bif Nat.blt pc 53 then (bif Nat.beq pc 52 then o_ias 53 else o_no) else (bif Nat.beq pc 53 then o_al 54 0 else o_no)) else (bif Nat.blt pc 57 then (bif Nat.beq pc 54 then o_gP 57 10 2 else o_no) else (bif Nat.blt pc 58 then (bif Nat.beq pc 57 then o_il 58 1 else o_no) else (bif Nat.beq pc 58 then o_al 59 0 else o_no)))) else (bif Nat.blt pc 66 then (bif Nat.blt pc 62 then (bif Nat.beq pc 59 then o_gP 62 10 2 else o_no) else (bif Nat.blt pc 63 then (bif Nat.beq pc 62 then o_al 63 0 else o_no) else (bif Nat.beq pc 63 then o_gI 66 10 3 else o_no))) else (bif Nat.blt pc 67 then (bif Nat.beq pc 66 then o_ial 67 else o_no) else (bif Nat.blt pc 68 then (bif Nat.beq pc 67 then o_ias 68 else o_no) else (bif Nat.beq pc 68 then o_rv else o_no))))))
theorem sn25 (pc : Nat) : mSnd g lau mt mm25 pc (op25 pc) := s_bif (s_bif (s_bif (s_bif (s_bif (s_leaf sd25_0) (s_leaf sd25_1)) (s_bif (s_leaf sd25_4) (s_bif (s_leaf sd25_5) (s_leaf sd25_6)))) (s_bif (s_bif (s_leaf sd25_9) (s_leaf sd25_12)) (s_bif (s_leaf sd25_13) (s_bif (s_leaf sd25_14) (s_leaf sd25_15))))) (s_bif (s_bif (s_bif (s_leaf sd25_18) (s_leaf sd25_19)) (s_bif (s_leaf sd25_20) (s_bif (s_leaf sd25_23) (s_leaf sd25_24)))) (s_bif (s_bif (s_leaf sd25_27) (s_leaf sd25_28)) (s_bif (s_leaf sd25_29) (s_bif (s_leaf sd25_32) (s_leaf sd25_33)))))) (s_bif (s_bif (s_bif (s_bif (s_leaf sd25_36) (s_leaf sd25_37)) (s_bif (s_leaf sd25_38) (s_bif (s_leaf sd25_39) (s_leaf sd25_42)))) (s_bif (s_bif (s_leaf sd25_43) (s_leaf sd25_44)) (s_bif (s_leaf sd25_47) (s_bif (s_leaf sd25_48) (s_leaf sd25_51))))) (s_bif (s_bif (s_bif (s_leaf sd25_52) (s_leaf sd25_53)) (s_bif (s_leaf sd25_54) (s_bif (s_leaf sd25_57) (s_leaf sd25_58)))) (s_bif (s_bif (s_leaf sd25_59) (s_bif (s_leaf sd25_62) (s_leaf sd25_63))) (s_bif (s_leaf sd25_66) (s_bif (s_leaf sd25_67) (s_leaf sd25_68))))))
-- RoundVotes$Setup.<init>(II)V
theorem sd26_0 : mSnd g lau mt mm26 0 (o_al 1 0) := s_aload_n (j := 0) (by decide +kernel) rfl
theorem sd26_1 : mSnd g lau mt mm26 1 (o_obj 4) := s_obj (idx := 3) tb_86 tb_21 tb_22 (by decide) (by decide) (by decide +kernel)
theorem sd26_4 : mSnd g lau mt mm26 4 (o_al 5 0) := s_aload_n (j := 0) (by decide +kernel) rfl
theorem sd26_5 : mSnd g lau mt mm26 5 (o_ic 7 41) := s_bipush (n := 41) (by decide +kernel) rfl
theorem sd26_7 : mSnd g lau mt mm26 7 (o_nwa 9 20) := s_newa (t := 20) (atype := .int) (by decide) (by decide) rfl (fun _ => rfl) (by decide) (fun _ _ h => h) tb_66 (by decide +kernel)
theorem sd26_9 : mSnd g lau mt mm26 9 (o_pP 12 9 3) := s_putP (ci := 8) (f := 3) (idx := 9) (C := RX8) (T := TX8) (N := 4) (by decide) rfl inX8 (by decide) tyX8 tyX8_ok nmX8 (Or.inr ⟨rfl, rfl⟩) tb_104 (by decide +kernel) (fun _ _ _ => rfl) rfl
theorem sd26_12 : mSnd g lau mt mm26 12 (o_al 13 0) := s_aload_n (j := 0) (by decide +kernel) rfl
theorem sd26_13 : mSnd g lau mt mm26 13 (o_ic 14 1) := s_iconst (n := 1) (by decide +kernel) rfl
theorem sd26_14 : mSnd g lau mt mm26 14 (o_ic 16 10) := s_bipush (n := 10) (by decide +kernel) rfl
theorem sd26_16 : mSnd g lau mt mm26 16 (o_il 17 1) := s_iload_n (j := 1) (by decide +kernel) rfl
theorem sd26_17 : mSnd g lau mt mm26 17 (o_min 20) := s_min (idx := 15) tb_87 tb_88 tb_6 tb_89 (by decide) (by decide) (by decide +kernel)
theorem sd26_20 : mSnd g lau mt mm26 20 (o_max 23) := s_max (idx := 21) tb_90 tb_91 tb_6 tb_92 (by decide) (by decide) (by decide +kernel)
theorem sd26_23 : mSnd g lau mt mm26 23 (o_pI 26 9 0) := s_putI (ci := 8) (f := 0) (idx := 24) (C := RX8) (T := TX8) (N := 4) (by decide) rfl inX8 (by decide) tyX8 tyX8_ok nmX8 (Or.inr ⟨rfl, rfl⟩) tb_98 (by decide +kernel) (fun _ _ _ => rfl) rfl
theorem sd26_26 : mSnd g lau mt mm26 26 (o_al 27 0) := s_aload_n (j := 0) (by decide +kernel) rfl
theorem sd26_27 : mSnd g lau mt mm26 27 (o_il 28 2) := s_iload_n (j := 2) (by decide +kernel) rfl
theorem sd26_28 : mSnd g lau mt mm26 28 (o_pI 31 9 1) := s_putI (ci := 8) (f := 1) (idx := 28) (C := RX8) (T := TX8) (N := 4) (by decide) rfl inX8 (by decide) tyX8 tyX8_ok nmX8 (Or.inr ⟨rfl, rfl⟩) tb_101 (by decide +kernel) (fun _ _ _ => rfl) rfl
theorem sd26_31 : mSnd g lau mt mm26 31 (o_al 32 0) := s_aload_n (j := 0) (by decide +kernel) rfl
theorem sd26_32 : mSnd g lau mt mm26 32 (o_ic 34 41) := s_bipush (n := 41) (by decide +kernel) rfl
theorem sd26_34 : mSnd g lau mt mm26 34 (o_al 35 0) := s_aload_n (j := 0) (by decide +kernel) rfl
theorem sd26_35 : mSnd g lau mt mm26 35 (o_gI 38 9 0) := s_getI (ci := 8) (f := 0) (idx := 24) (C := RX8) (T := TX8) (N := 4) (by decide) rfl inX8 (by decide) (fun _ _ _ => rfl) tb_98 (by decide +kernel)
theorem sd26_38 : mSnd g lau mt mm26 38 (o_mna 42) := s_mna (idx := 31) tb_93 (List.mem_of_getElem? (i := 2) rfl) tb_66 (by decide +kernel)
theorem sd26_42 : mSnd g lau mt mm26 42 (o_pP 45 9 2) := s_putP (ci := 8) (f := 2) (idx := 33) (C := RX8) (T := TX8) (N := 4) (by decide) rfl inX8 (by decide) tyX8 tyX8_ok nmX8 (Or.inr ⟨rfl, rfl⟩) tb_102 (by decide +kernel) (fun _ _ _ => rfl) rfl
theorem sd26_45 : mSnd g lau mt mm26 45 (o_ic 46 1) := s_iconst (n := 1) (by decide +kernel) rfl
theorem sd26_46 : mSnd g lau mt mm26 46 (o_ist 47 3) := s_istore_n (j := 3) (by decide +kernel) rfl
theorem sd26_47 : mSnd g lau mt mm26 47 (o_il 48 3) := s_iload_n (j := 3) (by decide +kernel) rfl
theorem sd26_48 : mSnd g lau mt mm26 48 (o_ic 50 40) := s_bipush (n := 40) (by decide +kernel) rfl
theorem sd26_50 : mSnd g lau mt mm26 50 (o_gt 53 79) := s_icmp_gt (off := 29) (by decide +kernel) rfl
theorem sd26_53 : mSnd g lau mt mm26 53 (o_al 54 0) := s_aload_n (j := 0) (by decide +kernel) rfl
theorem sd26_54 : mSnd g lau mt mm26 54 (o_gP 57 9 2) := s_getP (ci := 8) (f := 2) (idx := 33) (C := RX8) (T := TX8) (N := 4) (by decide) rfl inX8 (by decide) (fun _ _ _ => rfl) tb_102 (by decide +kernel)
theorem sd26_57 : mSnd g lau mt mm26 57 (o_il 58 3) := s_iload_n (j := 3) (by decide +kernel) rfl
theorem sd26_58 : mSnd g lau mt mm26 58 (o_aal 59) := s_aald (by decide +kernel)
theorem sd26_59 : mSnd g lau mt mm26 59 (o_ic 60 1) := s_iconst (n := 1) (by decide +kernel) rfl
theorem sd26_60 : mSnd g lau mt mm26 60 (o_cS 63 0 2) := s_cS (m' := 0) (idx := 36) ⟨cw_0.1, cw_0.2.1, cw_0.2.2, by decide⟩ tb_95 tb_96 (by decide +kernel)
theorem sd26_63 : mSnd g lau mt mm26 63 (o_al 64 0) := s_aload_n (j := 0) (by decide +kernel) rfl
theorem sd26_64 : mSnd g lau mt mm26 64 (o_gP 67 9 3) := s_getP (ci := 8) (f := 3) (idx := 9) (C := RX8) (T := TX8) (N := 4) (by decide) rfl inX8 (by decide) (fun _ _ _ => rfl) tb_104 (by decide +kernel)
theorem sd26_67 : mSnd g lau mt mm26 67 (o_il 68 3) := s_iload_n (j := 3) (by decide +kernel) rfl
theorem sd26_68 : mSnd g lau mt mm26 68 (o_al 69 0) := s_aload_n (j := 0) (by decide +kernel) rfl
theorem sd26_69 : mSnd g lau mt mm26 69 (o_gI 72 9 0) := s_getI (ci := 8) (f := 0) (idx := 24) (C := RX8) (T := TX8) (N := 4) (by decide) rfl inX8 (by decide) (fun _ _ _ => rfl) tb_98 (by decide +kernel)
theorem sd26_72 : mSnd g lau mt mm26 72 (o_ias 73) := s_iast (by decide +kernel)
theorem sd26_73 : mSnd g lau mt mm26 73 (o_inc 76 3 1) := s_iinc (n := 1) (by decide +kernel) rfl
theorem sd26_76 : mSnd g lau mt mm26 76 (o_goto 47) := s_goto (off := (-29)) (by decide +kernel) rfl
theorem sd26_79 : mSnd g lau mt mm26 79 (o_rv) := s_rv (by decide +kernel) rfl
def op26 : Nat → mOp := fun pc => bif Nat.blt pc 42 then (bif Nat.blt pc 17 then (bif Nat.blt pc 9 then (bif Nat.blt pc 4 then (bif Nat.blt pc 1 then (bif Nat.beq pc 0 then o_al 1 0 else o_no) else (bif Nat.beq pc 1 then o_obj 4 else o_no)) else (bif Nat.blt pc 5 then (bif Nat.beq pc 4 then o_al 5 0 else o_no) else (bif Nat.blt pc 7 then (bif Nat.beq pc 5 then o_ic 7 41 else o_no) else (bif Nat.beq pc 7 then o_nwa 9 20 else o_no)))) else (bif Nat.blt pc 13 then (bif Nat.blt pc 12 then (bif Nat.beq pc 9 then o_pP 12 9 3 else o_no) else (bif Nat.beq pc 12 then o_al 13 0 else o_no)) else (bif Nat.blt pc 14 then (bif Nat.beq pc 13 then o_ic 14 1 else o_no) else (bif Nat.blt pc 16 then (bif Nat.beq pc 14 then o_ic 16 10 else o_no) else (bif Nat.beq pc 16 then o_il 17 1 else o_no))))) else (bif Nat.blt pc 28 then (bif Nat.blt pc 23 then (bif Nat.blt pc 20 then (bif Nat.beq pc 17 then o_min 20 else o_no) else (bif Nat.beq pc 20 then o_max 23 else o_no)) else (bif Nat.blt pc 26 then (bif Nat.beq pc 23 then o_pI 26 9 0 else o_no) else (bif Nat.blt pc 27 then (bif Nat.beq pc 26 then o_al 27 0 else o_no) else (bif Nat.beq pc 27 then o_il 28 2 else o_no)))) else (bif Nat.blt pc 34 then (bif Nat.blt pc 31 then (bif Nat.beq pc 28 then o_pI 31 9 1 else o_no) else (bif Nat.blt pc 32 then (bif Nat.beq pc 31 then o_al 32 0 else o_no) else (bif Nat.beq pc 32 then o_ic 34 41 else o_no))) else (bif Nat.blt pc 35 then (bif Nat.beq pc 34 then o_al 35 0 else o_no) else (bif Nat.blt pc 38 then (bif Nat.beq pc 35 then o_gI 38 9 0 else o_no) else (bif Nat.beq pc 38 then o_mna 42 else o_no)))))) else (bif Nat.blt pc 59 then (bif Nat.blt pc 50 then (bif Nat.blt pc 46 then (bif Nat.blt pc 45 then (bif Nat.beq pc 42 then o_pP 45 9 2 else o_no) else (bif Nat.beq pc 45 then o_ic 46 1 else o_no)) else (bif Nat.blt pc 47 then (bif Nat.beq pc 46 then o_ist 47 3 else o_no) else (bif Nat.blt pc 48 then (bif Nat.beq pc 47 then o_il 48 3 else o_no) else (bif Nat.beq pc 48 then o_ic 50 40 else o_no)))) else (bif Nat.blt pc 54 then (bif Nat.blt pc 53 then (bif Nat.beq pc 50 then o_gt 53 79 else o_no) else (bif Nat.beq pc 53 then o_al 54 0 else o_no)) else (bif Nat.blt pc 57 then (bif Nat.beq pc 54 then o_gP 57 9 2 else o_no) else (bif Nat.blt pc 58 then (bif Nat.beq pc 57 then o_il 58 3 else o_no) else (bif Nat.beq pc 58 then o_aal 59 else o_no))))) else (bif Nat.blt pc 68 then (bif Nat.blt pc 63 then (bif Nat.blt pc 60 then (bif Nat.beq pc 59 then o_ic 60 1 else o_no) else (bif Nat.beq pc 60 then o_cS 63 0 2 else o_no)) else (bif Nat.blt pc 64 then (bif Nat.beq pc 63 then o_al 64 0 else o_no) else (bif Nat.blt pc 67 then (bif Nat.beq pc 64 then o_gP 67 9 3 else o_no) else (bif Nat.beq pc 67 then o_il 68 3 else o_no)))) else (bif Nat.blt pc 73 then (bif Nat.blt pc 69 then (bif Nat.beq pc 68 then o_al 69 0 else o_no) else (bif Nat.blt pc 72 then (bif Nat.beq pc 69 then o_gI 72 9 0 else o_no) else (bif Nat.beq pc 72 then o_ias 73 else o_no))) else (bif Nat.blt pc 76 then (bif Nat.beq pc 73 then o_inc 76 3 1 else o_no) else (bif Nat.blt pc 79 then (bif Nat.beq pc 76 then o_goto 47 else o_no) else (bif Nat.beq pc 79 then o_rv else o_no))))))
theorem sn26 (pc : Nat) : mSnd g lau mt mm26 pc (op26 pc) := s_bif (s_bif (s_bif (s_bif (s_bif (s_leaf sd26_0) (s_leaf sd26_1)) (s_bif (s_leaf sd26_4) (s_bif (s_leaf sd26_5) (s_leaf sd26_7)))) (s_bif (s_bif (s_leaf sd26_9) (s_leaf sd26_12)) (s_bif (s_leaf sd26_13) (s_bif (s_leaf sd26_14) (s_leaf sd26_16))))) (s_bif (s_bif (s_bif (s_leaf sd26_17) (s_leaf sd26_20)) (s_bif (s_leaf sd26_23) (s_bif (s_leaf sd26_26) (s_leaf sd26_27)))) (s_bif (s_bif (s_leaf sd26_28) (s_bif (s_leaf sd26_31) (s_leaf sd26_32))) (s_bif (s_leaf sd26_34) (s_bif (s_leaf sd26_35) (s_leaf sd26_38)))))) (s_bif (s_bif (s_bif (s_bif (s_leaf sd26_42) (s_leaf sd26_45)) (s_bif (s_leaf sd26_46) (s_bif (s_leaf sd26_47) (s_leaf sd26_48)))) (s_bif (s_bif (s_leaf sd26_50) (s_leaf sd26_53)) (s_bif (s_leaf sd26_54) (s_bif (s_leaf sd26_57) (s_leaf sd26_58))))) (s_bif (s_bif (s_bif (s_leaf sd26_59) (s_leaf sd26_60)) (s_bif (s_leaf sd26_63) (s_bif (s_leaf sd26_64) (s_leaf sd26_67)))) (s_bif (s_bif (s_leaf sd26_68) (s_bif (s_leaf sd26_69) (s_leaf sd26_72))) (s_bif (s_leaf sd26_73) (s_bif (s_leaf sd26_76) (s_leaf sd26_79))))))
-- RoundVotes$Setup.changeWeight(III)V
theorem sd27_0 : mSnd g lau mt mm27 0 (o_il 1 3) := s_iload_n (j := 3) (by decide +kernel) rfl
theorem sd27_1 : mSnd g lau mt mm27 1 (o_ist 3 4) := s_istore (by decide +kernel)
theorem sd27_3 : mSnd g lau mt mm27 3 (o_il 5 4) := s_iload (by decide +kernel)
theorem sd27_5 : mSnd g lau mt mm27 5 (o_ic 7 40) := s_bipush (n := 40) (by decide +kernel) rfl
theorem sd27_7 : mSnd g lau mt mm27 7 (o_gt 10 47) := s_icmp_gt (off := 40) (by decide +kernel) rfl
theorem sd27_10 : mSnd g lau mt mm27 10 (o_al 11 0) := s_aload_n (j := 0) (by decide +kernel) rfl
theorem sd27_11 : mSnd g lau mt mm27 11 (o_gP 14 9 3) := s_getP (ci := 8) (f := 3) (idx := 9) (C := RX8) (T := TX8) (N := 4) (by decide) rfl inX8 (by decide) (fun _ _ _ => rfl) tb_104 (by decide +kernel)
theorem sd27_14 : mSnd g lau mt mm27 14 (o_il 16 4) := s_iload (by decide +kernel)
theorem sd27_16 : mSnd g lau mt mm27 16 (o_dup2 17) := s_dup2 (by decide +kernel)
theorem sd27_17 : mSnd g lau mt mm27 17 (o_ial 18) := s_iald (by decide +kernel)
theorem sd27_18 : mSnd g lau mt mm27 18 (o_il 19 2) := s_iload_n (j := 2) (by decide +kernel) rfl
theorem sd27_19 : mSnd g lau mt mm27 19 (o_al 20 0) := s_aload_n (j := 0) (by decide +kernel) rfl
theorem sd27_20 : mSnd g lau mt mm27 20 (o_gP 23 9 2) := s_getP (ci := 8) (f := 2) (idx := 33) (C := RX8) (T := TX8) (N := 4) (by decide) rfl inX8 (by decide) (fun _ _ _ => rfl) tb_102 (by decide +kernel)
theorem sd27_23 : mSnd g lau mt mm27 23 (o_il 25 4) := s_iload (by decide +kernel)
theorem sd27_25 : mSnd g lau mt mm27 25 (o_aal 26) := s_aald (by decide +kernel)
theorem sd27_26 : mSnd g lau mt mm27 26 (o_il 27 1) := s_iload_n (j := 1) (by decide +kernel) rfl
theorem sd27_27 : mSnd g lau mt mm27 27 (o_ial 28) := s_iald (by decide +kernel)
theorem sd27_28 : mSnd g lau mt mm27 28 (o_ii 29 (fun x y => x - y)) := s_isub (by decide +kernel)
theorem sd27_29 : mSnd g lau mt mm27 29 (o_ii 30 (fun x y => x + y)) := s_iadd (by decide +kernel)
theorem sd27_30 : mSnd g lau mt mm27 30 (o_ias 31) := s_iast (by decide +kernel)
theorem sd27_31 : mSnd g lau mt mm27 31 (o_al 32 0) := s_aload_n (j := 0) (by decide +kernel) rfl
theorem sd27_32 : mSnd g lau mt mm27 32 (o_gP 35 9 2) := s_getP (ci := 8) (f := 2) (idx := 33) (C := RX8) (T := TX8) (N := 4) (by decide) rfl inX8 (by decide) (fun _ _ _ => rfl) tb_102 (by decide +kernel)
theorem sd27_35 : mSnd g lau mt mm27 35 (o_il 37 4) := s_iload (by decide +kernel)
theorem sd27_37 : mSnd g lau mt mm27 37 (o_aal 38) := s_aald (by decide +kernel)
theorem sd27_38 : mSnd g lau mt mm27 38 (o_il 39 1) := s_iload_n (j := 1) (by decide +kernel) rfl
theorem sd27_39 : mSnd g lau mt mm27 39 (o_il 40 2) := s_iload_n (j := 2) (by decide +kernel) rfl
theorem sd27_40 : mSnd g lau mt mm27 40 (o_ias 41) := s_iast (by decide +kernel)
theorem sd27_41 : mSnd g lau mt mm27 41 (o_inc 44 4 1) := s_iinc (n := 1) (by decide +kernel) rfl
theorem sd27_44 : mSnd g lau mt mm27 44 (o_goto 3) := s_goto (off := (-41)) (by decide +kernel) rfl
theorem sd27_47 : mSnd g lau mt mm27 47 (o_rv) := s_rv (by decide +kernel) rfl
def op27 : Nat → mOp := fun pc => bif Nat.blt pc 26 then (bif Nat.blt pc 14 then (bif Nat.blt pc 5 then (bif Nat.blt pc 1 then (bif Nat.beq pc 0 then o_il 1 3 else o_no) else (bif Nat.blt pc 3 then (bif Nat.beq pc 1 then o_ist 3 4 else o_no) else (bif Nat.beq pc 3 then o_il 5 4 else o_no))) else (bif Nat.blt pc 10 then (bif Nat.blt pc 7 then (bif Nat.beq pc 5 then o_ic 7 40 else o_no) else (bif Nat.beq pc 7 then o_gt 10 47 else o_no)) else (bif Nat.blt pc 11 then (bif Nat.beq pc 10 then o_al 11 0 else o_no) else (bif Nat.beq pc 11 then o_gP 14 9 3 else o_no)))) else (bif Nat.blt pc 19 then (bif Nat.blt pc 17 then (bif Nat.blt pc 16 then (bif Nat.beq pc 14 then o_il 16 4 else o_no) else (bif Nat.beq pc 16 then o_dup2 17 else o_no)) else (bif Nat.blt pc 18 then (bif Nat.beq pc 17 then o_ial 18 else o_no) else (bif Nat.beq pc 18 then o_il 19 2 else o_no))) else (bif Nat.blt pc 23 then (bif Nat.blt pc 20 then (bif Nat.beq pc 19 then o_al 20 0 else o_no) else (bif Nat.beq pc 20 then o_gP 23 9 2 else o_no)) else (bif Nat.blt pc 25 then (bif Nat.beq pc 23 then o_il 25 4 else o_no) else (bif Nat.beq pc 25 then o_aal 26 else o_no))))) else (bif Nat.blt pc 35 then (bif Nat.blt pc 29 then (bif Nat.blt pc 27 then (bif Nat.beq pc 26 then o_il 27 1 else o_no) else (bif Nat.blt pc 28 then (bif Nat.beq pc 27 then o_ial 28 else o_no) else (bif Nat.beq pc 28 then o_ii 29 (fun x y => x - y) else o_no))) else (bif Nat.blt pc 31 then (bif Nat.blt pc 30 then (bif Nat.beq pc 29 then o_ii 30 (fun x y => x + y) else o_no) else (bif Nat.beq pc 30 then o_ias 31 else o_no)) else (bif Nat.blt pc 32 then (bif Nat.beq pc 31 then o_al 32 0 else o_no) else (bif Nat.beq pc 32 then o_gP 35 9 2 else o_no)))) else (bif Nat.blt pc 40 then (bif Nat.blt pc 38 then (bif Nat.blt pc 37 then (bif Nat.beq pc 35 then o_il 37 4 else o_no) else (bif Nat.beq pc 37 then o_aal 38 else o_no)) else (bif Nat.blt pc 39 then (bif Nat.beq pc 38 then o_il 39 1 else o_no) else (bif Nat.beq pc 39 then o_il 40 2 else o_no))) else (bif Nat.blt pc 44 then (bif Nat.blt pc 41 then (bif Nat.beq pc 40 then o_ias 41 else o_no) else (bif Nat.beq pc 41 then o_inc 44 4 1 else o_no)) else (bif Nat.blt pc 47 then (bif Nat.beq pc 44 then o_goto 3 else o_no) else (bif Nat.beq pc 47 then o_rv else o_no)))))
theorem sn27 (pc : Nat) : mSnd g lau mt mm27 pc (op27 pc) := s_bif (s_bif (s_bif (s_bif (s_leaf sd27_0) (s_bif (s_leaf sd27_1) (s_leaf sd27_3))) (s_bif (s_bif (s_leaf sd27_5) (s_leaf sd27_7)) (s_bif (s_leaf sd27_10) (s_leaf sd27_11)))) (s_bif (s_bif (s_bif (s_leaf sd27_14) (s_leaf sd27_16)) (s_bif (s_leaf sd27_17) (s_leaf sd27_18))) (s_bif (s_bif (s_leaf sd27_19) (s_leaf sd27_20)) (s_bif (s_leaf sd27_23) (s_leaf sd27_25))))) (s_bif (s_bif (s_bif (s_leaf sd27_26) (s_bif (s_leaf sd27_27) (s_leaf sd27_28))) (s_bif (s_bif (s_leaf sd27_29) (s_leaf sd27_30)) (s_bif (s_leaf sd27_31) (s_leaf sd27_32)))) (s_bif (s_bif (s_bif (s_leaf sd27_35) (s_leaf sd27_37)) (s_bif (s_leaf sd27_38) (s_leaf sd27_39))) (s_bif (s_bif (s_leaf sd27_40) (s_leaf sd27_41)) (s_bif (s_leaf sd27_44) (s_leaf sd27_47)))))
-- RoundVotes$Setup.proposer(II)I
theorem sd28_0 : mSnd g lau mt mm28 0 (o_il 1 1) := s_iload_n (j := 1) (by decide +kernel) rfl
theorem sd28_1 : mSnd g lau mt mm28 1 (o_il 2 2) := s_iload_n (j := 2) (by decide +kernel) rfl
theorem sd28_2 : mSnd g lau mt mm28 2 (o_ii 3 (fun x y => x + y)) := s_iadd (by decide +kernel)
theorem sd28_3 : mSnd g lau mt mm28 3 (o_al 4 0) := s_aload_n (j := 0) (by decide +kernel) rfl
theorem sd28_4 : mSnd g lau mt mm28 4 (o_gI 7 9 0) := s_getI (ci := 8) (f := 0) (idx := 24) (C := RX8) (T := TX8) (N := 4) (by decide) rfl inX8 (by decide) (fun _ _ _ => rfl) tb_98 (by decide +kernel)
theorem sd28_7 : mSnd g lau mt mm28 7 (o_rem 8) := s_irem (by decide +kernel)
theorem sd28_8 : mSnd g lau mt mm28 8 (o_ri) := s_ri (by decide +kernel) rfl
def op28 : Nat → mOp := fun pc => bif Nat.blt pc 3 then (bif Nat.blt pc 1 then (bif Nat.beq pc 0 then o_il 1 1 else o_no) else (bif Nat.blt pc 2 then (bif Nat.beq pc 1 then o_il 2 2 else o_no) else (bif Nat.beq pc 2 then o_ii 3 (fun x y => x + y) else o_no))) else (bif Nat.blt pc 7 then (bif Nat.blt pc 4 then (bif Nat.beq pc 3 then o_al 4 0 else o_no) else (bif Nat.beq pc 4 then o_gI 7 9 0 else o_no)) else (bif Nat.blt pc 8 then (bif Nat.beq pc 7 then o_rem 8 else o_no) else (bif Nat.beq pc 8 then o_ri else o_no)))
theorem sn28 (pc : Nat) : mSnd g lau mt mm28 pc (op28 pc) := s_bif (s_bif (s_leaf sd28_0) (s_bif (s_leaf sd28_1) (s_leaf sd28_2))) (s_bif (s_bif (s_leaf sd28_3) (s_leaf sd28_4)) (s_bif (s_leaf sd28_7) (s_leaf sd28_8)))
-- RoundVotes$Setup.ownValue(III)I
theorem sd29_0 : mSnd g lau mt mm29 0 (o_al 1 0) := s_aload_n (j := 0) (by decide +kernel) rfl
theorem sd29_1 : mSnd g lau mt mm29 1 (o_gI 4 9 1) := s_getI (ci := 8) (f := 1) (idx := 28) (C := RX8) (T := TX8) (N := 4) (by decide) rfl inX8 (by decide) (fun _ _ _ => rfl) tb_101 (by decide +kernel)
theorem sd29_4 : mSnd g lau mt mm29 4 (o_ic 7 7919) := s_sipush (n := 7919) (by decide +kernel) rfl
theorem sd29_7 : mSnd g lau mt mm29 7 (o_il 8 1) := s_iload_n (j := 1) (by decide +kernel) rfl
theorem sd29_8 : mSnd g lau mt mm29 8 (o_ii 9 (fun x y => x * y)) := s_imul (by decide +kernel)
theorem sd29_9 : mSnd g lau mt mm29 9 (o_ii 10 (fun x y => x ^^^ y)) := s_ixor (by decide +kernel)
theorem sd29_10 : mSnd g lau mt mm29 10 (o_ic 12 104729) := s_ldc (i := 42) (by decide +kernel) tb_439
theorem sd29_12 : mSnd g lau mt mm29 12 (o_il 13 2) := s_iload_n (j := 2) (by decide +kernel) rfl
theorem sd29_13 : mSnd g lau mt mm29 13 (o_ii 14 (fun x y => x * y)) := s_imul (by decide +kernel)
theorem sd29_14 : mSnd g lau mt mm29 14 (o_ii 15 (fun x y => x ^^^ y)) := s_ixor (by decide +kernel)
theorem sd29_15 : mSnd g lau mt mm29 15 (o_ic 17 1299709) := s_ldc (i := 43) (by decide +kernel) tb_440
theorem sd29_17 : mSnd g lau mt mm29 17 (o_il 18 3) := s_iload_n (j := 3) (by decide +kernel) rfl
theorem sd29_18 : mSnd g lau mt mm29 18 (o_ii 19 (fun x y => x * y)) := s_imul (by decide +kernel)
theorem sd29_19 : mSnd g lau mt mm29 19 (o_ii 20 (fun x y => x ^^^ y)) := s_ixor (by decide +kernel)
theorem sd29_20 : mSnd g lau mt mm29 20 (o_ist 22 4) := s_istore (by decide +kernel)
theorem sd29_22 : mSnd g lau mt mm29 22 (o_ic 23 2) := s_iconst (n := 2) (by decide +kernel) rfl
theorem sd29_23 : mSnd g lau mt mm29 23 (o_ic 24 2) := s_iconst (n := 2) (by decide +kernel) rfl
theorem sd29_24 : mSnd g lau mt mm29 24 (o_il 26 4) := s_iload (by decide +kernel)
theorem sd29_26 : mSnd g lau mt mm29 26 (o_ic 28 1048575) := s_ldc (i := 44) (by decide +kernel) tb_441
theorem sd29_28 : mSnd g lau mt mm29 28 (o_ii 29 (fun x y => x &&& y)) := s_iand (by decide +kernel)
theorem sd29_29 : mSnd g lau mt mm29 29 (o_ii 30 (fun x y => x * y)) := s_imul (by decide +kernel)
theorem sd29_30 : mSnd g lau mt mm29 30 (o_ii 31 (fun x y => x + y)) := s_iadd (by decide +kernel)
theorem sd29_31 : mSnd g lau mt mm29 31 (o_ri) := s_ri (by decide +kernel) rfl
def op29 : Nat → mOp := fun pc => bif Nat.blt pc 17 then (bif Nat.blt pc 9 then (bif Nat.blt pc 4 then (bif Nat.blt pc 1 then (bif Nat.beq pc 0 then o_al 1 0 else o_no) else (bif Nat.beq pc 1 then o_gI 4 9 1 else o_no)) else (bif Nat.blt pc 7 then (bif Nat.beq pc 4 then o_ic 7 7919 else o_no) else (bif Nat.blt pc 8 then (bif Nat.beq pc 7 then o_il 8 1 else o_no) else (bif Nat.beq pc 8 then o_ii 9 (fun x y => x * y) else o_no)))) else (bif Nat.blt pc 13 then (bif Nat.blt pc 10 then (bif Nat.beq pc 9 then o_ii 10 (fun x y => x ^^^ y) else o_no) else (bif Nat.blt pc 12 then (bif Nat.beq pc 10 then o_ic 12 104729 else o_no) else (bif Nat.beq pc 12 then o_il 13 2 else o_no))) else (bif Nat.blt pc 14 then (bif Nat.beq pc 13 then o_ii 14 (fun x y => x * y) else o_no) else (bif Nat.blt pc 15 then (bif Nat.beq pc 14 then o_ii 15 (fun x y => x ^^^ y) else o_no) else (bif Nat.beq pc 15 then o_ic 17 1299709 else o_no))))) else (bif Nat.blt pc 24 then (bif Nat.blt pc 20 then (bif Nat.blt pc 18 then (bif Nat.beq pc 17 then o_il 18 3 else o_no) else (bif Nat.blt pc 19 then (bif Nat.beq pc 18 then o_ii 19 (fun x y => x * y) else o_no) else (bif Nat.beq pc 19 then o_ii 20 (fun x y => x ^^^ y) else o_no))) else (bif Nat.blt pc 22 then (bif Nat.beq pc 20 then o_ist 22 4 else o_no) else (bif Nat.blt pc 23 then (bif Nat.beq pc 22 then o_ic 23 2 else o_no) else (bif Nat.beq pc 23 then o_ic 24 2 else o_no)))) else (bif Nat.blt pc 29 then (bif Nat.blt pc 26 then (bif Nat.beq pc 24 then o_il 26 4 else o_no) else (bif Nat.blt pc 28 then (bif Nat.beq pc 26 then o_ic 28 1048575 else o_no) else (bif Nat.beq pc 28 then o_ii 29 (fun x y => x &&& y) else o_no))) else (bif Nat.blt pc 30 then (bif Nat.beq pc 29 then o_ii 30 (fun x y => x * y) else o_no) else (bif Nat.blt pc 31 then (bif Nat.beq pc 30 then o_ii 31 (fun x y => x + y) else o_no) else (bif Nat.beq pc 31 then o_ri else o_no)))))
theorem sn29 (pc : Nat) : mSnd g lau mt mm29 pc (op29 pc) := s_bif (s_bif (s_bif (s_bif (s_leaf sd29_0) (s_leaf sd29_1)) (s_bif (s_leaf sd29_4) (s_bif (s_leaf sd29_7) (s_leaf sd29_8)))) (s_bif (s_bif (s_leaf sd29_9) (s_bif (s_leaf sd29_10) (s_leaf sd29_12))) (s_bif (s_leaf sd29_13) (s_bif (s_leaf sd29_14) (s_leaf sd29_15))))) (s_bif (s_bif (s_bif (s_leaf sd29_17) (s_bif (s_leaf sd29_18) (s_leaf sd29_19))) (s_bif (s_leaf sd29_20) (s_bif (s_leaf sd29_22) (s_leaf sd29_23)))) (s_bif (s_bif (s_leaf sd29_24) (s_bif (s_leaf sd29_26) (s_leaf sd29_28))) (s_bif (s_leaf sd29_29) (s_bif (s_leaf sd29_30) (s_leaf sd29_31)))))
-- RoundVotes$Setup.weightOfAll(II)I
theorem sd30_0 : mSnd g lau mt mm30 0 (o_ic 1 0) := s_iconst (n := 0) (by decide +kernel) rfl
theorem sd30_1 : mSnd g lau mt mm30 1 (o_ist 2 3) := s_istore_n (j := 3) (by decide +kernel) rfl
theorem sd30_2 : mSnd g lau mt mm30 2 (o_ic 3 0) := s_iconst (n := 0) (by decide +kernel) rfl
theorem sd30_3 : mSnd g lau mt mm30 3 (o_ist 5 4) := s_istore (by decide +kernel)
theorem sd30_5 : mSnd g lau mt mm30 5 (o_il 7 4) := s_iload (by decide +kernel)
theorem sd30_7 : mSnd g lau mt mm30 7 (o_al 8 0) := s_aload_n (j := 0) (by decide +kernel) rfl
theorem sd30_8 : mSnd g lau mt mm30 8 (o_gI 11 9 0) := s_getI (ci := 8) (f := 0) (idx := 24) (C := RX8) (T := TX8) (N := 4) (by decide) rfl inX8 (by decide) (fun _ _ _ => rfl) tb_98 (by decide +kernel)
theorem sd30_11 : mSnd g lau mt mm30 11 (o_ge 14 42) := s_icmp_ge (off := 31) (by decide +kernel) rfl
theorem sd30_14 : mSnd g lau mt mm30 14 (o_il 15 1) := s_iload_n (j := 1) (by decide +kernel) rfl
theorem sd30_15 : mSnd g lau mt mm30 15 (o_il 17 4) := s_iload (by decide +kernel)
theorem sd30_17 : mSnd g lau mt mm30 17 (o_ii 18 (fun x y => x >>> (y &&& 31))) := s_ishr (by decide +kernel)
theorem sd30_18 : mSnd g lau mt mm30 18 (o_ic 19 1) := s_iconst (n := 1) (by decide +kernel) rfl
theorem sd30_19 : mSnd g lau mt mm30 19 (o_ii 20 (fun x y => x &&& y)) := s_iand (by decide +kernel)
theorem sd30_20 : mSnd g lau mt mm30 20 (o_ic 21 1) := s_iconst (n := 1) (by decide +kernel) rfl
theorem sd30_21 : mSnd g lau mt mm30 21 (o_ne 24 36) := s_icmp_ne (off := 15) (by decide +kernel) rfl
theorem sd30_24 : mSnd g lau mt mm30 24 (o_il 25 3) := s_iload_n (j := 3) (by decide +kernel) rfl
theorem sd30_25 : mSnd g lau mt mm30 25 (o_al 26 0) := s_aload_n (j := 0) (by decide +kernel) rfl
theorem sd30_26 : mSnd g lau mt mm30 26 (o_gP 29 9 2) := s_getP (ci := 8) (f := 2) (idx := 33) (C := RX8) (T := TX8) (N := 4) (by decide) rfl inX8 (by decide) (fun _ _ _ => rfl) tb_102 (by decide +kernel)
theorem sd30_29 : mSnd g lau mt mm30 29 (o_il 30 2) := s_iload_n (j := 2) (by decide +kernel) rfl
theorem sd30_30 : mSnd g lau mt mm30 30 (o_aal 31) := s_aald (by decide +kernel)
theorem sd30_31 : mSnd g lau mt mm30 31 (o_il 33 4) := s_iload (by decide +kernel)
theorem sd30_33 : mSnd g lau mt mm30 33 (o_ial 34) := s_iald (by decide +kernel)
theorem sd30_34 : mSnd g lau mt mm30 34 (o_ii 35 (fun x y => x + y)) := s_iadd (by decide +kernel)
theorem sd30_35 : mSnd g lau mt mm30 35 (o_ist 36 3) := s_istore_n (j := 3) (by decide +kernel) rfl
theorem sd30_36 : mSnd g lau mt mm30 36 (o_inc 39 4 1) := s_iinc (n := 1) (by decide +kernel) rfl
theorem sd30_39 : mSnd g lau mt mm30 39 (o_goto 5) := s_goto (off := (-34)) (by decide +kernel) rfl
theorem sd30_42 : mSnd g lau mt mm30 42 (o_il 43 3) := s_iload_n (j := 3) (by decide +kernel) rfl
theorem sd30_43 : mSnd g lau mt mm30 43 (o_ri) := s_ri (by decide +kernel) rfl
def op30 : Nat → mOp := fun pc => bif Nat.blt pc 21 then (bif Nat.blt pc 11 then (bif Nat.blt pc 3 then (bif Nat.blt pc 1 then (bif Nat.beq pc 0 then o_ic 1 0 else o_no) else (bif Nat.blt pc 2 then (bif Nat.beq pc 1 then o_ist 2 3 else o_no) else (bif Nat.beq pc 2 then o_ic 3 0 else o_no))) else (bif Nat.blt pc 7 then (bif Nat.blt pc 5 then (bif Nat.beq pc 3 then o_ist 5 4 else o_no) else (bif Nat.beq pc 5 then o_il 7 4 else o_no)) else (bif Nat.blt pc 8 then (bif Nat.beq pc 7 then o_al 8 0 else o_no) else (bif Nat.beq pc 8 then o_gI 11 9 0 else o_no)))) else (bif Nat.blt pc 17 then (bif Nat.blt pc 14 then (bif Nat.beq pc 11 then o_ge 14 42 else o_no) else (bif Nat.blt pc 15 then (bif Nat.beq pc 14 then o_il 15 1 else o_no) else (bif Nat.beq pc 15 then o_il 17 4 else o_no))) else (bif Nat.blt pc 19 then (bif Nat.blt pc 18 then (bif Nat.beq pc 17 then o_ii 18 (fun x y => x >>> (y &&& 31)) else o_no) else (bif Nat.beq pc 18 then o_ic 19 1 else o_no)) else (bif Nat.blt pc 20 then (bif Nat.beq pc 19 then o_ii 20 (fun x y => x &&& y) else o_no) else (bif Nat.beq pc 20 then o_ic 21 1 else o_no))))) else (bif Nat.blt pc 33 then (bif Nat.blt pc 26 then (bif Nat.blt pc 24 then (bif Nat.beq pc 21 then o_ne 24 36 else o_no) else (bif Nat.blt pc 25 then (bif Nat.beq pc 24 then o_il 25 3 else o_no) else (bif Nat.beq pc 25 then o_al 26 0 else o_no))) else (bif Nat.blt pc 30 then (bif Nat.blt pc 29 then (bif Nat.beq pc 26 then o_gP 29 9 2 else o_no) else (bif Nat.beq pc 29 then o_il 30 2 else o_no)) else (bif Nat.blt pc 31 then (bif Nat.beq pc 30 then o_aal 31 else o_no) else (bif Nat.beq pc 31 then o_il 33 4 else o_no)))) else (bif Nat.blt pc 36 then (bif Nat.blt pc 34 then (bif Nat.beq pc 33 then o_ial 34 else o_no) else (bif Nat.blt pc 35 then (bif Nat.beq pc 34 then o_ii 35 (fun x y => x + y) else o_no) else (bif Nat.beq pc 35 then o_ist 36 3 else o_no))) else (bif Nat.blt pc 42 then (bif Nat.blt pc 39 then (bif Nat.beq pc 36 then o_inc 39 4 1 else o_no) else (bif Nat.beq pc 39 then o_goto 5 else o_no)) else (bif Nat.blt pc 43 then (bif Nat.beq pc 42 then o_il 43 3 else o_no) else (bif Nat.beq pc 43 then o_ri else o_no)))))
theorem sn30 (pc : Nat) : mSnd g lau mt mm30 pc (op30 pc) := s_bif (s_bif (s_bif (s_bif (s_leaf sd30_0) (s_bif (s_leaf sd30_1) (s_leaf sd30_2))) (s_bif (s_bif (s_leaf sd30_3) (s_leaf sd30_5)) (s_bif (s_leaf sd30_7) (s_leaf sd30_8)))) (s_bif (s_bif (s_leaf sd30_11) (s_bif (s_leaf sd30_14) (s_leaf sd30_15))) (s_bif (s_bif (s_leaf sd30_17) (s_leaf sd30_18)) (s_bif (s_leaf sd30_19) (s_leaf sd30_20))))) (s_bif (s_bif (s_bif (s_leaf sd30_21) (s_bif (s_leaf sd30_24) (s_leaf sd30_25))) (s_bif (s_bif (s_leaf sd30_26) (s_leaf sd30_29)) (s_bif (s_leaf sd30_30) (s_leaf sd30_31)))) (s_bif (s_bif (s_leaf sd30_33) (s_bif (s_leaf sd30_34) (s_leaf sd30_35))) (s_bif (s_bif (s_leaf sd30_36) (s_leaf sd30_39)) (s_bif (s_leaf sd30_42) (s_leaf sd30_43)))))
-- RoundVotes$Mail.<init>()V
theorem sd31_0 : mSnd g lau mt mm31 0 (o_al 1 0) := s_aload_n (j := 0) (by decide +kernel) rfl
theorem sd31_1 : mSnd g lau mt mm31 1 (o_obj 4) := s_obj (idx := 3) tb_28 tb_21 tb_22 (by decide) (by decide) (by decide +kernel)
theorem sd31_4 : mSnd g lau mt mm31 4 (o_al 5 0) := s_aload_n (j := 0) (by decide +kernel) rfl
theorem sd31_5 : mSnd g lau mt mm31 5 (o_ic 8 12000) := s_sipush (n := 12000) (by decide +kernel) rfl
theorem sd31_8 : mSnd g lau mt mm31 8 (o_nwa 11 23) := s_anew (t := 23) (idx := 9) (C := RX5) (by decide) (by decide) rfl (fun _ => rfl) tb_29 (List.mem_of_getElem? (i := 0) rfl) (by decide +kernel)
theorem sd31_11 : mSnd g lau mt mm31 11 (o_pP 14 5 0) := s_putP (ci := 4) (f := 0) (idx := 11) (C := RX4) (T := TX4) (N := 3) (by decide) rfl inX4 (by decide) tyX4 tyX4_ok nmX4 (Or.inr ⟨rfl, rfl⟩) tb_31 (by decide +kernel) (fun _ _ _ => rfl) rfl
theorem sd31_14 : mSnd g lau mt mm31 14 (o_rv) := s_rv (by decide +kernel) rfl
def op31 : Nat → mOp := fun pc => bif Nat.blt pc 5 then (bif Nat.blt pc 1 then (bif Nat.beq pc 0 then o_al 1 0 else o_no) else (bif Nat.blt pc 4 then (bif Nat.beq pc 1 then o_obj 4 else o_no) else (bif Nat.beq pc 4 then o_al 5 0 else o_no))) else (bif Nat.blt pc 11 then (bif Nat.blt pc 8 then (bif Nat.beq pc 5 then o_ic 8 12000 else o_no) else (bif Nat.beq pc 8 then o_nwa 11 23 else o_no)) else (bif Nat.blt pc 14 then (bif Nat.beq pc 11 then o_pP 14 5 0 else o_no) else (bif Nat.beq pc 14 then o_rv else o_no)))
theorem sn31 (pc : Nat) : mSnd g lau mt mm31 pc (op31 pc) := s_bif (s_bif (s_leaf sd31_0) (s_bif (s_leaf sd31_1) (s_leaf sd31_4))) (s_bif (s_bif (s_leaf sd31_5) (s_leaf sd31_8)) (s_bif (s_leaf sd31_11) (s_leaf sd31_14)))
-- RoundVotes$Mail.post(LRoundVotes$Message;IZ)Z
theorem sd32_0 : mSnd g lau mt mm32 0 (o_al 1 0) := s_aload_n (j := 0) (by decide +kernel) rfl
theorem sd32_1 : mSnd g lau mt mm32 1 (o_gI 4 5 2) := s_getI (ci := 4) (f := 2) (idx := 17) (C := RX4) (T := TX4) (N := 3) (by decide) rfl inX4 (by decide) (fun _ _ _ => rfl) tb_35 (by decide +kernel)
theorem sd32_4 : mSnd g lau mt mm32 4 (o_ic 7 6000) := s_sipush (n := 6000) (by decide +kernel) rfl
theorem sd32_7 : mSnd g lau mt mm32 7 (o_ge 10 22) := s_icmp_ge (off := 15) (by decide +kernel) rfl
theorem sd32_10 : mSnd g lau mt mm32 10 (o_al 11 0) := s_aload_n (j := 0) (by decide +kernel) rfl
theorem sd32_11 : mSnd g lau mt mm32 11 (o_gI 14 5 1) := s_getI (ci := 4) (f := 1) (idx := 21) (C := RX4) (T := TX4) (N := 3) (by decide) rfl inX4 (by decide) (fun _ _ _ => rfl) tb_33 (by decide +kernel)
theorem sd32_14 : mSnd g lau mt mm32 14 (o_al 15 0) := s_aload_n (j := 0) (by decide +kernel) rfl
theorem sd32_15 : mSnd g lau mt mm32 15 (o_gP 18 5 0) := s_getP (ci := 4) (f := 0) (idx := 11) (C := RX4) (T := TX4) (N := 3) (by decide) rfl inX4 (by decide) (fun _ _ _ => rfl) tb_31 (by decide +kernel)
theorem sd32_18 : mSnd g lau mt mm32 18 (o_aln 19) := s_alen (by decide +kernel)
theorem sd32_19 : mSnd g lau mt mm32 19 (o_lt 22 24) := s_icmp_lt (off := 5) (by decide +kernel) rfl
theorem sd32_22 : mSnd g lau mt mm32 22 (o_ic 23 0) := s_iconst (n := 0) (by decide +kernel) rfl
theorem sd32_23 : mSnd g lau mt mm32 23 (o_rz) := s_rz (by decide +kernel) rfl
theorem sd32_24 : mSnd g lau mt mm32 24 (o_al 25 0) := s_aload_n (j := 0) (by decide +kernel) rfl
theorem sd32_25 : mSnd g lau mt mm32 25 (o_gP 28 5 0) := s_getP (ci := 4) (f := 0) (idx := 11) (C := RX4) (T := TX4) (N := 3) (by decide) rfl inX4 (by decide) (fun _ _ _ => rfl) tb_31 (by decide +kernel)
theorem sd32_28 : mSnd g lau mt mm32 28 (o_al 29 0) := s_aload_n (j := 0) (by decide +kernel) rfl
theorem sd32_29 : mSnd g lau mt mm32 29 (o_gI 32 5 1) := s_getI (ci := 4) (f := 1) (idx := 21) (C := RX4) (T := TX4) (N := 3) (by decide) rfl inX4 (by decide) (fun _ _ _ => rfl) tb_33 (by decide +kernel)
theorem sd32_32 : mSnd g lau mt mm32 32 (o_aal 33) := s_aald (by decide +kernel)
theorem sd32_33 : mSnd g lau mt mm32 33 (o_nnul 36 52) := s_ifnonnull (off := 19) (by decide +kernel) rfl
theorem sd32_36 : mSnd g lau mt mm32 36 (o_al 37 0) := s_aload_n (j := 0) (by decide +kernel) rfl
theorem sd32_37 : mSnd g lau mt mm32 37 (o_gP 40 5 0) := s_getP (ci := 4) (f := 0) (idx := 11) (C := RX4) (T := TX4) (N := 3) (by decide) rfl inX4 (by decide) (fun _ _ _ => rfl) tb_31 (by decide +kernel)
theorem sd32_40 : mSnd g lau mt mm32 40 (o_al 41 0) := s_aload_n (j := 0) (by decide +kernel) rfl
theorem sd32_41 : mSnd g lau mt mm32 41 (o_gI 44 5 1) := s_getI (ci := 4) (f := 1) (idx := 21) (C := RX4) (T := TX4) (N := 3) (by decide) rfl inX4 (by decide) (fun _ _ _ => rfl) tb_33 (by decide +kernel)
theorem sd32_44 : mSnd g lau mt mm32 44 (o_new 47 6 9) := s_new (ci := 5) (idx := 9) (C := RX5) (T := TX5) (N := 9) (by decide) rfl inX5 tyX5 tyX5_ok dfX5 tb_29 tb_206 tb_13 (by decide +kernel)
theorem sd32_47 : mSnd g lau mt mm32 47 (o_dup 48) := s_dup (by decide +kernel)
theorem sd32_48 : mSnd g lau mt mm32 48 (o_cI 51 4 0) := s_cN (m' := 4) (idx := 24) (host := RX10) ⟨cw_4.1, cw_4.2.1, cw_4.2.2, by decide⟩ rfl (List.mem_of_getElem? (i := 7) rfl) rfl tb_208 (by decide +kernel)
theorem sd32_51 : mSnd g lau mt mm32 51 (o_aas 52) := s_aast (by decide +kernel)
theorem sd32_52 : mSnd g lau mt mm32 52 (o_al 53 0) := s_aload_n (j := 0) (by decide +kernel) rfl
theorem sd32_53 : mSnd g lau mt mm32 53 (o_gP 56 5 0) := s_getP (ci := 4) (f := 0) (idx := 11) (C := RX4) (T := TX4) (N := 3) (by decide) rfl inX4 (by decide) (fun _ _ _ => rfl) tb_31 (by decide +kernel)
theorem sd32_56 : mSnd g lau mt mm32 56 (o_al 57 0) := s_aload_n (j := 0) (by decide +kernel) rfl
theorem sd32_57 : mSnd g lau mt mm32 57 (o_gI 60 5 1) := s_getI (ci := 4) (f := 1) (idx := 21) (C := RX4) (T := TX4) (N := 3) (by decide) rfl inX4 (by decide) (fun _ _ _ => rfl) tb_33 (by decide +kernel)
theorem sd32_60 : mSnd g lau mt mm32 60 (o_aal 61) := s_aald (by decide +kernel)
theorem sd32_61 : mSnd g lau mt mm32 61 (o_ast 63 4) := s_astore (by decide +kernel)
theorem sd32_63 : mSnd g lau mt mm32 63 (o_al 65 4) := s_aload (by decide +kernel)
theorem sd32_65 : mSnd g lau mt mm32 65 (o_al 66 1) := s_aload_n (j := 1) (by decide +kernel) rfl
theorem sd32_66 : mSnd g lau mt mm32 66 (o_cV 69 6 1 6) := s_cV (m' := 6) (ci := 5) (idx := 25) (r0 := (RX5, TX5, 9)) ⟨cw_6.1, cw_6.2.1, cw_6.2.2, by decide⟩ tb_505 rfl (by decide) rfl tb_506 tb_507 (by decide +kernel)
theorem sd32_69 : mSnd g lau mt mm32 69 (o_al 71 4) := s_aload (by decide +kernel)
theorem sd32_71 : mSnd g lau mt mm32 71 (o_il 72 2) := s_iload_n (j := 2) (by decide +kernel) rfl
theorem sd32_72 : mSnd g lau mt mm32 72 (o_pI 75 6 7) := s_putI (ci := 5) (f := 7) (idx := 29) (C := RX5) (T := TX5) (N := 9) (by decide) rfl inX5 (by decide) tyX5 tyX5_ok nmX5 (Or.inl rfl) tb_236 (by decide +kernel) (fun _ _ _ => rfl) rfl
theorem sd32_75 : mSnd g lau mt mm32 75 (o_al 77 4) := s_aload (by decide +kernel)
theorem sd32_77 : mSnd g lau mt mm32 77 (o_il 78 3) := s_iload_n (j := 3) (by decide +kernel) rfl
theorem sd32_78 : mSnd g lau mt mm32 78 (o_pZ 81 6 8) := s_putZ (ci := 5) (f := 8) (idx := 32) (C := RX5) (T := TX5) (N := 9) (by decide) rfl inX5 (by decide) tyX5 tyX5_ok nmX5 (Or.inl rfl) tb_238 (by decide +kernel) (fun _ _ _ => rfl) rfl
theorem sd32_81 : mSnd g lau mt mm32 81 (o_al 82 0) := s_aload_n (j := 0) (by decide +kernel) rfl
theorem sd32_82 : mSnd g lau mt mm32 82 (o_dup 83) := s_dup (by decide +kernel)
theorem sd32_83 : mSnd g lau mt mm32 83 (o_gI 86 5 1) := s_getI (ci := 4) (f := 1) (idx := 21) (C := RX4) (T := TX4) (N := 3) (by decide) rfl inX4 (by decide) (fun _ _ _ => rfl) tb_33 (by decide +kernel)
theorem sd32_86 : mSnd g lau mt mm32 86 (o_ic 87 1) := s_iconst (n := 1) (by decide +kernel) rfl
theorem sd32_87 : mSnd g lau mt mm32 87 (o_ii 88 (fun x y => x + y)) := s_iadd (by decide +kernel)
theorem sd32_88 : mSnd g lau mt mm32 88 (o_pI 91 5 1) := s_putI (ci := 4) (f := 1) (idx := 21) (C := RX4) (T := TX4) (N := 3) (by decide) rfl inX4 (by decide) tyX4 tyX4_ok nmX4 (Or.inl rfl) tb_33 (by decide +kernel) (fun _ _ _ => rfl) rfl
theorem sd32_91 : mSnd g lau mt mm32 91 (o_al 92 0) := s_aload_n (j := 0) (by decide +kernel) rfl
theorem sd32_92 : mSnd g lau mt mm32 92 (o_dup 93) := s_dup (by decide +kernel)
theorem sd32_93 : mSnd g lau mt mm32 93 (o_gI 96 5 2) := s_getI (ci := 4) (f := 2) (idx := 17) (C := RX4) (T := TX4) (N := 3) (by decide) rfl inX4 (by decide) (fun _ _ _ => rfl) tb_35 (by decide +kernel)
theorem sd32_96 : mSnd g lau mt mm32 96 (o_ic 97 1) := s_iconst (n := 1) (by decide +kernel) rfl
theorem sd32_97 : mSnd g lau mt mm32 97 (o_ii 98 (fun x y => x + y)) := s_iadd (by decide +kernel)
theorem sd32_98 : mSnd g lau mt mm32 98 (o_pI 101 5 2) := s_putI (ci := 4) (f := 2) (idx := 17) (C := RX4) (T := TX4) (N := 3) (by decide) rfl inX4 (by decide) tyX4 tyX4_ok nmX4 (Or.inl rfl) tb_35 (by decide +kernel) (fun _ _ _ => rfl) rfl
theorem sd32_101 : mSnd g lau mt mm32 101 (o_ic 102 1) := s_iconst (n := 1) (by decide +kernel) rfl
theorem sd32_102 : mSnd g lau mt mm32 102 (o_rz) := s_rz (by decide +kernel) rfl
def op32 : Nat → mOp := fun pc => bif Nat.blt pc 53 then (bif Nat.blt pc 25 then (bif Nat.blt pc 14 then (bif Nat.blt pc 7 then (bif Nat.blt pc 1 then (bif Nat.beq pc 0 then o_al 1 0 else o_no) else (bif Nat.blt pc 4 then (bif Nat.beq pc 1 then o_gI 4 5 2 else o_no) else (bif Nat.beq pc 4 then o_ic 7 6000 else o_no))) else (bif Nat.blt pc 10 then (bif Nat.beq pc 7 then o_ge 10 22 else o_no) else (bif Nat.blt pc 11 then (bif Nat.beq pc 10 then o_al 11 0 else o_no) else (bif Nat.beq pc 11 then o_gI 14 5 1 else o_no)))) else (bif Nat.blt pc 19 then (bif Nat.blt pc 15 then (bif Nat.beq pc 14 then o_al 15 0 else o_no) else (bif Nat.blt pc 18 then (bif Nat.beq pc 15 then o_gP 18 5 0 else o_no) else (bif Nat.beq pc 18 then o_aln 19 else o_no))) else (bif Nat.blt pc 23 then (bif Nat.blt pc 22 then (bif Nat.beq pc 19 then o_lt 22 24 else o_no) else (bif Nat.beq pc 22 then o_ic 23 0 else o_no)) else (bif Nat.blt pc 24 then (bif Nat.beq pc 23 then o_rz else o_no) else (bif Nat.beq pc 24 then o_al 25 0 else o_no))))) else (bif Nat.blt pc 40 then (bif Nat.blt pc 32 then (bif Nat.blt pc 28 then (bif Nat.beq pc 25 then o_gP 28 5 0 else o_no) else (bif Nat.blt pc 29 then (bif Nat.beq pc 28 then o_al 29 0 else o_no) else (bif Nat.beq pc 29 then o_gI 32 5 1 else o_no))) else (bif Nat.blt pc 36 then (bif Nat.blt pc 33 then (bif Nat.beq pc 32 then o_aal 33 else o_no) else (bif Nat.beq pc 33 then o_nnul 36 52 else o_no)) else (bif Nat.blt pc 37 then (bif Nat.beq pc 36 then o_al 37 0 else o_no) else (bif Nat.beq pc 37 then o_gP 40 5 0 else o_no)))) else (bif Nat.blt pc 47 then (bif Nat.blt pc 41 then (bif Nat.beq pc 40 then o_al 41 0 else o_no) else (bif Nat.blt pc 44 then (bif Nat.beq pc 41 then o_gI 44 5 1 else o_no) else (bif Nat.beq pc 44 then o_new 47 6 9 else o_no))) else (bif Nat.blt pc 51 then (bif Nat.blt pc 48 then (bif Nat.beq pc 47 then o_dup 48 else o_no) else (bif Nat.beq pc 48 then o_cI 51 4 0 else o_no)) else (bif Nat.blt pc 52 then (bif Nat.beq pc 51 then o_aas 52 else o_no) else (bif Nat.beq pc 52 then o_al 53 0 else o_no)))))) else (bif Nat.blt pc 81 then (bif Nat.blt pc 66 then (bif Nat.blt pc 60 then (bif Nat.blt pc 56 then (bif Nat.beq pc 53 then o_gP 56 5 0 else o_no) else (bif Nat.blt pc 57 then (bif Nat.beq pc 56 then o_al 57 0 else o_no) else (bif Nat.beq pc 57 then o_gI 60 5 1 else o_no))) else (bif Nat.blt pc 63 then (bif Nat.blt pc 61 then (bif Nat.beq pc 60 then o_aal 61 else o_no) else (bif Nat.beq pc 61 then o_ast 63 4 else o_no)) else (bif Nat.blt pc 65 then (bif Nat.beq pc 63 then o_al 65 4 else o_no) else (bif Nat.beq pc 65 then o_al 66 1 else o_no)))) else (bif Nat.blt pc 72 then (bif Nat.blt pc 69 then (bif Nat.beq pc 66 then o_cV 69 6 1 6 else o_no) else (bif Nat.blt pc 71 then (bif Nat.beq pc 69 then o_al 71 4 else o_no) else (bif Nat.beq pc 71 then o_il 72 2 else o_no))) else (bif Nat.blt pc 77 then (bif Nat.blt pc 75 then (bif Nat.beq pc 72 then o_pI 75 6 7 else o_no) else (bif Nat.beq pc 75 then o_al 77 4 else o_no)) else (bif Nat.blt pc 78 then (bif Nat.beq pc 77 then o_il 78 3 else o_no) else (bif Nat.beq pc 78 then o_pZ 81 6 8 else o_no))))) else (bif Nat.blt pc 92 then (bif Nat.blt pc 86 then (bif Nat.blt pc 82 then (bif Nat.beq pc 81 then o_al 82 0 else o_no) else (bif Nat.blt pc 83 then (bif Nat.beq pc 82 then o_dup 83 else o_no) else (bif Nat.beq pc 83 then o_gI 86 5 1 else o_no))) else (bif Nat.blt pc 88 then (bif Nat.blt pc 87 then (bif Nat.beq pc 86 then o_ic 87 1 else o_no) else (bif Nat.beq pc 87 then o_ii 88 (fun x y => x + y) else o_no)) else (bif Nat.blt pc 91 then (bif Nat.beq pc 88 then o_pI 91 5 1 else o_no) else (bif Nat.beq pc 91 then o_al 92 0 else o_no)))) else (bif Nat.blt pc 97 then (bif Nat.blt pc 93 then (bif Nat.beq pc 92 then o_dup 93 else o_no) else (bif Nat.blt pc 96 then (bif Nat.beq pc 93 then o_gI 96 5 2 else o_no) else (bif Nat.beq pc 96 then o_ic 97 1 else o_no))) else (bif Nat.blt pc 101 then (bif Nat.blt pc 98 then (bif Nat.beq pc 97 then o_ii 98 (fun x y => x + y) else o_no) else (bif Nat.beq pc 98 then o_pI 101 5 2 else o_no)) else (bif Nat.blt pc 102 then (bif Nat.beq pc 101 then o_ic 102 1 else o_no) else (bif Nat.beq pc 102 then o_rz else o_no))))))
theorem sn32 (pc : Nat) : mSnd g lau mt mm32 pc (op32 pc) := s_bif (s_bif (s_bif (s_bif (s_bif (s_leaf sd32_0) (s_bif (s_leaf sd32_1) (s_leaf sd32_4))) (s_bif (s_leaf sd32_7) (s_bif (s_leaf sd32_10) (s_leaf sd32_11)))) (s_bif (s_bif (s_leaf sd32_14) (s_bif (s_leaf sd32_15) (s_leaf sd32_18))) (s_bif (s_bif (s_leaf sd32_19) (s_leaf sd32_22)) (s_bif (s_leaf sd32_23) (s_leaf sd32_24))))) (s_bif (s_bif (s_bif (s_leaf sd32_25) (s_bif (s_leaf sd32_28) (s_leaf sd32_29))) (s_bif (s_bif (s_leaf sd32_32) (s_leaf sd32_33)) (s_bif (s_leaf sd32_36) (s_leaf sd32_37)))) (s_bif (s_bif (s_leaf sd32_40) (s_bif (s_leaf sd32_41) (s_leaf sd32_44))) (s_bif (s_bif (s_leaf sd32_47) (s_leaf sd32_48)) (s_bif (s_leaf sd32_51) (s_leaf sd32_52)))))) (s_bif (s_bif (s_bif (s_bif (s_leaf sd32_53) (s_bif (s_leaf sd32_56) (s_leaf sd32_57))) (s_bif (s_bif (s_leaf sd32_60) (s_leaf sd32_61)) (s_bif (s_leaf sd32_63) (s_leaf sd32_65)))) (s_bif (s_bif (s_leaf sd32_66) (s_bif (s_leaf sd32_69) (s_leaf sd32_71))) (s_bif (s_bif (s_leaf sd32_72) (s_leaf sd32_75)) (s_bif (s_leaf sd32_77) (s_leaf sd32_78))))) (s_bif (s_bif (s_bif (s_leaf sd32_81) (s_bif (s_leaf sd32_82) (s_leaf sd32_83))) (s_bif (s_bif (s_leaf sd32_86) (s_leaf sd32_87)) (s_bif (s_leaf sd32_88) (s_leaf sd32_91)))) (s_bif (s_bif (s_leaf sd32_92) (s_bif (s_leaf sd32_93) (s_leaf sd32_96))) (s_bif (s_bif (s_leaf sd32_97) (s_leaf sd32_98)) (s_bif (s_leaf sd32_101) (s_leaf sd32_102))))))
-- RoundVotes$Mail.dropUpTo(I)V
theorem sd33_0 : mSnd g lau mt mm33 0 (o_ic 1 0) := s_iconst (n := 0) (by decide +kernel) rfl
theorem sd33_1 : mSnd g lau mt mm33 1 (o_ist 2 2) := s_istore_n (j := 2) (by decide +kernel) rfl
theorem sd33_2 : mSnd g lau mt mm33 2 (o_ic 3 0) := s_iconst (n := 0) (by decide +kernel) rfl
theorem sd33_3 : mSnd g lau mt mm33 3 (o_ist 4 3) := s_istore_n (j := 3) (by decide +kernel) rfl
theorem sd33_4 : mSnd g lau mt mm33 4 (o_il 5 3) := s_iload_n (j := 3) (by decide +kernel) rfl
theorem sd33_5 : mSnd g lau mt mm33 5 (o_al 6 0) := s_aload_n (j := 0) (by decide +kernel) rfl
theorem sd33_6 : mSnd g lau mt mm33 6 (o_gI 9 5 1) := s_getI (ci := 4) (f := 1) (idx := 21) (C := RX4) (T := TX4) (N := 3) (by decide) rfl inX4 (by decide) (fun _ _ _ => rfl) tb_33 (by decide +kernel)
theorem sd33_9 : mSnd g lau mt mm33 9 (o_ge 12 63) := s_icmp_ge (off := 54) (by decide +kernel) rfl
theorem sd33_12 : mSnd g lau mt mm33 12 (o_al 13 0) := s_aload_n (j := 0) (by decide +kernel) rfl
theorem sd33_13 : mSnd g lau mt mm33 13 (o_gP 16 5 0) := s_getP (ci := 4) (f := 0) (idx := 11) (C := RX4) (T := TX4) (N := 3) (by decide) rfl inX4 (by decide) (fun _ _ _ => rfl) tb_31 (by decide +kernel)
theorem sd33_16 : mSnd g lau mt mm33 16 (o_il 17 3) := s_iload_n (j := 3) (by decide +kernel) rfl
theorem sd33_17 : mSnd g lau mt mm33 17 (o_aal 18) := s_aald (by decide +kernel)
theorem sd33_18 : mSnd g lau mt mm33 18 (o_ast 20 4) := s_astore (by decide +kernel)
theorem sd33_20 : mSnd g lau mt mm33 20 (o_al 22 4) := s_aload (by decide +kernel)
theorem sd33_22 : mSnd g lau mt mm33 22 (o_nul 25 57) := s_ifnull (off := 35) (by decide +kernel) rfl
theorem sd33_25 : mSnd g lau mt mm33 25 (o_al 27 4) := s_aload (by decide +kernel)
theorem sd33_27 : mSnd g lau mt mm33 27 (o_gI 30 6 7) := s_getI (ci := 5) (f := 7) (idx := 29) (C := RX5) (T := TX5) (N := 9) (by decide) rfl inX5 (by decide) (fun _ _ _ => rfl) tb_236 (by decide +kernel)
theorem sd33_30 : mSnd g lau mt mm33 30 (o_il 31 1) := s_iload_n (j := 1) (by decide +kernel) rfl
theorem sd33_31 : mSnd g lau mt mm33 31 (o_le 34 57) := s_icmp_le (off := 26) (by decide +kernel) rfl
theorem sd33_34 : mSnd g lau mt mm33 34 (o_al 35 0) := s_aload_n (j := 0) (by decide +kernel) rfl
theorem sd33_35 : mSnd g lau mt mm33 35 (o_gP 38 5 0) := s_getP (ci := 4) (f := 0) (idx := 11) (C := RX4) (T := TX4) (N := 3) (by decide) rfl inX4 (by decide) (fun _ _ _ => rfl) tb_31 (by decide +kernel)
theorem sd33_38 : mSnd g lau mt mm33 38 (o_il 39 3) := s_iload_n (j := 3) (by decide +kernel) rfl
theorem sd33_39 : mSnd g lau mt mm33 39 (o_al 40 0) := s_aload_n (j := 0) (by decide +kernel) rfl
theorem sd33_40 : mSnd g lau mt mm33 40 (o_gP 43 5 0) := s_getP (ci := 4) (f := 0) (idx := 11) (C := RX4) (T := TX4) (N := 3) (by decide) rfl inX4 (by decide) (fun _ _ _ => rfl) tb_31 (by decide +kernel)
theorem sd33_43 : mSnd g lau mt mm33 43 (o_il 44 2) := s_iload_n (j := 2) (by decide +kernel) rfl
theorem sd33_44 : mSnd g lau mt mm33 44 (o_aal 45) := s_aald (by decide +kernel)
theorem sd33_45 : mSnd g lau mt mm33 45 (o_aas 46) := s_aast (by decide +kernel)
theorem sd33_46 : mSnd g lau mt mm33 46 (o_al 47 0) := s_aload_n (j := 0) (by decide +kernel) rfl
theorem sd33_47 : mSnd g lau mt mm33 47 (o_gP 50 5 0) := s_getP (ci := 4) (f := 0) (idx := 11) (C := RX4) (T := TX4) (N := 3) (by decide) rfl inX4 (by decide) (fun _ _ _ => rfl) tb_31 (by decide +kernel)
theorem sd33_50 : mSnd g lau mt mm33 50 (o_il 51 2) := s_iload_n (j := 2) (by decide +kernel) rfl
theorem sd33_51 : mSnd g lau mt mm33 51 (o_al 53 4) := s_aload (by decide +kernel)
theorem sd33_53 : mSnd g lau mt mm33 53 (o_aas 54) := s_aast (by decide +kernel)
theorem sd33_54 : mSnd g lau mt mm33 54 (o_inc 57 2 1) := s_iinc (n := 1) (by decide +kernel) rfl
theorem sd33_57 : mSnd g lau mt mm33 57 (o_inc 60 3 1) := s_iinc (n := 1) (by decide +kernel) rfl
theorem sd33_60 : mSnd g lau mt mm33 60 (o_goto 4) := s_goto (off := (-56)) (by decide +kernel) rfl
theorem sd33_63 : mSnd g lau mt mm33 63 (o_al 64 0) := s_aload_n (j := 0) (by decide +kernel) rfl
theorem sd33_64 : mSnd g lau mt mm33 64 (o_il 65 2) := s_iload_n (j := 2) (by decide +kernel) rfl
theorem sd33_65 : mSnd g lau mt mm33 65 (o_pI 68 5 1) := s_putI (ci := 4) (f := 1) (idx := 21) (C := RX4) (T := TX4) (N := 3) (by decide) rfl inX4 (by decide) tyX4 tyX4_ok nmX4 (Or.inl rfl) tb_33 (by decide +kernel) (fun _ _ _ => rfl) rfl
theorem sd33_68 : mSnd g lau mt mm33 68 (o_rv) := s_rv (by decide +kernel) rfl
def op33 : Nat → mOp := fun pc => bif Nat.blt pc 34 then (bif Nat.blt pc 13 then (bif Nat.blt pc 4 then (bif Nat.blt pc 2 then (bif Nat.blt pc 1 then (bif Nat.beq pc 0 then o_ic 1 0 else o_no) else (bif Nat.beq pc 1 then o_ist 2 2 else o_no)) else (bif Nat.blt pc 3 then (bif Nat.beq pc 2 then o_ic 3 0 else o_no) else (bif Nat.beq pc 3 then o_ist 4 3 else o_no))) else (bif Nat.blt pc 6 then (bif Nat.blt pc 5 then (bif Nat.beq pc 4 then o_il 5 3 else o_no) else (bif Nat.beq pc 5 then o_al 6 0 else o_no)) else (bif Nat.blt pc 9 then (bif Nat.beq pc 6 then o_gI 9 5 1 else o_no) else (bif Nat.blt pc 12 then (bif Nat.beq pc 9 then o_ge 12 63 else o_no) else (bif Nat.beq pc 12 then o_al 13 0 else o_no))))) else (bif Nat.blt pc 22 then (bif Nat.blt pc 17 then (bif Nat.blt pc 16 then (bif Nat.beq pc 13 then o_gP 16 5 0 else o_no) else (bif Nat.beq pc 16 then o_il 17 3 else o_no)) else (bif Nat.blt pc 18 then (bif Nat.beq pc 17 then o_aal 18 else o_no) else (bif Nat.blt pc 20 then (bif Nat.beq pc 18 then o_ast 20 4 else o_no) else (bif Nat.beq pc 20 then o_al 22 4 else o_no)))) else (bif Nat.blt pc 27 then (bif Nat.blt pc 25 then (bif Nat.beq pc 22 then o_nul 25 57 else o_no) else (bif Nat.beq pc 25 then o_al 27 4 else o_no)) else (bif Nat.blt pc 30 then (bif Nat.beq pc 27 then o_gI 30 6 7 else o_no) else (bif Nat.blt pc 31 then (bif Nat.beq pc 30 then o_il 31 1 else o_no) else (bif Nat.beq pc 31 then o_le 34 57 else o_no)))))) else (bif Nat.blt pc 50 then (bif Nat.blt pc 43 then (bif Nat.blt pc 38 then (bif Nat.blt pc 35 then (bif Nat.beq pc 34 then o_al 35 0 else o_no) else (bif Nat.beq pc 35 then o_gP 38 5 0 else o_no)) else (bif Nat.blt pc 39 then (bif Nat.beq pc 38 then o_il 39 3 else o_no) else (bif Nat.blt pc 40 then (bif Nat.beq pc 39 then o_al 40 0 else o_no) else (bif Nat.beq pc 40 then o_gP 43 5 0 else o_no)))) else (bif Nat.blt pc 45 then (bif Nat.blt pc 44 then (bif Nat.beq pc 43 then o_il 44 2 else o_no) else (bif Nat.beq pc 44 then o_aal 45 else o_no)) else (bif Nat.blt pc 46 then (bif Nat.beq pc 45 then o_aas 46 else o_no) else (bif Nat.blt pc 47 then (bif Nat.beq pc 46 then o_al 47 0 else o_no) else (bif Nat.beq pc 47 then o_gP 50 5 0 else o_no))))) else (bif Nat.blt pc 60 then (bif Nat.blt pc 53 then (bif Nat.blt pc 51 then (bif Nat.beq pc 50 then o_il 51 2 else o_no) else (bif Nat.beq pc 51 then o_al 53 4 else o_no)) else (bif Nat.blt pc 54 then (bif Nat.beq pc 53 then o_aas 54 else o_no) else (bif Nat.blt pc 57 then (bif Nat.beq pc 54 then o_inc 57 2 1 else o_no) else (bif Nat.beq pc 57 then o_inc 60 3 1 else o_no)))) else (bif Nat.blt pc 64 then (bif Nat.blt pc 63 then (bif Nat.beq pc 60 then o_goto 4 else o_no) else (bif Nat.beq pc 63 then o_al 64 0 else o_no)) else (bif Nat.blt pc 65 then (bif Nat.beq pc 64 then o_il 65 2 else o_no) else (bif Nat.blt pc 68 then (bif Nat.beq pc 65 then o_pI 68 5 1 else o_no) else (bif Nat.beq pc 68 then o_rv else o_no))))))
theorem sn33 (pc : Nat) : mSnd g lau mt mm33 pc (op33 pc) := s_bif (s_bif (s_bif (s_bif (s_bif (s_leaf sd33_0) (s_leaf sd33_1)) (s_bif (s_leaf sd33_2) (s_leaf sd33_3))) (s_bif (s_bif (s_leaf sd33_4) (s_leaf sd33_5)) (s_bif (s_leaf sd33_6) (s_bif (s_leaf sd33_9) (s_leaf sd33_12))))) (s_bif (s_bif (s_bif (s_leaf sd33_13) (s_leaf sd33_16)) (s_bif (s_leaf sd33_17) (s_bif (s_leaf sd33_18) (s_leaf sd33_20)))) (s_bif (s_bif (s_leaf sd33_22) (s_leaf sd33_25)) (s_bif (s_leaf sd33_27) (s_bif (s_leaf sd33_30) (s_leaf sd33_31)))))) (s_bif (s_bif (s_bif (s_bif (s_leaf sd33_34) (s_leaf sd33_35)) (s_bif (s_leaf sd33_38) (s_bif (s_leaf sd33_39) (s_leaf sd33_40)))) (s_bif (s_bif (s_leaf sd33_43) (s_leaf sd33_44)) (s_bif (s_leaf sd33_45) (s_bif (s_leaf sd33_46) (s_leaf sd33_47))))) (s_bif (s_bif (s_bif (s_leaf sd33_50) (s_leaf sd33_51)) (s_bif (s_leaf sd33_53) (s_bif (s_leaf sd33_54) (s_leaf sd33_57)))) (s_bif (s_bif (s_leaf sd33_60) (s_leaf sd33_63)) (s_bif (s_leaf sd33_64) (s_bif (s_leaf sd33_65) (s_leaf sd33_68))))))
-- RoundVotes$Sendings.<init>()V
theorem sd34_0 : mSnd g lau mt mm34 0 (o_al 1 0) := s_aload_n (j := 0) (by decide +kernel) rfl
theorem sd34_1 : mSnd g lau mt mm34 1 (o_obj 4) := s_obj (idx := 3) tb_189 tb_21 tb_22 (by decide) (by decide) (by decide +kernel)
theorem sd34_4 : mSnd g lau mt mm34 4 (o_al 5 0) := s_aload_n (j := 0) (by decide +kernel) rfl
theorem sd34_5 : mSnd g lau mt mm34 5 (o_new 8 1 4) := s_new (ci := 0) (idx := 9) (C := RX0) (T := TX0) (N := 4) (by decide) rfl inX0 tyX0 tyX0_ok dfX0 tb_190 tb_164 tb_11 (by decide +kernel)
theorem sd34_8 : mSnd g lau mt mm34 8 (o_dup 9) := s_dup (by decide +kernel)
theorem sd34_9 : mSnd g lau mt mm34 9 (o_ic 10 1) := s_iconst (n := 1) (by decide +kernel) rfl
theorem sd34_10 : mSnd g lau mt mm34 10 (o_cI 13 7 1) := s_cI (m' := 7) (idx := 11) ⟨cw_7.1, cw_7.2.1, cw_7.2.2, by decide⟩ rfl tb_191 rfl tb_166 (by decide +kernel)
theorem sd34_13 : mSnd g lau mt mm34 13 (o_pP 16 8 2) := s_putP (ci := 7) (f := 2) (idx := 14) (C := RX7) (T := TX7) (N := 3) (by decide) rfl inX7 (by decide) tyX7 tyX7_ok nmX7 (Or.inr ⟨rfl, rfl⟩) tb_196 (by decide +kernel) (fun _ _ _ => rfl) rfl
theorem sd34_16 : mSnd g lau mt mm34 16 (o_rv) := s_rv (by decide +kernel) rfl
def op34 : Nat → mOp := fun pc => bif Nat.blt pc 8 then (bif Nat.blt pc 4 then (bif Nat.blt pc 1 then (bif Nat.beq pc 0 then o_al 1 0 else o_no) else (bif Nat.beq pc 1 then o_obj 4 else o_no)) else (bif Nat.blt pc 5 then (bif Nat.beq pc 4 then o_al 5 0 else o_no) else (bif Nat.beq pc 5 then o_new 8 1 4 else o_no))) else (bif Nat.blt pc 10 then (bif Nat.blt pc 9 then (bif Nat.beq pc 8 then o_dup 9 else o_no) else (bif Nat.beq pc 9 then o_ic 10 1 else o_no)) else (bif Nat.blt pc 13 then (bif Nat.beq pc 10 then o_cI 13 7 1 else o_no) else (bif Nat.blt pc 16 then (bif Nat.beq pc 13 then o_pP 16 8 2 else o_no) else (bif Nat.beq pc 16 then o_rv else o_no))))
theorem sn34 (pc : Nat) : mSnd g lau mt mm34 pc (op34 pc) := s_bif (s_bif (s_bif (s_leaf sd34_0) (s_leaf sd34_1)) (s_bif (s_leaf sd34_4) (s_leaf sd34_5))) (s_bif (s_bif (s_leaf sd34_8) (s_leaf sd34_9)) (s_bif (s_leaf sd34_10) (s_bif (s_leaf sd34_13) (s_leaf sd34_16))))
-- RoundVotes$Sendings.add(LRoundVotes$Message;)V
theorem sd35_0 : mSnd g lau mt mm35 0 (o_al 1 0) := s_aload_n (j := 0) (by decide +kernel) rfl
theorem sd35_1 : mSnd g lau mt mm35 1 (o_dup 2) := s_dup (by decide +kernel)
theorem sd35_2 : mSnd g lau mt mm35 2 (o_gI 5 8 0) := s_getI (ci := 7) (f := 0) (idx := 20) (C := RX7) (T := TX7) (N := 3) (by decide) rfl inX7 (by decide) (fun _ _ _ => rfl) tb_192 (by decide +kernel)
theorem sd35_5 : mSnd g lau mt mm35 5 (o_ic 6 1) := s_iconst (n := 1) (by decide +kernel) rfl
theorem sd35_6 : mSnd g lau mt mm35 6 (o_ii 7 (fun x y => x + y)) := s_iadd (by decide +kernel)
theorem sd35_7 : mSnd g lau mt mm35 7 (o_pI 10 8 0) := s_putI (ci := 7) (f := 0) (idx := 20) (C := RX7) (T := TX7) (N := 3) (by decide) rfl inX7 (by decide) tyX7 tyX7_ok nmX7 (Or.inl rfl) tb_192 (by decide +kernel) (fun _ _ _ => rfl) rfl
theorem sd35_10 : mSnd g lau mt mm35 10 (o_al 11 0) := s_aload_n (j := 0) (by decide +kernel) rfl
theorem sd35_11 : mSnd g lau mt mm35 11 (o_gP 14 8 2) := s_getP (ci := 7) (f := 2) (idx := 14) (C := RX7) (T := TX7) (N := 3) (by decide) rfl inX7 (by decide) (fun _ _ _ => rfl) tb_196 (by decide +kernel)
theorem sd35_14 : mSnd g lau mt mm35 14 (o_al 15 1) := s_aload_n (j := 1) (by decide +kernel) rfl
theorem sd35_15 : mSnd g lau mt mm35 15 (o_gI 18 6 3) := s_getI (ci := 5) (f := 3) (idx := 24) (C := RX5) (T := TX5) (N := 9) (by decide) rfl inX5 (by decide) (fun _ _ _ => rfl) tb_221 (by decide +kernel)
theorem sd35_18 : mSnd g lau mt mm35 18 (o_ic 19 0) := s_iconst (n := 0) (by decide +kernel) rfl
theorem sd35_19 : mSnd g lau mt mm35 19 (o_al 20 1) := s_aload_n (j := 1) (by decide +kernel) rfl
theorem sd35_20 : mSnd g lau mt mm35 20 (o_gI 23 6 4) := s_getI (ci := 5) (f := 4) (idx := 29) (C := RX5) (T := TX5) (N := 9) (by decide) rfl inX5 (by decide) (fun _ _ _ => rfl) tb_225 (by decide +kernel)
theorem sd35_23 : mSnd g lau mt mm35 23 (o_cV 26 9 3 1) := s_cV (m' := 9) (ci := 0) (idx := 32) (r0 := (RX0, TX0, 4)) ⟨cw_9.1, cw_9.2.1, cw_9.2.2, by decide⟩ tb_486 rfl (by decide) rfl tb_451 tb_452 (by decide +kernel)
theorem sd35_26 : mSnd g lau mt mm35 26 (o_ist 27 2) := s_istore_n (j := 2) (by decide +kernel) rfl
theorem sd35_27 : mSnd g lau mt mm35 27 (o_il 28 2) := s_iload_n (j := 2) (by decide +kernel) rfl
theorem sd35_28 : mSnd g lau mt mm35 28 (o_ic 30 (-2)) := s_bipush (n := (-2)) (by decide +kernel) rfl
theorem sd35_30 : mSnd g lau mt mm35 30 (o_ne 33 60) := s_icmp_ne (off := 30) (by decide +kernel) rfl
theorem sd35_33 : mSnd g lau mt mm35 33 (o_al 34 0) := s_aload_n (j := 0) (by decide +kernel) rfl
theorem sd35_34 : mSnd g lau mt mm35 34 (o_gP 37 8 2) := s_getP (ci := 7) (f := 2) (idx := 14) (C := RX7) (T := TX7) (N := 3) (by decide) rfl inX7 (by decide) (fun _ _ _ => rfl) tb_196 (by decide +kernel)
theorem sd35_37 : mSnd g lau mt mm35 37 (o_al 38 1) := s_aload_n (j := 1) (by decide +kernel) rfl
theorem sd35_38 : mSnd g lau mt mm35 38 (o_gI 41 6 3) := s_getI (ci := 5) (f := 3) (idx := 24) (C := RX5) (T := TX5) (N := 9) (by decide) rfl inX5 (by decide) (fun _ _ _ => rfl) tb_221 (by decide +kernel)
theorem sd35_41 : mSnd g lau mt mm35 41 (o_ic 42 0) := s_iconst (n := 0) (by decide +kernel) rfl
theorem sd35_42 : mSnd g lau mt mm35 42 (o_al 43 1) := s_aload_n (j := 1) (by decide +kernel) rfl
theorem sd35_43 : mSnd g lau mt mm35 43 (o_gI 46 6 4) := s_getI (ci := 5) (f := 4) (idx := 29) (C := RX5) (T := TX5) (N := 9) (by decide) rfl inX5 (by decide) (fun _ _ _ => rfl) tb_225 (by decide +kernel)
theorem sd35_46 : mSnd g lau mt mm35 46 (o_al 47 1) := s_aload_n (j := 1) (by decide +kernel) rfl
theorem sd35_47 : mSnd g lau mt mm35 47 (o_gI 50 6 5) := s_getI (ci := 5) (f := 5) (idx := 36) (C := RX5) (T := TX5) (N := 9) (by decide) rfl inX5 (by decide) (fun _ _ _ => rfl) tb_230 (by decide +kernel)
theorem sd35_50 : mSnd g lau mt mm35 50 (o_al 51 1) := s_aload_n (j := 1) (by decide +kernel) rfl
theorem sd35_51 : mSnd g lau mt mm35 51 (o_gI 54 6 6) := s_getI (ci := 5) (f := 6) (idx := 39) (C := RX5) (T := TX5) (N := 9) (by decide) rfl inX5 (by decide) (fun _ _ _ => rfl) tb_234 (by decide +kernel)
theorem sd35_54 : mSnd g lau mt mm35 54 (o_cV 57 11 5 1) := s_cV (m' := 11) (ci := 0) (idx := 42) (r0 := (RX0, TX0, 4)) ⟨cw_11.1, cw_11.2.1, cw_11.2.2, by decide⟩ tb_487 rfl (by decide) rfl tb_459 tb_460 (by decide +kernel)
theorem sd35_57 : mSnd g lau mt mm35 57 (o_goto 106) := s_goto (off := 49) (by decide +kernel) rfl
theorem sd35_60 : mSnd g lau mt mm35 60 (o_il 61 2) := s_iload_n (j := 2) (by decide +kernel) rfl
theorem sd35_61 : mSnd g lau mt mm35 61 (o_ic 63 (-3)) := s_bipush (n := (-3)) (by decide +kernel) rfl
theorem sd35_63 : mSnd g lau mt mm35 63 (o_eq 66 106) := s_icmp_eq (off := 43) (by decide +kernel) rfl
theorem sd35_66 : mSnd g lau mt mm35 66 (o_il 67 2) := s_iload_n (j := 2) (by decide +kernel) rfl
theorem sd35_67 : mSnd g lau mt mm35 67 (o_al 68 1) := s_aload_n (j := 1) (by decide +kernel) rfl
theorem sd35_68 : mSnd g lau mt mm35 68 (o_gI 71 6 5) := s_getI (ci := 5) (f := 5) (idx := 36) (C := RX5) (T := TX5) (N := 9) (by decide) rfl inX5 (by decide) (fun _ _ _ => rfl) tb_230 (by decide +kernel)
theorem sd35_71 : mSnd g lau mt mm35 71 (o_eq 74 106) := s_icmp_eq (off := 35) (by decide +kernel) rfl
theorem sd35_74 : mSnd g lau mt mm35 74 (o_al 75 0) := s_aload_n (j := 0) (by decide +kernel) rfl
theorem sd35_75 : mSnd g lau mt mm35 75 (o_gP 78 8 2) := s_getP (ci := 7) (f := 2) (idx := 14) (C := RX7) (T := TX7) (N := 3) (by decide) rfl inX7 (by decide) (fun _ _ _ => rfl) tb_196 (by decide +kernel)
theorem sd35_78 : mSnd g lau mt mm35 78 (o_al 79 1) := s_aload_n (j := 1) (by decide +kernel) rfl
theorem sd35_79 : mSnd g lau mt mm35 79 (o_gI 82 6 3) := s_getI (ci := 5) (f := 3) (idx := 24) (C := RX5) (T := TX5) (N := 9) (by decide) rfl inX5 (by decide) (fun _ _ _ => rfl) tb_221 (by decide +kernel)
theorem sd35_82 : mSnd g lau mt mm35 82 (o_ic 83 0) := s_iconst (n := 0) (by decide +kernel) rfl
theorem sd35_83 : mSnd g lau mt mm35 83 (o_al 84 1) := s_aload_n (j := 1) (by decide +kernel) rfl
theorem sd35_84 : mSnd g lau mt mm35 84 (o_gI 87 6 4) := s_getI (ci := 5) (f := 4) (idx := 29) (C := RX5) (T := TX5) (N := 9) (by decide) rfl inX5 (by decide) (fun _ _ _ => rfl) tb_225 (by decide +kernel)
theorem sd35_87 : mSnd g lau mt mm35 87 (o_ic 89 (-3)) := s_bipush (n := (-3)) (by decide +kernel) rfl
theorem sd35_89 : mSnd g lau mt mm35 89 (o_al 90 1) := s_aload_n (j := 1) (by decide +kernel) rfl
theorem sd35_90 : mSnd g lau mt mm35 90 (o_gI 93 6 6) := s_getI (ci := 5) (f := 6) (idx := 39) (C := RX5) (T := TX5) (N := 9) (by decide) rfl inX5 (by decide) (fun _ _ _ => rfl) tb_234 (by decide +kernel)
theorem sd35_93 : mSnd g lau mt mm35 93 (o_cV 96 11 5 1) := s_cV (m' := 11) (ci := 0) (idx := 42) (r0 := (RX0, TX0, 4)) ⟨cw_11.1, cw_11.2.1, cw_11.2.2, by decide⟩ tb_487 rfl (by decide) rfl tb_459 tb_460 (by decide +kernel)
theorem sd35_96 : mSnd g lau mt mm35 96 (o_al 97 0) := s_aload_n (j := 0) (by decide +kernel) rfl
theorem sd35_97 : mSnd g lau mt mm35 97 (o_dup 98) := s_dup (by decide +kernel)
theorem sd35_98 : mSnd g lau mt mm35 98 (o_gI 101 8 1) := s_getI (ci := 7) (f := 1) (idx := 46) (C := RX7) (T := TX7) (N := 3) (by decide) rfl inX7 (by decide) (fun _ _ _ => rfl) tb_194 (by decide +kernel)
theorem sd35_101 : mSnd g lau mt mm35 101 (o_ic 102 1) := s_iconst (n := 1) (by decide +kernel) rfl
theorem sd35_102 : mSnd g lau mt mm35 102 (o_ii 103 (fun x y => x + y)) := s_iadd (by decide +kernel)
theorem sd35_103 : mSnd g lau mt mm35 103 (o_pI 106 8 1) := s_putI (ci := 7) (f := 1) (idx := 46) (C := RX7) (T := TX7) (N := 3) (by decide) rfl inX7 (by decide) tyX7 tyX7_ok nmX7 (Or.inl rfl) tb_194 (by decide +kernel) (fun _ _ _ => rfl) rfl
theorem sd35_106 : mSnd g lau mt mm35 106 (o_rv) := s_rv (by decide +kernel) rfl
def op35 : Nat → mOp := fun pc => bif Nat.blt pc 51 then (bif Nat.blt pc 26 then (bif Nat.blt pc 11 then (bif Nat.blt pc 5 then (bif Nat.blt pc 1 then (bif Nat.beq pc 0 then o_al 1 0 else o_no) else (bif Nat.blt pc 2 then (bif Nat.beq pc 1 then o_dup 2 else o_no) else (bif Nat.beq pc 2 then o_gI 5 8 0 else o_no))) else (bif Nat.blt pc 7 then (bif Nat.blt pc 6 then (bif Nat.beq pc 5 then o_ic 6 1 else o_no) else (bif Nat.beq pc 6 then o_ii 7 (fun x y => x + y) else o_no)) else (bif Nat.blt pc 10 then (bif Nat.beq pc 7 then o_pI 10 8 0 else o_no) else (bif Nat.beq pc 10 then o_al 11 0 else o_no)))) else (bif Nat.blt pc 18 then (bif Nat.blt pc 14 then (bif Nat.beq pc 11 then o_gP 14 8 2 else o_no) else (bif Nat.blt pc 15 then (bif Nat.beq pc 14 then o_al 15 1 else o_no) else (bif Nat.beq pc 15 then o_gI 18 6 3 else o_no))) else (bif Nat.blt pc 20 then (bif Nat.blt pc 19 then (bif Nat.beq pc 18 then o_ic 19 0 else o_no) else (bif Nat.beq pc 19 then o_al 20 1 else o_no)) else (bif Nat.blt pc 23 then (bif Nat.beq pc 20 then o_gI 23 6 4 else o_no) else (bif Nat.beq pc 23 then o_cV 26 9 3 1 else o_no))))) else (bif Nat.blt pc 38 then (bif Nat.blt pc 30 then (bif Nat.blt pc 27 then (bif Nat.beq pc 26 then o_ist 27 2 else o_no) else (bif Nat.blt pc 28 then (bif Nat.beq pc 27 then o_il 28 2 else o_no) else (bif Nat.beq pc 28 then o_ic 30 (-2) else o_no))) else (bif Nat.blt pc 34 then (bif Nat.blt pc 33 then (bif Nat.beq pc 30 then o_ne 33 60 else o_no) else (bif Nat.beq pc 33 then o_al 34 0 else o_no)) else (bif Nat.blt pc 37 then (bif Nat.beq pc 34 then o_gP 37 8 2 else o_no) else (bif Nat.beq pc 37 then o_al 38 1 else o_no)))) else (bif Nat.blt pc 43 then (bif Nat.blt pc 41 then (bif Nat.beq pc 38 then o_gI 41 6 3 else o_no) else (bif Nat.blt pc 42 then (bif Nat.beq pc 41 then o_ic 42 0 else o_no) else (bif Nat.beq pc 42 then o_al 43 1 else o_no))) else (bif Nat.blt pc 47 then (bif Nat.blt pc 46 then (bif Nat.beq pc 43 then o_gI 46 6 4 else o_no) else (bif Nat.beq pc 46 then o_al 47 1 else o_no)) else (bif Nat.blt pc 50 then (bif Nat.beq pc 47 then o_gI 50 6 5 else o_no) else (bif Nat.beq pc 50 then o_al 51 1 else o_no)))))) else (bif Nat.blt pc 82 then (bif Nat.blt pc 67 then (bif Nat.blt pc 60 then (bif Nat.blt pc 54 then (bif Nat.beq pc 51 then o_gI 54 6 6 else o_no) else (bif Nat.blt pc 57 then (bif Nat.beq pc 54 then o_cV 57 11 5 1 else o_no) else (bif Nat.beq pc 57 then o_goto 106 else o_no))) else (bif Nat.blt pc 63 then (bif Nat.blt pc 61 then (bif Nat.beq pc 60 then o_il 61 2 else o_no) else (bif Nat.beq pc 61 then o_ic 63 (-3) else o_no)) else (bif Nat.blt pc 66 then (bif Nat.beq pc 63 then o_eq 66 106 else o_no) else (bif Nat.beq pc 66 then o_il 67 2 else o_no)))) else (bif Nat.blt pc 74 then (bif Nat.blt pc 68 then (bif Nat.beq pc 67 then o_al 68 1 else o_no) else (bif Nat.blt pc 71 then (bif Nat.beq pc 68 then o_gI 71 6 5 else o_no) else (bif Nat.beq pc 71 then o_eq 74 106 else o_no))) else (bif Nat.blt pc 78 then (bif Nat.blt pc 75 then (bif Nat.beq pc 74 then o_al 75 0 else o_no) else (bif Nat.beq pc 75 then o_gP 78 8 2 else o_no)) else (bif Nat.blt pc 79 then (bif Nat.beq pc 78 then o_al 79 1 else o_no) else (bif Nat.beq pc 79 then o_gI 82 6 3 else o_no))))) else (bif Nat.blt pc 96 then (bif Nat.blt pc 87 then (bif Nat.blt pc 83 then (bif Nat.beq pc 82 then o_ic 83 0 else o_no) else (bif Nat.blt pc 84 then (bif Nat.beq pc 83 then o_al 84 1 else o_no) else (bif Nat.beq pc 84 then o_gI 87 6 4 else o_no))) else (bif Nat.blt pc 90 then (bif Nat.blt pc 89 then (bif Nat.beq pc 87 then o_ic 89 (-3) else o_no) else (bif Nat.beq pc 89 then o_al 90 1 else o_no)) else (bif Nat.blt pc 93 then (bif Nat.beq pc 90 then o_gI 93 6 6 else o_no) else (bif Nat.beq pc 93 then o_cV 96 11 5 1 else o_no)))) else (bif Nat.blt pc 101 then (bif Nat.blt pc 97 then (bif Nat.beq pc 96 then o_al 97 0 else o_no) else (bif Nat.blt pc 98 then (bif Nat.beq pc 97 then o_dup 98 else o_no) else (bif Nat.beq pc 98 then o_gI 101 8 1 else o_no))) else (bif Nat.blt pc 103 then (bif Nat.blt pc 102 then (bif Nat.beq pc 101 then o_ic 102 1 else o_no) else (bif Nat.beq pc 102 then o_ii 103 (fun x y => x + y) else o_no)) else (bif Nat.blt pc 106 then (bif Nat.beq pc 103 then o_pI 106 8 1 else o_no) else (bif Nat.beq pc 106 then o_rv else o_no))))))
theorem sn35 (pc : Nat) : mSnd g lau mt mm35 pc (op35 pc) := s_bif (s_bif (s_bif (s_bif (s_bif (s_leaf sd35_0) (s_bif (s_leaf sd35_1) (s_leaf sd35_2))) (s_bif (s_bif (s_leaf sd35_5) (s_leaf sd35_6)) (s_bif (s_leaf sd35_7) (s_leaf sd35_10)))) (s_bif (s_bif (s_leaf sd35_11) (s_bif (s_leaf sd35_14) (s_leaf sd35_15))) (s_bif (s_bif (s_leaf sd35_18) (s_leaf sd35_19)) (s_bif (s_leaf sd35_20) (s_leaf sd35_23))))) (s_bif (s_bif (s_bif (s_leaf sd35_26) (s_bif (s_leaf sd35_27) (s_leaf sd35_28))) (s_bif (s_bif (s_leaf sd35_30) (s_leaf sd35_33)) (s_bif (s_leaf sd35_34) (s_leaf sd35_37)))) (s_bif (s_bif (s_leaf sd35_38) (s_bif (s_leaf sd35_41) (s_leaf sd35_42))) (s_bif (s_bif (s_leaf sd35_43) (s_leaf sd35_46)) (s_bif (s_leaf sd35_47) (s_leaf sd35_50)))))) (s_bif (s_bif (s_bif (s_bif (s_leaf sd35_51) (s_bif (s_leaf sd35_54) (s_leaf sd35_57))) (s_bif (s_bif (s_leaf sd35_60) (s_leaf sd35_61)) (s_bif (s_leaf sd35_63) (s_leaf sd35_66)))) (s_bif (s_bif (s_leaf sd35_67) (s_bif (s_leaf sd35_68) (s_leaf sd35_71))) (s_bif (s_bif (s_leaf sd35_74) (s_leaf sd35_75)) (s_bif (s_leaf sd35_78) (s_leaf sd35_79))))) (s_bif (s_bif (s_bif (s_leaf sd35_82) (s_bif (s_leaf sd35_83) (s_leaf sd35_84))) (s_bif (s_bif (s_leaf sd35_87) (s_leaf sd35_89)) (s_bif (s_leaf sd35_90) (s_leaf sd35_93)))) (s_bif (s_bif (s_leaf sd35_96) (s_bif (s_leaf sd35_97) (s_leaf sd35_98))) (s_bif (s_bif (s_leaf sd35_101) (s_leaf sd35_102)) (s_bif (s_leaf sd35_103) (s_leaf sd35_106))))))
-- RoundVotes$Node.<init>(ILRoundVotes$Setup;)V
theorem sd36_0 : mSnd g lau mt mm36 0 (o_al 1 0) := s_aload_n (j := 0) (by decide +kernel) rfl
theorem sd36_1 : mSnd g lau mt mm36 1 (o_obj 4) := s_obj (idx := 3) tb_122 tb_21 tb_22 (by decide) (by decide) (by decide +kernel)
theorem sd36_4 : mSnd g lau mt mm36 4 (o_al 5 0) := s_aload_n (j := 0) (by decide +kernel) rfl
theorem sd36_5 : mSnd g lau mt mm36 5 (o_ic 6 1) := s_iconst (n := 1) (by decide +kernel) rfl
theorem sd36_6 : mSnd g lau mt mm36 6 (o_pI 9 7 2) := s_putI (ci := 6) (f := 2) (idx := 9) (C := RX6) (T := TX6) (N := 18) (by decide) rfl inX6 (by decide) tyX6 tyX6_ok nmX6 (Or.inl rfl) tb_262 (by decide +kernel) (fun _ _ _ => rfl) rfl
theorem sd36_9 : mSnd g lau mt mm36 9 (o_al 10 0) := s_aload_n (j := 0) (by decide +kernel) rfl
theorem sd36_10 : mSnd g lau mt mm36 10 (o_ic 11 0) := s_iconst (n := 0) (by decide +kernel) rfl
theorem sd36_11 : mSnd g lau mt mm36 11 (o_pI 14 7 4) := s_putI (ci := 6) (f := 4) (idx := 15) (C := RX6) (T := TX6) (N := 18) (by decide) rfl inX6 (by decide) tyX6 tyX6_ok nmX6 (Or.inl rfl) tb_266 (by decide +kernel) (fun _ _ _ => rfl) rfl
theorem sd36_14 : mSnd g lau mt mm36 14 (o_al 15 0) := s_aload_n (j := 0) (by decide +kernel) rfl
theorem sd36_15 : mSnd g lau mt mm36 15 (o_new 18 2 2) := s_new (ci := 1) (idx := 18) (C := RX1) (T := TX1) (N := 2) (by decide) rfl inX1 tyX1 tyX1_ok dfX1 tb_123 tb_124 tb_9 (by decide +kernel)
theorem sd36_18 : mSnd g lau mt mm36 18 (o_dup 19) := s_dup (by decide +kernel)
theorem sd36_19 : mSnd g lau mt mm36 19 (o_cI 22 1 0) := s_cN (m' := 1) (idx := 20) (host := RX10) ⟨cw_1.1, cw_1.2.1, cw_1.2.2, by decide⟩ rfl (List.mem_of_getElem? (i := 3) rfl) rfl tb_126 (by decide +kernel)
theorem sd36_22 : mSnd g lau mt mm36 22 (o_pP 25 7 5) := s_putP (ci := 6) (f := 5) (idx := 21) (C := RX6) (T := TX6) (N := 18) (by decide) rfl inX6 (by decide) tyX6 tyX6_ok nmX6 (Or.inr ⟨rfl, rfl⟩) tb_268 (by decide +kernel) (fun _ _ _ => rfl) rfl
theorem sd36_25 : mSnd g lau mt mm36 25 (o_al 26 0) := s_aload_n (j := 0) (by decide +kernel) rfl
theorem sd36_26 : mSnd g lau mt mm36 26 (o_new 29 2 2) := s_new (ci := 1) (idx := 18) (C := RX1) (T := TX1) (N := 2) (by decide) rfl inX1 tyX1 tyX1_ok dfX1 tb_123 tb_124 tb_9 (by decide +kernel)
theorem sd36_29 : mSnd g lau mt mm36 29 (o_dup 30) := s_dup (by decide +kernel)
theorem sd36_30 : mSnd g lau mt mm36 30 (o_cI 33 1 0) := s_cN (m' := 1) (idx := 20) (host := RX10) ⟨cw_1.1, cw_1.2.1, cw_1.2.2, by decide⟩ rfl (List.mem_of_getElem? (i := 3) rfl) rfl tb_126 (by decide +kernel)
theorem sd36_33 : mSnd g lau mt mm36 33 (o_pP 36 7 6) := s_putP (ci := 6) (f := 6) (idx := 25) (C := RX6) (T := TX6) (N := 18) (by decide) rfl inX6 (by decide) tyX6 tyX6_ok nmX6 (Or.inr ⟨rfl, rfl⟩) tb_270 (by decide +kernel) (fun _ _ _ => rfl) rfl
theorem sd36_36 : mSnd g lau mt mm36 36 (o_al 37 0) := s_aload_n (j := 0) (by decide +kernel) rfl
theorem sd36_37 : mSnd g lau mt mm36 37 (o_ic 38 3) := s_iconst (n := 3) (by decide +kernel) rfl
theorem sd36_38 : mSnd g lau mt mm36 38 (o_nwa 40 20) := s_newa (t := 20) (atype := .int) (by decide) (by decide) rfl (fun _ => rfl) (by decide) (fun _ _ h => h) tb_66 (by decide +kernel)
theorem sd36_40 : mSnd g lau mt mm36 40 (o_pP 43 7 9) := s_putP (ci := 6) (f := 9) (idx := 28) (C := RX6) (T := TX6) (N := 18) (by decide) rfl inX6 (by decide) tyX6 tyX6_ok nmX6 (Or.inr ⟨rfl, rfl⟩) tb_276 (by decide +kernel) (fun _ _ _ => rfl) rfl
theorem sd36_43 : mSnd g lau mt mm36 43 (o_al 44 0) := s_aload_n (j := 0) (by decide +kernel) rfl
theorem sd36_44 : mSnd g lau mt mm36 44 (o_ic 45 3) := s_iconst (n := 3) (by decide +kernel) rfl
theorem sd36_45 : mSnd g lau mt mm36 45 (o_nwa 47 21) := s_newa (t := 21) (atype := .boolean) (by decide) (by decide) rfl (fun _ => rfl) (by decide) (fun _ _ h => h) tb_162 (by decide +kernel)
theorem sd36_47 : mSnd g lau mt mm36 47 (o_pP 50 7 10) := s_putP (ci := 6) (f := 10) (idx := 32) (C := RX6) (T := TX6) (N := 18) (by decide) rfl inX6 (by decide) tyX6 tyX6_ok nmX6 (Or.inr ⟨rfl, rfl⟩) tb_278 (by decide +kernel) (fun _ _ _ => rfl) rfl
theorem sd36_50 : mSnd g lau mt mm36 50 (o_al 51 0) := s_aload_n (j := 0) (by decide +kernel) rfl
theorem sd36_51 : mSnd g lau mt mm36 51 (o_new 54 3 3) := s_new (ci := 2) (idx := 36) (C := RX2) (T := TX2) (N := 3) (by decide) rfl inX2 tyX2 tyX2_ok dfX2 tb_140 tb_141 tb_10 (by decide +kernel)
theorem sd36_54 : mSnd g lau mt mm36 54 (o_dup 55) := s_dup (by decide +kernel)
theorem sd36_55 : mSnd g lau mt mm36 55 (o_cI 58 15 0) := s_cN (m' := 15) (idx := 38) (host := RX10) ⟨cw_15.1, cw_15.2.1, cw_15.2.2, by decide⟩ rfl (List.mem_of_getElem? (i := 4) rfl) rfl tb_143 (by decide +kernel)
theorem sd36_58 : mSnd g lau mt mm36 58 (o_pP 61 7 11) := s_putP (ci := 6) (f := 11) (idx := 39) (C := RX6) (T := TX6) (N := 18) (by decide) rfl inX6 (by decide) tyX6 tyX6_ok nmX6 (Or.inr ⟨rfl, rfl⟩) tb_279 (by decide +kernel) (fun _ _ _ => rfl) rfl
theorem sd36_61 : mSnd g lau mt mm36 61 (o_al 62 0) := s_aload_n (j := 0) (by decide +kernel) rfl
theorem sd36_62 : mSnd g lau mt mm36 62 (o_new 65 1 4) := s_new (ci := 0) (idx := 43) (C := RX0) (T := TX0) (N := 4) (by decide) rfl inX0 tyX0 tyX0_ok dfX0 tb_163 tb_164 tb_11 (by decide +kernel)
theorem sd36_65 : mSnd g lau mt mm36 65 (o_dup 66) := s_dup (by decide +kernel)
theorem sd36_66 : mSnd g lau mt mm36 66 (o_ic 67 1) := s_iconst (n := 1) (by decide +kernel) rfl
theorem sd36_67 : mSnd g lau mt mm36 67 (o_cI 70 7 1) := s_cI (m' := 7) (idx := 45) ⟨cw_7.1, cw_7.2.1, cw_7.2.2, by decide⟩ rfl tb_165 rfl tb_166 (by decide +kernel)
theorem sd36_70 : mSnd g lau mt mm36 70 (o_pP 73 7 14) := s_putP (ci := 6) (f := 14) (idx := 48) (C := RX6) (T := TX6) (N := 18) (by decide) rfl inX6 (by decide) tyX6 tyX6_ok nmX6 (Or.inr ⟨rfl, rfl⟩) tb_284 (by decide +kernel) (fun _ _ _ => rfl) rfl
theorem sd36_73 : mSnd g lau mt mm36 73 (o_al 74 0) := s_aload_n (j := 0) (by decide +kernel) rfl
theorem sd36_74 : mSnd g lau mt mm36 74 (o_new 77 8 3) := s_new (ci := 7) (idx := 52) (C := RX7) (T := TX7) (N := 3) (by decide) rfl inX7 tyX7 tyX7_ok dfX7 tb_184 tb_185 tb_12 (by decide +kernel)
theorem sd36_77 : mSnd g lau mt mm36 77 (o_dup 78) := s_dup (by decide +kernel)
theorem sd36_78 : mSnd g lau mt mm36 78 (o_cI 81 34 0) := s_cN (m' := 34) (idx := 54) (host := RX10) ⟨cw_34.1, cw_34.2.1, cw_34.2.2, by decide⟩ rfl (List.mem_of_getElem? (i := 5) rfl) rfl tb_187 (by decide +kernel)
theorem sd36_81 : mSnd g lau mt mm36 81 (o_pP 84 7 15) := s_putP (ci := 6) (f := 15) (idx := 55) (C := RX6) (T := TX6) (N := 18) (by decide) rfl inX6 (by decide) tyX6 tyX6_ok nmX6 (Or.inr ⟨rfl, rfl⟩) tb_285 (by decide +kernel) (fun _ _ _ => rfl) rfl
theorem sd36_84 : mSnd g lau mt mm36 84 (o_al 85 0) := s_aload_n (j := 0) (by decide +kernel) rfl
theorem sd36_85 : mSnd g lau mt mm36 85 (o_new 88 6 9) := s_new (ci := 5) (idx := 59) (C := RX5) (T := TX5) (N := 9) (by decide) rfl inX5 tyX5 tyX5_ok dfX5 tb_205 tb_206 tb_13 (by decide +kernel)
theorem sd36_88 : mSnd g lau mt mm36 88 (o_dup 89) := s_dup (by decide +kernel)
theorem sd36_89 : mSnd g lau mt mm36 89 (o_cI 92 4 0) := s_cN (m' := 4) (idx := 61) (host := RX10) ⟨cw_4.1, cw_4.2.1, cw_4.2.2, by decide⟩ rfl (List.mem_of_getElem? (i := 6) rfl) rfl tb_208 (by decide +kernel)
theorem sd36_92 : mSnd g lau mt mm36 92 (o_pP 95 7 16) := s_putP (ci := 6) (f := 16) (idx := 62) (C := RX6) (T := TX6) (N := 18) (by decide) rfl inX6 (by decide) tyX6 tyX6_ok nmX6 (Or.inr ⟨rfl, rfl⟩) tb_287 (by decide +kernel) (fun _ _ _ => rfl) rfl
theorem sd36_95 : mSnd g lau mt mm36 95 (o_al 96 0) := s_aload_n (j := 0) (by decide +kernel) rfl
theorem sd36_96 : mSnd g lau mt mm36 96 (o_il 97 1) := s_iload_n (j := 1) (by decide +kernel) rfl
theorem sd36_97 : mSnd g lau mt mm36 97 (o_pI 100 7 0) := s_putI (ci := 6) (f := 0) (idx := 66) (C := RX6) (T := TX6) (N := 18) (by decide) rfl inX6 (by decide) tyX6 tyX6_ok nmX6 (Or.inr ⟨rfl, rfl⟩) tb_259 (by decide +kernel) (fun _ _ _ => rfl) rfl
theorem sd36_100 : mSnd g lau mt mm36 100 (o_al 101 0) := s_aload_n (j := 0) (by decide +kernel) rfl
theorem sd36_101 : mSnd g lau mt mm36 101 (o_al 102 2) := s_aload_n (j := 2) (by decide +kernel) rfl
theorem sd36_102 : mSnd g lau mt mm36 102 (o_pP 105 7 1) := s_putP (ci := 6) (f := 1) (idx := 69) (C := RX6) (T := TX6) (N := 18) (by decide) rfl inX6 (by decide) tyX6 tyX6_ok nmX6 (Or.inr ⟨rfl, rfl⟩) tb_261 (by decide +kernel) (fun _ _ _ => rfl) rfl
theorem sd36_105 : mSnd g lau mt mm36 105 (o_al 106 0) := s_aload_n (j := 0) (by decide +kernel) rfl
theorem sd36_106 : mSnd g lau mt mm36 106 (o_new 109 1 4) := s_new (ci := 0) (idx := 43) (C := RX0) (T := TX0) (N := 4) (by decide) rfl inX0 tyX0 tyX0_ok dfX0 tb_163 tb_164 tb_11 (by decide +kernel)
theorem sd36_109 : mSnd g lau mt mm36 109 (o_dup 110) := s_dup (by decide +kernel)
theorem sd36_110 : mSnd g lau mt mm36 110 (o_al 111 2) := s_aload_n (j := 2) (by decide +kernel) rfl
theorem sd36_111 : mSnd g lau mt mm36 111 (o_gI 114 9 0) := s_getI (ci := 8) (f := 0) (idx := 73) (C := RX8) (T := TX8) (N := 4) (by decide) rfl inX8 (by decide) (fun _ _ _ => rfl) tb_100 (by decide +kernel)
theorem sd36_114 : mSnd g lau mt mm36 114 (o_cI 117 7 1) := s_cI (m' := 7) (idx := 45) ⟨cw_7.1, cw_7.2.1, cw_7.2.2, by decide⟩ rfl tb_165 rfl tb_166 (by decide +kernel)
theorem sd36_117 : mSnd g lau mt mm36 117 (o_pP 120 7 12) := s_putP (ci := 6) (f := 12) (idx := 78) (C := RX6) (T := TX6) (N := 18) (by decide) rfl inX6 (by decide) tyX6 tyX6_ok nmX6 (Or.inl rfl) tb_281 (by decide +kernel) (fun _ _ _ => rfl) rfl
theorem sd36_120 : mSnd g lau mt mm36 120 (o_al 121 0) := s_aload_n (j := 0) (by decide +kernel) rfl
theorem sd36_121 : mSnd g lau mt mm36 121 (o_new 124 1 4) := s_new (ci := 0) (idx := 43) (C := RX0) (T := TX0) (N := 4) (by decide) rfl inX0 tyX0 tyX0_ok dfX0 tb_163 tb_164 tb_11 (by decide +kernel)
theorem sd36_124 : mSnd g lau mt mm36 124 (o_dup 125) := s_dup (by decide +kernel)
theorem sd36_125 : mSnd g lau mt mm36 125 (o_al 126 2) := s_aload_n (j := 2) (by decide +kernel) rfl
theorem sd36_126 : mSnd g lau mt mm36 126 (o_gI 129 9 0) := s_getI (ci := 8) (f := 0) (idx := 73) (C := RX8) (T := TX8) (N := 4) (by decide) rfl inX8 (by decide) (fun _ _ _ => rfl) tb_100 (by decide +kernel)
theorem sd36_129 : mSnd g lau mt mm36 129 (o_cI 132 7 1) := s_cI (m' := 7) (idx := 45) ⟨cw_7.1, cw_7.2.1, cw_7.2.2, by decide⟩ rfl tb_165 rfl tb_166 (by decide +kernel)
theorem sd36_132 : mSnd g lau mt mm36 132 (o_pP 135 7 13) := s_putP (ci := 6) (f := 13) (idx := 81) (C := RX6) (T := TX6) (N := 18) (by decide) rfl inX6 (by decide) tyX6 tyX6_ok nmX6 (Or.inl rfl) tb_283 (by decide +kernel) (fun _ _ _ => rfl) rfl
theorem sd36_135 : mSnd g lau mt mm36 135 (o_rv) := s_rv (by decide +kernel) rfl
def op36 : Nat → mOp := fun pc => bif Nat.blt pc 66 then (bif Nat.blt pc 33 then (bif Nat.blt pc 14 then (bif Nat.blt pc 6 then (bif Nat.blt pc 4 then (bif Nat.blt pc 1 then (bif Nat.beq pc 0 then o_al 1 0 else o_no) else (bif Nat.beq pc 1 then o_obj 4 else o_no)) else (bif Nat.blt pc 5 then (bif Nat.beq pc 4 then o_al 5 0 else o_no) else (bif Nat.beq pc 5 then o_ic 6 1 else o_no))) else (bif Nat.blt pc 10 then (bif Nat.blt pc 9 then (bif Nat.beq pc 6 then o_pI 9 7 2 else o_no) else (bif Nat.beq pc 9 then o_al 10 0 else o_no)) else (bif Nat.blt pc 11 then (bif Nat.beq pc 10 then o_ic 11 0 else o_no) else (bif Nat.beq pc 11 then o_pI 14 7 4 else o_no)))) else (bif Nat.blt pc 22 then (bif Nat.blt pc 18 then (bif Nat.blt pc 15 then (bif Nat.beq pc 14 then o_al 15 0 else o_no) else (bif Nat.beq pc 15 then o_new 18 2 2 else o_no)) else (bif Nat.blt pc 19 then (bif Nat.beq pc 18 then o_dup 19 else o_no) else (bif Nat.beq pc 19 then o_cI 22 1 0 else o_no))) else (bif Nat.blt pc 26 then (bif Nat.blt pc 25 then (bif Nat.beq pc 22 then o_pP 25 7 5 else o_no) else (bif Nat.beq pc 25 then o_al 26 0 else o_no)) else (bif Nat.blt pc 29 then (bif Nat.beq pc 26 then o_new 29 2 2 else o_no) else (bif Nat.blt pc 30 then (bif Nat.beq pc 29 then o_dup 30 else o_no) else (bif Nat.beq pc 30 then o_cI 33 1 0 else o_no)))))) else (bif Nat.blt pc 47 then (bif Nat.blt pc 40 then (bif Nat.blt pc 37 then (bif Nat.blt pc 36 then (bif Nat.beq pc 33 then o_pP 36 7 6 else o_no) else (bif Nat.beq pc 36 then o_al 37 0 else o_no)) else (bif Nat.blt pc 38 then (bif Nat.beq pc 37 then o_ic 38 3 else o_no) else (bif Nat.beq pc 38 then o_nwa 40 20 else o_no))) else (bif Nat.blt pc 44 then (bif Nat.blt pc 43 then (bif Nat.beq pc 40 then o_pP 43 7 9 else o_no) else (bif Nat.beq pc 43 then o_al 44 0 else o_no)) else (bif Nat.blt pc 45 then (bif Nat.beq pc 44 then o_ic 45 3 else o_no) else (bif Nat.beq pc 45 then o_nwa 47 21 else o_no)))) else (bif Nat.blt pc 55 then (bif Nat.blt pc 51 then (bif Nat.blt pc 50 then (bif Nat.beq pc 47 then o_pP 50 7 10 else o_no) else (bif Nat.beq pc 50 then o_al 51 0 else o_no)) else (bif Nat.blt pc 54 then (bif Nat.beq pc 51 then o_new 54 3 3 else o_no) else (bif Nat.beq pc 54 then o_dup 55 else o_no))) else (bif Nat.blt pc 61 then (bif Nat.blt pc 58 then (bif Nat.beq pc 55 then o_cI 58 15 0 else o_no) else (bif Nat.beq pc 58 then o_pP 61 7 11 else o_no)) else (bif Nat.blt pc 62 then (bif Nat.beq pc 61 then o_al 62 0 else o_no) else (bif Nat.blt pc 65 then (bif Nat.beq pc 62 then o_new 65 1 4 else o_no) else (bif Nat.beq pc 65 then o_dup 66 else o_no))))))) else (bif Nat.blt pc 101 then (bif Nat.blt pc 84 then (bif Nat.blt pc 74 then (bif Nat.blt pc 70 then (bif Nat.blt pc 67 then (bif Nat.beq pc 66 then o_ic 67 1 else o_no) else (bif Nat.beq pc 67 then o_cI 70 7 1 else o_no)) else (bif Nat.blt pc 73 then (bif Nat.beq pc 70 then o_pP 73 7 14 else o_no) else (bif Nat.beq pc 73 then o_al 74 0 else o_no))) else (bif Nat.blt pc 78 then (bif Nat.blt pc 77 then (bif Nat.beq pc 74 then o_new 77 8 3 else o_no) else (bif Nat.beq pc 77 then o_dup 78 else o_no)) else (bif Nat.blt pc 81 then (bif Nat.beq pc 78 then o_cI 81 34 0 else o_no) else (bif Nat.beq pc 81 then o_pP 84 7 15 else o_no)))) else (bif Nat.blt pc 92 then (bif Nat.blt pc 88 then (bif Nat.blt pc 85 then (bif Nat.beq pc 84 then o_al 85 0 else o_no) else (bif Nat.beq pc 85 then o_new 88 6 9 else o_no)) else (bif Nat.blt pc 89 then (bif Nat.beq pc 88 then o_dup 89 else o_no) else (bif Nat.beq pc 89 then o_cI 92 4 0 else o_no))) else (bif Nat.blt pc 96 then (bif Nat.blt pc 95 then (bif Nat.beq pc 92 then o_pP 95 7 16 else o_no) else (bif Nat.beq pc 95 then o_al 96 0 else o_no)) else (bif Nat.blt pc 97 then (bif Nat.beq pc 96 then o_il 97 1 else o_no) else (bif Nat.blt pc 100 then (bif Nat.beq pc 97 then o_pI 100 7 0 else o_no) else (bif Nat.beq pc 100 then o_al 101 0 else o_no)))))) else (bif Nat.blt pc 117 then (bif Nat.blt pc 109 then (bif Nat.blt pc 105 then (bif Nat.blt pc 102 then (bif Nat.beq pc 101 then o_al 102 2 else o_no) else (bif Nat.beq pc 102 then o_pP 105 7 1 else o_no)) else (bif Nat.blt pc 106 then (bif Nat.beq pc 105 then o_al 106 0 else o_no) else (bif Nat.beq pc 106 then o_new 109 1 4 else o_no))) else (bif Nat.blt pc 111 then (bif Nat.blt pc 110 then (bif Nat.beq pc 109 then o_dup 110 else o_no) else (bif Nat.beq pc 110 then o_al 111 2 else o_no)) else (bif Nat.blt pc 114 then (bif Nat.beq pc 111 then o_gI 114 9 0 else o_no) else (bif Nat.beq pc 114 then o_cI 117 7 1 else o_no)))) else (bif Nat.blt pc 125 then (bif Nat.blt pc 121 then (bif Nat.blt pc 120 then (bif Nat.beq pc 117 then o_pP 120 7 12 else o_no) else (bif Nat.beq pc 120 then o_al 121 0 else o_no)) else (bif Nat.blt pc 124 then (bif Nat.beq pc 121 then o_new 124 1 4 else o_no) else (bif Nat.beq pc 124 then o_dup 125 else o_no))) else (bif Nat.blt pc 129 then (bif Nat.blt pc 126 then (bif Nat.beq pc 125 then o_al 126 2 else o_no) else (bif Nat.beq pc 126 then o_gI 129 9 0 else o_no)) else (bif Nat.blt pc 132 then (bif Nat.beq pc 129 then o_cI 132 7 1 else o_no) else (bif Nat.blt pc 135 then (bif Nat.beq pc 132 then o_pP 135 7 13 else o_no) else (bif Nat.beq pc 135 then o_rv else o_no)))))))
theorem sn36 (pc : Nat) : mSnd g lau mt mm36 pc (op36 pc) := s_bif (s_bif (s_bif (s_bif (s_bif (s_bif (s_leaf sd36_0) (s_leaf sd36_1)) (s_bif (s_leaf sd36_4) (s_leaf sd36_5))) (s_bif (s_bif (s_leaf sd36_6) (s_leaf sd36_9)) (s_bif (s_leaf sd36_10) (s_leaf sd36_11)))) (s_bif (s_bif (s_bif (s_leaf sd36_14) (s_leaf sd36_15)) (s_bif (s_leaf sd36_18) (s_leaf sd36_19))) (s_bif (s_bif (s_leaf sd36_22) (s_leaf sd36_25)) (s_bif (s_leaf sd36_26) (s_bif (s_leaf sd36_29) (s_leaf sd36_30)))))) (s_bif (s_bif (s_bif (s_bif (s_leaf sd36_33) (s_leaf sd36_36)) (s_bif (s_leaf sd36_37) (s_leaf sd36_38))) (s_bif (s_bif (s_leaf sd36_40) (s_leaf sd36_43)) (s_bif (s_leaf sd36_44) (s_leaf sd36_45)))) (s_bif (s_bif (s_bif (s_leaf sd36_47) (s_leaf sd36_50)) (s_bif (s_leaf sd36_51) (s_leaf sd36_54))) (s_bif (s_bif (s_leaf sd36_55) (s_leaf sd36_58)) (s_bif (s_leaf sd36_61) (s_bif (s_leaf sd36_62) (s_leaf sd36_65))))))) (s_bif (s_bif (s_bif (s_bif (s_bif (s_leaf sd36_66) (s_leaf sd36_67)) (s_bif (s_leaf sd36_70) (s_leaf sd36_73))) (s_bif (s_bif (s_leaf sd36_74) (s_leaf sd36_77)) (s_bif (s_leaf sd36_78) (s_leaf sd36_81)))) (s_bif (s_bif (s_bif (s_leaf sd36_84) (s_leaf sd36_85)) (s_bif (s_leaf sd36_88) (s_leaf sd36_89))) (s_bif (s_bif (s_leaf sd36_92) (s_leaf sd36_95)) (s_bif (s_leaf sd36_96) (s_bif (s_leaf sd36_97) (s_leaf sd36_100)))))) (s_bif (s_bif (s_bif (s_bif (s_leaf sd36_101) (s_leaf sd36_102)) (s_bif (s_leaf sd36_105) (s_leaf sd36_106))) (s_bif (s_bif (s_leaf sd36_109) (s_leaf sd36_110)) (s_bif (s_leaf sd36_111) (s_leaf sd36_114)))) (s_bif (s_bif (s_bif (s_leaf sd36_117) (s_leaf sd36_120)) (s_bif (s_leaf sd36_121) (s_leaf sd36_124))) (s_bif (s_bif (s_leaf sd36_125) (s_leaf sd36_126)) (s_bif (s_leaf sd36_129) (s_bif (s_leaf sd36_132) (s_leaf sd36_135)))))))
-- RoundVotes$Node.isCut()Z
theorem sd37_0 : mSnd g lau mt mm37 0 (o_al 1 0) := s_aload_n (j := 0) (by decide +kernel) rfl
theorem sd37_1 : mSnd g lau mt mm37 1 (o_gI 4 7 8) := s_getI (ci := 6) (f := 8) (idx := 84) (C := RX6) (T := TX6) (N := 18) (by decide) rfl inX6 (by decide) (fun _ _ _ => rfl) tb_274 (by decide +kernel)
theorem sd37_4 : mSnd g lau mt mm37 4 (o_le0 7 11) := s_if_le (off := 7) (by decide +kernel) rfl
theorem sd37_7 : mSnd g lau mt mm37 7 (o_ic 8 1) := s_iconst (n := 1) (by decide +kernel) rfl
theorem sd37_8 : mSnd g lau mt mm37 8 (o_goto 12) := s_goto (off := 4) (by decide +kernel) rfl
theorem sd37_11 : mSnd g lau mt mm37 11 (o_ic 12 0) := s_iconst (n := 0) (by decide +kernel) rfl
theorem sd37_12 : mSnd g lau mt mm37 12 (o_rz) := s_rz (by decide +kernel) rfl
def op37 : Nat → mOp := fun pc => bif Nat.blt pc 7 then (bif Nat.blt pc 1 then (bif Nat.beq pc 0 then o_al 1 0 else o_no) else (bif Nat.blt pc 4 then (bif Nat.beq pc 1 then o_gI 4 7 8 else o_no) else (bif Nat.beq pc 4 then o_le0 7 11 else o_no))) else (bif Nat.blt pc 11 then (bif Nat.blt pc 8 then (bif Nat.beq pc 7 then o_ic 8 1 else o_no) else (bif Nat.beq pc 8 then o_goto 12 else o_no)) else (bif Nat.blt pc 12 then (bif Nat.beq pc 11 then o_ic 12 0 else o_no) else (bif Nat.beq pc 12 then o_rz else o_no)))
theorem sn37 (pc : Nat) : mSnd g lau mt mm37 pc (op37 pc) := s_bif (s_bif (s_leaf sd37_0) (s_bif (s_leaf sd37_1) (s_leaf sd37_4))) (s_bif (s_bif (s_leaf sd37_7) (s_leaf sd37_8)) (s_bif (s_leaf sd37_11) (s_leaf sd37_12)))
-- RoundVotes$Node.begin(II)V
theorem sd38_0 : mSnd g lau mt mm38 0 (o_il 1 1) := s_iload_n (j := 1) (by decide +kernel) rfl
theorem sd38_1 : mSnd g lau mt mm38 1 (o_ic 3 30) := s_bipush (n := 30) (by decide +kernel) rfl
theorem sd38_3 : mSnd g lau mt mm38 3 (o_lt 6 7) := s_icmp_lt (off := 4) (by decide +kernel) rfl
theorem sd38_6 : mSnd g lau mt mm38 6 (o_rv) := s_rv (by decide +kernel) rfl
theorem sd38_7 : mSnd g lau mt mm38 7 (o_al 8 0) := s_aload_n (j := 0) (by decide +kernel) rfl
theorem sd38_8 : mSnd g lau mt mm38 8 (o_il 9 1) := s_iload_n (j := 1) (by decide +kernel) rfl
theorem sd38_9 : mSnd g lau mt mm38 9 (o_pI 12 7 3) := s_putI (ci := 6) (f := 3) (idx := 87) (C := RX6) (T := TX6) (N := 18) (by decide) rfl inX6 (by decide) tyX6 tyX6_ok nmX6 (Or.inl rfl) tb_264 (by decide +kernel) (fun _ _ _ => rfl) rfl
theorem sd38_12 : mSnd g lau mt mm38 12 (o_al 13 0) := s_aload_n (j := 0) (by decide +kernel) rfl
theorem sd38_13 : mSnd g lau mt mm38 13 (o_ic 14 0) := s_iconst (n := 0) (by decide +kernel) rfl
theorem sd38_14 : mSnd g lau mt mm38 14 (o_pI 17 7 4) := s_putI (ci := 6) (f := 4) (idx := 15) (C := RX6) (T := TX6) (N := 18) (by decide) rfl inX6 (by decide) tyX6 tyX6_ok nmX6 (Or.inl rfl) tb_266 (by decide +kernel) (fun _ _ _ => rfl) rfl
theorem sd38_17 : mSnd g lau mt mm38 17 (o_ic 18 0) := s_iconst (n := 0) (by decide +kernel) rfl
theorem sd38_18 : mSnd g lau mt mm38 18 (o_ist 19 3) := s_istore_n (j := 3) (by decide +kernel) rfl
theorem sd38_19 : mSnd g lau mt mm38 19 (o_il 20 3) := s_iload_n (j := 3) (by decide +kernel) rfl
theorem sd38_20 : mSnd g lau mt mm38 20 (o_ic 21 3) := s_iconst (n := 3) (by decide +kernel) rfl
theorem sd38_21 : mSnd g lau mt mm38 21 (o_ge 24 37) := s_icmp_ge (off := 16) (by decide +kernel) rfl
theorem sd38_24 : mSnd g lau mt mm38 24 (o_al 25 0) := s_aload_n (j := 0) (by decide +kernel) rfl
theorem sd38_25 : mSnd g lau mt mm38 25 (o_gP 28 7 9) := s_getP (ci := 6) (f := 9) (idx := 28) (C := RX6) (T := TX6) (N := 18) (by decide) rfl inX6 (by decide) (fun _ _ _ => rfl) tb_276 (by decide +kernel)
theorem sd38_28 : mSnd g lau mt mm38 28 (o_il 29 3) := s_iload_n (j := 3) (by decide +kernel) rfl
theorem sd38_29 : mSnd g lau mt mm38 29 (o_ic 30 0) := s_iconst (n := 0) (by decide +kernel) rfl
theorem sd38_30 : mSnd g lau mt mm38 30 (o_ias 31) := s_iast (by decide +kernel)
theorem sd38_31 : mSnd g lau mt mm38 31 (o_inc 34 3 1) := s_iinc (n := 1) (by decide +kernel) rfl
theorem sd38_34 : mSnd g lau mt mm38 34 (o_goto 19) := s_goto (off := (-15)) (by decide +kernel) rfl
theorem sd38_37 : mSnd g lau mt mm38 37 (o_ic 38 0) := s_iconst (n := 0) (by decide +kernel) rfl
theorem sd38_38 : mSnd g lau mt mm38 38 (o_ist 39 3) := s_istore_n (j := 3) (by decide +kernel) rfl
theorem sd38_39 : mSnd g lau mt mm38 39 (o_il 40 3) := s_iload_n (j := 3) (by decide +kernel) rfl
theorem sd38_40 : mSnd g lau mt mm38 40 (o_ic 41 3) := s_iconst (n := 3) (by decide +kernel) rfl
theorem sd38_41 : mSnd g lau mt mm38 41 (o_ge 44 57) := s_icmp_ge (off := 16) (by decide +kernel) rfl
theorem sd38_44 : mSnd g lau mt mm38 44 (o_al 45 0) := s_aload_n (j := 0) (by decide +kernel) rfl
theorem sd38_45 : mSnd g lau mt mm38 45 (o_gP 48 7 10) := s_getP (ci := 6) (f := 10) (idx := 32) (C := RX6) (T := TX6) (N := 18) (by decide) rfl inX6 (by decide) (fun _ _ _ => rfl) tb_278 (by decide +kernel)
theorem sd38_48 : mSnd g lau mt mm38 48 (o_il 49 3) := s_iload_n (j := 3) (by decide +kernel) rfl
theorem sd38_49 : mSnd g lau mt mm38 49 (o_ic 50 0) := s_iconst (n := 0) (by decide +kernel) rfl
theorem sd38_50 : mSnd g lau mt mm38 50 (o_bas 51) := s_zast (by decide +kernel)
theorem sd38_51 : mSnd g lau mt mm38 51 (o_inc 54 3 1) := s_iinc (n := 1) (by decide +kernel) rfl
theorem sd38_54 : mSnd g lau mt mm38 54 (o_goto 39) := s_goto (off := (-15)) (by decide +kernel) rfl
theorem sd38_57 : mSnd g lau mt mm38 57 (o_al 58 0) := s_aload_n (j := 0) (by decide +kernel) rfl
theorem sd38_58 : mSnd g lau mt mm38 58 (o_cV 61 39 0 7) := s_cV (m' := 39) (ci := 6) (idx := 90) (r0 := (RX6, TX6, 18)) ⟨cw_39.1, cw_39.2.1, cw_39.2.2, by decide⟩ tb_423 rfl (by decide) rfl tb_425 tb_s3 (by decide +kernel)
theorem sd38_61 : mSnd g lau mt mm38 61 (o_eq0 64 65) := s_if_eq (off := 4) (by decide +kernel) rfl
theorem sd38_64 : mSnd g lau mt mm38 64 (o_rv) := s_rv (by decide +kernel) rfl
theorem sd38_65 : mSnd g lau mt mm38 65 (o_al 66 0) := s_aload_n (j := 0) (by decide +kernel) rfl
theorem sd38_66 : mSnd g lau mt mm38 66 (o_gP 69 7 9) := s_getP (ci := 6) (f := 9) (idx := 28) (C := RX6) (T := TX6) (N := 18) (by decide) rfl inX6 (by decide) (fun _ _ _ => rfl) tb_276 (by decide +kernel)
theorem sd38_69 : mSnd g lau mt mm38 69 (o_ic 70 0) := s_iconst (n := 0) (by decide +kernel) rfl
theorem sd38_70 : mSnd g lau mt mm38 70 (o_il 71 2) := s_iload_n (j := 2) (by decide +kernel) rfl
theorem sd38_71 : mSnd g lau mt mm38 71 (o_ic 72 4) := s_iconst (n := 4) (by decide +kernel) rfl
theorem sd38_72 : mSnd g lau mt mm38 72 (o_ii 73 (fun x y => x + y)) := s_iadd (by decide +kernel)
theorem sd38_73 : mSnd g lau mt mm38 73 (o_al 74 0) := s_aload_n (j := 0) (by decide +kernel) rfl
theorem sd38_74 : mSnd g lau mt mm38 74 (o_gI 77 7 3) := s_getI (ci := 6) (f := 3) (idx := 87) (C := RX6) (T := TX6) (N := 18) (by decide) rfl inX6 (by decide) (fun _ _ _ => rfl) tb_264 (by decide +kernel)
theorem sd38_77 : mSnd g lau mt mm38 77 (o_ii 78 (fun x y => x + y)) := s_iadd (by decide +kernel)
theorem sd38_78 : mSnd g lau mt mm38 78 (o_ias 79) := s_iast (by decide +kernel)
theorem sd38_79 : mSnd g lau mt mm38 79 (o_al 80 0) := s_aload_n (j := 0) (by decide +kernel) rfl
theorem sd38_80 : mSnd g lau mt mm38 80 (o_gP 83 7 1) := s_getP (ci := 6) (f := 1) (idx := 69) (C := RX6) (T := TX6) (N := 18) (by decide) rfl inX6 (by decide) (fun _ _ _ => rfl) tb_261 (by decide +kernel)
theorem sd38_83 : mSnd g lau mt mm38 83 (o_al 84 0) := s_aload_n (j := 0) (by decide +kernel) rfl
theorem sd38_84 : mSnd g lau mt mm38 84 (o_gI 87 7 2) := s_getI (ci := 6) (f := 2) (idx := 9) (C := RX6) (T := TX6) (N := 18) (by decide) rfl inX6 (by decide) (fun _ _ _ => rfl) tb_262 (by decide +kernel)
theorem sd38_87 : mSnd g lau mt mm38 87 (o_al 88 0) := s_aload_n (j := 0) (by decide +kernel) rfl
theorem sd38_88 : mSnd g lau mt mm38 88 (o_gI 91 7 3) := s_getI (ci := 6) (f := 3) (idx := 87) (C := RX6) (T := TX6) (N := 18) (by decide) rfl inX6 (by decide) (fun _ _ _ => rfl) tb_264 (by decide +kernel)
theorem sd38_91 : mSnd g lau mt mm38 91 (o_cV 94 28 2 9) := s_cV (m' := 28) (ci := 8) (idx := 94) (r0 := (RX8, TX8, 4)) ⟨cw_28.1, cw_28.2.1, cw_28.2.2, by decide⟩ tb_427 rfl (by decide) rfl tb_428 tb_429 (by decide +kernel)
theorem sd38_94 : mSnd g lau mt mm38 94 (o_al 95 0) := s_aload_n (j := 0) (by decide +kernel) rfl
theorem sd38_95 : mSnd g lau mt mm38 95 (o_gI 98 7 0) := s_getI (ci := 6) (f := 0) (idx := 66) (C := RX6) (T := TX6) (N := 18) (by decide) rfl inX6 (by decide) (fun _ _ _ => rfl) tb_259 (by decide +kernel)
theorem sd38_98 : mSnd g lau mt mm38 98 (o_eq 101 102) := s_icmp_eq (off := 4) (by decide +kernel) rfl
theorem sd38_101 : mSnd g lau mt mm38 101 (o_rv) := s_rv (by decide +kernel) rfl
theorem sd38_102 : mSnd g lau mt mm38 102 (o_al 103 0) := s_aload_n (j := 0) (by decide +kernel) rfl
theorem sd38_103 : mSnd g lau mt mm38 103 (o_gP 106 7 6) := s_getP (ci := 6) (f := 6) (idx := 25) (C := RX6) (T := TX6) (N := 18) (by decide) rfl inX6 (by decide) (fun _ _ _ => rfl) tb_270 (by decide +kernel)
theorem sd38_106 : mSnd g lau mt mm38 106 (o_cV 109 2 0 2) := s_cV (m' := 2) (ci := 1) (idx := 98) (r0 := (RX1, TX1, 2)) ⟨cw_2.1, cw_2.2.1, cw_2.2.2, by decide⟩ tb_431 rfl (by decide) rfl tb_432 tb_433 (by decide +kernel)
theorem sd38_109 : mSnd g lau mt mm38 109 (o_eq0 112 140) := s_if_eq (off := 31) (by decide +kernel) rfl
theorem sd38_112 : mSnd g lau mt mm38 112 (o_al 113 0) := s_aload_n (j := 0) (by decide +kernel) rfl
theorem sd38_113 : mSnd g lau mt mm38 113 (o_ic 114 0) := s_iconst (n := 0) (by decide +kernel) rfl
theorem sd38_114 : mSnd g lau mt mm38 114 (o_al 115 0) := s_aload_n (j := 0) (by decide +kernel) rfl
theorem sd38_115 : mSnd g lau mt mm38 115 (o_gP 118 7 1) := s_getP (ci := 6) (f := 1) (idx := 69) (C := RX6) (T := TX6) (N := 18) (by decide) rfl inX6 (by decide) (fun _ _ _ => rfl) tb_261 (by decide +kernel)
theorem sd38_118 : mSnd g lau mt mm38 118 (o_al 119 0) := s_aload_n (j := 0) (by decide +kernel) rfl
theorem sd38_119 : mSnd g lau mt mm38 119 (o_gI 122 7 0) := s_getI (ci := 6) (f := 0) (idx := 66) (C := RX6) (T := TX6) (N := 18) (by decide) rfl inX6 (by decide) (fun _ _ _ => rfl) tb_259 (by decide +kernel)
theorem sd38_122 : mSnd g lau mt mm38 122 (o_al 123 0) := s_aload_n (j := 0) (by decide +kernel) rfl
theorem sd38_123 : mSnd g lau mt mm38 123 (o_gI 126 7 2) := s_getI (ci := 6) (f := 2) (idx := 9) (C := RX6) (T := TX6) (N := 18) (by decide) rfl inX6 (by decide) (fun _ _ _ => rfl) tb_262 (by decide +kernel)
theorem sd38_126 : mSnd g lau mt mm38 126 (o_al 127 0) := s_aload_n (j := 0) (by decide +kernel) rfl
theorem sd38_127 : mSnd g lau mt mm38 127 (o_gI 130 7 3) := s_getI (ci := 6) (f := 3) (idx := 87) (C := RX6) (T := TX6) (N := 18) (by decide) rfl inX6 (by decide) (fun _ _ _ => rfl) tb_264 (by decide +kernel)
theorem sd38_130 : mSnd g lau mt mm38 130 (o_cV 133 29 3 9) := s_cV (m' := 29) (ci := 8) (idx := 101) (r0 := (RX8, TX8, 4)) ⟨cw_29.1, cw_29.2.1, cw_29.2.2, by decide⟩ tb_435 rfl (by decide) rfl tb_436 tb_437 (by decide +kernel)
theorem sd38_133 : mSnd g lau mt mm38 133 (o_ic 134 (-1)) := s_iconst (n := (-1)) (by decide +kernel) rfl
theorem sd38_134 : mSnd g lau mt mm38 134 (o_cV 137 40 3 7) := s_cV (m' := 40) (ci := 6) (idx := 105) (r0 := (RX6, TX6, 18)) ⟨cw_40.1, cw_40.2.1, cw_40.2.2, by decide⟩ tb_442 rfl (by decide) rfl tb_444 tb_s4 (by decide +kernel)
theorem sd38_137 : mSnd g lau mt mm38 137 (o_goto 159) := s_goto (off := 22) (by decide +kernel) rfl
theorem sd38_140 : mSnd g lau mt mm38 140 (o_al 141 0) := s_aload_n (j := 0) (by decide +kernel) rfl
theorem sd38_141 : mSnd g lau mt mm38 141 (o_ic 142 0) := s_iconst (n := 0) (by decide +kernel) rfl
theorem sd38_142 : mSnd g lau mt mm38 142 (o_al 143 0) := s_aload_n (j := 0) (by decide +kernel) rfl
theorem sd38_143 : mSnd g lau mt mm38 143 (o_gP 146 7 6) := s_getP (ci := 6) (f := 6) (idx := 25) (C := RX6) (T := TX6) (N := 18) (by decide) rfl inX6 (by decide) (fun _ _ _ => rfl) tb_270 (by decide +kernel)
theorem sd38_146 : mSnd g lau mt mm38 146 (o_gI 149 2 0) := s_getI (ci := 1) (f := 0) (idx := 109) (C := RX1) (T := TX1) (N := 2) (by decide) rfl inX1 (by decide) (fun _ _ _ => rfl) tb_130 (by decide +kernel)
theorem sd38_149 : mSnd g lau mt mm38 149 (o_al 150 0) := s_aload_n (j := 0) (by decide +kernel) rfl
theorem sd38_150 : mSnd g lau mt mm38 150 (o_gP 153 7 6) := s_getP (ci := 6) (f := 6) (idx := 25) (C := RX6) (T := TX6) (N := 18) (by decide) rfl inX6 (by decide) (fun _ _ _ => rfl) tb_270 (by decide +kernel)
theorem sd38_153 : mSnd g lau mt mm38 153 (o_gI 156 2 1) := s_getI (ci := 1) (f := 1) (idx := 112) (C := RX1) (T := TX1) (N := 2) (by decide) rfl inX1 (by decide) (fun _ _ _ => rfl) tb_133 (by decide +kernel)
theorem sd38_156 : mSnd g lau mt mm38 156 (o_cV 159 40 3 7) := s_cV (m' := 40) (ci := 6) (idx := 105) (r0 := (RX6, TX6, 18)) ⟨cw_40.1, cw_40.2.1, cw_40.2.2, by decide⟩ tb_442 rfl (by decide) rfl tb_444 tb_s4 (by decide +kernel)
theorem sd38_159 : mSnd g lau mt mm38 159 (o_rv) := s_rv (by decide +kernel) rfl
def op38 : Nat → mOp := fun pc => bif Nat.blt pc 72 then (bif Nat.blt pc 34 then (bif Nat.blt pc 17 then (bif Nat.blt pc 8 then (bif Nat.blt pc 3 then (bif Nat.blt pc 1 then (bif Nat.beq pc 0 then o_il 1 1 else o_no) else (bif Nat.beq pc 1 then o_ic 3 30 else o_no)) else (bif Nat.blt pc 6 then (bif Nat.beq pc 3 then o_lt 6 7 else o_no) else (bif Nat.blt pc 7 then (bif Nat.beq pc 6 then o_rv else o_no) else (bif Nat.beq pc 7 then o_al 8 0 else o_no)))) else (bif Nat.blt pc 12 then (bif Nat.blt pc 9 then (bif Nat.beq pc 8 then o_il 9 1 else o_no) else (bif Nat.beq pc 9 then o_pI 12 7 3 else o_no)) else (bif Nat.blt pc 13 then (bif Nat.beq pc 12 then o_al 13 0 else o_no) else (bif Nat.blt pc 14 then (bif Nat.beq pc 13 then o_ic 14 0 else o_no) else (bif Nat.beq pc 14 then o_pI 17 7 4 else o_no))))) else (bif Nat.blt pc 24 then (bif Nat.blt pc 19 then (bif Nat.blt pc 18 then (bif Nat.beq pc 17 then o_ic 18 0 else o_no) else (bif Nat.beq pc 18 then o_ist 19 3 else o_no)) else (bif Nat.blt pc 20 then (bif Nat.beq pc 19 then o_il 20 3 else o_no) else (bif Nat.blt pc 21 then (bif Nat.beq pc 20 then o_ic 21 3 else o_no) else (bif Nat.beq pc 21 then o_ge 24 37 else o_no)))) else (bif Nat.blt pc 29 then (bif Nat.blt pc 25 then (bif Nat.beq pc 24 then o_al 25 0 else o_no) else (bif Nat.blt pc 28 then (bif Nat.beq pc 25 then o_gP 28 7 9 else o_no) else (bif Nat.beq pc 28 then o_il 29 3 else o_no))) else (bif Nat.blt pc 30 then (bif Nat.beq pc 29 then o_ic 30 0 else o_no) else (bif Nat.blt pc 31 then (bif Nat.beq pc 30 then o_ias 31 else o_no) else (bif Nat.beq pc 31 then o_inc 34 3 1 else o_no)))))) else (bif Nat.blt pc 51 then (bif Nat.blt pc 41 then (bif Nat.blt pc 38 then (bif Nat.blt pc 37 then (bif Nat.beq pc 34 then o_goto 19 else o_no) else (bif Nat.beq pc 37 then o_ic 38 0 else o_no)) else (bif Nat.blt pc 39 then (bif Nat.beq pc 38 then o_ist 39 3 else o_no) else (bif Nat.blt pc 40 then (bif Nat.beq pc 39 then o_il 40 3 else o_no) else (bif Nat.beq pc 40 then o_ic 41 3 else o_no)))) else (bif Nat.blt pc 48 then (bif Nat.blt pc 44 then (bif Nat.beq pc 41 then o_ge 44 57 else o_no) else (bif Nat.blt pc 45 then (bif Nat.beq pc 44 then o_al 45 0 else o_no) else (bif Nat.beq pc 45 then o_gP 48 7 10 else o_no))) else (bif Nat.blt pc 49 then (bif Nat.beq pc 48 then o_il 49 3 else o_no) else (bif Nat.blt pc 50 then (bif Nat.beq pc 49 then o_ic 50 0 else o_no) else (bif Nat.beq pc 50 then o_bas 51 else o_no))))) else (bif Nat.blt pc 64 then (bif Nat.blt pc 57 then (bif Nat.blt pc 54 then (bif Nat.beq pc 51 then o_inc 54 3 1 else o_no) else (bif Nat.beq pc 54 then o_goto 39 else o_no)) else (bif Nat.blt pc 58 then (bif Nat.beq pc 57 then o_al 58 0 else o_no) else (bif Nat.blt pc 61 then (bif Nat.beq pc 58 then o_cV 61 39 0 7 else o_no) else (bif Nat.beq pc 61 then o_eq0 64 65 else o_no)))) else (bif Nat.blt pc 69 then (bif Nat.blt pc 65 then (bif Nat.beq pc 64 then o_rv else o_no) else (bif Nat.blt pc 66 then (bif Nat.beq pc 65 then o_al 66 0 else o_no) else (bif Nat.beq pc 66 then o_gP 69 7 9 else o_no))) else (bif Nat.blt pc 70 then (bif Nat.beq pc 69 then o_ic 70 0 else o_no) else (bif Nat.blt pc 71 then (bif Nat.beq pc 70 then o_il 71 2 else o_no) else (bif Nat.beq pc 71 then o_ic 72 4 else o_no))))))) else (bif Nat.blt pc 114 then (bif Nat.blt pc 91 then (bif Nat.blt pc 79 then (bif Nat.blt pc 74 then (bif Nat.blt pc 73 then (bif Nat.beq pc 72 then o_ii 73 (fun x y => x + y) else o_no) else (bif Nat.beq pc 73 then o_al 74 0 else o_no)) else (bif Nat.blt pc 77 then (bif Nat.beq pc 74 then o_gI 77 7 3 else o_no) else (bif Nat.blt pc 78 then (bif Nat.beq pc 77 then o_ii 78 (fun x y => x + y) else o_no) else (bif Nat.beq pc 78 then o_ias 79 else o_no)))) else (bif Nat.blt pc 84 then (bif Nat.blt pc 80 then (bif Nat.beq pc 79 then o_al 80 0 else o_no) else (bif Nat.blt pc 83 then (bif Nat.beq pc 80 then o_gP 83 7 1 else o_no) else (bif Nat.beq pc 83 then o_al 84 0 else o_no))) else (bif Nat.blt pc 87 then (bif Nat.beq pc 84 then o_gI 87 7 2 else o_no) else (bif Nat.blt pc 88 then (bif Nat.beq pc 87 then o_al 88 0 else o_no) else (bif Nat.beq pc 88 then o_gI 91 7 3 else o_no))))) else (bif Nat.blt pc 102 then (bif Nat.blt pc 95 then (bif Nat.blt pc 94 then (bif Nat.beq pc 91 then o_cV 94 28 2 9 else o_no) else (bif Nat.beq pc 94 then o_al 95 0 else o_no)) else (bif Nat.blt pc 98 then (bif Nat.beq pc 95 then o_gI 98 7 0 else o_no) else (bif Nat.blt pc 101 then (bif Nat.beq pc 98 then o_eq 101 102 else o_no) else (bif Nat.beq pc 101 then o_rv else o_no)))) else (bif Nat.blt pc 109 then (bif Nat.blt pc 103 then (bif Nat.beq pc 102 then o_al 103 0 else o_no) else (bif Nat.blt pc 106 then (bif Nat.beq pc 103 then o_gP 106 7 6 else o_no) else (bif Nat.beq pc 106 then o_cV 109 2 0 2 else o_no))) else (bif Nat.blt pc 112 then (bif Nat.beq pc 109 then o_eq0 112 140 else o_no) else (bif Nat.blt pc 113 then (bif Nat.beq pc 112 then o_al 113 0 else o_no) else (bif Nat.beq pc 113 then o_ic 114 0 else o_no)))))) else (bif Nat.blt pc 137 then (bif Nat.blt pc 123 then (bif Nat.blt pc 118 then (bif Nat.blt pc 115 then (bif Nat.beq pc 114 then o_al 115 0 else o_no) else (bif Nat.beq pc 115 then o_gP 118 7 1 else o_no)) else (bif Nat.blt pc 119 then (bif Nat.beq pc 118 then o_al 119 0 else o_no) else (bif Nat.blt pc 122 then (bif Nat.beq pc 119 then o_gI 122 7 0 else o_no) else (bif Nat.beq pc 122 then o_al 123 0 else o_no)))) else (bif Nat.blt pc 130 then (bif Nat.blt pc 126 then (bif Nat.beq pc 123 then o_gI 126 7 2 else o_no) else (bif Nat.blt pc 127 then (bif Nat.beq pc 126 then o_al 127 0 else o_no) else (bif Nat.beq pc 127 then o_gI 130 7 3 else o_no))) else (bif Nat.blt pc 133 then (bif Nat.beq pc 130 then o_cV 133 29 3 9 else o_no) else (bif Nat.blt pc 134 then (bif Nat.beq pc 133 then o_ic 134 (-1) else o_no) else (bif Nat.beq pc 134 then o_cV 137 40 3 7 else o_no))))) else (bif Nat.blt pc 146 then (bif Nat.blt pc 141 then (bif Nat.blt pc 140 then (bif Nat.beq pc 137 then o_goto 159 else o_no) else (bif Nat.beq pc 140 then o_al 141 0 else o_no)) else (bif Nat.blt pc 142 then (bif Nat.beq pc 141 then o_ic 142 0 else o_no) else (bif Nat.blt pc 143 then (bif Nat.beq pc 142 then o_al 143 0 else o_no) else (bif Nat.beq pc 143 then o_gP 146 7 6 else o_no)))) else (bif Nat.blt pc 153 then (bif Nat.blt pc 149 then (bif Nat.beq pc 146 then o_gI 149 2 0 else o_no) else (bif Nat.blt pc 150 then (bif Nat.beq pc 149 then o_al 150 0 else o_no) else (bif Nat.beq pc 150 then o_gP 153 7 6 else o_no))) else (bif Nat.blt pc 156 then (bif Nat.beq pc 153 then o_gI 156 2 1 else o_no) else (bif Nat.blt pc 159 then (bif Nat.beq pc 156 then o_cV 159 40 3 7 else o_no) else (bif Nat.beq pc 159 then o_rv else o_no)))))))
theorem sn38 (pc : Nat) : mSnd g lau mt mm38 pc (op38 pc) := s_bif (s_bif (s_bif (s_bif (s_bif (s_bif (s_leaf sd38_0) (s_leaf sd38_1)) (s_bif (s_leaf sd38_3) (s_bif (s_leaf sd38_6) (s_leaf sd38_7)))) (s_bif (s_bif (s_leaf sd38_8) (s_leaf sd38_9)) (s_bif (s_leaf sd38_12) (s_bif (s_leaf sd38_13) (s_leaf sd38_14))))) (s_bif (s_bif (s_bif (s_leaf sd38_17) (s_leaf sd38_18)) (s_bif (s_leaf sd38_19) (s_bif (s_leaf sd38_20) (s_leaf sd38_21)))) (s_bif (s_bif (s_leaf sd38_24) (s_bif (s_leaf sd38_25) (s_leaf sd38_28))) (s_bif (s_leaf sd38_29) (s_bif (s_leaf sd38_30) (s_leaf sd38_31)))))) (s_bif (s_bif (s_bif (s_bif (s_leaf sd38_34) (s_leaf sd38_37)) (s_bif (s_leaf sd38_38) (s_bif (s_leaf sd38_39) (s_leaf sd38_40)))) (s_bif (s_bif (s_leaf sd38_41) (s_bif (s_leaf sd38_44) (s_leaf sd38_45))) (s_bif (s_leaf sd38_48) (s_bif (s_leaf sd38_49) (s_leaf sd38_50))))) (s_bif (s_bif (s_bif (s_leaf sd38_51) (s_leaf sd38_54)) (s_bif (s_leaf sd38_57) (s_bif (s_leaf sd38_58) (s_leaf sd38_61)))) (s_bif (s_bif (s_leaf sd38_64) (s_bif (s_leaf sd38_65) (s_leaf sd38_66))) (s_bif (s_leaf sd38_69) (s_bif (s_leaf sd38_70) (s_leaf sd38_71))))))) (s_bif (s_bif (s_bif (s_bif (s_bif (s_leaf sd38_72) (s_leaf sd38_73)) (s_bif (s_leaf sd38_74) (s_bif (s_leaf sd38_77) (s_leaf sd38_78)))) (s_bif (s_bif (s_leaf sd38_79) (s_bif (s_leaf sd38_80) (s_leaf sd38_83))) (s_bif (s_leaf sd38_84) (s_bif (s_leaf sd38_87) (s_leaf sd38_88))))) (s_bif (s_bif (s_bif (s_leaf sd38_91) (s_leaf sd38_94)) (s_bif (s_leaf sd38_95) (s_bif (s_leaf sd38_98) (s_leaf sd38_101)))) (s_bif (s_bif (s_leaf sd38_102) (s_bif (s_leaf sd38_103) (s_leaf sd38_106))) (s_bif (s_leaf sd38_109) (s_bif (s_leaf sd38_112) (s_leaf sd38_113)))))) (s_bif (s_bif (s_bif (s_bif (s_leaf sd38_114) (s_leaf sd38_115)) (s_bif (s_leaf sd38_118) (s_bif (s_leaf sd38_119) (s_leaf sd38_122)))) (s_bif (s_bif (s_leaf sd38_123) (s_bif (s_leaf sd38_126) (s_leaf sd38_127))) (s_bif (s_leaf sd38_130) (s_bif (s_leaf sd38_133) (s_leaf sd38_134))))) (s_bif (s_bif (s_bif (s_leaf sd38_137) (s_leaf sd38_140)) (s_bif (s_leaf sd38_141) (s_bif (s_leaf sd38_142) (s_leaf sd38_143)))) (s_bif (s_bif (s_leaf sd38_146) (s_bif (s_leaf sd38_149) (s_leaf sd38_150))) (s_bif (s_leaf sd38_153) (s_bif (s_leaf sd38_156) (s_leaf sd38_159)))))))
end MCode
end
