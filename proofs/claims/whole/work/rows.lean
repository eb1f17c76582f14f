section
/-- a private method of a class that the tables say can be made, by its rows of tables_1 -/
def lw_okq (q : MethodName × Nat) : Prop := (q.1.cls ≠ "java/lang/invoke/MethodHandle" ∧ q.1.cls ≠ "java/lang/invoke/VarHandle") ∧ Cond.instantiable q.1.cls q.2 ∈ tables_1 ∧ Cond.privateMethod q.1 ∈ tables_1 ∧ Cond.instanceMethod q.1 ∈ tables_1
theorem lw_p0 : lw_okq (⟨"RoundVotes", "isNode", "(I)Z"⟩, 12) := ⟨⟨by decide +kernel, by decide +kernel⟩, List.mem_of_getElem? (i := 16) (by decide +kernel), List.mem_of_getElem? (i := 370) (by decide +kernel), List.mem_of_getElem? (i := 371) (by decide +kernel)⟩
theorem lw_p1 : lw_okq (⟨"RoundVotes", "greatestHeight", "()I"⟩, 12) := ⟨⟨by decide +kernel, by decide +kernel⟩, List.mem_of_getElem? (i := 16) (by decide +kernel), List.mem_of_getElem? (i := 375) (by decide +kernel), List.mem_of_getElem? (i := 376) (by decide +kernel)⟩
theorem lw_p2 : lw_okq (⟨"RoundVotes", "beginAll", "()V"⟩, 12) := ⟨⟨by decide +kernel, by decide +kernel⟩, List.mem_of_getElem? (i := 16) (by decide +kernel), List.mem_of_getElem? (i := 416) (by decide +kernel), List.mem_of_getElem? (i := 417) (by decide +kernel)⟩
theorem lw_p3 : lw_okq (⟨"RoundVotes$Node", "standsStill", "()Z"⟩, 18) := ⟨⟨by decide +kernel, by decide +kernel⟩, List.mem_of_getElem? (i := 118) (by decide +kernel), List.mem_of_getElem? (i := 424) (by decide +kernel), List.mem_of_getElem? (i := 425) (by decide +kernel)⟩
theorem lw_p4 : lw_okq (⟨"RoundVotes$Node", "send", "(III)V"⟩, 18) := ⟨⟨by decide +kernel, by decide +kernel⟩, List.mem_of_getElem? (i := 118) (by decide +kernel), List.mem_of_getElem? (i := 443) (by decide +kernel), List.mem_of_getElem? (i := 444) (by decide +kernel)⟩
theorem lw_p5 : lw_okq (⟨"RoundVotes", "settle", "(LRoundVotes$Node;)V"⟩, 12) := ⟨⟨by decide +kernel, by decide +kernel⟩, List.mem_of_getElem? (i := 16) (by decide +kernel), List.mem_of_getElem? (i := 463) (by decide +kernel), List.mem_of_getElem? (i := 464) (by decide +kernel)⟩
theorem lw_p6 : lw_okq (⟨"RoundVotes", "dispatch", "(LRoundVotes$Node;)V"⟩, 12) := ⟨⟨by decide +kernel, by decide +kernel⟩, List.mem_of_getElem? (i := 16) (by decide +kernel), List.mem_of_getElem? (i := 467) (by decide +kernel), List.mem_of_getElem? (i := 468) (by decide +kernel)⟩
theorem lw_p7 : lw_okq (⟨"RoundVotes", "sendCopy", "(LRoundVotes$Message;)V"⟩, 12) := ⟨⟨by decide +kernel, by decide +kernel⟩, List.mem_of_getElem? (i := 16) (by decide +kernel), List.mem_of_getElem? (i := 489) (by decide +kernel), List.mem_of_getElem? (i := 490) (by decide +kernel)⟩
theorem lw_p8 : lw_okq (⟨"RoundVotes", "areOnUnlikeSides", "(II)Z"⟩, 12) := ⟨⟨by decide +kernel, by decide +kernel⟩, List.mem_of_getElem? (i := 16) (by decide +kernel), List.mem_of_getElem? (i := 497) (by decide +kernel), List.mem_of_getElem? (i := 498) (by decide +kernel)⟩
theorem lw_p9 : lw_okq (⟨"RoundVotes$Node", "roundToDecide", "()I"⟩, 18) := ⟨⟨by decide +kernel, by decide +kernel⟩, List.mem_of_getElem? (i := 118) (by decide +kernel), List.mem_of_getElem? (i := 514) (by decide +kernel), List.mem_of_getElem? (i := 515) (by decide +kernel)⟩
theorem lw_p10 : lw_okq (⟨"RoundVotes$Node", "proposalOf", "(I)I"⟩, 18) := ⟨⟨by decide +kernel, by decide +kernel⟩, List.mem_of_getElem? (i := 118) (by decide +kernel), List.mem_of_getElem? (i := 518) (by decide +kernel), List.mem_of_getElem? (i := 519) (by decide +kernel)⟩
theorem lw_p11 : lw_okq (⟨"RoundVotes$Node", "areMany", "(I)Z"⟩, 18) := ⟨⟨by decide +kernel, by decide +kernel⟩, List.mem_of_getElem? (i := 118) (by decide +kernel), List.mem_of_getElem? (i := 527) (by decide +kernel), List.mem_of_getElem? (i := 528) (by decide +kernel)⟩
theorem lw_p12 : lw_okq (⟨"RoundVotes$Node", "decide", "(I)V"⟩, 18) := ⟨⟨by decide +kernel, by decide +kernel⟩, List.mem_of_getElem? (i := 118) (by decide +kernel), List.mem_of_getElem? (i := 535) (by decide +kernel), List.mem_of_getElem? (i := 536) (by decide +kernel)⟩
theorem lw_p13 : lw_okq (⟨"RoundVotes$Node", "goToNextHeight", "()V"⟩, 18) := ⟨⟨by decide +kernel, by decide +kernel⟩, List.mem_of_getElem? (i := 118) (by decide +kernel), List.mem_of_getElem? (i := 543) (by decide +kernel), List.mem_of_getElem? (i := 544) (by decide +kernel)⟩
theorem lw_p14 : lw_okq (⟨"RoundVotes$Node", "roundToJoin", "()I"⟩, 18) := ⟨⟨by decide +kernel, by decide +kernel⟩, List.mem_of_getElem? (i := 118) (by decide +kernel), List.mem_of_getElem? (i := 556) (by decide +kernel), List.mem_of_getElem? (i := 557) (by decide +kernel)⟩
theorem lw_p15 : lw_okq (⟨"RoundVotes$Node", "areSome", "(I)Z"⟩, 18) := ⟨⟨by decide +kernel, by decide +kernel⟩, List.mem_of_getElem? (i := 118) (by decide +kernel), List.mem_of_getElem? (i := 565) (by decide +kernel), List.mem_of_getElem? (i := 566) (by decide +kernel)⟩
def lw_privs_1 : List (MethodName × Nat) := [(⟨"RoundVotes", "isNode", "(I)Z"⟩, 12), (⟨"RoundVotes", "greatestHeight", "()I"⟩, 12), (⟨"RoundVotes", "beginAll", "()V"⟩, 12), (⟨"RoundVotes$Node", "standsStill", "()Z"⟩, 18), (⟨"RoundVotes$Node", "send", "(III)V"⟩, 18), (⟨"RoundVotes", "settle", "(LRoundVotes$Node;)V"⟩, 12), (⟨"RoundVotes", "dispatch", "(LRoundVotes$Node;)V"⟩, 12), (⟨"RoundVotes", "sendCopy", "(LRoundVotes$Message;)V"⟩, 12), (⟨"RoundVotes", "areOnUnlikeSides", "(II)Z"⟩, 12), (⟨"RoundVotes$Node", "roundToDecide", "()I"⟩, 18), (⟨"RoundVotes$Node", "proposalOf", "(I)I"⟩, 18), (⟨"RoundVotes$Node", "areMany", "(I)Z"⟩, 18), (⟨"RoundVotes$Node", "decide", "(I)V"⟩, 18), (⟨"RoundVotes$Node", "goToNextHeight", "()V"⟩, 18), (⟨"RoundVotes$Node", "roundToJoin", "()I"⟩, 18), (⟨"RoundVotes$Node", "areSome", "(I)Z"⟩, 18)]
theorem lw_r1 : ∀ q ∈ lw_privs_1, lw_okq q := List.forall_mem_cons.mpr ⟨lw_p0, List.forall_mem_cons.mpr ⟨lw_p1, List.forall_mem_cons.mpr ⟨lw_p2, List.forall_mem_cons.mpr ⟨lw_p3, List.forall_mem_cons.mpr ⟨lw_p4, List.forall_mem_cons.mpr ⟨lw_p5, List.forall_mem_cons.mpr ⟨lw_p6, List.forall_mem_cons.mpr ⟨lw_p7, List.forall_mem_cons.mpr ⟨lw_p8, List.forall_mem_cons.mpr ⟨lw_p9, List.forall_mem_cons.mpr ⟨lw_p10, List.forall_mem_cons.mpr ⟨lw_p11, List.forall_mem_cons.mpr ⟨lw_p12, List.forall_mem_cons.mpr ⟨lw_p13, List.forall_mem_cons.mpr ⟨lw_p14, List.forall_mem_cons.mpr ⟨lw_p15, fun _ h => absurd h List.not_mem_nil⟩⟩⟩⟩⟩⟩⟩⟩⟩⟩⟩⟩⟩⟩⟩⟩
theorem lw_p16 : lw_okq (⟨"RoundVotes$Node", "answersProposal", "()Z"⟩, 18) := ⟨⟨by decide +kernel, by decide +kernel⟩, List.mem_of_getElem? (i := 118) (by decide +kernel), List.mem_of_getElem? (i := 569) (by decide +kernel), List.mem_of_getElem? (i := 570) (by decide +kernel)⟩
theorem lw_p17 : lw_okq (⟨"RoundVotes$Node", "lockAllows", "(II)Z"⟩, 18) := ⟨⟨by decide +kernel, by decide +kernel⟩, List.mem_of_getElem? (i := 118) (by decide +kernel), List.mem_of_getElem? (i := 573) (by decide +kernel), List.mem_of_getElem? (i := 574) (by decide +kernel)⟩
theorem lw_p18 : lw_okq (⟨"RoundVotes$Node", "locks", "()Z"⟩, 18) := ⟨⟨by decide +kernel, by decide +kernel⟩, List.mem_of_getElem? (i := 118) (by decide +kernel), List.mem_of_getElem? (i := 577) (by decide +kernel), List.mem_of_getElem? (i := 578) (by decide +kernel)⟩
theorem lw_p19 : lw_okq (⟨"RoundVotes$Node", "givesUpValue", "()Z"⟩, 18) := ⟨⟨by decide +kernel, by decide +kernel⟩, List.mem_of_getElem? (i := 118) (by decide +kernel), List.mem_of_getElem? (i := 581) (by decide +kernel), List.mem_of_getElem? (i := 582) (by decide +kernel)⟩
theorem lw_p20 : lw_okq (⟨"RoundVotes$Node", "waitsForPrevotes", "(I)Z"⟩, 18) := ⟨⟨by decide +kernel, by decide +kernel⟩, List.mem_of_getElem? (i := 118) (by decide +kernel), List.mem_of_getElem? (i := 585) (by decide +kernel), List.mem_of_getElem? (i := 586) (by decide +kernel)⟩
theorem lw_p21 : lw_okq (⟨"RoundVotes$Node", "waitsForPrecommits", "(I)Z"⟩, 18) := ⟨⟨by decide +kernel, by decide +kernel⟩, List.mem_of_getElem? (i := 118) (by decide +kernel), List.mem_of_getElem? (i := 589) (by decide +kernel), List.mem_of_getElem? (i := 590) (by decide +kernel)⟩
theorem lw_p22 : lw_okq (⟨"RoundVotes", "bringNodesBack", "()V"⟩, 12) := ⟨⟨by decide +kernel, by decide +kernel⟩, List.mem_of_getElem? (i := 16) (by decide +kernel), List.mem_of_getElem? (i := 593) (by decide +kernel), List.mem_of_getElem? (i := 594) (by decide +kernel)⟩
theorem lw_p23 : lw_okq (⟨"RoundVotes", "bringCopies", "()V"⟩, 12) := ⟨⟨by decide +kernel, by decide +kernel⟩, List.mem_of_getElem? (i := 16) (by decide +kernel), List.mem_of_getElem? (i := 601) (by decide +kernel), List.mem_of_getElem? (i := 602) (by decide +kernel)⟩
theorem lw_p24 : lw_okq (⟨"RoundVotes", "handOver", "(LRoundVotes$Message;)V"⟩, 12) := ⟨⟨by decide +kernel, by decide +kernel⟩, List.mem_of_getElem? (i := 16) (by decide +kernel), List.mem_of_getElem? (i := 605) (by decide +kernel), List.mem_of_getElem? (i := 606) (by decide +kernel)⟩
theorem lw_p25 : lw_okq (⟨"RoundVotes$Faults", "isKnown", "(LRoundVotes$Message;)Z"⟩, 2) := ⟨⟨by decide +kernel, by decide +kernel⟩, List.mem_of_getElem? (i := 68) (by decide +kernel), List.mem_of_getElem? (i := 617) (by decide +kernel), List.mem_of_getElem? (i := 618) (by decide +kernel)⟩
theorem lw_p26 : lw_okq (⟨"RoundVotes", "endTimers", "()V"⟩, 12) := ⟨⟨by decide +kernel, by decide +kernel⟩, List.mem_of_getElem? (i := 16) (by decide +kernel), List.mem_of_getElem? (i := 629) (by decide +kernel), List.mem_of_getElem? (i := 630) (by decide +kernel)⟩
theorem lw_p27 : lw_okq (⟨"RoundVotes", "tellerOf", "(II)I"⟩, 12) := ⟨⟨by decide +kernel, by decide +kernel⟩, List.mem_of_getElem? (i := 16) (by decide +kernel), List.mem_of_getElem? (i := 641) (by decide +kernel), List.mem_of_getElem? (i := 642) (by decide +kernel)⟩
theorem lw_p28 : lw_okq (⟨"RoundVotes", "greatestDecided", "()I"⟩, 12) := ⟨⟨by decide +kernel, by decide +kernel⟩, List.mem_of_getElem? (i := 16) (by decide +kernel), List.mem_of_getElem? (i := 689) (by decide +kernel), List.mem_of_getElem? (i := 690) (by decide +kernel)⟩
theorem lw_p29 : lw_okq (⟨"RoundVotesModel", "clearHeight", "(II)V"⟩, 53) := ⟨⟨by decide +kernel, by decide +kernel⟩, List.mem_of_getElem? (i := 700) (by decide +kernel), List.mem_of_getElem? (i := 707) (by decide +kernel), List.mem_of_getElem? (i := 708) (by decide +kernel)⟩
theorem lw_p30 : lw_okq (⟨"RoundVotesModel", "place", "(IIIII)I"⟩, 53) := ⟨⟨by decide +kernel, by decide +kernel⟩, List.mem_of_getElem? (i := 700) (by decide +kernel), List.mem_of_getElem? (i := 711) (by decide +kernel), List.mem_of_getElem? (i := 712) (by decide +kernel)⟩
theorem lw_p31 : lw_okq (⟨"RoundVotesModel", "roundPlace", "(IIII)I"⟩, 53) := ⟨⟨by decide +kernel, by decide +kernel⟩, List.mem_of_getElem? (i := 700) (by decide +kernel), List.mem_of_getElem? (i := 715) (by decide +kernel), List.mem_of_getElem? (i := 716) (by decide +kernel)⟩
def lw_privs_2 : List (MethodName × Nat) := [(⟨"RoundVotes$Node", "answersProposal", "()Z"⟩, 18), (⟨"RoundVotes$Node", "lockAllows", "(II)Z"⟩, 18), (⟨"RoundVotes$Node", "locks", "()Z"⟩, 18), (⟨"RoundVotes$Node", "givesUpValue", "()Z"⟩, 18), (⟨"RoundVotes$Node", "waitsForPrevotes", "(I)Z"⟩, 18), (⟨"RoundVotes$Node", "waitsForPrecommits", "(I)Z"⟩, 18), (⟨"RoundVotes", "bringNodesBack", "()V"⟩, 12), (⟨"RoundVotes", "bringCopies", "()V"⟩, 12), (⟨"RoundVotes", "handOver", "(LRoundVotes$Message;)V"⟩, 12), (⟨"RoundVotes$Faults", "isKnown", "(LRoundVotes$Message;)Z"⟩, 2), (⟨"RoundVotes", "endTimers", "()V"⟩, 12), (⟨"RoundVotes", "tellerOf", "(II)I"⟩, 12), (⟨"RoundVotes", "greatestDecided", "()I"⟩, 12), (⟨"RoundVotesModel", "clearHeight", "(II)V"⟩, 53), (⟨"RoundVotesModel", "place", "(IIIII)I"⟩, 53), (⟨"RoundVotesModel", "roundPlace", "(IIII)I"⟩, 53)]
theorem lw_r2 : ∀ q ∈ lw_privs_2, lw_okq q := List.forall_mem_cons.mpr ⟨lw_p16, List.forall_mem_cons.mpr ⟨lw_p17, List.forall_mem_cons.mpr ⟨lw_p18, List.forall_mem_cons.mpr ⟨lw_p19, List.forall_mem_cons.mpr ⟨lw_p20, List.forall_mem_cons.mpr ⟨lw_p21, List.forall_mem_cons.mpr ⟨lw_p22, List.forall_mem_cons.mpr ⟨lw_p23, List.forall_mem_cons.mpr ⟨lw_p24, List.forall_mem_cons.mpr ⟨lw_p25, List.forall_mem_cons.mpr ⟨lw_p26, List.forall_mem_cons.mpr ⟨lw_p27, List.forall_mem_cons.mpr ⟨lw_p28, List.forall_mem_cons.mpr ⟨lw_p29, List.forall_mem_cons.mpr ⟨lw_p30, List.forall_mem_cons.mpr ⟨lw_p31, fun _ h => absurd h List.not_mem_nil⟩⟩⟩⟩⟩⟩⟩⟩⟩⟩⟩⟩⟩⟩⟩⟩
theorem lw_p32 : lw_okq (⟨"RoundVotesModel", "clearSigned", "(I)V"⟩, 53) := ⟨⟨by decide +kernel, by decide +kernel⟩, List.mem_of_getElem? (i := 700) (by decide +kernel), List.mem_of_getElem? (i := 719) (by decide +kernel), List.mem_of_getElem? (i := 720) (by decide +kernel)⟩
theorem lw_p33 : lw_okq (⟨"RoundVotesModel", "oneTurn", "()V"⟩, 53) := ⟨⟨by decide +kernel, by decide +kernel⟩, List.mem_of_getElem? (i := 700) (by decide +kernel), List.mem_of_getElem? (i := 892) (by decide +kernel), List.mem_of_getElem? (i := 893) (by decide +kernel)⟩
theorem lw_p34 : lw_okq (⟨"RoundVotesModel", "begin", "(II)V"⟩, 53) := ⟨⟨by decide +kernel, by decide +kernel⟩, List.mem_of_getElem? (i := 700) (by decide +kernel), List.mem_of_getElem? (i := 896) (by decide +kernel), List.mem_of_getElem? (i := 897) (by decide +kernel)⟩
theorem lw_p35 : lw_okq (⟨"RoundVotesModel", "proposer", "(II)I"⟩, 53) := ⟨⟨by decide +kernel, by decide +kernel⟩, List.mem_of_getElem? (i := 700) (by decide +kernel), List.mem_of_getElem? (i := 900) (by decide +kernel), List.mem_of_getElem? (i := 901) (by decide +kernel)⟩
theorem lw_p36 : lw_okq (⟨"RoundVotesModel", "send", "(IIII)V"⟩, 53) := ⟨⟨by decide +kernel, by decide +kernel⟩, List.mem_of_getElem? (i := 700) (by decide +kernel), List.mem_of_getElem? (i := 904) (by decide +kernel), List.mem_of_getElem? (i := 905) (by decide +kernel)⟩
theorem lw_p37 : lw_okq (⟨"RoundVotesModel", "keep", "(IIIIIIIZ)V"⟩, 53) := ⟨⟨by decide +kernel, by decide +kernel⟩, List.mem_of_getElem? (i := 700) (by decide +kernel), List.mem_of_getElem? (i := 908) (by decide +kernel), List.mem_of_getElem? (i := 909) (by decide +kernel)⟩
theorem lw_p38 : lw_okq (⟨"RoundVotesModel", "accuse", "(IIIII)V"⟩, 53) := ⟨⟨by decide +kernel, by decide +kernel⟩, List.mem_of_getElem? (i := 700) (by decide +kernel), List.mem_of_getElem? (i := 912) (by decide +kernel), List.mem_of_getElem? (i := 913) (by decide +kernel)⟩
theorem lw_p39 : lw_okq (⟨"RoundVotesModel", "copy", "(IIIIIII)V"⟩, 53) := ⟨⟨by decide +kernel, by decide +kernel⟩, List.mem_of_getElem? (i := 700) (by decide +kernel), List.mem_of_getElem? (i := 919) (by decide +kernel), List.mem_of_getElem? (i := 920) (by decide +kernel)⟩
theorem lw_p40 : lw_okq (⟨"RoundVotesModel", "noteSent", "(IIIII)V"⟩, 53) := ⟨⟨by decide +kernel, by decide +kernel⟩, List.mem_of_getElem? (i := 700) (by decide +kernel), List.mem_of_getElem? (i := 923) (by decide +kernel), List.mem_of_getElem? (i := 924) (by decide +kernel)⟩
theorem lw_p41 : lw_okq (⟨"RoundVotesModel", "sentPlace", "(IIII)I"⟩, 53) := ⟨⟨by decide +kernel, by decide +kernel⟩, List.mem_of_getElem? (i := 700) (by decide +kernel), List.mem_of_getElem? (i := 927) (by decide +kernel), List.mem_of_getElem? (i := 928) (by decide +kernel)⟩
theorem lw_p42 : lw_okq (⟨"RoundVotesModel", "areApart", "(II)Z"⟩, 53) := ⟨⟨by decide +kernel, by decide +kernel⟩, List.mem_of_getElem? (i := 700) (by decide +kernel), List.mem_of_getElem? (i := 931) (by decide +kernel), List.mem_of_getElem? (i := 932) (by decide +kernel)⟩
theorem lw_p43 : lw_okq (⟨"RoundVotesModel", "put", "(IIIIIIIIZ)V"⟩, 53) := ⟨⟨by decide +kernel, by decide +kernel⟩, List.mem_of_getElem? (i := 700) (by decide +kernel), List.mem_of_getElem? (i := 935) (by decide +kernel), List.mem_of_getElem? (i := 936) (by decide +kernel)⟩
theorem lw_p44 : lw_okq (⟨"RoundVotesModel", "ownValue", "(III)I"⟩, 53) := ⟨⟨by decide +kernel, by decide +kernel⟩, List.mem_of_getElem? (i := 700) (by decide +kernel), List.mem_of_getElem? (i := 939) (by decide +kernel), List.mem_of_getElem? (i := 940) (by decide +kernel)⟩
theorem lw_p45 : lw_okq (⟨"RoundVotesModel", "rules", "(I)V"⟩, 53) := ⟨⟨by decide +kernel, by decide +kernel⟩, List.mem_of_getElem? (i := 700) (by decide +kernel), List.mem_of_getElem? (i := 946) (by decide +kernel), List.mem_of_getElem? (i := 947) (by decide +kernel)⟩
theorem lw_p46 : lw_okq (⟨"RoundVotesModel", "ruleA", "(I)Z"⟩, 53) := ⟨⟨by decide +kernel, by decide +kernel⟩, List.mem_of_getElem? (i := 700) (by decide +kernel), List.mem_of_getElem? (i := 950) (by decide +kernel), List.mem_of_getElem? (i := 951) (by decide +kernel)⟩
theorem lw_p47 : lw_okq (⟨"RoundVotesModel", "proposal", "(II)I"⟩, 53) := ⟨⟨by decide +kernel, by decide +kernel⟩, List.mem_of_getElem? (i := 700) (by decide +kernel), List.mem_of_getElem? (i := 954) (by decide +kernel), List.mem_of_getElem? (i := 955) (by decide +kernel)⟩
def lw_privs_3 : List (MethodName × Nat) := [(⟨"RoundVotesModel", "clearSigned", "(I)V"⟩, 53), (⟨"RoundVotesModel", "oneTurn", "()V"⟩, 53), (⟨"RoundVotesModel", "begin", "(II)V"⟩, 53), (⟨"RoundVotesModel", "proposer", "(II)I"⟩, 53), (⟨"RoundVotesModel", "send", "(IIII)V"⟩, 53), (⟨"RoundVotesModel", "keep", "(IIIIIIIZ)V"⟩, 53), (⟨"RoundVotesModel", "accuse", "(IIIII)V"⟩, 53), (⟨"RoundVotesModel", "copy", "(IIIIIII)V"⟩, 53), (⟨"RoundVotesModel", "noteSent", "(IIIII)V"⟩, 53), (⟨"RoundVotesModel", "sentPlace", "(IIII)I"⟩, 53), (⟨"RoundVotesModel", "areApart", "(II)Z"⟩, 53), (⟨"RoundVotesModel", "put", "(IIIIIIIIZ)V"⟩, 53), (⟨"RoundVotesModel", "ownValue", "(III)I"⟩, 53), (⟨"RoundVotesModel", "rules", "(I)V"⟩, 53), (⟨"RoundVotesModel", "ruleA", "(I)Z"⟩, 53), (⟨"RoundVotesModel", "proposal", "(II)I"⟩, 53)]
theorem lw_r3 : ∀ q ∈ lw_privs_3, lw_okq q := List.forall_mem_cons.mpr ⟨lw_p32, List.forall_mem_cons.mpr ⟨lw_p33, List.forall_mem_cons.mpr ⟨lw_p34, List.forall_mem_cons.mpr ⟨lw_p35, List.forall_mem_cons.mpr ⟨lw_p36, List.forall_mem_cons.mpr ⟨lw_p37, List.forall_mem_cons.mpr ⟨lw_p38, List.forall_mem_cons.mpr ⟨lw_p39, List.forall_mem_cons.mpr ⟨lw_p40, List.forall_mem_cons.mpr ⟨lw_p41, List.forall_mem_cons.mpr ⟨lw_p42, List.forall_mem_cons.mpr ⟨lw_p43, List.forall_mem_cons.mpr ⟨lw_p44, List.forall_mem_cons.mpr ⟨lw_p45, List.forall_mem_cons.mpr ⟨lw_p46, List.forall_mem_cons.mpr ⟨lw_p47, fun _ h => absurd h List.not_mem_nil⟩⟩⟩⟩⟩⟩⟩⟩⟩⟩⟩⟩⟩⟩⟩⟩
theorem lw_p48 : lw_okq (⟨"RoundVotesModel", "hasOf", "(IIII)I"⟩, 53) := ⟨⟨by decide +kernel, by decide +kernel⟩, List.mem_of_getElem? (i := 700) (by decide +kernel), List.mem_of_getElem? (i := 958) (by decide +kernel), List.mem_of_getElem? (i := 959) (by decide +kernel)⟩
theorem lw_p49 : lw_okq (⟨"RoundVotesModel", "votes", "(IIII)J"⟩, 53) := ⟨⟨by decide +kernel, by decide +kernel⟩, List.mem_of_getElem? (i := 700) (by decide +kernel), List.mem_of_getElem? (i := 962) (by decide +kernel), List.mem_of_getElem? (i := 963) (by decide +kernel)⟩
theorem lw_p50 : lw_okq (⟨"RoundVotesModel", "isMany", "(JI)Z"⟩, 53) := ⟨⟨by decide +kernel, by decide +kernel⟩, List.mem_of_getElem? (i := 700) (by decide +kernel), List.mem_of_getElem? (i := 966) (by decide +kernel), List.mem_of_getElem? (i := 967) (by decide +kernel)⟩
theorem lw_p51 : lw_okq (⟨"RoundVotesModel", "all", "(I)J"⟩, 53) := ⟨⟨by decide +kernel, by decide +kernel⟩, List.mem_of_getElem? (i := 700) (by decide +kernel), List.mem_of_getElem? (i := 972) (by decide +kernel), List.mem_of_getElem? (i := 973) (by decide +kernel)⟩
theorem lw_p52 : lw_okq (⟨"RoundVotesModel", "nextHeight", "(I)V"⟩, 53) := ⟨⟨by decide +kernel, by decide +kernel⟩, List.mem_of_getElem? (i := 700) (by decide +kernel), List.mem_of_getElem? (i := 976) (by decide +kernel), List.mem_of_getElem? (i := 977) (by decide +kernel)⟩
theorem lw_p53 : lw_okq (⟨"RoundVotesModel", "ruleB", "(I)Z"⟩, 53) := ⟨⟨by decide +kernel, by decide +kernel⟩, List.mem_of_getElem? (i := 700) (by decide +kernel), List.mem_of_getElem? (i := 980) (by decide +kernel), List.mem_of_getElem? (i := 981) (by decide +kernel)⟩
theorem lw_p54 : lw_okq (⟨"RoundVotesModel", "ruleC", "(I)Z"⟩, 53) := ⟨⟨by decide +kernel, by decide +kernel⟩, List.mem_of_getElem? (i := 700) (by decide +kernel), List.mem_of_getElem? (i := 984) (by decide +kernel), List.mem_of_getElem? (i := 985) (by decide +kernel)⟩
theorem lw_p55 : lw_okq (⟨"RoundVotesModel", "proposalSince", "(II)I"⟩, 53) := ⟨⟨by decide +kernel, by decide +kernel⟩, List.mem_of_getElem? (i := 700) (by decide +kernel), List.mem_of_getElem? (i := 988) (by decide +kernel), List.mem_of_getElem? (i := 989) (by decide +kernel)⟩
theorem lw_p56 : lw_okq (⟨"RoundVotesModel", "ruleD", "(I)Z"⟩, 53) := ⟨⟨by decide +kernel, by decide +kernel⟩, List.mem_of_getElem? (i := 700) (by decide +kernel), List.mem_of_getElem? (i := 992) (by decide +kernel), List.mem_of_getElem? (i := 993) (by decide +kernel)⟩
theorem lw_p57 : lw_okq (⟨"RoundVotesModel", "ruleE", "(I)Z"⟩, 53) := ⟨⟨by decide +kernel, by decide +kernel⟩, List.mem_of_getElem? (i := 700) (by decide +kernel), List.mem_of_getElem? (i := 996) (by decide +kernel), List.mem_of_getElem? (i := 997) (by decide +kernel)⟩
theorem lw_p58 : lw_okq (⟨"RoundVotesModel", "ruleF", "(I)Z"⟩, 53) := ⟨⟨by decide +kernel, by decide +kernel⟩, List.mem_of_getElem? (i := 700) (by decide +kernel), List.mem_of_getElem? (i := 1000) (by decide +kernel), List.mem_of_getElem? (i := 1001) (by decide +kernel)⟩
theorem lw_p59 : lw_okq (⟨"RoundVotesModel", "ruleG", "(I)Z"⟩, 53) := ⟨⟨by decide +kernel, by decide +kernel⟩, List.mem_of_getElem? (i := 700) (by decide +kernel), List.mem_of_getElem? (i := 1004) (by decide +kernel), List.mem_of_getElem? (i := 1005) (by decide +kernel)⟩
theorem lw_p60 : lw_okq (⟨"RoundVotesModel", "comeBack", "(I)V"⟩, 53) := ⟨⟨by decide +kernel, by decide +kernel⟩, List.mem_of_getElem? (i := 700) (by decide +kernel), List.mem_of_getElem? (i := 1008) (by decide +kernel), List.mem_of_getElem? (i := 1009) (by decide +kernel)⟩
theorem lw_p61 : lw_okq (⟨"RoundVotesModel", "deliver", "(ZI)V"⟩, 53) := ⟨⟨by decide +kernel, by decide +kernel⟩, List.mem_of_getElem? (i := 700) (by decide +kernel), List.mem_of_getElem? (i := 1012) (by decide +kernel), List.mem_of_getElem? (i := 1013) (by decide +kernel)⟩
theorem lw_p62 : lw_okq (⟨"RoundVotesModel", "timerEnds", "(II)V"⟩, 53) := ⟨⟨by decide +kernel, by decide +kernel⟩, List.mem_of_getElem? (i := 700) (by decide +kernel), List.mem_of_getElem? (i := 1016) (by decide +kernel), List.mem_of_getElem? (i := 1017) (by decide +kernel)⟩
theorem lw_p63 : lw_okq (⟨"RoundVotesModel", "tidy", "()V"⟩, 53) := ⟨⟨by decide +kernel, by decide +kernel⟩, List.mem_of_getElem? (i := 700) (by decide +kernel), List.mem_of_getElem? (i := 1020) (by decide +kernel), List.mem_of_getElem? (i := 1021) (by decide +kernel)⟩
def lw_privs_4 : List (MethodName × Nat) := [(⟨"RoundVotesModel", "hasOf", "(IIII)I"⟩, 53), (⟨"RoundVotesModel", "votes", "(IIII)J"⟩, 53), (⟨"RoundVotesModel", "isMany", "(JI)Z"⟩, 53), (⟨"RoundVotesModel", "all", "(I)J"⟩, 53), (⟨"RoundVotesModel", "nextHeight", "(I)V"⟩, 53), (⟨"RoundVotesModel", "ruleB", "(I)Z"⟩, 53), (⟨"RoundVotesModel", "ruleC", "(I)Z"⟩, 53), (⟨"RoundVotesModel", "proposalSince", "(II)I"⟩, 53), (⟨"RoundVotesModel", "ruleD", "(I)Z"⟩, 53), (⟨"RoundVotesModel", "ruleE", "(I)Z"⟩, 53), (⟨"RoundVotesModel", "ruleF", "(I)Z"⟩, 53), (⟨"RoundVotesModel", "ruleG", "(I)Z"⟩, 53), (⟨"RoundVotesModel", "comeBack", "(I)V"⟩, 53), (⟨"RoundVotesModel", "deliver", "(ZI)V"⟩, 53), (⟨"RoundVotesModel", "timerEnds", "(II)V"⟩, 53), (⟨"RoundVotesModel", "tidy", "()V"⟩, 53)]
theorem lw_r4 : ∀ q ∈ lw_privs_4, lw_okq q := List.forall_mem_cons.mpr ⟨lw_p48, List.forall_mem_cons.mpr ⟨lw_p49, List.forall_mem_cons.mpr ⟨lw_p50, List.forall_mem_cons.mpr ⟨lw_p51, List.forall_mem_cons.mpr ⟨lw_p52, List.forall_mem_cons.mpr ⟨lw_p53, List.forall_mem_cons.mpr ⟨lw_p54, List.forall_mem_cons.mpr ⟨lw_p55, List.forall_mem_cons.mpr ⟨lw_p56, List.forall_mem_cons.mpr ⟨lw_p57, List.forall_mem_cons.mpr ⟨lw_p58, List.forall_mem_cons.mpr ⟨lw_p59, List.forall_mem_cons.mpr ⟨lw_p60, List.forall_mem_cons.mpr ⟨lw_p61, List.forall_mem_cons.mpr ⟨lw_p62, List.forall_mem_cons.mpr ⟨lw_p63, fun _ h => absurd h List.not_mem_nil⟩⟩⟩⟩⟩⟩⟩⟩⟩⟩⟩⟩⟩⟩⟩⟩
theorem lw_p64 : lw_okq (⟨"RoundVotesModel", "noNode", "(I)Z"⟩, 53) := ⟨⟨by decide +kernel, by decide +kernel⟩, List.mem_of_getElem? (i := 700) (by decide +kernel), List.mem_of_getElem? (i := 1028) (by decide +kernel), List.mem_of_getElem? (i := 1029) (by decide +kernel)⟩
def lw_privs_5 : List (MethodName × Nat) := [(⟨"RoundVotesModel", "noNode", "(I)Z"⟩, 53)]
theorem lw_r5 : ∀ q ∈ lw_privs_5, lw_okq q := List.forall_mem_cons.mpr ⟨lw_p64, fun _ h => absurd h List.not_mem_nil⟩
def lw_privs : List (MethodName × Nat) := lw_privs_1 ++ (lw_privs_2 ++ (lw_privs_3 ++ (lw_privs_4 ++ (lw_privs_5))))
def lw_tbl : List Cond := k2_sels lw_privs ++ tables_1
theorem lw_privs_ok : ∀ q ∈ lw_privs, lw_okq q := by
  show ∀ q ∈ lw_privs_1 ++ (lw_privs_2 ++ (lw_privs_3 ++ (lw_privs_4 ++ (lw_privs_5)))), lw_okq q
  exact List.forall_mem_append.mpr ⟨lw_r1, List.forall_mem_append.mpr ⟨lw_r2, List.forall_mem_append.mpr ⟨lw_r3, List.forall_mem_append.mpr ⟨lw_r4, lw_r5⟩⟩⟩⟩
def RX0 : String := "RoundVotes$Ballots"
def TX0 : u_T := fun k => match k with
  | 0 => ("RoundVotes$Ballots", "senders", "I", true)
  | 1 => ("RoundVotes$Ballots", "values", "[I", true)
  | 2 => ("RoundVotes$Ballots", "sinces", "[I", true)
  | _ => ("RoundVotes$Ballots", "topRound", "I", false)
def tyX0 : Nat → FieldType := fun k => match k with
  | 0 => .int
  | 1 => .array .int
  | 2 => .array .int
  | _ => .int
abbrev wsX00 : List Cond := u_ws RX0 TX0 4
theorem nmX0 : ∀ a, a < 4 → ∀ b, b < 4 → a ≠ b → (TX0 a).2.1 ≠ (TX0 b).2.1 := by decide +kernel
theorem tyX0_ok : ∀ k, k < 4 → parseFieldDescriptor (TX0 k).2.2.1 = some (tyX0 k) := by decide +kernel
abbrev cX0_init : ByteArray := prog_2_method_1_code
def yX0_init : MethodName := ⟨RX0, "<init>", "(I)V"⟩
abbrev cX0_valueOf : ByteArray := prog_2_method_2_code
def yX0_valueOf : MethodName := ⟨RX0, "valueOf", "(III)I"⟩
abbrev cX0_sinceOf : ByteArray := prog_2_method_3_code
def yX0_sinceOf : MethodName := ⟨RX0, "sinceOf", "(I)I"⟩
abbrev cX0_holds : ByteArray := prog_2_method_4_code
def yX0_holds : MethodName := ⟨RX0, "holds", "(III)Z"⟩
abbrev cX0_put : ByteArray := prog_2_method_5_code
def yX0_put : MethodName := ⟨RX0, "put", "(IIIII)V"⟩
abbrev cX0_votersFor : ByteArray := prog_2_method_6_code
def yX0_votersFor : MethodName := ⟨RX0, "votersFor", "(III)I"⟩
abbrev cX0_voters : ByteArray := prog_2_method_7_code
def yX0_voters : MethodName := ⟨RX0, "voters", "(II)I"⟩
abbrev cX0_clear : ByteArray := prog_2_method_8_code
def yX0_clear : MethodName := ⟨RX0, "clear", "()V"⟩
def RX1 : String := "RoundVotes$Choice"
def TX1 : u_T := fun k => match k with
  | 0 => ("RoundVotes$Choice", "value", "I", false)
  | _ => ("RoundVotes$Choice", "round", "I", false)
def tyX1 : Nat → FieldType := fun k => match k with
  | 0 => .int
  | _ => .int
abbrev wsX10 : List Cond := u_ws RX1 TX1 2
theorem nmX1 : ∀ a, a < 2 → ∀ b, b < 2 → a ≠ b → (TX1 a).2.1 ≠ (TX1 b).2.1 := by decide +kernel
theorem tyX1_ok : ∀ k, k < 2 → parseFieldDescriptor (TX1 k).2.2.1 = some (tyX1 k) := by decide +kernel
abbrev cX1_init : ByteArray := prog_3_method_1_code
def yX1_init : MethodName := ⟨RX1, "<init>", "()V"⟩
abbrev cX1_choose : ByteArray := prog_3_method_2_code
def yX1_choose : MethodName := ⟨RX1, "choose", "(II)V"⟩
abbrev cX1_isNone : ByteArray := prog_3_method_3_code
def yX1_isNone : MethodName := ⟨RX1, "isNone", "()Z"⟩
def RX2 : String := "RoundVotes$Decisions"
def TX2 : u_T := fun k => match k with
  | 0 => ("RoundVotes$Decisions", "values", "[I", true)
  | 1 => ("RoundVotes$Decisions", "rounds", "[I", true)
  | _ => ("RoundVotes$Decisions", "voters", "[I", true)
def tyX2 : Nat → FieldType := fun k => match k with
  | 0 => .array .int
  | 1 => .array .int
  | _ => .array .int
abbrev wsX20 : List Cond := u_ws RX2 TX2 3
theorem nmX2 : ∀ a, a < 3 → ∀ b, b < 3 → a ≠ b → (TX2 a).2.1 ≠ (TX2 b).2.1 := by decide +kernel
theorem tyX2_ok : ∀ k, k < 3 → parseFieldDescriptor (TX2 k).2.2.1 = some (tyX2 k) := by decide +kernel
abbrev cX2_init : ByteArray := prog_4_method_1_code
def yX2_init : MethodName := ⟨RX2, "<init>", "()V"⟩
abbrev cX2_holds : ByteArray := prog_4_method_2_code
def yX2_holds : MethodName := ⟨RX2, "holds", "(I)Z"⟩
abbrev cX2_put : ByteArray := prog_4_method_3_code
def yX2_put : MethodName := ⟨RX2, "put", "(IIII)V"⟩
def RX3 : String := "RoundVotes$Faults"
def TX3 : u_T := fun k => match k with
  | 0 => ("RoundVotes$Faults", "parts", "[I", true)
  | _ => ("RoundVotes$Faults", "size", "I", false)
def tyX3 : Nat → FieldType := fun k => match k with
  | 0 => .array .int
  | _ => .int
abbrev wsX30 : List Cond := u_ws RX3 TX3 2
theorem nmX3 : ∀ a, a < 2 → ∀ b, b < 2 → a ≠ b → (TX3 a).2.1 ≠ (TX3 b).2.1 := by decide +kernel
theorem tyX3_ok : ∀ k, k < 2 → parseFieldDescriptor (TX3 k).2.2.1 = some (tyX3 k) := by decide +kernel
abbrev cX3_init : ByteArray := prog_5_method_1_code
def yX3_init : MethodName := ⟨RX3, "<init>", "()V"⟩
abbrev cX3_part : ByteArray := prog_5_method_2_code
def yX3_part : MethodName := ⟨RX3, "part", "(II)I"⟩
abbrev cX3_add : ByteArray := prog_5_method_3_code
def yX3_add : MethodName := ⟨RX3, "add", "(LRoundVotes$Message;I)V"⟩
abbrev cX3_isKnown : ByteArray := prog_5_method_4_code
def yX3_isKnown : MethodName := ⟨RX3, "isKnown", "(LRoundVotes$Message;)Z"⟩
def RX4 : String := "RoundVotes$Mail"
def TX4 : u_T := fun k => match k with
  | 0 => ("RoundVotes$Mail", "slots", "[LRoundVotes$Message;", true)
  | 1 => ("RoundVotes$Mail", "size", "I", false)
  | _ => ("RoundVotes$Mail", "underWay", "I", false)
def tyX4 : Nat → FieldType := fun k => match k with
  | 0 => .array (.object "RoundVotes$Message")
  | 1 => .int
  | _ => .int
abbrev wsX40 : List Cond := u_ws RX4 TX4 3
theorem nmX4 : ∀ a, a < 3 → ∀ b, b < 3 → a ≠ b → (TX4 a).2.1 ≠ (TX4 b).2.1 := by decide +kernel
theorem tyX4_ok : ∀ k, k < 3 → parseFieldDescriptor (TX4 k).2.2.1 = some (tyX4 k) := by decide +kernel
abbrev cX4_init : ByteArray := prog_6_method_1_code
def yX4_init : MethodName := ⟨RX4, "<init>", "()V"⟩
abbrev cX4_post : ByteArray := prog_6_method_2_code
def yX4_post : MethodName := ⟨RX4, "post", "(LRoundVotes$Message;IZ)Z"⟩
abbrev cX4_dropUpTo : ByteArray := prog_6_method_3_code
def yX4_dropUpTo : MethodName := ⟨RX4, "dropUpTo", "(I)V"⟩
def RX5 : String := "RoundVotes$Message"
def TX5 : u_T := fun k => match k with
  | 0 => ("RoundVotes$Message", "sender", "I", false)
  | 1 => ("RoundVotes$Message", "receiver", "I", false)
  | 2 => ("RoundVotes$Message", "height", "I", false)
  | 3 => ("RoundVotes$Message", "round", "I", false)
  | 4 => ("RoundVotes$Message", "kind", "I", false)
  | 5 => ("RoundVotes$Message", "value", "I", false)
  | 6 => ("RoundVotes$Message", "since", "I", false)
  | 7 => ("RoundVotes$Message", "due", "I", false)
  | _ => ("RoundVotes$Message", "second", "Z", false)
def tyX5 : Nat → FieldType := fun k => match k with
  | 0 => .int
  | 1 => .int
  | 2 => .int
  | 3 => .int
  | 4 => .int
  | 5 => .int
  | 6 => .int
  | 7 => .int
  | _ => .boolean
abbrev wsX50 : List Cond := u_ws RX5 TX5 9
theorem nmX5 : ∀ a, a < 9 → ∀ b, b < 9 → a ≠ b → (TX5 a).2.1 ≠ (TX5 b).2.1 := by decide +kernel
theorem tyX5_ok : ∀ k, k < 9 → parseFieldDescriptor (TX5 k).2.2.1 = some (tyX5 k) := by decide +kernel
abbrev cX5_init : ByteArray := prog_7_method_1_code
def yX5_init : MethodName := ⟨RX5, "<init>", "()V"⟩
abbrev cX5_copyFrom : ByteArray := prog_7_method_2_code
def yX5_copyFrom : MethodName := ⟨RX5, "copyFrom", "(LRoundVotes$Message;)V"⟩
abbrev cX5_otherValue : ByteArray := prog_7_method_3_code
def yX5_otherValue : MethodName := ⟨RX5, "otherValue", "()I"⟩
def RX6 : String := "RoundVotes$Node"
def TX6 : u_T := fun k => match k with
  | 0 => ("RoundVotes$Node", "number", "I", true)
  | 1 => ("RoundVotes$Node", "setup", "LRoundVotes$Setup;", true)
  | 2 => ("RoundVotes$Node", "height", "I", false)
  | 3 => ("RoundVotes$Node", "round", "I", false)
  | 4 => ("RoundVotes$Node", "step", "I", false)
  | 5 => ("RoundVotes$Node", "locked", "LRoundVotes$Choice;", true)
  | 6 => ("RoundVotes$Node", "valid", "LRoundVotes$Choice;", true)
  | 7 => ("RoundVotes$Node", "behaviour", "I", false)
  | 8 => ("RoundVotes$Node", "lastCutTurn", "I", false)
  | 9 => ("RoundVotes$Node", "timers", "[I", true)
  | 10 => ("RoundVotes$Node", "once", "[Z", true)
  | 11 => ("RoundVotes$Node", "decisions", "LRoundVotes$Decisions;", true)
  | 12 => ("RoundVotes$Node", "present", "LRoundVotes$Ballots;", false)
  | 13 => ("RoundVotes$Node", "next", "LRoundVotes$Ballots;", false)
  | 14 => ("RoundVotes$Node", "signed", "LRoundVotes$Ballots;", true)
  | 15 => ("RoundVotes$Node", "sendings", "LRoundVotes$Sendings;", true)
  | 16 => ("RoundVotes$Node", "outgoing", "LRoundVotes$Message;", true)
  | _ => ("RoundVotes$Node", "hasToSend", "Z", false)
def tyX6 : Nat → FieldType := fun k => match k with
  | 0 => .int
  | 1 => .object "RoundVotes$Setup"
  | 2 => .int
  | 3 => .int
  | 4 => .int
  | 5 => .object "RoundVotes$Choice"
  | 6 => .object "RoundVotes$Choice"
  | 7 => .int
  | 8 => .int
  | 9 => .array .int
  | 10 => .array .boolean
  | 11 => .object "RoundVotes$Decisions"
  | 12 => .object "RoundVotes$Ballots"
  | 13 => .object "RoundVotes$Ballots"
  | 14 => .object "RoundVotes$Ballots"
  | 15 => .object "RoundVotes$Sendings"
  | 16 => .object "RoundVotes$Message"
  | _ => .boolean
abbrev wsX60 : List Cond := u_ws RX6 TX6 18
theorem nmX6 : ∀ a, a < 18 → ∀ b, b < 18 → a ≠ b → (TX6 a).2.1 ≠ (TX6 b).2.1 := by decide +kernel
theorem tyX6_ok : ∀ k, k < 18 → parseFieldDescriptor (TX6 k).2.2.1 = some (tyX6 k) := by decide +kernel
abbrev cX6_init : ByteArray := prog_8_method_1_code
def yX6_init : MethodName := ⟨RX6, "<init>", "(ILRoundVotes$Setup;)V"⟩
abbrev cX6_isCut : ByteArray := prog_8_method_2_code
def yX6_isCut : MethodName := ⟨RX6, "isCut", "()Z"⟩
abbrev cX6_standsStill : ByteArray := prog_8_method_3_code
def yX6_standsStill : MethodName := ⟨RX6, "standsStill", "()Z"⟩
abbrev cX6_begin : ByteArray := prog_8_method_4_code
def yX6_begin : MethodName := ⟨RX6, "begin", "(II)V"⟩
abbrev cX6_timesSending : ByteArray := prog_8_method_5_code
def yX6_timesSending : MethodName := ⟨RX6, "timesSending", "()I"⟩
abbrev cX6_deceives : ByteArray := prog_8_method_6_code
def yX6_deceives : MethodName := ⟨RX6, "deceives", "(I)Z"⟩
abbrev cX6_send : ByteArray := prog_8_method_7_code
def yX6_send : MethodName := ⟨RX6, "send", "(III)V"⟩
abbrev cX6_accepts : ByteArray := prog_8_method_8_code
def yX6_accepts : MethodName := ⟨RX6, "accepts", "(LRoundVotes$Message;)Z"⟩
abbrev cX6_comeBack : ByteArray := prog_8_method_9_code
def yX6_comeBack : MethodName := ⟨RX6, "comeBack", "(I)V"⟩
abbrev cX6_decideAs : ByteArray := prog_8_method_10_code
def yX6_decideAs : MethodName := ⟨RX6, "decideAs", "(LRoundVotes$Node;)V"⟩
abbrev cX6_decide : ByteArray := prog_8_method_11_code
def yX6_decide : MethodName := ⟨RX6, "decide", "(I)V"⟩
abbrev cX6_goToNextHeight : ByteArray := prog_8_method_12_code
def yX6_goToNextHeight : MethodName := ⟨RX6, "goToNextHeight", "()V"⟩
abbrev cX6_endTimer : ByteArray := prog_8_method_13_code
def yX6_endTimer : MethodName := ⟨RX6, "endTimer", "(II)V"⟩
abbrev cX6_followsRule : ByteArray := prog_8_method_14_code
def yX6_followsRule : MethodName := ⟨RX6, "followsRule", "(I)Z"⟩
abbrev cX6_proposalOf : ByteArray := prog_8_method_15_code
def yX6_proposalOf : MethodName := ⟨RX6, "proposalOf", "(I)I"⟩
abbrev cX6_areMany : ByteArray := prog_8_method_16_code
def yX6_areMany : MethodName := ⟨RX6, "areMany", "(I)Z"⟩
abbrev cX6_areSome : ByteArray := prog_8_method_17_code
def yX6_areSome : MethodName := ⟨RX6, "areSome", "(I)Z"⟩
abbrev cX6_roundToDecide : ByteArray := prog_8_method_18_code
def yX6_roundToDecide : MethodName := ⟨RX6, "roundToDecide", "()I"⟩
abbrev cX6_roundToJoin : ByteArray := prog_8_method_19_code
def yX6_roundToJoin : MethodName := ⟨RX6, "roundToJoin", "()I"⟩
abbrev cX6_answersProposal : ByteArray := prog_8_method_20_code
def yX6_answersProposal : MethodName := ⟨RX6, "answersProposal", "()Z"⟩
abbrev cX6_lockAllows : ByteArray := prog_8_method_21_code
def yX6_lockAllows : MethodName := ⟨RX6, "lockAllows", "(II)Z"⟩
abbrev cX6_locks : ByteArray := prog_8_method_22_code
def yX6_locks : MethodName := ⟨RX6, "locks", "()Z"⟩
abbrev cX6_givesUpValue : ByteArray := prog_8_method_23_code
def yX6_givesUpValue : MethodName := ⟨RX6, "givesUpValue", "()Z"⟩
abbrev cX6_waitsForPrevotes : ByteArray := prog_8_method_24_code
def yX6_waitsForPrevotes : MethodName := ⟨RX6, "waitsForPrevotes", "(I)Z"⟩
abbrev cX6_waitsForPrecommits : ByteArray := prog_8_method_25_code
def yX6_waitsForPrecommits : MethodName := ⟨RX6, "waitsForPrecommits", "(I)Z"⟩
def RX7 : String := "RoundVotes$Sendings"
def TX7 : u_T := fun k => match k with
  | 0 => ("RoundVotes$Sendings", "copies", "I", false)
  | 1 => ("RoundVotes$Sendings", "timesUnlike", "I", false)
  | _ => ("RoundVotes$Sendings", "firsts", "LRoundVotes$Ballots;", true)
def tyX7 : Nat → FieldType := fun k => match k with
  | 0 => .int
  | 1 => .int
  | _ => .object "RoundVotes$Ballots"
abbrev wsX70 : List Cond := u_ws RX7 TX7 3
theorem nmX7 : ∀ a, a < 3 → ∀ b, b < 3 → a ≠ b → (TX7 a).2.1 ≠ (TX7 b).2.1 := by decide +kernel
theorem tyX7_ok : ∀ k, k < 3 → parseFieldDescriptor (TX7 k).2.2.1 = some (tyX7 k) := by decide +kernel
abbrev cX7_init : ByteArray := prog_9_method_1_code
def yX7_init : MethodName := ⟨RX7, "<init>", "()V"⟩
abbrev cX7_add : ByteArray := prog_9_method_2_code
def yX7_add : MethodName := ⟨RX7, "add", "(LRoundVotes$Message;)V"⟩
def RX8 : String := "RoundVotes$Setup"
def TX8 : u_T := fun k => match k with
  | 0 => ("RoundVotes$Setup", "size", "I", true)
  | 1 => ("RoundVotes$Setup", "seed", "I", true)
  | 2 => ("RoundVotes$Setup", "weights", "[[I", true)
  | _ => ("RoundVotes$Setup", "all", "[I", true)
def tyX8 : Nat → FieldType := fun k => match k with
  | 0 => .int
  | 1 => .int
  | 2 => .array (.array .int)
  | _ => .array .int
abbrev wsX80 : List Cond := u_ws RX8 TX8 4
theorem nmX8 : ∀ a, a < 4 → ∀ b, b < 4 → a ≠ b → (TX8 a).2.1 ≠ (TX8 b).2.1 := by decide +kernel
theorem tyX8_ok : ∀ k, k < 4 → parseFieldDescriptor (TX8 k).2.2.1 = some (tyX8 k) := by decide +kernel
abbrev cX8_init : ByteArray := prog_10_method_1_code
def yX8_init : MethodName := ⟨RX8, "<init>", "(II)V"⟩
abbrev cX8_changeWeight : ByteArray := prog_10_method_2_code
def yX8_changeWeight : MethodName := ⟨RX8, "changeWeight", "(III)V"⟩
abbrev cX8_weightOfAll : ByteArray := prog_10_method_3_code
def yX8_weightOfAll : MethodName := ⟨RX8, "weightOfAll", "(II)I"⟩
abbrev cX8_proposer : ByteArray := prog_10_method_4_code
def yX8_proposer : MethodName := ⟨RX8, "proposer", "(II)I"⟩
abbrev cX8_ownValue : ByteArray := prog_10_method_5_code
def yX8_ownValue : MethodName := ⟨RX8, "ownValue", "(III)I"⟩
def RX9 : String := "RoundVotes$Told"
def TX9 : u_T := fun k => match k with
  | 0 => ("RoundVotes$Told", "numbers", "[I", true)
  | 1 => ("RoundVotes$Told", "kinds", "[I", true)
  | 2 => ("RoundVotes$Told", "bys", "[I", true)
  | _ => ("RoundVotes$Told", "size", "I", false)
def tyX9 : Nat → FieldType := fun k => match k with
  | 0 => .array .int
  | 1 => .array .int
  | 2 => .array .int
  | _ => .int
abbrev wsX90 : List Cond := u_ws RX9 TX9 4
theorem nmX9 : ∀ a, a < 4 → ∀ b, b < 4 → a ≠ b → (TX9 a).2.1 ≠ (TX9 b).2.1 := by decide +kernel
theorem tyX9_ok : ∀ k, k < 4 → parseFieldDescriptor (TX9 k).2.2.1 = some (tyX9 k) := by decide +kernel
abbrev cX9_init : ByteArray := prog_11_method_1_code
def yX9_init : MethodName := ⟨RX9, "<init>", "()V"⟩
abbrev cX9_find : ByteArray := prog_11_method_2_code
def yX9_find : MethodName := ⟨RX9, "find", "(I)I"⟩
abbrev cX9_add : ByteArray := prog_11_method_3_code
def yX9_add : MethodName := ⟨RX9, "add", "(III)Z"⟩
abbrev cX9_remove : ByteArray := prog_11_method_4_code
def yX9_remove : MethodName := ⟨RX9, "remove", "(I)V"⟩
def RX10 : String := "RoundVotes"
def TX10 : u_T := fun k => match k with
  | 0 => ("RoundVotes", "setup", "LRoundVotes$Setup;", true)
  | 1 => ("RoundVotes", "nodes", "[LRoundVotes$Node;", true)
  | 2 => ("RoundVotes", "mail", "LRoundVotes$Mail;", true)
  | 3 => ("RoundVotes", "told", "LRoundVotes$Told;", true)
  | 4 => ("RoundVotes", "faults", "LRoundVotes$Faults;", true)
  | 5 => ("RoundVotes", "time", "I", false)
  | 6 => ("RoundVotes", "gone", "I", false)
  | 7 => ("RoundVotes", "came", "I", false)
  | 8 => ("RoundVotes", "lost", "I", false)
  | 9 => ("RoundVotes", "sideBits", "I", false)
  | 10 => ("RoundVotes", "firstSideTurn", "I", false)
  | _ => ("RoundVotes", "lastSideTurn", "I", false)
def tyX10 : Nat → FieldType := fun k => match k with
  | 0 => .object "RoundVotes$Setup"
  | 1 => .array (.object "RoundVotes$Node")
  | 2 => .object "RoundVotes$Mail"
  | 3 => .object "RoundVotes$Told"
  | 4 => .object "RoundVotes$Faults"
  | 5 => .int
  | 6 => .int
  | 7 => .int
  | 8 => .int
  | 9 => .int
  | 10 => .int
  | _ => .int
abbrev wsX100 : List Cond := u_ws RX10 TX10 12
theorem nmX10 : ∀ a, a < 12 → ∀ b, b < 12 → a ≠ b → (TX10 a).2.1 ≠ (TX10 b).2.1 := by decide +kernel
theorem tyX10_ok : ∀ k, k < 12 → parseFieldDescriptor (TX10 k).2.2.1 = some (tyX10 k) := by decide +kernel
abbrev cX10_init : ByteArray := prog_1_method_1_code
def yX10_init : MethodName := ⟨RX10, "<init>", "(II)V"⟩
abbrev cX10_weight : ByteArray := prog_1_method_2_code
def yX10_weight : MethodName := ⟨RX10, "weight", "(II)I"⟩
abbrev cX10_behave : ByteArray := prog_1_method_3_code
def yX10_behave : MethodName := ⟨RX10, "behave", "(II)I"⟩
abbrev cX10_disturb : ByteArray := prog_1_method_4_code
def yX10_disturb : MethodName := ⟨RX10, "disturb", "(III)I"⟩
abbrev cX10_sides : ByteArray := prog_1_method_5_code
def yX10_sides : MethodName := ⟨RX10, "sides", "(II)I"⟩
abbrev cX10_cut : ByteArray := prog_1_method_6_code
def yX10_cut : MethodName := ⟨RX10, "cut", "(II)I"⟩
abbrev cX10_turn : ByteArray := prog_1_method_7_code
def yX10_turn : MethodName := ⟨RX10, "turn", "(I)I"⟩
abbrev cX10_catchUp : ByteArray := prog_1_method_8_code
def yX10_catchUp : MethodName := ⟨RX10, "catchUp", "(I)I"⟩
abbrev cX10_node : ByteArray := prog_1_method_9_code
def yX10_node : MethodName := ⟨RX10, "node", "(II)I"⟩
abbrev cX10_vote : ByteArray := prog_1_method_10_code
def yX10_vote : MethodName := ⟨RX10, "vote", "(IIII)I"⟩
abbrev cX10_decided : ByteArray := prog_1_method_11_code
def yX10_decided : MethodName := ⟨RX10, "decided", "(III)I"⟩
abbrev cX10_unlike : ByteArray := prog_1_method_12_code
def yX10_unlike : MethodName := ⟨RX10, "unlike", "(I)I"⟩
abbrev cX10_evidence : ByteArray := prog_1_method_13_code
def yX10_evidence : MethodName := ⟨RX10, "evidence", "(II)I"⟩
abbrev cX10_against : ByteArray := prog_1_method_14_code
def yX10_against : MethodName := ⟨RX10, "against", "(I)I"⟩
abbrev cX10_count : ByteArray := prog_1_method_15_code
def yX10_count : MethodName := ⟨RX10, "count", "(I)I"⟩
abbrev cX10_weightOf : ByteArray := prog_1_method_16_code
def yX10_weightOf : MethodName := ⟨RX10, "weightOf", "(II)I"⟩
abbrev cX10_isNode : ByteArray := prog_1_method_17_code
def yX10_isNode : MethodName := ⟨RX10, "isNode", "(I)Z"⟩
abbrev cX10_isHeight : ByteArray := prog_1_method_18_code
def yX10_isHeight : MethodName := ⟨RX10, "isHeight", "(I)Z"⟩
abbrev cX10_greatestHeight : ByteArray := prog_1_method_19_code
def yX10_greatestHeight : MethodName := ⟨RX10, "greatestHeight", "()I"⟩
abbrev cX10_greatestDecided : ByteArray := prog_1_method_20_code
def yX10_greatestDecided : MethodName := ⟨RX10, "greatestDecided", "()I"⟩
abbrev cX10_tellerOf : ByteArray := prog_1_method_21_code
def yX10_tellerOf : MethodName := ⟨RX10, "tellerOf", "(II)I"⟩
abbrev cX10_beginAll : ByteArray := prog_1_method_22_code
def yX10_beginAll : MethodName := ⟨RX10, "beginAll", "()V"⟩
abbrev cX10_bringNodesBack : ByteArray := prog_1_method_23_code
def yX10_bringNodesBack : MethodName := ⟨RX10, "bringNodesBack", "()V"⟩
abbrev cX10_bringCopies : ByteArray := prog_1_method_24_code
def yX10_bringCopies : MethodName := ⟨RX10, "bringCopies", "()V"⟩
abbrev cX10_handOver : ByteArray := prog_1_method_25_code
def yX10_handOver : MethodName := ⟨RX10, "handOver", "(LRoundVotes$Message;)V"⟩
abbrev cX10_endTimers : ByteArray := prog_1_method_26_code
def yX10_endTimers : MethodName := ⟨RX10, "endTimers", "()V"⟩
abbrev cX10_settle : ByteArray := prog_1_method_27_code
def yX10_settle : MethodName := ⟨RX10, "settle", "(LRoundVotes$Node;)V"⟩
abbrev cX10_dispatch : ByteArray := prog_1_method_28_code
def yX10_dispatch : MethodName := ⟨RX10, "dispatch", "(LRoundVotes$Node;)V"⟩
abbrev cX10_sendCopy : ByteArray := prog_1_method_29_code
def yX10_sendCopy : MethodName := ⟨RX10, "sendCopy", "(LRoundVotes$Message;)V"⟩
abbrev cX10_areOnUnlikeSides : ByteArray := prog_1_method_30_code
def yX10_areOnUnlikeSides : MethodName := ⟨RX10, "areOnUnlikeSides", "(II)Z"⟩
def RX11 : String := "RoundVotesModel"
def TX11 : u_T := fun k => match k with
  | 0 => ("RoundVotesModel", "thrown", "I", false)
  | 1 => ("RoundVotesModel", "n", "I", true)
  | 2 => ("RoundVotesModel", "seed", "I", true)
  | 3 => ("RoundVotesModel", "time", "I", false)
  | 4 => ("RoundVotesModel", "weights", "[I", true)
  | 5 => ("RoundVotesModel", "heightOf", "[I", true)
  | 6 => ("RoundVotesModel", "roundOf", "[I", true)
  | 7 => ("RoundVotesModel", "stepOf", "[I", true)
  | 8 => ("RoundVotesModel", "lockedValue", "[I", true)
  | 9 => ("RoundVotesModel", "lockedRound", "[I", true)
  | 10 => ("RoundVotesModel", "validValue", "[I", true)
  | 11 => ("RoundVotesModel", "validRound", "[I", true)
  | 12 => ("RoundVotesModel", "cutUntil", "[I", true)
  | 13 => ("RoundVotesModel", "isCut", "[Z", true)
  | 14 => ("RoundVotesModel", "behaviour", "[I", true)
  | 15 => ("RoundVotesModel", "timers", "[I", true)
  | 16 => ("RoundVotesModel", "didD", "[Z", true)
  | 17 => ("RoundVotesModel", "didF", "[Z", true)
  | 18 => ("RoundVotesModel", "didG", "[Z", true)
  | 19 => ("RoundVotesModel", "sentCopies", "[I", true)
  | 20 => ("RoundVotesModel", "has", "[I", true)
  | 21 => ("RoundVotesModel", "hasRound", "[I", true)
  | 22 => ("RoundVotesModel", "signed", "[I", true)
  | 23 => ("RoundVotesModel", "signedRound", "[I", true)
  | 24 => ("RoundVotesModel", "decidedValue", "[I", true)
  | 25 => ("RoundVotesModel", "decidedRound", "[I", true)
  | 26 => ("RoundVotesModel", "decidedBits", "[I", true)
  | 27 => ("RoundVotesModel", "decidedWeight", "[J", true)
  | 28 => ("RoundVotesModel", "due", "[I", true)
  | 29 => ("RoundVotesModel", "from", "[I", true)
  | 30 => ("RoundVotesModel", "to", "[I", true)
  | 31 => ("RoundVotesModel", "height", "[I", true)
  | 32 => ("RoundVotesModel", "round", "[I", true)
  | 33 => ("RoundVotesModel", "kind", "[I", true)
  | 34 => ("RoundVotesModel", "value", "[I", true)
  | 35 => ("RoundVotesModel", "since", "[I", true)
  | 36 => ("RoundVotesModel", "isSecond", "[Z", true)
  | 37 => ("RoundVotesModel", "copies", "I", false)
  | 38 => ("RoundVotesModel", "underWay", "I", false)
  | 39 => ("RoundVotesModel", "gone", "I", false)
  | 40 => ("RoundVotesModel", "came", "I", false)
  | 41 => ("RoundVotesModel", "lost", "I", false)
  | 42 => ("RoundVotesModel", "disturbed", "[I", true)
  | 43 => ("RoundVotesModel", "disturbKind", "[I", true)
  | 44 => ("RoundVotesModel", "disturbBy", "[I", true)
  | 45 => ("RoundVotesModel", "disturbs", "I", false)
  | 46 => ("RoundVotesModel", "sideBits", "I", false)
  | 47 => ("RoundVotesModel", "sidesFrom", "I", false)
  | 48 => ("RoundVotesModel", "sidesUntil", "I", false)
  | 49 => ("RoundVotesModel", "evidence", "[I", true)
  | 50 => ("RoundVotesModel", "evidences", "I", false)
  | 51 => ("RoundVotesModel", "firstSent", "[I", true)
  | _ => ("RoundVotesModel", "sentUnlike", "[Z", true)
def tyX11 : Nat → FieldType := fun k => match k with
  | 0 => .int
  | 1 => .int
  | 2 => .int
  | 3 => .int
  | 4 => .array .int
  | 5 => .array .int
  | 6 => .array .int
  | 7 => .array .int
  | 8 => .array .int
  | 9 => .array .int
  | 10 => .array .int
  | 11 => .array .int
  | 12 => .array .int
  | 13 => .array .boolean
  | 14 => .array .int
  | 15 => .array .int
  | 16 => .array .boolean
  | 17 => .array .boolean
  | 18 => .array .boolean
  | 19 => .array .int
  | 20 => .array .int
  | 21 => .array .int
  | 22 => .array .int
  | 23 => .array .int
  | 24 => .array .int
  | 25 => .array .int
  | 26 => .array .int
  | 27 => .array .long
  | 28 => .array .int
  | 29 => .array .int
  | 30 => .array .int
  | 31 => .array .int
  | 32 => .array .int
  | 33 => .array .int
  | 34 => .array .int
  | 35 => .array .int
  | 36 => .array .boolean
  | 37 => .int
  | 38 => .int
  | 39 => .int
  | 40 => .int
  | 41 => .int
  | 42 => .array .int
  | 43 => .array .int
  | 44 => .array .int
  | 45 => .int
  | 46 => .int
  | 47 => .int
  | 48 => .int
  | 49 => .array .int
  | 50 => .int
  | 51 => .array .int
  | _ => .array .boolean
abbrev wsX110 : List Cond := u_ws RX11 TX11 53
theorem nmX11 : ∀ a, a < 53 → ∀ b, b < 53 → a ≠ b → (TX11 a).2.1 ≠ (TX11 b).2.1 := by decide +kernel
theorem tyX11_ok : ∀ k, k < 53 → parseFieldDescriptor (TX11 k).2.2.1 = some (tyX11 k) := by decide +kernel
abbrev cX11_in : ByteArray := prog_13_method_2_code
def yX11_in : MethodName := ⟨RX11, "in", "(JJJ)Z"⟩
abbrev cX11_init : ByteArray := prog_13_method_3_code
def yX11_init : MethodName := ⟨RX11, "<init>", "(II)V"⟩
abbrev cX11_place : ByteArray := prog_13_method_4_code
def yX11_place : MethodName := ⟨RX11, "place", "(IIIII)I"⟩
abbrev cX11_roundPlace : ByteArray := prog_13_method_5_code
def yX11_roundPlace : MethodName := ⟨RX11, "roundPlace", "(IIII)I"⟩
abbrev cX11_clearHeight : ByteArray := prog_13_method_6_code
def yX11_clearHeight : MethodName := ⟨RX11, "clearHeight", "(II)V"⟩
abbrev cX11_clearSigned : ByteArray := prog_13_method_7_code
def yX11_clearSigned : MethodName := ⟨RX11, "clearSigned", "(I)V"⟩
abbrev cX11_all : ByteArray := prog_13_method_8_code
def yX11_all : MethodName := ⟨RX11, "all", "(I)J"⟩
abbrev cX11_isMany : ByteArray := prog_13_method_9_code
def yX11_isMany : MethodName := ⟨RX11, "isMany", "(JI)Z"⟩
abbrev cX11_proposer : ByteArray := prog_13_method_10_code
def yX11_proposer : MethodName := ⟨RX11, "proposer", "(II)I"⟩
abbrev cX11_ownValue : ByteArray := prog_13_method_11_code
def yX11_ownValue : MethodName := ⟨RX11, "ownValue", "(III)I"⟩
abbrev cX11_sentPlace : ByteArray := prog_13_method_12_code
def yX11_sentPlace : MethodName := ⟨RX11, "sentPlace", "(IIII)I"⟩
abbrev cX11_noteSent : ByteArray := prog_13_method_13_code
def yX11_noteSent : MethodName := ⟨RX11, "noteSent", "(IIIII)V"⟩
abbrev cX11_otherValue : ByteArray := prog_13_method_14_code
def yX11_otherValue : MethodName := ⟨RX11, "otherValue", "(II)I"⟩
abbrev cX11_send : ByteArray := prog_13_method_15_code
def yX11_send : MethodName := ⟨RX11, "send", "(IIII)V"⟩
abbrev cX11_areApart : ByteArray := prog_13_method_16_code
def yX11_areApart : MethodName := ⟨RX11, "areApart", "(II)Z"⟩
abbrev cX11_copy : ByteArray := prog_13_method_17_code
def yX11_copy : MethodName := ⟨RX11, "copy", "(IIIIIII)V"⟩
abbrev cX11_put : ByteArray := prog_13_method_18_code
def yX11_put : MethodName := ⟨RX11, "put", "(IIIIIIIIZ)V"⟩
abbrev cX11_keep : ByteArray := prog_13_method_19_code
def yX11_keep : MethodName := ⟨RX11, "keep", "(IIIIIIIZ)V"⟩
abbrev cX11_accuse : ByteArray := prog_13_method_20_code
def yX11_accuse : MethodName := ⟨RX11, "accuse", "(IIIII)V"⟩
abbrev cX11_hasOf : ByteArray := prog_13_method_21_code
def yX11_hasOf : MethodName := ⟨RX11, "hasOf", "(IIII)I"⟩
abbrev cX11_votes : ByteArray := prog_13_method_22_code
def yX11_votes : MethodName := ⟨RX11, "votes", "(IIII)J"⟩
abbrev cX11_proposal : ByteArray := prog_13_method_23_code
def yX11_proposal : MethodName := ⟨RX11, "proposal", "(II)I"⟩
abbrev cX11_proposalSince : ByteArray := prog_13_method_24_code
def yX11_proposalSince : MethodName := ⟨RX11, "proposalSince", "(II)I"⟩
abbrev cX11_begin : ByteArray := prog_13_method_25_code
def yX11_begin : MethodName := ⟨RX11, "begin", "(II)V"⟩
abbrev cX11_nextHeight : ByteArray := prog_13_method_26_code
def yX11_nextHeight : MethodName := ⟨RX11, "nextHeight", "(I)V"⟩
abbrev cX11_ruleA : ByteArray := prog_13_method_27_code
def yX11_ruleA : MethodName := ⟨RX11, "ruleA", "(I)Z"⟩
abbrev cX11_ruleB : ByteArray := prog_13_method_28_code
def yX11_ruleB : MethodName := ⟨RX11, "ruleB", "(I)Z"⟩
abbrev cX11_ruleC : ByteArray := prog_13_method_29_code
def yX11_ruleC : MethodName := ⟨RX11, "ruleC", "(I)Z"⟩
abbrev cX11_ruleD : ByteArray := prog_13_method_30_code
def yX11_ruleD : MethodName := ⟨RX11, "ruleD", "(I)Z"⟩
abbrev cX11_ruleE : ByteArray := prog_13_method_31_code
def yX11_ruleE : MethodName := ⟨RX11, "ruleE", "(I)Z"⟩
abbrev cX11_ruleF : ByteArray := prog_13_method_32_code
def yX11_ruleF : MethodName := ⟨RX11, "ruleF", "(I)Z"⟩
abbrev cX11_ruleG : ByteArray := prog_13_method_33_code
def yX11_ruleG : MethodName := ⟨RX11, "ruleG", "(I)Z"⟩
abbrev cX11_rules : ByteArray := prog_13_method_34_code
def yX11_rules : MethodName := ⟨RX11, "rules", "(I)V"⟩
abbrev cX11_comeBack : ByteArray := prog_13_method_35_code
def yX11_comeBack : MethodName := ⟨RX11, "comeBack", "(I)V"⟩
abbrev cX11_deliver : ByteArray := prog_13_method_36_code
def yX11_deliver : MethodName := ⟨RX11, "deliver", "(ZI)V"⟩
abbrev cX11_tidy : ByteArray := prog_13_method_37_code
def yX11_tidy : MethodName := ⟨RX11, "tidy", "()V"⟩
abbrev cX11_timerEnds : ByteArray := prog_13_method_38_code
def yX11_timerEnds : MethodName := ⟨RX11, "timerEnds", "(II)V"⟩
abbrev cX11_oneTurn : ByteArray := prog_13_method_39_code
def yX11_oneTurn : MethodName := ⟨RX11, "oneTurn", "()V"⟩
abbrev cX11_turn : ByteArray := prog_13_method_40_code
def yX11_turn : MethodName := ⟨RX11, "turn", "(I)I"⟩
abbrev cX11_noNode : ByteArray := prog_13_method_41_code
def yX11_noNode : MethodName := ⟨RX11, "noNode", "(I)Z"⟩
abbrev cX11_weight : ByteArray := prog_13_method_42_code
def yX11_weight : MethodName := ⟨RX11, "weight", "(II)I"⟩
abbrev cX11_behave : ByteArray := prog_13_method_43_code
def yX11_behave : MethodName := ⟨RX11, "behave", "(II)I"⟩
abbrev cX11_disturb : ByteArray := prog_13_method_44_code
def yX11_disturb : MethodName := ⟨RX11, "disturb", "(III)I"⟩
abbrev cX11_sides : ByteArray := prog_13_method_45_code
def yX11_sides : MethodName := ⟨RX11, "sides", "(II)I"⟩
abbrev cX11_cut : ByteArray := prog_13_method_46_code
def yX11_cut : MethodName := ⟨RX11, "cut", "(II)I"⟩
abbrev cX11_catchUp : ByteArray := prog_13_method_47_code
def yX11_catchUp : MethodName := ⟨RX11, "catchUp", "(I)I"⟩
abbrev cX11_node : ByteArray := prog_13_method_48_code
def yX11_node : MethodName := ⟨RX11, "node", "(II)I"⟩
abbrev cX11_vote : ByteArray := prog_13_method_49_code
def yX11_vote : MethodName := ⟨RX11, "vote", "(IIII)I"⟩
abbrev cX11_decided : ByteArray := prog_13_method_50_code
def yX11_decided : MethodName := ⟨RX11, "decided", "(III)I"⟩
abbrev cX11_unlike : ByteArray := prog_13_method_51_code
def yX11_unlike : MethodName := ⟨RX11, "unlike", "(I)I"⟩
abbrev cX11_evidence : ByteArray := prog_13_method_52_code
def yX11_evidence : MethodName := ⟨RX11, "evidence", "(II)I"⟩
abbrev cX11_against : ByteArray := prog_13_method_53_code
def yX11_against : MethodName := ⟨RX11, "against", "(I)I"⟩
abbrev cX11_count : ByteArray := prog_13_method_54_code
def yX11_count : MethodName := ⟨RX11, "count", "(I)I"⟩
abbrev cX11_weightOf : ByteArray := prog_13_method_55_code
def yX11_weightOf : MethodName := ⟨RX11, "weightOf", "(II)I"⟩
def RL : String := "RoundVotesLaw"
abbrev cL_cell : ByteArray := method_2_code
def yL_cell : MethodName := ⟨RL, "cell", "([II)I"⟩
abbrev cL_law : ByteArray := code
def yL_law : MethodName := ⟨RL, "law", "([I)Z"⟩
end
section
/-! ===== the small machine: a heap of typed cells; operations as functions; runs by fuel ===== -/
/-- top, slots made, tags, lengths, ints, longs, references -/
abbrev mH : Type := Nat × Nat × (Nat → Nat) × (Nat → Nat) × (Nat → Nat → Int32) × (Nat → Nat → Int64) × (Nat → Nat → Option Nat)
def mTop (h : mH) : Nat := h.1
def mSl (h : mH) : Nat := h.2.1
def mTg (h : mH) (a : Nat) : Nat := h.2.2.1 a
def mLn (h : mH) (a : Nat) : Nat := h.2.2.2.1 a
def mI (h : mH) (a k : Nat) : Int32 := h.2.2.2.2.1 a k
def mJ (h : mH) (a k : Nat) : Int64 := h.2.2.2.2.2.1 a k
def mP (h : mH) (a k : Nat) : Option Nat := h.2.2.2.2.2.2 a k
/-- one place of a cell changed -/
def up2 {α : Type} (f : Nat → Nat → α) (a k : Nat) (v : α) : Nat → Nat → α := fun b j => if b = a ∧ j = k then v else f b j
def up1 {α : Type} (f : Nat → α) (a : Nat) (v : α) : Nat → α := fun b => if b = a then v else f b
def wI (h : mH) (a k : Nat) (v : Int32) : mH := (h.1, h.2.1, h.2.2.1, h.2.2.2.1, up2 h.2.2.2.2.1 a k v, h.2.2.2.2.2.1, h.2.2.2.2.2.2)
def wJ (h : mH) (a k : Nat) (v : Int64) : mH := (h.1, h.2.1, h.2.2.1, h.2.2.2.1, h.2.2.2.2.1, up2 h.2.2.2.2.2.1 a k v, h.2.2.2.2.2.2)
def wP (h : mH) (a k : Nat) (v : Option Nat) : mH := (h.1, h.2.1, h.2.2.1, h.2.2.2.1, h.2.2.2.2.1, h.2.2.2.2.2.1, up2 h.2.2.2.2.2.2 a k v)
/-- a new cell at the top, of tag t and n slots, with default contents -/
def wN (h : mH) (t n : Nat) : mH := (h.1 + 1, h.2.1 + n, up1 h.2.2.1 h.1 t, up1 h.2.2.2.1 h.1 n, up1 h.2.2.2.2.1 h.1 (fun _ => 0), up1 h.2.2.2.2.2.1 h.1 (fun _ => 0), up1 h.2.2.2.2.2.2 h.1 (fun _ => none))
/-- i rows more of k ints -/
def wR (h : mH) (k : Nat) : Nat → mH
  | 0 => h
  | i + 1 => wN (wR h k i) 20 k
/-- new int[n][k]: the outer row at the top, the inner ones behind it -/
def wM (h : mH) (n k : Nat) : mH :=
  match wR (wN h 25 n) k n with
  | (t, s, g, ln, ci, cj, cp) => (t, s, g, ln, ci, cj, up1 cp h.1 (fun j => if j < n then some (h.1 + 1 + j) else none))
abbrev mL : Type := List (Option Value)
abbrev mO : Type := Option Value × mH
abbrev mC : Type := Nat → List Value → mH → Option mO
abbrev mK : Type := Nat → mL → List Value → mH → Option mO
abbrev mOp : Type := mC → mK → mL → List Value → mH → Option mO
def o_no : mOp := fun _ _ _ _ _ => none
-- constants, locals
def o_ic (nx : Nat) (v : Int32) : mOp := fun _ k l st h => k nx l (.int v :: st) h
def o_lc (nx : Nat) (v : Int64) : mOp := fun _ k l st h => k nx l (.long v :: st) h
def o_ld (nx i : Nat) : mOp := fun _ k l st h => match l[i]? with
  | some (some v) => k nx l (v :: st) h
  | _ => none
/-- no long stands just ahead of place i -/
def mFree (l : mL) (i : Nat) : Bool := match i with
  | 0 => true
  | j + 1 => match l[j]? with
    | some (some (.long _)) => false
    | some (some (.double _)) => false
    | _ => true
def o_ist (nx i : Nat) : mOp := fun _ k l st h => match st with
  | .int x :: st => bif mFree l i && Nat.blt i l.length then k nx (l.set i (some (.int x))) st h else none
  | _ => none
def o_ast (nx i : Nat) : mOp := fun _ k l st h => match st with
  | .ref x :: st => bif mFree l i && Nat.blt i l.length then k nx (l.set i (some (.ref x))) st h else none
  | _ => none
def o_lst (nx i : Nat) : mOp := fun _ k l st h => match st with
  | .long x :: st => bif mFree l i && Nat.blt (i + 1) l.length then k nx ((l.set i (some (.long x))).set (i + 1) none) st h else none
  | _ => none
def o_inc (nx i : Nat) (n : Int32) : mOp := fun _ k l st h => match l[i]? with
  | some (some (.int x)) => bif mFree l i && Nat.blt i l.length then k nx (l.set i (some (.int (x + n)))) st h else none
  | _ => none
-- arithmetic
def o_ii (nx : Nat) (f : Int32 → Int32 → Int32) : mOp := fun _ k l st h => match st with
  | .int y :: .int x :: st => k nx l (.int (f x y) :: st) h
  | _ => none
def o_ll (nx : Nat) (f : Int64 → Int64 → Int64) : mOp := fun _ k l st h => match st with
  | .long y :: .long x :: st => k nx l (.long (f x y) :: st) h
  | _ => none
def o_rem (nx : Nat) : mOp := fun _ k l st h => match st with
  | .int y :: .int x :: st => if y = 0 then none else k nx l (.int (x - x / y * y) :: st) h
  | _ => none
def o_i2l (nx : Nat) : mOp := fun _ k l st h => match st with
  | .int x :: st => k nx l (.long x.toInt64 :: st) h
  | _ => none
def o_l2i (nx : Nat) : mOp := fun _ k l st h => match st with
  | .long x :: st => k nx l (.int x.toInt32 :: st) h
  | _ => none
def o_lcmp (nx : Nat) : mOp := fun _ k l st h => match st with
  | .long y :: .long x :: st => k nx l (.int (lg_cmp x y) :: st) h
  | _ => none
def o_dup (nx : Nat) : mOp := fun _ k l st h => match st with
  | .int x :: st => k nx l (.int x :: .int x :: st) h
  | .ref x :: st => k nx l (.ref x :: .ref x :: st) h
  | _ => none
def o_dup2 (nx : Nat) : mOp := fun _ k l st h => match st with
  | .int x :: .ref y :: st => k nx l (.int x :: .ref y :: .int x :: .ref y :: st) h
  | _ => none
-- branches
def o_goto (tg : Nat) : mOp := fun _ k l st h => k tg l st h
/-- a comparison of two ints, by kind: 0 eq, 1 ne, 2 lt, 3 ge, 4 gt, 5 le -/
def mCmp (kd : Nat) (x y : Int32) : Prop := match kd with
  | 0 => x = y
  | 1 => ¬ x = y
  | 2 => x < y
  | 3 => y ≤ x
  | 4 => y < x
  | _ => x ≤ y
def o_eq (nx tg : Nat) : mOp := fun _ k l st h => match st with
  | .int y :: .int x :: st => if x = y then k tg l st h else k nx l st h
  | _ => none
def o_ne (nx tg : Nat) : mOp := fun _ k l st h => match st with
  | .int y :: .int x :: st => if x = y then k nx l st h else k tg l st h
  | _ => none
def o_lt (nx tg : Nat) : mOp := fun _ k l st h => match st with
  | .int y :: .int x :: st => if x < y then k tg l st h else k nx l st h
  | _ => none
def o_ge (nx tg : Nat) : mOp := fun _ k l st h => match st with
  | .int y :: .int x :: st => if y ≤ x then k tg l st h else k nx l st h
  | _ => none
def o_gt (nx tg : Nat) : mOp := fun _ k l st h => match st with
  | .int y :: .int x :: st => if y < x then k tg l st h else k nx l st h
  | _ => none
def o_le (nx tg : Nat) : mOp := fun _ k l st h => match st with
  | .int y :: .int x :: st => if x ≤ y then k tg l st h else k nx l st h
  | _ => none
def o_eq0 (nx tg : Nat) : mOp := fun _ k l st h => match st with
  | .int x :: st => if x = 0 then k tg l st h else k nx l st h
  | _ => none
def o_ne0 (nx tg : Nat) : mOp := fun _ k l st h => match st with
  | .int x :: st => if x = 0 then k nx l st h else k tg l st h
  | _ => none
def o_lt0 (nx tg : Nat) : mOp := fun _ k l st h => match st with
  | .int x :: st => if x < 0 then k tg l st h else k nx l st h
  | _ => none
def o_ge0 (nx tg : Nat) : mOp := fun _ k l st h => match st with
  | .int x :: st => if 0 ≤ x then k tg l st h else k nx l st h
  | _ => none
def o_gt0 (nx tg : Nat) : mOp := fun _ k l st h => match st with
  | .int x :: st => if 0 < x then k tg l st h else k nx l st h
  | _ => none
def o_le0 (nx tg : Nat) : mOp := fun _ k l st h => match st with
  | .int x :: st => if x ≤ 0 then k tg l st h else k nx l st h
  | _ => none
def o_nul (nx tg : Nat) : mOp := fun _ k l st h => match st with
  | .null :: st => k tg l st h
  | .ref _ :: st => k nx l st h
  | _ => none
def o_nnul (nx tg : Nat) : mOp := fun _ k l st h => match st with
  | .null :: st => k nx l st h
  | .ref _ :: st => k tg l st h
  | _ => none
/-- a table switch from 0 on -/
def o_tsw (tgs : List Nat) (df : Nat) : mOp := fun _ k l st h => match st with
  | .int x :: st => if x < 0 ∨ tgs.length ≤ x.toNatClampNeg then k df l st h else k (tgs.getD x.toNatClampNeg df) l st h
  | _ => none
-- fields
def o_gI (nx t f : Nat) : mOp := fun _ k l st h => match st with
  | .ref a :: st => if mTg h a = t then k nx l (.int (mI h a f) :: st) h else none
  | _ => none
def o_gP (nx t f : Nat) : mOp := fun _ k l st h => match st with
  | .ref a :: st => if mTg h a = t then k nx l (va_rf (mP h a f) :: st) h else none
  | _ => none
def o_pI (nx t f : Nat) : mOp := fun _ k l st h => match st with
  | .int x :: .ref a :: st => if mTg h a = t then k nx l st (wI h a f x) else none
  | _ => none
def o_pZ (nx t f : Nat) : mOp := fun _ k l st h => match st with
  | .int x :: .ref a :: st => if mTg h a = t ∧ (x = 0 ∨ x = 1) then k nx l st (wI h a f x) else none
  | _ => none
def o_pP (nx t f : Nat) : mOp := fun _ k l st h => match st with
  | .ref x :: .ref a :: st => if mTg h a = t then k nx l st (wP h a f (some x)) else none
  | _ => none
-- rows
def o_ial (nx : Nat) : mOp := fun _ k l st h => match st with
  | .int i :: .ref a :: st => if (mTg h a = 20 ∨ mTg h a = 30) ∧ ¬ i < 0 ∧ i.toNatClampNeg < mLn h a then k nx l (.int (mI h a i.toNatClampNeg) :: st) h else none
  | _ => none
def o_bal (nx : Nat) : mOp := fun _ k l st h => match st with
  | .int i :: .ref a :: st => if mTg h a = 21 ∧ ¬ i < 0 ∧ i.toNatClampNeg < mLn h a then k nx l (.int (mI h a i.toNatClampNeg) :: st) h else none
  | _ => none
def o_lal (nx : Nat) : mOp := fun _ k l st h => match st with
  | .int i :: .ref a :: st => if mTg h a = 22 ∧ ¬ i < 0 ∧ i.toNatClampNeg < mLn h a then k nx l (.long (mJ h a i.toNatClampNeg) :: st) h else none
  | _ => none
def o_aal (nx : Nat) : mOp := fun _ k l st h => match st with
  | .int i :: .ref a :: st => if (mTg h a = 23 ∨ mTg h a = 24 ∨ mTg h a = 25) ∧ ¬ i < 0 ∧ i.toNatClampNeg < mLn h a then k nx l (va_rf (mP h a i.toNatClampNeg) :: st) h else none
  | _ => none
def o_ias (nx : Nat) : mOp := fun _ k l st h => match st with
  | .int x :: .int i :: .ref a :: st => if mTg h a = 20 ∧ ¬ i < 0 ∧ i.toNatClampNeg < mLn h a then k nx l st (wI h a i.toNatClampNeg x) else none
  | _ => none
def o_bas (nx : Nat) : mOp := fun _ k l st h => match st with
  | .int x :: .int i :: .ref a :: st => if mTg h a = 21 ∧ (x = 0 ∨ x = 1) ∧ ¬ i < 0 ∧ i.toNatClampNeg < mLn h a then k nx l st (wI h a i.toNatClampNeg x) else none
  | _ => none
def o_las (nx : Nat) : mOp := fun _ k l st h => match st with
  | .long x :: .int i :: .ref a :: st => if mTg h a = 22 ∧ ¬ i < 0 ∧ i.toNatClampNeg < mLn h a then k nx l st (wJ h a i.toNatClampNeg x) else none
  | _ => none
/-- rows of references: 23 holds cells of tag 6, 24 cells of tag 7 -/
def o_aas (nx : Nat) : mOp := fun _ k l st h => match st with
  | .ref x :: .int i :: .ref a :: st => if ((mTg h a = 23 ∧ mTg h x = 6) ∨ (mTg h a = 24 ∧ mTg h x = 7)) ∧ ¬ i < 0 ∧ i.toNatClampNeg < mLn h a then k nx l st (wP h a i.toNatClampNeg (some x)) else none
  | _ => none
def o_aln (nx : Nat) : mOp := fun _ k l st h => match st with
  | .ref a :: st => if mTg h a = 20 ∨ mTg h a = 23 ∨ mTg h a = 30 then k nx l (.int (nI (mLn h a)) :: st) h else none
  | _ => none
-- what is made
def o_new (nx t n : Nat) : mOp := fun _ k l st h => k nx l (.ref (mTop h) :: st) (wN h t n)
def o_nwa (nx t : Nat) : mOp := fun _ k l st h => match st with
  | .int n :: st => if ¬ n < 0 ∧ n.toNatClampNeg ≤ 1000000 then k nx l (.ref (mTop h) :: st) (wN h t n.toNatClampNeg) else none
  | _ => none
def o_mna (nx : Nat) : mOp := fun _ k l st h => match st with
  | .int m :: .int n :: st => if (¬ n < 0 ∧ n.toNatClampNeg ≤ 1000000) ∧ ¬ m < 0 ∧ m.toNatClampNeg ≤ 1000000 then k nx l (.ref (mTop h) :: st) (wM h n.toNatClampNeg m.toNatClampNeg) else none
  | _ => none
-- calls and ends
def mCat (st : List Value) : Nat := (st.map fun v => v.category).sum
def o_obj (nx : Nat) : mOp := fun _ k l st h => match st with
  | .ref _ :: st => bif Nat.ble (mCat st) 8 then k nx l st h else none
  | _ => none
/-- a static method m of n arguments -/
def o_cS (nx m n : Nat) : mOp := fun c k l st h => bif Nat.ble (mCat (st.drop n)) 8 && Nat.ble n st.length then
    match c m (st.take n).reverse h with
    | some (r, h1) => k nx l (r.toList ++ st.drop n) h1
    | none => none
  else none
/-- a method m of an object of tag t, with n arguments -/
def o_cV (nx m n t : Nat) : mOp := fun c k l st h => match st.drop n with
  | .ref a :: rest => bif Nat.ble (mCat rest) 8 && Nat.ble n st.length then
      if mTg h a = t then
        match c m (.ref a :: (st.take n).reverse) h with
        | some (r, h1) => k nx l (r.toList ++ rest) h1
        | none => none
      else none
    else none
  | _ => none
/-- a constructor -/
def o_cI (nx m n : Nat) : mOp := fun c k l st h => match st.drop n with
  | .ref a :: rest => bif Nat.ble (mCat rest) 8 && Nat.ble n st.length then
      match c m (.ref a :: (st.take n).reverse) h with
      | some (r, h1) => k nx l (r.toList ++ rest) h1
      | none => none
    else none
  | _ => none
def o_ri : mOp := fun _ _ _ st h => match st with
  | [.int x] => some (some (.int x), h)
  | _ => none
def o_rz : mOp := fun _ _ _ st h => match st with
  | [.int x] => if x = 0 ∨ x = 1 then some (some (.int x), h) else none
  | _ => none
def o_rl : mOp := fun _ _ _ st h => match st with
  | [.long x] => some (some (.long x), h)
  | _ => none
def o_rv : mOp := fun _ _ _ st h => match st with
  | [] => some (none, h)
  | _ => none
/-- the locals with which a method begins: a long takes two places -/
def mEn : List Value → mL
  | [] => []
  | v :: vs => if v.category = 2 then some v :: none :: mEn vs else some v :: mEn vs
def mArgs (n : Nat) (vs : List Value) : mL := mEn vs ++ List.replicate (n - (mEn vs).length) none
end
section
/-! ===== the small machine beside the great one ===== -/
def mTy : Nat → Nat → FieldType := fun t k => match t with
  | 1 => tyX0 k
  | 2 => tyX1 k
  | 3 => tyX2 k
  | 4 => tyX3 k
  | 5 => tyX4 k
  | 6 => tyX5 k
  | 7 => tyX6 k
  | 8 => tyX7 k
  | 9 => tyX8 k
  | 10 => tyX9 k
  | 11 => tyX10 k
  | 12 => tyX11 k
  | 20 => .int
  | 21 => .boolean
  | 22 => .long
  | 23 => .object RX5
  | 24 => .object RX6
  | _ => .array .int
def mVal (ty : FieldType) (i : Int32) (j : Int64) (p : Option Nat) : Value := match ty with
  | .long => .long j
  | .object _ => va_rf p
  | .array _ => va_rf p
  | _ => .int i
def mV (h : mH) (a k : Nat) : Value := mVal (mTy (mTg h a) k) (mI h a k) (mJ h a k) (mP h a k)
abbrev mCl : List vw_C := [(RX0, TX0, 4), (RX1, TX1, 2), (RX2, TX2, 3), (RX3, TX3, 2), (RX4, TX4, 3), (RX5, TX5, 9), (RX6, TX6, 18), (RX7, TX7, 3), (RX8, TX8, 4), (RX9, TX9, 4), (RX10, TX10, 12), (RX11, TX11, 53)]
/-- array classes by tag less 20 -/
abbrev mTys (dA : Nat → ClassId) : List (ClassId × FieldType) := [(dA 20, .int), (dA 21, .boolean), (dA 22, .long), (dA 23, .object RX5), (dA 24, .object RX6), (dA 25, .array .int)]
/-- what is fixed for the whole run: the classes' numbers and slots, the arrays' classes, where the new cells begin, where the script lies, its length, its ints, the heap at the start -/
abbrev mG : Type := va_G × (Nat → ClassId) × Nat × Nat × Nat × (Nat → Int32) × Heap
def gD (g : mG) : va_G := g.1
def gA (g : mG) : Nat → ClassId := g.2.1
def gB (g : mG) : Nat := g.2.2.1
def gb (g : mG) : Nat := g.2.2.2.1
def gL (g : mG) : Nat := g.2.2.2.2.1
def gx (g : mG) : Nat → Int32 := g.2.2.2.2.2.1
def gH (g : mG) : Heap := g.2.2.2.2.2.2
/-- the cell at a is as the small heap says -/
def mCR (g : mG) (h : mH) (H : Heap) (a : Nat) : Prop :=
  (∀ r : vw_C, mTg h a ≤ 12 → mCl[mTg h a - 1]? = some r → t_OB a ((gD g).1 (mTg h a - 1)) r.2.2 ((gD g).2 (mTg h a - 1)) H (mV h a)) ∧
  (20 ≤ mTg h a → H[a]? = some (arrV (gA g (mTg h a)) (mLn h a) (mV h a)))
def mHR (g : mG) (h : mH) (H : Heap) : Prop :=
  H.size = mTop h ∧ gB g ≤ mTop h ∧ gb g < gB g ∧ (∀ q : Nat, q < gB g → H[q]? = (gH g)[q]?) ∧
  ∀ a : Nat, mTg h a ≠ 0 → (a = gb g ∧ mTg h a = 30 ∧ mLn h a = gL g ∧ mI h a = gx g) ∨ (mTg h a < 30 ∧ gB g ≤ a ∧ a < mTop h ∧ mCR g h H a)
theorem mHR.in {g : mG} {h : mH} {H : Heap} (R : mHR g h H) {a t : Nat} (ht : mTg h a = t) (h0 : t ≠ 0) (h30 : t ≠ 30) : gB g ≤ a ∧ a < mTop h ∧ mCR g h H a := by
  rcases R.2.2.2.2 a (by rw [ht]; exact h0) with ⟨-, h2, -⟩ | ⟨-, h2⟩
  · exact absurd (ht.symm.trans h2) h30
  · exact h2
theorem mHR.obj {g : mG} {h : mH} {H : Heap} (R : mHR g h H) {a t : Nat} (ht : mTg h a = t + 1) (h12 : t < 12) {r : vw_C} (hr : mCl[t]? = some r) : t_OB a ((gD g).1 t) r.2.2 ((gD g).2 t) H (mV h a) := by
  have h1 := (R.in ht (by omega) (by omega)).2.2.1 r (by omega)
  rw [ht] at h1
  exact h1 hr
theorem mHR.arr {g : mG} {h : mH} {H : Heap} (R : mHR g h H) {a t : Nat} (ht : mTg h a = t) (h20 : 20 ≤ t) (h30 : t ≠ 30) : H[a]? = some (arrV (gA g t) (mLn h a) (mV h a)) := by
  have h1 := (R.in ht (by omega) h30).2.2.2 (by omega)
  rw [ht] at h1
  exact h1
theorem mHR.base {g : mG} {h : mH} {H : Heap} (R : mHR g h H) {a t : Nat} (ht : mTg h a = t) (h0 : t ≠ 0) (h30 : t ≠ 30) : gB g ≤ a := (R.in ht h0 h30).1
-- the small heap's own words
theorem mTop_wI {h : mH} {a k : Nat} {v : Int32} : mTop (wI h a k v) = mTop h := rfl
theorem mSl_wI {h : mH} {a k : Nat} {v : Int32} : mSl (wI h a k v) = mSl h := rfl
theorem mTg_wI {h : mH} {a k : Nat} {v : Int32} : mTg (wI h a k v) = mTg h := rfl
theorem mLn_wI {h : mH} {a k : Nat} {v : Int32} : mLn (wI h a k v) = mLn h := rfl
theorem mI_wI {h : mH} {a k : Nat} {v : Int32} {b j : Nat} : mI (wI h a k v) b j = if b = a ∧ j = k then v else mI h b j := rfl
theorem mJ_wI {h : mH} {a k : Nat} {v : Int32} : mJ (wI h a k v) = mJ h := rfl
theorem mP_wI {h : mH} {a k : Nat} {v : Int32} : mP (wI h a k v) = mP h := rfl
theorem mTop_wJ {h : mH} {a k : Nat} {v : Int64} : mTop (wJ h a k v) = mTop h := rfl
theorem mSl_wJ {h : mH} {a k : Nat} {v : Int64} : mSl (wJ h a k v) = mSl h := rfl
theorem mTg_wJ {h : mH} {a k : Nat} {v : Int64} : mTg (wJ h a k v) = mTg h := rfl
theorem mLn_wJ {h : mH} {a k : Nat} {v : Int64} : mLn (wJ h a k v) = mLn h := rfl
theorem mI_wJ {h : mH} {a k : Nat} {v : Int64} : mI (wJ h a k v) = mI h := rfl
theorem mJ_wJ {h : mH} {a k : Nat} {v : Int64} {b j : Nat} : mJ (wJ h a k v) b j = if b = a ∧ j = k then v else mJ h b j := rfl
theorem mP_wJ {h : mH} {a k : Nat} {v : Int64} : mP (wJ h a k v) = mP h := rfl
theorem mTop_wP {h : mH} {a k : Nat} {v : Option Nat} : mTop (wP h a k v) = mTop h := rfl
theorem mSl_wP {h : mH} {a k : Nat} {v : Option Nat} : mSl (wP h a k v) = mSl h := rfl
theorem mTg_wP {h : mH} {a k : Nat} {v : Option Nat} : mTg (wP h a k v) = mTg h := rfl
theorem mLn_wP {h : mH} {a k : Nat} {v : Option Nat} : mLn (wP h a k v) = mLn h := rfl
theorem mI_wP {h : mH} {a k : Nat} {v : Option Nat} : mI (wP h a k v) = mI h := rfl
theorem mJ_wP {h : mH} {a k : Nat} {v : Option Nat} : mJ (wP h a k v) = mJ h := rfl
theorem mP_wP {h : mH} {a k : Nat} {v : Option Nat} {b j : Nat} : mP (wP h a k v) b j = if b = a ∧ j = k then v else mP h b j := rfl
theorem mTop_wN {h : mH} {t n : Nat} : mTop (wN h t n) = mTop h + 1 := rfl
theorem mSl_wN {h : mH} {t n : Nat} : mSl (wN h t n) = mSl h + n := rfl
theorem mTg_wN {h : mH} {t n a : Nat} : mTg (wN h t n) a = if a = mTop h then t else mTg h a := rfl
theorem mLn_wN {h : mH} {t n a : Nat} : mLn (wN h t n) a = if a = mTop h then n else mLn h a := rfl
theorem mI_wN {h : mH} {t n a : Nat} : mI (wN h t n) a = if a = mTop h then (fun _ => 0) else mI h a := rfl
theorem mJ_wN {h : mH} {t n a : Nat} : mJ (wN h t n) a = if a = mTop h then (fun _ => 0) else mJ h a := rfl
theorem mP_wN {h : mH} {t n a : Nat} : mP (wN h t n) a = if a = mTop h then (fun _ => none) else mP h a := rfl
/-- one cell's contents have changed, at one place -/
theorem mHR.put {g : mG} {h h' : mH} {H H' : Heap} {a t k : Nat} {v : Value} (R : mHR g h H) (ht : mTg h a = t) (h0 : t ≠ 0) (h30 : t ≠ 30)
    (e1 : mTop h' = mTop h) (e2 : mTg h' = mTg h) (e3 : mLn h' = mLn h) (e4 : ∀ b, b ≠ a → mI h' b = mI h b) (e5 : ∀ b j, b ≠ a → mV h' b j = mV h b j)
    (hz : H'.size = H.size) (oq : ∀ q : Nat, q ≠ a → H'[q]? = H[q]?) (hc : mCR g h' H' a) : mHR g h' H' := by
  obtain ⟨r1, r2, r3, r4, r5⟩ := id R
  have hb := (R.in ht h0 h30)
  refine ⟨by rw [hz, r1, e1], by rw [e1]; exact r2, r3, fun q hq => ?_, fun b hb0 => ?_⟩
  · rw [oq q (by omega)]
    exact r4 q hq
  · rw [e2] at hb0
    rcases r5 b hb0 with ⟨x1, x2, x3, x4⟩ | ⟨x1, x2, x3, x4⟩
    · have hne : b ≠ a := by
        intro e
        rw [e] at x1
        omega
      exact Or.inl ⟨x1, by rw [e2]; exact x2, by rw [e3]; exact x3, by rw [e4 b hne]; exact x4⟩
    · refine Or.inr ⟨by rw [e2]; exact x1, x2, by rw [e1]; exact x3, ?_⟩
      by_cases hne : b = a
      · subst hne
        exact hc
      · have hv : mV h' b = mV h b := funext fun j => e5 b j hne
        refine ⟨fun r hr1 hr2 => ?_, fun h20 => ?_⟩
        · rw [e2] at hr1 hr2 ⊢
          rw [hv]
          exact (x4.1 r hr1 hr2).kept (oq b hne)
        · rw [e2] at h20 ⊢
          rw [e3, hv, oq b hne]
          exact x4.2 h20
/-- a new cell at the top -/
theorem mHR.push {g : mG} {h : mH} {H H' : Heap} {t n : Nat} (R : mHR g h H) (ht : t < 30) (hz : H'.size = mTop h + 1) (oq : ∀ q : Nat, q < mTop h → H'[q]? = H[q]?) (hc : mCR g (wN h t n) H' (mTop h)) : mHR g (wN h t n) H' := by
  obtain ⟨r1, r2, r3, r4, r5⟩ := id R
  refine ⟨hz, by rw [mTop_wN]; omega, r3, fun q hq => ?_, fun b hb0 => ?_⟩
  · rw [oq q (by omega)]
    exact r4 q hq
  · by_cases hb : b = mTop h
    · subst hb
      exact Or.inr ⟨by rw [mTg_wN, if_pos rfl]; exact ht, r2, by rw [mTop_wN]; omega, hc⟩
    · have q1 : mTg (wN h t n) b = mTg h b := by rw [mTg_wN, if_neg hb]
      have q2 : mLn (wN h t n) b = mLn h b := by rw [mLn_wN, if_neg hb]
      have q3 : mI (wN h t n) b = mI h b := by rw [mI_wN, if_neg hb]
      have q4 : mJ (wN h t n) b = mJ h b := by rw [mJ_wN, if_neg hb]
      have q5 : mP (wN h t n) b = mP h b := by rw [mP_wN, if_neg hb]
      have q6 : mV (wN h t n) b = mV h b := funext fun j => by unfold mV; rw [q1, q3, q4, q5]
      rw [q1] at hb0
      rcases r5 b hb0 with ⟨x1, x2, x3, x4⟩ | ⟨x1, x2, x3, x4⟩
      · exact Or.inl ⟨x1, by rw [q1]; exact x2, by rw [q2]; exact x3, by rw [q3]; exact x4⟩
      · refine Or.inr ⟨by rw [q1]; exact x1, x2, by rw [mTop_wN]; omega, ⟨fun r hr1 hr2 => ?_, fun h20 => ?_⟩⟩
        · rw [q1] at hr1 hr2 ⊢
          rw [q6]
          exact (x4.1 r hr1 hr2).kept (oq b x3)
        · rw [q1] at h20 ⊢
          rw [q2, q6, oq b x3]
          exact x4.2 h20
-- locals
def mLV (ls : Array Slot) (nL : Nat) (l : mL) : Prop := ls.size = nL ∧ lv_wf ls ∧ l.length = nL ∧ ∀ (i : Nat) (v : Value), l[i]? = some (some v) → ls[i]? = some (.val v)
def mAs (l : mL) : List (Nat × Value) := (List.range l.length).filterMap (fun i => match l[i]? with
  | some (some v) => some (i, v)
  | _ => none)
theorem mAs_in {l : mL} {i : Nat} {v : Value} : (i, v) ∈ mAs l ↔ l[i]? = some (some v) := by
  unfold mAs
  rw [List.mem_filterMap]
  constructor
  · rintro ⟨j, -, hj⟩
    split at hj
    · next w hw =>
      cases hj
      exact hw
    · cases hj
  · intro h
    refine ⟨i, List.mem_range.mpr (List.getElem?_eq_some_iff.mp h).1, ?_⟩
    rw [h]
theorem mLV.has {ls : Array Slot} {nL : Nat} {l : mL} (h : mLV ls nL l) : lv_has ls nL (mAs l) := ⟨h.1, h.2.1, fun q hq => h.2.2.2 q.1 q.2 (mAs_in.mp hq)⟩
theorem mFree_spec {l : mL} {i j : Nat} {v : Value} (h : mFree l i = true) (hj : j + 1 = i) (hv : l[j]? = some (some v)) : ¬ v.category = 2 := by
  subst hj
  simp only [mFree, hv] at h
  cases v <;> simp_all [Value.category]
theorem mLV.set1 {ls ls' : Array Slot} {nL : Nat} {l : mL} {i : Nat} {v : Value} (h : mLV ls nL l) (hf : mFree l i = true) (hi : i < l.length) (h' : lv_has ls' nL ((i, v) :: (mAs l).filter (fun q => !(q.1 == i) && !(q.1 + 1 == i && q.2.category == 2)))) : mLV ls' nL (l.set i (some v)) := by
  refine ⟨h'.1, h'.2.1, by rw [List.length_set]; exact h.2.2.1, fun j w hj => ?_⟩
  by_cases hji : j = i
  · subst hji
    rw [List.getElem?_set_self hi] at hj
    cases hj
    exact h'.2.2 (j, v) List.mem_cons_self
  · rw [List.getElem?_set_ne (Ne.symm hji)] at hj
    refine h'.2.2 (j, w) (List.mem_cons_of_mem _ (List.mem_filter.mpr ⟨mAs_in.mpr hj, ?_⟩))
    have h3 : ¬ (j + 1 = i ∧ w.category = 2) := fun q => mFree_spec hf q.1 hj q.2
    simp only [Bool.and_eq_true, Bool.not_eq_true', beq_eq_false_iff_ne, ne_eq, Bool.and_eq_false_iff]
    exact ⟨hji, by
      by_cases e1 : j + 1 = i
      · exact Or.inr fun e2 => h3 ⟨e1, e2⟩
      · exact Or.inl e1⟩
theorem mLV.set2 {ls ls' : Array Slot} {nL : Nat} {l : mL} {i : Nat} {v : Value} (h : mLV ls nL l) (hf : mFree l i = true) (hi : i + 1 < l.length) (h' : lv_has ls' nL ((i, v) :: (mAs l).filter (fun q => !(q.1 == i) && (!(q.1 == i + 1) && !(q.1 + 1 == i && q.2.category == 2))))) : mLV ls' nL ((l.set i (some v)).set (i + 1) none) := by
  refine ⟨h'.1, h'.2.1, by rw [List.length_set, List.length_set]; exact h.2.2.1, fun j w hj => ?_⟩
  by_cases hj1 : j = i + 1
  · subst hj1
    rw [List.getElem?_set_self (by rw [List.length_set]; exact hi)] at hj
    cases hj
  · rw [List.getElem?_set_ne (Ne.symm hj1)] at hj
    by_cases hji : j = i
    · subst hji
      rw [List.getElem?_set_self (by omega)] at hj
      cases hj
      exact h'.2.2 (j, v) List.mem_cons_self
    · rw [List.getElem?_set_ne (Ne.symm hji)] at hj
      refine h'.2.2 (j, w) (List.mem_cons_of_mem _ (List.mem_filter.mpr ⟨mAs_in.mpr hj, ?_⟩))
      have h3 : ¬ (j + 1 = i ∧ w.category = 2) := fun q => mFree_spec hf q.1 hj q.2
      simp only [Bool.and_eq_true, Bool.not_eq_true', beq_eq_false_iff_ne, ne_eq, Bool.and_eq_false_iff]
      exact ⟨hji, hj1, by
        by_cases e1 : j + 1 = i
        · exact Or.inr fun e2 => h3 ⟨e1, e2⟩
        · exact Or.inl e1⟩
theorem mEn_args : ∀ (vs : List Value) (i j : Nat) (v : Value), (mEn vs)[j]? = some (some v) → (i + j, v) ∈ lv_args i vs
  | [], i, j, v, h => by simp [mEn] at h
  | w :: vs, i, j, v, h => by
    unfold mEn at h
    unfold lv_args
    by_cases hc : w.category = 2
    · rw [if_pos hc] at h ⊢
      match j, h with
      | 0, h => cases h; exact List.mem_cons_self
      | 1, h => cases h
      | j + 2, h =>
        have := mEn_args vs (i + 2) j v h
        rw [show i + (j + 2) = i + 2 + j by omega]
        exact List.mem_cons_of_mem _ this
    · rw [if_neg hc] at h ⊢
      match j, h with
      | 0, h => cases h; exact List.mem_cons_self
      | j + 1, h =>
        have := mEn_args vs (i + 1) j v h
        rw [show i + (j + 1) = i + 1 + j by omega]
        exact List.mem_cons_of_mem _ this
theorem mEn_len : ∀ vs : List Value, (mEn vs).length = (lg_sl vs).length
  | [] => rfl
  | w :: vs => by
    have := mEn_len vs
    unfold mEn
    by_cases hc : w.category = 2
    · rw [if_pos hc]
      simp [lg_sl, hc] at this ⊢
      omega
    · rw [if_neg hc]
      simp [lg_sl, hc] at this ⊢
      omega
theorem mLV_entry (vs : List Value) {n : Nat} (h : (mEn vs).length ≤ n) : mLV ((lg_sl vs ++ List.replicate (n - (lg_sl vs).length) Slot.unset).toArray) n (mArgs n vs) := by
  have h1 := lv_entry vs (n := n) (by rw [← mEn_len]; exact h)
  refine ⟨h1.1, h1.2.1, by unfold mArgs; rw [List.length_append, List.length_replicate]; omega, fun i v hi => ?_⟩
  unfold mArgs at hi
  by_cases hl : i < (mEn vs).length
  · rw [List.getElem?_append_left hl] at hi
    have := mEn_args vs 0 i v hi
    rw [Nat.zero_add] at this
    exact h1.2.2 (i, v) this
  · rw [List.getElem?_append_right (by omega), List.getElem?_replicate] at hi
    split at hi <;> cases hi
end
