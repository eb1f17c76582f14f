section
/-- a private method of a class that the tables say can be made, by its rows of tables_1 -/
def lw_okq (q : MethodName × Nat) : Prop := (q.1.cls ≠ "java/lang/invoke/MethodHandle" ∧ q.1.cls ≠ "java/lang/invoke/VarHandle") ∧ Cond.instantiable q.1.cls q.2 ∈ tables_1 ∧ Cond.privateMethod q.1 ∈ tables_1 ∧ Cond.instanceMethod q.1 ∈ tables_1
theorem lw_p0 : lw_okq (⟨"RoundVotes", "isNode", "(I)Z"⟩, 12) := ⟨⟨by decide +kernel, by decide +kernel⟩, List.mem_of_getElem? (i := 16) (by decide +kernel), List.mem_of_getElem? (i := 370) (by decide +kernel), List.mem_of_getElem? (i := 371) (by decide +kernel)⟩
theorem lw_p1 : lw_okq (⟨"RoundVotes", "greatestHeight", "()I"⟩, 12) := ⟨⟨by decide +kernel, by decide +kernel⟩, List.mem_of_getElem? (i := 16) (by decide +kernel), List.mem_of_getElem? (i := 375) (by decide +kernel), List.mem_of_getElem? (i := 376) (by decide +kernel)⟩
theorem lw_p2 : lw_okq (⟨"RoundVotes", "beginAll", "()V"⟩, 12) := ⟨⟨by decide +kernel, by decide +kernel⟩, List.mem_of_getElem? (i := 16) (by decide +kernel), List.mem_of_getElem? (i := 416) (by decide +kernel), List.mem_of_getElem? (i := 417) (by decide +kernel)⟩
theorem lw_p3 : lw_okq (⟨"RoundVotes$Node", "standsStill", "()Z"⟩, 18) := ⟨⟨by decide +kernel, by decide +kernel⟩, List.mem_of_getElem? (i := 118) (by decide +kernel), List.mem_of_getElem? (i := 424) (by decide +kernel), List.mem_of_getElem? (i := 425) (by decide +kernel)⟩
theorem lw_p4 : lw_okq (⟨"RoundVotes$Node", "send", "(III)V"⟩, 18) := ⟨⟨by decide +kernel, by decide +kernel⟩, List.mem_of_getElem? (i := 118) (by decide +kernel), List.mem_of_getElem? (i := 443) (by decide +kernel), List.mem_of_getElem? (i := 444) (by decide +kernel)⟩
theorem lw_p5 : lw_okq (⟨"RoundVotes", "settle", "(LRoundVotes$Node;)V"⟩, 12) := ⟨⟨by decide +kernel, by decide +kernel⟩, List.mem_of_getElem? (i := 16) (by decide +kernel), List.mem_of_getElem? (i := 463) (by decide +kernel), List.mem_of_getElem? (i := 464) (by decide +kernel)⟩
theorem lw_p6 : lw_okq (⟨"RoundVotes", "dispatch", "(LRoundVotes$Node;)V"⟩, 12) := ⟨⟨by decide +kernel, by decide +kernel⟩, List.mem_of_getElem? (i := 16) (by decide +kernel), List.mem_of_getElem? (i := 467) (by decide +kernel), List.mem_of_getElem? (i := 468) (by decide +kernel)⟩
theorem lw_p7 : lw_okq (⟨"RoundVotes", "sendCopy", "(LRoundVotes$Message;)V"⟩, 12) := ⟨⟨by decide +kernel, by decide +kernel⟩, List.mem_of_getElem? (i := 16) (by decide +kernel), List.mem_of_getElem? (i := 489) (by decide +kernel), List.mem_of_getElem? (i := 490) (by decide +kernel)⟩
theorem lw_p8 : lw_okq (⟨"RoundVotes", "areOnUnlikeSides", "(II)Z"⟩, 12) := ⟨⟨by decide +kernel, by decide +kernel⟩, List.mem_of_getElem? (i := 16) (by decide +kernel), List.mem_of_getElem? (i := 497) (by decide +kernel), List.mem_of_getElem? (i := 498) (by decide +kernel)⟩
theorem lw_p9 : lw_okq (⟨"RoundVotes$Node", "roundToDecide", "()I"⟩, 18) := ⟨⟨by decide +kernel, by decide +kernel⟩, List.mem_of_getElem? (i := 118) (by decide +kernel), List.mem_of_getElem? (i := 514) (by decide +kernel), List.mem_of_getElem? (i := 515) (by decide +kernel)⟩
theorem lw_p10 : lw_okq (⟨"RoundVotes$Node", "proposalOf", "(I)I"⟩, 18) := ⟨⟨by decide +kernel, by decide +kernel⟩, List.mem_of_getElem? (i := 118) (by decide +kernel), List.mem_of_getElem? (i := 518) (by decide +kernel), List.mem_of_getElem? (i := 519) (by decide +kernel)⟩
theorem lw_p11 : lw_okq (⟨"RoundVotes$Node", "areMany", "(I)Z"⟩, 18) := ⟨⟨by decide +kernel, by decide +kernel⟩, List.mem_of_getElem? (i := 118) (by decide +kernel), List.mem_of_getElem? (i := 527) (by decide +kernel), List.mem_of_getElem? (i := 528) (by decide +kernel)⟩
theorem lw_p12 : lw_okq (⟨"RoundVotes$Node", "decide", "(I)V"⟩, 18) := ⟨⟨by decide +kernel, by decide +kernel⟩, List.mem_of_getElem? (i := 118) (by decide +kernel), List.mem_of_getElem? (i := 535) (by decide +kernel), List.mem_of_getElem? (i := 536) (by decide +kernel)⟩
theorem lw_p13 : lw_okq (⟨"RoundVotes$Node", "goToNextHeight", "()V"⟩, 18) := ⟨⟨by decide +kernel, by decide +kernel⟩, List.mem_of_getElem? (i := 118) (by decide +kernel), List.mem_of_getElem? (i := 543) (by decide +kernel), List.mem_of_getElem? (i := 544) (by decide +kernel)⟩
theorem lw_p14 : lw_okq (⟨"RoundVotes$Node", "roundToJoin", "()I"⟩, 18) := ⟨⟨by decide +kernel, by decide +kernel⟩, List.mem_of_getElem? (i := 118) (by decide +kernel), List.mem_of_getElem? (i := 556) (by decide +kernel), List.mem_of_getElem? (i := 557) (by decide +kernel)⟩
theorem lw_p15 : lw_okq (⟨"RoundVotes$Node", "areSome", "(I)Z"⟩, 18) := ⟨⟨by decide +kernel, by decide +kernel⟩, List.mem_of_getElem? (i := 118) (by decide +kernel), List.mem_of_getElem? (i := 565) (by decide +kernel), List.mem_of_getElem? (i := 566) (by decide +kernel)⟩
def lw_privs_1 : List (MethodName × Nat) := [(⟨"RoundVotes", "isNode", "(I)Z"⟩, 12), (⟨"RoundVotes", "greatestHeight", "()I"⟩, 12), (⟨"RoundVotes", "beginAll", "()V"⟩, 12), (⟨"RoundVotes$Node", "standsStill", "()Z"⟩, 18), (⟨"RoundVotes$Node", "send", "(III)V"⟩, 18), (⟨"RoundVotes", "settle", "(LRoundVotes$Node;)V"⟩, 12), (⟨"RoundVotes", "dispatch", "(LRoundVotes$Node;)V"⟩, 12), (⟨"RoundVotes", "sendCopy", "(LRoundVotes$Message;)V"⟩, 12), (⟨"RoundVotes", "areOnUnlikeSides", "(II)Z"⟩, 12), (⟨"RoundVotes$Node", "roundToDecide", "()I"⟩, 18), (⟨"RoundVotes$Node", "proposalOf", "(I)I"⟩, 18), (⟨"RoundVotes$Node", "areMany", "(I)Z"⟩, 18), (⟨"RoundVotes$Node", "decide", "(I)V"⟩, 18), (⟨"RoundVotes$Node", "goToNextHeight", "()V"⟩, 18), (⟨"RoundVotes$Node", "roundToJoin", "()I"⟩, 18), (⟨"RoundVotes$Node", "areSome", "(I)Z"⟩, 18)]
theorem lw_r1 : ∀ q ∈ lw_privs_1, lw_okq q := List.forall_mem_cons.mpr ⟨lw_p0, List.forall_mem_cons.mpr ⟨lw_p1, List.forall_mem_cons.mpr ⟨lw_p2, List.forall_mem_cons.mpr ⟨lw_p3, List.forall_mem_cons.mpr ⟨lw_p4, List.forall_mem_cons.mpr ⟨lw_p5, List.forall_mem_cons.mpr ⟨lw_p6, List.forall_mem_cons.mpr ⟨lw_p7, List.forall_mem_cons.mpr ⟨lw_p8, List.forall_mem_cons.mpr ⟨lw_p9, List.forall_mem_cons.mpr ⟨lw_p10, List.forall_mem_cons.mpr ⟨lw_p11, List.forall_mem_cons.mpr ⟨lw_p12, List.forall_mem_cons.mpr ⟨lw_p13, List.forall_mem_cons.mpr ⟨lw_p14, List.forall_mem_cons.mpr ⟨lw_p15, fun _ h => absurd h List.not_mem_nil⟩⟩⟩⟩⟩⟩⟩⟩⟩⟩⟩⟩⟩⟩⟩⟩
theorem lw_p16 : lw_okq (⟨"RoundVotes$Node", "answersProposal", "()Z"⟩, 18) := ⟨⟨by decide +kernel, by decide +kernel⟩, List.mem_of_getElem? (i := 118) (by decide +kernel), List.mem_of_getElem? (i := 569) (by decide +kernel), List.mem_of_getElem? (i := 570) (by decide +kernel)⟩
theorem lw_p17 : lw_okq (⟨"RoundVotes$Node", "lockAllows", "(II)Z"⟩, 18) := ⟨⟨by decide +kernel, by decide +kernel⟩, List.mem_of_getElem? (i := 118) (by decide +kernel), List.mem_of_getElem? (i := 573) (by decide +kernel), List.mem_of_getElem? (i := 574) (by decide +kernel)⟩
theorem lw_p18 : lw_okq (⟨"RoundVotes$Node", "locks", "()Z"⟩, 18) := ⟨⟨by decide +kernel, by decide +kernel⟩, List.mem_of_getElem? (i := 118) (by decide +kernel), List.mem_of_getElem? (i := 577) (by decide +kernel), List.mem_of_getElem? (i := 578) (by decide +kernel)⟩
theorem lw_p19 : lw_okq (⟨"RoundVotes$Node", "givesUpValue", "()Z"⟩, 18) := ⟨⟨by decide +kernel, by decide +kernel⟩, List.mem_of_getElem? (i := 118) (by decide +kernel), List.mem_of_getElem? (i := 581) (by decide +kernel), List.mem_of_getElem? (i := 582) (by decide +kernel)⟩
theorem lw_p20 : lw_okq (⟨"RoundVotes$Node", "waitsForPrevotes", "(I)Z"⟩, 18) := ⟨⟨by decide +kernel, by decide +kernel⟩, List.mem_of_getElem? (i := 118) (by decide +kernel), List.mem_of_getElem? (i := 585) (by decide +kernel), List.mem_of_getElem? (i := 586) (by decide +kernel)⟩
theorem lw_p21 : lw_okq (⟨"RoundVotes$Node", "waitsForPrecommits", "(I)Z"⟩, 18) := ⟨⟨by decide +kernel, by decide +kernel⟩, List.mem_of_getElem? (i := 118) (by decide +kernel), List.mem_of_getElem? (i := 589) (by decide +kernel), List.mem_of_getElem? (i := 590) (by decide +kernel)⟩
theorem lw_p22 : lw_okq (⟨"RoundVotes", "bringNodesBack", "()V"⟩, 12) := ⟨⟨by decide +kernel, by decide +kernel⟩, List.mem_of_getElem? (i := 16) (by decide +kernel), List.mem_of_getElem? (i := 593) (by decide +kernel), List.mem_of_getElem? (i := 594) (by decide +kernel)⟩
theorem lw_p23 : lw_okq (⟨"RoundVotes", "bringCopies", "()V"⟩, 12) := ⟨⟨by decide +kernel, by decide +kernel⟩, List.mem_of_getElem? (i := 16) (by decide +kernel), List.mem_of_getElem? (i := 601) (by decide +kernel), List.mem_of_getElem? (i := 602) (by decide +kernel)⟩
theorem lw_p24 : lw_okq (⟨"RoundVotes", "handOver", "(LRoundVotes$Message;)V"⟩, 12) := ⟨⟨by decide +kernel, by decide +kernel⟩, List.mem_of_getElem? (i := 16) (by decide +kernel), List.mem_of_getElem? (i := 605) (by decide +kernel), List.mem_of_getElem? (i := 606) (by decide +kernel)⟩
theorem lw_p25 : lw_okq (⟨"RoundVotes$Faults", "isKnown", "(LRoundVotes$Message;)Z"⟩, 2) := ⟨⟨by decide +kernel, by decide +kernel⟩, List.mem_of_getElem? (i := 68) (by decide +kernel), List.mem_of_getElem? (i := 617) (by decide +kernel), List.mem_of_getElem? (i := 618) (by decide +kernel)⟩
theorem lw_p26 : lw_okq (⟨"RoundVotes", "endTimers", "()V"⟩, 12) := ⟨⟨by decide +kernel, by decide +kernel⟩, List.mem_of_getElem? (i := 16) (by decide +kernel), List.mem_of_getElem? (i := 629) (by decide +kernel), List.mem_of_getElem? (i := 630) (by decide +kernel)⟩
theorem lw_p27 : lw_okq (⟨"RoundVotes", "tellerOf", "(II)I"⟩, 12) := ⟨⟨by decide +kernel, by decide +kernel⟩, List.mem_of_getElem? (i := 16) (by decide +kernel), List.mem_of_getElem? (i := 641) (by decide +kernel), List.mem_of_getElem? (i := 642) (by decide +kernel)⟩
theorem lw_p28 : lw_okq (⟨"RoundVotes", "greatestDecided", "()I"⟩, 12) := ⟨⟨by decide +kernel, by decide +kernel⟩, List.mem_of_getElem? (i := 16) (by decide +kernel), List.mem_of_getElem? (i := 689) (by decide +kernel), List.mem_of_getElem? (i := 690) (by decide +kernel)⟩
theorem lw_p29 : lw_okq (⟨"RoundVotesModel", "clearHeight", "(II)V"⟩, 53) := ⟨⟨by decide +kernel, by decide +kernel⟩, List.mem_of_getElem? (i := 700) (by decide +kernel), List.mem_of_getElem? (i := 707) (by decide +kernel), List.mem_of_getElem? (i := 708) (by decide +kernel)⟩
theorem lw_p30 : lw_okq (⟨"RoundVotesModel", "place", "(IIIII)I"⟩, 53) := ⟨⟨by decide +kernel, by decide +kernel⟩, List.mem_of_getElem? (i := 700) (by decide +kernel), List.mem_of_getElem? (i := 711) (by decide +kernel), List.mem_of_getElem? (i := 712) (by decide +kernel)⟩
theorem lw_p31 : lw_okq (⟨"RoundVotesModel", "roundPlace", "(IIII)I"⟩, 53) := ⟨⟨by decide +kernel, by decide +kernel⟩, List.mem_of_getElem? (i := 700) (by decide +kernel), List.mem_of_getElem? (i := 715) (by decide +kernel), List.mem_of_getElem? (i := 716) (by decide +kernel)⟩
def lw_privs_2 : List (MethodName × Nat) := [(⟨"RoundVotes$Node", "answersProposal", "()Z"⟩, 18), (⟨"RoundVotes$Node", "lockAllows", "(II)Z"⟩, 18), (⟨"RoundVotes$Node", "locks", "()Z"⟩, 18), (⟨"RoundVotes$Node", "givesUpValue", "()Z"⟩, 18), (⟨"RoundVotes$Node", "waitsForPrevotes", "(I)Z"⟩, 18), (⟨"RoundVotes$Node", "waitsForPrecommits", "(I)Z"⟩, 18), (⟨"RoundVotes", "bringNodesBack", "()V"⟩, 12), (⟨"RoundVotes", "bringCopies", "()V"⟩, 12), (⟨"RoundVotes", "handOver", "(LRoundVotes$Message;)V"⟩, 12), (⟨"RoundVotes$Faults", "isKnown", "(LRoundVotes$Message;)Z"⟩, 2), (⟨"RoundVotes", "endTimers", "()V"⟩, 12), (⟨"RoundVotes", "tellerOf", "(II)I"⟩, 12), (⟨"RoundVotes", "greatestDecided", "()I"⟩, 12), (⟨"RoundVotesModel", "clearHeight", "(II)V"⟩, 53), (⟨"RoundVotesModel", "place", "(IIIII)I"⟩, 53), (⟨"RoundVotesModel", "roundPlace", "(IIII)I"⟩, 53)]
theorem lw_r2 : ∀ q ∈ lw_privs_2, lw_okq q := List.forall_mem_cons.mpr ⟨lw_p16, List.forall_mem_cons.mpr ⟨lw_p17, List.forall_mem_cons.mpr ⟨lw_p18, List.forall_mem_cons.mpr ⟨lw_p19, List.forall_mem_cons.mpr ⟨lw_p20, List.forall_mem_cons.mpr ⟨lw_p21, List.forall_mem_cons.mpr ⟨lw_p22, List.forall_mem_cons.mpr ⟨lw_p23, List.forall_mem_cons.mpr ⟨lw_p24, List.forall_mem_cons.mpr ⟨lw_p25, List.forall_mem_cons.mpr ⟨lw_p26, List.forall_mem_cons.mpr ⟨lw_p27, List.forall_mem_cons.mpr ⟨lw_p28, List.forall_mem_cons.mpr ⟨lw_p29, List.forall_mem_cons.mpr ⟨lw_p30, List.forall_mem_cons.mpr ⟨lw_p31, fun _ h => absurd h List.not_mem_nil⟩⟩⟩⟩⟩⟩⟩⟩⟩⟩⟩⟩⟩⟩⟩⟩
theorem lw_p32 : lw_okq (⟨"RoundVotesModel", "clearSigned", "(I)V"⟩, 53) := ⟨⟨by decide +kernel, by decide +kernel⟩, List.mem_of_getElem? (i := 700) (by decide +kernel), List.mem_of_getElem? (i := 719) (by decide +kernel), List.mem_of_getElem? (i := 720) (by decide +kernel)⟩
theorem lw_p33 : lw_okq (⟨"RoundVotesModel", "oneTurn", "()V"⟩, 53) := ⟨⟨by decide +kernel, by decide +kernel⟩, List.mem_of_getElem? (i := 700) (by decide +kernel), List.mem_of_getElem? (i := 892) (by decide +kernel), List.mem_of_getElem? (i := 893) (by decide +kernel)⟩
theorem lw_p34 : lw_okq (⟨"RoundVotesModel", "begin", "(II)V"⟩, 53) := ⟨⟨by decide +kernel, by decide +kernel⟩, List.mem_of_getElem? (i := 700) (by decide +kernel), List.mem_of_getElem? (i := 896) (by decide +kernel), List.mem_of_getElem? (i := 897) (by decide +kernel)⟩
theorem lw_p35 : lw_okq (⟨"RoundVotesModel", "proposer", "(II)I"⟩, 53) := ⟨⟨by decide +kernel, by decide +kernel⟩, List.mem_of_getElem? (i := 700) (by decide +kernel), List.mem_of_getElem? (i := 900) (by decide +kernel), List.mem_of_getElem? (i := 901) (by decide +kernel)⟩
theorem lw_p36 : lw_okq (⟨"RoundVotesModel", "send", "(IIII)V"⟩, 53) := ⟨⟨by decide +kernel, by decide +kernel⟩, List.mem_of_getElem? (i := 700) (by decide +kernel), List.mem_of_getElem? (i := 904) (by decide +kernel), List.mem_of_getElem? (i := 905) (by decide +kernel)⟩
theorem lw_p37 : lw_okq (⟨"RoundVotesModel", "keep", "(IIIIIIIZ)V"⟩, 53) := ⟨⟨by decide +kernel, by decide +kernel⟩, List.mem_of_getElem? (i := 700) (by decide +kernel), List.mem_of_getElem? (i := 908) (by decide +kernel), List.mem_of_getElem? (i := 909) (by decide +kernel)⟩
theorem lw_p38 : lw_okq (⟨"RoundVotesModel", "accuse", "(IIIII)V"⟩, 53) := ⟨⟨by decide +kernel, by decide +kernel⟩, List.mem_of_getElem? (i := 700) (by decide +kernel), List.mem_of_getElem? (i := 912) (by decide +kernel), List.mem_of_getElem? (i := 913) (by decide +kernel)⟩
theorem lw_p39 : lw_okq (⟨"RoundVotesModel", "copy", "(IIIIIII)V"⟩, 53) := ⟨⟨by decide +kernel, by decide +kernel⟩, List.mem_of_getElem? (i := 700) (by decide +kernel), List.mem_of_getElem? (i := 919) (by decide +kernel), List.mem_of_getElem? (i := 920) (by decide +kernel)⟩
theorem lw_p40 : lw_okq (⟨"RoundVotesModel", "noteSent", "(IIIII)V"⟩, 53) := ⟨⟨by decide +kernel, by decide +kernel⟩, List.mem_of_getElem? (i := 700) (by decide +kernel), List.mem_of_getElem? (i := 923) (by decide +kernel), List.mem_of_getElem? (i := 924) (by decide +kernel)⟩
theorem lw_p41 : lw_okq (⟨"RoundVotesModel", "sentPlace", "(IIII)I"⟩, 53) := ⟨⟨by decide +kernel, by decide +kernel⟩, List.mem_of_getElem? (i := 700) (by decide +kernel), List.mem_of_getElem? (i := 927) (by decide +kernel), List.mem_of_getElem? (i := 928) (by decide +kernel)⟩
theorem lw_p42 : lw_okq (⟨"RoundVotesModel", "areApart", "(II)Z"⟩, 53) := ⟨⟨by decide +kernel, by decide +kernel⟩, List.mem_of_getElem? (i := 700) (by decide +kernel), List.mem_of_getElem? (i := 931) (by decide +kernel), List.mem_of_getElem? (i := 932) (by decide +kernel)⟩
theorem lw_p43 : lw_okq (⟨"RoundVotesModel", "put", "(IIIIIIIIZ)V"⟩, 53) := ⟨⟨by decide +kernel, by decide +kernel⟩, List.mem_of_getElem? (i := 700) (by decide +kernel), List.mem_of_getElem? (i := 935) (by decide +kernel), List.mem_of_getElem? (i := 936) (by decide +kernel)⟩
theorem lw_p44 : lw_okq (⟨"RoundVotesModel", "ownValue", "(III)I"⟩, 53) := ⟨⟨by decide +kernel, by decide +kernel⟩, List.mem_of_getElem? (i := 700) (by decide +kernel), List.mem_of_getElem? (i := 939) (by decide +kernel), List.mem_of_getElem? (i := 940) (by decide +kernel)⟩
theorem lw_p45 : lw_okq (⟨"RoundVotesModel", "rules", "(I)V"⟩, 53) := ⟨⟨by decide +kernel, by decide +kernel⟩, List.mem_of_getElem? (i := 700) (by decide +kernel), List.mem_of_getElem? (i := 946) (by decide +kernel), List.mem_of_getElem? (i := 947) (by decide +kernel)⟩
theorem lw_p46 : lw_okq (⟨"RoundVotesModel", "ruleA", "(I)Z"⟩, 53) := ⟨⟨by decide +kernel, by decide +kernel⟩, List.mem_of_getElem? (i := 700) (by decide +kernel), List.mem_of_getElem? (i := 950) (by decide +kernel), List.mem_of_getElem? (i := 951) (by decide +kernel)⟩
theorem lw_p47 : lw_okq (⟨"RoundVotesModel", "proposal", "(II)I"⟩, 53) := ⟨⟨by decide +kernel, by decide +kernel⟩, List.mem_of_getElem? (i := 700) (by decide +kernel), List.mem_of_getElem? (i := 954) (by decide +kernel), List.mem_of_getElem? (i := 955) (by decide +kernel)⟩
def lw_privs_3 : List (MethodName × Nat) := [(⟨"RoundVotesModel", "clearSigned", "(I)V"⟩, 53), (⟨"RoundVotesModel", "oneTurn", "()V"⟩, 53), (⟨"RoundVotesModel", "begin", "(II)V"⟩, 53), (⟨"RoundVotesModel", "proposer", "(II)I"⟩, 53), (⟨"RoundVotesModel", "send", "(IIII)V"⟩, 53), (⟨"RoundVotesModel", "keep", "(IIIIIIIZ)V"⟩, 53), (⟨"RoundVotesModel", "accuse", "(IIIII)V"⟩, 53), (⟨"RoundVotesModel", "copy", "(IIIIIII)V"⟩, 53), (⟨"RoundVotesModel", "noteSent", "(IIIII)V"⟩, 53), (⟨"RoundVotesModel", "sentPlace", "(IIII)I"⟩, 53), (⟨"RoundVotesModel", "areApart", "(II)Z"⟩, 53), (⟨"RoundVotesModel", "put", "(IIIIIIIIZ)V"⟩, 53), (⟨"RoundVotesModel", "ownValue", "(III)I"⟩, 53), (⟨"RoundVotesModel", "rules", "(I)V"⟩, 53), (⟨"RoundVotesModel", "ruleA", "(I)Z"⟩, 53), (⟨"RoundVotesModel", "proposal", "(II)I"⟩, 53)]
theorem lw_r3 : ∀ q ∈ lw_privs_3, lw_okq q := List.forall_mem_cons.mpr ⟨lw_p32, List.forall_mem_cons.mpr ⟨lw_p33, List.forall_mem_cons.mpr ⟨lw_p34, List.forall_mem_cons.mpr ⟨lw_p35, List.forall_mem_cons.mpr ⟨lw_p36, List.forall_mem_cons.mpr ⟨lw_p37, List.forall_mem_cons.mpr ⟨lw_p38, List.forall_mem_cons.mpr ⟨lw_p39, List.forall_mem_cons.mpr ⟨lw_p40, List.forall_mem_cons.mpr ⟨lw_p41, List.forall_mem_cons.mpr ⟨lw_p42, List.forall_mem_cons.mpr ⟨lw_p43, List.forall_mem_cons.mpr ⟨lw_p44, List.forall_mem_cons.mpr ⟨lw_p45, List.forall_mem_cons.mpr ⟨lw_p46, List.forall_mem_cons.mpr ⟨lw_p47, fun _ h => absurd h List.not_mem_nil⟩⟩⟩⟩⟩⟩⟩⟩⟩⟩⟩⟩⟩⟩⟩⟩
theorem lw_p48 : lw_okq (⟨"RoundVotesModel", "hasOf", "(IIII)I"⟩, 53) := ⟨⟨by decide +kernel, by decide +kernel⟩, List.mem_of_getElem? (i := 700) (by decide +kernel), List.mem_of_getElem? (i := 958) (by decide +kernel), List.mem_of_getElem? (i := 959) (by decide +kernel)⟩
theorem lw_p49 : lw_okq (⟨"RoundVotesModel", "votes", "(IIII)J"⟩, 53) := ⟨⟨by decide +kernel, by decide +kernel⟩, List.mem_of_getElem? (i := 700) (by decide +kernel), List.mem_of_getElem? (i := 962) (by decide +kernel), List.mem_of_getElem? (i := 963) (by decide +kernel)⟩
theorem lw_p50 : lw_okq (⟨"RoundVotesModel", "isMany", "(JI)Z"⟩, 53) := ⟨⟨by decide +kernel, by decide +kernel⟩, List.mem_of_getElem? (i := 700) (by decide +kernel), List.mem_of_getElem? (i := 966) (by decide +kernel), List.mem_of_getElem? (i := 967) (by decide +kernel)⟩
theorem lw_p51 : lw_okq (⟨"RoundVotesModel", "all", "(I)J"⟩, 53) := ⟨⟨by decide +kernel, by decide +kernel⟩, List.mem_of_getElem? (i := 700) (by decide +kernel), List.mem_of_getElem? (i := 972) (by decide +kernel), List.mem_of_getElem? (i := 973) (by decide +kernel)⟩
theorem lw_p52 : lw_okq (⟨"RoundVotesModel", "nextHeight", "(I)V"⟩, 53) := ⟨⟨by decide +kernel, by decide +kernel⟩, List.mem_of_getElem? (i := 700) (by decide +kernel), List.mem_of_getElem? (i := 976) (by decide +kernel), List.mem_of_getElem? (i := 977) (by decide +kernel)⟩
theorem lw_p53 : lw_okq (⟨"RoundVotesModel", "ruleB", "(I)Z"⟩, 53) := ⟨⟨by decide +kernel, by decide +kernel⟩, List.mem_of_getElem? (i := 700) (by decide +kernel), List.mem_of_getElem? (i := 980) (by decide +kernel), List.mem_of_getElem? (i := 981) (by decide +kernel)⟩
theorem lw_p54 : lw_okq (⟨"RoundVotesModel", "ruleC", "(I)Z"⟩, 53) := ⟨⟨by decide +kernel, by decide +kernel⟩, List.mem_of_getElem? (i := 700) (by decide +kernel), List.mem_of_getElem? (i := 984) (by decide +kernel), List.mem_of_getElem? (i := 985) (by decide +kernel)⟩
theorem lw_p55 : lw_okq (⟨"RoundVotesModel", "proposalSince", "(II)I"⟩, 53) := ⟨⟨by decide +kernel, by decide +kernel⟩, List.mem_of_getElem? (i := 700) (by decide +kernel), List.mem_of_getElem? (i := 988) (by decide +kernel), List.mem_of_getElem? (i := 989) (by decide +kernel)⟩
theorem lw_p56 : lw_okq (⟨"RoundVotesModel", "ruleD", "(I)Z"⟩, 53) := ⟨⟨by decide +kernel, by decide +kernel⟩, List.mem_of_getElem? (i := 700) (by decide +kernel), List.mem_of_getElem? (i := 992) (by decide +kernel), List.mem_of_getElem? (i := 993) (by decide +kernel)⟩
theorem lw_p57 : lw_okq (⟨"RoundVotesModel", "ruleE", "(I)Z"⟩, 53) := ⟨⟨by decide +kernel, by decide +kernel⟩, List.mem_of_getElem? (i := 700) (by decide +kernel), List.mem_of_getElem? (i := 996) (by decide +kernel), List.mem_of_getElem? (i := 997) (by decide +kernel)⟩
theorem lw_p58 : lw_okq (⟨"RoundVotesModel", "ruleF", "(I)Z"⟩, 53) := ⟨⟨by decide +kernel, by decide +kernel⟩, List.mem_of_getElem? (i := 700) (by decide +kernel), List.mem_of_getElem? (i := 1000) (by decide +kernel), List.mem_of_getElem? (i := 1001) (by decide +kernel)⟩
theorem lw_p59 : lw_okq (⟨"RoundVotesModel", "ruleG", "(I)Z"⟩, 53) := ⟨⟨by decide +kernel, by decide +kernel⟩, List.mem_of_getElem? (i := 700) (by decide +kernel), List.mem_of_getElem? (i := 1004) (by decide +kernel), List.mem_of_getElem? (i := 1005) (by decide +kernel)⟩
theorem lw_p60 : lw_okq (⟨"RoundVotesModel", "comeBack", "(I)V"⟩, 53) := ⟨⟨by decide +kernel, by decide +kernel⟩, List.mem_of_getElem? (i := 700) (by decide +kernel), List.mem_of_getElem? (i := 1008) (by decide +kernel), List.mem_of_getElem? (i := 1009) (by decide +kernel)⟩
theorem lw_p61 : lw_okq (⟨"RoundVotesModel", "deliver", "(ZI)V"⟩, 53) := ⟨⟨by decide +kernel, by decide +kernel⟩, List.mem_of_getElem? (i := 700) (by decide +kernel), List.mem_of_getElem? (i := 1012) (by decide +kernel), List.mem_of_getElem? (i := 1013) (by decide +kernel)⟩
theorem lw_p62 : lw_okq (⟨"RoundVotesModel", "timerEnds", "(II)V"⟩, 53) := ⟨⟨by decide +kernel, by decide +kernel⟩, List.mem_of_getElem? (i := 700) (by decide +kernel), List.mem_of_getElem? (i := 1016) (by decide +kernel), List.mem_of_getElem? (i := 1017) (by decide +kernel)⟩
theorem lw_p63 : lw_okq (⟨"RoundVotesModel", "tidy", "()V"⟩, 53) := ⟨⟨by decide +kernel, by decide +kernel⟩, List.mem_of_getElem? (i := 700) (by decide +kernel), List.mem_of_getElem? (i := 1020) (by decide +kernel), List.mem_of_getElem? (i := 1021) (by decide +kernel)⟩
def lw_privs_4 : List (MethodName × Nat) := [(⟨"RoundVotesModel", "hasOf", "(IIII)I"⟩, 53), (⟨"RoundVotesModel", "votes", "(IIII)J"⟩, 53), (⟨"RoundVotesModel", "isMany", "(JI)Z"⟩, 53), (⟨"RoundVotesModel", "all", "(I)J"⟩, 53), (⟨"RoundVotesModel", "nextHeight", "(I)V"⟩, 53), (⟨"RoundVotesModel", "ruleB", "(I)Z"⟩, 53), (⟨"RoundVotesModel", "ruleC", "(I)Z"⟩, 53), (⟨"RoundVotesModel", "proposalSince", "(II)I"⟩, 53), (⟨"RoundVotesModel", "ruleD", "(I)Z"⟩, 53), (⟨"RoundVotesModel", "ruleE", "(I)Z"⟩, 53), (⟨"RoundVotesModel", "ruleF", "(I)Z"⟩, 53), (⟨"RoundVotesModel", "ruleG", "(I)Z"⟩, 53), (⟨"RoundVotesModel", "comeBack", "(I)V"⟩, 53), (⟨"RoundVotesModel", "deliver", "(ZI)V"⟩, 53), (⟨"RoundVotesModel", "timerEnds", "(II)V"⟩, 53), (⟨"RoundVotesModel", "tidy", "()V"⟩, 53)]
theorem lw_r4 : ∀ q ∈ lw_privs_4, lw_okq q := List.forall_mem_cons.mpr ⟨lw_p48, List.forall_mem_cons.mpr ⟨lw_p49, List.forall_mem_cons.mpr ⟨lw_p50, List.forall_mem_cons.mpr ⟨lw_p51, List.forall_mem_cons.mpr ⟨lw_p52, List.forall_mem_cons.mpr ⟨lw_p53, List.forall_mem_cons.mpr ⟨lw_p54, List.forall_mem_cons.mpr ⟨lw_p55, List.forall_mem_cons.mpr ⟨lw_p56, List.forall_mem_cons.mpr ⟨lw_p57, List.forall_mem_cons.mpr ⟨lw_p58, List.forall_mem_cons.mpr ⟨lw_p59, List.forall_mem_cons.mpr ⟨lw_p60, List.forall_mem_cons.mpr ⟨lw_p61, List.forall_mem_cons.mpr ⟨lw_p62, List.forall_mem_cons.mpr ⟨lw_p63, fun _ h => absurd h List.not_mem_nil⟩⟩⟩⟩⟩⟩⟩⟩⟩⟩⟩⟩⟩⟩⟩⟩
theorem lw_p64 : lw_okq (⟨"RoundVotesModel", "noNode", "(I)Z"⟩, 53) := ⟨⟨by decide +kernel, by decide +kernel⟩, List.mem_of_getElem? (i := 700) (by decide +kernel), List.mem_of_getElem? (i := 1028) (by decide +kernel), List.mem_of_getElem? (i := 1029) (by decide +kernel)⟩
def lw_privs_5 : List (MethodName × Nat) := [(⟨"RoundVotesModel", "noNode", "(I)Z"⟩, 53)]
theorem lw_r5 : ∀ q ∈ lw_privs_5, lw_okq q := List.forall_mem_cons.mpr ⟨lw_p64, fun _ h => absurd h List.not_mem_nil⟩
def lw_privs : List (MethodName × Nat) := lw_privs_1 ++ (lw_privs_2 ++ (lw_privs_3 ++ (lw_privs_4 ++ (lw_privs_5))))
def lw_tbl : List Cond := k2_sels lw_privs ++ tables_1
theorem lw_privs_ok : ∀ q ∈ lw_privs, lw_okq q := by
  show ∀ q ∈ lw_privs_1 ++ (lw_privs_2 ++ (lw_privs_3 ++ (lw_privs_4 ++ (lw_privs_5)))), lw_okq q
  exact List.forall_mem_append.mpr ⟨lw_r1, List.forall_mem_append.mpr ⟨lw_r2, List.forall_mem_append.mpr ⟨lw_r3, List.forall_mem_append.mpr ⟨lw_r4, lw_r5⟩⟩⟩⟩
def RX0 : String := "RoundVotes$Ballots"
def TX0 : u_T := fun k => match k with
  | 0 => ("RoundVotes$Ballots", "senders", "I", true)
  | 1 => ("RoundVotes$Ballots", "values", "[I", true)
  | 2 => ("RoundVotes$Ballots", "sinces", "[I", true)
  | _ => ("RoundVotes$Ballots", "topRound", "I", false)
def tyX0 : Nat → FieldType := fun k => match k with
  | 0 => .int
  | 1 => .array .int
  | 2 => .array .int
  | _ => .int
abbrev wsX00 : List Cond := u_ws RX0 TX0 4
theorem nmX0 : ∀ a, a < 4 → ∀ b, b < 4 → a ≠ b → (TX0 a).2.1 ≠ (TX0 b).2.1 := by decide +kernel
theorem tyX0_ok : ∀ k, k < 4 → parseFieldDescriptor (TX0 k).2.2.1 = some (tyX0 k) := by decide +kernel
abbrev cX0_init : ByteArray := prog_2_method_1_code
def yX0_init : MethodName := ⟨RX0, "<init>", "(I)V"⟩
abbrev cX0_valueOf : ByteArray := prog_2_method_2_code
def yX0_valueOf : MethodName := ⟨RX0, "valueOf", "(III)I"⟩
abbrev cX0_sinceOf : ByteArray := prog_2_method_3_code
def yX0_sinceOf : MethodName := ⟨RX0, "sinceOf", "(I)I"⟩
abbrev cX0_holds : ByteArray := prog_2_method_4_code
def yX0_holds : MethodName := ⟨RX0, "holds", "(III)Z"⟩
abbrev cX0_put : ByteArray := prog_2_method_5_code
def yX0_put : MethodName := ⟨RX0, "put", "(IIIII)V"⟩
abbrev cX0_votersFor : ByteArray := prog_2_method_6_code
def yX0_votersFor : MethodName := ⟨RX0, "votersFor", "(III)I"⟩
abbrev cX0_voters : ByteArray := prog_2_method_7_code
def yX0_voters : MethodName := ⟨RX0, "voters", "(II)I"⟩
abbrev cX0_clear : ByteArray := prog_2_method_8_code
def yX0_clear : MethodName := ⟨RX0, "clear", "()V"⟩
def RX1 : String := "RoundVotes$Choice"
def TX1 : u_T := fun k => match k with
  | 0 => ("RoundVotes$Choice", "value", "I", false)
  | _ => ("RoundVotes$Choice", "round", "I", false)
def tyX1 : Nat → FieldType := fun k => match k with
  | 0 => .int
  | _ => .int
abbrev wsX10 : List Cond := u_ws RX1 TX1 2
theorem nmX1 : ∀ a, a < 2 → ∀ b, b < 2 → a ≠ b → (TX1 a).2.1 ≠ (TX1 b).2.1 := by decide +kernel
theorem tyX1_ok : ∀ k, k < 2 → parseFieldDescriptor (TX1 k).2.2.1 = some (tyX1 k) := by decide +kernel
abbrev cX1_init : ByteArray := prog_3_method_1_code
def yX1_init : MethodName := ⟨RX1, "<init>", "()V"⟩
abbrev cX1_choose : ByteArray := prog_3_method_2_code
def yX1_choose : MethodName := ⟨RX1, "choose", "(II)V"⟩
abbrev cX1_isNone : ByteArray := prog_3_method_3_code
def yX1_isNone : MethodName := ⟨RX1, "isNone", "()Z"⟩
def RX2 : String := "RoundVotes$Decisions"
def TX2 : u_T := fun k => match k with
  | 0 => ("RoundVotes$Decisions", "values", "[I", true)
  | 1 => ("RoundVotes$Decisions", "rounds", "[I", true)
  | _ => ("RoundVotes$Decisions", "voters", "[I", true)
def tyX2 : Nat → FieldType := fun k => match k with
  | 0 => .array .int
  | 1 => .array .int
  | _ => .array .int
abbrev wsX20 : List Cond := u_ws RX2 TX2 3
theorem nmX2 : ∀ a, a < 3 → ∀ b, b < 3 → a ≠ b → (TX2 a).2.1 ≠ (TX2 b).2.1 := by decide +kernel
theorem tyX2_ok : ∀ k, k < 3 → parseFieldDescriptor (TX2 k).2.2.1 = some (tyX2 k) := by decide +kernel
abbrev cX2_init : ByteArray := prog_4_method_1_code
def yX2_init : MethodName := ⟨RX2, "<init>", "()V"⟩
abbrev cX2_holds : ByteArray := prog_4_method_2_code
def yX2_holds : MethodName := ⟨RX2, "holds", "(I)Z"⟩
abbrev cX2_put : ByteArray := prog_4_method_3_code
def yX2_put : MethodName := ⟨RX2, "put", "(IIII)V"⟩
def RX3 : String := "RoundVotes$Faults"
def TX3 : u_T := fun k => match k with
  | 0 => ("RoundVotes$Faults", "parts", "[I", true)
  | _ => ("RoundVotes$Faults", "size", "I", false)
def tyX3 : Nat → FieldType := fun k => match k with
  | 0 => .array .int
  | _ => .int
abbrev wsX30 : List Cond := u_ws RX3 TX3 2
theorem nmX3 : ∀ a, a < 2 → ∀ b, b < 2 → a ≠ b → (TX3 a).2.1 ≠ (TX3 b).2.1 := by decide +kernel
theorem tyX3_ok : ∀ k, k < 2 → parseFieldDescriptor (TX3 k).2.2.1 = some (tyX3 k) := by decide +kernel
abbrev cX3_init : ByteArray := prog_5_method_1_code
def yX3_init : MethodName := ⟨RX3, "<init>", "()V"⟩
abbrev cX3_part : ByteArray := prog_5_method_2_code
def yX3_part : MethodName := ⟨RX3, "part", "(II)I"⟩
abbrev cX3_add : ByteArray := prog_5_method_3_code
def yX3_add : MethodName := ⟨RX3, "add", "(LRoundVotes$Message;I)V"⟩
abbrev cX3_isKnown : ByteArray := prog_5_method_4_code
def yX3_isKnown : MethodName := ⟨RX3, "isKnown", "(LRoundVotes$Message;)Z"⟩
def RX4 : String := "RoundVotes$Mail"
def TX4 : u_T := fun k => match k with
  | 0 => ("RoundVotes$Mail", "slots", "[LRoundVotes$Message;", true)
  | 1 => ("RoundVotes$Mail", "size", "I", false)
  | _ => ("RoundVotes$Mail", "underWay", "I", false)
def tyX4 : Nat → FieldType := fun k => match k with
  | 0 => .array (.object "RoundVotes$Message")
  | 1 => .int
  | _ => .int
abbrev wsX40 : List Cond := u_ws RX4 TX4 3
theorem nmX4 : ∀ a, a < 3 → ∀ b, b < 3 → a ≠ b → (TX4 a).2.1 ≠ (TX4 b).2.1 := by decide +kernel
theorem tyX4_ok : ∀ k, k < 3 → parseFieldDescriptor (TX4 k).2.2.1 = some (tyX4 k) := by decide +kernel
abbrev cX4_init : ByteArray := prog_6_method_1_code
def yX4_init : MethodName := ⟨RX4, "<init>", "()V"⟩
abbrev cX4_post : ByteArray := prog_6_method_2_code
def yX4_post : MethodName := ⟨RX4, "post", "(LRoundVotes$Message;IZ)Z"⟩
abbrev cX4_dropUpTo : ByteArray := prog_6_method_3_code
def yX4_dropUpTo : MethodName := ⟨RX4, "dropUpTo", "(I)V"⟩
def RX5 : String := "RoundVotes$Message"
def TX5 : u_T := fun k => match k with
  | 0 => ("RoundVotes$Message", "sender", "I", false)
  | 1 => ("RoundVotes$Message", "receiver", "I", false)
  | 2 => ("RoundVotes$Message", "height", "I", false)
  | 3 => ("RoundVotes$Message", "round", "I", false)
  | 4 => ("RoundVotes$Message", "kind", "I", false)
  | 5 => ("RoundVotes$Message", "value", "I", false)
  | 6 => ("RoundVotes$Message", "since", "I", false)
  | 7 => ("RoundVotes$Message", "due", "I", false)
  | _ => ("RoundVotes$Message", "second", "Z", false)
def tyX5 : Nat → FieldType := fun k => match k with
  | 0 => .int
  | 1 => .int
  | 2 => .int
  | 3 => .int
  | 4 => .int
  | 5 => .int
  | 6 => .int
  | 7 => .int
  | _ => .boolean
abbrev wsX50 : List Cond := u_ws RX5 TX5 9
theorem nmX5 : ∀ a, a < 9 → ∀ b, b < 9 → a ≠ b → (TX5 a).2.1 ≠ (TX5 b).2.1 := by decide +kernel
theorem tyX5_ok : ∀ k, k < 9 → parseFieldDescriptor (TX5 k).2.2.1 = some (tyX5 k) := by decide +kernel
abbrev cX5_init : ByteArray := prog_7_method_1_code
def yX5_init : MethodName := ⟨RX5, "<init>", "()V"⟩
abbrev cX5_copyFrom : ByteArray := prog_7_method_2_code
def yX5_copyFrom : MethodName := ⟨RX5, "copyFrom", "(LRoundVotes$Message;)V"⟩
abbrev cX5_otherValue : ByteArray := prog_7_method_3_code
def yX5_otherValue : MethodName := ⟨RX5, "otherValue", "()I"⟩
def RX6 : String := "RoundVotes$Node"
def TX6 : u_T := fun k => match k with
  | 0 => ("RoundVotes$Node", "number", "I", true)
  | 1 => ("RoundVotes$Node", "setup", "LRoundVotes$Setup;", true)
  | 2 => ("RoundVotes$Node", "height", "I", false)
  | 3 => ("RoundVotes$Node", "round", "I", false)
  | 4 => ("RoundVotes$Node", "step", "I", false)
  | 5 => ("RoundVotes$Node", "locked", "LRoundVotes$Choice;", true)
  | 6 => ("RoundVotes$Node", "valid", "LRoundVotes$Choice;", true)
  | 7 => ("RoundVotes$Node", "behaviour", "I", false)
  | 8 => ("RoundVotes$Node", "lastCutTurn", "I", false)
  | 9 => ("RoundVotes$Node", "timers", "[I", true)
  | 10 => ("RoundVotes$Node", "once", "[Z", true)
  | 11 => ("RoundVotes$Node", "decisions", "LRoundVotes$Decisions;", true)
  | 12 => ("RoundVotes$Node", "present", "LRoundVotes$Ballots;", false)
  | 13 => ("RoundVotes$Node", "next", "LRoundVotes$Ballots;", false)
  | 14 => ("RoundVotes$Node", "signed", "LRoundVotes$Ballots;", true)
  | 15 => ("RoundVotes$Node", "sendings", "LRoundVotes$Sendings;", true)
  | 16 => ("RoundVotes$Node", "outgoing", "LRoundVotes$Message;", true)
  | _ => ("RoundVotes$Node", "hasToSend", "Z", false)
def tyX6 : Nat → FieldType := fun k => match k with
  | 0 => .int
  | 1 => .object "RoundVotes$Setup"
  | 2 => .int
  | 3 => .int
  | 4 => .int
  | 5 => .object "RoundVotes$Choice"
  | 6 => .object "RoundVotes$Choice"
  | 7 => .int
  | 8 => .int
  | 9 => .array .int
  | 10 => .array .boolean
  | 11 => .object "RoundVotes$Decisions"
  | 12 => .object "RoundVotes$Ballots"
  | 13 => .object "RoundVotes$Ballots"
  | 14 => .object "RoundVotes$Ballots"
  | 15 => .object "RoundVotes$Sendings"
  | 16 => .object "RoundVotes$Message"
  | _ => .boolean
abbrev wsX60 : List Cond := u_ws RX6 TX6 18
theorem nmX6 : ∀ a, a < 18 → ∀ b, b < 18 → a ≠ b → (TX6 a).2.1 ≠ (TX6 b).2.1 := by decide +kernel
theorem tyX6_ok : ∀ k, k < 18 → parseFieldDescriptor (TX6 k).2.2.1 = some (tyX6 k) := by decide +kernel
abbrev cX6_init : ByteArray := prog_8_method_1_code
def yX6_init : MethodName := ⟨RX6, "<init>", "(ILRoundVotes$Setup;)V"⟩
abbrev cX6_isCut : ByteArray := prog_8_method_2_code
def yX6_isCut : MethodName := ⟨RX6, "isCut", "()Z"⟩
abbrev cX6_standsStill : ByteArray := prog_8_method_3_code
def yX6_standsStill : MethodName := ⟨RX6, "standsStill", "()Z"⟩
abbrev cX6_begin : ByteArray := prog_8_method_4_code
def yX6_begin : MethodName := ⟨RX6, "begin", "(II)V"⟩
abbrev cX6_timesSending : ByteArray := prog_8_method_5_code
def yX6_timesSending : MethodName := ⟨RX6, "timesSending", "()I"⟩
abbrev cX6_deceives : ByteArray := prog_8_method_6_code
def yX6_deceives : MethodName := ⟨RX6, "deceives", "(I)Z"⟩
abbrev cX6_send : ByteArray := prog_8_method_7_code
def yX6_send : MethodName := ⟨RX6, "send", "(III)V"⟩
abbrev cX6_accepts : ByteArray := prog_8_method_8_code
def yX6_accepts : MethodName := ⟨RX6, "accepts", "(LRoundVotes$Message;)Z"⟩
abbrev cX6_comeBack : ByteArray := prog_8_method_9_code
def yX6_comeBack : MethodName := ⟨RX6, "comeBack", "(I)V"⟩
abbrev cX6_decideAs : ByteArray := prog_8_method_10_code
def yX6_decideAs : MethodName := ⟨RX6, "decideAs", "(LRoundVotes$Node;)V"⟩
abbrev cX6_decide : ByteArray := prog_8_method_11_code
def yX6_decide : MethodName := ⟨RX6, "decide", "(I)V"⟩
abbrev cX6_goToNextHeight : ByteArray := prog_8_method_12_code
def yX6_goToNextHeight : MethodName := ⟨RX6, "goToNextHeight", "()V"⟩
abbrev cX6_endTimer : ByteArray := prog_8_method_13_code
def yX6_endTimer : MethodName := ⟨RX6, "endTimer", "(II)V"⟩
abbrev cX6_followsRule : ByteArray := prog_8_method_14_code
def yX6_followsRule : MethodName := ⟨RX6, "followsRule", "(I)Z"⟩
abbrev cX6_proposalOf : ByteArray := prog_8_method_15_code
def yX6_proposalOf : MethodName := ⟨RX6, "proposalOf", "(I)I"⟩
abbrev cX6_areMany : ByteArray := prog_8_method_16_code
def yX6_areMany : MethodName := ⟨RX6, "areMany", "(I)Z"⟩
abbrev cX6_areSome : ByteArray := prog_8_method_17_code
def yX6_areSome : MethodName := ⟨RX6, "areSome", "(I)Z"⟩
abbrev cX6_roundToDecide : ByteArray := prog_8_method_18_code
def yX6_roundToDecide : MethodName := ⟨RX6, "roundToDecide", "()I"⟩
abbrev cX6_roundToJoin : ByteArray := prog_8_method_19_code
def yX6_roundToJoin : MethodName := ⟨RX6, "roundToJoin", "()I"⟩
abbrev cX6_answersProposal : ByteArray := prog_8_method_20_code
def yX6_answersProposal : MethodName := ⟨RX6, "answersProposal", "()Z"⟩
abbrev cX6_lockAllows : ByteArray := prog_8_method_21_code
def yX6_lockAllows : MethodName := ⟨RX6, "lockAllows", "(II)Z"⟩
abbrev cX6_locks : ByteArray := prog_8_method_22_code
def yX6_locks : MethodName := ⟨RX6, "locks", "()Z"⟩
abbrev cX6_givesUpValue : ByteArray := prog_8_method_23_code
def yX6_givesUpValue : MethodName := ⟨RX6, "givesUpValue", "()Z"⟩
abbrev cX6_waitsForPrevotes : ByteArray := prog_8_method_24_code
def yX6_waitsForPrevotes : MethodName := ⟨RX6, "waitsForPrevotes", "(I)Z"⟩
abbrev cX6_waitsForPrecommits : ByteArray := prog_8_method_25_code
def yX6_waitsForPrecommits : MethodName := ⟨RX6, "waitsForPrecommits", "(I)Z"⟩
def RX7 : String := "RoundVotes$Sendings"
def TX7 : u_T := fun k => match k with
  | 0 => ("RoundVotes$Sendings", "copies", "I", false)
  | 1 => ("RoundVotes$Sendings", "timesUnlike", "I", false)
  | _ => ("RoundVotes$Sendings", "firsts", "LRoundVotes$Ballots;", true)
def tyX7 : Nat → FieldType := fun k => match k with
  | 0 => .int
  | 1 => .int
  | _ => .object "RoundVotes$Ballots"
abbrev wsX70 : List Cond := u_ws RX7 TX7 3
theorem nmX7 : ∀ a, a < 3 → ∀ b, b < 3 → a ≠ b → (TX7 a).2.1 ≠ (TX7 b).2.1 := by decide +kernel
theorem tyX7_ok : ∀ k, k < 3 → parseFieldDescriptor (TX7 k).2.2.1 = some (tyX7 k) := by decide +kernel
abbrev cX7_init : ByteArray := prog_9_method_1_code
def yX7_init : MethodName := ⟨RX7, "<init>", "()V"⟩
abbrev cX7_add : ByteArray := prog_9_method_2_code
def yX7_add : MethodName := ⟨RX7, "add", "(LRoundVotes$Message;)V"⟩
def RX8 : String := "RoundVotes$Setup"
def TX8 : u_T := fun k => match k with
  | 0 => ("RoundVotes$Setup", "size", "I", true)
  | 1 => ("RoundVotes$Setup", "seed", "I", true)
  | 2 => ("RoundVotes$Setup", "weights", "[[I", true)
  | _ => ("RoundVotes$Setup", "all", "[I", true)
def tyX8 : Nat → FieldType := fun k => match k with
  | 0 => .int
  | 1 => .int
  | 2 => .array (.array .int)
  | _ => .array .int
abbrev wsX80 : List Cond := u_ws RX8 TX8 4
theorem nmX8 : ∀ a, a < 4 → ∀ b, b < 4 → a ≠ b → (TX8 a).2.1 ≠ (TX8 b).2.1 := by decide +kernel
theorem tyX8_ok : ∀ k, k < 4 → parseFieldDescriptor (TX8 k).2.2.1 = some (tyX8 k) := by decide +kernel
abbrev cX8_init : ByteArray := prog_10_method_1_code
def yX8_init : MethodName := ⟨RX8, "<init>", "(II)V"⟩
abbrev cX8_changeWeight : ByteArray := prog_10_method_2_code
def yX8_changeWeight : MethodName := ⟨RX8, "changeWeight", "(III)V"⟩
abbrev cX8_weightOfAll : ByteArray := prog_10_method_3_code
def yX8_weightOfAll : MethodName := ⟨RX8, "weightOfAll", "(II)I"⟩
abbrev cX8_proposer : ByteArray := prog_10_method_4_code
def yX8_proposer : MethodName := ⟨RX8, "proposer", "(II)I"⟩
abbrev cX8_ownValue : ByteArray := prog_10_method_5_code
def yX8_ownValue : MethodName := ⟨RX8, "ownValue", "(III)I"⟩
def RX9 : String := "RoundVotes$Told"
def TX9 : u_T := fun k => match k with
  | 0 => ("RoundVotes$Told", "numbers", "[I", true)
  | 1 => ("RoundVotes$Told", "kinds", "[I", true)
  | 2 => ("RoundVotes$Told", "bys", "[I", true)
  | _ => ("RoundVotes$Told", "size", "I", false)
def tyX9 : Nat → FieldType := fun k => match k with
  | 0 => .array .int
  | 1 => .array .int
  | 2 => .array .int
  | _ => .int
abbrev wsX90 : List Cond := u_ws RX9 TX9 4
theorem nmX9 : ∀ a, a < 4 → ∀ b, b < 4 → a ≠ b → (TX9 a).2.1 ≠ (TX9 b).2.1 := by decide +kernel
theorem tyX9_ok : ∀ k, k < 4 → parseFieldDescriptor (TX9 k).2.2.1 = some (tyX9 k) := by decide +kernel
abbrev cX9_init : ByteArray := prog_11_method_1_code
def yX9_init : MethodName := ⟨RX9, "<init>", "()V"⟩
abbrev cX9_find : ByteArray := prog_11_method_2_code
def yX9_find : MethodName := ⟨RX9, "find", "(I)I"⟩
abbrev cX9_add : ByteArray := prog_11_method_3_code
def yX9_add : MethodName := ⟨RX9, "add", "(III)Z"⟩
abbrev cX9_remove : ByteArray := prog_11_method_4_code
def yX9_remove : MethodName := ⟨RX9, "remove", "(I)V"⟩
def RX10 : String := "RoundVotes"
def TX10 : u_T := fun k => match k with
  | 0 => ("RoundVotes", "setup", "LRoundVotes$Setup;", true)
  | 1 => ("RoundVotes", "nodes", "[LRoundVotes$Node;", true)
  | 2 => ("RoundVotes", "mail", "LRoundVotes$Mail;", true)
  | 3 => ("RoundVotes", "told", "LRoundVotes$Told;", true)
  | 4 => ("RoundVotes", "faults", "LRoundVotes$Faults;", true)
  | 5 => ("RoundVotes", "time", "I", false)
  | 6 => ("RoundVotes", "gone", "I", false)
  | 7 => ("RoundVotes", "came", "I", false)
  | 8 => ("RoundVotes", "lost", "I", false)
  | 9 => ("RoundVotes", "sideBits", "I", false)
  | 10 => ("RoundVotes", "firstSideTurn", "I", false)
  | _ => ("RoundVotes", "lastSideTurn", "I", false)
def tyX10 : Nat → FieldType := fun k => match k with
  | 0 => .object "RoundVotes$Setup"
  | 1 => .array (.object "RoundVotes$Node")
  | 2 => .object "RoundVotes$Mail"
  | 3 => .object "RoundVotes$Told"
  | 4 => .object "RoundVotes$Faults"
  | 5 => .int
  | 6 => .int
  | 7 => .int
  | 8 => .int
  | 9 => .int
  | 10 => .int
  | _ => .int
abbrev wsX100 : List Cond := u_ws RX10 TX10 12
theorem nmX10 : ∀ a, a < 12 → ∀ b, b < 12 → a ≠ b → (TX10 a).2.1 ≠ (TX10 b).2.1 := by decide +kernel
theorem tyX10_ok : ∀ k, k < 12 → parseFieldDescriptor (TX10 k).2.2.1 = some (tyX10 k) := by decide +kernel
abbrev cX10_init : ByteArray := prog_1_method_1_code
def yX10_init : MethodName := ⟨RX10, "<init>", "(II)V"⟩
abbrev cX10_weight : ByteArray := prog_1_method_2_code
def yX10_weight : MethodName := ⟨RX10, "weight", "(II)I"⟩
abbrev cX10_behave : ByteArray := prog_1_method_3_code
def yX10_behave : MethodName := ⟨RX10, "behave", "(II)I"⟩
abbrev cX10_disturb : ByteArray := prog_1_method_4_code
def yX10_disturb : MethodName := ⟨RX10, "disturb", "(III)I"⟩
abbrev cX10_sides : ByteArray := prog_1_method_5_code
def yX10_sides : MethodName := ⟨RX10, "sides", "(II)I"⟩
abbrev cX10_cut : ByteArray := prog_1_method_6_code
def yX10_cut : MethodName := ⟨RX10, "cut", "(II)I"⟩
abbrev cX10_turn : ByteArray := prog_1_method_7_code
def yX10_turn : MethodName := ⟨RX10, "turn", "(I)I"⟩
abbrev cX10_catchUp : ByteArray := prog_1_method_8_code
def yX10_catchUp : MethodName := ⟨RX10, "catchUp", "(I)I"⟩
abbrev cX10_node : ByteArray := prog_1_method_9_code
def yX10_node : MethodName := ⟨RX10, "node", "(II)I"⟩
abbrev cX10_vote : ByteArray := prog_1_method_10_code
def yX10_vote : MethodName := ⟨RX10, "vote", "(IIII)I"⟩
abbrev cX10_decided : ByteArray := prog_1_method_11_code
def yX10_decided : MethodName := ⟨RX10, "decided", "(III)I"⟩
abbrev cX10_unlike : ByteArray := prog_1_method_12_code
def yX10_unlike : MethodName := ⟨RX10, "unlike", "(I)I"⟩
abbrev cX10_evidence : ByteArray := prog_1_method_13_code
def yX10_evidence : MethodName := ⟨RX10, "evidence", "(II)I"⟩
abbrev cX10_against : ByteArray := prog_1_method_14_code
def yX10_against : MethodName := ⟨RX10, "against", "(I)I"⟩
abbrev cX10_count : ByteArray := prog_1_method_15_code
def yX10_count : MethodName := ⟨RX10, "count", "(I)I"⟩
abbrev cX10_weightOf : ByteArray := prog_1_method_16_code
def yX10_weightOf : MethodName := ⟨RX10, "weightOf", "(II)I"⟩
abbrev cX10_isNode : ByteArray := prog_1_method_17_code
def yX10_isNode : MethodName := ⟨RX10, "isNode", "(I)Z"⟩
abbrev cX10_isHeight : ByteArray := prog_1_method_18_code
def yX10_isHeight : MethodName := ⟨RX10, "isHeight", "(I)Z"⟩
abbrev cX10_greatestHeight : ByteArray := prog_1_method_19_code
def yX10_greatestHeight : MethodName := ⟨RX10, "greatestHeight", "()I"⟩
abbrev cX10_greatestDecided : ByteArray := prog_1_method_20_code
def yX10_greatestDecided : MethodName := ⟨RX10, "greatestDecided", "()I"⟩
abbrev cX10_tellerOf : ByteArray := prog_1_method_21_code
def yX10_tellerOf : MethodName := ⟨RX10, "tellerOf", "(II)I"⟩
abbrev cX10_beginAll : ByteArray := prog_1_method_22_code
def yX10_beginAll : MethodName := ⟨RX10, "beginAll", "()V"⟩
abbrev cX10_bringNodesBack : ByteArray := prog_1_method_23_code
def yX10_bringNodesBack : MethodName := ⟨RX10, "bringNodesBack", "()V"⟩
abbrev cX10_bringCopies : ByteArray := prog_1_method_24_code
def yX10_bringCopies : MethodName := ⟨RX10, "bringCopies", "()V"⟩
abbrev cX10_handOver : ByteArray := prog_1_method_25_code
def yX10_handOver : MethodName := ⟨RX10, "handOver", "(LRoundVotes$Message;)V"⟩
abbrev cX10_endTimers : ByteArray := prog_1_method_26_code
def yX10_endTimers : MethodName := ⟨RX10, "endTimers", "()V"⟩
abbrev cX10_settle : ByteArray := prog_1_method_27_code
def yX10_settle : MethodName := ⟨RX10, "settle", "(LRoundVotes$Node;)V"⟩
abbrev cX10_dispatch : ByteArray := prog_1_method_28_code
def yX10_dispatch : MethodName := ⟨RX10, "dispatch", "(LRoundVotes$Node;)V"⟩
abbrev cX10_sendCopy : ByteArray := prog_1_method_29_code
def yX10_sendCopy : MethodName := ⟨RX10, "sendCopy", "(LRoundVotes$Message;)V"⟩
abbrev cX10_areOnUnlikeSides : ByteArray := prog_1_method_30_code
def yX10_areOnUnlikeSides : MethodName := ⟨RX10, "areOnUnlikeSides", "(II)Z"⟩
def RX11 : String := "RoundVotesModel"
def TX11 : u_T := fun k => match k with
  | 0 => ("RoundVotesModel", "thrown", "I", false)
  | 1 => ("RoundVotesModel", "n", "I", true)
  | 2 => ("RoundVotesModel", "seed", "I", true)
  | 3 => ("RoundVotesModel", "time", "I", false)
  | 4 => ("RoundVotesModel", "weights", "[I", true)
  | 5 => ("RoundVotesModel", "heightOf", "[I", true)
  | 6 => ("RoundVotesModel", "roundOf", "[I", true)
  | 7 => ("RoundVotesModel", "stepOf", "[I", true)
  | 8 => ("RoundVotesModel", "lockedValue", "[I", true)
  | 9 => ("RoundVotesModel", "lockedRound", "[I", true)
  | 10 => ("RoundVotesModel", "validValue", "[I", true)
  | 11 => ("RoundVotesModel", "validRound", "[I", true)
  | 12 => ("RoundVotesModel", "cutUntil", "[I", true)
  | 13 => ("RoundVotesModel", "isCut", "[Z", true)
  | 14 => ("RoundVotesModel", "behaviour", "[I", true)
  | 15 => ("RoundVotesModel", "timers", "[I", true)
  | 16 => ("RoundVotesModel", "didD", "[Z", true)
  | 17 => ("RoundVotesModel", "didF", "[Z", true)
  | 18 => ("RoundVotesModel", "didG", "[Z", true)
  | 19 => ("RoundVotesModel", "sentCopies", "[I", true)
  | 20 => ("RoundVotesModel", "has", "[I", true)
  | 21 => ("RoundVotesModel", "hasRound", "[I", true)
  | 22 => ("RoundVotesModel", "signed", "[I", true)
  | 23 => ("RoundVotesModel", "signedRound", "[I", true)
  | 24 => ("RoundVotesModel", "decidedValue", "[I", true)
  | 25 => ("RoundVotesModel", "decidedRound", "[I", true)
  | 26 => ("RoundVotesModel", "decidedBits", "[I", true)
  | 27 => ("RoundVotesModel", "decidedWeight", "[J", true)
  | 28 => ("RoundVotesModel", "due", "[I", true)
  | 29 => ("RoundVotesModel", "from", "[I", true)
  | 30 => ("RoundVotesModel", "to", "[I", true)
  | 31 => ("RoundVotesModel", "height", "[I", true)
  | 32 => ("RoundVotesModel", "round", "[I", true)
  | 33 => ("RoundVotesModel", "kind", "[I", true)
  | 34 => ("RoundVotesModel", "value", "[I", true)
  | 35 => ("RoundVotesModel", "since", "[I", true)
  | 36 => ("RoundVotesModel", "isSecond", "[Z", true)
  | 37 => ("RoundVotesModel", "copies", "I", false)
  | 38 => ("RoundVotesModel", "underWay", "I", false)
  | 39 => ("RoundVotesModel", "gone", "I", false)
  | 40 => ("RoundVotesModel", "came", "I", false)
  | 41 => ("RoundVotesModel", "lost", "I", false)
  | 42 => ("RoundVotesModel", "disturbed", "[I", true)
  | 43 => ("RoundVotesModel", "disturbKind", "[I", true)
  | 44 => ("RoundVotesModel", "disturbBy", "[I", true)
  | 45 => ("RoundVotesModel", "disturbs", "I", false)
  | 46 => ("RoundVotesModel", "sideBits", "I", false)
  | 47 => ("RoundVotesModel", "sidesFrom", "I", false)
  | 48 => ("RoundVotesModel", "sidesUntil", "I", false)
  | 49 => ("RoundVotesModel", "evidence", "[I", true)
  | 50 => ("RoundVotesModel", "evidences", "I", false)
  | 51 => ("RoundVotesModel", "firstSent", "[I", true)
  | _ => ("RoundVotesModel", "sentUnlike", "[Z", true)
def tyX11 : Nat → FieldType := fun k => match k with
  | 0 => .int
  | 1 => .int
  | 2 => .int
  | 3 => .int
  | 4 => .array .int
  | 5 => .array .int
  | 6 => .array .int
  | 7 => .array .int
  | 8 => .array .int
  | 9 => .array .int
  | 10 => .array .int
  | 11 => .array .int
  | 12 => .array .int
  | 13 => .array .boolean
  | 14 => .array .int
  | 15 => .array .int
  | 16 => .array .boolean
  | 17 => .array .boolean
  | 18 => .array .boolean
  | 19 => .array .int
  | 20 => .array .int
  | 21 => .array .int
  | 22 => .array .int
  | 23 => .array .int
  | 24 => .array .int
  | 25 => .array .int
  | 26 => .array .int
  | 27 => .array .long
  | 28 => .array .int
  | 29 => .array .int
  | 30 => .array .int
  | 31 => .array .int
  | 32 => .array .int
  | 33 => .array .int
  | 34 => .array .int
  | 35 => .array .int
  | 36 => .array .boolean
  | 37 => .int
  | 38 => .int
  | 39 => .int
  | 40 => .int
  | 41 => .int
  | 42 => .array .int
  | 43 => .array .int
  | 44 => .array .int
  | 45 => .int
  | 46 => .int
  | 47 => .int
  | 48 => .int
  | 49 => .array .int
  | 50 => .int
  | 51 => .array .int
  | _ => .array .boolean
abbrev wsX110 : List Cond := u_ws RX11 TX11 53
theorem nmX11 : ∀ a, a < 53 → ∀ b, b < 53 → a ≠ b → (TX11 a).2.1 ≠ (TX11 b).2.1 := by decide +kernel
theorem tyX11_ok : ∀ k, k < 53 → parseFieldDescriptor (TX11 k).2.2.1 = some (tyX11 k) := by decide +kernel
abbrev cX11_in : ByteArray := prog_13_method_2_code
def yX11_in : MethodName := ⟨RX11, "in", "(JJJ)Z"⟩
abbrev cX11_init : ByteArray := prog_13_method_3_code
def yX11_init : MethodName := ⟨RX11, "<init>", "(II)V"⟩
abbrev cX11_place : ByteArray := prog_13_method_4_code
def yX11_place : MethodName := ⟨RX11, "place", "(IIIII)I"⟩
abbrev cX11_roundPlace : ByteArray := prog_13_method_5_code
def yX11_roundPlace : MethodName := ⟨RX11, "roundPlace", "(IIII)I"⟩
abbrev cX11_clearHeight : ByteArray := prog_13_method_6_code
def yX11_clearHeight : MethodName := ⟨RX11, "clearHeight", "(II)V"⟩
abbrev cX11_clearSigned : ByteArray := prog_13_method_7_code
def yX11_clearSigned : MethodName := ⟨RX11, "clearSigned", "(I)V"⟩
abbrev cX11_all : ByteArray := prog_13_method_8_code
def yX11_all : MethodName := ⟨RX11, "all", "(I)J"⟩
abbrev cX11_isMany : ByteArray := prog_13_method_9_code
def yX11_isMany : MethodName := ⟨RX11, "isMany", "(JI)Z"⟩
abbrev cX11_proposer : ByteArray := prog_13_method_10_code
def yX11_proposer : MethodName := ⟨RX11, "proposer", "(II)I"⟩
abbrev cX11_ownValue : ByteArray := prog_13_method_11_code
def yX11_ownValue : MethodName := ⟨RX11, "ownValue", "(III)I"⟩
abbrev cX11_sentPlace : ByteArray := prog_13_method_12_code
def yX11_sentPlace : MethodName := ⟨RX11, "sentPlace", "(IIII)I"⟩
abbrev cX11_noteSent : ByteArray := prog_13_method_13_code
def yX11_noteSent : MethodName := ⟨RX11, "noteSent", "(IIIII)V"⟩
abbrev cX11_otherValue : ByteArray := prog_13_method_14_code
def yX11_otherValue : MethodName := ⟨RX11, "otherValue", "(II)I"⟩
abbrev cX11_send : ByteArray := prog_13_method_15_code
def yX11_send : MethodName := ⟨RX11, "send", "(IIII)V"⟩
abbrev cX11_areApart : ByteArray := prog_13_method_16_code
def yX11_areApart : MethodName := ⟨RX11, "areApart", "(II)Z"⟩
abbrev cX11_copy : ByteArray := prog_13_method_17_code
def yX11_copy : MethodName := ⟨RX11, "copy", "(IIIIIII)V"⟩
abbrev cX11_put : ByteArray := prog_13_method_18_code
def yX11_put : MethodName := ⟨RX11, "put", "(IIIIIIIIZ)V"⟩
abbrev cX11_keep : ByteArray := prog_13_method_19_code
def yX11_keep : MethodName := ⟨RX11, "keep", "(IIIIIIIZ)V"⟩
abbrev cX11_accuse : ByteArray := prog_13_method_20_code
def yX11_accuse : MethodName := ⟨RX11, "accuse", "(IIIII)V"⟩
abbrev cX11_hasOf : ByteArray := prog_13_method_21_code
def yX11_hasOf : MethodName := ⟨RX11, "hasOf", "(IIII)I"⟩
abbrev cX11_votes : ByteArray := prog_13_method_22_code
def yX11_votes : MethodName := ⟨RX11, "votes", "(IIII)J"⟩
abbrev cX11_proposal : ByteArray := prog_13_method_23_code
def yX11_proposal : MethodName := ⟨RX11, "proposal", "(II)I"⟩
abbrev cX11_proposalSince : ByteArray := prog_13_method_24_code
def yX11_proposalSince : MethodName := ⟨RX11, "proposalSince", "(II)I"⟩
abbrev cX11_begin : ByteArray := prog_13_method_25_code
def yX11_begin : MethodName := ⟨RX11, "begin", "(II)V"⟩
abbrev cX11_nextHeight : ByteArray := prog_13_method_26_code
def yX11_nextHeight : MethodName := ⟨RX11, "nextHeight", "(I)V"⟩
abbrev cX11_ruleA : ByteArray := prog_13_method_27_code
def yX11_ruleA : MethodName := ⟨RX11, "ruleA", "(I)Z"⟩
abbrev cX11_ruleB : ByteArray := prog_13_method_28_code
def yX11_ruleB : MethodName := ⟨RX11, "ruleB", "(I)Z"⟩
abbrev cX11_ruleC : ByteArray := prog_13_method_29_code
def yX11_ruleC : MethodName := ⟨RX11, "ruleC", "(I)Z"⟩
abbrev cX11_ruleD : ByteArray := prog_13_method_30_code
def yX11_ruleD : MethodName := ⟨RX11, "ruleD", "(I)Z"⟩
abbrev cX11_ruleE : ByteArray := prog_13_method_31_code
def yX11_ruleE : MethodName := ⟨RX11, "ruleE", "(I)Z"⟩
abbrev cX11_ruleF : ByteArray := prog_13_method_32_code
def yX11_ruleF : MethodName := ⟨RX11, "ruleF", "(I)Z"⟩
abbrev cX11_ruleG : ByteArray := prog_13_method_33_code
def yX11_ruleG : MethodName := ⟨RX11, "ruleG", "(I)Z"⟩
abbrev cX11_rules : ByteArray := prog_13_method_34_code
def yX11_rules : MethodName := ⟨RX11, "rules", "(I)V"⟩
abbrev cX11_comeBack : ByteArray := prog_13_method_35_code
def yX11_comeBack : MethodName := ⟨RX11, "comeBack", "(I)V"⟩
abbrev cX11_deliver : ByteArray := prog_13_method_36_code
def yX11_deliver : MethodName := ⟨RX11, "deliver", "(ZI)V"⟩
abbrev cX11_tidy : ByteArray := prog_13_method_37_code
def yX11_tidy : MethodName := ⟨RX11, "tidy", "()V"⟩
abbrev cX11_timerEnds : ByteArray := prog_13_method_38_code
def yX11_timerEnds : MethodName := ⟨RX11, "timerEnds", "(II)V"⟩
abbrev cX11_oneTurn : ByteArray := prog_13_method_39_code
def yX11_oneTurn : MethodName := ⟨RX11, "oneTurn", "()V"⟩
abbrev cX11_turn : ByteArray := prog_13_method_40_code
def yX11_turn : MethodName := ⟨RX11, "turn", "(I)I"⟩
abbrev cX11_noNode : ByteArray := prog_13_method_41_code
def yX11_noNode : MethodName := ⟨RX11, "noNode", "(I)Z"⟩
abbrev cX11_weight : ByteArray := prog_13_method_42_code
def yX11_weight : MethodName := ⟨RX11, "weight", "(II)I"⟩
abbrev cX11_behave : ByteArray := prog_13_method_43_code
def yX11_behave : MethodName := ⟨RX11, "behave", "(II)I"⟩
abbrev cX11_disturb : ByteArray := prog_13_method_44_code
def yX11_disturb : MethodName := ⟨RX11, "disturb", "(III)I"⟩
abbrev cX11_sides : ByteArray := prog_13_method_45_code
def yX11_sides : MethodName := ⟨RX11, "sides", "(II)I"⟩
abbrev cX11_cut : ByteArray := prog_13_method_46_code
def yX11_cut : MethodName := ⟨RX11, "cut", "(II)I"⟩
abbrev cX11_catchUp : ByteArray := prog_13_method_47_code
def yX11_catchUp : MethodName := ⟨RX11, "catchUp", "(I)I"⟩
abbrev cX11_node : ByteArray := prog_13_method_48_code
def yX11_node : MethodName := ⟨RX11, "node", "(II)I"⟩
abbrev cX11_vote : ByteArray := prog_13_method_49_code
def yX11_vote : MethodName := ⟨RX11, "vote", "(IIII)I"⟩
abbrev cX11_decided : ByteArray := prog_13_method_50_code
def yX11_decided : MethodName := ⟨RX11, "decided", "(III)I"⟩
abbrev cX11_unlike : ByteArray := prog_13_method_51_code
def yX11_unlike : MethodName := ⟨RX11, "unlike", "(I)I"⟩
abbrev cX11_evidence : ByteArray := prog_13_method_52_code
def yX11_evidence : MethodName := ⟨RX11, "evidence", "(II)I"⟩
abbrev cX11_against : ByteArray := prog_13_method_53_code
def yX11_against : MethodName := ⟨RX11, "against", "(I)I"⟩
abbrev cX11_count : ByteArray := prog_13_method_54_code
def yX11_count : MethodName := ⟨RX11, "count", "(I)I"⟩
abbrev cX11_weightOf : ByteArray := prog_13_method_55_code
def yX11_weightOf : MethodName := ⟨RX11, "weightOf", "(II)I"⟩
def RL : String := "RoundVotesLaw"
abbrev cL_cell : ByteArray := method_2_code
def yL_cell : MethodName := ⟨RL, "cell", "([II)I"⟩
abbrev cL_law : ByteArray := code
def yL_law : MethodName := ⟨RL, "law", "([I)Z"⟩
end
section
/-! ===== the small machine: a heap of typed cells; operations as functions; runs by fuel ===== -/
/-- top, slots made, tags, lengths, ints, longs, references -/
abbrev mH : Type := Nat × Nat × (Nat → Nat) × (Nat → Nat) × (Nat → Nat → Int32) × (Nat → Nat → Int64) × (Nat → Nat → Option Nat)
def mTop (h : mH) : Nat := h.1
def mSl (h : mH) : Nat := h.2.1
def mTg (h : mH) (a : Nat) : Nat := h.2.2.1 a
def mLn (h : mH) (a : Nat) : Nat := h.2.2.2.1 a
def mI (h : mH) (a k : Nat) : Int32 := h.2.2.2.2.1 a k
def mJ (h : mH) (a k : Nat) : Int64 := h.2.2.2.2.2.1 a k
def mP (h : mH) (a k : Nat) : Option Nat := h.2.2.2.2.2.2 a k
/-- one place of a cell changed -/
def up2 {α : Type} (f : Nat → Nat → α) (a k : Nat) (v : α) : Nat → Nat → α := fun b j => if b = a ∧ j = k then v else f b j
def up1 {α : Type} (f : Nat → α) (a : Nat) (v : α) : Nat → α := fun b => if b = a then v else f b
def wI (h : mH) (a k : Nat) (v : Int32) : mH := (h.1, h.2.1, h.2.2.1, h.2.2.2.1, up2 h.2.2.2.2.1 a k v, h.2.2.2.2.2.1, h.2.2.2.2.2.2)
def wJ (h : mH) (a k : Nat) (v : Int64) : mH := (h.1, h.2.1, h.2.2.1, h.2.2.2.1, h.2.2.2.2.1, up2 h.2.2.2.2.2.1 a k v, h.2.2.2.2.2.2)
def wP (h : mH) (a k : Nat) (v : Option Nat) : mH := (h.1, h.2.1, h.2.2.1, h.2.2.2.1, h.2.2.2.2.1, h.2.2.2.2.2.1, up2 h.2.2.2.2.2.2 a k v)
/-- a new cell at the top, of tag t and n slots, with default contents -/
def wN (h : mH) (t n : Nat) : mH := (h.1 + 1, h.2.1 + n, up1 h.2.2.1 h.1 t, up1 h.2.2.2.1 h.1 n, up1 h.2.2.2.2.1 h.1 (fun _ => 0), up1 h.2.2.2.2.2.1 h.1 (fun _ => 0), up1 h.2.2.2.2.2.2 h.1 (fun _ => none))
/-- new int[n][k]: the outer row at the top, the inner ones behind it -/
def wM (h : mH) (n k : Nat) : mH := (h.1 + (1 + n), h.2.1 + (n + n * k),
  fun a => if a = h.1 then 25 else if h.1 < a ∧ a < h.1 + (1 + n) then 20 else h.2.2.1 a,
  fun a => if a = h.1 then n else if h.1 < a ∧ a < h.1 + (1 + n) then k else h.2.2.2.1 a,
  fun a => if h.1 ≤ a ∧ a < h.1 + (1 + n) then (fun _ => 0) else h.2.2.2.2.1 a,
  fun a => if h.1 ≤ a ∧ a < h.1 + (1 + n) then (fun _ => 0) else h.2.2.2.2.2.1 a,
  fun a => if a = h.1 then (fun j => if j < n then some (h.1 + 1 + j) else none) else if h.1 < a ∧ a < h.1 + (1 + n) then (fun _ => none) else h.2.2.2.2.2.2 a)
abbrev mL : Type := List (Option Value)
abbrev mO : Type := Option Value × mH
abbrev mC : Type := Nat → List Value → mH → Option mO
abbrev mK : Type := Nat → mL → List Value → mH → Option mO
abbrev mOp : Type := mC → mK → mL → List Value → mH → Option mO
def o_no : mOp := fun _ _ _ _ _ => none
-- constants, locals
def o_ic (nx : Nat) (v : Int32) : mOp := fun _ k l st h => k nx l (.int v :: st) h
def o_lc (nx : Nat) (v : Int64) : mOp := fun _ k l st h => k nx l (.long v :: st) h
def o_ld (nx i : Nat) : mOp := fun _ k l st h => match l[i]? with
  | some (some v) => k nx l (v :: st) h
  | _ => none
/-- no long stands just ahead of place i -/
def mFree (l : mL) (i : Nat) : Bool := match i with
  | 0 => true
  | j + 1 => match l[j]? with
    | some (some (.long _)) => false
    | some (some (.double _)) => false
    | _ => true
def o_ist (nx i : Nat) : mOp := fun _ k l st h => match st with
  | .int x :: st => bif mFree l i && Nat.blt i l.length then k nx (l.set i (some (.int x))) st h else none
  | _ => none
def o_ast (nx i : Nat) : mOp := fun _ k l st h => match st with
  | .ref x :: st => bif mFree l i && Nat.blt i l.length then k nx (l.set i (some (.ref x))) st h else none
  | _ => none
def o_lst (nx i : Nat) : mOp := fun _ k l st h => match st with
  | .long x :: st => bif mFree l i && Nat.blt (i + 1) l.length then k nx ((l.set i (some (.long x))).set (i + 1) none) st h else none
  | _ => none
def o_inc (nx i : Nat) (n : Int32) : mOp := fun _ k l st h => match l[i]? with
  | some (some (.int x)) => bif mFree l i && Nat.blt i l.length then k nx (l.set i (some (.int (x + n)))) st h else none
  | _ => none
-- arithmetic
def o_ii (nx : Nat) (f : Int32 → Int32 → Int32) : mOp := fun _ k l st h => match st with
  | .int y :: .int x :: st => k nx l (.int (f x y) :: st) h
  | _ => none
def o_ll (nx : Nat) (f : Int64 → Int64 → Int64) : mOp := fun _ k l st h => match st with
  | .long y :: .long x :: st => k nx l (.long (f x y) :: st) h
  | _ => none
def o_rem (nx : Nat) : mOp := fun _ k l st h => match st with
  | .int y :: .int x :: st => if y = 0 then none else k nx l (.int (x - x / y * y) :: st) h
  | _ => none
def o_i2l (nx : Nat) : mOp := fun _ k l st h => match st with
  | .int x :: st => k nx l (.long x.toInt64 :: st) h
  | _ => none
def o_l2i (nx : Nat) : mOp := fun _ k l st h => match st with
  | .long x :: st => k nx l (.int x.toInt32 :: st) h
  | _ => none
def o_lcmp (nx : Nat) : mOp := fun _ k l st h => match st with
  | .long y :: .long x :: st => k nx l (.int (lg_cmp x y) :: st) h
  | _ => none
def o_dup (nx : Nat) : mOp := fun _ k l st h => match st with
  | .int x :: st => k nx l (.int x :: .int x :: st) h
  | .ref x :: st => k nx l (.ref x :: .ref x :: st) h
  | _ => none
def o_dup2 (nx : Nat) : mOp := fun _ k l st h => match st with
  | .int x :: .ref y :: st => k nx l (.int x :: .ref y :: .int x :: .ref y :: st) h
  | _ => none
-- branches
def o_goto (tg : Nat) : mOp := fun _ k l st h => k tg l st h
/-- a comparison of two ints, by kind: 0 eq, 1 ne, 2 lt, 3 ge, 4 gt, 5 le -/
def mCmp (kd : Nat) (x y : Int32) : Prop := match kd with
  | 0 => x = y
  | 1 => ¬ x = y
  | 2 => x < y
  | 3 => y ≤ x
  | 4 => y < x
  | _ => x ≤ y
def o_eq (nx tg : Nat) : mOp := fun _ k l st h => match st with
  | .int y :: .int x :: st => if x = y then k tg l st h else k nx l st h
  | _ => none
def o_ne (nx tg : Nat) : mOp := fun _ k l st h => match st with
  | .int y :: .int x :: st => if x = y then k nx l st h else k tg l st h
  | _ => none
def o_lt (nx tg : Nat) : mOp := fun _ k l st h => match st with
  | .int y :: .int x :: st => if x < y then k tg l st h else k nx l st h
  | _ => none
def o_ge (nx tg : Nat) : mOp := fun _ k l st h => match st with
  | .int y :: .int x :: st => if y ≤ x then k tg l st h else k nx l st h
  | _ => none
def o_gt (nx tg : Nat) : mOp := fun _ k l st h => match st with
  | .int y :: .int x :: st => if y < x then k tg l st h else k nx l st h
  | _ => none
def o_le (nx tg : Nat) : mOp := fun _ k l st h => match st with
  | .int y :: .int x :: st => if x ≤ y then k tg l st h else k nx l st h
  | _ => none
def o_eq0 (nx tg : Nat) : mOp := fun _ k l st h => match st with
  | .int x :: st => if x = 0 then k tg l st h else k nx l st h
  | _ => none
def o_ne0 (nx tg : Nat) : mOp := fun _ k l st h => match st with
  | .int x :: st => if x = 0 then k nx l st h else k tg l st h
  | _ => none
def o_lt0 (nx tg : Nat) : mOp := fun _ k l st h => match st with
  | .int x :: st => if x < 0 then k tg l st h else k nx l st h
  | _ => none
def o_ge0 (nx tg : Nat) : mOp := fun _ k l st h => match st with
  | .int x :: st => if 0 ≤ x then k tg l st h else k nx l st h
  | _ => none
def o_gt0 (nx tg : Nat) : mOp := fun _ k l st h => match st with
  | .int x :: st => if 0 < x then k tg l st h else k nx l st h
  | _ => none
def o_le0 (nx tg : Nat) : mOp := fun _ k l st h => match st with
  | .int x :: st => if x ≤ 0 then k tg l st h else k nx l st h
  | _ => none
def o_nul (nx tg : Nat) : mOp := fun _ k l st h => match st with
  | .null :: st => k tg l st h
  | .ref _ :: st => k nx l st h
  | _ => none
def o_nnul (nx tg : Nat) : mOp := fun _ k l st h => match st with
  | .null :: st => k nx l st h
  | .ref _ :: st => k tg l st h
  | _ => none
/-- a table switch from 0 on -/
def o_tsw (tgs : List Nat) (df : Nat) : mOp := fun _ k l st h => match st with
  | .int x :: st => if x < 0 ∨ tgs.length ≤ x.toNatClampNeg then k df l st h else k (tgs.getD x.toNatClampNeg df) l st h
  | _ => none
-- fields
def o_gI (nx t f : Nat) : mOp := fun _ k l st h => match st with
  | .ref a :: st => if mTg h a = t then k nx l (.int (mI h a f) :: st) h else none
  | _ => none
def o_gP (nx t f : Nat) : mOp := fun _ k l st h => match st with
  | .ref a :: st => if mTg h a = t then k nx l (va_rf (mP h a f) :: st) h else none
  | _ => none
def o_pI (nx t f : Nat) : mOp := fun _ k l st h => match st with
  | .int x :: .ref a :: st => if mTg h a = t then k nx l st (wI h a f x) else none
  | _ => none
def o_pZ (nx t f : Nat) : mOp := fun _ k l st h => match st with
  | .int x :: .ref a :: st => if mTg h a = t ∧ (x = 0 ∨ x = 1) then k nx l st (wI h a f x) else none
  | _ => none
def o_pP (nx t f : Nat) : mOp := fun _ k l st h => match st with
  | .ref x :: .ref a :: st => if mTg h a = t then k nx l st (wP h a f (some x)) else none
  | _ => none
-- rows
def o_ial (nx : Nat) : mOp := fun _ k l st h => match st with
  | .int i :: .ref a :: st => if (mTg h a = 20 ∨ mTg h a = 30) ∧ ¬ i < 0 ∧ i.toNatClampNeg < mLn h a then k nx l (.int (mI h a i.toNatClampNeg) :: st) h else none
  | _ => none
def o_bal (nx : Nat) : mOp := fun _ k l st h => match st with
  | .int i :: .ref a :: st => if mTg h a = 21 ∧ ¬ i < 0 ∧ i.toNatClampNeg < mLn h a then k nx l (.int (mI h a i.toNatClampNeg) :: st) h else none
  | _ => none
def o_lal (nx : Nat) : mOp := fun _ k l st h => match st with
  | .int i :: .ref a :: st => if mTg h a = 22 ∧ ¬ i < 0 ∧ i.toNatClampNeg < mLn h a then k nx l (.long (mJ h a i.toNatClampNeg) :: st) h else none
  | _ => none
def o_aal (nx : Nat) : mOp := fun _ k l st h => match st with
  | .int i :: .ref a :: st => if (mTg h a = 23 ∨ mTg h a = 24 ∨ mTg h a = 25) ∧ ¬ i < 0 ∧ i.toNatClampNeg < mLn h a then k nx l (va_rf (mP h a i.toNatClampNeg) :: st) h else none
  | _ => none
def o_ias (nx : Nat) : mOp := fun _ k l st h => match st with
  | .int x :: .int i :: .ref a :: st => if mTg h a = 20 ∧ ¬ i < 0 ∧ i.toNatClampNeg < mLn h a then k nx l st (wI h a i.toNatClampNeg x) else none
  | _ => none
def o_bas (nx : Nat) : mOp := fun _ k l st h => match st with
  | .int x :: .int i :: .ref a :: st => if mTg h a = 21 ∧ (x = 0 ∨ x = 1) ∧ ¬ i < 0 ∧ i.toNatClampNeg < mLn h a then k nx l st (wI h a i.toNatClampNeg x) else none
  | _ => none
def o_las (nx : Nat) : mOp := fun _ k l st h => match st with
  | .long x :: .int i :: .ref a :: st => if mTg h a = 22 ∧ ¬ i < 0 ∧ i.toNatClampNeg < mLn h a then k nx l st (wJ h a i.toNatClampNeg x) else none
  | _ => none
/-- rows of references: 23 holds cells of tag 6, 24 cells of tag 7 -/
def o_aas (nx : Nat) : mOp := fun _ k l st h => match st with
  | .ref x :: .int i :: .ref a :: st => if ((mTg h a = 23 ∧ mTg h x = 6) ∨ (mTg h a = 24 ∧ mTg h x = 7)) ∧ ¬ i < 0 ∧ i.toNatClampNeg < mLn h a then k nx l st (wP h a i.toNatClampNeg (some x)) else none
  | _ => none
def o_aln (nx : Nat) : mOp := fun _ k l st h => match st with
  | .ref a :: st => if mTg h a = 20 ∨ mTg h a = 23 ∨ mTg h a = 30 then k nx l (.int (nI (mLn h a)) :: st) h else none
  | _ => none
-- what is made
def o_new (nx t n : Nat) : mOp := fun _ k l st h => k nx l (.ref (mTop h) :: st) (wN h t n)
def o_nwa (nx t : Nat) : mOp := fun _ k l st h => match st with
  | .int n :: st => if ¬ n < 0 ∧ n.toNatClampNeg ≤ 1000000 then k nx l (.ref (mTop h) :: st) (wN h t n.toNatClampNeg) else none
  | _ => none
def o_mna (nx : Nat) : mOp := fun _ k l st h => match st with
  | .int m :: .int n :: st => if (¬ n < 0 ∧ n.toNatClampNeg ≤ 1000000) ∧ ¬ m < 0 ∧ m.toNatClampNeg ≤ 1000000 then k nx l (.ref (mTop h) :: st) (wM h n.toNatClampNeg m.toNatClampNeg) else none
  | _ => none
-- calls and ends
def mCat (st : List Value) : Nat := (st.map fun v => v.category).sum
def o_obj (nx : Nat) : mOp := fun _ k l st h => match st with
  | .ref _ :: st => bif Nat.ble (mCat st) 8 then k nx l st h else none
  | _ => none
/-- a static method m of n arguments -/
def o_cS (nx m n : Nat) : mOp := fun c k l st h => bif Nat.ble (mCat (st.drop n)) 8 && Nat.ble n st.length then
    match c m (st.take n).reverse h with
    | some (r, h1) => k nx l (r.toList ++ st.drop n) h1
    | none => none
  else none
/-- a method m of an object of tag t, with n arguments -/
def o_cV (nx m n t : Nat) : mOp := fun c k l st h => match st.drop n with
  | .ref a :: rest => bif Nat.ble (mCat rest) 8 && Nat.ble n st.length then
      if mTg h a = t then
        match c m (.ref a :: (st.take n).reverse) h with
        | some (r, h1) => k nx l (r.toList ++ rest) h1
        | none => none
      else none
    else none
  | _ => none
/-- a constructor -/
def o_cI (nx m n : Nat) : mOp := fun c k l st h => match st.drop n with
  | .ref a :: rest => bif Nat.ble (mCat rest) 8 && Nat.ble n st.length then
      match c m (.ref a :: (st.take n).reverse) h with
      | some (r, h1) => k nx l (r.toList ++ rest) h1
      | none => none
    else none
  | _ => none
def o_ri : mOp := fun _ _ _ st h => match st with
  | [.int x] => some (some (.int x), h)
  | _ => none
def o_rz : mOp := fun _ _ _ st h => match st with
  | [.int x] => if x = 0 ∨ x = 1 then some (some (.int x), h) else none
  | _ => none
def o_rl : mOp := fun _ _ _ st h => match st with
  | [.long x] => some (some (.long x), h)
  | _ => none
def o_rv : mOp := fun _ _ _ st h => match st with
  | [] => some (none, h)
  | _ => none
/-- the locals with which a method begins: a long takes two places -/
def mEn : List Value → mL
  | [] => []
  | v :: vs => if v.category = 2 then some v :: none :: mEn vs else some v :: mEn vs
def mArgs (n : Nat) (vs : List Value) : mL := mEn vs ++ List.replicate (n - (mEn vs).length) none
end
section
/-! ===== the small machine beside the great one ===== -/
def mTy : Nat → Nat → FieldType := fun t k => match t with
  | 1 => tyX0 k
  | 2 => tyX1 k
  | 3 => tyX2 k
  | 4 => tyX3 k
  | 5 => tyX4 k
  | 6 => tyX5 k
  | 7 => tyX6 k
  | 8 => tyX7 k
  | 9 => tyX8 k
  | 10 => tyX9 k
  | 11 => tyX10 k
  | 12 => tyX11 k
  | 20 => .int
  | 21 => .boolean
  | 22 => .long
  | 23 => .object RX5
  | 24 => .object RX6
  | _ => .array .int
def mVal (ty : FieldType) (i : Int32) (j : Int64) (p : Option Nat) : Value := match ty with
  | .long => .long j
  | .object _ => va_rf p
  | .array _ => va_rf p
  | _ => .int i
def mV (h : mH) (a k : Nat) : Value := mVal (mTy (mTg h a) k) (mI h a k) (mJ h a k) (mP h a k)
abbrev mCl : List vw_C := [(RX0, TX0, 4), (RX1, TX1, 2), (RX2, TX2, 3), (RX3, TX3, 2), (RX4, TX4, 3), (RX5, TX5, 9), (RX6, TX6, 18), (RX7, TX7, 3), (RX8, TX8, 4), (RX9, TX9, 4), (RX10, TX10, 12), (RX11, TX11, 53)]
/-- array classes by tag less 20 -/
abbrev mTys (dA : Nat → ClassId) : List (ClassId × FieldType) := [(dA 20, .int), (dA 21, .boolean), (dA 22, .long), (dA 23, .object RX5), (dA 24, .object RX6), (dA 25, .array .int)]
/-- what is fixed for the whole run: the classes' numbers and slots, the arrays' classes, where the new cells begin, where the script lies, its length, its ints, the heap at the start -/
abbrev mG : Type := va_G × (Nat → ClassId) × Nat × Nat × Nat × (Nat → Int32) × Heap
def gD (g : mG) : va_G := g.1
def gA (g : mG) : Nat → ClassId := g.2.1
def gB (g : mG) : Nat := g.2.2.1
def gb (g : mG) : Nat := g.2.2.2.1
def gL (g : mG) : Nat := g.2.2.2.2.1
def gx (g : mG) : Nat → Int32 := g.2.2.2.2.2.1
def gH (g : mG) : Heap := g.2.2.2.2.2.2
/-- the cell at a is as the small heap says -/
def mCR (g : mG) (h : mH) (H : Heap) (a : Nat) : Prop :=
  (∀ r : vw_C, mTg h a ≤ 12 → mCl[mTg h a - 1]? = some r → t_OB a ((gD g).1 (mTg h a - 1)) r.2.2 ((gD g).2 (mTg h a - 1)) H (mV h a)) ∧
  (20 ≤ mTg h a → H[a]? = some (arrV (gA g (mTg h a)) (mLn h a) (mV h a)))
def mHR (g : mG) (h : mH) (H : Heap) : Prop :=
  H.size = mTop h ∧ gB g ≤ mTop h ∧ gb g < gB g ∧ (∀ q : Nat, q < gB g → H[q]? = (gH g)[q]?) ∧
  ∀ a : Nat, mTg h a ≠ 0 → (a = gb g ∧ mTg h a = 30 ∧ mLn h a = gL g ∧ mI h a = gx g) ∨ (mTg h a < 30 ∧ gB g ≤ a ∧ a < mTop h ∧ mCR g h H a)
theorem mHR.in {g : mG} {h : mH} {H : Heap} (R : mHR g h H) {a t : Nat} (ht : mTg h a = t) (h0 : t ≠ 0) (h30 : t ≠ 30) : gB g ≤ a ∧ a < mTop h ∧ mCR g h H a := by
  rcases R.2.2.2.2 a (by rw [ht]; exact h0) with ⟨-, h2, -⟩ | ⟨-, h2⟩
  · exact absurd (ht.symm.trans h2) h30
  · exact h2
theorem mHR.obj {g : mG} {h : mH} {H : Heap} (R : mHR g h H) {a t : Nat} (ht : mTg h a = t + 1) (h12 : t < 12) {r : vw_C} (hr : mCl[t]? = some r) : t_OB a ((gD g).1 t) r.2.2 ((gD g).2 t) H (mV h a) := by
  have h1 := (R.in ht (by omega) (by omega)).2.2.1 r (by omega)
  rw [ht] at h1
  exact h1 hr
theorem mHR.arr {g : mG} {h : mH} {H : Heap} (R : mHR g h H) {a t : Nat} (ht : mTg h a = t) (h20 : 20 ≤ t) (h30 : t ≠ 30) : H[a]? = some (arrV (gA g t) (mLn h a) (mV h a)) := by
  have h1 := (R.in ht (by omega) h30).2.2.2 (by omega)
  rw [ht] at h1
  exact h1
theorem mHR.base {g : mG} {h : mH} {H : Heap} (R : mHR g h H) {a t : Nat} (ht : mTg h a = t) (h0 : t ≠ 0) (h30 : t ≠ 30) : gB g ≤ a := (R.in ht h0 h30).1
-- the small heap's own words
theorem mTop_wI {h : mH} {a k : Nat} {v : Int32} : mTop (wI h a k v) = mTop h := rfl
theorem mSl_wI {h : mH} {a k : Nat} {v : Int32} : mSl (wI h a k v) = mSl h := rfl
theorem mTg_wI {h : mH} {a k : Nat} {v : Int32} : mTg (wI h a k v) = mTg h := rfl
theorem mLn_wI {h : mH} {a k : Nat} {v : Int32} : mLn (wI h a k v) = mLn h := rfl
theorem mI_wI {h : mH} {a k : Nat} {v : Int32} {b j : Nat} : mI (wI h a k v) b j = if b = a ∧ j = k then v else mI h b j := rfl
theorem mJ_wI {h : mH} {a k : Nat} {v : Int32} : mJ (wI h a k v) = mJ h := rfl
theorem mP_wI {h : mH} {a k : Nat} {v : Int32} : mP (wI h a k v) = mP h := rfl
theorem mTop_wJ {h : mH} {a k : Nat} {v : Int64} : mTop (wJ h a k v) = mTop h := rfl
theorem mSl_wJ {h : mH} {a k : Nat} {v : Int64} : mSl (wJ h a k v) = mSl h := rfl
theorem mTg_wJ {h : mH} {a k : Nat} {v : Int64} : mTg (wJ h a k v) = mTg h := rfl
theorem mLn_wJ {h : mH} {a k : Nat} {v : Int64} : mLn (wJ h a k v) = mLn h := rfl
theorem mI_wJ {h : mH} {a k : Nat} {v : Int64} : mI (wJ h a k v) = mI h := rfl
theorem mJ_wJ {h : mH} {a k : Nat} {v : Int64} {b j : Nat} : mJ (wJ h a k v) b j = if b = a ∧ j = k then v else mJ h b j := rfl
theorem mP_wJ {h : mH} {a k : Nat} {v : Int64} : mP (wJ h a k v) = mP h := rfl
theorem mTop_wP {h : mH} {a k : Nat} {v : Option Nat} : mTop (wP h a k v) = mTop h := rfl
theorem mSl_wP {h : mH} {a k : Nat} {v : Option Nat} : mSl (wP h a k v) = mSl h := rfl
theorem mTg_wP {h : mH} {a k : Nat} {v : Option Nat} : mTg (wP h a k v) = mTg h := rfl
theorem mLn_wP {h : mH} {a k : Nat} {v : Option Nat} : mLn (wP h a k v) = mLn h := rfl
theorem mI_wP {h : mH} {a k : Nat} {v : Option Nat} : mI (wP h a k v) = mI h := rfl
theorem mJ_wP {h : mH} {a k : Nat} {v : Option Nat} : mJ (wP h a k v) = mJ h := rfl
theorem mP_wP {h : mH} {a k : Nat} {v : Option Nat} {b j : Nat} : mP (wP h a k v) b j = if b = a ∧ j = k then v else mP h b j := rfl
theorem mTop_wN {h : mH} {t n : Nat} : mTop (wN h t n) = mTop h + 1 := rfl
theorem mSl_wN {h : mH} {t n : Nat} : mSl (wN h t n) = mSl h + n := rfl
theorem mTg_wN {h : mH} {t n a : Nat} : mTg (wN h t n) a = if a = mTop h then t else mTg h a := rfl
theorem mLn_wN {h : mH} {t n a : Nat} : mLn (wN h t n) a = if a = mTop h then n else mLn h a := rfl
theorem mI_wN {h : mH} {t n a : Nat} : mI (wN h t n) a = if a = mTop h then (fun _ => 0) else mI h a := rfl
theorem mJ_wN {h : mH} {t n a : Nat} : mJ (wN h t n) a = if a = mTop h then (fun _ => 0) else mJ h a := rfl
theorem mP_wN {h : mH} {t n a : Nat} : mP (wN h t n) a = if a = mTop h then (fun _ => none) else mP h a := rfl
/-- one cell's contents have changed, at one place -/
theorem mHR.put {g : mG} {h h' : mH} {H H' : Heap} {a t : Nat} (R : mHR g h H) (ht : mTg h a = t) (h0 : t ≠ 0) (h30 : t ≠ 30)
    (e1 : mTop h' = mTop h) (e2 : mTg h' = mTg h) (e3 : mLn h' = mLn h) (e4 : ∀ b, b ≠ a → mI h' b = mI h b) (e5 : ∀ b j, b ≠ a → mV h' b j = mV h b j)
    (hz : H'.size = H.size) (oq : ∀ q : Nat, q ≠ a → H'[q]? = H[q]?) (hc : mCR g h' H' a) : mHR g h' H' := by
  obtain ⟨r1, r2, r3, r4, r5⟩ := id R
  have hb := (R.in ht h0 h30)
  refine ⟨by rw [hz, r1, e1], by rw [e1]; exact r2, r3, fun q hq => ?_, fun b hb0 => ?_⟩
  · rw [oq q (by omega)]
    exact r4 q hq
  · rw [e2] at hb0
    rcases r5 b hb0 with ⟨x1, x2, x3, x4⟩ | ⟨x1, x2, x3, x4⟩
    · have hne : b ≠ a := by
        intro e
        rw [e] at x1
        omega
      exact Or.inl ⟨x1, by rw [e2]; exact x2, by rw [e3]; exact x3, by rw [e4 b hne]; exact x4⟩
    · refine Or.inr ⟨by rw [e2]; exact x1, x2, by rw [e1]; exact x3, ?_⟩
      by_cases hne : b = a
      · subst hne
        exact hc
      · have hv : mV h' b = mV h b := funext fun j => e5 b j hne
        refine ⟨fun r hr1 hr2 => ?_, fun h20 => ?_⟩
        · rw [e2] at hr1 hr2 ⊢
          rw [hv]
          exact (x4.1 r hr1 hr2).kept (oq b hne)
        · rw [e2] at h20 ⊢
          rw [e3, hv, oq b hne]
          exact x4.2 h20
/-- a new cell at the top -/
theorem mHR.push {g : mG} {h : mH} {H H' : Heap} {t n : Nat} (R : mHR g h H) (ht : t < 30) (hz : H'.size = mTop h + 1) (oq : ∀ q : Nat, q < mTop h → H'[q]? = H[q]?) (hc : mCR g (wN h t n) H' (mTop h)) : mHR g (wN h t n) H' := by
  obtain ⟨r1, r2, r3, r4, r5⟩ := id R
  refine ⟨hz, by rw [mTop_wN]; omega, r3, fun q hq => ?_, fun b hb0 => ?_⟩
  · rw [oq q (by omega)]
    exact r4 q hq
  · by_cases hb : b = mTop h
    · subst hb
      exact Or.inr ⟨by rw [mTg_wN, if_pos rfl]; exact ht, r2, by rw [mTop_wN]; omega, hc⟩
    · have q1 : mTg (wN h t n) b = mTg h b := by rw [mTg_wN, if_neg hb]
      have q2 : mLn (wN h t n) b = mLn h b := by rw [mLn_wN, if_neg hb]
      have q3 : mI (wN h t n) b = mI h b := by rw [mI_wN, if_neg hb]
      have q4 : mJ (wN h t n) b = mJ h b := by rw [mJ_wN, if_neg hb]
      have q5 : mP (wN h t n) b = mP h b := by rw [mP_wN, if_neg hb]
      have q6 : mV (wN h t n) b = mV h b := funext fun j => by unfold mV; rw [q1, q3, q4, q5]
      rw [q1] at hb0
      rcases r5 b hb0 with ⟨x1, x2, x3, x4⟩ | ⟨x1, x2, x3, x4⟩
      · exact Or.inl ⟨x1, by rw [q1]; exact x2, by rw [q2]; exact x3, by rw [q3]; exact x4⟩
      · refine Or.inr ⟨by rw [q1]; exact x1, x2, by rw [mTop_wN]; omega, ⟨fun r hr1 hr2 => ?_, fun h20 => ?_⟩⟩
        · rw [q1] at hr1 hr2 ⊢
          rw [q6]
          exact (x4.1 r hr1 hr2).kept (oq b x3)
        · rw [q1] at h20 ⊢
          rw [q2, q6, oq b x3]
          exact x4.2 h20
-- locals
def mLV (ls : Array Slot) (nL : Nat) (l : mL) : Prop := ls.size = nL ∧ lv_wf ls ∧ l.length = nL ∧ ∀ (i : Nat) (v : Value), l[i]? = some (some v) → ls[i]? = some (.val v)
def mAs (l : mL) : List (Nat × Value) := (List.range l.length).filterMap (fun i => match l[i]? with
  | some (some v) => some (i, v)
  | _ => none)
theorem mAs_in {l : mL} {i : Nat} {v : Value} : (i, v) ∈ mAs l ↔ l[i]? = some (some v) := by
  unfold mAs
  rw [List.mem_filterMap]
  constructor
  · rintro ⟨j, -, hj⟩
    split at hj
    · next w hw =>
      cases hj
      exact hw
    · cases hj
  · intro h
    refine ⟨i, List.mem_range.mpr (List.getElem?_eq_some_iff.mp h).1, ?_⟩
    rw [h]
theorem mLV.has {ls : Array Slot} {nL : Nat} {l : mL} (h : mLV ls nL l) : lv_has ls nL (mAs l) := ⟨h.1, h.2.1, fun q hq => h.2.2.2 q.1 q.2 (mAs_in.mp hq)⟩
theorem mFree_spec {l : mL} {i j : Nat} {v : Value} (h : mFree l i = true) (hj : j + 1 = i) (hv : l[j]? = some (some v)) : ¬ v.category = 2 := by
  subst hj
  simp only [mFree, hv] at h
  cases v <;> simp_all [Value.category]
theorem mLV.set1 {ls ls' : Array Slot} {nL : Nat} {l : mL} {i : Nat} {v : Value} (h : mLV ls nL l) (hf : mFree l i = true) (hi : i < l.length) (h' : lv_has ls' nL ((i, v) :: (mAs l).filter (fun q => !(q.1 == i) && !(q.1 + 1 == i && q.2.category == 2)))) : mLV ls' nL (l.set i (some v)) := by
  refine ⟨h'.1, h'.2.1, by rw [List.length_set]; exact h.2.2.1, fun j w hj => ?_⟩
  by_cases hji : j = i
  · subst hji
    rw [List.getElem?_set_self hi] at hj
    cases hj
    exact h'.2.2 (j, v) List.mem_cons_self
  · rw [List.getElem?_set_ne (Ne.symm hji)] at hj
    refine h'.2.2 (j, w) (List.mem_cons_of_mem _ (List.mem_filter.mpr ⟨mAs_in.mpr hj, ?_⟩))
    have h3 : ¬ (j + 1 = i ∧ w.category = 2) := fun q => mFree_spec hf q.1 hj q.2
    simp only [Bool.and_eq_true, Bool.not_eq_true', beq_eq_false_iff_ne, ne_eq, Bool.and_eq_false_iff]
    exact ⟨hji, by
      by_cases e1 : j + 1 = i
      · exact Or.inr fun e2 => h3 ⟨e1, e2⟩
      · exact Or.inl e1⟩
theorem mLV.set2 {ls ls' : Array Slot} {nL : Nat} {l : mL} {i : Nat} {v : Value} (h : mLV ls nL l) (hf : mFree l i = true) (hi : i + 1 < l.length) (h' : lv_has ls' nL ((i, v) :: (mAs l).filter (fun q => !(q.1 == i) && (!(q.1 == i + 1) && !(q.1 + 1 == i && q.2.category == 2))))) : mLV ls' nL ((l.set i (some v)).set (i + 1) none) := by
  refine ⟨h'.1, h'.2.1, by rw [List.length_set, List.length_set]; exact h.2.2.1, fun j w hj => ?_⟩
  by_cases hj1 : j = i + 1
  · subst hj1
    rw [List.getElem?_set_self (by rw [List.length_set]; exact hi)] at hj
    cases hj
  · rw [List.getElem?_set_ne (Ne.symm hj1)] at hj
    by_cases hji : j = i
    · subst hji
      rw [List.getElem?_set_self (by omega)] at hj
      cases hj
      exact h'.2.2 (j, v) List.mem_cons_self
    · rw [List.getElem?_set_ne (Ne.symm hji)] at hj
      refine h'.2.2 (j, w) (List.mem_cons_of_mem _ (List.mem_filter.mpr ⟨mAs_in.mpr hj, ?_⟩))
      have h3 : ¬ (j + 1 = i ∧ w.category = 2) := fun q => mFree_spec hf q.1 hj q.2
      simp only [Bool.and_eq_true, Bool.not_eq_true', beq_eq_false_iff_ne, ne_eq, Bool.and_eq_false_iff]
      exact ⟨hji, hj1, by
        by_cases e1 : j + 1 = i
        · exact Or.inr fun e2 => h3 ⟨e1, e2⟩
        · exact Or.inl e1⟩
theorem mEn_args : ∀ (vs : List Value) (i j : Nat) (v : Value), (mEn vs)[j]? = some (some v) → (i + j, v) ∈ lv_args i vs
  | [], i, j, v, h => by simp [mEn] at h
  | w :: vs, i, j, v, h => by
    unfold mEn at h
    unfold lv_args
    by_cases hc : w.category = 2
    · rw [if_pos hc] at h ⊢
      match j, h with
      | 0, h => cases h; exact List.mem_cons_self
      | 1, h => cases h
      | j + 2, h =>
        have := mEn_args vs (i + 2) j v h
        rw [show i + (j + 2) = i + 2 + j by omega]
        exact List.mem_cons_of_mem _ this
    · rw [if_neg hc] at h ⊢
      match j, h with
      | 0, h => cases h; exact List.mem_cons_self
      | j + 1, h =>
        have := mEn_args vs (i + 1) j v h
        rw [show i + (j + 1) = i + 1 + j by omega]
        exact List.mem_cons_of_mem _ this
theorem mEn_len : ∀ vs : List Value, (mEn vs).length = (lg_sl vs).length
  | [] => rfl
  | w :: vs => by
    have := mEn_len vs
    unfold mEn
    by_cases hc : w.category = 2
    · rw [if_pos hc]
      simp [lg_sl, hc] at this ⊢
      omega
    · rw [if_neg hc]
      simp [lg_sl, hc] at this ⊢
      omega
theorem mLV_entry (vs : List Value) {n : Nat} (h : (mEn vs).length ≤ n) : mLV ((lg_sl vs ++ List.replicate (n - (lg_sl vs).length) Slot.unset).toArray) n (mArgs n vs) := by
  have h1 := lv_entry vs (n := n) (by rw [← mEn_len]; exact h)
  refine ⟨h1.1, h1.2.1, by unfold mArgs; rw [List.length_append, List.length_replicate]; omega, fun i v hi => ?_⟩
  unfold mArgs at hi
  by_cases hl : i < (mEn vs).length
  · rw [List.getElem?_append_left hl] at hi
    have := mEn_args vs 0 i v hi
    rw [Nat.zero_add] at this
    exact h1.2.2 (i, v) this
  · rw [List.getElem?_append_right (by omega), List.getElem?_replicate] at hi
    split at hi <;> cases hi
end
section
/-! ===== what a run of the small machine says of the great one ===== -/
/-- a method: its class, its name, its bytes, places for locals, answer's type, frames and locals' words that it may need -/
abbrev mM : Type := String × MethodName × ByteArray × Nat × Option FieldType × Nat × Nat
def mCn (M : mM) : String := M.1
def mNm (M : mM) : MethodName := M.2.1
def mCc (M : mM) : ByteArray := M.2.2.1
def mNl (M : mM) : Nat := M.2.2.2.1
def mRt (M : mM) : Option FieldType := M.2.2.2.2.1
def mFr (M : mM) : Nat := M.2.2.2.2.2.1
def mLo (M : mM) : Nat := M.2.2.2.2.2.2
/-- what holds in a frame of method M -/
def mCx (g : mG) (M : mM) (p : Program) (s : State) (mth : MethodId) (args : Array Value) (meth : Method) (c : Code) : Prop :=
  p.tables.exec = Jvm.exec ∧ c.code = mCc M ∧ c.maxLocals = mNl M ∧ s.vm.findClass (mCn M) = some mth.cls ∧ (∀ w ∈ lw_tbl, w.before args s = true) ∧
  va_K (gD g) mCl (mTys (gA g)) s ∧ va_X (gb g) (gL g) (gx g) s (gH g) ∧ meth.name = (mNm M).name
/-- the instruction at pc gives this answer -/
def mDr (M : mM) (pc : Nat) (r : Option Value) : Prop := match r with
  | some (.int v) => decode (mCc M) pc = .ok (.ireturn, 1) ∧ (mRt M = some .int ∨ (mRt M = some .boolean ∧ (v = 0 ∨ v = 1)))
  | some (.long _) => decode (mCc M) pc = .ok (.lreturn, 1) ∧ mRt M = some .long
  | none => decode (mCc M) pc = .ok (.return_, 1) ∧ mRt M = none
  | _ => False
def mRet (g : mG) (lau : Launch) (M : mM) (p : Program) (e : Env) (R : Room) (s : State) (mth : MethodId) (args : Array Value) (below : List Frame) (meth : Method) (c : Code) (Q : State → Prop) (o : mO) : Prop :=
  ∀ (pc : Nat) (ls : Array Slot) (H : Heap) (locs : List Loc) (cells slots : Nat), mDr M pc o.1 → mHR g o.2 H → (∀ q ∈ locs, gB g ≤ q.base) → cells ≤ R.cells → slots ≤ R.slots →
    W p lau e R s mth args below meth c H locs cells slots Q (F0 mth pc ls o.1.toList)
def mGood (g : mG) (lau : Launch) (M : mM) (pc : Nat) (l : mL) (st : List Value) (h : mH) (o : mO) : Prop :=
  mTop h ≤ mTop o.2 ∧ mSl h ≤ mSl o.2 ∧
  ∀ (p : Program) (e : Env) (R : Room) (s : State) (mth : MethodId) (args : Array Value) (below : List Frame) (meth : Method) (c : Code) (Q : State → Prop), mCx g M p s mth args meth c → mFr M ≤ R.frames → mLo M ≤ R.locals → mRet g lau M p e R s mth args below meth c Q o →
  ∀ (ls : Array Slot) (H : Heap) (locs : List Loc) (cells slots : Nat), mLV ls (mNl M) l → mHR g h H → (∀ q ∈ locs, gB g ≤ q.base) → cells + (mTop o.2 - mTop h) ≤ R.cells → slots + (mSl o.2 - mSl h) ≤ R.slots →
    W p lau e R s mth args below meth c H locs cells slots Q (F0 mth pc ls st)
/-- one step that leaves the heap -/
theorem mG_pure {g : mG} {lau : Launch} {M : mM} {pc pc' : Nat} {l l' : mL} {st st' : List Value} {h : mH} {o : mO}
    (hs : ∀ (p : Program) (e : Env) (R : Room) (s : State) (mth : MethodId) (args : Array Value) (below : List Frame) (meth : Method) (c : Code) (Q : State → Prop), mCx g M p s mth args meth c → mFr M ≤ R.frames → mLo M ≤ R.locals →
      ∀ (ls : Array Slot) (H : Heap) (locs : List Loc) (cells slots : Nat), mLV ls (mNl M) l → mHR g h H →
        (∀ ls' : Array Slot, mLV ls' (mNl M) l' → W p lau e R s mth args below meth c H locs cells slots Q (F0 mth pc' ls' st')) → W p lau e R s mth args below meth c H locs cells slots Q (F0 mth pc ls st))
    (hg : mGood g lau M pc' l' st' h o) : mGood g lau M pc l st h o := by
  refine ⟨hg.1, hg.2.1, fun p e R s mth args below meth c Q hC hf hlo hR ls H locs cells slots hl hH hL hc hsl => ?_⟩
  exact hs p e R s mth args below meth c Q hC hf hlo ls H locs cells slots hl hH (fun ls' hl' => hg.2.2 p e R s mth args below meth c Q hC hf hlo hR ls' H locs cells slots hl' hH hL hc hsl)
/-- one step that writes or makes -/
theorem mG_heap {g : mG} {lau : Launch} {M : mM} {pc pc' : Nat} {l : mL} {st st' : List Value} {h h' : mH} {o : mO} {dc ds : Nat} (h1 : mTop h' = mTop h + dc) (h2 : mSl h' = mSl h + ds)
    (hs : ∀ (p : Program) (e : Env) (R : Room) (s : State) (mth : MethodId) (args : Array Value) (below : List Frame) (meth : Method) (c : Code) (Q : State → Prop), mCx g M p s mth args meth c →
      ∀ (ls : Array Slot) (H : Heap) (locs : List Loc) (cells slots : Nat), mLV ls (mNl M) l → mHR g h H → (∀ q ∈ locs, gB g ≤ q.base) → cells + dc ≤ R.cells → slots + ds ≤ R.slots →
        (∀ (H' : Heap) (locs' : List Loc), mHR g h' H' → (∀ q ∈ locs', gB g ≤ q.base) → W p lau e R s mth args below meth c H' locs' (cells + dc) (slots + ds) Q (F0 mth pc' ls st')) → W p lau e R s mth args below meth c H locs cells slots Q (F0 mth pc ls st))
    (hg : mGood g lau M pc' l st' h' o) : mGood g lau M pc l st h o := by
  obtain ⟨g1, g2, g3⟩ := hg
  refine ⟨by omega, by omega, fun p e R s mth args below meth c Q hC hf hlo hR ls H locs cells slots hl hH hL hc hsl => ?_⟩
  exact hs p e R s mth args below meth c Q hC ls H locs cells slots hl hH hL (by omega) (by omega) (fun H' locs' hH' hL' => g3 p e R s mth args below meth c Q hC hf hlo hR ls H' locs' (cells + dc) (slots + ds) hl hH' hL' (by omega) (by omega))
/-- a call of method M with these arguments, in this heap, ends so -/
def mWs (M : mM) : List Cond := .code (mNm M) (mCc M) (mNl M) (mRt M) :: lw_tbl
def mRm (M : mM) (mc ms : Nat) : Room := { frames := mFr M, cells := mc, slots := ms, locals := mLo M }
def mPc (g : mG) (as : List Value) (h : mH) : Array Value → State → Prop := fun v U => v = as.toArray ∧ mHR g h U.heap ∧ va_K (gD g) mCl (mTys (gA g)) U ∧ va_X (gb g) (gL g) (gx g) U (gH g)
def mQc (g : mG) (o : mO) : Array Value → State → Outcome → State → Prop := fun _ _ oc t => oc = .returned o.1 ∧ mHR g o.2 t.heap
def mCall (g : mG) (lau : Launch) (M : mM) (as : List Value) (h : mH) (o : mO) : Prop :=
  mTop h ≤ mTop o.2 ∧ mSl h ≤ mSl o.2 ∧ Met lau (mNm M) (mWs M) (mRm M (mTop o.2 - mTop h) (mSl o.2 - mSl h)) (mPc g as h) (mQc g o) (mTop o.2 - mTop h) (mSl o.2 - mSl h) (fun q => gB g ≤ q)
/-- out of a run of its body -/
theorem mG_call {g : mG} {lau : Launch} {M : mM} {as : List Value} {h : mH} {o : mO} (hp : plainName (mNm M).cls = true) (hcn : (mNm M).cls = mCn M) (hn : (mEn as).length ≤ mNl M) (hg : mGood g lau M 0 (mArgs (mNl M) as) [] h o) : mCall g lau M as h o := by
  obtain ⟨g1, g2, g3⟩ := hg
  refine ⟨g1, g2, ?_⟩
  refine Met.ofW (cc := mCc M) (maxL := mNl M) (ret := mRt M) hp rfl ?_
  intro p e s mth args below meth c s₁ B hml hv
  obtain ⟨rfl, hH, hK, hX⟩ := hv
  have hts := atoms_spec (ws := mWs M) B.pre
  have hown : s.vm.findClass (mCn M) = some mth.cls := by rw [← hcn]; exact findClass_of_methodNamed B.named
  have hlocks := B.notSynchronized
  have hx := B.exec
  have hb := B.bytes
  have hr := B.returns
  have hin : meth.name = (mNm M).name := (name_of_methodNamed B.named B.method).1
  have hl := mLV_entry as hn
  rw [lg_entry_eq]
  generalize (lg_sl as ++ List.replicate (mNl M - (lg_sl as).length) Slot.unset).toArray = ls at hl ⊢
  refine g3 p e (headSpec (mWs M) (mRm M (mTop o.2 - mTop h) (mSl o.2 - mSl h))).room s mth as.toArray below meth c _ ⟨hx, hb, hml, hown, fun w hw => hts w (List.mem_cons_of_mem _ hw), hK, hX, hin⟩ (Nat.le_refl _) (Nat.le_refl _) ?_ ls s.heap [] 0 0 hl hH (fun q hq => by cases hq) ?_ ?_
  · intro pc ls H locs cells slots hd hH' hL hc hs
    refine W.widen (k := mTop o.2 - mTop h) (n := mSl o.2 - mSl h) hc hs ?_
    obtain ⟨r, h'⟩ := o
    match r, hd with
    | some (.int v), hd =>
      obtain ⟨hd1, hd2⟩ := hd
      rcases hd2 with hd2 | ⟨hd2, hd3⟩
      · exact W.iret hx hb (hr.trans hd2) (fun t ht _ => ⟨rfl, by rw [ht]; exact hH'⟩) hL hd1
      · exact W.zret hx hb (hr.trans hd2) (by rcases hd3 with rfl | rfl <;> rfl) (fun t ht _ => ⟨rfl, by rw [ht]; exact hH'⟩) hL hd1
    | some (.long v), hd => exact W.lret hx hb (hr.trans hd.2) (fun t ht _ => ⟨rfl, by rw [ht]; exact hH'⟩) hL hd.1
    | none, hd => exact W.vret hx hb (hr.trans hd.2) (fun t ht _ => ⟨rfl, by rw [ht]; exact hH'⟩) hL hd.1
  · rw [Nat.zero_add]
    exact Nat.le_refl _
  · rw [Nat.zero_add]
    exact Nat.le_refl _
/-- an operation at pc of M is sound -/
def mSnd (g : mG) (lau : Launch) (mt : Nat → mM) (M : mM) (pc : Nat) (op : mOp) : Prop :=
  ∀ (c : mC) (k : mK), (∀ m a h o, c m a h = some o → mCall g lau (mt m) a h o) → (∀ pc l st h o, k pc l st h = some o → mGood g lau M pc l st h o) → ∀ l st h o, op c k l st h = some o → mGood g lau M pc l st h o
theorem s_no {g : mG} {lau : Launch} {mt : Nat → mM} {M : mM} {pc : Nat} : mSnd g lau mt M pc o_no := fun c k _ _ l st h o ho => by cases ho
theorem s_bif {g : mG} {lau : Launch} {mt : Nat → mM} {M : mM} {pc : Nat} {b : Bool} {x y : mOp} (hx : mSnd g lau mt M pc x) (hy : mSnd g lau mt M pc y) : mSnd g lau mt M pc (bif b then x else y) := by
  cases b
  · exact hy
  · exact hx
theorem s_leaf {g : mG} {lau : Launch} {mt : Nat → mM} {M : mM} {pc q : Nat} {x : mOp} (hx : mSnd g lau mt M q x) : mSnd g lau mt M pc (bif Nat.beq pc q then x else o_no) := by
  cases hb : Nat.beq pc q
  · exact s_no
  · have := Nat.eq_of_beq_eq_true hb
    subst this
    exact hx
end
section
/-! ===== the operations are sound: those that leave the heap ===== -/
section MPure
variable {g : mG} {lau : Launch} {mt : Nat → mM} {M : mM} {pc : Nat}
theorem s_iconst {n : Int} {v : Int32} (hd : decode (mCc M) pc = .ok (.iconst n, 1)) (hv : Int32.ofInt n = v) : mSnd g lau mt M pc (o_ic (pc + 1) v) := by
  intro c k _ hk l st h o ho
  exact mG_pure (fun p e R s mth args below meth c Q hC _ _ ls H locs cells slots hl _ kk => lv_iconst hC.1 hC.2.1 hd hv (kk ls hl)) (hk _ _ _ _ _ ho)
theorem s_bipush {n : Int} {v : Int32} (hd : decode (mCc M) pc = .ok (.bipush n, 2)) (hv : (Int8.ofInt n).toInt32 = v) : mSnd g lau mt M pc (o_ic (pc + 2) v) := by
  intro c k _ hk l st h o ho
  exact mG_pure (fun p e R s mth args below meth c Q hC _ _ ls H locs cells slots hl _ kk => lv_bipush hC.1 hC.2.1 hd hv (kk ls hl)) (hk _ _ _ _ _ ho)
theorem s_sipush {n : Int} {v : Int32} (hd : decode (mCc M) pc = .ok (.sipush n, 3)) (hv : (Int16.ofInt n).toInt32 = v) : mSnd g lau mt M pc (o_ic (pc + 3) v) := by
  intro c k _ hk l st h o ho
  exact mG_pure (fun p e R s mth args below meth c Q hC _ _ ls H locs cells slots hl _ kk => lv_sipush hC.1 hC.2.1 hd hv (kk ls hl)) (hk _ _ _ _ _ ho)
theorem s_lconst {n : Fin 2} {v : Int64} (hd : decode (mCc M) pc = .ok (.lconst n, 1)) (hv : Int64.ofNat (n : Nat) = v) : mSnd g lau mt M pc (o_lc (pc + 1) v) := by
  intro c k _ hk l st h o ho
  exact mG_pure (fun p e R s mth args below meth c Q hC _ _ ls H locs cells slots hl _ kk => lv_lconst hC.1 hC.2.1 hd hv (kk ls hl)) (hk _ _ _ _ _ ho)
theorem s_ldc {i : Nat} {v : Int32} (hd : decode (mCc M) pc = .ok (.ldc i, 2)) (hw : Cond.constant (mCn M) i v ∈ lw_tbl) : mSnd g lau mt M pc (o_ic (pc + 2) v) := by
  intro c k _ hk l st h o ho
  exact mG_pure (fun p e R s mth args below meth c Q hC _ _ ls H locs cells slots hl _ kk => W.ldc hC.1 hC.2.1 hC.2.2.2.1 (hC.2.2.2.2.1 _ hw) rfl hd (kk ls hl)) (hk _ _ _ _ _ ho)
theorem s_ldc2 {i : Nat} {v : Int64} (hd : decode (mCc M) pc = .ok (.ldc2_w i, 3)) (hw : Cond.constantLong (mCn M) i v ∈ lw_tbl) : mSnd g lau mt M pc (o_lc (pc + 3) v) := by
  intro c k _ hk l st h o ho
  exact mG_pure (fun p e R s mth args below meth c Q hC _ _ ls H locs cells slots hl _ kk => W.ldc2 hC.1 hC.2.1 hC.2.2.2.1 (hC.2.2.2.2.1 _ hw) rfl hd (kk ls hl)) (hk _ _ _ _ _ ho)
theorem o_ld_spec {c : mC} {k : mK} {nx i : Nat} {l : mL} {st : List Value} {h : mH} {o : mO} (ho : o_ld nx i c k l st h = some o) : ∃ v, l[i]? = some (some v) ∧ k nx l (v :: st) h = some o := by
  unfold o_ld at ho
  split at ho
  · next v hv => exact ⟨v, hv, ho⟩
  · cases ho
def o_il (nx i : Nat) : mOp := fun _ k l st h => match l[i]? with
  | some (some (.int x)) => k nx l (.int x :: st) h
  | _ => none
theorem o_il_spec {c : mC} {k : mK} {nx i : Nat} {l : mL} {st : List Value} {h : mH} {o : mO} (ho : o_il nx i c k l st h = some o) : ∃ x : Int32, l[i]? = some (some (.int x)) ∧ k nx l (.int x :: st) h = some o := by
  unfold o_il at ho
  split at ho
  · next x hv => exact ⟨x, hv, ho⟩
  · cases ho
theorem s_iload {i : Nat} (hd : decode (mCc M) pc = .ok (.iload i, 2)) : mSnd g lau mt M pc (o_il (pc + 2) i) := by
  intro c k _ hk l st h o ho
  obtain ⟨x, hx, ho⟩ := o_il_spec ho
  exact mG_pure (fun p e R s mth args below meth c Q hC _ _ ls H locs cells slots hl _ kk => lv_iload hC.1 hC.2.1 hd (hl.2.2.2 _ _ hx) (kk ls hl)) (hk _ _ _ _ _ ho)
theorem s_iload_n {j : Fin 4} {i : Nat} (hd : decode (mCc M) pc = .ok (.iload_n j, 1)) (hi : (j : Nat) = i) : mSnd g lau mt M pc (o_il (pc + 1) i) := by
  intro c k _ hk l st h o ho
  obtain ⟨x, hx, ho⟩ := o_il_spec ho
  exact mG_pure (fun p e R s mth args below meth c Q hC _ _ ls H locs cells slots hl _ kk => lv_iload_n hC.1 hC.2.1 hd hi (hl.2.2.2 _ _ hx) (kk ls hl)) (hk _ _ _ _ _ ho)
def o_llo (nx i : Nat) : mOp := fun _ k l st h => match l[i]? with
  | some (some (.long x)) => k nx l (.long x :: st) h
  | _ => none
theorem o_llo_spec {c : mC} {k : mK} {nx i : Nat} {l : mL} {st : List Value} {h : mH} {o : mO} (ho : o_llo nx i c k l st h = some o) : ∃ x : Int64, l[i]? = some (some (.long x)) ∧ k nx l (.long x :: st) h = some o := by
  unfold o_llo at ho
  split at ho
  · next x hv => exact ⟨x, hv, ho⟩
  · cases ho
theorem s_lload {i : Nat} (hd : decode (mCc M) pc = .ok (.lload i, 2)) : mSnd g lau mt M pc (o_llo (pc + 2) i) := by
  intro c k _ hk l st h o ho
  obtain ⟨x, hx, ho⟩ := o_llo_spec ho
  exact mG_pure (fun p e R s mth args below meth c Q hC _ _ ls H locs cells slots hl _ kk => lv_lload hC.1 hC.2.1 hd (hl.2.2.2 _ _ hx) (kk ls hl)) (hk _ _ _ _ _ ho)
theorem s_lload_n {j : Fin 4} {i : Nat} (hd : decode (mCc M) pc = .ok (.lload_n j, 1)) (hi : (j : Nat) = i) : mSnd g lau mt M pc (o_llo (pc + 1) i) := by
  intro c k _ hk l st h o ho
  obtain ⟨x, hx, ho⟩ := o_llo_spec ho
  exact mG_pure (fun p e R s mth args below meth c Q hC _ _ ls H locs cells slots hl _ kk => lv_lload_n hC.1 hC.2.1 hd hi (hl.2.2.2 _ _ hx) (kk ls hl)) (hk _ _ _ _ _ ho)
def o_al (nx i : Nat) : mOp := fun _ k l st h => match l[i]? with
  | some (some (.ref x)) => k nx l (.ref x :: st) h
  | _ => none
theorem o_al_spec {c : mC} {k : mK} {nx i : Nat} {l : mL} {st : List Value} {h : mH} {o : mO} (ho : o_al nx i c k l st h = some o) : ∃ x : Nat, l[i]? = some (some (.ref x)) ∧ k nx l (.ref x :: st) h = some o := by
  unfold o_al at ho
  split at ho
  · next x hv => exact ⟨x, hv, ho⟩
  · cases ho
theorem s_aload {i : Nat} (hd : decode (mCc M) pc = .ok (.aload i, 2)) : mSnd g lau mt M pc (o_al (pc + 2) i) := by
  intro c k _ hk l st h o ho
  obtain ⟨x, hx, ho⟩ := o_al_spec ho
  exact mG_pure (fun p e R s mth args below meth c Q hC _ _ ls H locs cells slots hl _ kk => lv_aload hC.1 hC.2.1 hd (hl.2.2.2 _ _ hx) (kk ls hl)) (hk _ _ _ _ _ ho)
theorem s_aload_n {j : Fin 4} {i : Nat} (hd : decode (mCc M) pc = .ok (.aload_n j, 1)) (hi : (j : Nat) = i) : mSnd g lau mt M pc (o_al (pc + 1) i) := by
  intro c k _ hk l st h o ho
  obtain ⟨x, hx, ho⟩ := o_al_spec ho
  exact mG_pure (fun p e R s mth args below meth c Q hC _ _ ls H locs cells slots hl _ kk => lv_aload_n hC.1 hC.2.1 hd hi (hl.2.2.2 _ _ hx) (kk ls hl)) (hk _ _ _ _ _ ho)
theorem o_ist_spec {c : mC} {k : mK} {nx i : Nat} {l : mL} {st : List Value} {h : mH} {o : mO} (ho : o_ist nx i c k l st h = some o) : ∃ (x : Int32) (st' : List Value), st = .int x :: st' ∧ mFree l i = true ∧ i < l.length ∧ k nx (l.set i (some (.int x))) st' h = some o := by
  unfold o_ist at ho
  split at ho
  · next x st' =>
    cases hb : (mFree l i && Nat.blt (i) l.length)
    · rw [hb] at ho
      cases ho
    · rw [hb] at ho
      rw [Bool.and_eq_true] at hb
      exact ⟨x, st', rfl, hb.1, Nat.le_of_ble_eq_true hb.2, ho⟩
  · cases ho
theorem s_istore {i : Nat} (hd : decode (mCc M) pc = .ok (.istore i, 2)) : mSnd g lau mt M pc (o_ist (pc + 2) i) := by
  intro c k _ hk l st h o ho
  obtain ⟨x, st', rfl, hf, hlt, ho⟩ := o_ist_spec ho
  exact mG_pure (fun p e R s mth args below meth c Q hC _ _ ls H locs cells slots hl _ kk => lv_istore hC.1 hC.2.1 hd hl.has (by rw [← hl.2.2.1]; exact hlt) rfl (fun ls' hl' => kk ls' (hl.set1 hf hlt hl'))) (hk _ _ _ _ _ ho)
theorem s_istore_n {j : Fin 4} {i : Nat} (hd : decode (mCc M) pc = .ok (.istore_n j, 1)) (hi : (j : Nat) = i) : mSnd g lau mt M pc (o_ist (pc + 1) i) := by
  intro c k _ hk l st h o ho
  obtain ⟨x, st', rfl, hf, hlt, ho⟩ := o_ist_spec ho
  exact mG_pure (fun p e R s mth args below meth c Q hC _ _ ls H locs cells slots hl _ kk => lv_istore_n hC.1 hC.2.1 hd hi hl.has (by rw [← hl.2.2.1]; exact hlt) rfl (fun ls' hl' => kk ls' (hl.set1 hf hlt hl'))) (hk _ _ _ _ _ ho)
theorem o_ast_spec {c : mC} {k : mK} {nx i : Nat} {l : mL} {st : List Value} {h : mH} {o : mO} (ho : o_ast nx i c k l st h = some o) : ∃ (x : Nat) (st' : List Value), st = .ref x :: st' ∧ mFree l i = true ∧ i < l.length ∧ k nx (l.set i (some (.ref x))) st' h = some o := by
  unfold o_ast at ho
  split at ho
  · next x st' =>
    cases hb : (mFree l i && Nat.blt (i) l.length)
    · rw [hb] at ho
      cases ho
    · rw [hb] at ho
      rw [Bool.and_eq_true] at hb
      exact ⟨x, st', rfl, hb.1, Nat.le_of_ble_eq_true hb.2, ho⟩
  · cases ho
theorem s_astore {i : Nat} (hd : decode (mCc M) pc = .ok (.astore i, 2)) : mSnd g lau mt M pc (o_ast (pc + 2) i) := by
  intro c k _ hk l st h o ho
  obtain ⟨x, st', rfl, hf, hlt, ho⟩ := o_ast_spec ho
  exact mG_pure (fun p e R s mth args below meth c Q hC _ _ ls H locs cells slots hl _ kk => lv_astore hC.1 hC.2.1 hd hl.has (by rw [← hl.2.2.1]; exact hlt) rfl (fun ls' hl' => kk ls' (hl.set1 hf hlt hl'))) (hk _ _ _ _ _ ho)
theorem s_astore_n {j : Fin 4} {i : Nat} (hd : decode (mCc M) pc = .ok (.astore_n j, 1)) (hi : (j : Nat) = i) : mSnd g lau mt M pc (o_ast (pc + 1) i) := by
  intro c k _ hk l st h o ho
  obtain ⟨x, st', rfl, hf, hlt, ho⟩ := o_ast_spec ho
  exact mG_pure (fun p e R s mth args below meth c Q hC _ _ ls H locs cells slots hl _ kk => lv_astore_n hC.1 hC.2.1 hd hi hl.has (by rw [← hl.2.2.1]; exact hlt) rfl (fun ls' hl' => kk ls' (hl.set1 hf hlt hl'))) (hk _ _ _ _ _ ho)
theorem o_lst_spec {c : mC} {k : mK} {nx i : Nat} {l : mL} {st : List Value} {h : mH} {o : mO} (ho : o_lst nx i c k l st h = some o) : ∃ (x : Int64) (st' : List Value), st = .long x :: st' ∧ mFree l i = true ∧ i + 1 < l.length ∧ k nx ((l.set i (some (.long x))).set (i + 1) none) st' h = some o := by
  unfold o_lst at ho
  split at ho
  · next x st' =>
    cases hb : (mFree l i && Nat.blt (i + 1) l.length)
    · rw [hb] at ho
      cases ho
    · rw [hb] at ho
      rw [Bool.and_eq_true] at hb
      exact ⟨x, st', rfl, hb.1, Nat.le_of_ble_eq_true hb.2, ho⟩
  · cases ho
theorem s_lstore {i : Nat} (hd : decode (mCc M) pc = .ok (.lstore i, 2)) : mSnd g lau mt M pc (o_lst (pc + 2) i) := by
  intro c k _ hk l st h o ho
  obtain ⟨x, st', rfl, hf, hlt, ho⟩ := o_lst_spec ho
  exact mG_pure (fun p e R s mth args below meth c Q hC _ _ ls H locs cells slots hl _ kk => lv_lstore hC.1 hC.2.1 hd hl.has (by rw [← hl.2.2.1]; exact hlt) rfl (fun ls' hl' => kk ls' (hl.set2 hf hlt hl'))) (hk _ _ _ _ _ ho)
theorem s_lstore_n {j : Fin 4} {i : Nat} (hd : decode (mCc M) pc = .ok (.lstore_n j, 1)) (hi : (j : Nat) = i) : mSnd g lau mt M pc (o_lst (pc + 1) i) := by
  intro c k _ hk l st h o ho
  obtain ⟨x, st', rfl, hf, hlt, ho⟩ := o_lst_spec ho
  exact mG_pure (fun p e R s mth args below meth c Q hC _ _ ls H locs cells slots hl _ kk => lv_lstore_n hC.1 hC.2.1 hd hi hl.has (by rw [← hl.2.2.1]; exact hlt) rfl (fun ls' hl' => kk ls' (hl.set2 hf hlt hl'))) (hk _ _ _ _ _ ho)
theorem o_inc_spec {c : mC} {k : mK} {nx i : Nat} {n : Int32} {l : mL} {st : List Value} {h : mH} {o : mO} (ho : o_inc nx i n c k l st h = some o) : ∃ x : Int32, l[i]? = some (some (.int x)) ∧ mFree l i = true ∧ i < l.length ∧ k nx (l.set i (some (.int (x + n)))) st h = some o := by
  unfold o_inc at ho
  split at ho
  · next x hx =>
    cases hb : (mFree l i && Nat.blt i l.length)
    · rw [hb] at ho
      cases ho
    · rw [hb] at ho
      rw [Bool.and_eq_true] at hb
      exact ⟨x, hx, hb.1, Nat.le_of_ble_eq_true hb.2, ho⟩
  · cases ho
theorem s_iinc {i : Nat} {n : Int} {v : Int32} (hd : decode (mCc M) pc = .ok (.iinc i n, 3)) (hv : Int32.ofInt n = v) : mSnd g lau mt M pc (o_inc (pc + 3) i v) := by
  intro c k _ hk l st h o ho
  obtain ⟨x, hx, hf, hlt, ho⟩ := o_inc_spec ho
  subst hv
  obtain ⟨j, hj⟩ := List.getElem?_of_mem (mAs_in.mpr hx)
  exact mG_pure (fun p e R s mth args below meth c Q hC _ _ ls H locs cells slots hl _ kk => lv_iinc hC.1 hC.2.1 hd hl.has hj rfl (by rw [← hl.2.2.1]; exact hlt) rfl (fun ls' hl' => kk ls' (hl.set1 hf hlt hl'))) (hk _ _ _ _ _ ho)
theorem o_ii_spec {c : mC} {k : mK} {nx : Nat} {f : Int32 → Int32 → Int32} {l : mL} {st : List Value} {h : mH} {o : mO} (ho : o_ii nx f c k l st h = some o) : ∃ (x y : Int32) (st' : List Value), st = .int y :: .int x :: st' ∧ k nx l (.int (f x y) :: st') h = some o := by
  unfold o_ii at ho
  split at ho
  · next y x st' => exact ⟨x, y, st', rfl, ho⟩
  · cases ho
theorem o_ll_spec {c : mC} {k : mK} {nx : Nat} {f : Int64 → Int64 → Int64} {l : mL} {st : List Value} {h : mH} {o : mO} (ho : o_ll nx f c k l st h = some o) : ∃ (x y : Int64) (st' : List Value), st = .long y :: .long x :: st' ∧ k nx l (.long (f x y) :: st') h = some o := by
  unfold o_ll at ho
  split at ho
  · next y x st' => exact ⟨x, y, st', rfl, ho⟩
  · cases ho
theorem s_iadd (hd : decode (mCc M) pc = .ok (.iadd, 1)) : mSnd g lau mt M pc (o_ii (pc + 1) (fun x y => x + y)) := by
  intro c k _ hk l st h o ho
  obtain ⟨x, y, st', rfl, ho⟩ := o_ii_spec ho
  exact mG_pure (fun p e R s mth args below meth c Q hC _ _ ls H locs cells slots hl _ kk => lv_iadd hC.1 hC.2.1 hd (kk ls hl)) (hk _ _ _ _ _ ho)
theorem s_isub (hd : decode (mCc M) pc = .ok (.isub, 1)) : mSnd g lau mt M pc (o_ii (pc + 1) (fun x y => x - y)) := by
  intro c k _ hk l st h o ho
  obtain ⟨x, y, st', rfl, ho⟩ := o_ii_spec ho
  exact mG_pure (fun p e R s mth args below meth c Q hC _ _ ls H locs cells slots hl _ kk => lv_isub hC.1 hC.2.1 hd (kk ls hl)) (hk _ _ _ _ _ ho)
theorem s_imul (hd : decode (mCc M) pc = .ok (.imul, 1)) : mSnd g lau mt M pc (o_ii (pc + 1) (fun x y => x * y)) := by
  intro c k _ hk l st h o ho
  obtain ⟨x, y, st', rfl, ho⟩ := o_ii_spec ho
  exact mG_pure (fun p e R s mth args below meth c Q hC _ _ ls H locs cells slots hl _ kk => lv_imul hC.1 hC.2.1 hd (kk ls hl)) (hk _ _ _ _ _ ho)
theorem s_iand (hd : decode (mCc M) pc = .ok (.iand, 1)) : mSnd g lau mt M pc (o_ii (pc + 1) (fun x y => x &&& y)) := by
  intro c k _ hk l st h o ho
  obtain ⟨x, y, st', rfl, ho⟩ := o_ii_spec ho
  exact mG_pure (fun p e R s mth args below meth c Q hC _ _ ls H locs cells slots hl _ kk => lv_iand hC.1 hC.2.1 hd (kk ls hl)) (hk _ _ _ _ _ ho)
theorem s_ior (hd : decode (mCc M) pc = .ok (.ior, 1)) : mSnd g lau mt M pc (o_ii (pc + 1) (fun x y => x ||| y)) := by
  intro c k _ hk l st h o ho
  obtain ⟨x, y, st', rfl, ho⟩ := o_ii_spec ho
  exact mG_pure (fun p e R s mth args below meth c Q hC _ _ ls H locs cells slots hl _ kk => lv_ior hC.1 hC.2.1 hd (kk ls hl)) (hk _ _ _ _ _ ho)
theorem s_ixor (hd : decode (mCc M) pc = .ok (.ixor, 1)) : mSnd g lau mt M pc (o_ii (pc + 1) (fun x y => x ^^^ y)) := by
  intro c k _ hk l st h o ho
  obtain ⟨x, y, st', rfl, ho⟩ := o_ii_spec ho
  exact mG_pure (fun p e R s mth args below meth c Q hC _ _ ls H locs cells slots hl _ kk => lv_ixor hC.1 hC.2.1 hd (kk ls hl)) (hk _ _ _ _ _ ho)
theorem s_ishl (hd : decode (mCc M) pc = .ok (.ishl, 1)) : mSnd g lau mt M pc (o_ii (pc + 1) (fun x y => x <<< (y &&& 31))) := by
  intro c k _ hk l st h o ho
  obtain ⟨x, y, st', rfl, ho⟩ := o_ii_spec ho
  exact mG_pure (fun p e R s mth args below meth c Q hC _ _ ls H locs cells slots hl _ kk => lv_ishl hC.1 hC.2.1 hd (kk ls hl)) (hk _ _ _ _ _ ho)
theorem s_ishr (hd : decode (mCc M) pc = .ok (.ishr, 1)) : mSnd g lau mt M pc (o_ii (pc + 1) (fun x y => x >>> (y &&& 31))) := by
  intro c k _ hk l st h o ho
  obtain ⟨x, y, st', rfl, ho⟩ := o_ii_spec ho
  exact mG_pure (fun p e R s mth args below meth c Q hC _ _ ls H locs cells slots hl _ kk => lv_ishr hC.1 hC.2.1 hd (kk ls hl)) (hk _ _ _ _ _ ho)
theorem s_ladd (hd : decode (mCc M) pc = .ok (.ladd, 1)) : mSnd g lau mt M pc (o_ll (pc + 1) (fun x y => x + y)) := by
  intro c k _ hk l st h o ho
  obtain ⟨x, y, st', rfl, ho⟩ := o_ll_spec ho
  exact mG_pure (fun p e R s mth args below meth c Q hC _ _ ls H locs cells slots hl _ kk => lv_ladd hC.1 hC.2.1 hd (kk ls hl)) (hk _ _ _ _ _ ho)
theorem s_lmul (hd : decode (mCc M) pc = .ok (.lmul, 1)) : mSnd g lau mt M pc (o_ll (pc + 1) (fun x y => x * y)) := by
  intro c k _ hk l st h o ho
  obtain ⟨x, y, st', rfl, ho⟩ := o_ll_spec ho
  exact mG_pure (fun p e R s mth args below meth c Q hC _ _ ls H locs cells slots hl _ kk => lv_lmul hC.1 hC.2.1 hd (kk ls hl)) (hk _ _ _ _ _ ho)
theorem s_irem (hd : decode (mCc M) pc = .ok (.irem, 1)) : mSnd g lau mt M pc (o_rem (pc + 1)) := by
  intro c k _ hk l st h o ho
  unfold o_rem at ho
  split at ho
  · next y x st' =>
    split at ho
    · cases ho
    · next hy => exact mG_pure (fun p e R s mth args below meth c Q hC _ _ ls H locs cells slots hl _ kk => lv_irem hC.1 hC.2.1 hd hy (kk ls hl)) (hk _ _ _ _ _ ho)
  · cases ho
theorem s_i2l (hd : decode (mCc M) pc = .ok (.i2l, 1)) : mSnd g lau mt M pc (o_i2l (pc + 1)) := by
  intro c k _ hk l st h o ho
  unfold o_i2l at ho
  split at ho
  · exact mG_pure (fun p e R s mth args below meth c Q hC _ _ ls H locs cells slots hl _ kk => lv_i2l hC.1 hC.2.1 hd rfl (kk ls hl)) (hk _ _ _ _ _ ho)
  · cases ho
theorem s_l2i (hd : decode (mCc M) pc = .ok (.l2i, 1)) : mSnd g lau mt M pc (o_l2i (pc + 1)) := by
  intro c k _ hk l st h o ho
  unfold o_l2i at ho
  split at ho
  · exact mG_pure (fun p e R s mth args below meth c Q hC _ _ ls H locs cells slots hl _ kk => lv_l2i hC.1 hC.2.1 hd rfl (kk ls hl)) (hk _ _ _ _ _ ho)
  · cases ho
theorem s_lcmp (hd : decode (mCc M) pc = .ok (.lcmp, 1)) : mSnd g lau mt M pc (o_lcmp (pc + 1)) := by
  intro c k _ hk l st h o ho
  unfold o_lcmp at ho
  split at ho
  · exact mG_pure (fun p e R s mth args below meth c Q hC _ _ ls H locs cells slots hl _ kk => W.lcmp hC.1 hC.2.1 hd (kk ls hl)) (hk _ _ _ _ _ ho)
  · cases ho
theorem s_dup (hd : decode (mCc M) pc = .ok (.dup, 1)) : mSnd g lau mt M pc (o_dup (pc + 1)) := by
  intro c k _ hk l st h o ho
  unfold o_dup at ho
  split at ho
  · exact mG_pure (fun p e R s mth args below meth c Q hC _ _ ls H locs cells slots hl _ kk => lv_dup hC.1 hC.2.1 hd rfl (kk ls hl)) (hk _ _ _ _ _ ho)
  · exact mG_pure (fun p e R s mth args below meth c Q hC _ _ ls H locs cells slots hl _ kk => lv_dup hC.1 hC.2.1 hd rfl (kk ls hl)) (hk _ _ _ _ _ ho)
  · cases ho
theorem s_dup2 (hd : decode (mCc M) pc = .ok (.dup2, 1)) : mSnd g lau mt M pc (o_dup2 (pc + 1)) := by
  intro c k _ hk l st h o ho
  unfold o_dup2 at ho
  split at ho
  · exact mG_pure (fun p e R s mth args below meth c Q hC _ _ ls H locs cells slots hl _ kk => lv_dup2_11 hC.1 hC.2.1 hd rfl rfl (kk ls hl)) (hk _ _ _ _ _ ho)
  · cases ho
theorem s_goto {off : Int} {tg : Nat} (hd : decode (mCc M) pc = .ok (.goto off, 3)) (ht : (pc : Int) + off = (tg : Int)) : mSnd g lau mt M pc (o_goto tg) := by
  intro c k _ hk l st h o ho
  exact mG_pure (fun p e R s mth args below meth c Q hC _ _ ls H locs cells slots hl _ kk => lv_goto hC.1 hC.2.1 hd ht (kk ls hl)) (hk _ _ _ _ _ ho)
theorem s_icmp_eq {off : Int} {tg : Nat} (hd : decode (mCc M) pc = .ok (.if_icmp .eq off, 3)) (ht : (pc : Int) + off = (tg : Int)) : mSnd g lau mt M pc (o_eq (pc + 3) tg) := by
  intro c k _ hk l st h o ho
  unfold o_eq at ho
  split at ho
  · split at ho
    · next hc => exact mG_pure (fun p e R s mth args below meth c Q hC _ _ ls H locs cells slots hl _ kk => lv_icmp_eq hC.1 hC.2.1 hd ht (fun q => kk ls hl) (fun q => absurd hc q)) (hk _ _ _ _ _ ho)
    · next hc => exact mG_pure (fun p e R s mth args below meth c Q hC _ _ ls H locs cells slots hl _ kk => lv_icmp_eq hC.1 hC.2.1 hd ht (fun q => absurd q hc) (fun q => kk ls hl)) (hk _ _ _ _ _ ho)
  · cases ho
theorem s_if_eq {off : Int} {tg : Nat} (hd : decode (mCc M) pc = .ok (.ifCond .eq off, 3)) (ht : (pc : Int) + off = (tg : Int)) : mSnd g lau mt M pc (o_eq0 (pc + 3) tg) := by
  intro c k _ hk l st h o ho
  unfold o_eq0 at ho
  split at ho
  · split at ho
    · next hc => exact mG_pure (fun p e R s mth args below meth c Q hC _ _ ls H locs cells slots hl _ kk => lv_if_eq hC.1 hC.2.1 hd ht (fun q => kk ls hl) (fun q => absurd hc q)) (hk _ _ _ _ _ ho)
    · next hc => exact mG_pure (fun p e R s mth args below meth c Q hC _ _ ls H locs cells slots hl _ kk => lv_if_eq hC.1 hC.2.1 hd ht (fun q => absurd q hc) (fun q => kk ls hl)) (hk _ _ _ _ _ ho)
  · cases ho
theorem s_icmp_ne {off : Int} {tg : Nat} (hd : decode (mCc M) pc = .ok (.if_icmp .ne off, 3)) (ht : (pc : Int) + off = (tg : Int)) : mSnd g lau mt M pc (o_ne (pc + 3) tg) := by
  intro c k _ hk l st h o ho
  unfold o_ne at ho
  split at ho
  · split at ho
    · next hc => exact mG_pure (fun p e R s mth args below meth c Q hC _ _ ls H locs cells slots hl _ kk => lv_icmp_ne hC.1 hC.2.1 hd ht (fun q => absurd hc q) (fun q => kk ls hl)) (hk _ _ _ _ _ ho)
    · next hc => exact mG_pure (fun p e R s mth args below meth c Q hC _ _ ls H locs cells slots hl _ kk => lv_icmp_ne hC.1 hC.2.1 hd ht (fun q => kk ls hl) (fun q => absurd q hc)) (hk _ _ _ _ _ ho)
  · cases ho
theorem s_if_ne {off : Int} {tg : Nat} (hd : decode (mCc M) pc = .ok (.ifCond .ne off, 3)) (ht : (pc : Int) + off = (tg : Int)) : mSnd g lau mt M pc (o_ne0 (pc + 3) tg) := by
  intro c k _ hk l st h o ho
  unfold o_ne0 at ho
  split at ho
  · split at ho
    · next hc => exact mG_pure (fun p e R s mth args below meth c Q hC _ _ ls H locs cells slots hl _ kk => lv_if_ne hC.1 hC.2.1 hd ht (fun q => absurd hc q) (fun q => kk ls hl)) (hk _ _ _ _ _ ho)
    · next hc => exact mG_pure (fun p e R s mth args below meth c Q hC _ _ ls H locs cells slots hl _ kk => lv_if_ne hC.1 hC.2.1 hd ht (fun q => kk ls hl) (fun q => absurd q hc)) (hk _ _ _ _ _ ho)
  · cases ho
theorem s_icmp_lt {off : Int} {tg : Nat} (hd : decode (mCc M) pc = .ok (.if_icmp .lt off, 3)) (ht : (pc : Int) + off = (tg : Int)) : mSnd g lau mt M pc (o_lt (pc + 3) tg) := by
  intro c k _ hk l st h o ho
  unfold o_lt at ho
  split at ho
  · split at ho
    · next hc => exact mG_pure (fun p e R s mth args below meth c Q hC _ _ ls H locs cells slots hl _ kk => lv_icmp_lt hC.1 hC.2.1 hd ht (fun q => kk ls hl) (fun q => absurd hc q)) (hk _ _ _ _ _ ho)
    · next hc => exact mG_pure (fun p e R s mth args below meth c Q hC _ _ ls H locs cells slots hl _ kk => lv_icmp_lt hC.1 hC.2.1 hd ht (fun q => absurd q hc) (fun q => kk ls hl)) (hk _ _ _ _ _ ho)
  · cases ho
theorem s_if_lt {off : Int} {tg : Nat} (hd : decode (mCc M) pc = .ok (.ifCond .lt off, 3)) (ht : (pc : Int) + off = (tg : Int)) : mSnd g lau mt M pc (o_lt0 (pc + 3) tg) := by
  intro c k _ hk l st h o ho
  unfold o_lt0 at ho
  split at ho
  · split at ho
    · next hc => exact mG_pure (fun p e R s mth args below meth c Q hC _ _ ls H locs cells slots hl _ kk => lv_if_lt hC.1 hC.2.1 hd ht (fun q => kk ls hl) (fun q => absurd hc q)) (hk _ _ _ _ _ ho)
    · next hc => exact mG_pure (fun p e R s mth args below meth c Q hC _ _ ls H locs cells slots hl _ kk => lv_if_lt hC.1 hC.2.1 hd ht (fun q => absurd q hc) (fun q => kk ls hl)) (hk _ _ _ _ _ ho)
  · cases ho
theorem s_icmp_ge {off : Int} {tg : Nat} (hd : decode (mCc M) pc = .ok (.if_icmp .ge off, 3)) (ht : (pc : Int) + off = (tg : Int)) : mSnd g lau mt M pc (o_ge (pc + 3) tg) := by
  intro c k _ hk l st h o ho
  unfold o_ge at ho
  split at ho
  · split at ho
    · next hc => exact mG_pure (fun p e R s mth args below meth c Q hC _ _ ls H locs cells slots hl _ kk => lv_icmp_ge hC.1 hC.2.1 hd ht (fun q => kk ls hl) (fun q => absurd hc q)) (hk _ _ _ _ _ ho)
    · next hc => exact mG_pure (fun p e R s mth args below meth c Q hC _ _ ls H locs cells slots hl _ kk => lv_icmp_ge hC.1 hC.2.1 hd ht (fun q => absurd q hc) (fun q => kk ls hl)) (hk _ _ _ _ _ ho)
  · cases ho
theorem s_if_ge {off : Int} {tg : Nat} (hd : decode (mCc M) pc = .ok (.ifCond .ge off, 3)) (ht : (pc : Int) + off = (tg : Int)) : mSnd g lau mt M pc (o_ge0 (pc + 3) tg) := by
  intro c k _ hk l st h o ho
  unfold o_ge0 at ho
  split at ho
  · split at ho
    · next hc => exact mG_pure (fun p e R s mth args below meth c Q hC _ _ ls H locs cells slots hl _ kk => lv_if_ge hC.1 hC.2.1 hd ht (fun q => kk ls hl) (fun q => absurd hc q)) (hk _ _ _ _ _ ho)
    · next hc => exact mG_pure (fun p e R s mth args below meth c Q hC _ _ ls H locs cells slots hl _ kk => lv_if_ge hC.1 hC.2.1 hd ht (fun q => absurd q hc) (fun q => kk ls hl)) (hk _ _ _ _ _ ho)
  · cases ho
theorem s_icmp_gt {off : Int} {tg : Nat} (hd : decode (mCc M) pc = .ok (.if_icmp .gt off, 3)) (ht : (pc : Int) + off = (tg : Int)) : mSnd g lau mt M pc (o_gt (pc + 3) tg) := by
  intro c k _ hk l st h o ho
  unfold o_gt at ho
  split at ho
  · split at ho
    · next hc => exact mG_pure (fun p e R s mth args below meth c Q hC _ _ ls H locs cells slots hl _ kk => lv_icmp_gt hC.1 hC.2.1 hd ht (fun q => kk ls hl) (fun q => absurd hc q)) (hk _ _ _ _ _ ho)
    · next hc => exact mG_pure (fun p e R s mth args below meth c Q hC _ _ ls H locs cells slots hl _ kk => lv_icmp_gt hC.1 hC.2.1 hd ht (fun q => absurd q hc) (fun q => kk ls hl)) (hk _ _ _ _ _ ho)
  · cases ho
theorem s_if_gt {off : Int} {tg : Nat} (hd : decode (mCc M) pc = .ok (.ifCond .gt off, 3)) (ht : (pc : Int) + off = (tg : Int)) : mSnd g lau mt M pc (o_gt0 (pc + 3) tg) := by
  intro c k _ hk l st h o ho
  unfold o_gt0 at ho
  split at ho
  · split at ho
    · next hc => exact mG_pure (fun p e R s mth args below meth c Q hC _ _ ls H locs cells slots hl _ kk => lv_if_gt hC.1 hC.2.1 hd ht (fun q => kk ls hl) (fun q => absurd hc q)) (hk _ _ _ _ _ ho)
    · next hc => exact mG_pure (fun p e R s mth args below meth c Q hC _ _ ls H locs cells slots hl _ kk => lv_if_gt hC.1 hC.2.1 hd ht (fun q => absurd q hc) (fun q => kk ls hl)) (hk _ _ _ _ _ ho)
  · cases ho
theorem s_icmp_le {off : Int} {tg : Nat} (hd : decode (mCc M) pc = .ok (.if_icmp .le off, 3)) (ht : (pc : Int) + off = (tg : Int)) : mSnd g lau mt M pc (o_le (pc + 3) tg) := by
  intro c k _ hk l st h o ho
  unfold o_le at ho
  split at ho
  · split at ho
    · next hc => exact mG_pure (fun p e R s mth args below meth c Q hC _ _ ls H locs cells slots hl _ kk => lv_icmp_le hC.1 hC.2.1 hd ht (fun q => kk ls hl) (fun q => absurd hc q)) (hk _ _ _ _ _ ho)
    · next hc => exact mG_pure (fun p e R s mth args below meth c Q hC _ _ ls H locs cells slots hl _ kk => lv_icmp_le hC.1 hC.2.1 hd ht (fun q => absurd q hc) (fun q => kk ls hl)) (hk _ _ _ _ _ ho)
  · cases ho
theorem s_if_le {off : Int} {tg : Nat} (hd : decode (mCc M) pc = .ok (.ifCond .le off, 3)) (ht : (pc : Int) + off = (tg : Int)) : mSnd g lau mt M pc (o_le0 (pc + 3) tg) := by
  intro c k _ hk l st h o ho
  unfold o_le0 at ho
  split at ho
  · split at ho
    · next hc => exact mG_pure (fun p e R s mth args below meth c Q hC _ _ ls H locs cells slots hl _ kk => lv_if_le hC.1 hC.2.1 hd ht (fun q => kk ls hl) (fun q => absurd hc q)) (hk _ _ _ _ _ ho)
    · next hc => exact mG_pure (fun p e R s mth args below meth c Q hC _ _ ls H locs cells slots hl _ kk => lv_if_le hC.1 hC.2.1 hd ht (fun q => absurd q hc) (fun q => kk ls hl)) (hk _ _ _ _ _ ho)
  · cases ho
theorem s_ifnull {off : Int} {tg : Nat} (hd : decode (mCc M) pc = .ok (.ifnull off, 3)) (ht : (pc : Int) + off = (tg : Int)) : mSnd g lau mt M pc (o_nul (pc + 3) tg) := by
  intro c k _ hk l st h o ho
  unfold o_nul at ho
  split at ho
  · exact mG_pure (fun p e R s mth args below meth c Q hC _ _ ls H locs cells slots hl _ kk => lv_ifnullN hC.1 hC.2.1 hd ht (kk ls hl)) (hk _ _ _ _ _ ho)
  · exact mG_pure (fun p e R s mth args below meth c Q hC _ _ ls H locs cells slots hl _ kk => lv_ifnull hC.1 hC.2.1 hd (kk ls hl)) (hk _ _ _ _ _ ho)
  · cases ho
theorem s_ifnonnull {off : Int} {tg : Nat} (hd : decode (mCc M) pc = .ok (.ifnonnull off, 3)) (ht : (pc : Int) + off = (tg : Int)) : mSnd g lau mt M pc (o_nnul (pc + 3) tg) := by
  intro c k _ hk l st h o ho
  unfold o_nnul at ho
  split at ho
  · exact mG_pure (fun p e R s mth args below meth c Q hC _ _ ls H locs cells slots hl _ kk => lv_ifnonnullN hC.1 hC.2.1 hd (kk ls hl)) (hk _ _ _ _ _ ho)
  · exact mG_pure (fun p e R s mth args below meth c Q hC _ _ ls H locs cells slots hl _ kk => lv_ifnonnull hC.1 hC.2.1 hd ht (kk ls hl)) (hk _ _ _ _ _ ho)
  · cases ho
theorem mClamp {x : Int32} (h : ¬ x < 0) : ((x.toNatClampNeg : Nat) : Int) = x.toInt := by
  obtain ⟨j, hj, rfl⟩ := nI_of h
  rw [nI_clamp hj, nI_toInt hj]
/-- a switch from 0 to n - 1: the targets as the table has them -/
theorem s_tsw {df hi : Int} {offs : Array Int} {len n dt : Nat} {tgs : List Nat} (hd : decode (mCc M) pc = .ok (.tableswitch df 0 hi offs, len)) (hn : hi = (n : Int) - 1) (hl : tgs.length = n) (ht : ∀ i, i < n → (offs[i]?).map (fun (f : Int) => (pc : Int) + f) = some ((tgs.getD i dt : Nat) : Int)) (hdt : (pc : Int) + df = (dt : Int)) : mSnd g lau mt M pc (o_tsw tgs dt) := by
  intro c k _ hk l st h o ho
  unfold o_tsw at ho
  split at ho
  · next x st' =>
    split at ho
    · next hc =>
      refine mG_pure (fun p e R s mth args below meth c Q hC _ _ ls H locs cells slots hl _ kk => lv_tableOut hC.1 hC.2.1 hd ?_ hdt (kk ls hl)) (hk _ _ _ _ _ ho)
      by_cases h0 : x < 0
      · exact Or.inl (by rw [Int32.lt_iff_toInt_lt, Int32.toInt_zero] at h0; exact h0)
      · have h1 := mClamp h0
        rcases hc with hc | hc
        · exact absurd hc h0
        · right
          omega
    · next hc =>
      have h0 : ¬ x < 0 := fun q => hc (Or.inl q)
      have h1 := mClamp h0
      have h2 : x.toNatClampNeg < n := by
        rw [← hl]
        exact Nat.not_le.mp fun q => hc (Or.inr q)
      have h3 := ht _ h2
      have h4 : (x.toInt - 0).toNat = x.toNatClampNeg := by omega
      cases h5 : offs[x.toNatClampNeg]? with
      | none => rw [h5] at h3; cases h3
      | some f =>
        rw [h5] at h3
        exact mG_pure (fun p e R s mth args below meth c Q hC _ _ ls H locs cells slots hl _ kk => lv_tableIn hC.1 hC.2.1 hd (by omega) (by omega) (by rw [h4]; exact h5) (Option.some.inj h3) (kk ls hl)) (hk _ _ _ _ _ ho)
  · cases ho
end MPure
end
section
/-! ===== the operations are sound: fields and rows ===== -/
theorem mV_wI {h : mH} {a k : Nat} {x : Int32} (hv : ∀ i j p, mVal (mTy (mTg h a) k) i j p = .int i) (j : Nat) : mV (wI h a k x) a j = updV (mV h a) k (.int x) j := by
  unfold mV updV
  rw [mTg_wI, mI_wI, mJ_wI, mP_wI]
  by_cases hj : j = k
  · subst hj
    rw [if_pos ⟨rfl, rfl⟩, if_pos rfl]
    exact hv _ _ _
  · rw [if_neg (fun q => hj q.2), if_neg hj]
theorem mV_wI_ne {h : mH} {a k : Nat} {x : Int32} {b : Nat} (hb : b ≠ a) (j : Nat) : mV (wI h a k x) b j = mV h b j := by
  unfold mV
  rw [mTg_wI, mI_wI, mJ_wI, mP_wI, if_neg (fun q => hb q.1)]
theorem mV_wJ {h : mH} {a k : Nat} {x : Int64} (hv : ∀ i j p, mVal (mTy (mTg h a) k) i j p = .long j) (j : Nat) : mV (wJ h a k x) a j = updV (mV h a) k (.long x) j := by
  unfold mV updV
  rw [mTg_wJ, mI_wJ, mJ_wJ, mP_wJ]
  by_cases hj : j = k
  · subst hj
    rw [if_pos ⟨rfl, rfl⟩, if_pos rfl]
    exact hv _ _ _
  · rw [if_neg (fun q => hj q.2), if_neg hj]
theorem mV_wJ_ne {h : mH} {a k : Nat} {x : Int64} {b : Nat} (hb : b ≠ a) (j : Nat) : mV (wJ h a k x) b j = mV h b j := by
  unfold mV
  rw [mTg_wJ, mI_wJ, mJ_wJ, mP_wJ, if_neg (fun q => hb q.1)]
theorem mV_wP {h : mH} {a k : Nat} {x : Option Nat} (hv : ∀ i j p, mVal (mTy (mTg h a) k) i j p = va_rf p) (j : Nat) : mV (wP h a k x) a j = updV (mV h a) k (va_rf x) j := by
  unfold mV updV
  rw [mTg_wP, mI_wP, mJ_wP, mP_wP]
  by_cases hj : j = k
  · subst hj
    rw [if_pos ⟨rfl, rfl⟩, if_pos rfl]
    exact hv _ _ _
  · rw [if_neg (fun q => hj q.2), if_neg hj]
theorem mV_wP_ne {h : mH} {a k : Nat} {x : Option Nat} {b : Nat} (hb : b ≠ a) (j : Nat) : mV (wP h a k x) b j = mV h b j := by
  unfold mV
  rw [mTg_wP, mI_wP, mJ_wP, mP_wP, if_neg (fun q => hb q.1)]
theorem mLocs {g : mG} {locs : List Loc} {a i : Nat} (h : ∀ q ∈ locs, gB g ≤ q.base) (ha : gB g ≤ a) : ∀ q ∈ locs ++ [(⟨a, i⟩ : Loc)], gB g ≤ q.base := by
  intro q hq
  rcases List.mem_append.mp hq with h1 | h1
  · exact h q h1
  · rw [List.mem_singleton.mp h1]
    exact ha
section MHeap
variable {g : mG} {lau : Launch} {mt : Nat → mM} {M : mM} {pc : Nat}
/-- a field is read -/
theorem mGet {ci f idx : Nat} {C : String} {T : u_T} {N : Nat} (h12 : ci < 12) (hr : mCl[ci]? = some (C, T, N)) (hin : ∀ w ∈ u_ws C T N, w ∈ lw_tbl) (hf : f < N) (hw : Cond.fieldLink (mCn M) idx (T f).1 (T f).2.1 (T f).2.2.1 ∈ lw_tbl) (hd : decode (mCc M) pc = .ok (.getfield idx, 3))
    {h : mH} {a : Nat} (ht : mTg h a = ci + 1) {l : mL} {st : List Value} {o : mO} (hg : mGood g lau M (pc + 3) l (mV h a f :: st) h o) : mGood g lau M pc l (.ref a :: st) h o := by
  refine mG_pure (fun p e R s mth args below meth c Q hC _ _ ls H locs cells slots hl hH kk => ?_) hg
  obtain ⟨hx, hb, hml, hown, hts, hK, hX, hnm⟩ := hC
  obtain ⟨cell, q1, q2, q3, q4⟩ := hH.obj ht h12 hr
  obtain ⟨hS, hfc, kC, hkC, hkind⟩ := hK.1 ci _ hr
  obtain ⟨cf, kf, fi, fd, hi, hsl⟩ := hS f hf
  refine W.getf hx hb hown (hts _ hw) hi (u_facts hfc hkC (u_lays hts hin hf) hi).1 q1 (by rw [q3]; exact fun h => by cases h) (v := mV h a f) ?_ rfl rfl hd (kk ls hl)
  rw [hsl, q4 f hf]
theorem s_getI {ci f idx : Nat} {C : String} {T : u_T} {N : Nat} (h12 : ci < 12) (hr : mCl[ci]? = some (C, T, N)) (hin : ∀ w ∈ u_ws C T N, w ∈ lw_tbl) (hf : f < N) (hv : ∀ i j p, mVal (mTy (ci + 1) f) i j p = .int i) (hw : Cond.fieldLink (mCn M) idx (T f).1 (T f).2.1 (T f).2.2.1 ∈ lw_tbl) (hd : decode (mCc M) pc = .ok (.getfield idx, 3)) : mSnd g lau mt M pc (o_gI (pc + 3) (ci + 1) f) := by
  intro c k _ hk l st h o ho
  unfold o_gI at ho
  split at ho
  · split at ho
    · next a st' ht =>
      refine mGet h12 hr hin hf hw hd ht ?_
      rw [show mV h a f = .int (mI h a f) by unfold mV; rw [ht]; exact hv _ _ _]
      exact hk _ _ _ _ _ ho
    · cases ho
  · cases ho
theorem s_getP {ci f idx : Nat} {C : String} {T : u_T} {N : Nat} (h12 : ci < 12) (hr : mCl[ci]? = some (C, T, N)) (hin : ∀ w ∈ u_ws C T N, w ∈ lw_tbl) (hf : f < N) (hv : ∀ i j p, mVal (mTy (ci + 1) f) i j p = va_rf p) (hw : Cond.fieldLink (mCn M) idx (T f).1 (T f).2.1 (T f).2.2.1 ∈ lw_tbl) (hd : decode (mCc M) pc = .ok (.getfield idx, 3)) : mSnd g lau mt M pc (o_gP (pc + 3) (ci + 1) f) := by
  intro c k _ hk l st h o ho
  unfold o_gP at ho
  split at ho
  · split at ho
    · next a st' ht =>
      refine mGet h12 hr hin hf hw hd ht ?_
      rw [show mV h a f = va_rf (mP h a f) by unfold mV; rw [ht]; exact hv _ _ _]
      exact hk _ _ _ _ _ ho
    · cases ho
  · cases ho
/-- a field is written: what the great machine's heap is behind it -/
theorem mPut {ci f idx : Nat} {C : String} {T : u_T} {N : Nat} (h12 : ci < 12) (hr : mCl[ci]? = some (C, T, N)) (hin : ∀ w ∈ u_ws C T N, w ∈ lw_tbl) (hf : f < N) (ty0 : Nat → FieldType) (hty : ∀ k, k < N → parseFieldDescriptor (T k).2.2.1 = some (ty0 k)) (hnm0 : ∀ a, a < N → ∀ b, b < N → a ≠ b → (T a).2.1 ≠ (T b).2.1)
    (hfin : (T f).2.2.2 = false ∨ ((mNm M).name = "<init>" ∧ (T f).1 = mCn M)) (hw : Cond.fieldLink (mCn M) idx (T f).1 (T f).2.1 (T f).2.2.1 ∈ lw_tbl) (hd : decode (mCc M) pc = .ok (.putfield idx, 3))
    {h h' : mH} {a : Nat} {v : Value} (ht : mTg h a = ci + 1) (hn : narrow (ty0 f) v = v) (hfit : fits (ty0 f) v = true) (e0 : mTop h' = mTop h) (e1 : mSl h' = mSl h) (e2 : mTg h' = mTg h) (e3 : mLn h' = mLn h) (e4 : ∀ b, b ≠ a → mI h' b = mI h b) (e5 : ∀ b j, b ≠ a → mV h' b j = mV h b j) (e6 : ∀ j, mV h' a j = updV (mV h a) f v j)
    {l : mL} {st : List Value} {o : mO} (hg : mGood g lau M (pc + 3) l st h' o) : mGood g lau M pc l (v :: .ref a :: st) h o := by
  refine mG_heap (dc := 0) (ds := 0) e0 e1 (fun p e R s mth args below meth c Q hC ls H locs cells slots hl hH hL _ _ kk => ?_) hg
  obtain ⟨hx, hb, hml, hown, hts, hK, hX, hnm⟩ := hC
  have hap := va_apart (own := mCn M) hts hin ty0 hty hnm0 hK hr
  obtain ⟨cell, q1, q2, q3, q4⟩ := hH.obj ht h12 hr
  have hB := hH.base ht (by omega) (by omega)
  obtain ⟨hS, hfc, kC, hkC, hkind⟩ := hK.1 ci _ hr
  obtain ⟨cf, kf, fi, fd, hi, hsl⟩ := hS f hf
  have hst := (u_facts hfc hkC (u_lays hts hin hf) hi).1
  have done : ∀ H' : Heap, H'[a]? = some (cell.setSlot fd.slot v) → H'.size = H.size → (∀ q, q ≠ a → H'[q]? = H[q]?) → mHR g h' H' := by
    intro H' w1 w2 w3
    refine hH.put ht (by omega) (by omega) e0 e2 e3 e4 e5 w2 w3 ⟨fun r hr1 hr2 => ?_, fun h20 => ?_⟩
    · rw [e2, ht] at hr2 ⊢
      have hrr : r = (C, T, N) := Option.some.inj (hr2.symm.trans hr)
      subst hrr
      rw [hsl] at w1
      exact t_OB.to (V := updV (mV h a) f v) ⟨_, w1, q2, q3, t_set q4 hap hf v⟩ (fun j _ => (e6 j).symm)
    · rw [e2, ht] at h20
      omega
  have hfit2 := u_fits hfc hkC hkind (u_lays hts hin hf) hi (hty f hf) hn hfit
  by_cases hff : (T f).2.2.2 = false
  · have hlay := hts _ (hin _ (u_in_lay hf))
    unfold u_lay at hlay
    rw [if_neg (by rw [hff]; decide)] at hlay
    have h6 := u_store hfc hkC hkind hlay hi (hty f hf) hn hfit
    exact W.putK hx hb (f := fd) ⟨hown, hts _ hw, ⟨_, _, _, hi⟩, hst⟩ (by rw [q2]; exact h6) q1 q3 (by rw [hsl]; exact k2_hasslot (q4 f hf)) rfl rfl hd (fun H' w1 w2 w3 => kk H' _ (done H' w1 w2 w3) (mLocs hL hB))
  · have hff : (T f).2.2.2 = true := by
      cases hq : (T f).2.2.2
      · exact absurd hq hff
      · rfl
    rcases hfin with hfin | ⟨hfin, hdecl⟩
    · rw [hff] at hfin
      cases hfin
    · have hlay := hts _ (hin _ (u_in_lay hf))
      unfold u_lay at hlay
      rw [if_pos hff] at hlay
      have hcf : mth.cls = cf := by
        obtain ⟨_, _, c', _, _, _, -, -, hf', -, -, -, hown2, -⟩ := Cond.laysFinal_spec hlay
        have e1 : c' = cf := by have := hi.symm.trans hf'; simp at this; exact this.1.symm
        rw [hdecl] at hown2
        rw [← e1]
        exact Option.some.inj (hown.symm.trans hown2)
      exact W.putFinK hx hb hown (hts _ hw) hi hst hcf (hnm.trans hfin) (by rw [q2]; exact hfit2) q1 q3 (by rw [hsl]; exact k2_hasslot (q4 f hf)) rfl rfl hd (fun H' w1 w2 w3 => kk H' _ (done H' w1 w2 w3) (mLocs hL hB))
theorem s_putI {ci f idx : Nat} {C : String} {T : u_T} {N : Nat} (h12 : ci < 12) (hr : mCl[ci]? = some (C, T, N)) (hin : ∀ w ∈ u_ws C T N, w ∈ lw_tbl) (hf : f < N) (ty0 : Nat → FieldType) (hty : ∀ k, k < N → parseFieldDescriptor (T k).2.2.1 = some (ty0 k)) (hnm0 : ∀ a, a < N → ∀ b, b < N → a ≠ b → (T a).2.1 ≠ (T b).2.1)
    (hfin : (T f).2.2.2 = false ∨ ((mNm M).name = "<init>" ∧ (T f).1 = mCn M)) (hw : Cond.fieldLink (mCn M) idx (T f).1 (T f).2.1 (T f).2.2.1 ∈ lw_tbl) (hd : decode (mCc M) pc = .ok (.putfield idx, 3)) (hv : ∀ i j p, mVal (mTy (ci + 1) f) i j p = .int i) (hi : ty0 f = .int) : mSnd g lau mt M pc (o_pI (pc + 3) (ci + 1) f) := by
  intro c k _ hk l st h o ho
  unfold o_pI at ho
  split at ho
  · split at ho
    · next x a st' ht => exact mPut (h' := wI h a f x) h12 hr hin hf ty0 hty hnm0 hfin hw hd ht (by rw [hi]; rfl) (by rw [hi]; rfl) rfl rfl rfl rfl (fun b hb => funext fun j => by rw [mI_wI, if_neg (fun q => hb q.1)]) (fun b j hb => mV_wI_ne hb j) (mV_wI (by rw [ht]; exact hv)) (hk _ _ _ _ _ ho)
    · cases ho
  · cases ho
theorem s_putZ {ci f idx : Nat} {C : String} {T : u_T} {N : Nat} (h12 : ci < 12) (hr : mCl[ci]? = some (C, T, N)) (hin : ∀ w ∈ u_ws C T N, w ∈ lw_tbl) (hf : f < N) (ty0 : Nat → FieldType) (hty : ∀ k, k < N → parseFieldDescriptor (T k).2.2.1 = some (ty0 k)) (hnm0 : ∀ a, a < N → ∀ b, b < N → a ≠ b → (T a).2.1 ≠ (T b).2.1)
    (hfin : (T f).2.2.2 = false ∨ ((mNm M).name = "<init>" ∧ (T f).1 = mCn M)) (hw : Cond.fieldLink (mCn M) idx (T f).1 (T f).2.1 (T f).2.2.1 ∈ lw_tbl) (hd : decode (mCc M) pc = .ok (.putfield idx, 3)) (hv : ∀ i j p, mVal (mTy (ci + 1) f) i j p = .int i) (hi : ty0 f = .boolean) : mSnd g lau mt M pc (o_pZ (pc + 3) (ci + 1) f) := by
  intro c k _ hk l st h o ho
  unfold o_pZ at ho
  split at ho
  · split at ho
    · next x a st' ht => exact mPut (h' := wI h a f x) h12 hr hin hf ty0 hty hnm0 hfin hw hd ht.1 (by rw [hi]; rcases ht.2 with rfl | rfl <;> rfl) (by rw [hi]; rcases ht.2 with rfl | rfl <;> rfl) rfl rfl rfl rfl (fun b hb => funext fun j => by rw [mI_wI, if_neg (fun q => hb q.1)]) (fun b j hb => mV_wI_ne hb j) (mV_wI (by rw [ht.1]; exact hv)) (hk _ _ _ _ _ ho)
    · cases ho
  · cases ho
theorem s_putP {ci f idx : Nat} {C : String} {T : u_T} {N : Nat} (h12 : ci < 12) (hr : mCl[ci]? = some (C, T, N)) (hin : ∀ w ∈ u_ws C T N, w ∈ lw_tbl) (hf : f < N) (ty0 : Nat → FieldType) (hty : ∀ k, k < N → parseFieldDescriptor (T k).2.2.1 = some (ty0 k)) (hnm0 : ∀ a, a < N → ∀ b, b < N → a ≠ b → (T a).2.1 ≠ (T b).2.1)
    (hfin : (T f).2.2.2 = false ∨ ((mNm M).name = "<init>" ∧ (T f).1 = mCn M)) (hw : Cond.fieldLink (mCn M) idx (T f).1 (T f).2.1 (T f).2.2.1 ∈ lw_tbl) (hd : decode (mCc M) pc = .ok (.putfield idx, 3)) (hv : ∀ i j p, mVal (mTy (ci + 1) f) i j p = va_rf p) (hi : (ty0 f).isReference = true) : mSnd g lau mt M pc (o_pP (pc + 3) (ci + 1) f) := by
  intro c k _ hk l st h o ho
  unfold o_pP at ho
  split at ho
  · split at ho
    · next x a st' ht => exact mPut (h' := wP h a f (some x)) h12 hr hin hf ty0 hty hnm0 hfin hw hd ht (by generalize ty0 f = z at hi; cases z <;> first | rfl | cases hi) (by generalize ty0 f = z at hi; cases z <;> first | rfl | cases hi) rfl rfl rfl rfl (fun b hb => rfl) (fun b j hb => mV_wP_ne hb j) (mV_wP (x := some x) (by rw [ht]; exact hv)) (hk _ _ _ _ _ ho)
    · cases ho
  · cases ho
-- rows
theorem mArr {p : Program} {s : State} {mth : MethodId} {args : Array Value} {meth : Method} {c : Code} (hC : mCx g M p s mth args meth c) {t : Nat} {ty : FieldType} (h20 : 20 ≤ t) (ht : (mTys (gA g))[t - 20]? = some (gA g t, ty)) (n : Nat) (z : Nat → Value) : s.isArrayOf (arrV (gA g t) n z) ty := (hC.2.2.2.2.2.1.2 _ _ ht).1 n z
theorem mIn {i : Int32} {n : Nat} {c : ClassId} {f : Nat → Value} (h : ¬ i < 0 ∧ i.toNatClampNeg < n) : ¬ (i < 0 ∨ (arrV c n f).slots.size ≤ i.toNatClampNeg) := by
  rw [arrV_size]
  rintro (q | q)
  · exact h.1 q
  · exact absurd h.2 (Nat.not_lt.mpr q)
theorem s_iald (hd : decode (mCc M) pc = .ok (.iaload, 1)) : mSnd g lau mt M pc (o_ial (pc + 1)) := by
  intro c k _ hk l st h o ho
  unfold o_ial at ho
  split at ho
  · split at ho
    · next i a st' ht =>
      obtain ⟨ht, hi⟩ := ht
      refine mG_pure (fun p e R s mth args below meth c Q hC _ _ ls H locs cells slots hl hH kk => ?_) (hk _ _ _ _ _ ho)
      rcases ht with ht | ht
      · have hv : mV h a i.toNatClampNeg = .int (mI h a i.toNatClampNeg) := by unfold mV; rw [ht]; rfl
        exact W.iald (v := .int (mI h a i.toNatClampNeg)) hC.1 hC.2.1 (hH.arr ht (by omega) (by omega)) (mArr hC (by omega) rfl _ _) (fun q => by cases q) (mIn hi) (by rw [arrV_read _ _ hi.2, hv]) rfl rfl hd (kk ls hl)
      · rcases hH.2.2.2.2 a (by rw [ht]; omega) with ⟨x1, x2, x3, x4⟩ | ⟨x1, -⟩
        · obtain ⟨scr, h1, h2, h3, h4, h5⟩ := hC.2.2.2.2.2.2.1
          subst x1
          rw [x3] at hi
          exact W.iald (v := .int (mI h (gb g) i.toNatClampNeg)) hC.1 hC.2.1 (by rw [hH.2.2.2.1 _ hH.2.2.1]; exact h1) h2 h3 (by rw [h4]; rintro (q | q); exact hi.1 q; exact absurd hi.2 (Nat.not_lt.mpr q)) (by rw [x4]; exact h5 _ hi.2) rfl rfl hd (kk ls hl)
        · omega
    · cases ho
  · cases ho
theorem s_zald (hd : decode (mCc M) pc = .ok (.baload, 1)) : mSnd g lau mt M pc (o_bal (pc + 1)) := by
  intro c k _ hk l st h o ho
  unfold o_bal at ho
  split at ho
  · split at ho
    · next i a st' ht =>
      obtain ⟨ht, hi⟩ := ht
      refine mG_pure (fun p e R s mth args below meth c Q hC _ _ ls H locs cells slots hl hH kk => ?_) (hk _ _ _ _ _ ho)
      have hv : mV h a i.toNatClampNeg = .int (mI h a i.toNatClampNeg) := by unfold mV; rw [ht]; rfl
      exact W.zald (v := .int (mI h a i.toNatClampNeg)) hC.1 hC.2.1 (hH.arr ht (by omega) (by omega)) (mArr hC (by omega) rfl _ _) (fun q => by cases q) (mIn hi) (by rw [arrV_read _ _ hi.2, hv]) rfl rfl hd (kk ls hl)
    · cases ho
  · cases ho
theorem s_lald (hd : decode (mCc M) pc = .ok (.laload, 1)) : mSnd g lau mt M pc (o_lal (pc + 1)) := by
  intro c k _ hk l st h o ho
  unfold o_lal at ho
  split at ho
  · split at ho
    · next i a st' ht =>
      obtain ⟨ht, hi⟩ := ht
      refine mG_pure (fun p e R s mth args below meth c Q hC _ _ ls H locs cells slots hl hH kk => ?_) (hk _ _ _ _ _ ho)
      have hv : mV h a i.toNatClampNeg = .long (mJ h a i.toNatClampNeg) := by unfold mV; rw [ht]; rfl
      exact W.lald (v := .long (mJ h a i.toNatClampNeg)) hC.1 hC.2.1 (hH.arr ht (by omega) (by omega)) (mArr hC (by omega) rfl _ _) (fun q => by cases q) (mIn hi) (by rw [arrV_read _ _ hi.2, hv]) rfl rfl hd (kk ls hl)
    · cases ho
  · cases ho
theorem s_aald (hd : decode (mCc M) pc = .ok (.aaload, 1)) : mSnd g lau mt M pc (o_aal (pc + 1)) := by
  intro c k _ hk l st h o ho
  unfold o_aal at ho
  split at ho
  · split at ho
    · next i a st' ht =>
      obtain ⟨ht, hi⟩ := ht
      refine mG_pure (fun p e R s mth args below meth c Q hC _ _ ls H locs cells slots hl hH kk => ?_) (hk _ _ _ _ _ ho)
      rcases ht with ht | ht | ht
      · have hv : mV h a i.toNatClampNeg = va_rf (mP h a i.toNatClampNeg) := by unfold mV; rw [ht]; rfl
        exact W.aald (v := va_rf (mP h a i.toNatClampNeg)) hC.1 hC.2.1 (hH.arr ht (by omega) (by omega)) (mArr hC (t := 23) (by omega) rfl _ _) rfl (fun q => by cases q) (mIn hi) (by rw [arrV_read _ _ hi.2, hv]) rfl rfl hd (kk ls hl)
      · have hv : mV h a i.toNatClampNeg = va_rf (mP h a i.toNatClampNeg) := by unfold mV; rw [ht]; rfl
        exact W.aald (v := va_rf (mP h a i.toNatClampNeg)) hC.1 hC.2.1 (hH.arr ht (by omega) (by omega)) (mArr hC (t := 24) (by omega) rfl _ _) rfl (fun q => by cases q) (mIn hi) (by rw [arrV_read _ _ hi.2, hv]) rfl rfl hd (kk ls hl)
      · have hv : mV h a i.toNatClampNeg = va_rf (mP h a i.toNatClampNeg) := by unfold mV; rw [ht]; rfl
        exact W.aald (v := va_rf (mP h a i.toNatClampNeg)) hC.1 hC.2.1 (hH.arr ht (by omega) (by omega)) (mArr hC (t := 25) (by omega) rfl _ _) rfl (fun q => by cases q) (mIn hi) (by rw [arrV_read _ _ hi.2, hv]) rfl rfl hd (kk ls hl)
    · cases ho
  · cases ho
/-- the relation behind a store into a row -/
theorem mStore {h h' : mH} {H H' : Heap} {a t j : Nat} {v : Value} (hH : mHR g h H) (ht : mTg h a = t) (h20 : 20 ≤ t) (h30 : t ≠ 30) (e0 : mTop h' = mTop h) (e2 : mTg h' = mTg h) (e3 : mLn h' = mLn h) (e4 : ∀ b, b ≠ a → mI h' b = mI h b) (e5 : ∀ b j, b ≠ a → mV h' b j = mV h b j) (e6 : ∀ i, mV h' a i = updV (mV h a) j v i)
    (w1 : H'[a]? = some ((arrV (gA g t) (mLn h a) (mV h a)).setSlot j v)) (w2 : H'.size = H.size) (w3 : ∀ q, q ≠ a → H'[q]? = H[q]?) : mHR g h' H' := by
  refine hH.put ht (by omega) h30 e0 e2 e3 e4 e5 w2 w3 ⟨fun r hr1 hr2 => ?_, fun _ => ?_⟩
  · rw [e2, ht] at hr1
    omega
  · rw [w1, arrV_store, e2, e3, ht, show mV h' a = updV (mV h a) j v from funext e6]
theorem s_iast (hd : decode (mCc M) pc = .ok (.iastore, 1)) : mSnd g lau mt M pc (o_ias (pc + 1)) := by
  intro c k _ hk l st h o ho
  unfold o_ias at ho
  split at ho
  · split at ho
    · next x i a st' ht =>
      obtain ⟨ht, hi⟩ := ht
      refine mG_heap (h' := wI h a i.toNatClampNeg x) (dc := 0) (ds := 0) rfl rfl (fun p e R s mth args below meth c Q hC ls H locs cells slots hl hH hL _ _ kk => ?_) (hk _ _ _ _ _ ho)
      refine W.iast hC.1 hC.2.1 (hH.arr ht (by omega) (by omega)) (mArr hC (by omega) rfl _ _) (fun q => by cases q) (mIn hi) rfl rfl hd (fun H' w1 w2 w3 => kk H' _ ?_ (mLocs hL (hH.base ht (by omega) (by omega))))
      exact mStore hH ht (by omega) (by omega) rfl rfl rfl (fun b hb => funext fun j => by rw [mI_wI, if_neg (fun q => hb q.1)]) (fun b j hb => mV_wI_ne hb j) (mV_wI (by rw [ht]; exact fun _ _ _ => rfl)) w1 w2 w3
    · cases ho
  · cases ho
theorem s_zast (hd : decode (mCc M) pc = .ok (.bastore, 1)) : mSnd g lau mt M pc (o_bas (pc + 1)) := by
  intro c k _ hk l st h o ho
  unfold o_bas at ho
  split at ho
  · split at ho
    · next x i a st' ht =>
      obtain ⟨ht, hxx, hi⟩ := ht
      have hnx : narrow .boolean (.int x) = .int x := by rcases hxx with rfl | rfl <;> rfl
      refine mG_heap (h' := wI h a i.toNatClampNeg x) (dc := 0) (ds := 0) rfl rfl (fun p e R s mth args below meth c Q hC ls H locs cells slots hl hH hL _ _ kk => ?_) (hk _ _ _ _ _ ho)
      refine W.zast hC.1 hC.2.1 (hH.arr ht (by omega) (by omega)) (mArr hC (by omega) rfl _ _) (fun q => by cases q) (mIn hi) rfl rfl hd (fun H' w1 w2 w3 => kk H' _ ?_ (mLocs hL (hH.base ht (by omega) (by omega))))
      rw [hnx] at w1
      exact mStore hH ht (by omega) (by omega) rfl rfl rfl (fun b hb => funext fun j => by rw [mI_wI, if_neg (fun q => hb q.1)]) (fun b j hb => mV_wI_ne hb j) (mV_wI (by rw [ht]; exact fun _ _ _ => rfl)) w1 w2 w3
    · cases ho
  · cases ho
theorem s_last (hd : decode (mCc M) pc = .ok (.lastore, 1)) : mSnd g lau mt M pc (o_las (pc + 1)) := by
  intro c k _ hk l st h o ho
  unfold o_las at ho
  split at ho
  · split at ho
    · next x i a st' ht =>
      obtain ⟨ht, hi⟩ := ht
      refine mG_heap (h' := wJ h a i.toNatClampNeg x) (dc := 0) (ds := 0) rfl rfl (fun p e R s mth args below meth c Q hC ls H locs cells slots hl hH hL _ _ kk => ?_) (hk _ _ _ _ _ ho)
      refine W.last hC.1 hC.2.1 (hH.arr ht (by omega) (by omega)) (mArr hC (by omega) rfl _ _) (fun q => by cases q) (mIn hi) rfl rfl hd (fun H' w1 w2 w3 => kk H' _ ?_ (mLocs hL (hH.base ht (by omega) (by omega))))
      exact mStore hH ht (by omega) (by omega) rfl rfl rfl (fun b hb => rfl) (fun b j hb => mV_wJ_ne hb j) (mV_wJ (by rw [ht]; exact fun _ _ _ => rfl)) w1 w2 w3
    · cases ho
  · cases ho
theorem mAast {t ci x i' : Nat} {i : Int32} {h : mH} {a : Nat} {l : mL} {st : List Value} {o : mO} {r : vw_C} (hd : decode (mCc M) pc = .ok (.aastore, 1)) (h20 : 20 ≤ t) (h30 : t ≠ 30) (ht : mTg h a = t) (hty : (mTys (gA g))[t - 20]? = some (gA g t, .object r.1)) (h12 : ci < 12) (hr : mCl[ci]? = some r) (hx : mTg h x = ci + 1) (hi : ¬ i < 0 ∧ i.toNatClampNeg < mLn h a) (hi' : i.toNatClampNeg = i') (hv : ∀ i j p, mVal (mTy t i') i j p = va_rf p) (hg : mGood g lau M (pc + 1) l st (wP h a i' (some x)) o) : mGood g lau M pc l (.ref x :: .int i :: .ref a :: st) h o := by
  subst hi'
  refine mG_heap (h' := wP h a i.toNatClampNeg (some x)) (dc := 0) (ds := 0) rfl rfl (fun p e R s mth args below meth c Q hC ls H locs cells slots hl hH hL _ _ kk => ?_) hg
  obtain ⟨cellV, g1, g2, g3, -⟩ := hH.obj hx h12 hr
  have hK := hC.2.2.2.2.2.1
  have hcls := (hK.1 ci r hr).2
  obtain ⟨kA, comp, k1, k2, k3, -⟩ := (hK.2 _ _ hty).2
  have hcomp : comp = (gD g).1 ci := Option.some.inj (k3.symm.trans hcls.1)
  subst hcomp
  obtain ⟨kC, hkC, -⟩ := hcls.2
  refine W.aast hC.1 hC.2.1 (hH.arr ht h20 h30) (fun q h => by cases h) (fun h => by cases h) k1 k2 rfl hkC ⟨hi.1, by rw [arrV_size]; exact hi.2⟩ g1 (fun q h => by rw [g3] at h; cases h) (by rw [g2]; exact hkC) (by rw [g2]; exact va_assign hcls) rfl rfl hd (fun H' w1 w2 w3 => kk H' _ ?_ (mLocs hL (hH.base ht (by omega) h30)))
  exact mStore hH ht h20 h30 rfl rfl rfl (fun b hb => rfl) (fun b j hb => mV_wP_ne hb j) (mV_wP (x := some x) (by rw [ht]; exact hv)) w1 w2 w3
theorem s_aast (hd : decode (mCc M) pc = .ok (.aastore, 1)) : mSnd g lau mt M pc (o_aas (pc + 1)) := by
  intro c k _ hk l st h o ho
  unfold o_aas at ho
  split at ho
  · split at ho
    · next x i a st' ht =>
      obtain ⟨ht, hi⟩ := ht
      rcases ht with ⟨ht, hx⟩ | ⟨ht, hx⟩
      · exact mAast (t := 23) (ci := 5) (r := (RX5, TX5, 9)) hd (by omega) (by omega) ht rfl (by omega) rfl hx hi rfl (fun _ _ _ => rfl) (hk _ _ _ _ _ ho)
      · exact mAast (t := 24) (ci := 6) (r := (RX6, TX6, 18)) hd (by omega) (by omega) ht rfl (by omega) rfl hx hi rfl (fun _ _ _ => rfl) (hk _ _ _ _ _ ho)
    · cases ho
  · cases ho
theorem s_alen (hd : decode (mCc M) pc = .ok (.arraylength, 1)) : mSnd g lau mt M pc (o_aln (pc + 1)) := by
  intro c k _ hk l st h o ho
  unfold o_aln at ho
  split at ho
  · split at ho
    · next a st' ht =>
      refine mG_pure (fun p e R s mth args below meth c Q hC _ _ ls H locs cells slots hl hH kk => ?_) (hk _ _ _ _ _ ho)
      rcases ht with ht | ht | ht
      · exact W.alen (n := nI (mLn h a)) hC.1 hC.2.1 (hH.arr ht (by omega) (by omega)) (mArr hC (t := 20) (by omega) rfl _ _) (by rw [arrV_size] <;> rfl) rfl rfl hd (kk ls hl)
      · exact W.alen (n := nI (mLn h a)) hC.1 hC.2.1 (hH.arr ht (by omega) (by omega)) (mArr hC (t := 23) (by omega) rfl _ _) (by rw [arrV_size] <;> rfl) rfl rfl hd (kk ls hl)
      · rcases hH.2.2.2.2 a (by rw [ht]; omega) with ⟨x1, x2, x3, x4⟩ | ⟨x1, -⟩
        · obtain ⟨scr, h1, h2, h3, h4, h5⟩ := hC.2.2.2.2.2.2.1
          subst x1
          exact W.alen (n := nI (mLn h (gb g))) hC.1 hC.2.1 (by rw [hH.2.2.2.1 _ hH.2.2.1]; exact h1) h2 (by rw [h4, x3] <;> rfl) rfl rfl hd (kk ls hl)
        · omega
    · cases ho
  · cases ho
end MHeap
end
section
/-! ===== the operations are sound: what is made, calls, ends ===== -/
section MCalls
variable {g : mG} {lau : Launch} {mt : Nat → mM} {M : mM} {pc : Nat}
theorem s_new {ci idx : Nat} {C : String} {T : u_T} {N : Nat} (h12 : ci < 12) (hr : mCl[ci]? = some (C, T, N)) (hin : ∀ w ∈ u_ws C T N, w ∈ lw_tbl) (ty0 : Nat → FieldType) (hty : ∀ k, k < N → parseFieldDescriptor (T k).2.2.1 = some (ty0 k)) (hdef : ∀ j, j < N → defaultValue (ty0 j) = mVal (mTy (ci + 1) j) 0 0 none)
    (hw1 : Cond.classLink (mCn M) idx C ∈ lw_tbl) (hw2 : Cond.instantiable C N ∈ lw_tbl) (hw3 : Cond.initialized C ∈ lw_tbl) (hd : decode (mCc M) pc = .ok (.new idx, 3)) : mSnd g lau mt M pc (o_new (pc + 3) (ci + 1) N) := by
  intro c k _ hk l st h o ho
  unfold o_new at ho
  refine mG_heap (h' := wN h (ci + 1) N) (dc := 1) (ds := N) rfl rfl (fun p e R s mth args below meth c Q hC ls H locs cells slots hl hH hL hcells hslots kk => ?_) (hk _ _ _ _ _ ho)
  obtain ⟨hx, hb, hml, hown, hts, hK, hX, hnm⟩ := hC
  have hKn := hK.1 ci _ hr
  refine W.newcK hx hb hown (hts _ hw1) (hts _ hw2) (hts _ hw3) rfl hd hcells hslots hKn.2.1 hH.1 (fun H1 kC hkC e1 z1 o1 => ?_)
  refine kk H1 locs (hH.push (by omega) z1 o1 ⟨fun r hr1 hr2 => ?_, fun h20 => ?_⟩) hL
  · rw [mTg_wN, if_pos rfl] at hr2 ⊢
    have hrr : r = (C, T, N) := Option.some.inj (hr2.symm.trans hr)
    subst hrr
    refine (u_born ty0 hts hin hKn hkC e1 hty).to (fun j hj => ?_)
    unfold mV
    rw [mTg_wN, if_pos rfl, mI_wN, if_pos rfl, mJ_wN, if_pos rfl, mP_wN, if_pos rfl]
    exact hdef j hj
  · rw [mTg_wN, if_pos rfl] at h20
    omega
theorem mNewArr {h : mH} {H H' : Heap} {t n : Nat} {dv : Value} (hH : mHR g h H) (h20 : 20 ≤ t) (h30 : t < 30) (hdv : ∀ j, mVal (mTy t j) 0 0 none = dv) (hz : H'.size = mTop h + 1) (oq : ∀ q : Nat, q < mTop h → H'[q]? = H[q]?) (hc : H'[mTop h]? = some (arrV (gA g t) n (fun _ => dv))) : mHR g (wN h t n) H' := by
  refine hH.push h30 hz oq ⟨fun r hr1 _ => ?_, fun _ => ?_⟩
  · rw [mTg_wN, if_pos rfl] at hr1
    omega
  · rw [hc, mTg_wN, if_pos rfl, mLn_wN, if_pos rfl]
    congr 2
    funext j
    unfold mV
    rw [mTg_wN, if_pos rfl, mI_wN, if_pos rfl, mJ_wN, if_pos rfl, mP_wN, if_pos rfl, hdv]
theorem s_newa {t : Nat} {atype : ArrayType} (h20 : 20 ≤ t) (h22 : t ≤ 22) (hty : (mTys (gA g))[t - 20]? = some (gA g t, newarray.typeOf atype)) (hdv : ∀ j, mVal (mTy t j) 0 0 none = defaultValue (newarray.typeOf atype)) (hcb : componentBytes (newarray.typeOf atype) ≤ 8) (hra : ∀ (U : State) (cA : ClassId), va_RA U cA (newarray.typeOf atype) → U.vm.findClass ("[" ++ (newarray.typeOf atype).toString) = some cA)
    (hw : Cond.arrayClass (newarray.typeOf atype) ∈ lw_tbl) (hd : decode (mCc M) pc = .ok (.newarray atype, 2)) : mSnd g lau mt M pc (o_nwa (pc + 2) t) := by
  intro c k _ hk l st h o ho
  unfold o_nwa at ho
  split at ho
  · split at ho
    · next n st' hn =>
      refine mG_heap (h' := wN h t n.toNatClampNeg) (dc := 1) (ds := n.toNatClampNeg) rfl rfl (fun p e R s mth args below meth c Q hC ls H locs cells slots hl hH hL hcells hslots kk => ?_) (hk _ _ _ _ _ ho)
      obtain ⟨hx, hb, hml, hown, hts, hK, hX, hnm⟩ := hC
      refine W.newa hx hb (hts _ hw) rfl hd rfl hn.1 (Nat.le_trans (Nat.mul_le_mul hn.2 hcb) (by decide)) hcells hslots (fun cA kA comp h1 h2 h3 => ?_)
      have hcA : cA = gA g t := Option.some.inj (h1.symm.trans (hra _ _ (hK.2 _ _ hty).2))
      rw [hH.1]
      refine kk _ locs (mNewArr hH h20 (by omega) hdv (by simp [hH.1]) (fun q hq => by rw [Array.getElem?_push, if_neg (by rw [hH.1]; omega)]) ?_) hL
      rw [← hcA, ← hH.1, ← arrV_new]
      simp
    · cases ho
  · cases ho
theorem s_anew {t idx : Nat} {C : String} (h20 : 20 ≤ t) (h24 : t ≤ 24) (hty : (mTys (gA g))[t - 20]? = some (gA g t, .object C)) (hdv : ∀ j, mVal (mTy t j) 0 0 none = .null) (hw1 : Cond.classLink (mCn M) idx C ∈ lw_tbl) (hw2 : Cond.arrayOver (.object C) ∈ lw_tbl) (hd : decode (mCc M) pc = .ok (.anewarray idx, 3)) : mSnd g lau mt M pc (o_nwa (pc + 3) t) := by
  intro c k _ hk l st h o ho
  unfold o_nwa at ho
  split at ho
  · split at ho
    · next n st' hn =>
      refine mG_heap (h' := wN h t n.toNatClampNeg) (dc := 1) (ds := n.toNatClampNeg) rfl rfl (fun p e R s mth args below meth c Q hC ls H locs cells slots hl hH hL hcells hslots kk => ?_) (hk _ _ _ _ _ ho)
      obtain ⟨hx, hb, hml, hown, hts, hK, hX, hnm⟩ := hC
      refine W.anew hx hb hown (hts _ hw1) (hts _ hw2) rfl hd rfl hn.1 (Nat.le_trans (Nat.mul_le_mul hn.2 (Nat.le_refl 4)) (by decide)) hcells hslots (fun cA kA comp f1 f2 f3 f4 => ?_)
      have hcA : cA = gA g t := by
        obtain ⟨kA', comp', -, -, -, k4⟩ := (hK.2 _ _ hty).2
        exact Option.some.inj (f1.symm.trans k4)
      rw [hH.1]
      refine kk _ locs (mNewArr hH h20 (by omega) hdv (by simp [hH.1]) (fun q hq => by rw [Array.getElem?_push, if_neg (by rw [hH.1]; omega)]) ?_) hL
      rw [← hcA, ← hH.1, ← arrV_new]
      simp
    · cases ho
  · cases ho
theorem s_obj {idx : Nat} (hw1 : Cond.methodLink (mCn M) idx objectInit ∈ lw_tbl) (hw2 : Cond.instanceMethod objectInit ∈ lw_tbl) (hw3 : Cond.code objectInit ⟨#[0xb1]⟩ 1 none ∈ lw_tbl) (hfr : 1 ≤ mFr M) (hlo : 20 ≤ mLo M) (hd : decode (mCc M) pc = .ok (.invokespecial idx, 3)) : mSnd g lau mt M pc (o_obj (pc + 3)) := by
  intro c k _ hk l st h o ho
  unfold o_obj at ho
  split at ho
  · next a st' =>
    cases hb9 : Nat.ble (mCat st') 8
    · rw [hb9] at ho
      cases ho
    · rw [hb9] at ho
      refine mG_pure (fun p e R s mth args below meth c Q hC hF hL9 ls H locs cells slots hl hH kk => ?_) (hk _ _ _ _ _ ho)
      obtain ⟨hx, hb, hml, hown, hts, hK, hX, hnm⟩ := hC
      have h8 : mCat st' ≤ 8 := Nat.le_of_ble_eq_true hb9
      refine W.objInit hx hb hown (hts _ hw1) (hts _ hw2) (hts _ hw3) rfl (by rw [hml]; exact hl.1) rfl hd (by omega) ?_ (kk ls hl)
      have := lv_room (m := mth) (pc := pc) (ls := ls) (rest := .ref a :: st') (st := st') h8
      have e8 : (st'.map fun v => v.category).sum = mCat st' := rfl
      omega
  · cases ho
/-- behind a call -/
theorem mRun {p : Program} {e : Env} {R : Room} {s : State} {mth : MethodId} {args : Array Value} {below : List Frame} {meth : Method} {c : Code} {H : Heap} {locs : List Loc} {cells slots mc ms : Nat} {Q : State → Prop} {ls : Array Slot} {st rest : List Value} {o : mO} {a : Array Value}
    (hr : va_Run p lau e R s mth args below meth c H locs cells slots mc ms (F0 mth pc ls st) rest (mQc g o a) (fun q => gB g ≤ q)) (hL : ∀ q ∈ locs, gB g ≤ q.base)
    (kk : ∀ (H' : Heap) (locs' : List Loc), mHR g o.2 H' → (∀ q ∈ locs', gB g ≤ q.base) → W p lau e R s mth args below meth c H' locs' (cells + mc) (slots + ms) Q (F0 mth (pc + 3) ls (o.1.toList ++ rest))) : W p lau e R s mth args below meth c H locs cells slots Q (F0 mth pc ls st) := by
  intro T hT X
  obtain ⟨v, st₀, t, T', L, h0, X', hL2, e1, e2, ⟨hv, hH'⟩, st9⟩ := hr T hT X
  have hv := Outcome.returned.inj hv
  subst hv
  obtain ⟨t2, a1, b1⟩ := kk T'.heap (locs ++ L) (by rw [e1]; exact hH') (fun q hq => by
    rcases List.mem_append.mp hq with h | h
    · exact hL q h
    · exact hL2 q h) T' rfl X'
  exact ⟨t2, st9 t2 a1, b1⟩
theorem mBlind {as : List Value} {h : mH} : FrameBlind (mPc g as h) := fun a U g' mk hq => ⟨hq.1, hq.2.1, va_K.moved (u := U) (U := U.calling g' mk a) (Vm.Alike.refl U.vm) hq.2.2.1, va_X.moved (u := U) (U := U.calling g' mk a) (Vm.Alike.refl U.vm) hq.2.2.2⟩
theorem mPre {p : Program} {s : State} {mth : MethodId} {args : Array Value} {meth : Method} {c : Code} (hC : mCx g M p s mth args meth c) {h : mH} {H : Heap} (hH : mHR g h H) (as : List Value) : ∀ U : State, U.heap = H → s.WarmedH U.vm → mPc g as h as.toArray U := fun U hU hW => ⟨rfl, by rw [hU]; exact hH, va_K.moved hW.alike hC.2.2.2.2.2.1, va_X.moved hW.alike hC.2.2.2.2.2.2.1⟩
theorem mWsGood (hall : lw_tbl.all goodWord = true) {M' : mM} (hc : Cond.code (mNm M') (mCc M') (mNl M') (mRt M') ∈ lw_tbl) : GoodIn lw_tbl (mWs M') := fun w hw => by
  have hm : w ∈ lw_tbl := by
    rcases List.mem_cons.mp hw with h | h
    · rw [h]; exact hc
    · exact h
  exact ⟨hm, good_of_word (List.all_eq_true.mp hall w hm)⟩
/-- what is asked of a call of m: its words, its room -/
def mCw (M M' : mM) (n : Nat) : Prop :=
  Cond.code (mNm M') (mCc M') (mNl M') (mRt M') ∈ lw_tbl ∧ Cond.initialized (mNm M').cls ∈ lw_tbl ∧ ((mNm M').cls ≠ "java/lang/invoke/MethodHandle" ∧ (mNm M').cls ≠ "java/lang/invoke/VarHandle" ∧ (parseMethodDescriptor (mNm M').desc).map (fun d => d.parameters.length) = some n) ∧ (mFr M' + 1 ≤ mFr M ∧ 8 + (mNl M' + 11) + mLo M' ≤ mLo M)
theorem mCwB (hall : lw_tbl.all goodWord = true) {M' : mM} {n idx : Nat} (hw : mCw M M' n) (hlk : Cond.methodLink (mCn M) idx (mNm M') ∈ lw_tbl) {p : Program} {s : State} {mth : MethodId} {args : Array Value} {meth : Method} {c : Code} (hC : mCx g M p s mth args meth c) {R : Room} (hf : mFr M ≤ R.frames) (hlo : mLo M ≤ R.locals) (mc ms : Nat) :
    CallB R s args (mCn M) idx (mNm M') (mCc M') (mNl M') (mRt M') (mWs M') (mRm M' mc ms) mc ms n :=
  callB_of n hC.2.2.2.2.1 (mWsGood hall hw.1) rfl rfl rfl (hC.2.2.2.2.1 _ hw.2.1) (hC.2.2.2.2.1 _ hlk) hw.2.2.1 ⟨Nat.le_trans hw.2.2.2.1 hf, Nat.le_trans hw.2.2.2.2 hlo⟩
/-- the heap behind a call, and the rest of the run -/
theorem mG_run {h : mH} {o1 o : mO} {pc' : Nat} {l : mL} {st st' : List Value} (hm : mTop h ≤ mTop o1.2 ∧ mSl h ≤ mSl o1.2)
    (hs : ∀ (p : Program) (e : Env) (R : Room) (s : State) (mth : MethodId) (args : Array Value) (below : List Frame) (meth : Method) (c : Code) (Q : State → Prop), mCx g M p s mth args meth c → mFr M ≤ R.frames → mLo M ≤ R.locals →
      ∀ (ls : Array Slot) (H : Heap) (locs : List Loc) (cells slots : Nat), mLV ls (mNl M) l → mHR g h H → (∀ q ∈ locs, gB g ≤ q.base) → cells + (mTop o1.2 - mTop h) ≤ R.cells → slots + (mSl o1.2 - mSl h) ≤ R.slots →
        (∀ (H' : Heap) (locs' : List Loc), mHR g o1.2 H' → (∀ q ∈ locs', gB g ≤ q.base) → W p lau e R s mth args below meth c H' locs' (cells + (mTop o1.2 - mTop h)) (slots + (mSl o1.2 - mSl h)) Q (F0 mth pc' ls st')) → W p lau e R s mth args below meth c H locs cells slots Q (F0 mth pc ls st))
    (hg : mGood g lau M pc' l st' o1.2 o) : mGood g lau M pc l st h o := by
  obtain ⟨g1, g2, g3⟩ := hg
  obtain ⟨m1, m2⟩ := hm
  refine ⟨by omega, by omega, fun p e R s mth args below meth c Q hC hf hlo hR ls H locs cells slots hl hH hL hc hsl => ?_⟩
  exact hs p e R s mth args below meth c Q hC hf hlo ls H locs cells slots hl hH hL (by omega) (by omega) (fun H' locs' hH' hL' => g3 p e R s mth args below meth c Q hC hf hlo hR ls H' locs' _ _ hl hH' hL' (by omega) (by omega))
theorem s_cS {m' n idx : Nat} (hall : lw_tbl.all goodWord = true) (hw : mCw M (mt m') n) (hlk : Cond.methodLink (mCn M) idx (mNm (mt m')) ∈ lw_tbl) (hst : Cond.static (mNm (mt m')) ∈ lw_tbl) (hd : decode (mCc M) pc = .ok (.invokestatic idx, 3)) : mSnd g lau mt M pc (o_cS (pc + 3) m' n) := by
  intro cl k hcl hk l st h o ho
  unfold o_cS at ho
  cases hb9 : (Nat.ble (mCat (st.drop n)) 8 && Nat.ble n st.length)
  · rw [hb9] at ho
    cases ho
  · rw [hb9] at ho
    rw [Bool.and_eq_true] at hb9
    have h8 : mCat (st.drop n) ≤ 8 := Nat.le_of_ble_eq_true hb9.1
    have hn : n ≤ st.length := Nat.le_of_ble_eq_true hb9.2
    rw [cond_true] at ho
    split at ho
    · next r h1 hr =>
      have hcall := hcl _ _ _ _ hr
      refine mG_run (o1 := (r, h1)) ⟨hcall.1, hcall.2.1⟩ (fun p e R s mth args below meth c Q hC hf hlo ls H locs cells slots hl hH hL hcs hss kk => ?_) (hk _ _ _ _ _ ho)
      obtain ⟨hx, hb, hml, hown, hts, hK, hX, hnm⟩ := id hC
      refine mRun (rest := st.drop n) (a := ((st.take n).reverse).toArray) (va_runS (As := (st.take n).reverse) (Ts := lw_tbl) ⟨hx, hb, hml, hown, hts⟩ hcall.2.2 ⟨mCwB hall hw hlk hC hf hlo _ _, hts _ hst⟩ ⟨mBlind, mPre hC hH _⟩ rfl (by rw [List.length_reverse, List.length_take]; omega) hl.1 (by rw [List.reverse_reverse]; exact (List.take_append_drop n st).symm) (lv_room h8) hd ⟨hcs, hss⟩) hL kk
    · cases ho
theorem s_cV {m' n t ci idx : Nat} {r0 : vw_C} (hall : lw_tbl.all goodWord = true) (hw : mCw M (mt m') n) (hlk : Cond.methodLink (mCn M) idx (mNm (mt m')) ∈ lw_tbl) (hti : t = ci + 1) (h12 : ci < 12) (hr0 : mCl[ci]? = some r0) (hin : Cond.instanceMethod (mNm (mt m')) ∈ lw_tbl) (hse : Cond.selects r0.1 (mNm (mt m')) (mNm (mt m')) ∈ lw_tbl) (hd : decode (mCc M) pc = .ok (.invokevirtual idx, 3)) : mSnd g lau mt M pc (o_cV (pc + 3) m' n t) := by
  intro cl k hcl hk l st h o ho
  subst hti
  unfold o_cV at ho
  split at ho
  · next a rest hdr =>
    cases hb9 : (Nat.ble (mCat rest) 8 && Nat.ble n st.length)
    · rw [hb9] at ho
      cases ho
    · rw [hb9] at ho
      rw [Bool.and_eq_true] at hb9
      have h8 : mCat rest ≤ 8 := Nat.le_of_ble_eq_true hb9.1
      have hn : n ≤ st.length := Nat.le_of_ble_eq_true hb9.2
      rw [cond_true] at ho
      split at ho
      · next htg =>
        split at ho
        · next r h1 hr =>
          have hcall := hcl _ _ _ _ hr
          refine mG_run (o1 := (r, h1)) ⟨hcall.1, hcall.2.1⟩ (fun p e R s mth args below meth c Q hC hf hlo ls H locs cells slots hl hH hL hcs hss kk => ?_) (hk _ _ _ _ _ ho)
          obtain ⟨hx, hb, hml, hown, hts, hK, hX, hnm⟩ := id hC
          obtain ⟨cellB, q1, q2, q3, -⟩ := hH.obj htg h12 hr0
          refine mRun (rest := rest) (a := (Value.ref a :: (st.take n).reverse).toArray) (va_runV (As := (st.take n).reverse) (Ts := lw_tbl) (C := r0.1) ⟨hx, hb, hml, hown, hts⟩ hcall.2.2 ⟨mCwB hall hw hlk hC hf hlo _ _, hts _ hin, hts _ hse⟩ ⟨mBlind, ⟨cellB, q1, by rw [q3]; rfl, by rw [q2]; exact (hK.1 ci r0 hr0).2.1⟩, mPre hC hH _⟩ rfl (by rw [List.length_reverse, List.length_take]; omega) hl.1 (by rw [List.reverse_reverse, ← hdr]; exact (List.take_append_drop n st).symm) (lv_room h8) hd ⟨hcs, hss⟩) hL kk
        · cases ho
      · cases ho
  · cases ho
theorem s_cI {m' n idx : Nat} (hall : lw_tbl.all goodWord = true) (hw : mCw M (mt m') n) (hrt : mRt (mt m') = none) (hlk : Cond.methodLink (mCn M) idx (mNm (mt m')) ∈ lw_tbl) (hy : (mNm (mt m')).name = "<init>") (hin : Cond.instanceMethod (mNm (mt m')) ∈ lw_tbl) (hd : decode (mCc M) pc = .ok (.invokespecial idx, 3)) : mSnd g lau mt M pc (o_cI (pc + 3) m' n) := by
  intro cl k hcl hk l st h o ho
  unfold o_cI at ho
  split at ho
  · next a rest hdr =>
    cases hb9 : (Nat.ble (mCat rest) 8 && Nat.ble n st.length)
    · rw [hb9] at ho
      cases ho
    · rw [hb9] at ho
      rw [Bool.and_eq_true] at hb9
      have h8 : mCat rest ≤ 8 := Nat.le_of_ble_eq_true hb9.1
      have hn : n ≤ st.length := Nat.le_of_ble_eq_true hb9.2
      rw [cond_true] at ho
      split at ho
      · next r h1 hr =>
        have hcall := hcl _ _ _ _ hr
        refine mG_run (o1 := (r, h1)) ⟨hcall.1, hcall.2.1⟩ (fun p e R s mth args below meth c Q hC hf hlo ls H locs cells slots hl hH hL hcs hss kk => ?_) (hk _ _ _ _ _ ho)
        obtain ⟨hx, hb, hml, hown, hts, hK, hX, hnm⟩ := id hC
        have hcb := mCwB hall hw hlk hC hf hlo (mTop h1 - mTop h) (mSl h1 - mSl h)
        rw [hrt] at hcb
        refine mRun (rest := rest) (a := (Value.ref a :: (st.take n).reverse).toArray) (va_runI (As := (st.take n).reverse) (Ts := lw_tbl) ⟨hx, hb, hml, hown, hts⟩ hcall.2.2 ⟨hcb, hy, hts _ hin⟩ ⟨mBlind, mPre hC hH _⟩ rfl (by rw [List.length_reverse, List.length_take]; omega) hl.1 (by rw [List.reverse_reverse, ← hdr]; exact (List.take_append_drop n st).symm) (lv_room h8) hd ⟨hcs, hss⟩) hL kk
      · cases ho
  · cases ho
theorem s_cN {m' n idx : Nat} {host : String} (hall : lw_tbl.all goodWord = true) (hw : mCw M (mt m') n) (hrt : mRt (mt m') = none) (hlk : Cond.methodLinkNest (mCn M) idx (mNm (mt m')) host ∈ lw_tbl) (hy : (mNm (mt m')).name = "<init>") (hin : Cond.instanceMethod (mNm (mt m')) ∈ lw_tbl) (hd : decode (mCc M) pc = .ok (.invokespecial idx, 3)) : mSnd g lau mt M pc (o_cI (pc + 3) m' n) := by
  intro cl k hcl hk l st h o ho
  unfold o_cI at ho
  split at ho
  · next a rest hdr =>
    cases hb9 : (Nat.ble (mCat rest) 8 && Nat.ble n st.length)
    · rw [hb9] at ho
      cases ho
    · rw [hb9] at ho
      rw [Bool.and_eq_true] at hb9
      have h8 : mCat rest ≤ 8 := Nat.le_of_ble_eq_true hb9.1
      have hn : n ≤ st.length := Nat.le_of_ble_eq_true hb9.2
      rw [cond_true] at ho
      split at ho
      · next r h1 hr =>
        have hcall := hcl _ _ _ _ hr
        refine mG_run (o1 := (r, h1)) ⟨hcall.1, hcall.2.1⟩ (fun p e R s mth args below meth c Q hC hf hlo ls H locs cells slots hl hH hL hcs hss kk => ?_) (hk _ _ _ _ _ ho)
        obtain ⟨hx, hb, hml, hown, hts, hK, hX, hnm⟩ := id hC
        have hG := mWsGood hall hw.1
        have hcb : va_CN R s args (mCn M) idx (mNm (mt m')) host (mCc (mt m')) (mNl (mt m')) none (mWs (mt m')) (mRm (mt m') (mTop h1 - mTop h) (mSl h1 - mSl h)) (mTop h1 - mTop h) (mSl h1 - mSl h) n := by
          have h9 := va_cnB (R := R) (own := mCn M) (host := host) (index := idx) (rm := mRm (mt m') (mTop h1 - mTop h) (mSl h1 - mSl h)) (mc := mTop h1 - mTop h) (ms := mSl h1 - mSl h) n hts hG rfl rfl rfl (hts _ hlk) (hts _ hw.2.1) hw.2.2.1 ⟨Nat.le_trans hw.2.2.2.1 hf, Nat.le_trans hw.2.2.2.2 hlo⟩
          rw [hrt] at h9
          exact h9
        refine mRun (rest := rest) (a := (Value.ref a :: (st.take n).reverse).toArray) (va_runIN (As := (st.take n).reverse) (Ts := lw_tbl) ⟨hx, hb, hml, hown, hts⟩ hcall.2.2 ⟨hcb, hy, hts _ hin⟩ ⟨mBlind, mPre hC hH _⟩ rfl (by rw [List.length_reverse, List.length_take]; omega) hl.1 (by rw [List.reverse_reverse, ← hdr]; exact (List.take_append_drop n st).symm) (lv_room h8) hd ⟨hcs, hss⟩) hL kk
      · cases ho
  · cases ho
-- ends
theorem mG_end {l : mL} {h : mH} {r : Option Value} {st : List Value} (hst : st = r.toList) (hd : mDr M pc r) : mGood g lau M pc l st h (r, h) := by
  subst hst
  refine ⟨Nat.le_refl _, Nat.le_refl _, fun p e R s mth args below meth c Q hC hf hlo hR ls H locs cells slots hl hH hL hc hsl => ?_⟩
  exact hR pc ls H locs cells slots hd hH hL (by omega) (by omega)
theorem s_ri (hd : decode (mCc M) pc = .ok (.ireturn, 1)) (hr : mRt M = some .int) : mSnd g lau mt M pc o_ri := by
  intro c k _ hk l st h o ho
  unfold o_ri at ho
  split at ho
  · cases ho
    exact mG_end rfl ⟨hd, Or.inl hr⟩
  · cases ho
theorem s_rz (hd : decode (mCc M) pc = .ok (.ireturn, 1)) (hr : mRt M = some .boolean) : mSnd g lau mt M pc o_rz := by
  intro c k _ hk l st h o ho
  unfold o_rz at ho
  split at ho
  · split at ho
    · next hx =>
      cases ho
      exact mG_end rfl ⟨hd, Or.inr ⟨hr, hx⟩⟩
    · cases ho
  · cases ho
theorem s_rl (hd : decode (mCc M) pc = .ok (.lreturn, 1)) (hr : mRt M = some .long) : mSnd g lau mt M pc o_rl := by
  intro c k _ hk l st h o ho
  unfold o_rl at ho
  split at ho
  · cases ho
    exact mG_end rfl ⟨hd, hr⟩
  · cases ho
theorem s_rv (hd : decode (mCc M) pc = .ok (.return_, 1)) (hr : mRt M = none) : mSnd g lau mt M pc o_rv := by
  intro c k _ hk l st h o ho
  unfold o_rv at ho
  split at ho
  · cases ho
    exact mG_end rfl ⟨hd, hr⟩
  · cases ho
end MCalls
end
section
/-! ===== new int[n][k] ===== -/
theorem mTop_wM {h : mH} {n k : Nat} : mTop (wM h n k) = mTop h + (1 + n) := rfl
theorem mSl_wM {h : mH} {n k : Nat} : mSl (wM h n k) = mSl h + (n + n * k) := rfl
theorem mTg_wM {h : mH} {n k a : Nat} : mTg (wM h n k) a = if a = mTop h then 25 else if mTop h < a ∧ a < mTop h + (1 + n) then 20 else mTg h a := rfl
theorem mLn_wM {h : mH} {n k a : Nat} : mLn (wM h n k) a = if a = mTop h then n else if mTop h < a ∧ a < mTop h + (1 + n) then k else mLn h a := rfl
theorem mI_wM {h : mH} {n k a : Nat} : mI (wM h n k) a = if mTop h ≤ a ∧ a < mTop h + (1 + n) then (fun _ => 0) else mI h a := rfl
theorem mJ_wM {h : mH} {n k a : Nat} : mJ (wM h n k) a = if mTop h ≤ a ∧ a < mTop h + (1 + n) then (fun _ => 0) else mJ h a := rfl
theorem mP_wM {h : mH} {n k a : Nat} : mP (wM h n k) a = if a = mTop h then (fun j => if j < n then some (mTop h + 1 + j) else none) else if mTop h < a ∧ a < mTop h + (1 + n) then (fun _ => none) else mP h a := rfl
theorem mOuter (c : ClassId) (N h0 : Nat) : ∀ i : Nat, Jvm.Free.Multi.outerC c N h0 i = arrV c N (fun j => va_rf (if j < i then some (h0 + 1 + j) else none))
  | 0 => by
    show ({ cls := c, slots := Array.replicate N .null, vm := .none } : Cell) = _
    rw [arrV_new]
    refine congrArg (arrV c N) (funext fun j => ?_)
    simp [va_rf]
  | i + 1 => by
    show (Jvm.Free.Multi.outerC c N h0 i).setSlot i (.ref (h0 + 1 + i)) = _
    rw [mOuter c N h0 i, arrV_store]
    refine congrArg (arrV c N) (funext fun j => ?_)
    unfold updV
    by_cases e : j = i
    · subst e
      rw [if_pos rfl, if_pos (Nat.lt_succ_self j)]
      rfl
    · rw [if_neg e]
      show va_rf (if j < i then some (h0 + 1 + j) else none) = va_rf (if j < i + 1 then some (h0 + 1 + j) else none)
      by_cases h : j < i
      · rw [if_pos h, if_pos (by omega)]
      · rw [if_neg h, if_neg (by omega)]
theorem mHR.multi {g : mG} {h : mH} {H H' : Heap} {n k : Nat} (R : mHR g h H) (hz : H'.size = mTop h + (1 + n)) (oq : ∀ q : Nat, q < mTop h → H'[q]? = H[q]?) (ho : H'[mTop h]? = some (arrV (gA g 25) n (fun j => va_rf (if j < n then some (mTop h + 1 + j) else none)))) (hi : ∀ j, j < n → H'[mTop h + 1 + j]? = some (arrV (gA g 20) k (fun _ => .int 0))) : mHR g (wM h n k) H' := by
  obtain ⟨r1, r2, r3, r4, r5⟩ := id R
  refine ⟨hz, by rw [mTop_wM]; omega, r3, fun q hq => ?_, fun b hb0 => ?_⟩
  · rw [oq q (by omega)]
    exact r4 q hq
  · by_cases hb : b = mTop h
    · subst hb
      refine Or.inr ⟨by rw [mTg_wM, if_pos rfl]; omega, r2, by rw [mTop_wM]; omega, ⟨fun r hr1 _ => ?_, fun _ => ?_⟩⟩
      · rw [mTg_wM, if_pos rfl] at hr1
        omega
      · rw [ho, mTg_wM, if_pos rfl, mLn_wM, if_pos rfl]
        refine congrArg some (congrArg (arrV (gA g 25) n) (funext fun j => ?_))
        unfold mV
        rw [mTg_wM, if_pos rfl, mP_wM, if_pos rfl]
        rfl
    · by_cases hb2 : mTop h < b ∧ b < mTop h + (1 + n)
      · refine Or.inr ⟨by rw [mTg_wM, if_neg hb, if_pos hb2]; omega, by omega, by rw [mTop_wM]; omega, ⟨fun r hr1 _ => ?_, fun _ => ?_⟩⟩
        · rw [mTg_wM, if_neg hb, if_pos hb2] at hr1
          omega
        · have e := hi (b - (mTop h + 1)) (by omega)
          rw [show mTop h + 1 + (b - (mTop h + 1)) = b by omega] at e
          rw [e, mTg_wM, if_neg hb, if_pos hb2, mLn_wM, if_neg hb, if_pos hb2]
          refine congrArg some (congrArg (arrV (gA g 20) k) (funext fun j => ?_))
          unfold mV
          rw [mTg_wM, if_neg hb, if_pos hb2, mI_wM, if_pos (by omega)]
          rfl
      · have hb3 : ¬ (mTop h ≤ b ∧ b < mTop h + (1 + n)) := fun q => hb2 ⟨by omega, q.2⟩
        have q1 : mTg (wM h n k) b = mTg h b := by rw [mTg_wM, if_neg hb, if_neg hb2]
        have q2 : mLn (wM h n k) b = mLn h b := by rw [mLn_wM, if_neg hb, if_neg hb2]
        have q3 : mI (wM h n k) b = mI h b := by rw [mI_wM, if_neg hb3]
        have q4 : mJ (wM h n k) b = mJ h b := by rw [mJ_wM, if_neg hb3]
        have q5 : mP (wM h n k) b = mP h b := by rw [mP_wM, if_neg hb, if_neg hb2]
        have q6 : mV (wM h n k) b = mV h b := funext fun j => by unfold mV; rw [q1, q3, q4, q5]
        rw [q1] at hb0
        rcases r5 b hb0 with ⟨x1, x2, x3, x4⟩ | ⟨x1, x2, x3, x4⟩
        · exact Or.inl ⟨x1, by rw [q1]; exact x2, by rw [q2]; exact x3, by rw [q3]; exact x4⟩
        · refine Or.inr ⟨by rw [q1]; exact x1, x2, by rw [mTop_wM]; omega, ⟨fun r hr1 hr2 => ?_, fun h20 => ?_⟩⟩
          · rw [q1] at hr1 hr2 ⊢
            rw [q6]
            exact (x4.1 r hr1 hr2).kept (oq b x3)
          · rw [q1] at h20 ⊢
            rw [q2, q6, oq b x3]
            exact x4.2 h20
theorem s_mna {g : mG} {lau : Launch} {mt : Nat → mM} {M : mM} {pc idx : Nat} (hw1 : Cond.classLink (mCn M) idx ("[" ++ (FieldType.array .int).toString) ∈ lw_tbl) (hw2 : Cond.arrayOver (.array .int) ∈ lw_tbl) (hw3 : Cond.arrayClass .int ∈ lw_tbl) (hd : decode (mCc M) pc = .ok (.multianewarray idx 2, 4)) : mSnd g lau mt M pc (o_mna (pc + 4)) := by
  intro cl k _ hk l st h o ho
  unfold o_mna at ho
  split at ho
  · split at ho
    · next m n st' hn =>
      refine mG_heap (h' := wM h n.toNatClampNeg m.toNatClampNeg) (dc := 1 + n.toNatClampNeg) (ds := n.toNatClampNeg + n.toNatClampNeg * m.toNatClampNeg) rfl rfl (fun p e R s mth args below meth c Q hC ls H locs cells slots hl hH hL hcells hslots kk => ?_) (hk _ _ _ _ _ ho)
      obtain ⟨hx, hb, hml, hown, hts, hK, hX, hnm⟩ := hC
      intro T hT X
      obtain ⟨vm₁, cA, comp, -, fA, fC, -, -, X', step⟩ := X.multianewarray2F hx hown (hts _ hw1) (hts _ hw2) (hts _ hw3) (g := F0 mth pc ls (.int m :: .int n :: st')) rfl (by rw [hb]; exact hd) rfl hn.1.1 hn.2.1 (Nat.le_trans (Nat.mul_le_mul hn.1.2 (Nat.le_refl 4)) (by decide)) (Nat.le_trans (Nat.mul_le_mul hn.2.2 (Nat.le_refl _)) (by decide)) (Nat.le_trans hn.2.2 (by decide)) rfl rfl hcells hslots
      have eA : cA = gA g 25 := Option.some.inj (fA.symm.trans (hK.2 5 _ rfl).2)
      have eC : comp = gA g 20 := Option.some.inj (fC.symm.trans (hK.2 0 _ rfl).2)
      subst eA
      subst eC
      generalize hF : Jvm.Free.Multi.fill (T.setVm vm₁) (gA g 25) (gA g 20) n.toNatClampNeg m.toNatClampNeg (defaultValue .int) n.toNatClampNeg = F at X' step
      have hTh : (T.setVm vm₁).heap = H := hT
      obtain ⟨f1, f2, -, -⟩ := Jvm.Free.Multi.fill_facts (T.setVm vm₁) (gA g 25) (gA g 20) n.toNatClampNeg m.toNatClampNeg (defaultValue .int) n.toNatClampNeg
      rw [hF, hTh, hH.1] at f1 f2
      have hrow : ∀ j : Nat, j < n.toNatClampNeg → F.heap[mTop h + 1 + j]? = some (arrV (gA g 20) m.toNatClampNeg (fun _ => .int 0)) := fun j hj => by
        have := Jvm.Free.Multi.fill_inner (T.setVm vm₁) (gA g 25) (gA g 20) n.toNatClampNeg m.toNatClampNeg (defaultValue .int) n.toNatClampNeg j hj
        rw [hF, hTh, hH.1] at this
        rw [this, ← arrV_new]
        rfl
      have hold : ∀ x : Nat, x < mTop h → F.heap[x]? = H[x]? := fun x hx => by
        have := Jvm.Free.Multi.fill_old (T.setVm vm₁) (gA g 25) (gA g 20) n.toNatClampNeg m.toNatClampNeg (defaultValue .int) (a := x) (by rw [hTh, hH.1]; exact hx) n.toNatClampNeg
        rw [hF, hTh] at this
        exact this
      rw [mOuter] at f2
      have hH' : mHR g (wM h n.toNatClampNeg m.toNatClampNeg) F.heap := hH.multi (by rw [f1]; omega) hold f2 hrow
      rw [show cells + 1 + n.toNatClampNeg = cells + (1 + n.toNatClampNeg) by omega, show slots + n.toNatClampNeg + n.toNatClampNeg * m.toNatClampNeg = slots + (n.toNatClampNeg + n.toNatClampNeg * m.toNatClampNeg) by omega] at X'
      obtain ⟨t, a1, b1⟩ := kk F.heap locs hH' hL F rfl X'
      refine ⟨t, step t ?_, b1⟩
      have e : T.heap.size = mTop h := by rw [hT]; exact hH.1
      rw [e]
      exact a1
    · cases ho
  · cases ho
end
