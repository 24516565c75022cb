section
-- ===== PART A: goes FIRST, ahead of the names: the tables' words, and 'selects' of the private methods out of them =====
/-- a private method of a class that the tables say can be made, by its rows of tables_1 -/
def lw_okq (q : MethodName × Nat) : Prop := (q.1.cls ≠ "java/lang/invoke/MethodHandle" ∧ q.1.cls ≠ "java/lang/invoke/VarHandle") ∧ Cond.instantiable q.1.cls q.2 ∈ tables_1 ∧ Cond.privateMethod q.1 ∈ tables_1 ∧ Cond.instanceMethod q.1 ∈ tables_1
theorem lw_p0 : lw_okq (⟨"TreeMerge", "readTree", "()I"⟩, 19) := ⟨⟨by decide +kernel, by decide +kernel⟩, List.mem_of_getElem? (i := 21) (by decide +kernel), List.mem_of_getElem? (i := 462) (by decide +kernel), List.mem_of_getElem? (i := 463) (by decide +kernel)⟩
theorem lw_p1 : lw_okq (⟨"TreeMerge$Text", "cutName", "()V"⟩, 5) := ⟨⟨by decide +kernel, by decide +kernel⟩, List.mem_of_getElem? (i := 29) (by decide +kernel), List.mem_of_getElem? (i := 485) (by decide +kernel), List.mem_of_getElem? (i := 486) (by decide +kernel)⟩
theorem lw_p2 : lw_okq (⟨"TreeMerge$Text", "spells", "(Ljava/lang/String;)Z"⟩, 5) := ⟨⟨by decide +kernel, by decide +kernel⟩, List.mem_of_getElem? (i := 29) (by decide +kernel), List.mem_of_getElem? (i := 490) (by decide +kernel), List.mem_of_getElem? (i := 491) (by decide +kernel)⟩
theorem lw_p3 : lw_okq (⟨"TreeMerge$Text", "cutWord", "()V"⟩, 5) := ⟨⟨by decide +kernel, by decide +kernel⟩, List.mem_of_getElem? (i := 29) (by decide +kernel), List.mem_of_getElem? (i := 543) (by decide +kernel), List.mem_of_getElem? (i := 544) (by decide +kernel)⟩
theorem lw_p4 : lw_okq (⟨"TreeMerge$Grammar", "kindOf", "([III)I"⟩, 13) := ⟨⟨by decide +kernel, by decide +kernel⟩, List.mem_of_getElem? (i := 61) (by decide +kernel), List.mem_of_getElem? (i := 558) (by decide +kernel), List.mem_of_getElem? (i := 559) (by decide +kernel)⟩
theorem lw_p5 : lw_okq (⟨"TreeMerge$Grammar", "isNamed", "(I[III)Z"⟩, 13) := ⟨⟨by decide +kernel, by decide +kernel⟩, List.mem_of_getElem? (i := 61) (by decide +kernel), List.mem_of_getElem? (i := 562) (by decide +kernel), List.mem_of_getElem? (i := 563) (by decide +kernel)⟩
theorem lw_p6 : lw_okq (⟨"TreeMerge$Tree", "takeFrom", "(LTreeMerge$Tree;II)I"⟩, 8) := ⟨⟨by decide +kernel, by decide +kernel⟩, List.mem_of_getElem? (i := 111) (by decide +kernel), List.mem_of_getElem? (i := 582) (by decide +kernel), List.mem_of_getElem? (i := 583) (by decide +kernel)⟩
theorem lw_p7 : lw_okq (⟨"TreeMerge$Tree", "nextWaiting", "(IZ)I"⟩, 8) := ⟨⟨by decide +kernel, by decide +kernel⟩, List.mem_of_getElem? (i := 111) (by decide +kernel), List.mem_of_getElem? (i := 594) (by decide +kernel), List.mem_of_getElem? (i := 595) (by decide +kernel)⟩
theorem lw_p8 : lw_okq (⟨"TreeMerge$Grammar", "readRule", "(LTreeMerge$Text;)I"⟩, 13) := ⟨⟨by decide +kernel, by decide +kernel⟩, List.mem_of_getElem? (i := 61) (by decide +kernel), List.mem_of_getElem? (i := 610) (by decide +kernel), List.mem_of_getElem? (i := 611) (by decide +kernel)⟩
theorem lw_p9 : lw_okq (⟨"TreeMerge$Grammar", "readItems", "(LTreeMerge$Text;Z)V"⟩, 13) := ⟨⟨by decide +kernel, by decide +kernel⟩, List.mem_of_getElem? (i := 61) (by decide +kernel), List.mem_of_getElem? (i := 615) (by decide +kernel), List.mem_of_getElem? (i := 616) (by decide +kernel)⟩
theorem lw_p10 : lw_okq (⟨"TreeMerge$Grammar", "resolveItems", "()I"⟩, 13) := ⟨⟨by decide +kernel, by decide +kernel⟩, List.mem_of_getElem? (i := 61) (by decide +kernel), List.mem_of_getElem? (i := 619) (by decide +kernel), List.mem_of_getElem? (i := 620) (by decide +kernel)⟩
theorem lw_p11 : lw_okq (⟨"TreeMerge$Grammar", "namesAll", "(ILTreeMerge$Kids;)Z"⟩, 13) := ⟨⟨by decide +kernel, by decide +kernel⟩, List.mem_of_getElem? (i := 61) (by decide +kernel), List.mem_of_getElem? (i := 648) (by decide +kernel), List.mem_of_getElem? (i := 649) (by decide +kernel)⟩
theorem lw_p12 : lw_okq (⟨"TreeMerge$Grammar", "saysItems", "(ILTreeMerge$Kids;)Z"⟩, 13) := ⟨⟨by decide +kernel, by decide +kernel⟩, List.mem_of_getElem? (i := 61) (by decide +kernel), List.mem_of_getElem? (i := 652) (by decide +kernel), List.mem_of_getElem? (i := 653) (by decide +kernel)⟩
theorem lw_p13 : lw_okq (⟨"TreeMerge$Grammar", "passOver", "(II)V"⟩, 13) := ⟨⟨by decide +kernel, by decide +kernel⟩, List.mem_of_getElem? (i := 61) (by decide +kernel), List.mem_of_getElem? (i := 656) (by decide +kernel), List.mem_of_getElem? (i := 657) (by decide +kernel)⟩
theorem lw_p14 : lw_okq (⟨"TreeMerge$Grammar", "step", "(III)V"⟩, 13) := ⟨⟨by decide +kernel, by decide +kernel⟩, List.mem_of_getElem? (i := 61) (by decide +kernel), List.mem_of_getElem? (i := 660) (by decide +kernel), List.mem_of_getElem? (i := 661) (by decide +kernel)⟩
theorem lw_p15 : lw_okq (⟨"TreeMerge", "readsAndFits", "()Z"⟩, 19) := ⟨⟨by decide +kernel, by decide +kernel⟩, List.mem_of_getElem? (i := 21) (by decide +kernel), List.mem_of_getElem? (i := 676) (by decide +kernel), List.mem_of_getElem? (i := 677) (by decide +kernel)⟩
def lw_privs_1 : List (MethodName × Nat) := [(⟨"TreeMerge", "readTree", "()I"⟩, 19), (⟨"TreeMerge$Text", "cutName", "()V"⟩, 5), (⟨"TreeMerge$Text", "spells", "(Ljava/lang/String;)Z"⟩, 5), (⟨"TreeMerge$Text", "cutWord", "()V"⟩, 5), (⟨"TreeMerge$Grammar", "kindOf", "([III)I"⟩, 13), (⟨"TreeMerge$Grammar", "isNamed", "(I[III)Z"⟩, 13), (⟨"TreeMerge$Tree", "takeFrom", "(LTreeMerge$Tree;II)I"⟩, 8), (⟨"TreeMerge$Tree", "nextWaiting", "(IZ)I"⟩, 8), (⟨"TreeMerge$Grammar", "readRule", "(LTreeMerge$Text;)I"⟩, 13), (⟨"TreeMerge$Grammar", "readItems", "(LTreeMerge$Text;Z)V"⟩, 13), (⟨"TreeMerge$Grammar", "resolveItems", "()I"⟩, 13), (⟨"TreeMerge$Grammar", "namesAll", "(ILTreeMerge$Kids;)Z"⟩, 13), (⟨"TreeMerge$Grammar", "saysItems", "(ILTreeMerge$Kids;)Z"⟩, 13), (⟨"TreeMerge$Grammar", "passOver", "(II)V"⟩, 13), (⟨"TreeMerge$Grammar", "step", "(III)V"⟩, 13), (⟨"TreeMerge", "readsAndFits", "()Z"⟩, 19)]
theorem lw_r1 : ∀ q ∈ lw_privs_1, lw_okq q := List.forall_mem_cons.mpr ⟨lw_p0, List.forall_mem_cons.mpr ⟨lw_p1, List.forall_mem_cons.mpr ⟨lw_p2, List.forall_mem_cons.mpr ⟨lw_p3, List.forall_mem_cons.mpr ⟨lw_p4, List.forall_mem_cons.mpr ⟨lw_p5, List.forall_mem_cons.mpr ⟨lw_p6, List.forall_mem_cons.mpr ⟨lw_p7, List.forall_mem_cons.mpr ⟨lw_p8, List.forall_mem_cons.mpr ⟨lw_p9, List.forall_mem_cons.mpr ⟨lw_p10, List.forall_mem_cons.mpr ⟨lw_p11, List.forall_mem_cons.mpr ⟨lw_p12, List.forall_mem_cons.mpr ⟨lw_p13, List.forall_mem_cons.mpr ⟨lw_p14, List.forall_mem_cons.mpr ⟨lw_p15, fun _ h => absurd h List.not_mem_nil⟩⟩⟩⟩⟩⟩⟩⟩⟩⟩⟩⟩⟩⟩⟩⟩
theorem lw_p16 : lw_okq (⟨"TreeMerge", "comeOfText", "(I)I"⟩, 19) := ⟨⟨by decide +kernel, by decide +kernel⟩, List.mem_of_getElem? (i := 21) (by decide +kernel), List.mem_of_getElem? (i := 684) (by decide +kernel), List.mem_of_getElem? (i := 685) (by decide +kernel)⟩
theorem lw_p17 : lw_okq (⟨"TreeMerge", "newNumber", "(I)I"⟩, 19) := ⟨⟨by decide +kernel, by decide +kernel⟩, List.mem_of_getElem? (i := 21) (by decide +kernel), List.mem_of_getElem? (i := 700) (by decide +kernel), List.mem_of_getElem? (i := 701) (by decide +kernel)⟩
theorem lw_p18 : lw_okq (⟨"TreeMerge$Editions", "writerIn", "(IIJ)I"⟩, 5) := ⟨⟨by decide +kernel, by decide +kernel⟩, List.mem_of_getElem? (i := 222) (by decide +kernel), List.mem_of_getElem? (i := 711) (by decide +kernel), List.mem_of_getElem? (i := 712) (by decide +kernel)⟩
theorem lw_p19 : lw_okq (⟨"TreeMerge$Editions", "fromsOf", "(I)I"⟩, 5) := ⟨⟨by decide +kernel, by decide +kernel⟩, List.mem_of_getElem? (i := 222) (by decide +kernel), List.mem_of_getElem? (i := 727) (by decide +kernel), List.mem_of_getElem? (i := 728) (by decide +kernel)⟩
theorem lw_p20 : lw_okq (⟨"TreeMerge", "matchText", "(I)Z"⟩, 19) := ⟨⟨by decide +kernel, by decide +kernel⟩, List.mem_of_getElem? (i := 21) (by decide +kernel), List.mem_of_getElem? (i := 735) (by decide +kernel), List.mem_of_getElem? (i := 736) (by decide +kernel)⟩
theorem lw_p21 : lw_okq (⟨"TreeMerge$Matcher", "link", "(II)V"⟩, 7) := ⟨⟨by decide +kernel, by decide +kernel⟩, List.mem_of_getElem? (i := 190) (by decide +kernel), List.mem_of_getElem? (i := 745) (by decide +kernel), List.mem_of_getElem? (i := 746) (by decide +kernel)⟩
theorem lw_p22 : lw_okq (⟨"TreeMerge$Matcher", "pairCost", "(II)I"⟩, 7) := ⟨⟨by decide +kernel, by decide +kernel⟩, List.mem_of_getElem? (i := 190) (by decide +kernel), List.mem_of_getElem? (i := 749) (by decide +kernel), List.mem_of_getElem? (i := 750) (by decide +kernel)⟩
theorem lw_p23 : lw_okq (⟨"TreeMerge$Matcher", "haveParentsPaired", "(II)Z"⟩, 7) := ⟨⟨by decide +kernel, by decide +kernel⟩, List.mem_of_getElem? (i := 190) (by decide +kernel), List.mem_of_getElem? (i := 753) (by decide +kernel), List.mem_of_getElem? (i := 754) (by decide +kernel)⟩
theorem lw_p24 : lw_okq (⟨"TreeMerge$Matcher", "search", "(III)V"⟩, 7) := ⟨⟨by decide +kernel, by decide +kernel⟩, List.mem_of_getElem? (i := 190) (by decide +kernel), List.mem_of_getElem? (i := 757) (by decide +kernel), List.mem_of_getElem? (i := 758) (by decide +kernel)⟩
theorem lw_p25 : lw_okq (⟨"TreeMerge$Matcher", "takeBest", "()V"⟩, 7) := ⟨⟨by decide +kernel, by decide +kernel⟩, List.mem_of_getElem? (i := 190) (by decide +kernel), List.mem_of_getElem? (i := 765) (by decide +kernel), List.mem_of_getElem? (i := 766) (by decide +kernel)⟩
theorem lw_p26 : lw_okq (⟨"TreeMerge$Matcher", "goRound", "(I)V"⟩, 7) := ⟨⟨by decide +kernel, by decide +kernel⟩, List.mem_of_getElem? (i := 190) (by decide +kernel), List.mem_of_getElem? (i := 769) (by decide +kernel), List.mem_of_getElem? (i := 770) (by decide +kernel)⟩
theorem lw_p27 : lw_okq (⟨"TreeMerge$Matcher", "agree", "(III)Z"⟩, 7) := ⟨⟨by decide +kernel, by decide +kernel⟩, List.mem_of_getElem? (i := 190) (by decide +kernel), List.mem_of_getElem? (i := 773) (by decide +kernel), List.mem_of_getElem? (i := 774) (by decide +kernel)⟩
theorem lw_p28 : lw_okq (⟨"TreeMerge$Matcher", "areAllFree", "(III)Z"⟩, 7) := ⟨⟨by decide +kernel, by decide +kernel⟩, List.mem_of_getElem? (i := 190) (by decide +kernel), List.mem_of_getElem? (i := 786) (by decide +kernel), List.mem_of_getElem? (i := 787) (by decide +kernel)⟩
theorem lw_p29 : lw_okq (⟨"TreeMerge$Matcher", "linkAll", "(III)V"⟩, 7) := ⟨⟨by decide +kernel, by decide +kernel⟩, List.mem_of_getElem? (i := 190) (by decide +kernel), List.mem_of_getElem? (i := 790) (by decide +kernel), List.mem_of_getElem? (i := 791) (by decide +kernel)⟩
theorem lw_p30 : lw_okq (⟨"TreeMerge$Matcher", "wholeCost", "()I"⟩, 7) := ⟨⟨by decide +kernel, by decide +kernel⟩, List.mem_of_getElem? (i := 190) (by decide +kernel), List.mem_of_getElem? (i := 794) (by decide +kernel), List.mem_of_getElem? (i := 795) (by decide +kernel)⟩
theorem lw_p31 : lw_okq (⟨"TreeMerge", "endDraft", "(I)V"⟩, 19) := ⟨⟨by decide +kernel, by decide +kernel⟩, List.mem_of_getElem? (i := 21) (by decide +kernel), List.mem_of_getElem? (i := 816) (by decide +kernel), List.mem_of_getElem? (i := 817) (by decide +kernel)⟩
def lw_privs_2 : List (MethodName × Nat) := [(⟨"TreeMerge", "comeOfText", "(I)I"⟩, 19), (⟨"TreeMerge", "newNumber", "(I)I"⟩, 19), (⟨"TreeMerge$Editions", "writerIn", "(IIJ)I"⟩, 5), (⟨"TreeMerge$Editions", "fromsOf", "(I)I"⟩, 5), (⟨"TreeMerge", "matchText", "(I)Z"⟩, 19), (⟨"TreeMerge$Matcher", "link", "(II)V"⟩, 7), (⟨"TreeMerge$Matcher", "pairCost", "(II)I"⟩, 7), (⟨"TreeMerge$Matcher", "haveParentsPaired", "(II)Z"⟩, 7), (⟨"TreeMerge$Matcher", "search", "(III)V"⟩, 7), (⟨"TreeMerge$Matcher", "takeBest", "()V"⟩, 7), (⟨"TreeMerge$Matcher", "goRound", "(I)V"⟩, 7), (⟨"TreeMerge$Matcher", "agree", "(III)Z"⟩, 7), (⟨"TreeMerge$Matcher", "areAllFree", "(III)Z"⟩, 7), (⟨"TreeMerge$Matcher", "linkAll", "(III)V"⟩, 7), (⟨"TreeMerge$Matcher", "wholeCost", "()I"⟩, 7), (⟨"TreeMerge", "endDraft", "(I)V"⟩, 19)]
theorem lw_r2 : ∀ q ∈ lw_privs_2, lw_okq q := List.forall_mem_cons.mpr ⟨lw_p16, List.forall_mem_cons.mpr ⟨lw_p17, List.forall_mem_cons.mpr ⟨lw_p18, List.forall_mem_cons.mpr ⟨lw_p19, List.forall_mem_cons.mpr ⟨lw_p20, List.forall_mem_cons.mpr ⟨lw_p21, List.forall_mem_cons.mpr ⟨lw_p22, List.forall_mem_cons.mpr ⟨lw_p23, List.forall_mem_cons.mpr ⟨lw_p24, List.forall_mem_cons.mpr ⟨lw_p25, List.forall_mem_cons.mpr ⟨lw_p26, List.forall_mem_cons.mpr ⟨lw_p27, List.forall_mem_cons.mpr ⟨lw_p28, List.forall_mem_cons.mpr ⟨lw_p29, List.forall_mem_cons.mpr ⟨lw_p30, List.forall_mem_cons.mpr ⟨lw_p31, fun _ h => absurd h List.not_mem_nil⟩⟩⟩⟩⟩⟩⟩⟩⟩⟩⟩⟩⟩⟩⟩⟩
theorem lw_p32 : lw_okq (⟨"TreeMerge$Tree", "moveEntry", "(II)V"⟩, 8) := ⟨⟨by decide +kernel, by decide +kernel⟩, List.mem_of_getElem? (i := 111) (by decide +kernel), List.mem_of_getElem? (i := 853) (by decide +kernel), List.mem_of_getElem? (i := 854) (by decide +kernel)⟩
theorem lw_p33 : lw_okq (⟨"TreeMerge", "findBase", "(II)I"⟩, 19) := ⟨⟨by decide +kernel, by decide +kernel⟩, List.mem_of_getElem? (i := 21) (by decide +kernel), List.mem_of_getElem? (i := 896) (by decide +kernel), List.mem_of_getElem? (i := 897) (by decide +kernel)⟩
theorem lw_p34 : lw_okq (⟨"TreeMerge", "runMerging", "(LTreeMerge$Tree;II)Z"⟩, 19) := ⟨⟨by decide +kernel, by decide +kernel⟩, List.mem_of_getElem? (i := 21) (by decide +kernel), List.mem_of_getElem? (i := 912) (by decide +kernel), List.mem_of_getElem? (i := 913) (by decide +kernel)⟩
theorem lw_p35 : lw_okq (⟨"TreeMerge$Side", "placeOf", "(I)I"⟩, 4) := ⟨⟨by decide +kernel, by decide +kernel⟩, List.mem_of_getElem? (i := 292) (by decide +kernel), List.mem_of_getElem? (i := 936) (by decide +kernel), List.mem_of_getElem? (i := 937) (by decide +kernel)⟩
theorem lw_p36 : lw_okq (⟨"TreeMerge$Merging", "decide", "(ILTreeMerge$Settled;)V"⟩, 15) := ⟨⟨by decide +kernel, by decide +kernel⟩, List.mem_of_getElem? (i := 286) (by decide +kernel), List.mem_of_getElem? (i := 944) (by decide +kernel), List.mem_of_getElem? (i := 945) (by decide +kernel)⟩
theorem lw_p37 : lw_okq (⟨"TreeMerge$Merging", "decideShared", "(ILTreeMerge$Settled;)V"⟩, 15) := ⟨⟨by decide +kernel, by decide +kernel⟩, List.mem_of_getElem? (i := 286) (by decide +kernel), List.mem_of_getElem? (i := 949) (by decide +kernel), List.mem_of_getElem? (i := 950) (by decide +kernel)⟩
theorem lw_p38 : lw_okq (⟨"TreeMerge$Merging", "choose", "(IIIJJJ)J"⟩, 15) := ⟨⟨by decide +kernel, by decide +kernel⟩, List.mem_of_getElem? (i := 286) (by decide +kernel), List.mem_of_getElem? (i := 961) (by decide +kernel), List.mem_of_getElem? (i := 962) (by decide +kernel)⟩
theorem lw_p39 : lw_okq (⟨"TreeMerge$Merging", "mark", "(II)V"⟩, 15) := ⟨⟨by decide +kernel, by decide +kernel⟩, List.mem_of_getElem? (i := 286) (by decide +kernel), List.mem_of_getElem? (i := 965) (by decide +kernel), List.mem_of_getElem? (i := 966) (by decide +kernel)⟩
theorem lw_p40 : lw_okq (⟨"TreeMerge$Merging", "stand", "(IIJI)V"⟩, 15) := ⟨⟨by decide +kernel, by decide +kernel⟩, List.mem_of_getElem? (i := 286) (by decide +kernel), List.mem_of_getElem? (i := 974) (by decide +kernel), List.mem_of_getElem? (i := 975) (by decide +kernel)⟩
theorem lw_p41 : lw_okq (⟨"TreeMerge$Merging", "decideLone", "(ILTreeMerge$Side;LTreeMerge$Side;LTreeMerge$Settled;)V"⟩, 15) := ⟨⟨by decide +kernel, by decide +kernel⟩, List.mem_of_getElem? (i := 286) (by decide +kernel), List.mem_of_getElem? (i := 978) (by decide +kernel), List.mem_of_getElem? (i := 979) (by decide +kernel)⟩
theorem lw_p42 : lw_okq (⟨"TreeMerge$Merging", "dropTheLed", "()V"⟩, 15) := ⟨⟨by decide +kernel, by decide +kernel⟩, List.mem_of_getElem? (i := 286) (by decide +kernel), List.mem_of_getElem? (i := 986) (by decide +kernel), List.mem_of_getElem? (i := 987) (by decide +kernel)⟩
theorem lw_p43 : lw_okq (⟨"TreeMerge$Merging", "isStanding", "(I)Z"⟩, 15) := ⟨⟨by decide +kernel, by decide +kernel⟩, List.mem_of_getElem? (i := 286) (by decide +kernel), List.mem_of_getElem? (i := 990) (by decide +kernel), List.mem_of_getElem? (i := 991) (by decide +kernel)⟩
theorem lw_p44 : lw_okq (⟨"TreeMerge$Merging", "findRings", "()V"⟩, 15) := ⟨⟨by decide +kernel, by decide +kernel⟩, List.mem_of_getElem? (i := 286) (by decide +kernel), List.mem_of_getElem? (i := 994) (by decide +kernel), List.mem_of_getElem? (i := 995) (by decide +kernel)⟩
theorem lw_p45 : lw_okq (⟨"TreeMerge$Merging", "isLeastOfRing", "(I)Z"⟩, 15) := ⟨⟨by decide +kernel, by decide +kernel⟩, List.mem_of_getElem? (i := 286) (by decide +kernel), List.mem_of_getElem? (i := 998) (by decide +kernel), List.mem_of_getElem? (i := 999) (by decide +kernel)⟩
theorem lw_p46 : lw_okq (⟨"TreeMerge$Merging", "findCrowd", "()V"⟩, 15) := ⟨⟨by decide +kernel, by decide +kernel⟩, List.mem_of_getElem? (i := 286) (by decide +kernel), List.mem_of_getElem? (i := 1002) (by decide +kernel), List.mem_of_getElem? (i := 1003) (by decide +kernel)⟩
theorem lw_p47 : lw_okq (⟨"TreeMerge$Merging", "listOutermost", "()V"⟩, 15) := ⟨⟨by decide +kernel, by decide +kernel⟩, List.mem_of_getElem? (i := 286) (by decide +kernel), List.mem_of_getElem? (i := 1010) (by decide +kernel), List.mem_of_getElem? (i := 1011) (by decide +kernel)⟩
def lw_privs_3 : List (MethodName × Nat) := [(⟨"TreeMerge$Tree", "moveEntry", "(II)V"⟩, 8), (⟨"TreeMerge", "findBase", "(II)I"⟩, 19), (⟨"TreeMerge", "runMerging", "(LTreeMerge$Tree;II)Z"⟩, 19), (⟨"TreeMerge$Side", "placeOf", "(I)I"⟩, 4), (⟨"TreeMerge$Merging", "decide", "(ILTreeMerge$Settled;)V"⟩, 15), (⟨"TreeMerge$Merging", "decideShared", "(ILTreeMerge$Settled;)V"⟩, 15), (⟨"TreeMerge$Merging", "choose", "(IIIJJJ)J"⟩, 15), (⟨"TreeMerge$Merging", "mark", "(II)V"⟩, 15), (⟨"TreeMerge$Merging", "stand", "(IIJI)V"⟩, 15), (⟨"TreeMerge$Merging", "decideLone", "(ILTreeMerge$Side;LTreeMerge$Side;LTreeMerge$Settled;)V"⟩, 15), (⟨"TreeMerge$Merging", "dropTheLed", "()V"⟩, 15), (⟨"TreeMerge$Merging", "isStanding", "(I)Z"⟩, 15), (⟨"TreeMerge$Merging", "findRings", "()V"⟩, 15), (⟨"TreeMerge$Merging", "isLeastOfRing", "(I)Z"⟩, 15), (⟨"TreeMerge$Merging", "findCrowd", "()V"⟩, 15), (⟨"TreeMerge$Merging", "listOutermost", "()V"⟩, 15)]
theorem lw_r3 : ∀ q ∈ lw_privs_3, lw_okq q := List.forall_mem_cons.mpr ⟨lw_p32, List.forall_mem_cons.mpr ⟨lw_p33, List.forall_mem_cons.mpr ⟨lw_p34, List.forall_mem_cons.mpr ⟨lw_p35, List.forall_mem_cons.mpr ⟨lw_p36, List.forall_mem_cons.mpr ⟨lw_p37, List.forall_mem_cons.mpr ⟨lw_p38, List.forall_mem_cons.mpr ⟨lw_p39, List.forall_mem_cons.mpr ⟨lw_p40, List.forall_mem_cons.mpr ⟨lw_p41, List.forall_mem_cons.mpr ⟨lw_p42, List.forall_mem_cons.mpr ⟨lw_p43, List.forall_mem_cons.mpr ⟨lw_p44, List.forall_mem_cons.mpr ⟨lw_p45, List.forall_mem_cons.mpr ⟨lw_p46, List.forall_mem_cons.mpr ⟨lw_p47, fun _ h => absurd h List.not_mem_nil⟩⟩⟩⟩⟩⟩⟩⟩⟩⟩⟩⟩⟩⟩⟩⟩
theorem lw_p48 : lw_okq (⟨"TreeMerge$Merging", "orderChildren", "(ILTreeMerge$Grammar;LTreeMerge$Kids;)V"⟩, 15) := ⟨⟨by decide +kernel, by decide +kernel⟩, List.mem_of_getElem? (i := 286) (by decide +kernel), List.mem_of_getElem? (i := 1016) (by decide +kernel), List.mem_of_getElem? (i := 1017) (by decide +kernel)⟩
theorem lw_p49 : lw_okq (⟨"TreeMerge$Merging", "countWaits", "(IZ)Z"⟩, 15) := ⟨⟨by decide +kernel, by decide +kernel⟩, List.mem_of_getElem? (i := 286) (by decide +kernel), List.mem_of_getElem? (i := 1022) (by decide +kernel), List.mem_of_getElem? (i := 1023) (by decide +kernel)⟩
theorem lw_p50 : lw_okq (⟨"TreeMerge$Merging", "ordering", "(III)I"⟩, 15) := ⟨⟨by decide +kernel, by decide +kernel⟩, List.mem_of_getElem? (i := 286) (by decide +kernel), List.mem_of_getElem? (i := 1026) (by decide +kernel), List.mem_of_getElem? (i := 1027) (by decide +kernel)⟩
theorem lw_p51 : lw_okq (⟨"TreeMerge$Merging", "listInOrder", "(ILTreeMerge$Kids;)Z"⟩, 15) := ⟨⟨by decide +kernel, by decide +kernel⟩, List.mem_of_getElem? (i := 286) (by decide +kernel), List.mem_of_getElem? (i := 1034) (by decide +kernel), List.mem_of_getElem? (i := 1035) (by decide +kernel)⟩
theorem lw_p52 : lw_okq (⟨"TreeMerge$Merging", "nextFree", "()I"⟩, 15) := ⟨⟨by decide +kernel, by decide +kernel⟩, List.mem_of_getElem? (i := 286) (by decide +kernel), List.mem_of_getElem? (i := 1038) (by decide +kernel), List.mem_of_getElem? (i := 1039) (by decide +kernel)⟩
theorem lw_p53 : lw_okq (⟨"TreeMerge", "mergeOn", "(LTreeMerge$Tree;IIII)I"⟩, 19) := ⟨⟨by decide +kernel, by decide +kernel⟩, List.mem_of_getElem? (i := 21) (by decide +kernel), List.mem_of_getElem? (i := 1055) (by decide +kernel), List.mem_of_getElem? (i := 1056) (by decide +kernel)⟩
theorem lw_p54 : lw_okq (⟨"TreeMerge", "editionOrDraft", "(I)LTreeMerge$Tree;"⟩, 19) := ⟨⟨by decide +kernel, by decide +kernel⟩, List.mem_of_getElem? (i := 21) (by decide +kernel), List.mem_of_getElem? (i := 1103) (by decide +kernel), List.mem_of_getElem? (i := 1104) (by decide +kernel)⟩
theorem lw_p55 : lw_okq (⟨"TreeMerge$Printer", "addSigns", "(II)V"⟩, 3) := ⟨⟨by decide +kernel, by decide +kernel⟩, List.mem_of_getElem? (i := 366) (by decide +kernel), List.mem_of_getElem? (i := 1153) (by decide +kernel), List.mem_of_getElem? (i := 1154) (by decide +kernel)⟩
theorem lw_p56 : lw_okq (⟨"TreeMerge$Printer", "addSign", "(I)V"⟩, 3) := ⟨⟨by decide +kernel, by decide +kernel⟩, List.mem_of_getElem? (i := 366) (by decide +kernel), List.mem_of_getElem? (i := 1157) (by decide +kernel), List.mem_of_getElem? (i := 1158) (by decide +kernel)⟩
theorem lw_p57 : lw_okq (⟨"TreeMerge$Printer", "addName", "(ILTreeMerge$Grammar;)V"⟩, 3) := ⟨⟨by decide +kernel, by decide +kernel⟩, List.mem_of_getElem? (i := 366) (by decide +kernel), List.mem_of_getElem? (i := 1161) (by decide +kernel), List.mem_of_getElem? (i := 1162) (by decide +kernel)⟩
theorem lw_p58 : lw_okq (⟨"TreeMerge$Printer", "addWord", "(J)V"⟩, 3) := ⟨⟨by decide +kernel, by decide +kernel⟩, List.mem_of_getElem? (i := 366) (by decide +kernel), List.mem_of_getElem? (i := 1166) (by decide +kernel), List.mem_of_getElem? (i := 1167) (by decide +kernel)⟩
theorem lw_p59 : lw_okq (⟨"TreeMergeModel", "feeds", "(I)V"⟩, 64) := ⟨⟨by decide +kernel, by decide +kernel⟩, List.mem_of_getElem? (i := 1182) (by decide +kernel), List.mem_of_getElem? (i := 1392) (by decide +kernel), List.mem_of_getElem? (i := 1393) (by decide +kernel)⟩
theorem lw_p60 : lw_okq (⟨"TreeMergeModel", "readsTree", "()V"⟩, 64) := ⟨⟨by decide +kernel, by decide +kernel⟩, List.mem_of_getElem? (i := 1182) (by decide +kernel), List.mem_of_getElem? (i := 1407) (by decide +kernel), List.mem_of_getElem? (i := 1408) (by decide +kernel)⟩
theorem lw_p61 : lw_okq (⟨"TreeMergeModel", "skips", "()V"⟩, 64) := ⟨⟨by decide +kernel, by decide +kernel⟩, List.mem_of_getElem? (i := 1182) (by decide +kernel), List.mem_of_getElem? (i := 1411) (by decide +kernel), List.mem_of_getElem? (i := 1412) (by decide +kernel)⟩
theorem lw_p62 : lw_okq (⟨"TreeMergeModel", "readsNode", "(II)Z"⟩, 64) := ⟨⟨by decide +kernel, by decide +kernel⟩, List.mem_of_getElem? (i := 1182) (by decide +kernel), List.mem_of_getElem? (i := 1422) (by decide +kernel), List.mem_of_getElem? (i := 1423) (by decide +kernel)⟩
theorem lw_p63 : lw_okq (⟨"TreeMergeModel", "kindAt", "(I)I"⟩, 64) := ⟨⟨by decide +kernel, by decide +kernel⟩, List.mem_of_getElem? (i := 1182) (by decide +kernel), List.mem_of_getElem? (i := 1426) (by decide +kernel), List.mem_of_getElem? (i := 1427) (by decide +kernel)⟩
def lw_privs_4 : List (MethodName × Nat) := [(⟨"TreeMerge$Merging", "orderChildren", "(ILTreeMerge$Grammar;LTreeMerge$Kids;)V"⟩, 15), (⟨"TreeMerge$Merging", "countWaits", "(IZ)Z"⟩, 15), (⟨"TreeMerge$Merging", "ordering", "(III)I"⟩, 15), (⟨"TreeMerge$Merging", "listInOrder", "(ILTreeMerge$Kids;)Z"⟩, 15), (⟨"TreeMerge$Merging", "nextFree", "()I"⟩, 15), (⟨"TreeMerge", "mergeOn", "(LTreeMerge$Tree;IIII)I"⟩, 19), (⟨"TreeMerge", "editionOrDraft", "(I)LTreeMerge$Tree;"⟩, 19), (⟨"TreeMerge$Printer", "addSigns", "(II)V"⟩, 3), (⟨"TreeMerge$Printer", "addSign", "(I)V"⟩, 3), (⟨"TreeMerge$Printer", "addName", "(ILTreeMerge$Grammar;)V"⟩, 3), (⟨"TreeMerge$Printer", "addWord", "(J)V"⟩, 3), (⟨"TreeMergeModel", "feeds", "(I)V"⟩, 64), (⟨"TreeMergeModel", "readsTree", "()V"⟩, 64), (⟨"TreeMergeModel", "skips", "()V"⟩, 64), (⟨"TreeMergeModel", "readsNode", "(II)Z"⟩, 64), (⟨"TreeMergeModel", "kindAt", "(I)I"⟩, 64)]
theorem lw_r4 : ∀ q ∈ lw_privs_4, lw_okq q := List.forall_mem_cons.mpr ⟨lw_p48, List.forall_mem_cons.mpr ⟨lw_p49, List.forall_mem_cons.mpr ⟨lw_p50, List.forall_mem_cons.mpr ⟨lw_p51, List.forall_mem_cons.mpr ⟨lw_p52, List.forall_mem_cons.mpr ⟨lw_p53, List.forall_mem_cons.mpr ⟨lw_p54, List.forall_mem_cons.mpr ⟨lw_p55, List.forall_mem_cons.mpr ⟨lw_p56, List.forall_mem_cons.mpr ⟨lw_p57, List.forall_mem_cons.mpr ⟨lw_p58, List.forall_mem_cons.mpr ⟨lw_p59, List.forall_mem_cons.mpr ⟨lw_p60, List.forall_mem_cons.mpr ⟨lw_p61, List.forall_mem_cons.mpr ⟨lw_p62, List.forall_mem_cons.mpr ⟨lw_p63, fun _ h => absurd h List.not_mem_nil⟩⟩⟩⟩⟩⟩⟩⟩⟩⟩⟩⟩⟩⟩⟩⟩
theorem lw_p64 : lw_okq (⟨"TreeMergeModel", "fails", "()Z"⟩, 64) := ⟨⟨by decide +kernel, by decide +kernel⟩, List.mem_of_getElem? (i := 1182) (by decide +kernel), List.mem_of_getElem? (i := 1430) (by decide +kernel), List.mem_of_getElem? (i := 1431) (by decide +kernel)⟩
theorem lw_p65 : lw_okq (⟨"TreeMergeModel", "goesOn", "()V"⟩, 64) := ⟨⟨by decide +kernel, by decide +kernel⟩, List.mem_of_getElem? (i := 1182) (by decide +kernel), List.mem_of_getElem? (i := 1434) (by decide +kernel), List.mem_of_getElem? (i := 1435) (by decide +kernel)⟩
theorem lw_p66 : lw_okq (⟨"TreeMergeModel", "isCut", "()Z"⟩, 64) := ⟨⟨by decide +kernel, by decide +kernel⟩, List.mem_of_getElem? (i := 1182) (by decide +kernel), List.mem_of_getElem? (i := 1438) (by decide +kernel), List.mem_of_getElem? (i := 1439) (by decide +kernel)⟩
theorem lw_p67 : lw_okq (⟨"TreeMergeModel", "isSign", "(I)Z"⟩, 64) := ⟨⟨by decide +kernel, by decide +kernel⟩, List.mem_of_getElem? (i := 1182) (by decide +kernel), List.mem_of_getElem? (i := 1442) (by decide +kernel), List.mem_of_getElem? (i := 1443) (by decide +kernel)⟩
theorem lw_p68 : lw_okq (⟨"TreeMergeModel", "isWord", "()Z"⟩, 64) := ⟨⟨by decide +kernel, by decide +kernel⟩, List.mem_of_getElem? (i := 1182) (by decide +kernel), List.mem_of_getElem? (i := 1446) (by decide +kernel), List.mem_of_getElem? (i := 1447) (by decide +kernel)⟩
theorem lw_p69 : lw_okq (⟨"TreeMergeModel", "wordHere", "()J"⟩, 64) := ⟨⟨by decide +kernel, by decide +kernel⟩, List.mem_of_getElem? (i := 1182) (by decide +kernel), List.mem_of_getElem? (i := 1450) (by decide +kernel), List.mem_of_getElem? (i := 1451) (by decide +kernel)⟩
theorem lw_p70 : lw_okq (⟨"TreeMergeModel", "passes", "(Z)Z"⟩, 64) := ⟨⟨by decide +kernel, by decide +kernel⟩, List.mem_of_getElem? (i := 1182) (by decide +kernel), List.mem_of_getElem? (i := 1454) (by decide +kernel), List.mem_of_getElem? (i := 1455) (by decide +kernel)⟩
theorem lw_p71 : lw_okq (⟨"TreeMergeModel", "arranges", "()V"⟩, 64) := ⟨⟨by decide +kernel, by decide +kernel⟩, List.mem_of_getElem? (i := 1182) (by decide +kernel), List.mem_of_getElem? (i := 1458) (by decide +kernel), List.mem_of_getElem? (i := 1459) (by decide +kernel)⟩
theorem lw_p72 : lw_okq (⟨"TreeMergeModel", "orders", "(I)V"⟩, 64) := ⟨⟨by decide +kernel, by decide +kernel⟩, List.mem_of_getElem? (i := 1182) (by decide +kernel), List.mem_of_getElem? (i := 1462) (by decide +kernel), List.mem_of_getElem? (i := 1463) (by decide +kernel)⟩
theorem lw_p73 : lw_okq (⟨"TreeMergeModel", "kindOf", "(II)I"⟩, 64) := ⟨⟨by decide +kernel, by decide +kernel⟩, List.mem_of_getElem? (i := 1182) (by decide +kernel), List.mem_of_getElem? (i := 1466) (by decide +kernel), List.mem_of_getElem? (i := 1467) (by decide +kernel)⟩
theorem lw_p74 : lw_okq (⟨"TreeMergeModel", "isAhead", "(III)Z"⟩, 64) := ⟨⟨by decide +kernel, by decide +kernel⟩, List.mem_of_getElem? (i := 1182) (by decide +kernel), List.mem_of_getElem? (i := 1470) (by decide +kernel), List.mem_of_getElem? (i := 1471) (by decide +kernel)⟩
theorem lw_p75 : lw_okq (⟨"TreeMergeModel", "next", "(III)I"⟩, 64) := ⟨⟨by decide +kernel, by decide +kernel⟩, List.mem_of_getElem? (i := 1182) (by decide +kernel), List.mem_of_getElem? (i := 1480) (by decide +kernel), List.mem_of_getElem? (i := 1481) (by decide +kernel)⟩
theorem lw_p76 : lw_okq (⟨"TreeMergeModel", "firstKid", "(II)I"⟩, 64) := ⟨⟨by decide +kernel, by decide +kernel⟩, List.mem_of_getElem? (i := 1182) (by decide +kernel), List.mem_of_getElem? (i := 1484) (by decide +kernel), List.mem_of_getElem? (i := 1485) (by decide +kernel)⟩
theorem lw_p77 : lw_okq (⟨"TreeMergeModel", "kidBehind", "(III)I"⟩, 64) := ⟨⟨by decide +kernel, by decide +kernel⟩, List.mem_of_getElem? (i := 1182) (by decide +kernel), List.mem_of_getElem? (i := 1488) (by decide +kernel), List.mem_of_getElem? (i := 1489) (by decide +kernel)⟩
theorem lw_p78 : lw_okq (⟨"TreeMergeModel", "nextKid", "(II)I"⟩, 64) := ⟨⟨by decide +kernel, by decide +kernel⟩, List.mem_of_getElem? (i := 1182) (by decide +kernel), List.mem_of_getElem? (i := 1492) (by decide +kernel), List.mem_of_getElem? (i := 1493) (by decide +kernel)⟩
theorem lw_p79 : lw_okq (⟨"TreeMergeModel", "readsGrammar", "()V"⟩, 64) := ⟨⟨by decide +kernel, by decide +kernel⟩, List.mem_of_getElem? (i := 1182) (by decide +kernel), List.mem_of_getElem? (i := 1496) (by decide +kernel), List.mem_of_getElem? (i := 1497) (by decide +kernel)⟩
def lw_privs_5 : List (MethodName × Nat) := [(⟨"TreeMergeModel", "fails", "()Z"⟩, 64), (⟨"TreeMergeModel", "goesOn", "()V"⟩, 64), (⟨"TreeMergeModel", "isCut", "()Z"⟩, 64), (⟨"TreeMergeModel", "isSign", "(I)Z"⟩, 64), (⟨"TreeMergeModel", "isWord", "()Z"⟩, 64), (⟨"TreeMergeModel", "wordHere", "()J"⟩, 64), (⟨"TreeMergeModel", "passes", "(Z)Z"⟩, 64), (⟨"TreeMergeModel", "arranges", "()V"⟩, 64), (⟨"TreeMergeModel", "orders", "(I)V"⟩, 64), (⟨"TreeMergeModel", "kindOf", "(II)I"⟩, 64), (⟨"TreeMergeModel", "isAhead", "(III)Z"⟩, 64), (⟨"TreeMergeModel", "next", "(III)I"⟩, 64), (⟨"TreeMergeModel", "firstKid", "(II)I"⟩, 64), (⟨"TreeMergeModel", "kidBehind", "(III)I"⟩, 64), (⟨"TreeMergeModel", "nextKid", "(II)I"⟩, 64), (⟨"TreeMergeModel", "readsGrammar", "()V"⟩, 64)]
theorem lw_r5 : ∀ q ∈ lw_privs_5, lw_okq q := List.forall_mem_cons.mpr ⟨lw_p64, List.forall_mem_cons.mpr ⟨lw_p65, List.forall_mem_cons.mpr ⟨lw_p66, List.forall_mem_cons.mpr ⟨lw_p67, List.forall_mem_cons.mpr ⟨lw_p68, List.forall_mem_cons.mpr ⟨lw_p69, List.forall_mem_cons.mpr ⟨lw_p70, List.forall_mem_cons.mpr ⟨lw_p71, List.forall_mem_cons.mpr ⟨lw_p72, List.forall_mem_cons.mpr ⟨lw_p73, List.forall_mem_cons.mpr ⟨lw_p74, List.forall_mem_cons.mpr ⟨lw_p75, List.forall_mem_cons.mpr ⟨lw_p76, List.forall_mem_cons.mpr ⟨lw_p77, List.forall_mem_cons.mpr ⟨lw_p78, List.forall_mem_cons.mpr ⟨lw_p79, fun _ h => absurd h List.not_mem_nil⟩⟩⟩⟩⟩⟩⟩⟩⟩⟩⟩⟩⟩⟩⟩⟩
theorem lw_p80 : lw_okq (⟨"TreeMergeModel", "ruleRead", "()Z"⟩, 64) := ⟨⟨by decide +kernel, by decide +kernel⟩, List.mem_of_getElem? (i := 1182) (by decide +kernel), List.mem_of_getElem? (i := 1500) (by decide +kernel), List.mem_of_getElem? (i := 1501) (by decide +kernel)⟩
theorem lw_p81 : lw_okq (⟨"TreeMergeModel", "isName", "()Z"⟩, 64) := ⟨⟨by decide +kernel, by decide +kernel⟩, List.mem_of_getElem? (i := 1182) (by decide +kernel), List.mem_of_getElem? (i := 1504) (by decide +kernel), List.mem_of_getElem? (i := 1505) (by decide +kernel)⟩
theorem lw_p82 : lw_okq (⟨"TreeMergeModel", "isReserved", "(Ljava/lang/String;)Z"⟩, 64) := ⟨⟨by decide +kernel, by decide +kernel⟩, List.mem_of_getElem? (i := 1182) (by decide +kernel), List.mem_of_getElem? (i := 1509) (by decide +kernel), List.mem_of_getElem? (i := 1510) (by decide +kernel)⟩
theorem lw_p83 : lw_okq (⟨"TreeMergeModel", "kindNamed", "(II)I"⟩, 64) := ⟨⟨by decide +kernel, by decide +kernel⟩, List.mem_of_getElem? (i := 1182) (by decide +kernel), List.mem_of_getElem? (i := 1516) (by decide +kernel), List.mem_of_getElem? (i := 1517) (by decide +kernel)⟩
theorem lw_p84 : lw_okq (⟨"TreeMergeModel", "isAlike", "(III)Z"⟩, 64) := ⟨⟨by decide +kernel, by decide +kernel⟩, List.mem_of_getElem? (i := 1182) (by decide +kernel), List.mem_of_getElem? (i := 1520) (by decide +kernel), List.mem_of_getElem? (i := 1521) (by decide +kernel)⟩
theorem lw_p85 : lw_okq (⟨"TreeMergeModel", "items", "(I)Z"⟩, 64) := ⟨⟨by decide +kernel, by decide +kernel⟩, List.mem_of_getElem? (i := 1182) (by decide +kernel), List.mem_of_getElem? (i := 1524) (by decide +kernel), List.mem_of_getElem? (i := 1525) (by decide +kernel)⟩
theorem lw_p86 : lw_okq (⟨"TreeMergeModel", "firstBreak", "(I)I"⟩, 64) := ⟨⟨by decide +kernel, by decide +kernel⟩, List.mem_of_getElem? (i := 1182) (by decide +kernel), List.mem_of_getElem? (i := 1536) (by decide +kernel), List.mem_of_getElem? (i := 1537) (by decide +kernel)⟩
theorem lw_p87 : lw_okq (⟨"TreeMergeModel", "root", "(I)I"⟩, 64) := ⟨⟨by decide +kernel, by decide +kernel⟩, List.mem_of_getElem? (i := 1182) (by decide +kernel), List.mem_of_getElem? (i := 1540) (by decide +kernel), List.mem_of_getElem? (i := 1541) (by decide +kernel)⟩
theorem lw_p88 : lw_okq (⟨"TreeMergeModel", "fitsBut", "(II)Z"⟩, 64) := ⟨⟨by decide +kernel, by decide +kernel⟩, List.mem_of_getElem? (i := 1182) (by decide +kernel), List.mem_of_getElem? (i := 1544) (by decide +kernel), List.mem_of_getElem? (i := 1545) (by decide +kernel)⟩
theorem lw_p89 : lw_okq (⟨"TreeMergeModel", "kidsOf", "(II)I"⟩, 64) := ⟨⟨by decide +kernel, by decide +kernel⟩, List.mem_of_getElem? (i := 1182) (by decide +kernel), List.mem_of_getElem? (i := 1548) (by decide +kernel), List.mem_of_getElem? (i := 1549) (by decide +kernel)⟩
theorem lw_p90 : lw_okq (⟨"TreeMergeModel", "fitsSet", "(III)Z"⟩, 64) := ⟨⟨by decide +kernel, by decide +kernel⟩, List.mem_of_getElem? (i := 1182) (by decide +kernel), List.mem_of_getElem? (i := 1552) (by decide +kernel), List.mem_of_getElem? (i := 1553) (by decide +kernel)⟩
theorem lw_p91 : lw_okq (⟨"TreeMergeModel", "fitsList", "(III)Z"⟩, 64) := ⟨⟨by decide +kernel, by decide +kernel⟩, List.mem_of_getElem? (i := 1182) (by decide +kernel), List.mem_of_getElem? (i := 1556) (by decide +kernel), List.mem_of_getElem? (i := 1557) (by decide +kernel)⟩
theorem lw_p92 : lw_okq (⟨"TreeMergeModel", "closes", "([ZI)V"⟩, 64) := ⟨⟨by decide +kernel, by decide +kernel⟩, List.mem_of_getElem? (i := 1182) (by decide +kernel), List.mem_of_getElem? (i := 1560) (by decide +kernel), List.mem_of_getElem? (i := 1561) (by decide +kernel)⟩
theorem lw_p93 : lw_okq (⟨"TreeMergeModel", "hasLike", "(II)Z"⟩, 64) := ⟨⟨by decide +kernel, by decide +kernel⟩, List.mem_of_getElem? (i := 1182) (by decide +kernel), List.mem_of_getElem? (i := 1564) (by decide +kernel), List.mem_of_getElem? (i := 1565) (by decide +kernel)⟩
theorem lw_p94 : lw_okq (⟨"TreeMergeModel", "canCome", "()Z"⟩, 64) := ⟨⟨by decide +kernel, by decide +kernel⟩, List.mem_of_getElem? (i := 1182) (by decide +kernel), List.mem_of_getElem? (i := 1572) (by decide +kernel), List.mem_of_getElem? (i := 1573) (by decide +kernel)⟩
theorem lw_p95 : lw_okq (⟨"TreeMergeModel", "comes", "(I)I"⟩, 64) := ⟨⟨by decide +kernel, by decide +kernel⟩, List.mem_of_getElem? (i := 1182) (by decide +kernel), List.mem_of_getElem? (i := 1576) (by decide +kernel), List.mem_of_getElem? (i := 1577) (by decide +kernel)⟩
def lw_privs_6 : List (MethodName × Nat) := [(⟨"TreeMergeModel", "ruleRead", "()Z"⟩, 64), (⟨"TreeMergeModel", "isName", "()Z"⟩, 64), (⟨"TreeMergeModel", "isReserved", "(Ljava/lang/String;)Z"⟩, 64), (⟨"TreeMergeModel", "kindNamed", "(II)I"⟩, 64), (⟨"TreeMergeModel", "isAlike", "(III)Z"⟩, 64), (⟨"TreeMergeModel", "items", "(I)Z"⟩, 64), (⟨"TreeMergeModel", "firstBreak", "(I)I"⟩, 64), (⟨"TreeMergeModel", "root", "(I)I"⟩, 64), (⟨"TreeMergeModel", "fitsBut", "(II)Z"⟩, 64), (⟨"TreeMergeModel", "kidsOf", "(II)I"⟩, 64), (⟨"TreeMergeModel", "fitsSet", "(III)Z"⟩, 64), (⟨"TreeMergeModel", "fitsList", "(III)Z"⟩, 64), (⟨"TreeMergeModel", "closes", "([ZI)V"⟩, 64), (⟨"TreeMergeModel", "hasLike", "(II)Z"⟩, 64), (⟨"TreeMergeModel", "canCome", "()Z"⟩, 64), (⟨"TreeMergeModel", "comes", "(I)I"⟩, 64)]
theorem lw_r6 : ∀ q ∈ lw_privs_6, lw_okq q := List.forall_mem_cons.mpr ⟨lw_p80, List.forall_mem_cons.mpr ⟨lw_p81, List.forall_mem_cons.mpr ⟨lw_p82, List.forall_mem_cons.mpr ⟨lw_p83, List.forall_mem_cons.mpr ⟨lw_p84, List.forall_mem_cons.mpr ⟨lw_p85, List.forall_mem_cons.mpr ⟨lw_p86, List.forall_mem_cons.mpr ⟨lw_p87, List.forall_mem_cons.mpr ⟨lw_p88, List.forall_mem_cons.mpr ⟨lw_p89, List.forall_mem_cons.mpr ⟨lw_p90, List.forall_mem_cons.mpr ⟨lw_p91, List.forall_mem_cons.mpr ⟨lw_p92, List.forall_mem_cons.mpr ⟨lw_p93, List.forall_mem_cons.mpr ⟨lw_p94, List.forall_mem_cons.mpr ⟨lw_p95, fun _ h => absurd h List.not_mem_nil⟩⟩⟩⟩⟩⟩⟩⟩⟩⟩⟩⟩⟩⟩⟩⟩
theorem lw_p96 : lw_okq (⟨"TreeMergeModel", "newNode", "(II)I"⟩, 64) := ⟨⟨by decide +kernel, by decide +kernel⟩, List.mem_of_getElem? (i := 1182) (by decide +kernel), List.mem_of_getElem? (i := 1580) (by decide +kernel), List.mem_of_getElem? (i := 1581) (by decide +kernel)⟩
theorem lw_p97 : lw_okq (⟨"TreeMergeModel", "edition", "(II)I"⟩, 64) := ⟨⟨by decide +kernel, by decide +kernel⟩, List.mem_of_getElem? (i := 1182) (by decide +kernel), List.mem_of_getElem? (i := 1584) (by decide +kernel), List.mem_of_getElem? (i := 1585) (by decide +kernel)⟩
theorem lw_p98 : lw_okq (⟨"TreeMergeModel", "isEdition", "(I)Z"⟩, 64) := ⟨⟨by decide +kernel, by decide +kernel⟩, List.mem_of_getElem? (i := 1182) (by decide +kernel), List.mem_of_getElem? (i := 1592) (by decide +kernel), List.mem_of_getElem? (i := 1593) (by decide +kernel)⟩
theorem lw_p99 : lw_okq (⟨"TreeMergeModel", "matches", "(I)V"⟩, 64) := ⟨⟨by decide +kernel, by decide +kernel⟩, List.mem_of_getElem? (i := 1182) (by decide +kernel), List.mem_of_getElem? (i := 1596) (by decide +kernel), List.mem_of_getElem? (i := 1597) (by decide +kernel)⟩
theorem lw_p100 : lw_okq (⟨"TreeMergeModel", "lines", "(I)V"⟩, 64) := ⟨⟨by decide +kernel, by decide +kernel⟩, List.mem_of_getElem? (i := 1182) (by decide +kernel), List.mem_of_getElem? (i := 1600) (by decide +kernel), List.mem_of_getElem? (i := 1601) (by decide +kernel)⟩
theorem lw_p101 : lw_okq (⟨"TreeMergeModel", "pairs", "(II)V"⟩, 64) := ⟨⟨by decide +kernel, by decide +kernel⟩, List.mem_of_getElem? (i := 1182) (by decide +kernel), List.mem_of_getElem? (i := 1604) (by decide +kernel), List.mem_of_getElem? (i := 1605) (by decide +kernel)⟩
theorem lw_p102 : lw_okq (⟨"TreeMergeModel", "isExact", "()Z"⟩, 64) := ⟨⟨by decide +kernel, by decide +kernel⟩, List.mem_of_getElem? (i := 1182) (by decide +kernel), List.mem_of_getElem? (i := 1608) (by decide +kernel), List.mem_of_getElem? (i := 1609) (by decide +kernel)⟩
theorem lw_p103 : lw_okq (⟨"TreeMergeModel", "tries", "(II)V"⟩, 64) := ⟨⟨by decide +kernel, by decide +kernel⟩, List.mem_of_getElem? (i := 1182) (by decide +kernel), List.mem_of_getElem? (i := 1612) (by decide +kernel), List.mem_of_getElem? (i := 1613) (by decide +kernel)⟩
theorem lw_p104 : lw_okq (⟨"TreeMergeModel", "costNow", "(I)I"⟩, 64) := ⟨⟨by decide +kernel, by decide +kernel⟩, List.mem_of_getElem? (i := 1182) (by decide +kernel), List.mem_of_getElem? (i := 1616) (by decide +kernel), List.mem_of_getElem? (i := 1617) (by decide +kernel)⟩
theorem lw_p105 : lw_okq (⟨"TreeMergeModel", "parentsPair", "(III)Z"⟩, 64) := ⟨⟨by decide +kernel, by decide +kernel⟩, List.mem_of_getElem? (i := 1182) (by decide +kernel), List.mem_of_getElem? (i := 1620) (by decide +kernel), List.mem_of_getElem? (i := 1621) (by decide +kernel)⟩
theorem lw_p106 : lw_okq (⟨"TreeMergeModel", "arePair", "(II)Z"⟩, 64) := ⟨⟨by decide +kernel, by decide +kernel⟩, List.mem_of_getElem? (i := 1182) (by decide +kernel), List.mem_of_getElem? (i := 1624) (by decide +kernel), List.mem_of_getElem? (i := 1625) (by decide +kernel)⟩
theorem lw_p107 : lw_okq (⟨"TreeMergeModel", "rounds", "(I)V"⟩, 64) := ⟨⟨by decide +kernel, by decide +kernel⟩, List.mem_of_getElem? (i := 1182) (by decide +kernel), List.mem_of_getElem? (i := 1628) (by decide +kernel), List.mem_of_getElem? (i := 1629) (by decide +kernel)⟩
theorem lw_p108 : lw_okq (⟨"TreeMergeModel", "suits", "(IIII)Z"⟩, 64) := ⟨⟨by decide +kernel, by decide +kernel⟩, List.mem_of_getElem? (i := 1182) (by decide +kernel), List.mem_of_getElem? (i := 1632) (by decide +kernel), List.mem_of_getElem? (i := 1633) (by decide +kernel)⟩
theorem lw_p109 : lw_okq (⟨"TreeMergeModel", "isSameFree", "(III)Z"⟩, 64) := ⟨⟨by decide +kernel, by decide +kernel⟩, List.mem_of_getElem? (i := 1182) (by decide +kernel), List.mem_of_getElem? (i := 1636) (by decide +kernel), List.mem_of_getElem? (i := 1637) (by decide +kernel)⟩
theorem lw_p110 : lw_okq (⟨"TreeMergeModel", "pairsAll", "(III)V"⟩, 64) := ⟨⟨by decide +kernel, by decide +kernel⟩, List.mem_of_getElem? (i := 1182) (by decide +kernel), List.mem_of_getElem? (i := 1640) (by decide +kernel), List.mem_of_getElem? (i := 1641) (by decide +kernel)⟩
theorem lw_p111 : lw_okq (⟨"TreeMergeModel", "bound", "()I"⟩, 64) := ⟨⟨by decide +kernel, by decide +kernel⟩, List.mem_of_getElem? (i := 1182) (by decide +kernel), List.mem_of_getElem? (i := 1644) (by decide +kernel), List.mem_of_getElem? (i := 1645) (by decide +kernel)⟩
def lw_privs_7 : List (MethodName × Nat) := [(⟨"TreeMergeModel", "newNode", "(II)I"⟩, 64), (⟨"TreeMergeModel", "edition", "(II)I"⟩, 64), (⟨"TreeMergeModel", "isEdition", "(I)Z"⟩, 64), (⟨"TreeMergeModel", "matches", "(I)V"⟩, 64), (⟨"TreeMergeModel", "lines", "(I)V"⟩, 64), (⟨"TreeMergeModel", "pairs", "(II)V"⟩, 64), (⟨"TreeMergeModel", "isExact", "()Z"⟩, 64), (⟨"TreeMergeModel", "tries", "(II)V"⟩, 64), (⟨"TreeMergeModel", "costNow", "(I)I"⟩, 64), (⟨"TreeMergeModel", "parentsPair", "(III)Z"⟩, 64), (⟨"TreeMergeModel", "arePair", "(II)Z"⟩, 64), (⟨"TreeMergeModel", "rounds", "(I)V"⟩, 64), (⟨"TreeMergeModel", "suits", "(IIII)Z"⟩, 64), (⟨"TreeMergeModel", "isSameFree", "(III)Z"⟩, 64), (⟨"TreeMergeModel", "pairsAll", "(III)V"⟩, 64), (⟨"TreeMergeModel", "bound", "()I"⟩, 64)]
theorem lw_r7 : ∀ q ∈ lw_privs_7, lw_okq q := List.forall_mem_cons.mpr ⟨lw_p96, List.forall_mem_cons.mpr ⟨lw_p97, List.forall_mem_cons.mpr ⟨lw_p98, List.forall_mem_cons.mpr ⟨lw_p99, List.forall_mem_cons.mpr ⟨lw_p100, List.forall_mem_cons.mpr ⟨lw_p101, List.forall_mem_cons.mpr ⟨lw_p102, List.forall_mem_cons.mpr ⟨lw_p103, List.forall_mem_cons.mpr ⟨lw_p104, List.forall_mem_cons.mpr ⟨lw_p105, List.forall_mem_cons.mpr ⟨lw_p106, List.forall_mem_cons.mpr ⟨lw_p107, List.forall_mem_cons.mpr ⟨lw_p108, List.forall_mem_cons.mpr ⟨lw_p109, List.forall_mem_cons.mpr ⟨lw_p110, List.forall_mem_cons.mpr ⟨lw_p111, fun _ h => absurd h List.not_mem_nil⟩⟩⟩⟩⟩⟩⟩⟩⟩⟩⟩⟩⟩⟩⟩⟩
theorem lw_p112 : lw_okq (⟨"TreeMergeModel", "copies", "(II)V"⟩, 64) := ⟨⟨by decide +kernel, by decide +kernel⟩, List.mem_of_getElem? (i := 1182) (by decide +kernel), List.mem_of_getElem? (i := 1657) (by decide +kernel), List.mem_of_getElem? (i := 1658) (by decide +kernel)⟩
theorem lw_p113 : lw_okq (⟨"TreeMergeModel", "noPending", "(I)V"⟩, 64) := ⟨⟨by decide +kernel, by decide +kernel⟩, List.mem_of_getElem? (i := 1182) (by decide +kernel), List.mem_of_getElem? (i := 1665) (by decide +kernel), List.mem_of_getElem? (i := 1666) (by decide +kernel)⟩
theorem lw_p114 : lw_okq (⟨"TreeMergeModel", "inDraft", "(I)Z"⟩, 64) := ⟨⟨by decide +kernel, by decide +kernel⟩, List.mem_of_getElem? (i := 1182) (by decide +kernel), List.mem_of_getElem? (i := 1673) (by decide +kernel), List.mem_of_getElem? (i := 1674) (by decide +kernel)⟩
theorem lw_p115 : lw_okq (⟨"TreeMergeModel", "size", "(I)I"⟩, 64) := ⟨⟨by decide +kernel, by decide +kernel⟩, List.mem_of_getElem? (i := 1182) (by decide +kernel), List.mem_of_getElem? (i := 1681) (by decide +kernel), List.mem_of_getElem? (i := 1682) (by decide +kernel)⟩
theorem lw_p116 : lw_okq (⟨"TreeMergeModel", "lays", "(III)V"⟩, 64) := ⟨⟨by decide +kernel, by decide +kernel⟩, List.mem_of_getElem? (i := 1182) (by decide +kernel), List.mem_of_getElem? (i := 1688) (by decide +kernel), List.mem_of_getElem? (i := 1689) (by decide +kernel)⟩
theorem lw_p117 : lw_okq (⟨"TreeMergeModel", "shrinks", "(I)V"⟩, 64) := ⟨⟨by decide +kernel, by decide +kernel⟩, List.mem_of_getElem? (i := 1182) (by decide +kernel), List.mem_of_getElem? (i := 1692) (by decide +kernel), List.mem_of_getElem? (i := 1693) (by decide +kernel)⟩
theorem lw_p118 : lw_okq (⟨"TreeMergeModel", "isUnder", "(III)Z"⟩, 64) := ⟨⟨by decide +kernel, by decide +kernel⟩, List.mem_of_getElem? (i := 1182) (by decide +kernel), List.mem_of_getElem? (i := 1704) (by decide +kernel), List.mem_of_getElem? (i := 1705) (by decide +kernel)⟩
theorem lw_p119 : lw_okq (⟨"TreeMergeModel", "isFrom", "(II)Z"⟩, 64) := ⟨⟨by decide +kernel, by decide +kernel⟩, List.mem_of_getElem? (i := 1182) (by decide +kernel), List.mem_of_getElem? (i := 1730) (by decide +kernel), List.mem_of_getElem? (i := 1731) (by decide +kernel)⟩
theorem lw_p120 : lw_okq (⟨"TreeMergeModel", "baseRow", "(II)I"⟩, 64) := ⟨⟨by decide +kernel, by decide +kernel⟩, List.mem_of_getElem? (i := 1182) (by decide +kernel), List.mem_of_getElem? (i := 1738) (by decide +kernel), List.mem_of_getElem? (i := 1739) (by decide +kernel)⟩
theorem lw_p121 : lw_okq (⟨"TreeMergeModel", "nthBase", "(III)I"⟩, 64) := ⟨⟨by decide +kernel, by decide +kernel⟩, List.mem_of_getElem? (i := 1182) (by decide +kernel), List.mem_of_getElem? (i := 1742) (by decide +kernel), List.mem_of_getElem? (i := 1743) (by decide +kernel)⟩
theorem lw_p122 : lw_okq (⟨"TreeMergeModel", "isBaseOf", "(III)Z"⟩, 64) := ⟨⟨by decide +kernel, by decide +kernel⟩, List.mem_of_getElem? (i := 1182) (by decide +kernel), List.mem_of_getElem? (i := 1746) (by decide +kernel), List.mem_of_getElem? (i := 1747) (by decide +kernel)⟩
theorem lw_p123 : lw_okq (⟨"TreeMergeModel", "merges", "(III)Z"⟩, 64) := ⟨⟨by decide +kernel, by decide +kernel⟩, List.mem_of_getElem? (i := 1182) (by decide +kernel), List.mem_of_getElem? (i := 1750) (by decide +kernel), List.mem_of_getElem? (i := 1751) (by decide +kernel)⟩
theorem lw_p124 : lw_okq (⟨"TreeMergeModel", "firstQuarrels", "(III)V"⟩, 64) := ⟨⟨by decide +kernel, by decide +kernel⟩, List.mem_of_getElem? (i := 1182) (by decide +kernel), List.mem_of_getElem? (i := 1754) (by decide +kernel), List.mem_of_getElem? (i := 1755) (by decide +kernel)⟩
theorem lw_p125 : lw_okq (⟨"TreeMergeModel", "isTouched", "(III)Z"⟩, 64) := ⟨⟨by decide +kernel, by decide +kernel⟩, List.mem_of_getElem? (i := 1182) (by decide +kernel), List.mem_of_getElem? (i := 1758) (by decide +kernel), List.mem_of_getElem? (i := 1759) (by decide +kernel)⟩
theorem lw_p126 : lw_okq (⟨"TreeMergeModel", "isOther", "(III)Z"⟩, 64) := ⟨⟨by decide +kernel, by decide +kernel⟩, List.mem_of_getElem? (i := 1182) (by decide +kernel), List.mem_of_getElem? (i := 1762) (by decide +kernel), List.mem_of_getElem? (i := 1763) (by decide +kernel)⟩
theorem lw_p127 : lw_okq (⟨"TreeMergeModel", "settledFor", "(IIII)I"⟩, 64) := ⟨⟨by decide +kernel, by decide +kernel⟩, List.mem_of_getElem? (i := 1182) (by decide +kernel), List.mem_of_getElem? (i := 1766) (by decide +kernel), List.mem_of_getElem? (i := 1767) (by decide +kernel)⟩
def lw_privs_8 : List (MethodName × Nat) := [(⟨"TreeMergeModel", "copies", "(II)V"⟩, 64), (⟨"TreeMergeModel", "noPending", "(I)V"⟩, 64), (⟨"TreeMergeModel", "inDraft", "(I)Z"⟩, 64), (⟨"TreeMergeModel", "size", "(I)I"⟩, 64), (⟨"TreeMergeModel", "lays", "(III)V"⟩, 64), (⟨"TreeMergeModel", "shrinks", "(I)V"⟩, 64), (⟨"TreeMergeModel", "isUnder", "(III)Z"⟩, 64), (⟨"TreeMergeModel", "isFrom", "(II)Z"⟩, 64), (⟨"TreeMergeModel", "baseRow", "(II)I"⟩, 64), (⟨"TreeMergeModel", "nthBase", "(III)I"⟩, 64), (⟨"TreeMergeModel", "isBaseOf", "(III)Z"⟩, 64), (⟨"TreeMergeModel", "merges", "(III)Z"⟩, 64), (⟨"TreeMergeModel", "firstQuarrels", "(III)V"⟩, 64), (⟨"TreeMergeModel", "isTouched", "(III)Z"⟩, 64), (⟨"TreeMergeModel", "isOther", "(III)Z"⟩, 64), (⟨"TreeMergeModel", "settledFor", "(IIII)I"⟩, 64)]
theorem lw_r8 : ∀ q ∈ lw_privs_8, lw_okq q := List.forall_mem_cons.mpr ⟨lw_p112, List.forall_mem_cons.mpr ⟨lw_p113, List.forall_mem_cons.mpr ⟨lw_p114, List.forall_mem_cons.mpr ⟨lw_p115, List.forall_mem_cons.mpr ⟨lw_p116, List.forall_mem_cons.mpr ⟨lw_p117, List.forall_mem_cons.mpr ⟨lw_p118, List.forall_mem_cons.mpr ⟨lw_p119, List.forall_mem_cons.mpr ⟨lw_p120, List.forall_mem_cons.mpr ⟨lw_p121, List.forall_mem_cons.mpr ⟨lw_p122, List.forall_mem_cons.mpr ⟨lw_p123, List.forall_mem_cons.mpr ⟨lw_p124, List.forall_mem_cons.mpr ⟨lw_p125, List.forall_mem_cons.mpr ⟨lw_p126, List.forall_mem_cons.mpr ⟨lw_p127, fun _ h => absurd h List.not_mem_nil⟩⟩⟩⟩⟩⟩⟩⟩⟩⟩⟩⟩⟩⟩⟩⟩
theorem lw_p128 : lw_okq (⟨"TreeMergeModel", "quarrels", "(II)V"⟩, 64) := ⟨⟨by decide +kernel, by decide +kernel⟩, List.mem_of_getElem? (i := 1182) (by decide +kernel), List.mem_of_getElem? (i := 1770) (by decide +kernel), List.mem_of_getElem? (i := 1771) (by decide +kernel)⟩
theorem lw_p129 : lw_okq (⟨"TreeMergeModel", "sideOf", "(IIIIZ)I"⟩, 64) := ⟨⟨by decide +kernel, by decide +kernel⟩, List.mem_of_getElem? (i := 1182) (by decide +kernel), List.mem_of_getElem? (i := 1774) (by decide +kernel), List.mem_of_getElem? (i := 1775) (by decide +kernel)⟩
theorem lw_p130 : lw_okq (⟨"TreeMergeModel", "stacks", "(III)V"⟩, 64) := ⟨⟨by decide +kernel, by decide +kernel⟩, List.mem_of_getElem? (i := 1182) (by decide +kernel), List.mem_of_getElem? (i := 1778) (by decide +kernel), List.mem_of_getElem? (i := 1779) (by decide +kernel)⟩
theorem lw_p131 : lw_okq (⟨"TreeMergeModel", "stands", "(IIII)Z"⟩, 64) := ⟨⟨by decide +kernel, by decide +kernel⟩, List.mem_of_getElem? (i := 1182) (by decide +kernel), List.mem_of_getElem? (i := 1782) (by decide +kernel), List.mem_of_getElem? (i := 1783) (by decide +kernel)⟩
theorem lw_p132 : lw_okq (⟨"TreeMergeModel", "secondQuarrels", "()V"⟩, 64) := ⟨⟨by decide +kernel, by decide +kernel⟩, List.mem_of_getElem? (i := 1182) (by decide +kernel), List.mem_of_getElem? (i := 1786) (by decide +kernel), List.mem_of_getElem? (i := 1787) (by decide +kernel)⟩
theorem lw_p133 : lw_okq (⟨"TreeMergeModel", "isLeastOfRing", "(I)Z"⟩, 64) := ⟨⟨by decide +kernel, by decide +kernel⟩, List.mem_of_getElem? (i := 1182) (by decide +kernel), List.mem_of_getElem? (i := 1790) (by decide +kernel), List.mem_of_getElem? (i := 1791) (by decide +kernel)⟩
theorem lw_p134 : lw_okq (⟨"TreeMergeModel", "leadsBack", "(I)Z"⟩, 64) := ⟨⟨by decide +kernel, by decide +kernel⟩, List.mem_of_getElem? (i := 1182) (by decide +kernel), List.mem_of_getElem? (i := 1794) (by decide +kernel), List.mem_of_getElem? (i := 1795) (by decide +kernel)⟩
theorem lw_p135 : lw_okq (⟨"TreeMergeModel", "outermost", "()I"⟩, 64) := ⟨⟨by decide +kernel, by decide +kernel⟩, List.mem_of_getElem? (i := 1182) (by decide +kernel), List.mem_of_getElem? (i := 1798) (by decide +kernel), List.mem_of_getElem? (i := 1799) (by decide +kernel)⟩
theorem lw_p136 : lw_okq (⟨"TreeMergeModel", "thirdQuarrels", "(III)V"⟩, 64) := ⟨⟨by decide +kernel, by decide +kernel⟩, List.mem_of_getElem? (i := 1182) (by decide +kernel), List.mem_of_getElem? (i := 1802) (by decide +kernel), List.mem_of_getElem? (i := 1803) (by decide +kernel)⟩
theorem lw_p137 : lw_okq (⟨"TreeMergeModel", "ordersKids", "(IIII)Z"⟩, 64) := ⟨⟨by decide +kernel, by decide +kernel⟩, List.mem_of_getElem? (i := 1182) (by decide +kernel), List.mem_of_getElem? (i := 1806) (by decide +kernel), List.mem_of_getElem? (i := 1807) (by decide +kernel)⟩
theorem lw_p138 : lw_okq (⟨"TreeMergeModel", "ahead", "(IIIIII)I"⟩, 64) := ⟨⟨by decide +kernel, by decide +kernel⟩, List.mem_of_getElem? (i := 1182) (by decide +kernel), List.mem_of_getElem? (i := 1810) (by decide +kernel), List.mem_of_getElem? (i := 1811) (by decide +kernel)⟩
theorem lw_p139 : lw_okq (⟨"TreeMergeModel", "says", "(IIII)I"⟩, 64) := ⟨⟨by decide +kernel, by decide +kernel⟩, List.mem_of_getElem? (i := 1182) (by decide +kernel), List.mem_of_getElem? (i := 1814) (by decide +kernel), List.mem_of_getElem? (i := 1815) (by decide +kernel)⟩
theorem lw_p140 : lw_okq (⟨"TreeMergeModel", "isFree", "(IIIII)Z"⟩, 64) := ⟨⟨by decide +kernel, by decide +kernel⟩, List.mem_of_getElem? (i := 1182) (by decide +kernel), List.mem_of_getElem? (i := 1818) (by decide +kernel), List.mem_of_getElem? (i := 1819) (by decide +kernel)⟩
theorem lw_p141 : lw_okq (⟨"TreeMergeModel", "made", "(II)I"⟩, 64) := ⟨⟨by decide +kernel, by decide +kernel⟩, List.mem_of_getElem? (i := 1182) (by decide +kernel), List.mem_of_getElem? (i := 1826) (by decide +kernel), List.mem_of_getElem? (i := 1827) (by decide +kernel)⟩
theorem lw_p142 : lw_okq (⟨"TreeMergeModel", "hasOneParent", "(I)Z"⟩, 64) := ⟨⟨by decide +kernel, by decide +kernel⟩, List.mem_of_getElem? (i := 1182) (by decide +kernel), List.mem_of_getElem? (i := 1834) (by decide +kernel), List.mem_of_getElem? (i := 1835) (by decide +kernel)⟩
theorem lw_p143 : lw_okq (⟨"TreeMergeModel", "isNode", "(II)Z"⟩, 64) := ⟨⟨by decide +kernel, by decide +kernel⟩, List.mem_of_getElem? (i := 1182) (by decide +kernel), List.mem_of_getElem? (i := 1854) (by decide +kernel), List.mem_of_getElem? (i := 1855) (by decide +kernel)⟩
def lw_privs_9 : List (MethodName × Nat) := [(⟨"TreeMergeModel", "quarrels", "(II)V"⟩, 64), (⟨"TreeMergeModel", "sideOf", "(IIIIZ)I"⟩, 64), (⟨"TreeMergeModel", "stacks", "(III)V"⟩, 64), (⟨"TreeMergeModel", "stands", "(IIII)Z"⟩, 64), (⟨"TreeMergeModel", "secondQuarrels", "()V"⟩, 64), (⟨"TreeMergeModel", "isLeastOfRing", "(I)Z"⟩, 64), (⟨"TreeMergeModel", "leadsBack", "(I)Z"⟩, 64), (⟨"TreeMergeModel", "outermost", "()I"⟩, 64), (⟨"TreeMergeModel", "thirdQuarrels", "(III)V"⟩, 64), (⟨"TreeMergeModel", "ordersKids", "(IIII)Z"⟩, 64), (⟨"TreeMergeModel", "ahead", "(IIIIII)I"⟩, 64), (⟨"TreeMergeModel", "says", "(IIII)I"⟩, 64), (⟨"TreeMergeModel", "isFree", "(IIIII)Z"⟩, 64), (⟨"TreeMergeModel", "made", "(II)I"⟩, 64), (⟨"TreeMergeModel", "hasOneParent", "(I)Z"⟩, 64), (⟨"TreeMergeModel", "isNode", "(II)Z"⟩, 64)]
theorem lw_r9 : ∀ q ∈ lw_privs_9, lw_okq q := List.forall_mem_cons.mpr ⟨lw_p128, List.forall_mem_cons.mpr ⟨lw_p129, List.forall_mem_cons.mpr ⟨lw_p130, List.forall_mem_cons.mpr ⟨lw_p131, List.forall_mem_cons.mpr ⟨lw_p132, List.forall_mem_cons.mpr ⟨lw_p133, List.forall_mem_cons.mpr ⟨lw_p134, List.forall_mem_cons.mpr ⟨lw_p135, List.forall_mem_cons.mpr ⟨lw_p136, List.forall_mem_cons.mpr ⟨lw_p137, List.forall_mem_cons.mpr ⟨lw_p138, List.forall_mem_cons.mpr ⟨lw_p139, List.forall_mem_cons.mpr ⟨lw_p140, List.forall_mem_cons.mpr ⟨lw_p141, List.forall_mem_cons.mpr ⟨lw_p142, List.forall_mem_cons.mpr ⟨lw_p143, fun _ h => absurd h List.not_mem_nil⟩⟩⟩⟩⟩⟩⟩⟩⟩⟩⟩⟩⟩⟩⟩⟩
theorem lw_p144 : lw_okq (⟨"TreeMergeModel", "isRow", "(I)Z"⟩, 64) := ⟨⟨by decide +kernel, by decide +kernel⟩, List.mem_of_getElem? (i := 1182) (by decide +kernel), List.mem_of_getElem? (i := 1858) (by decide +kernel), List.mem_of_getElem? (i := 1859) (by decide +kernel)⟩
theorem lw_p145 : lw_okq (⟨"TreeMergeModel", "placeOf", "(II)I"⟩, 64) := ⟨⟨by decide +kernel, by decide +kernel⟩, List.mem_of_getElem? (i := 1182) (by decide +kernel), List.mem_of_getElem? (i := 1862) (by decide +kernel), List.mem_of_getElem? (i := 1863) (by decide +kernel)⟩
theorem lw_p146 : lw_okq (⟨"TreeMergeModel", "nameOf", "(II)I"⟩, 64) := ⟨⟨by decide +kernel, by decide +kernel⟩, List.mem_of_getElem? (i := 1182) (by decide +kernel), List.mem_of_getElem? (i := 1866) (by decide +kernel), List.mem_of_getElem? (i := 1867) (by decide +kernel)⟩
theorem lw_p147 : lw_okq (⟨"TreeMergeModel", "wordWriter", "(II)I"⟩, 64) := ⟨⟨by decide +kernel, by decide +kernel⟩, List.mem_of_getElem? (i := 1182) (by decide +kernel), List.mem_of_getElem? (i := 1873) (by decide +kernel), List.mem_of_getElem? (i := 1874) (by decide +kernel)⟩
theorem lw_p148 : lw_okq (⟨"TreeMergeModel", "deepOf", "(II)I"⟩, 64) := ⟨⟨by decide +kernel, by decide +kernel⟩, List.mem_of_getElem? (i := 1182) (by decide +kernel), List.mem_of_getElem? (i := 1877) (by decide +kernel), List.mem_of_getElem? (i := 1878) (by decide +kernel)⟩
theorem lw_p149 : lw_okq (⟨"TreeMergeModel", "isSame", "(IIII)Z"⟩, 64) := ⟨⟨by decide +kernel, by decide +kernel⟩, List.mem_of_getElem? (i := 1182) (by decide +kernel), List.mem_of_getElem? (i := 1897) (by decide +kernel), List.mem_of_getElem? (i := 1898) (by decide +kernel)⟩
theorem lw_p150 : lw_okq (⟨"TreeMergeModel", "prints", "(II)V"⟩, 64) := ⟨⟨by decide +kernel, by decide +kernel⟩, List.mem_of_getElem? (i := 1182) (by decide +kernel), List.mem_of_getElem? (i := 1905) (by decide +kernel), List.mem_of_getElem? (i := 1906) (by decide +kernel)⟩
theorem lw_p151 : lw_okq (⟨"TreeMergeModel", "prints", "(I)V"⟩, 64) := ⟨⟨by decide +kernel, by decide +kernel⟩, List.mem_of_getElem? (i := 1182) (by decide +kernel), List.mem_of_getElem? (i := 1909) (by decide +kernel), List.mem_of_getElem? (i := 1910) (by decide +kernel)⟩
def lw_privs_10 : List (MethodName × Nat) := [(⟨"TreeMergeModel", "isRow", "(I)Z"⟩, 64), (⟨"TreeMergeModel", "placeOf", "(II)I"⟩, 64), (⟨"TreeMergeModel", "nameOf", "(II)I"⟩, 64), (⟨"TreeMergeModel", "wordWriter", "(II)I"⟩, 64), (⟨"TreeMergeModel", "deepOf", "(II)I"⟩, 64), (⟨"TreeMergeModel", "isSame", "(IIII)Z"⟩, 64), (⟨"TreeMergeModel", "prints", "(II)V"⟩, 64), (⟨"TreeMergeModel", "prints", "(I)V"⟩, 64)]
theorem lw_r10 : ∀ q ∈ lw_privs_10, lw_okq q := List.forall_mem_cons.mpr ⟨lw_p144, List.forall_mem_cons.mpr ⟨lw_p145, List.forall_mem_cons.mpr ⟨lw_p146, List.forall_mem_cons.mpr ⟨lw_p147, List.forall_mem_cons.mpr ⟨lw_p148, List.forall_mem_cons.mpr ⟨lw_p149, List.forall_mem_cons.mpr ⟨lw_p150, List.forall_mem_cons.mpr ⟨lw_p151, fun _ h => absurd h List.not_mem_nil⟩⟩⟩⟩⟩⟩⟩⟩
def lw_privs : List (MethodName × Nat) := lw_privs_1 ++ (lw_privs_2 ++ (lw_privs_3 ++ (lw_privs_4 ++ (lw_privs_5 ++ (lw_privs_6 ++ (lw_privs_7 ++ (lw_privs_8 ++ (lw_privs_9 ++ (lw_privs_10)))))))))
def lw_tbl : List Cond := k2_sels lw_privs ++ tables_1
theorem lw_privs_ok : ∀ q ∈ lw_privs, lw_okq q := by
  show ∀ q ∈ lw_privs_1 ++ (lw_privs_2 ++ (lw_privs_3 ++ (lw_privs_4 ++ (lw_privs_5 ++ (lw_privs_6 ++ (lw_privs_7 ++ (lw_privs_8 ++ (lw_privs_9 ++ (lw_privs_10))))))))), lw_okq q
  exact List.forall_mem_append.mpr ⟨lw_r1, List.forall_mem_append.mpr ⟨lw_r2, List.forall_mem_append.mpr ⟨lw_r3, List.forall_mem_append.mpr ⟨lw_r4, List.forall_mem_append.mpr ⟨lw_r5, List.forall_mem_append.mpr ⟨lw_r6, List.forall_mem_append.mpr ⟨lw_r7, List.forall_mem_append.mpr ⟨lw_r8, List.forall_mem_append.mpr ⟨lw_r9, lw_r10⟩⟩⟩⟩⟩⟩⟩⟩⟩
-- ===== end of PART A; then your names; then what follows =====
/-! THE CLAIM OUT OF ONE WALK OF THE LAW'S BODY. Your part is whole_start (and what it stands on); all else here is the same for every law, but numbers. -/
def R_law : String := "TreeMergeLaw"
def lw_P (b : Addr) (xs : List Int32) (args : Array Value) (s : State) : Prop := args = #[.ref b] ∧ s.IntsAt b xs ∧ xs.length ≤ 6 ∧ (Jvm.Cond.and given_1 narrow_1).before args s = true
def lw_Q (_ : Array Value) (s : State) (o : Outcome) (t : State) : Prop := o = .returned (some (.int 1)) ∧ Framed s o t [] 600000 7302250
def lw_Z (below : List Frame) (a : Array Value) (s : State) : State → Prop := fun t => ∃ o, t.status = .running ∧ Ended t below o ∧ lw_Q a s o t
/-- the law's own end, with 1 on the stack, nothing written that was there before, its room as the claim has it -/
theorem lw_ret {p : Program} {l : Launch} {e : Env} {s : State} {m : MethodId} {below : List Frame} {meth : Method} {c : Code} {b : Nat} (hx : p.tables.exec = Jvm.exec) (hb : c.code = code) (hr : meth.sig.returnType = ret) (hlocks : meth.locks = false) {pc : Nat} {H : Heap} {ls : Array Slot} (hdg : decode code pc = .ok (.ireturn, 1)) : W p l e room_1 s m #[Value.ref b] below meth c H [] 600000 7302250 (lw_Z below #[Value.ref b] s) (F0 m pc ls [.int 1]) := by
  intro T hT X
  obtain ⟨fs, hret, hrun, hended, hW, hframe⟩ := X.leave (v := some (.int 1)) (hlocks := hlocks) (fun h => by rw [hr] at h; cases h)
  have hmeth' : T.vm.method? m = some meth := X.method'
  refine ⟨T.setFrames fs, ?_, .returned (some (.int 1)), hrun, hended, rfl, ⟨_, rfl⟩, hW, hframe⟩
  jvm_step X.here [X.here.top, hx, hb, hdg, hmeth', hr, ret, narrow_b1]
  (try refine ⟨rfl, ?_⟩); (try refine ⟨rfl, ?_⟩)
  first | (intro acts; rw [hret _ acts rfl rfl rfl]) | rw [hret _ _ rfl rfl rfl]
  exact Steps.refl _
/-- what holds at the law's entry: the machine, the code, the tables' words (any of lw_tbl by 'hts w (by decide +kernel)'), the script of L ints xs at the cell b, what the Statement gives of the start (any of its parts by flat_of_before) -/
def lw_At (p : Program) (s : State) (m : MethodId) (meth : Method) (c : Code) (b L : Nat) (xs : Nat → Int32) : Prop :=
  p.tables.exec = Jvm.exec ∧ c.code = code ∧ meth.sig.returnType = ret ∧ c.maxLocals = 4 ∧ s.vm.findClass R_law = some m.cls ∧ (∀ w ∈ lw_tbl, w.before #[Value.ref b] s = true) ∧ va_X b L xs s s.heap ∧ b < s.heap.size ∧ meth.locks = false ∧ (Jvm.Cond.and given_1 narrow_1).before #[Value.ref b] s = true
end
section
def RX0 : String := "TreeMerge$Draft"
def TX0 : u_T := fun k => match k with
  | 0 => ("TreeMerge$Draft", "open", "Z", false)
  | 1 => ("TreeMerge$Draft", "edition", "I", false)
  | 2 => ("TreeMerge$Draft", "tree", "LTreeMerge$Tree;", true)
  | _ => ("TreeMerge$Draft", "list", "LTreeMerge$Tree;", true)
def tyX0 : Nat → FieldType := fun k => match k with
  | 0 => .boolean
  | 1 => .int
  | 2 => .object "TreeMerge$Tree"
  | _ => .object "TreeMerge$Tree"
abbrev wsX00 : List Cond := u_ws RX0 TX0 4
theorem nmX0 : ∀ a, a < 4 → ∀ b, b < 4 → a ≠ b → (TX0 a).2.1 ≠ (TX0 b).2.1 := by decide +kernel
theorem tyX0_ok : ∀ k, k < 4 → parseFieldDescriptor (TX0 k).2.2.1 = some (tyX0 k) := by decide +kernel
def RX1 : String := "TreeMerge$Editions"
def TX1 : u_T := fun k => match k with
  | 0 => ("TreeMerge$Editions", "size", "I", false)
  | 1 => ("TreeMerge$Editions", "trees", "[LTreeMerge$Tree;", true)
  | 2 => ("TreeMerge$Editions", "firsts", "[I", true)
  | 3 => ("TreeMerge$Editions", "seconds", "[I", true)
  | _ => ("TreeMerge$Editions", "froms", "[I", true)
def tyX1 : Nat → FieldType := fun k => match k with
  | 0 => .int
  | 1 => .array (.object "TreeMerge$Tree")
  | 2 => .array .int
  | 3 => .array .int
  | _ => .array .int
abbrev wsX10 : List Cond := u_ws RX1 TX1 5
theorem nmX1 : ∀ a, a < 5 → ∀ b, b < 5 → a ≠ b → (TX1 a).2.1 ≠ (TX1 b).2.1 := by decide +kernel
theorem tyX1_ok : ∀ k, k < 5 → parseFieldDescriptor (TX1 k).2.2.1 = some (tyX1 k) := by decide +kernel
def RX2 : String := "TreeMerge$Grammar"
def TX2 : u_T := fun k => match k with
  | 0 => ("TreeMerge$Grammar", "bytes", "[I", true)
  | 1 => ("TreeMerge$Grammar", "kinds", "I", false)
  | 2 => ("TreeMerge$Grammar", "nameStarts", "[I", true)
  | 3 => ("TreeMerge$Grammar", "nameStops", "[I", true)
  | 4 => ("TreeMerge$Grammar", "shapes", "[I", true)
  | 5 => ("TreeMerge$Grammar", "firstItems", "[I", true)
  | 6 => ("TreeMerge$Grammar", "endItems", "[I", true)
  | 7 => ("TreeMerge$Grammar", "items", "I", false)
  | 8 => ("TreeMerge$Grammar", "itemStarts", "[I", true)
  | 9 => ("TreeMerge$Grammar", "itemStops", "[I", true)
  | 10 => ("TreeMerge$Grammar", "itemKinds", "[I", true)
  | 11 => ("TreeMerge$Grammar", "itemMarks", "[I", true)
  | _ => ("TreeMerge$Grammar", "reached", "[I", true)
def tyX2 : Nat → FieldType := fun k => match k with
  | 0 => .array .int
  | 1 => .int
  | 2 => .array .int
  | 3 => .array .int
  | 4 => .array .int
  | 5 => .array .int
  | 6 => .array .int
  | 7 => .int
  | 8 => .array .int
  | 9 => .array .int
  | 10 => .array .int
  | 11 => .array .int
  | _ => .array .int
abbrev wsX20 : List Cond := u_ws RX2 TX2 13
theorem nmX2 : ∀ a, a < 13 → ∀ b, b < 13 → a ≠ b → (TX2 a).2.1 ≠ (TX2 b).2.1 := by decide +kernel
theorem tyX2_ok : ∀ k, k < 13 → parseFieldDescriptor (TX2 k).2.2.1 = some (tyX2 k) := by decide +kernel
def RX3 : String := "TreeMerge$Kids"
def TX3 : u_T := fun k => match k with
  | 0 => ("TreeMerge$Kids", "size", "I", false)
  | 1 => ("TreeMerge$Kids", "kinds", "[I", true)
  | _ => ("TreeMerge$Kids", "words", "[J", true)
def tyX3 : Nat → FieldType := fun k => match k with
  | 0 => .int
  | 1 => .array .int
  | _ => .array .long
abbrev wsX30 : List Cond := u_ws RX3 TX3 3
theorem nmX3 : ∀ a, a < 3 → ∀ b, b < 3 → a ≠ b → (TX3 a).2.1 ≠ (TX3 b).2.1 := by decide +kernel
theorem tyX3_ok : ∀ k, k < 3 → parseFieldDescriptor (TX3 k).2.2.1 = some (tyX3 k) := by decide +kernel
def RX4 : String := "TreeMerge$Matcher"
def TX4 : u_T := fun k => match k with
  | 0 => ("TreeMerge$Matcher", "a", "LTreeMerge$Tree;", false)
  | 1 => ("TreeMerge$Matcher", "b", "LTreeMerge$Tree;", false)
  | 2 => ("TreeMerge$Matcher", "toB", "[I", true)
  | 3 => ("TreeMerge$Matcher", "toA", "[I", true)
  | 4 => ("TreeMerge$Matcher", "best", "[I", true)
  | 5 => ("TreeMerge$Matcher", "cost", "I", false)
  | _ => ("TreeMerge$Matcher", "exact", "Z", false)
def tyX4 : Nat → FieldType := fun k => match k with
  | 0 => .object "TreeMerge$Tree"
  | 1 => .object "TreeMerge$Tree"
  | 2 => .array .int
  | 3 => .array .int
  | 4 => .array .int
  | 5 => .int
  | _ => .boolean
abbrev wsX40 : List Cond := u_ws RX4 TX4 7
theorem nmX4 : ∀ a, a < 7 → ∀ b, b < 7 → a ≠ b → (TX4 a).2.1 ≠ (TX4 b).2.1 := by decide +kernel
theorem tyX4_ok : ∀ k, k < 7 → parseFieldDescriptor (TX4 k).2.2.1 = some (tyX4 k) := by decide +kernel
def RX5 : String := "TreeMerge$Merging"
def TX5 : u_T := fun k => match k with
  | 0 => ("TreeMerge$Merging", "one", "LTreeMerge$Side;", true)
  | 1 => ("TreeMerge$Merging", "other", "LTreeMerge$Side;", true)
  | 2 => ("TreeMerge$Merging", "base", "LTreeMerge$Side;", true)
  | 3 => ("TreeMerge$Merging", "result", "LTreeMerge$Tree;", true)
  | 4 => ("TreeMerge$Merging", "list", "LTreeMerge$Tree;", true)
  | 5 => ("TreeMerge$Merging", "marks", "[I", true)
  | 6 => ("TreeMerge$Merging", "stands", "[I", true)
  | 7 => ("TreeMerge$Merging", "kinds", "[I", true)
  | 8 => ("TreeMerge$Merging", "ups", "[I", true)
  | 9 => ("TreeMerge$Merging", "words", "[J", true)
  | 10 => ("TreeMerge$Merging", "quarrelled", "Z", false)
  | 11 => ("TreeMerge$Merging", "children", "[I", true)
  | 12 => ("TreeMerge$Merging", "childrenSize", "I", false)
  | 13 => ("TreeMerge$Merging", "ahead", "[I", true)
  | _ => ("TreeMerge$Merging", "waits", "[I", true)
def tyX5 : Nat → FieldType := fun k => match k with
  | 0 => .object "TreeMerge$Side"
  | 1 => .object "TreeMerge$Side"
  | 2 => .object "TreeMerge$Side"
  | 3 => .object "TreeMerge$Tree"
  | 4 => .object "TreeMerge$Tree"
  | 5 => .array .int
  | 6 => .array .int
  | 7 => .array .int
  | 8 => .array .int
  | 9 => .array .long
  | 10 => .boolean
  | 11 => .array .int
  | 12 => .int
  | 13 => .array .int
  | _ => .array .int
abbrev wsX50 : List Cond := u_ws RX5 TX5 15
theorem nmX5 : ∀ a, a < 15 → ∀ b, b < 15 → a ≠ b → (TX5 a).2.1 ≠ (TX5 b).2.1 := by decide +kernel
theorem tyX5_ok : ∀ k, k < 15 → parseFieldDescriptor (TX5 k).2.2.1 = some (tyX5 k) := by decide +kernel
def RX6 : String := "TreeMerge$Printer"
def TX6 : u_T := fun k => match k with
  | 0 => ("TreeMerge$Printer", "wanted", "I", false)
  | 1 => ("TreeMerge$Printer", "written", "I", false)
  | _ => ("TreeMerge$Printer", "found", "I", false)
def tyX6 : Nat → FieldType := fun k => match k with
  | 0 => .int
  | 1 => .int
  | _ => .int
abbrev wsX60 : List Cond := u_ws RX6 TX6 3
theorem nmX6 : ∀ a, a < 3 → ∀ b, b < 3 → a ≠ b → (TX6 a).2.1 ≠ (TX6 b).2.1 := by decide +kernel
theorem tyX6_ok : ∀ k, k < 3 → parseFieldDescriptor (TX6 k).2.2.1 = some (tyX6 k) := by decide +kernel
def RX7 : String := "TreeMerge$Settled"
def TX7 : u_T := fun k => match k with
  | 0 => ("TreeMerge$Settled", "size", "I", false)
  | _ => ("TreeMerge$Settled", "rows", "[I", true)
def tyX7 : Nat → FieldType := fun k => match k with
  | 0 => .int
  | _ => .array .int
abbrev wsX70 : List Cond := u_ws RX7 TX7 2
theorem nmX7 : ∀ a, a < 2 → ∀ b, b < 2 → a ≠ b → (TX7 a).2.1 ≠ (TX7 b).2.1 := by decide +kernel
theorem tyX7_ok : ∀ k, k < 2 → parseFieldDescriptor (TX7 k).2.2.1 = some (tyX7 k) := by decide +kernel
def RX8 : String := "TreeMerge$Side"
def TX8 : u_T := fun k => match k with
  | 0 => ("TreeMerge$Side", "tree", "LTreeMerge$Tree;", false)
  | 1 => ("TreeMerge$Side", "edition", "I", false)
  | 2 => ("TreeMerge$Side", "places", "[I", true)
  | _ => ("TreeMerge$Side", "touched", "[I", true)
def tyX8 : Nat → FieldType := fun k => match k with
  | 0 => .object "TreeMerge$Tree"
  | 1 => .int
  | 2 => .array .int
  | _ => .array .int
abbrev wsX80 : List Cond := u_ws RX8 TX8 4
theorem nmX8 : ∀ a, a < 4 → ∀ b, b < 4 → a ≠ b → (TX8 a).2.1 ≠ (TX8 b).2.1 := by decide +kernel
theorem tyX8_ok : ∀ k, k < 4 → parseFieldDescriptor (TX8 k).2.2.1 = some (tyX8 k) := by decide +kernel
def RX9 : String := "TreeMerge$Text"
def TX9 : u_T := fun k => match k with
  | 0 => ("TreeMerge$Text", "bytes", "[I", true)
  | 1 => ("TreeMerge$Text", "length", "I", false)
  | 2 => ("TreeMerge$Text", "type", "I", false)
  | 3 => ("TreeMerge$Text", "start", "I", false)
  | _ => ("TreeMerge$Text", "stop", "I", false)
def tyX9 : Nat → FieldType := fun k => match k with
  | 0 => .array .int
  | 1 => .int
  | 2 => .int
  | 3 => .int
  | _ => .int
abbrev wsX90 : List Cond := u_ws RX9 TX9 5
theorem nmX9 : ∀ a, a < 5 → ∀ b, b < 5 → a ≠ b → (TX9 a).2.1 ≠ (TX9 b).2.1 := by decide +kernel
theorem tyX9_ok : ∀ k, k < 5 → parseFieldDescriptor (TX9 k).2.2.1 = some (tyX9 k) := by decide +kernel
def RX10 : String := "TreeMerge$Tree"
def TX10 : u_T := fun k => match k with
  | 0 => ("TreeMerge$Tree", "size", "I", false)
  | 1 => ("TreeMerge$Tree", "ids", "[I", true)
  | 2 => ("TreeMerge$Tree", "ups", "[I", true)
  | 3 => ("TreeMerge$Tree", "tops", "[I", true)
  | 4 => ("TreeMerge$Tree", "deeps", "[I", true)
  | 5 => ("TreeMerge$Tree", "kinds", "[I", true)
  | 6 => ("TreeMerge$Tree", "words", "[J", true)
  | _ => ("TreeMerge$Tree", "writers", "[I", true)
def tyX10 : Nat → FieldType := fun k => match k with
  | 0 => .int
  | 1 => .array .int
  | 2 => .array .int
  | 3 => .array .int
  | 4 => .array .int
  | 5 => .array .int
  | 6 => .array .long
  | _ => .array .int
abbrev wsX100 : List Cond := u_ws RX10 TX10 8
theorem nmX10 : ∀ a, a < 8 → ∀ b, b < 8 → a ≠ b → (TX10 a).2.1 ≠ (TX10 b).2.1 := by decide +kernel
theorem tyX10_ok : ∀ k, k < 8 → parseFieldDescriptor (TX10 k).2.2.1 = some (tyX10 k) := by decide +kernel
def RX11 : String := "TreeMerge"
def TX11 : u_T := fun k => match k with
  | 0 => ("TreeMerge", "text", "LTreeMerge$Text;", true)
  | 1 => ("TreeMerge", "rules", "LTreeMerge$Grammar;", false)
  | 2 => ("TreeMerge", "trial", "LTreeMerge$Grammar;", false)
  | 3 => ("TreeMerge", "read", "LTreeMerge$Tree;", true)
  | 4 => ("TreeMerge", "textTree", "LTreeMerge$Tree;", true)
  | 5 => ("TreeMerge", "kids", "LTreeMerge$Kids;", true)
  | 6 => ("TreeMerge", "matcher", "LTreeMerge$Matcher;", true)
  | 7 => ("TreeMerge", "editions", "LTreeMerge$Editions;", true)
  | 8 => ("TreeMerge", "draft", "LTreeMerge$Draft;", true)
  | 9 => ("TreeMerge", "settled", "LTreeMerge$Settled;", true)
  | 10 => ("TreeMerge", "merging", "LTreeMerge$Merging;", true)
  | 11 => ("TreeMerge", "made", "LTreeMerge$Tree;", true)
  | 12 => ("TreeMerge", "fresh", "LTreeMerge$Tree;", true)
  | 13 => ("TreeMerge", "printer", "LTreeMerge$Printer;", true)
  | 14 => ("TreeMerge", "nodeWriters", "[I", true)
  | 15 => ("TreeMerge", "numbers", "I", false)
  | 16 => ("TreeMerge", "told", "[I", true)
  | 17 => ("TreeMerge", "toldSize", "I", false)
  | _ => ("TreeMerge", "nameRow", "[I", true)
def tyX11 : Nat → FieldType := fun k => match k with
  | 0 => .object "TreeMerge$Text"
  | 1 => .object "TreeMerge$Grammar"
  | 2 => .object "TreeMerge$Grammar"
  | 3 => .object "TreeMerge$Tree"
  | 4 => .object "TreeMerge$Tree"
  | 5 => .object "TreeMerge$Kids"
  | 6 => .object "TreeMerge$Matcher"
  | 7 => .object "TreeMerge$Editions"
  | 8 => .object "TreeMerge$Draft"
  | 9 => .object "TreeMerge$Settled"
  | 10 => .object "TreeMerge$Merging"
  | 11 => .object "TreeMerge$Tree"
  | 12 => .object "TreeMerge$Tree"
  | 13 => .object "TreeMerge$Printer"
  | 14 => .array .int
  | 15 => .int
  | 16 => .array .int
  | 17 => .int
  | _ => .array .int
abbrev wsX110 : List Cond := u_ws RX11 TX11 19
theorem nmX11 : ∀ a, a < 19 → ∀ b, b < 19 → a ≠ b → (TX11 a).2.1 ≠ (TX11 b).2.1 := by decide +kernel
theorem tyX11_ok : ∀ k, k < 19 → parseFieldDescriptor (TX11 k).2.2.1 = some (tyX11 k) := by decide +kernel
def RX12 : String := "TreeMergeModel"
def TX12 : u_T := fun k => match k with
  | 0 => ("TreeMergeModel", "text", "[B", true)
  | 1 => ("TreeMergeModel", "textMany", "I", false)
  | 2 => ("TreeMergeModel", "at", "I", false)
  | 3 => ("TreeMergeModel", "end0", "I", false)
  | 4 => ("TreeMergeModel", "faultAt", "I", false)
  | 5 => ("TreeMergeModel", "gram", "[B", true)
  | 6 => ("TreeMergeModel", "kindFrom", "[I", true)
  | 7 => ("TreeMergeModel", "kindLong", "[I", true)
  | 8 => ("TreeMergeModel", "kindIs", "[I", true)
  | 9 => ("TreeMergeModel", "itemMany", "[I", true)
  | 10 => ("TreeMergeModel", "itemFrom", "[[I", true)
  | 11 => ("TreeMergeModel", "itemLong", "[[I", true)
  | 12 => ("TreeMergeModel", "itemSign", "[[I", true)
  | 13 => ("TreeMergeModel", "itemKind", "[[I", true)
  | 14 => ("TreeMergeModel", "kinds", "I", false)
  | 15 => ("TreeMergeModel", "readKinds", "I", false)
  | 16 => ("TreeMergeModel", "has", "[[Z", true)
  | 17 => ("TreeMergeModel", "word", "[[J", true)
  | 18 => ("TreeMergeModel", "parent", "[[I", true)
  | 19 => ("TreeMergeModel", "pos", "[[I", true)
  | 20 => ("TreeMergeModel", "nodeKind", "[I", true)
  | 21 => ("TreeMergeModel", "nodeWriter", "[I", true)
  | 22 => ("TreeMergeModel", "treeKind", "[I", true)
  | 23 => ("TreeMergeModel", "isPending", "[Z", true)
  | 24 => ("TreeMergeModel", "firstParent", "[I", true)
  | 25 => ("TreeMergeModel", "secondParent", "[I", true)
  | 26 => ("TreeMergeModel", "nodes", "I", false)
  | 27 => ("TreeMergeModel", "editions", "I", false)
  | 28 => ("TreeMergeModel", "treeMany", "I", false)
  | 29 => ("TreeMergeModel", "isDraft", "Z", false)
  | 30 => ("TreeMergeModel", "keptGram", "[B", true)
  | 31 => ("TreeMergeModel", "keptFrom", "[I", true)
  | 32 => ("TreeMergeModel", "keptLong", "[I", true)
  | 33 => ("TreeMergeModel", "keptIs", "[I", true)
  | 34 => ("TreeMergeModel", "keptItems", "[I", true)
  | 35 => ("TreeMergeModel", "keptSign", "[[I", true)
  | 36 => ("TreeMergeModel", "keptKind", "[[I", true)
  | 37 => ("TreeMergeModel", "lineOf", "[I", true)
  | 38 => ("TreeMergeModel", "kindWas", "[I", true)
  | 39 => ("TreeMergeModel", "upWas", "[I", true)
  | 40 => ("TreeMergeModel", "placeIn", "[I", true)
  | 41 => ("TreeMergeModel", "wordWas", "[J", true)
  | 42 => ("TreeMergeModel", "here", "[Z", true)
  | 43 => ("TreeMergeModel", "then", "[Z", true)
  | 44 => ("TreeMergeModel", "number", "[I", true)
  | 45 => ("TreeMergeModel", "seq", "[I", true)
  | 46 => ("TreeMergeModel", "pairA", "[I", true)
  | 47 => ("TreeMergeModel", "pairB", "[I", true)
  | 48 => ("TreeMergeModel", "bestA", "[I", true)
  | 49 => ("TreeMergeModel", "indexIn", "[I", true)
  | 50 => ("TreeMergeModel", "seqMany", "I", false)
  | 51 => ("TreeMergeModel", "leastCost", "I", false)
  | 52 => ("TreeMergeModel", "draftOf", "I", false)
  | 53 => ("TreeMergeModel", "quarrels", "[I", true)
  | 54 => ("TreeMergeModel", "settledNode", "[I", true)
  | 55 => ("TreeMergeModel", "settledKind", "[I", true)
  | 56 => ("TreeMergeModel", "settledBy", "[I", true)
  | 57 => ("TreeMergeModel", "quarrelMany", "I", false)
  | 58 => ("TreeMergeModel", "settled", "I", false)
  | 59 => ("TreeMergeModel", "isLaid", "[Z", true)
  | 60 => ("TreeMergeModel", "isContrary", "[Z", true)
  | 61 => ("TreeMergeModel", "keptQuarrels", "[I", true)
  | 62 => ("TreeMergeModel", "printed", "[B", true)
  | _ => ("TreeMergeModel", "printMany", "I", false)
def tyX12 : Nat → FieldType := fun k => match k with
  | 0 => .array .byte
  | 1 => .int
  | 2 => .int
  | 3 => .int
  | 4 => .int
  | 5 => .array .byte
  | 6 => .array .int
  | 7 => .array .int
  | 8 => .array .int
  | 9 => .array .int
  | 10 => .array (.array .int)
  | 11 => .array (.array .int)
  | 12 => .array (.array .int)
  | 13 => .array (.array .int)
  | 14 => .int
  | 15 => .int
  | 16 => .array (.array .boolean)
  | 17 => .array (.array .long)
  | 18 => .array (.array .int)
  | 19 => .array (.array .int)
  | 20 => .array .int
  | 21 => .array .int
  | 22 => .array .int
  | 23 => .array .boolean
  | 24 => .array .int
  | 25 => .array .int
  | 26 => .int
  | 27 => .int
  | 28 => .int
  | 29 => .boolean
  | 30 => .array .byte
  | 31 => .array .int
  | 32 => .array .int
  | 33 => .array .int
  | 34 => .array .int
  | 35 => .array (.array .int)
  | 36 => .array (.array .int)
  | 37 => .array .int
  | 38 => .array .int
  | 39 => .array .int
  | 40 => .array .int
  | 41 => .array .long
  | 42 => .array .boolean
  | 43 => .array .boolean
  | 44 => .array .int
  | 45 => .array .int
  | 46 => .array .int
  | 47 => .array .int
  | 48 => .array .int
  | 49 => .array .int
  | 50 => .int
  | 51 => .int
  | 52 => .int
  | 53 => .array .int
  | 54 => .array .int
  | 55 => .array .int
  | 56 => .array .int
  | 57 => .int
  | 58 => .int
  | 59 => .array .boolean
  | 60 => .array .boolean
  | 61 => .array .int
  | 62 => .array .byte
  | _ => .int
abbrev wsX120 : List Cond := u_ws RX12 TX12 64
theorem nmX12 : ∀ a, a < 64 → ∀ b, b < 64 → a ≠ b → (TX12 a).2.1 ≠ (TX12 b).2.1 := by decide +kernel
theorem tyX12_ok : ∀ k, k < 64 → parseFieldDescriptor (TX12 k).2.2.1 = some (tyX12 k) := by decide +kernel
abbrev vwCl : List vw_C := [(RX0, TX0, 4), (RX1, TX1, 5), (RX2, TX2, 13), (RX3, TX3, 3), (RX4, TX4, 7), (RX5, TX5, 15), (RX6, TX6, 3), (RX7, TX7, 2), (RX8, TX8, 4), (RX9, TX9, 5), (RX10, TX10, 8), (RX11, TX11, 19), (RX12, TX12, 64)]
abbrev cX0_init : ByteArray := prog_2_method_1_code
def yX0_init : MethodName := ⟨RX0, "<init>", "()V"⟩
abbrev cX10_init : ByteArray := prog_12_method_1_code
def yX10_init : MethodName := ⟨RX10, "<init>", "()V"⟩
abbrev cX11_init : ByteArray := prog_1_method_1_code
def yX11_init : MethodName := ⟨RX11, "<init>", "()V"⟩
abbrev cX11_isAhead : ByteArray := prog_1_method_48_code
def yX11_isAhead : MethodName := ⟨RX11, "isAhead", "(IJIIJI)Z"⟩
abbrev cX11_isLetter : ByteArray := prog_1_method_44_code
def yX11_isLetter : MethodName := ⟨RX11, "isLetter", "(I)Z"⟩
abbrev cX11_isWordByte : ByteArray := prog_1_method_45_code
def yX11_isWordByte : MethodName := ⟨RX11, "isWordByte", "(I)Z"⟩
abbrev cX1_init : ByteArray := prog_3_method_1_code
def yX1_init : MethodName := ⟨RX1, "<init>", "()V"⟩
abbrev cX2_init : ByteArray := prog_4_method_1_code
def yX2_init : MethodName := ⟨RX2, "<init>", "()V"⟩
abbrev cX3_init : ByteArray := prog_5_method_1_code
def yX3_init : MethodName := ⟨RX3, "<init>", "()V"⟩
abbrev cX4_init : ByteArray := prog_6_method_1_code
def yX4_init : MethodName := ⟨RX4, "<init>", "()V"⟩
abbrev cX5_init : ByteArray := prog_7_method_1_code
def yX5_init : MethodName := ⟨RX5, "<init>", "()V"⟩
abbrev cX6_init : ByteArray := prog_8_method_1_code
def yX6_init : MethodName := ⟨RX6, "<init>", "()V"⟩
abbrev cX7_init : ByteArray := prog_9_method_1_code
def yX7_init : MethodName := ⟨RX7, "<init>", "()V"⟩
abbrev cX8_init : ByteArray := prog_10_method_1_code
def yX8_init : MethodName := ⟨RX8, "<init>", "()V"⟩
abbrev cX9_init : ByteArray := prog_11_method_1_code
def yX9_init : MethodName := ⟨RX9, "<init>", "()V"⟩
def cx_nest : List (String × Nat × MethodName) := [("TreeMerge", 11, yX9_init), ("TreeMerge", 18, yX2_init), ("TreeMerge", 28, yX10_init), ("TreeMerge", 38, yX3_init), ("TreeMerge", 45, yX4_init), ("TreeMerge$Matcher", 11, yX10_init), ("TreeMerge", 52, yX1_init), ("TreeMerge", 59, yX0_init), ("TreeMerge$Draft", 11, yX10_init), ("TreeMerge", 66, yX7_init), ("TreeMerge", 73, yX5_init), ("TreeMerge$Merging", 11, yX8_init), ("TreeMerge$Side", 11, yX10_init), ("TreeMerge$Merging", 26, yX10_init), ("TreeMerge", 86, yX6_init), ("TreeMerge$Text", 28, yX11_isLetter), ("TreeMerge$Text", 49, yX11_isWordByte), ("TreeMerge$Tree", 92, yX11_isAhead), ("TreeMerge$Editions", 39, yX10_init), ("TreeMerge$Merging", 193, yX11_isAhead)]
end
section
theorem dX0_init_0 : decode cX0_init 0 = .ok (.aload_n 0, 1) := by decide +kernel
theorem dX0_init_1 : decode cX0_init 1 = .ok (.invokespecial 3, 3) := by decide +kernel
theorem dX0_init_4 : decode cX0_init 4 = .ok (.aload_n 0, 1) := by decide +kernel
theorem dX0_init_5 : decode cX0_init 5 = .ok (.new 9, 3) := by decide +kernel
theorem dX0_init_8 : decode cX0_init 8 = .ok (.dup, 1) := by decide +kernel
theorem dX0_init_9 : decode cX0_init 9 = .ok (.invokespecial 11, 3) := by decide +kernel
theorem dX0_init_12 : decode cX0_init 12 = .ok (.putfield 12, 3) := by decide +kernel
theorem dX0_init_15 : decode cX0_init 15 = .ok (.aload_n 0, 1) := by decide +kernel
theorem dX0_init_16 : decode cX0_init 16 = .ok (.new 9, 3) := by decide +kernel
theorem dX0_init_19 : decode cX0_init 19 = .ok (.dup, 1) := by decide +kernel
theorem dX0_init_20 : decode cX0_init 20 = .ok (.invokespecial 11, 3) := by decide +kernel
theorem dX0_init_23 : decode cX0_init 23 = .ok (.putfield 18, 3) := by decide +kernel
theorem dX0_init_26 : decode cX0_init 26 = .ok (.return_, 1) := by decide +kernel
theorem dX10_init_0 : decode cX10_init 0 = .ok (.aload_n 0, 1) := by decide +kernel
theorem dX10_init_1 : decode cX10_init 1 = .ok (.invokespecial 3, 3) := by decide +kernel
theorem dX10_init_4 : decode cX10_init 4 = .ok (.aload_n 0, 1) := by decide +kernel
theorem dX10_init_5 : decode cX10_init 5 = .ok (.bipush 40, 2) := by decide +kernel
theorem dX10_init_7 : decode cX10_init 7 = .ok (.newarray .int, 2) := by decide +kernel
theorem dX10_init_9 : decode cX10_init 9 = .ok (.putfield 9, 3) := by decide +kernel
theorem dX10_init_12 : decode cX10_init 12 = .ok (.aload_n 0, 1) := by decide +kernel
theorem dX10_init_13 : decode cX10_init 13 = .ok (.bipush 40, 2) := by decide +kernel
theorem dX10_init_15 : decode cX10_init 15 = .ok (.newarray .int, 2) := by decide +kernel
theorem dX10_init_17 : decode cX10_init 17 = .ok (.putfield 15, 3) := by decide +kernel
theorem dX10_init_20 : decode cX10_init 20 = .ok (.aload_n 0, 1) := by decide +kernel
theorem dX10_init_21 : decode cX10_init 21 = .ok (.bipush 40, 2) := by decide +kernel
theorem dX10_init_23 : decode cX10_init 23 = .ok (.newarray .int, 2) := by decide +kernel
theorem dX10_init_25 : decode cX10_init 25 = .ok (.putfield 18, 3) := by decide +kernel
theorem dX10_init_28 : decode cX10_init 28 = .ok (.aload_n 0, 1) := by decide +kernel
theorem dX10_init_29 : decode cX10_init 29 = .ok (.bipush 40, 2) := by decide +kernel
theorem dX10_init_31 : decode cX10_init 31 = .ok (.newarray .int, 2) := by decide +kernel
theorem dX10_init_33 : decode cX10_init 33 = .ok (.putfield 21, 3) := by decide +kernel
theorem dX10_init_36 : decode cX10_init 36 = .ok (.aload_n 0, 1) := by decide +kernel
theorem dX10_init_37 : decode cX10_init 37 = .ok (.bipush 40, 2) := by decide +kernel
theorem dX10_init_39 : decode cX10_init 39 = .ok (.newarray .int, 2) := by decide +kernel
theorem dX10_init_41 : decode cX10_init 41 = .ok (.putfield 24, 3) := by decide +kernel
theorem dX10_init_44 : decode cX10_init 44 = .ok (.aload_n 0, 1) := by decide +kernel
theorem dX10_init_45 : decode cX10_init 45 = .ok (.bipush 40, 2) := by decide +kernel
theorem dX10_init_47 : decode cX10_init 47 = .ok (.newarray .long, 2) := by decide +kernel
theorem dX10_init_49 : decode cX10_init 49 = .ok (.putfield 27, 3) := by decide +kernel
theorem dX10_init_52 : decode cX10_init 52 = .ok (.aload_n 0, 1) := by decide +kernel
theorem dX10_init_53 : decode cX10_init 53 = .ok (.bipush 40, 2) := by decide +kernel
theorem dX10_init_55 : decode cX10_init 55 = .ok (.newarray .int, 2) := by decide +kernel
theorem dX10_init_57 : decode cX10_init 57 = .ok (.putfield 31, 3) := by decide +kernel
theorem dX10_init_60 : decode cX10_init 60 = .ok (.return_, 1) := by decide +kernel
theorem dX11_init_0 : decode cX11_init 0 = .ok (.aload_n 0, 1) := by decide +kernel
theorem dX11_init_1 : decode cX11_init 1 = .ok (.invokespecial 3, 3) := by decide +kernel
theorem dX11_init_4 : decode cX11_init 4 = .ok (.aload_n 0, 1) := by decide +kernel
theorem dX11_init_5 : decode cX11_init 5 = .ok (.new 9, 3) := by decide +kernel
theorem dX11_init_8 : decode cX11_init 8 = .ok (.dup, 1) := by decide +kernel
theorem dX11_init_9 : decode cX11_init 9 = .ok (.invokespecial 11, 3) := by decide +kernel
theorem dX11_init_12 : decode cX11_init 12 = .ok (.putfield 12, 3) := by decide +kernel
theorem dX11_init_15 : decode cX11_init 15 = .ok (.aload_n 0, 1) := by decide +kernel
theorem dX11_init_16 : decode cX11_init 16 = .ok (.new 16, 3) := by decide +kernel
theorem dX11_init_19 : decode cX11_init 19 = .ok (.dup, 1) := by decide +kernel
theorem dX11_init_20 : decode cX11_init 20 = .ok (.invokespecial 18, 3) := by decide +kernel
theorem dX11_init_23 : decode cX11_init 23 = .ok (.putfield 19, 3) := by decide +kernel
theorem dX11_init_26 : decode cX11_init 26 = .ok (.aload_n 0, 1) := by decide +kernel
theorem dX11_init_27 : decode cX11_init 27 = .ok (.new 16, 3) := by decide +kernel
theorem dX11_init_30 : decode cX11_init 30 = .ok (.dup, 1) := by decide +kernel
theorem dX11_init_31 : decode cX11_init 31 = .ok (.invokespecial 18, 3) := by decide +kernel
theorem dX11_init_34 : decode cX11_init 34 = .ok (.putfield 23, 3) := by decide +kernel
theorem dX11_init_37 : decode cX11_init 37 = .ok (.aload_n 0, 1) := by decide +kernel
theorem dX11_init_38 : decode cX11_init 38 = .ok (.new 26, 3) := by decide +kernel
theorem dX11_init_41 : decode cX11_init 41 = .ok (.dup, 1) := by decide +kernel
theorem dX11_init_42 : decode cX11_init 42 = .ok (.invokespecial 28, 3) := by decide +kernel
theorem dX11_init_45 : decode cX11_init 45 = .ok (.putfield 29, 3) := by decide +kernel
theorem dX11_init_48 : decode cX11_init 48 = .ok (.aload_n 0, 1) := by decide +kernel
theorem dX11_init_49 : decode cX11_init 49 = .ok (.new 26, 3) := by decide +kernel
theorem dX11_init_52 : decode cX11_init 52 = .ok (.dup, 1) := by decide +kernel
theorem dX11_init_53 : decode cX11_init 53 = .ok (.invokespecial 28, 3) := by decide +kernel
theorem dX11_init_56 : decode cX11_init 56 = .ok (.putfield 33, 3) := by decide +kernel
theorem dX11_init_59 : decode cX11_init 59 = .ok (.aload_n 0, 1) := by decide +kernel
theorem dX11_init_60 : decode cX11_init 60 = .ok (.new 36, 3) := by decide +kernel
theorem dX11_init_63 : decode cX11_init 63 = .ok (.dup, 1) := by decide +kernel
theorem dX11_init_64 : decode cX11_init 64 = .ok (.invokespecial 38, 3) := by decide +kernel
theorem dX11_init_67 : decode cX11_init 67 = .ok (.putfield 39, 3) := by decide +kernel
theorem dX11_init_70 : decode cX11_init 70 = .ok (.aload_n 0, 1) := by decide +kernel
theorem dX11_init_71 : decode cX11_init 71 = .ok (.new 43, 3) := by decide +kernel
theorem dX11_init_74 : decode cX11_init 74 = .ok (.dup, 1) := by decide +kernel
theorem dX11_init_75 : decode cX11_init 75 = .ok (.invokespecial 45, 3) := by decide +kernel
theorem dX11_init_78 : decode cX11_init 78 = .ok (.putfield 46, 3) := by decide +kernel
theorem dX11_init_81 : decode cX11_init 81 = .ok (.aload_n 0, 1) := by decide +kernel
theorem dX11_init_82 : decode cX11_init 82 = .ok (.new 50, 3) := by decide +kernel
theorem dX11_init_85 : decode cX11_init 85 = .ok (.dup, 1) := by decide +kernel
theorem dX11_init_86 : decode cX11_init 86 = .ok (.invokespecial 52, 3) := by decide +kernel
theorem dX11_init_89 : decode cX11_init 89 = .ok (.putfield 53, 3) := by decide +kernel
theorem dX11_init_92 : decode cX11_init 92 = .ok (.aload_n 0, 1) := by decide +kernel
theorem dX11_init_93 : decode cX11_init 93 = .ok (.new 57, 3) := by decide +kernel
theorem dX11_init_96 : decode cX11_init 96 = .ok (.dup, 1) := by decide +kernel
theorem dX11_init_97 : decode cX11_init 97 = .ok (.invokespecial 59, 3) := by decide +kernel
theorem dX11_init_100 : decode cX11_init 100 = .ok (.putfield 60, 3) := by decide +kernel
theorem dX11_init_103 : decode cX11_init 103 = .ok (.aload_n 0, 1) := by decide +kernel
theorem dX11_init_104 : decode cX11_init 104 = .ok (.new 64, 3) := by decide +kernel
theorem dX11_init_107 : decode cX11_init 107 = .ok (.dup, 1) := by decide +kernel
theorem dX11_init_108 : decode cX11_init 108 = .ok (.invokespecial 66, 3) := by decide +kernel
theorem dX11_init_111 : decode cX11_init 111 = .ok (.putfield 67, 3) := by decide +kernel
theorem dX11_init_114 : decode cX11_init 114 = .ok (.aload_n 0, 1) := by decide +kernel
theorem dX11_init_115 : decode cX11_init 115 = .ok (.new 71, 3) := by decide +kernel
theorem dX11_init_118 : decode cX11_init 118 = .ok (.dup, 1) := by decide +kernel
theorem dX11_init_119 : decode cX11_init 119 = .ok (.invokespecial 73, 3) := by decide +kernel
theorem dX11_init_122 : decode cX11_init 122 = .ok (.putfield 74, 3) := by decide +kernel
theorem dX11_init_125 : decode cX11_init 125 = .ok (.aload_n 0, 1) := by decide +kernel
theorem dX11_init_126 : decode cX11_init 126 = .ok (.new 26, 3) := by decide +kernel
theorem dX11_init_129 : decode cX11_init 129 = .ok (.dup, 1) := by decide +kernel
theorem dX11_init_130 : decode cX11_init 130 = .ok (.invokespecial 28, 3) := by decide +kernel
theorem dX11_init_133 : decode cX11_init 133 = .ok (.putfield 78, 3) := by decide +kernel
theorem dX11_init_136 : decode cX11_init 136 = .ok (.aload_n 0, 1) := by decide +kernel
theorem dX11_init_137 : decode cX11_init 137 = .ok (.new 26, 3) := by decide +kernel
theorem dX11_init_140 : decode cX11_init 140 = .ok (.dup, 1) := by decide +kernel
theorem dX11_init_141 : decode cX11_init 141 = .ok (.invokespecial 28, 3) := by decide +kernel
theorem dX11_init_144 : decode cX11_init 144 = .ok (.putfield 81, 3) := by decide +kernel
theorem dX11_init_147 : decode cX11_init 147 = .ok (.aload_n 0, 1) := by decide +kernel
theorem dX11_init_148 : decode cX11_init 148 = .ok (.new 84, 3) := by decide +kernel
theorem dX11_init_151 : decode cX11_init 151 = .ok (.dup, 1) := by decide +kernel
theorem dX11_init_152 : decode cX11_init 152 = .ok (.invokespecial 86, 3) := by decide +kernel
theorem dX11_init_155 : decode cX11_init 155 = .ok (.putfield 87, 3) := by decide +kernel
theorem dX11_init_158 : decode cX11_init 158 = .ok (.aload_n 0, 1) := by decide +kernel
theorem dX11_init_159 : decode cX11_init 159 = .ok (.sipush 150, 3) := by decide +kernel
theorem dX11_init_162 : decode cX11_init 162 = .ok (.newarray .int, 2) := by decide +kernel
theorem dX11_init_164 : decode cX11_init 164 = .ok (.putfield 91, 3) := by decide +kernel
theorem dX11_init_167 : decode cX11_init 167 = .ok (.aload_n 0, 1) := by decide +kernel
theorem dX11_init_168 : decode cX11_init 168 = .ok (.sipush 450, 3) := by decide +kernel
theorem dX11_init_171 : decode cX11_init 171 = .ok (.newarray .int, 2) := by decide +kernel
theorem dX11_init_173 : decode cX11_init 173 = .ok (.putfield 95, 3) := by decide +kernel
theorem dX11_init_176 : decode cX11_init 176 = .ok (.aload_n 0, 1) := by decide +kernel
theorem dX11_init_177 : decode cX11_init 177 = .ok (.bipush 40, 2) := by decide +kernel
theorem dX11_init_179 : decode cX11_init 179 = .ok (.newarray .int, 2) := by decide +kernel
theorem dX11_init_181 : decode cX11_init 181 = .ok (.putfield 98, 3) := by decide +kernel
theorem dX11_init_184 : decode cX11_init 184 = .ok (.return_, 1) := by decide +kernel
theorem dX1_init_0 : decode cX1_init 0 = .ok (.aload_n 0, 1) := by decide +kernel
theorem dX1_init_1 : decode cX1_init 1 = .ok (.invokespecial 3, 3) := by decide +kernel
theorem dX1_init_4 : decode cX1_init 4 = .ok (.aload_n 0, 1) := by decide +kernel
theorem dX1_init_5 : decode cX1_init 5 = .ok (.bipush 12, 2) := by decide +kernel
theorem dX1_init_7 : decode cX1_init 7 = .ok (.anewarray 9, 3) := by decide +kernel
theorem dX1_init_10 : decode cX1_init 10 = .ok (.putfield 11, 3) := by decide +kernel
theorem dX1_init_13 : decode cX1_init 13 = .ok (.aload_n 0, 1) := by decide +kernel
theorem dX1_init_14 : decode cX1_init 14 = .ok (.bipush 12, 2) := by decide +kernel
theorem dX1_init_16 : decode cX1_init 16 = .ok (.newarray .int, 2) := by decide +kernel
theorem dX1_init_18 : decode cX1_init 18 = .ok (.putfield 17, 3) := by decide +kernel
theorem dX1_init_21 : decode cX1_init 21 = .ok (.aload_n 0, 1) := by decide +kernel
theorem dX1_init_22 : decode cX1_init 22 = .ok (.bipush 12, 2) := by decide +kernel
theorem dX1_init_24 : decode cX1_init 24 = .ok (.newarray .int, 2) := by decide +kernel
theorem dX1_init_26 : decode cX1_init 26 = .ok (.putfield 21, 3) := by decide +kernel
theorem dX1_init_29 : decode cX1_init 29 = .ok (.aload_n 0, 1) := by decide +kernel
theorem dX1_init_30 : decode cX1_init 30 = .ok (.bipush 12, 2) := by decide +kernel
theorem dX1_init_32 : decode cX1_init 32 = .ok (.newarray .int, 2) := by decide +kernel
theorem dX1_init_34 : decode cX1_init 34 = .ok (.putfield 24, 3) := by decide +kernel
theorem dX1_init_37 : decode cX1_init 37 = .ok (.return_, 1) := by decide +kernel
theorem dX2_init_0 : decode cX2_init 0 = .ok (.aload_n 0, 1) := by decide +kernel
theorem dX2_init_1 : decode cX2_init 1 = .ok (.invokespecial 3, 3) := by decide +kernel
theorem dX2_init_4 : decode cX2_init 4 = .ok (.aload_n 0, 1) := by decide +kernel
theorem dX2_init_5 : decode cX2_init 5 = .ok (.sipush 500, 3) := by decide +kernel
theorem dX2_init_8 : decode cX2_init 8 = .ok (.newarray .int, 2) := by decide +kernel
theorem dX2_init_10 : decode cX2_init 10 = .ok (.putfield 9, 3) := by decide +kernel
theorem dX2_init_13 : decode cX2_init 13 = .ok (.aload_n 0, 1) := by decide +kernel
theorem dX2_init_14 : decode cX2_init 14 = .ok (.bipush 10, 2) := by decide +kernel
theorem dX2_init_16 : decode cX2_init 16 = .ok (.newarray .int, 2) := by decide +kernel
theorem dX2_init_18 : decode cX2_init 18 = .ok (.putfield 15, 3) := by decide +kernel
theorem dX2_init_21 : decode cX2_init 21 = .ok (.aload_n 0, 1) := by decide +kernel
theorem dX2_init_22 : decode cX2_init 22 = .ok (.bipush 10, 2) := by decide +kernel
theorem dX2_init_24 : decode cX2_init 24 = .ok (.newarray .int, 2) := by decide +kernel
theorem dX2_init_26 : decode cX2_init 26 = .ok (.putfield 18, 3) := by decide +kernel
theorem dX2_init_29 : decode cX2_init 29 = .ok (.aload_n 0, 1) := by decide +kernel
theorem dX2_init_30 : decode cX2_init 30 = .ok (.bipush 10, 2) := by decide +kernel
theorem dX2_init_32 : decode cX2_init 32 = .ok (.newarray .int, 2) := by decide +kernel
theorem dX2_init_34 : decode cX2_init 34 = .ok (.putfield 21, 3) := by decide +kernel
theorem dX2_init_37 : decode cX2_init 37 = .ok (.aload_n 0, 1) := by decide +kernel
theorem dX2_init_38 : decode cX2_init 38 = .ok (.bipush 10, 2) := by decide +kernel
theorem dX2_init_40 : decode cX2_init 40 = .ok (.newarray .int, 2) := by decide +kernel
theorem dX2_init_42 : decode cX2_init 42 = .ok (.putfield 24, 3) := by decide +kernel
theorem dX2_init_45 : decode cX2_init 45 = .ok (.aload_n 0, 1) := by decide +kernel
theorem dX2_init_46 : decode cX2_init 46 = .ok (.bipush 10, 2) := by decide +kernel
theorem dX2_init_48 : decode cX2_init 48 = .ok (.newarray .int, 2) := by decide +kernel
theorem dX2_init_50 : decode cX2_init 50 = .ok (.putfield 27, 3) := by decide +kernel
theorem dX2_init_53 : decode cX2_init 53 = .ok (.aload_n 0, 1) := by decide +kernel
theorem dX2_init_54 : decode cX2_init 54 = .ok (.sipush 500, 3) := by decide +kernel
theorem dX2_init_57 : decode cX2_init 57 = .ok (.newarray .int, 2) := by decide +kernel
theorem dX2_init_59 : decode cX2_init 59 = .ok (.putfield 30, 3) := by decide +kernel
theorem dX2_init_62 : decode cX2_init 62 = .ok (.aload_n 0, 1) := by decide +kernel
theorem dX2_init_63 : decode cX2_init 63 = .ok (.sipush 500, 3) := by decide +kernel
theorem dX2_init_66 : decode cX2_init 66 = .ok (.newarray .int, 2) := by decide +kernel
theorem dX2_init_68 : decode cX2_init 68 = .ok (.putfield 33, 3) := by decide +kernel
theorem dX2_init_71 : decode cX2_init 71 = .ok (.aload_n 0, 1) := by decide +kernel
theorem dX2_init_72 : decode cX2_init 72 = .ok (.sipush 500, 3) := by decide +kernel
theorem dX2_init_75 : decode cX2_init 75 = .ok (.newarray .int, 2) := by decide +kernel
theorem dX2_init_77 : decode cX2_init 77 = .ok (.putfield 36, 3) := by decide +kernel
theorem dX2_init_80 : decode cX2_init 80 = .ok (.aload_n 0, 1) := by decide +kernel
theorem dX2_init_81 : decode cX2_init 81 = .ok (.sipush 500, 3) := by decide +kernel
theorem dX2_init_84 : decode cX2_init 84 = .ok (.newarray .int, 2) := by decide +kernel
theorem dX2_init_86 : decode cX2_init 86 = .ok (.putfield 39, 3) := by decide +kernel
theorem dX2_init_89 : decode cX2_init 89 = .ok (.aload_n 0, 1) := by decide +kernel
theorem dX2_init_90 : decode cX2_init 90 = .ok (.sipush 501, 3) := by decide +kernel
theorem dX2_init_93 : decode cX2_init 93 = .ok (.newarray .int, 2) := by decide +kernel
theorem dX2_init_95 : decode cX2_init 95 = .ok (.putfield 42, 3) := by decide +kernel
theorem dX2_init_98 : decode cX2_init 98 = .ok (.return_, 1) := by decide +kernel
theorem dX3_init_0 : decode cX3_init 0 = .ok (.aload_n 0, 1) := by decide +kernel
theorem dX3_init_1 : decode cX3_init 1 = .ok (.invokespecial 3, 3) := by decide +kernel
theorem dX3_init_4 : decode cX3_init 4 = .ok (.aload_n 0, 1) := by decide +kernel
theorem dX3_init_5 : decode cX3_init 5 = .ok (.bipush 40, 2) := by decide +kernel
theorem dX3_init_7 : decode cX3_init 7 = .ok (.newarray .int, 2) := by decide +kernel
theorem dX3_init_9 : decode cX3_init 9 = .ok (.putfield 9, 3) := by decide +kernel
theorem dX3_init_12 : decode cX3_init 12 = .ok (.aload_n 0, 1) := by decide +kernel
theorem dX3_init_13 : decode cX3_init 13 = .ok (.bipush 40, 2) := by decide +kernel
theorem dX3_init_15 : decode cX3_init 15 = .ok (.newarray .long, 2) := by decide +kernel
theorem dX3_init_17 : decode cX3_init 17 = .ok (.putfield 15, 3) := by decide +kernel
theorem dX3_init_20 : decode cX3_init 20 = .ok (.return_, 1) := by decide +kernel
theorem dX4_init_0 : decode cX4_init 0 = .ok (.aload_n 0, 1) := by decide +kernel
theorem dX4_init_1 : decode cX4_init 1 = .ok (.invokespecial 3, 3) := by decide +kernel
theorem dX4_init_4 : decode cX4_init 4 = .ok (.aload_n 0, 1) := by decide +kernel
theorem dX4_init_5 : decode cX4_init 5 = .ok (.new 9, 3) := by decide +kernel
theorem dX4_init_8 : decode cX4_init 8 = .ok (.dup, 1) := by decide +kernel
theorem dX4_init_9 : decode cX4_init 9 = .ok (.invokespecial 11, 3) := by decide +kernel
theorem dX4_init_12 : decode cX4_init 12 = .ok (.putfield 12, 3) := by decide +kernel
theorem dX4_init_15 : decode cX4_init 15 = .ok (.aload_n 0, 1) := by decide +kernel
theorem dX4_init_16 : decode cX4_init 16 = .ok (.new 9, 3) := by decide +kernel
theorem dX4_init_19 : decode cX4_init 19 = .ok (.dup, 1) := by decide +kernel
theorem dX4_init_20 : decode cX4_init 20 = .ok (.invokespecial 11, 3) := by decide +kernel
theorem dX4_init_23 : decode cX4_init 23 = .ok (.putfield 18, 3) := by decide +kernel
theorem dX4_init_26 : decode cX4_init 26 = .ok (.aload_n 0, 1) := by decide +kernel
theorem dX4_init_27 : decode cX4_init 27 = .ok (.bipush 40, 2) := by decide +kernel
theorem dX4_init_29 : decode cX4_init 29 = .ok (.newarray .int, 2) := by decide +kernel
theorem dX4_init_31 : decode cX4_init 31 = .ok (.putfield 21, 3) := by decide +kernel
theorem dX4_init_34 : decode cX4_init 34 = .ok (.aload_n 0, 1) := by decide +kernel
theorem dX4_init_35 : decode cX4_init 35 = .ok (.bipush 40, 2) := by decide +kernel
theorem dX4_init_37 : decode cX4_init 37 = .ok (.newarray .int, 2) := by decide +kernel
theorem dX4_init_39 : decode cX4_init 39 = .ok (.putfield 25, 3) := by decide +kernel
theorem dX4_init_42 : decode cX4_init 42 = .ok (.aload_n 0, 1) := by decide +kernel
theorem dX4_init_43 : decode cX4_init 43 = .ok (.bipush 40, 2) := by decide +kernel
theorem dX4_init_45 : decode cX4_init 45 = .ok (.newarray .int, 2) := by decide +kernel
theorem dX4_init_47 : decode cX4_init 47 = .ok (.putfield 28, 3) := by decide +kernel
theorem dX4_init_50 : decode cX4_init 50 = .ok (.return_, 1) := by decide +kernel
theorem dX5_init_0 : decode cX5_init 0 = .ok (.aload_n 0, 1) := by decide +kernel
theorem dX5_init_1 : decode cX5_init 1 = .ok (.invokespecial 3, 3) := by decide +kernel
theorem dX5_init_4 : decode cX5_init 4 = .ok (.aload_n 0, 1) := by decide +kernel
theorem dX5_init_5 : decode cX5_init 5 = .ok (.new 9, 3) := by decide +kernel
theorem dX5_init_8 : decode cX5_init 8 = .ok (.dup, 1) := by decide +kernel
theorem dX5_init_9 : decode cX5_init 9 = .ok (.invokespecial 11, 3) := by decide +kernel
theorem dX5_init_12 : decode cX5_init 12 = .ok (.putfield 12, 3) := by decide +kernel
theorem dX5_init_15 : decode cX5_init 15 = .ok (.aload_n 0, 1) := by decide +kernel
theorem dX5_init_16 : decode cX5_init 16 = .ok (.new 9, 3) := by decide +kernel
theorem dX5_init_19 : decode cX5_init 19 = .ok (.dup, 1) := by decide +kernel
theorem dX5_init_20 : decode cX5_init 20 = .ok (.invokespecial 11, 3) := by decide +kernel
theorem dX5_init_23 : decode cX5_init 23 = .ok (.putfield 18, 3) := by decide +kernel
theorem dX5_init_26 : decode cX5_init 26 = .ok (.aload_n 0, 1) := by decide +kernel
theorem dX5_init_27 : decode cX5_init 27 = .ok (.new 9, 3) := by decide +kernel
theorem dX5_init_30 : decode cX5_init 30 = .ok (.dup, 1) := by decide +kernel
theorem dX5_init_31 : decode cX5_init 31 = .ok (.invokespecial 11, 3) := by decide +kernel
theorem dX5_init_34 : decode cX5_init 34 = .ok (.putfield 21, 3) := by decide +kernel
theorem dX5_init_37 : decode cX5_init 37 = .ok (.aload_n 0, 1) := by decide +kernel
theorem dX5_init_38 : decode cX5_init 38 = .ok (.new 24, 3) := by decide +kernel
theorem dX5_init_41 : decode cX5_init 41 = .ok (.dup, 1) := by decide +kernel
theorem dX5_init_42 : decode cX5_init 42 = .ok (.invokespecial 26, 3) := by decide +kernel
theorem dX5_init_45 : decode cX5_init 45 = .ok (.putfield 27, 3) := by decide +kernel
theorem dX5_init_48 : decode cX5_init 48 = .ok (.aload_n 0, 1) := by decide +kernel
theorem dX5_init_49 : decode cX5_init 49 = .ok (.new 24, 3) := by decide +kernel
theorem dX5_init_52 : decode cX5_init 52 = .ok (.dup, 1) := by decide +kernel
theorem dX5_init_53 : decode cX5_init 53 = .ok (.invokespecial 26, 3) := by decide +kernel
theorem dX5_init_56 : decode cX5_init 56 = .ok (.putfield 31, 3) := by decide +kernel
theorem dX5_init_59 : decode cX5_init 59 = .ok (.aload_n 0, 1) := by decide +kernel
theorem dX5_init_60 : decode cX5_init 60 = .ok (.sipush 150, 3) := by decide +kernel
theorem dX5_init_63 : decode cX5_init 63 = .ok (.newarray .int, 2) := by decide +kernel
theorem dX5_init_65 : decode cX5_init 65 = .ok (.putfield 34, 3) := by decide +kernel
theorem dX5_init_68 : decode cX5_init 68 = .ok (.aload_n 0, 1) := by decide +kernel
theorem dX5_init_69 : decode cX5_init 69 = .ok (.sipush 150, 3) := by decide +kernel
theorem dX5_init_72 : decode cX5_init 72 = .ok (.newarray .int, 2) := by decide +kernel
theorem dX5_init_74 : decode cX5_init 74 = .ok (.putfield 38, 3) := by decide +kernel
theorem dX5_init_77 : decode cX5_init 77 = .ok (.aload_n 0, 1) := by decide +kernel
theorem dX5_init_78 : decode cX5_init 78 = .ok (.sipush 150, 3) := by decide +kernel
theorem dX5_init_81 : decode cX5_init 81 = .ok (.newarray .int, 2) := by decide +kernel
theorem dX5_init_83 : decode cX5_init 83 = .ok (.putfield 41, 3) := by decide +kernel
theorem dX5_init_86 : decode cX5_init 86 = .ok (.aload_n 0, 1) := by decide +kernel
theorem dX5_init_87 : decode cX5_init 87 = .ok (.sipush 150, 3) := by decide +kernel
theorem dX5_init_90 : decode cX5_init 90 = .ok (.newarray .int, 2) := by decide +kernel
theorem dX5_init_92 : decode cX5_init 92 = .ok (.putfield 44, 3) := by decide +kernel
theorem dX5_init_95 : decode cX5_init 95 = .ok (.aload_n 0, 1) := by decide +kernel
theorem dX5_init_96 : decode cX5_init 96 = .ok (.sipush 150, 3) := by decide +kernel
theorem dX5_init_99 : decode cX5_init 99 = .ok (.newarray .long, 2) := by decide +kernel
theorem dX5_init_101 : decode cX5_init 101 = .ok (.putfield 47, 3) := by decide +kernel
theorem dX5_init_104 : decode cX5_init 104 = .ok (.aload_n 0, 1) := by decide +kernel
theorem dX5_init_105 : decode cX5_init 105 = .ok (.bipush 40, 2) := by decide +kernel
theorem dX5_init_107 : decode cX5_init 107 = .ok (.newarray .int, 2) := by decide +kernel
theorem dX5_init_109 : decode cX5_init 109 = .ok (.putfield 51, 3) := by decide +kernel
theorem dX5_init_112 : decode cX5_init 112 = .ok (.aload_n 0, 1) := by decide +kernel
theorem dX5_init_113 : decode cX5_init 113 = .ok (.sipush 1600, 3) := by decide +kernel
theorem dX5_init_116 : decode cX5_init 116 = .ok (.newarray .int, 2) := by decide +kernel
theorem dX5_init_118 : decode cX5_init 118 = .ok (.putfield 54, 3) := by decide +kernel
theorem dX5_init_121 : decode cX5_init 121 = .ok (.aload_n 0, 1) := by decide +kernel
theorem dX5_init_122 : decode cX5_init 122 = .ok (.bipush 40, 2) := by decide +kernel
theorem dX5_init_124 : decode cX5_init 124 = .ok (.newarray .int, 2) := by decide +kernel
theorem dX5_init_126 : decode cX5_init 126 = .ok (.putfield 57, 3) := by decide +kernel
theorem dX5_init_129 : decode cX5_init 129 = .ok (.return_, 1) := by decide +kernel
theorem dX6_init_0 : decode cX6_init 0 = .ok (.aload_n 0, 1) := by decide +kernel
theorem dX6_init_1 : decode cX6_init 1 = .ok (.invokespecial 3, 3) := by decide +kernel
theorem dX6_init_4 : decode cX6_init 4 = .ok (.return_, 1) := by decide +kernel
theorem dX7_init_0 : decode cX7_init 0 = .ok (.aload_n 0, 1) := by decide +kernel
theorem dX7_init_1 : decode cX7_init 1 = .ok (.invokespecial 3, 3) := by decide +kernel
theorem dX7_init_4 : decode cX7_init 4 = .ok (.aload_n 0, 1) := by decide +kernel
theorem dX7_init_5 : decode cX7_init 5 = .ok (.sipush 450, 3) := by decide +kernel
theorem dX7_init_8 : decode cX7_init 8 = .ok (.newarray .int, 2) := by decide +kernel
theorem dX7_init_10 : decode cX7_init 10 = .ok (.putfield 9, 3) := by decide +kernel
theorem dX7_init_13 : decode cX7_init 13 = .ok (.return_, 1) := by decide +kernel
theorem dX8_init_0 : decode cX8_init 0 = .ok (.aload_n 0, 1) := by decide +kernel
theorem dX8_init_1 : decode cX8_init 1 = .ok (.invokespecial 3, 3) := by decide +kernel
theorem dX8_init_4 : decode cX8_init 4 = .ok (.aload_n 0, 1) := by decide +kernel
theorem dX8_init_5 : decode cX8_init 5 = .ok (.new 9, 3) := by decide +kernel
theorem dX8_init_8 : decode cX8_init 8 = .ok (.dup, 1) := by decide +kernel
theorem dX8_init_9 : decode cX8_init 9 = .ok (.invokespecial 11, 3) := by decide +kernel
theorem dX8_init_12 : decode cX8_init 12 = .ok (.putfield 12, 3) := by decide +kernel
theorem dX8_init_15 : decode cX8_init 15 = .ok (.aload_n 0, 1) := by decide +kernel
theorem dX8_init_16 : decode cX8_init 16 = .ok (.sipush 150, 3) := by decide +kernel
theorem dX8_init_19 : decode cX8_init 19 = .ok (.newarray .int, 2) := by decide +kernel
theorem dX8_init_21 : decode cX8_init 21 = .ok (.putfield 18, 3) := by decide +kernel
theorem dX8_init_24 : decode cX8_init 24 = .ok (.aload_n 0, 1) := by decide +kernel
theorem dX8_init_25 : decode cX8_init 25 = .ok (.bipush 40, 2) := by decide +kernel
theorem dX8_init_27 : decode cX8_init 27 = .ok (.newarray .int, 2) := by decide +kernel
theorem dX8_init_29 : decode cX8_init 29 = .ok (.putfield 22, 3) := by decide +kernel
theorem dX8_init_32 : decode cX8_init 32 = .ok (.return_, 1) := by decide +kernel
theorem dX9_init_0 : decode cX9_init 0 = .ok (.aload_n 0, 1) := by decide +kernel
theorem dX9_init_1 : decode cX9_init 1 = .ok (.invokespecial 3, 3) := by decide +kernel
theorem dX9_init_4 : decode cX9_init 4 = .ok (.aload_n 0, 1) := by decide +kernel
theorem dX9_init_5 : decode cX9_init 5 = .ok (.sipush 500, 3) := by decide +kernel
theorem dX9_init_8 : decode cX9_init 8 = .ok (.newarray .int, 2) := by decide +kernel
theorem dX9_init_10 : decode cX9_init 10 = .ok (.putfield 9, 3) := by decide +kernel
theorem dX9_init_13 : decode cX9_init 13 = .ok (.return_, 1) := by decide +kernel
end
section
/-! plain facts on numbers and arrays, to paste: each family by itself; over the kit's rows on nI and upd -/
/-! ===== order of ints, in all its forms, and through longs ===== -/
theorem fa_lt (a b : Int32) : a < b ↔ a.toInt < b.toInt := Int32.lt_iff_toInt_lt
theorem fa_le (a b : Int32) : a ≤ b ↔ a.toInt ≤ b.toInt := Int32.le_iff_toInt_le
theorem fa_eq (a b : Int32) : a = b ↔ a.toInt = b.toInt := Int32.toInt_inj.symm
theorem fa_lt64 (a b : Int64) : a < b ↔ a.toInt < b.toInt := Int64.lt_iff_toInt_lt
theorem fa_le64 (a b : Int64) : a ≤ b ↔ a.toInt ≤ b.toInt := Int64.le_iff_toInt_le
theorem fa_eq64 (a b : Int64) : a = b ↔ a.toInt = b.toInt := Int64.toInt_inj.symm
/-- a comparison of two ints taken as longs -/
theorem fa_wide_lt (a b : Int32) : a.toInt64 < b.toInt64 ↔ a < b := by rw [fa_lt64, fa_lt, Int32.toInt_toInt64, Int32.toInt_toInt64]
theorem fa_wide_le (a b : Int32) : a.toInt64 ≤ b.toInt64 ↔ a ≤ b := by rw [fa_le64, fa_le, Int32.toInt_toInt64, Int32.toInt_toInt64]
theorem fa_wide_eq (a b : Int32) : a.toInt64 = b.toInt64 ↔ a = b := by rw [fa_eq64, fa_eq, Int32.toInt_toInt64, Int32.toInt_toInt64]
/-- one strict comparison gives all the others -/
theorem fa_of_lt {a b : Int32} (h : a < b) : a ≤ b ∧ ¬ b ≤ a ∧ ¬ b < a ∧ a ≠ b ∧ b ≠ a := by
  rw [fa_lt] at h
  refine ⟨?_, ?_, ?_, ?_, ?_⟩
  · rw [fa_le]; omega
  · rw [fa_le]; omega
  · rw [fa_lt]; omega
  · intro e; rw [fa_eq] at e; omega
  · intro e; rw [fa_eq] at e; omega
theorem fa_of_nlt {a b : Int32} (h : ¬ a < b) : b ≤ a := by
  rw [fa_lt] at h
  rw [fa_le]
  omega
theorem fa_of_nle {a b : Int32} (h : ¬ a ≤ b) : b < a := by
  rw [fa_le] at h
  rw [fa_lt]
  omega
theorem fa_le_ne {a b : Int32} (h : a ≤ b) (h2 : a ≠ b) : a < b := by
  rw [fa_le] at h
  rw [fa_lt]
  have h3 : a.toInt ≠ b.toInt := fun e => h2 ((fa_eq a b).mpr e)
  omega
theorem fa_three (a b : Int32) : a < b ∨ a = b ∨ b < a := by
  rw [fa_lt, fa_lt, fa_eq]
  omega
theorem fa_trans {a b c : Int32} (h : a < b) (h2 : b ≤ c) : a < c := by
  rw [fa_lt] at *
  rw [fa_le] at h2
  omega
/-! THE BASE: one list of words for all contracts, one form of contract (the answer and the cells behind it said outright), one row a call. -/
def cx_big : List Cond := lw_tbl.filter goodWord
theorem cx_bigIn {w : Cond} (h : w ∈ lw_tbl) (g : goodWord w = true) : w ∈ cx_big := List.mem_filter.mpr ⟨h, g⟩
theorem cx_tb {w : Cond} (i : Nat) (h : tables_1[i]? = some w) (g : goodWord w = true) : w ∈ cx_big := cx_bigIn (List.mem_append_right _ (List.mem_of_getElem? h)) g
theorem cx_tp {w : Cond} (i : Nat) (h : (k2_sels lw_privs)[i]? = some w) (g : goodWord w = true) : w ∈ cx_big := cx_bigIn (List.mem_append_left _ (List.mem_of_getElem? h)) g
theorem cx_ok {w : Cond} (h : w ∈ cx_big) : (w.onTables && w.keeps) = true ∨ ∃ ty, w = .arrayClass ty := good_of_word (List.mem_filter.mp h).2
theorem cx_gB : GoodIn cx_big cx_big := fun _ h => ⟨h, cx_ok h⟩
theorem cx_gC {y : MethodName} {b : ByteArray} {n : Nat} {r : Option FieldType} (h : Cond.code y b n r ∈ cx_big) : GoodIn cx_big (Cond.code y b n r :: cx_big) := fun w hw => by
  rcases List.mem_cons.mp hw with e | h2
  · subst e; exact ⟨h, cx_ok h⟩
  · exact cx_gB w h2
theorem cx_gV {own C : String} {idx : Nat} {y : MethodName} {b : ByteArray} {n : Nat} {r : Option FieldType} (h1 : Cond.methodLink own idx y ∈ cx_big) (h2 : Cond.instanceMethod y ∈ cx_big) (h3 : Cond.selects C y y ∈ cx_big) (h4 : Cond.initialized C ∈ cx_big) (h5 : Cond.code y b n r ∈ cx_big) : GoodIn cx_big (wsV own idx C y (Cond.code y b n r :: cx_big)) := fun w hw => by
  unfold wsV at hw
  rcases List.mem_append.mp hw with h | h
  · simp only [List.mem_cons, List.not_mem_nil, or_false] at h
    rcases h with e | e | e | e <;> subst e
    · exact ⟨h1, cx_ok h1⟩
    · exact ⟨h2, cx_ok h2⟩
    · exact ⟨h3, cx_ok h3⟩
    · exact ⟨h4, cx_ok h4⟩
  · exact cx_gC h5 w h
theorem cx_gS {own : String} {idx : Nat} {y : MethodName} {b : ByteArray} {n : Nat} {r : Option FieldType} (h1 : Cond.methodLink own idx y ∈ cx_big) (h2 : Cond.static y ∈ cx_big) (h4 : Cond.initialized own ∈ cx_big) (h5 : Cond.code y b n r ∈ cx_big) : GoodIn cx_big (wsS own idx y (Cond.code y b n r :: cx_big)) := fun w hw => by
  unfold wsS at hw
  rcases List.mem_append.mp hw with h | h
  · simp only [List.mem_cons, List.not_mem_nil, or_false] at h
    rcases h with e | e | e <;> subst e
    · exact ⟨h1, cx_ok h1⟩
    · exact ⟨h2, cx_ok h2⟩
    · exact ⟨h4, cx_ok h4⟩
  · exact cx_gC h5 w h
/-- the words of nest mates (not such as a list of words may hold), and of the arrays over objects and arrays -/
def cx_NW (U : State) : Prop := (∀ q ∈ cx_nest, va_Nw (.methodLinkNest q.1 q.2.1 q.2.2 "TreeMerge") U) ∧ va_AO "TreeMerge$Tree" U
theorem cx_NW.warm {s U : State} (hW : s.WarmedH U.vm) (h : cx_NW s) : cx_NW U := ⟨fun q hq => va_Nw.warmM hW (h.1 q hq), va_AO.moved hW.alike h.2⟩
theorem cx_NW.same {u U : State} (hvm : u.vm = U.vm) (h : cx_NW u) : cx_NW U := by
  have ha : u.vm.Alike U.vm := by rw [hvm]; exact Vm.Alike.refl _
  exact ⟨fun q hq => va_Nw.same rfl hvm (h.1 q hq), va_AO.moved ha h.2⟩
/-- the array classes, by their places -/
def cx_TY (cs : Nat → ClassId) : List (ClassId × FieldType) := [(cs 0, .int), (cs 1, .long), (cs 2, .byte), (cs 3, .boolean)]
def cx_P (D : va_G) (cs : Nat → ClassId) (av : List Value) (wc : va_W) (sz : Nat) : Array Value → State → Prop := va_Pc av (fun U => U.heap.size = sz ∧ va_P D vwCl wc U.heap ∧ va_K D vwCl (cx_TY cs) U ∧ va_D (fun _ => True) wc ∧ cx_NW U)
def cx_Q (D : va_G) (v : Option Value) (w1 : (Nat → Nat) → va_W) (A : Nat → Prop) : Array Value → State → Outcome → State → Prop := fun _ st oc t => (∃ u : Nat → Nat, oc = .returned v ∧ va_P D vwCl (w1 u) t.heap ∧ va_D A (w1 u)) ∧ va_F A st t
theorem cx_P.blind {D : va_G} {cs : Nat → ClassId} {av : List Value} {wc : va_W} {sz : Nat} : FrameBlind (cx_P D cs av wc sz) := fun a U g mk q => by
  obtain ⟨q0, q1, qP, qK, qD, qN⟩ := q
  exact ⟨q0, q1, qP, va_K.moved (u := U) (U := U.calling g mk a) (Vm.Alike.refl U.vm) qK, qD, cx_NW.same (u := U) (U := U.calling g mk a) rfl qN⟩
theorem cx_P.at {D : va_G} {cs : Nat → ClassId} {av : List Value} {wc : va_W} {A : Nat → Prop} {s : State} {H : Heap} (hP : va_P D vwCl wc H) (hD : va_D A wc) (hK : va_K D vwCl (cx_TY cs) s) (hN : cx_NW s) : ∀ U : State, U.heap = H → s.WarmedH U.vm → cx_P D cs av wc H.size av.toArray U := fun U hU hW =>
  ⟨rfl, by rw [hU], by rw [hU]; exact hP, va_K.moved hW.alike hK, hD.weaken (fun _ _ _ _ => trivial), hN.warm hW⟩
theorem cx_sub {ws wc : va_W} {isC : List Nat} (h : isC.map (fun i => ws[i]?) = wc.map some) : isC.filterMap (fun i => ws[i]?) = wc := by
  have e : isC.filterMap (fun i => ws[i]?) = (isC.map (fun i => ws[i]?)).filterMap id := by rw [List.filterMap_map]; rfl
  rw [e, h, List.filterMap_map]
  simp
theorem cx_inT {C : String} {T : u_T} {N : Nat} (ix : List Nat) (h : ∀ k, k < N → tables_1[ix.getD k 0]? = some (u_lay C T k)) (g : ∀ k, k < N → goodWord (u_lay C T k) = true) : ∀ w ∈ u_ws C T N, w ∈ cx_big := fun w hw => by
  unfold u_ws at hw
  obtain ⟨k, hk, rfl⟩ := List.mem_map.mp hw
  have hk2 := List.mem_range.mp hk
  exact cx_tb _ (h k hk2) (g k hk2)
theorem cx_ra_int {s : State} (c1 c2 : ClassId) (h1 : va_RA s c1 .int) (h2 : va_RA s c2 .int) : c1 = c2 := Option.some.inj ((show s.vm.findClass _ = some c1 from h1).symm.trans (show s.vm.findClass _ = some c2 from h2))
theorem cx_ra_long {s : State} (c1 c2 : ClassId) (h1 : va_RA s c1 .long) (h2 : va_RA s c2 .long) : c1 = c2 := Option.some.inj ((show s.vm.findClass _ = some c1 from h1).symm.trans (show s.vm.findClass _ = some c2 from h2))
theorem cx_ra_byte {s : State} (c1 c2 : ClassId) (h1 : va_RA s c1 .byte) (h2 : va_RA s c2 .byte) : c1 = c2 := Option.some.inj ((show s.vm.findClass _ = some c1 from h1).symm.trans (show s.vm.findClass _ = some c2 from h2))
theorem cx_ra_boolean {s : State} (c1 c2 : ClassId) (h1 : va_RA s c1 .boolean) (h2 : va_RA s c2 .boolean) : c1 = c2 := Option.some.inj ((show s.vm.findClass _ = some c1 from h1).symm.trans (show s.vm.findClass _ = some c2 from h2))
def cx_uo (l : List Nat) : Nat → Nat := fun k => l.getD k 0
section CX
variable {p : Program} {l : Launch} {e : Env} {R : Room} {s : State} {m : MethodId} {args : Array Value} {below : List Frame} {meth : Method} {c : Code} {H : Heap} {locs : List Loc} {cells slots : Nat} {Q : State → Prop} {cc : ByteArray} {pc : Nat} {ls : Array Slot} {rest st0 : List Value} {D : va_G} {A : Nat → Prop} {ws : va_W} {H0 : Heap} {cs : Nat → ClassId}
variable {y : MethodName} {bytes : ByteArray} {maxL nL mc ms n index : Nat} {ret : Option FieldType} {rm : Room} {own : String} {wc wr : va_W} {v : Option Value} {w1 : (Nat → Nat) → va_W}
theorem cx_topi {x w : Int32} (h : x = w) (k : W p l e R s m args below meth c H locs cells slots Q (F0 m pc ls (.int w :: rest))) : W p l e R s m args below meth c H locs cells slots Q (F0 m pc ls (.int x :: rest)) := h ▸ k
theorem cx_topl {x w : Int64} (h : x = w) (k : W p l e R s m args below meth c H locs cells slots Q (F0 m pc ls (.long w :: rest))) : W p l e R s m args below meth c H locs cells slots Q (F0 m pc ls (.long x :: rest)) := h ▸ k
theorem cx_in {i : Int32} {k : Nat} (h : decide (¬ (i < 0 ∨ k ≤ i.toNatClampNeg)) = true) : vp_in i k := by
  unfold vp_in
  exact of_decide_eq_true h
/-- a method's contract, out of the walk of its body -/
theorem cx_ofW {av : List Value} {sz : Nat} (hy : plainName y.cls = true) (hlen : (lg_sl av).length ≤ maxL)
    (body : ∀ (p : Program) (e : Env) (s : State) (m : MethodId) (below : List Frame) (meth : Method) (c : Code) (A : Nat → Prop) (ls : Array Slot), p.tables.exec = Jvm.exec → c.code = bytes → meth.sig.returnType = ret → c.maxLocals = maxL → (∀ w ∈ cx_big, w.before av.toArray s = true) → s.vm.findClass y.cls = some m.cls → meth.locks = false → meth.name = y.name → va_K D vwCl (cx_TY cs) s → cx_NW s → (∀ q : Nat, s.heap.size ≤ q → A q) → va_P D vwCl wc s.heap → va_D A wc → va_S A s.heap s.heap [] → lv_has ls maxL (lv_args 0 av) →
      W p l e rm s m av.toArray below meth c s.heap [] 0 0 (MQ below (cx_Q D v w1 A) av.toArray s mc ms A) (F0 m 0 ls [])) :
    Met l y (.code y bytes maxL ret :: cx_big) rm (cx_P D cs av wc sz) (cx_Q D v w1 (va_A wc sz)) mc ms (va_A wc sz) := by
  refine Met.ofW (cc := bytes) (maxL := maxL) (ret := ret) hy rfl ?_
  intro p e s m args below meth c s₁ B hml hv
  obtain ⟨rfl, hsz, hP, hK, hD0, hN⟩ := hv
  have hts := atoms_spec (ws := .code y bytes maxL ret :: cx_big) B.pre
  subst hsz
  have hl := lv_entry av (n := maxL) hlen
  rw [lg_entry_eq]
  generalize (lg_sl av ++ List.replicate (maxL - (lg_sl av).length) Slot.unset).toArray = ls at hl ⊢
  exact body p e s m below meth c (va_A wc s.heap.size) ls B.exec B.bytes B.returns hml (fun w h => hts w (List.mem_cons_of_mem _ h)) (findClass_of_methodNamed B.named) B.notSynchronized (name_of_methodNamed B.named B.method).1 hK hN (fun q h => Or.inr h) hP (hD0.self (sz := s.heap.size)) va_S.rf hl
/-- behind a call -/
theorem cx_call {a : Array Value} (hr : va_Run p l e R s m args below meth c H locs cells slots mc ms (F0 m pc ls st0) rest (cx_Q D v w1 (va_A wc H.size) a) (va_A wc H.size)) (hP : va_P D vwCl ws H) (hD : va_D A ws) (hS : va_S A H0 H locs) (hA : ∀ q, H0.size ≤ q → A q) (isC isR : List Nat) (hC : isC.map (fun i => ws[i]?) = wc.map some) (hR : isR.map (fun i => ws[i]?) = wr.map some) (hn : va_nd isR = true) (hdis : ∀ i ∈ isR, i ∉ isC)
    (kk : ∀ (u : Nat → Nat) (H1 : Heap) (locs1 : List Loc), va_P D vwCl (wr ++ w1 u) H1 → va_D A (wr ++ w1 u) → va_S A H0 H1 locs1 → W p l e R s m args below meth c H1 locs1 (cells + mc) (slots + ms) Q (F0 m (pc + 3) ls (v.toList ++ rest))) : W p l e R s m args below meth c H locs cells slots Q (F0 m pc ls st0) := by
  have hF := va_free (wc := wc) hD hS hA isC hC
  intro T hT X
  obtain ⟨v', st₀, t, T', L, h0, X', hL, e1, e2, ⟨⟨u, hv, hp, hd⟩, hz, hk⟩, st⟩ := hr T hT X
  cases hv
  rw [h0] at hz hk
  have hk1 : ∀ q : Nat, q < H.size → ¬ va_A wc H.size q → T'.heap[q]? = H[q]? := fun q h1 h2 => by rw [e1]; exact hk q h1 h2
  obtain ⟨hP1, hD1⟩ := va_join hP hD isC isR hC hR hn hdis hk1 hF (by rw [e1]; exact hp) hd
  obtain ⟨t2, a1, b1⟩ := kk u T'.heap (locs ++ L) hP1 hD1 ⟨Nat.le_trans hS.1 (by rw [e1]; exact hz), fun q h1 h2 => (hk1 q (Nat.lt_of_lt_of_le h1 hS.1) (fun z => h2 (hF q z))).trans (hS.2.1 q h1 h2), fun q hq => by
      rcases List.mem_append.mp hq with h | h
      · exact hS.2.2 q h
      · exact hF _ (hL q h)⟩ T' rfl X'
  exact ⟨t2, st t2 a1, b1⟩
theorem cx_V {o ci q0 : Nat} {As : List Value} {qc : vw_C} {fs : List Value} (S : CallFix p m c cc nL s args cx_big own) (hM : ∀ sz, Met l y (.code y bytes maxL ret :: cx_big) rm (cx_P D cs (.ref o :: As) wc sz) (cx_Q D v w1 (va_A wc sz)) mc ms (va_A wc sz)) (hT : GoodIn cx_big (wsV own index qc.1 y (.code y bytes maxL ret :: cx_big))) (hrc : rm.cells = mc) (hrs : rm.slots = ms)
    (hd : y.cls = qc.1 ∧ y.cls ≠ "java/lang/invoke/MethodHandle" ∧ y.cls ≠ "java/lang/invoke/VarHandle" ∧ (parseMethodDescriptor y.desc).map (fun d => d.parameters.length) = some n) (hRm : rm.frames + 1 ≤ R.frames ∧ 8 + (maxL + 11) + rm.locals ≤ R.locals) (hK : va_K D vwCl (cx_TY cs) s) (hN : cx_NW s)
    (hP : va_P D vwCl ws H) (hD : va_D A ws) (hS : va_S A H0 H locs) (hA : ∀ q, H0.size ≤ q → A q) (isC isR : List Nat) (hC : isC.map (fun i => ws[i]?) = wc.map some) (hR : isR.map (fun i => ws[i]?) = wr.map some) (hnd : va_nd isC = true ∧ va_nd isR = true ∧ ∀ i ∈ isR, i ∉ isC)
    (hc : vwCl[ci]? = some qc) (he : wc[q0]? = some (o, .inr (ci, fs))) (hnA : As.length = n) (hsize : ls.size = nL) (hstack : st0 = As.reverse ++ .ref o :: rest) (hW : (rest.map fun v => v.category).sum ≤ 8) (hdg : decode cc pc = .ok (.invokevirtual index, 3)) (hf : cells + mc ≤ R.cells ∧ slots + ms ≤ R.slots)
    (kk : ∀ (u : Nat → Nat) (H1 : Heap) (locs1 : List Loc), va_P D vwCl (wr ++ w1 u) H1 → va_D A (wr ++ w1 u) → va_S A H0 H1 locs1 → W p l e R s m args below meth c H1 locs1 (cells + mc) (slots + ms) Q (F0 m (pc + 3) ls (v.toList ++ rest))) : W p l e R s m args below meth c H locs cells slots Q (F0 m pc ls st0) := by
  have hPc : va_P D vwCl wc H := hP.sub isC (cx_sub hC)
  have hDc : va_D A wc := hD.sub isC hnd.1 hC
  exact cx_call (va_runV S (hM H.size) (cwV n S.2.2.2.2 hT rfl hrc hrs hd hRm) ⟨cx_P.blind, va_recv hK hPc hc he, cx_P.at hPc hDc hK hN⟩ rfl hnA hsize hstack (lv_room hW) hdg hf) hP hD hS hA isC isR hC hR hnd.2.1 hnd.2.2 kk
theorem cx_S {As : List Value} (S : CallFix p m c cc nL s args cx_big own) (hM : ∀ sz, Met l y (.code y bytes maxL ret :: cx_big) rm (cx_P D cs As wc sz) (cx_Q D v w1 (va_A wc sz)) mc ms (va_A wc sz)) (hT : GoodIn cx_big (wsS own index y (.code y bytes maxL ret :: cx_big))) (hrc : rm.cells = mc) (hrs : rm.slots = ms)
    (hd : y.cls = own ∧ y.cls ≠ "java/lang/invoke/MethodHandle" ∧ y.cls ≠ "java/lang/invoke/VarHandle" ∧ (parseMethodDescriptor y.desc).map (fun d => d.parameters.length) = some n) (hRm : rm.frames + 1 ≤ R.frames ∧ 8 + (maxL + 11) + rm.locals ≤ R.locals) (hK : va_K D vwCl (cx_TY cs) s) (hN : cx_NW s)
    (hP : va_P D vwCl ws H) (hD : va_D A ws) (hS : va_S A H0 H locs) (hA : ∀ q, H0.size ≤ q → A q) (isC isR : List Nat) (hC : isC.map (fun i => ws[i]?) = wc.map some) (hR : isR.map (fun i => ws[i]?) = wr.map some) (hnd : va_nd isC = true ∧ va_nd isR = true ∧ ∀ i ∈ isR, i ∉ isC)
    (hnA : As.length = n) (hsize : ls.size = nL) (hstack : st0 = As.reverse ++ rest) (hW : (rest.map fun v => v.category).sum ≤ 8) (hdg : decode cc pc = .ok (.invokestatic index, 3)) (hf : cells + mc ≤ R.cells ∧ slots + ms ≤ R.slots)
    (kk : ∀ (u : Nat → Nat) (H1 : Heap) (locs1 : List Loc), va_P D vwCl (wr ++ w1 u) H1 → va_D A (wr ++ w1 u) → va_S A H0 H1 locs1 → W p l e R s m args below meth c H1 locs1 (cells + mc) (slots + ms) Q (F0 m (pc + 3) ls (v.toList ++ rest))) : W p l e R s m args below meth c H locs cells slots Q (F0 m pc ls st0) := by
  have hPc : va_P D vwCl wc H := hP.sub isC (cx_sub hC)
  have hDc : va_D A wc := hD.sub isC hnd.1 hC
  exact cx_call (va_runS S (hM H.size) (cwS n S.2.2.2.2 hT rfl hrc hrs hd hRm) ⟨cx_P.blind, cx_P.at hPc hDc hK hN⟩ rfl hnA hsize hstack (lv_room hW) hdg hf) hP hD hS hA isC isR hC hR hnd.2.1 hnd.2.2 kk
theorem cx_I {o : Nat} {As : List Value} (S : CallFix p m c cc nL s args cx_big own) (hM : ∀ sz, Met l y (.code y bytes maxL none :: cx_big) rm (cx_P D cs (.ref o :: As) wc sz) (cx_Q D v w1 (va_A wc sz)) mc ms (va_A wc sz)) (hcd : Cond.code y bytes maxL none ∈ cx_big) (hini : Cond.initialized y.cls ∈ cx_big) (hlk : Cond.methodLink own index y ∈ cx_big) (him : Cond.instanceMethod y ∈ cx_big) (hrc : rm.cells = mc) (hrs : rm.slots = ms) (hy1 : y.name = "<init>")
    (hd : y.cls ≠ "java/lang/invoke/MethodHandle" ∧ y.cls ≠ "java/lang/invoke/VarHandle" ∧ (parseMethodDescriptor y.desc).map (fun d => d.parameters.length) = some n) (hRm : rm.frames + 1 ≤ R.frames ∧ 8 + (maxL + 11) + rm.locals ≤ R.locals) (hK : va_K D vwCl (cx_TY cs) s) (hN : cx_NW s)
    (hP : va_P D vwCl ws H) (hD : va_D A ws) (hS : va_S A H0 H locs) (hA : ∀ q, H0.size ≤ q → A q) (isC isR : List Nat) (hC : isC.map (fun i => ws[i]?) = wc.map some) (hR : isR.map (fun i => ws[i]?) = wr.map some) (hnd : va_nd isC = true ∧ va_nd isR = true ∧ ∀ i ∈ isR, i ∉ isC)
    (hnA : As.length = n) (hsize : ls.size = nL) (hstack : st0 = As.reverse ++ .ref o :: rest) (hW : (rest.map fun v => v.category).sum ≤ 8) (hdg : decode cc pc = .ok (.invokespecial index, 3)) (hf : cells + mc ≤ R.cells ∧ slots + ms ≤ R.slots)
    (kk : ∀ (u : Nat → Nat) (H1 : Heap) (locs1 : List Loc), va_P D vwCl (wr ++ w1 u) H1 → va_D A (wr ++ w1 u) → va_S A H0 H1 locs1 → W p l e R s m args below meth c H1 locs1 (cells + mc) (slots + ms) Q (F0 m (pc + 3) ls (v.toList ++ rest))) : W p l e R s m args below meth c H locs cells slots Q (F0 m pc ls st0) := by
  have hPc : va_P D vwCl wc H := hP.sub isC (cx_sub hC)
  have hDc : va_D A wc := hD.sub isC hnd.1 hC
  exact cx_call (va_runI S (hM H.size) (cwI n S.2.2.2.2 (cx_gC hcd) rfl hrc hrs (S.2.2.2.2 _ hini) (S.2.2.2.2 _ hlk) (S.2.2.2.2 _ him) hy1 hd hRm) ⟨cx_P.blind, cx_P.at hPc hDc hK hN⟩ rfl hnA hsize hstack (lv_room hW) hdg hf) hP hD hS hA isC isR hC hR hnd.2.1 hnd.2.2 kk
theorem cx_IN {o : Nat} {As : List Value} (S : CallFix p m c cc nL s args cx_big own) (hM : ∀ sz, Met l y (.code y bytes maxL none :: cx_big) rm (cx_P D cs (.ref o :: As) wc sz) (cx_Q D v w1 (va_A wc sz)) mc ms (va_A wc sz)) (hcd : Cond.code y bytes maxL none ∈ cx_big) (hini : Cond.initialized y.cls ∈ cx_big) (hlk : (own, index, y) ∈ cx_nest) (him : Cond.instanceMethod y ∈ cx_big) (hrc : rm.cells = mc) (hrs : rm.slots = ms) (hy1 : y.name = "<init>")
    (hd : y.cls ≠ "java/lang/invoke/MethodHandle" ∧ y.cls ≠ "java/lang/invoke/VarHandle" ∧ (parseMethodDescriptor y.desc).map (fun d => d.parameters.length) = some n) (hRm : rm.frames + 1 ≤ R.frames ∧ 8 + (maxL + 11) + rm.locals ≤ R.locals) (hK : va_K D vwCl (cx_TY cs) s) (hN : cx_NW s)
    (hP : va_P D vwCl ws H) (hD : va_D A ws) (hS : va_S A H0 H locs) (hA : ∀ q, H0.size ≤ q → A q) (isC isR : List Nat) (hC : isC.map (fun i => ws[i]?) = wc.map some) (hR : isR.map (fun i => ws[i]?) = wr.map some) (hnd : va_nd isC = true ∧ va_nd isR = true ∧ ∀ i ∈ isR, i ∉ isC)
    (hnA : As.length = n) (hsize : ls.size = nL) (hstack : st0 = As.reverse ++ .ref o :: rest) (hW : (rest.map fun v => v.category).sum ≤ 8) (hdg : decode cc pc = .ok (.invokespecial index, 3)) (hf : cells + mc ≤ R.cells ∧ slots + ms ≤ R.slots)
    (kk : ∀ (u : Nat → Nat) (H1 : Heap) (locs1 : List Loc), va_P D vwCl (wr ++ w1 u) H1 → va_D A (wr ++ w1 u) → va_S A H0 H1 locs1 → W p l e R s m args below meth c H1 locs1 (cells + mc) (slots + ms) Q (F0 m (pc + 3) ls (v.toList ++ rest))) : W p l e R s m args below meth c H locs cells slots Q (F0 m pc ls st0) := by
  have hPc : va_P D vwCl wc H := hP.sub isC (cx_sub hC)
  have hDc : va_D A wc := hD.sub isC hnd.1 hC
  exact cx_call (va_runIN S (hM H.size) ⟨va_cnB n S.2.2.2.2 (cx_gC hcd) rfl hrc hrs (hN.1 _ hlk) (S.2.2.2.2 _ hini) hd hRm, hy1, S.2.2.2.2 _ him⟩ ⟨cx_P.blind, cx_P.at hPc hDc hK hN⟩ rfl hnA hsize hstack (lv_room hW) hdg hf) hP hD hS hA isC isR hC hR hnd.2.1 hnd.2.2 kk
/-- a new array of a small type, of the class that the list has for it -/
theorem cx_newa (hexec : p.tables.exec = Jvm.exec) (hb : c.code = cc) {atype : ArrayType} (hB : ∀ w ∈ cx_big, w.before args s = true) (harr : Cond.arrayClass (newarray.typeOf atype) ∈ cx_big) {ty : FieldType} (hty : newarray.typeOf atype = ty) (hu : ∀ c1 c2 : ClassId, va_RA s c1 ty → va_RA s c2 ty → c1 = c2) (t0 : Nat) {cA : ClassId} (ht : (cx_TY cs)[t0]? = some (cA, ty)) (hK : va_K D vwCl (cx_TY cs) s) (hP : va_P D vwCl ws H) (hD : va_D A ws) (hS : va_S A H0 H locs) (hA : ∀ q, H0.size ≤ q → A q)
    {k : Int32} {N' : Nat} {a0 : vp_A} (ha : ∀ cA : ClassId, vp_cell cA a0 = arrV cA N' (fun _ => defaultValue ty)) (hn : ¬ k < 0) (hN : k.toNatClampNeg = N') (hbytes : N' * componentBytes ty ≤ 536870912) (hcells : cells + 1 ≤ R.cells) (hslots : slots + N' ≤ R.slots) (hdg : decode cc pc = .ok (.newarray atype, 2))
    (kk : ∀ (q : Nat) (H1 : Heap), va_P D vwCl (ws ++ [(q, .inl (cA, a0))]) H1 → va_D A (ws ++ [(q, .inl (cA, a0))]) → va_S A H0 H1 locs → W p l e R s m args below meth c H1 locs (cells + 1) (slots + N') Q (F0 m (pc + 2) ls (.ref q :: rest))) : W p l e R s m args below meth c H locs cells slots Q (F0 m pc ls (.int k :: rest)) :=
  va_newa hexec hb (hB _ harr) hty hK hP hD hS hA ha hn hN hbytes hcells hslots hdg (fun q c1 H1 hK1 hP1 hD1 hS1 => by
    have e : c1 = cA := hu c1 cA (hK1.2 (cx_TY cs).length (c1, ty) (by rw [List.getElem?_append_right (Nat.le_refl _), Nat.sub_self]; rfl)).2 (hK.2 t0 _ ht).2
    subst e
    exact kk q H1 hP1 hD1 hS1)
theorem cx_drop (hP : va_P D vwCl ws H) (hD : va_D A ws) (is : List Nat) (h : is.map (fun i => ws[i]?) = wc.map some) (hn : va_nd is = true) : va_P D vwCl wc H ∧ va_D A wc := ⟨hP.sub is (cx_sub h), hD.sub is hn h⟩
theorem cx_vret (hx : p.tables.exec = Jvm.exec) (hb : c.code = cc) (hr : meth.sig.returnType = none) (hlocks : meth.locks = false) (hP : va_P D vwCl ws H) (hD : va_D A ws) (hS : va_S A s.heap H locs) (u : Nat → Nat) (is : List Nat) (h : is.map (fun i => ws[i]?) = (w1 u).map some) (hn : va_nd is = true) (hc : cells ≤ mc) (hs : slots ≤ ms) (hdg : decode cc pc = .ok (.return_, 1)) : W p l e R s m args below meth c H locs cells slots (MQ below (cx_Q D none w1 A) args s mc ms A) (F0 m pc ls []) := by
  obtain ⟨hP9, hD9⟩ := cx_drop hP hD is h hn
  refine W.widen hc hs ?_
  exact W.vret hx hb hr (fun t ht hW => ⟨⟨u, rfl, by rw [ht]; exact hP9, hD9⟩, hS.F ht⟩) hS.2.2 hdg hlocks
theorem cx_iret {x : Int32} (hx : p.tables.exec = Jvm.exec) (hb : c.code = cc) (hr : meth.sig.returnType = some .int) (hlocks : meth.locks = false) (hv : v = some (.int x)) (hP : va_P D vwCl ws H) (hD : va_D A ws) (hS : va_S A s.heap H locs) (u : Nat → Nat) (is : List Nat) (h : is.map (fun i => ws[i]?) = (w1 u).map some) (hn : va_nd is = true) (hc : cells ≤ mc) (hs : slots ≤ ms) (hdg : decode cc pc = .ok (.ireturn, 1)) : W p l e R s m args below meth c H locs cells slots (MQ below (cx_Q D v w1 A) args s mc ms A) (F0 m pc ls [.int x]) := by
  obtain ⟨hP9, hD9⟩ := cx_drop hP hD is h hn
  refine W.widen hc hs ?_
  exact W.iret hx hb hr (fun t ht hW => ⟨⟨u, by rw [hv], by rw [ht]; exact hP9, hD9⟩, hS.F ht⟩) hS.2.2 hdg hlocks
theorem cx_zret {x : Int32} (hx : p.tables.exec = Jvm.exec) (hb : c.code = cc) (hr : meth.sig.returnType = some .boolean) (hlocks : meth.locks = false) (hnar : narrow .boolean (.int x) = .int x) (hv : v = some (.int x)) (hP : va_P D vwCl ws H) (hD : va_D A ws) (hS : va_S A s.heap H locs) (u : Nat → Nat) (is : List Nat) (h : is.map (fun i => ws[i]?) = (w1 u).map some) (hn : va_nd is = true) (hc : cells ≤ mc) (hs : slots ≤ ms) (hdg : decode cc pc = .ok (.ireturn, 1)) : W p l e R s m args below meth c H locs cells slots (MQ below (cx_Q D v w1 A) args s mc ms A) (F0 m pc ls [.int x]) := by
  obtain ⟨hP9, hD9⟩ := cx_drop hP hD is h hn
  refine W.widen hc hs ?_
  exact W.zret hx hb hr hnar (fun t ht hW => ⟨⟨u, by rw [hv], by rw [ht]; exact hP9, hD9⟩, hS.F ht⟩) hS.2.2 hdg hlocks
theorem cx_lret {x : Int64} (hx : p.tables.exec = Jvm.exec) (hb : c.code = cc) (hr : meth.sig.returnType = some .long) (hlocks : meth.locks = false) (hv : v = some (.long x)) (hP : va_P D vwCl ws H) (hD : va_D A ws) (hS : va_S A s.heap H locs) (u : Nat → Nat) (is : List Nat) (h : is.map (fun i => ws[i]?) = (w1 u).map some) (hn : va_nd is = true) (hc : cells ≤ mc) (hs : slots ≤ ms) (hdg : decode cc pc = .ok (.lreturn, 1)) : W p l e R s m args below meth c H locs cells slots (MQ below (cx_Q D v w1 A) args s mc ms A) (F0 m pc ls [.long x]) := by
  obtain ⟨hP9, hD9⟩ := cx_drop hP hD is h hn
  refine W.widen hc hs ?_
  exact W.lret hx hb hr (fun t ht hW => ⟨⟨u, by rw [hv], by rw [ht]; exact hP9, hD9⟩, hS.F ht⟩) hS.2.2 hdg hlocks
theorem cx_nret {C : String} (hx : p.tables.exec = Jvm.exec) (hb : c.code = cc) (hr : meth.sig.returnType = some (.object C)) (hlocks : meth.locks = false) (hP : va_P D vwCl ws H) (hD : va_D A ws) (hS : va_S A s.heap H locs) (u : Nat → Nat) (is : List Nat) (h : is.map (fun i => ws[i]?) = (w1 u).map some) (hn : va_nd is = true) (hc : cells ≤ mc) (hs : slots ≤ ms) (hdg : decode cc pc = .ok (.areturn, 1)) : W p l e R s m args below meth c H locs cells slots (MQ below (cx_Q D (some .null) w1 A) args s mc ms A) (F0 m pc ls [.null]) := by
  obtain ⟨hP9, hD9⟩ := cx_drop hP hD is h hn
  refine W.widen hc hs ?_
  exact W.aret hx hb hr (Or.inl ⟨_, rfl⟩) (Or.inl rfl) (fun t ht hW => ⟨⟨u, rfl, by rw [ht]; exact hP9, hD9⟩, hS.F ht⟩) hS.2.2 hdg hlocks
end CX
end
section
theorem cw_2 : Cond.initialized "TreeMerge$Text" ∈ cx_big := cx_tb 2 (by decide +kernel) (by decide +kernel)
theorem cw_3 : Cond.initialized "TreeMerge$Grammar" ∈ cx_big := cx_tb 3 (by decide +kernel) (by decide +kernel)
theorem cw_4 : Cond.initialized "TreeMerge$Tree" ∈ cx_big := cx_tb 4 (by decide +kernel) (by decide +kernel)
theorem cw_5 : Cond.initialized "TreeMerge$Kids" ∈ cx_big := cx_tb 5 (by decide +kernel) (by decide +kernel)
theorem cw_6 : Cond.initialized "TreeMerge$Matcher" ∈ cx_big := cx_tb 6 (by decide +kernel) (by decide +kernel)
theorem cw_7 : Cond.initialized "TreeMerge$Editions" ∈ cx_big := cx_tb 7 (by decide +kernel) (by decide +kernel)
theorem cw_8 : Cond.initialized "TreeMerge$Draft" ∈ cx_big := cx_tb 8 (by decide +kernel) (by decide +kernel)
theorem cw_9 : Cond.initialized "TreeMerge$Settled" ∈ cx_big := cx_tb 9 (by decide +kernel) (by decide +kernel)
theorem cw_10 : Cond.initialized "TreeMerge$Merging" ∈ cx_big := cx_tb 10 (by decide +kernel) (by decide +kernel)
theorem cw_11 : Cond.initialized "TreeMerge$Side" ∈ cx_big := cx_tb 11 (by decide +kernel) (by decide +kernel)
theorem cw_12 : Cond.initialized "TreeMerge$Printer" ∈ cx_big := cx_tb 12 (by decide +kernel) (by decide +kernel)
theorem cw_25 : Cond.methodLink "TreeMerge" 3 objectInit ∈ cx_big := cx_tb 25 (by decide +kernel) (by decide +kernel)
theorem cw_26 : Cond.instanceMethod objectInit ∈ cx_big := cx_tb 26 (by decide +kernel) (by decide +kernel)
theorem cw_27 : Cond.code objectInit ⟨#[0xb1]⟩ 1 none ∈ cx_big := cx_tb 27 (by decide +kernel) (by decide +kernel)
theorem cw_28 : Cond.classLink "TreeMerge" 9 "TreeMerge$Text" ∈ cx_big := cx_tb 28 (by decide +kernel) (by decide +kernel)
theorem cw_29 : Cond.instantiable "TreeMerge$Text" 5 ∈ cx_big := cx_tb 29 (by decide +kernel) (by decide +kernel)
theorem cw_31 : Cond.instanceMethod yX9_init ∈ cx_big := cx_tb 31 (by decide +kernel) (by decide +kernel)
theorem cw_32 : Cond.code yX9_init cX9_init 1 none ∈ cx_big := cx_tb 32 (by decide +kernel) (by decide +kernel)
theorem cw_33 : Cond.methodLink "TreeMerge$Text" 3 objectInit ∈ cx_big := cx_tb 33 (by decide +kernel) (by decide +kernel)
theorem cw_34 : Cond.fieldLink "TreeMerge$Text" 9 "TreeMerge$Text" "bytes" "[I" ∈ cx_big := cx_tb 34 (by decide +kernel) (by decide +kernel)
theorem cw_59 : Cond.arrayClass .int ∈ cx_big := cx_tb 59 (by decide +kernel) (by decide +kernel)
theorem cw_60 : Cond.classLink "TreeMerge" 16 "TreeMerge$Grammar" ∈ cx_big := cx_tb 60 (by decide +kernel) (by decide +kernel)
theorem cw_61 : Cond.instantiable "TreeMerge$Grammar" 13 ∈ cx_big := cx_tb 61 (by decide +kernel) (by decide +kernel)
theorem cw_63 : Cond.instanceMethod yX2_init ∈ cx_big := cx_tb 63 (by decide +kernel) (by decide +kernel)
theorem cw_64 : Cond.code yX2_init cX2_init 1 none ∈ cx_big := cx_tb 64 (by decide +kernel) (by decide +kernel)
theorem cw_65 : Cond.methodLink "TreeMerge$Grammar" 3 objectInit ∈ cx_big := cx_tb 65 (by decide +kernel) (by decide +kernel)
theorem cw_66 : Cond.fieldLink "TreeMerge$Grammar" 9 "TreeMerge$Grammar" "bytes" "[I" ∈ cx_big := cx_tb 66 (by decide +kernel) (by decide +kernel)
theorem cw_70 : Cond.fieldLink "TreeMerge$Grammar" 15 "TreeMerge$Grammar" "nameStarts" "[I" ∈ cx_big := cx_tb 70 (by decide +kernel) (by decide +kernel)
theorem cw_72 : Cond.fieldLink "TreeMerge$Grammar" 18 "TreeMerge$Grammar" "nameStops" "[I" ∈ cx_big := cx_tb 72 (by decide +kernel) (by decide +kernel)
theorem cw_74 : Cond.fieldLink "TreeMerge$Grammar" 21 "TreeMerge$Grammar" "shapes" "[I" ∈ cx_big := cx_tb 74 (by decide +kernel) (by decide +kernel)
theorem cw_75 : Cond.fieldLink "TreeMerge$Grammar" 24 "TreeMerge$Grammar" "firstItems" "[I" ∈ cx_big := cx_tb 75 (by decide +kernel) (by decide +kernel)
theorem cw_76 : Cond.fieldLink "TreeMerge$Grammar" 27 "TreeMerge$Grammar" "endItems" "[I" ∈ cx_big := cx_tb 76 (by decide +kernel) (by decide +kernel)
theorem cw_78 : Cond.fieldLink "TreeMerge$Grammar" 30 "TreeMerge$Grammar" "itemStarts" "[I" ∈ cx_big := cx_tb 78 (by decide +kernel) (by decide +kernel)
theorem cw_79 : Cond.fieldLink "TreeMerge$Grammar" 33 "TreeMerge$Grammar" "itemStops" "[I" ∈ cx_big := cx_tb 79 (by decide +kernel) (by decide +kernel)
theorem cw_80 : Cond.fieldLink "TreeMerge$Grammar" 36 "TreeMerge$Grammar" "itemKinds" "[I" ∈ cx_big := cx_tb 80 (by decide +kernel) (by decide +kernel)
theorem cw_81 : Cond.fieldLink "TreeMerge$Grammar" 39 "TreeMerge$Grammar" "itemMarks" "[I" ∈ cx_big := cx_tb 81 (by decide +kernel) (by decide +kernel)
theorem cw_82 : Cond.fieldLink "TreeMerge$Grammar" 42 "TreeMerge$Grammar" "reached" "[I" ∈ cx_big := cx_tb 82 (by decide +kernel) (by decide +kernel)
theorem cw_110 : Cond.classLink "TreeMerge" 26 "TreeMerge$Tree" ∈ cx_big := cx_tb 110 (by decide +kernel) (by decide +kernel)
theorem cw_111 : Cond.instantiable "TreeMerge$Tree" 8 ∈ cx_big := cx_tb 111 (by decide +kernel) (by decide +kernel)
theorem cw_113 : Cond.instanceMethod yX10_init ∈ cx_big := cx_tb 113 (by decide +kernel) (by decide +kernel)
theorem cw_114 : Cond.code yX10_init cX10_init 1 none ∈ cx_big := cx_tb 114 (by decide +kernel) (by decide +kernel)
theorem cw_115 : Cond.methodLink "TreeMerge$Tree" 3 objectInit ∈ cx_big := cx_tb 115 (by decide +kernel) (by decide +kernel)
theorem cw_122 : Cond.fieldLink "TreeMerge$Tree" 9 "TreeMerge$Tree" "ids" "[I" ∈ cx_big := cx_tb 122 (by decide +kernel) (by decide +kernel)
theorem cw_127 : Cond.fieldLink "TreeMerge$Tree" 15 "TreeMerge$Tree" "ups" "[I" ∈ cx_big := cx_tb 127 (by decide +kernel) (by decide +kernel)
theorem cw_130 : Cond.fieldLink "TreeMerge$Tree" 18 "TreeMerge$Tree" "tops" "[I" ∈ cx_big := cx_tb 130 (by decide +kernel) (by decide +kernel)
theorem cw_135 : Cond.fieldLink "TreeMerge$Tree" 21 "TreeMerge$Tree" "deeps" "[I" ∈ cx_big := cx_tb 135 (by decide +kernel) (by decide +kernel)
theorem cw_138 : Cond.fieldLink "TreeMerge$Tree" 24 "TreeMerge$Tree" "kinds" "[I" ∈ cx_big := cx_tb 138 (by decide +kernel) (by decide +kernel)
theorem cw_144 : Cond.fieldLink "TreeMerge$Tree" 27 "TreeMerge$Tree" "words" "[J" ∈ cx_big := cx_tb 144 (by decide +kernel) (by decide +kernel)
theorem cw_150 : Cond.fieldLink "TreeMerge$Tree" 31 "TreeMerge$Tree" "writers" "[I" ∈ cx_big := cx_tb 150 (by decide +kernel) (by decide +kernel)
theorem cw_170 : Cond.arrayClass .long ∈ cx_big := cx_tb 170 (by decide +kernel) (by decide +kernel)
theorem cw_171 : Cond.classLink "TreeMerge" 36 "TreeMerge$Kids" ∈ cx_big := cx_tb 171 (by decide +kernel) (by decide +kernel)
theorem cw_172 : Cond.instantiable "TreeMerge$Kids" 3 ∈ cx_big := cx_tb 172 (by decide +kernel) (by decide +kernel)
theorem cw_174 : Cond.instanceMethod yX3_init ∈ cx_big := cx_tb 174 (by decide +kernel) (by decide +kernel)
theorem cw_175 : Cond.code yX3_init cX3_init 1 none ∈ cx_big := cx_tb 175 (by decide +kernel) (by decide +kernel)
theorem cw_176 : Cond.methodLink "TreeMerge$Kids" 3 objectInit ∈ cx_big := cx_tb 176 (by decide +kernel) (by decide +kernel)
theorem cw_179 : Cond.fieldLink "TreeMerge$Kids" 9 "TreeMerge$Kids" "kinds" "[I" ∈ cx_big := cx_tb 179 (by decide +kernel) (by decide +kernel)
theorem cw_181 : Cond.fieldLink "TreeMerge$Kids" 15 "TreeMerge$Kids" "words" "[J" ∈ cx_big := cx_tb 181 (by decide +kernel) (by decide +kernel)
theorem cw_189 : Cond.classLink "TreeMerge" 43 "TreeMerge$Matcher" ∈ cx_big := cx_tb 189 (by decide +kernel) (by decide +kernel)
theorem cw_190 : Cond.instantiable "TreeMerge$Matcher" 7 ∈ cx_big := cx_tb 190 (by decide +kernel) (by decide +kernel)
theorem cw_192 : Cond.instanceMethod yX4_init ∈ cx_big := cx_tb 192 (by decide +kernel) (by decide +kernel)
theorem cw_193 : Cond.code yX4_init cX4_init 1 none ∈ cx_big := cx_tb 193 (by decide +kernel) (by decide +kernel)
theorem cw_194 : Cond.methodLink "TreeMerge$Matcher" 3 objectInit ∈ cx_big := cx_tb 194 (by decide +kernel) (by decide +kernel)
theorem cw_195 : Cond.classLink "TreeMerge$Matcher" 9 "TreeMerge$Tree" ∈ cx_big := cx_tb 195 (by decide +kernel) (by decide +kernel)
theorem cw_197 : Cond.fieldLink "TreeMerge$Matcher" 12 "TreeMerge$Matcher" "a" "LTreeMerge$Tree;" ∈ cx_big := cx_tb 197 (by decide +kernel) (by decide +kernel)
theorem cw_198 : Cond.fieldLink "TreeMerge$Matcher" 18 "TreeMerge$Matcher" "b" "LTreeMerge$Tree;" ∈ cx_big := cx_tb 198 (by decide +kernel) (by decide +kernel)
theorem cw_199 : Cond.fieldLink "TreeMerge$Matcher" 21 "TreeMerge$Matcher" "toB" "[I" ∈ cx_big := cx_tb 199 (by decide +kernel) (by decide +kernel)
theorem cw_200 : Cond.fieldLink "TreeMerge$Matcher" 25 "TreeMerge$Matcher" "toA" "[I" ∈ cx_big := cx_tb 200 (by decide +kernel) (by decide +kernel)
theorem cw_201 : Cond.fieldLink "TreeMerge$Matcher" 28 "TreeMerge$Matcher" "best" "[I" ∈ cx_big := cx_tb 201 (by decide +kernel) (by decide +kernel)
theorem cw_221 : Cond.classLink "TreeMerge" 50 "TreeMerge$Editions" ∈ cx_big := cx_tb 221 (by decide +kernel) (by decide +kernel)
theorem cw_222 : Cond.instantiable "TreeMerge$Editions" 5 ∈ cx_big := cx_tb 222 (by decide +kernel) (by decide +kernel)
theorem cw_224 : Cond.instanceMethod yX1_init ∈ cx_big := cx_tb 224 (by decide +kernel) (by decide +kernel)
theorem cw_225 : Cond.code yX1_init cX1_init 1 none ∈ cx_big := cx_tb 225 (by decide +kernel) (by decide +kernel)
theorem cw_226 : Cond.methodLink "TreeMerge$Editions" 3 objectInit ∈ cx_big := cx_tb 226 (by decide +kernel) (by decide +kernel)
theorem cw_227 : Cond.classLink "TreeMerge$Editions" 9 "TreeMerge$Tree" ∈ cx_big := cx_tb 227 (by decide +kernel) (by decide +kernel)
theorem cw_231 : Cond.fieldLink "TreeMerge$Editions" 11 "TreeMerge$Editions" "trees" "[LTreeMerge$Tree;" ∈ cx_big := cx_tb 231 (by decide +kernel) (by decide +kernel)
theorem cw_232 : Cond.fieldLink "TreeMerge$Editions" 17 "TreeMerge$Editions" "firsts" "[I" ∈ cx_big := cx_tb 232 (by decide +kernel) (by decide +kernel)
theorem cw_234 : Cond.fieldLink "TreeMerge$Editions" 21 "TreeMerge$Editions" "seconds" "[I" ∈ cx_big := cx_tb 234 (by decide +kernel) (by decide +kernel)
theorem cw_236 : Cond.fieldLink "TreeMerge$Editions" 24 "TreeMerge$Editions" "froms" "[I" ∈ cx_big := cx_tb 236 (by decide +kernel) (by decide +kernel)
theorem cw_248 : Cond.classLink "TreeMerge" 57 "TreeMerge$Draft" ∈ cx_big := cx_tb 248 (by decide +kernel) (by decide +kernel)
theorem cw_249 : Cond.instantiable "TreeMerge$Draft" 4 ∈ cx_big := cx_tb 249 (by decide +kernel) (by decide +kernel)
theorem cw_251 : Cond.instanceMethod yX0_init ∈ cx_big := cx_tb 251 (by decide +kernel) (by decide +kernel)
theorem cw_252 : Cond.code yX0_init cX0_init 1 none ∈ cx_big := cx_tb 252 (by decide +kernel) (by decide +kernel)
theorem cw_253 : Cond.methodLink "TreeMerge$Draft" 3 objectInit ∈ cx_big := cx_tb 253 (by decide +kernel) (by decide +kernel)
theorem cw_254 : Cond.classLink "TreeMerge$Draft" 9 "TreeMerge$Tree" ∈ cx_big := cx_tb 254 (by decide +kernel) (by decide +kernel)
theorem cw_259 : Cond.fieldLink "TreeMerge$Draft" 12 "TreeMerge$Draft" "tree" "LTreeMerge$Tree;" ∈ cx_big := cx_tb 259 (by decide +kernel) (by decide +kernel)
theorem cw_261 : Cond.fieldLink "TreeMerge$Draft" 18 "TreeMerge$Draft" "list" "LTreeMerge$Tree;" ∈ cx_big := cx_tb 261 (by decide +kernel) (by decide +kernel)
theorem cw_271 : Cond.classLink "TreeMerge" 64 "TreeMerge$Settled" ∈ cx_big := cx_tb 271 (by decide +kernel) (by decide +kernel)
theorem cw_272 : Cond.instantiable "TreeMerge$Settled" 2 ∈ cx_big := cx_tb 272 (by decide +kernel) (by decide +kernel)
theorem cw_274 : Cond.instanceMethod yX7_init ∈ cx_big := cx_tb 274 (by decide +kernel) (by decide +kernel)
theorem cw_275 : Cond.code yX7_init cX7_init 1 none ∈ cx_big := cx_tb 275 (by decide +kernel) (by decide +kernel)
theorem cw_276 : Cond.methodLink "TreeMerge$Settled" 3 objectInit ∈ cx_big := cx_tb 276 (by decide +kernel) (by decide +kernel)
theorem cw_279 : Cond.fieldLink "TreeMerge$Settled" 9 "TreeMerge$Settled" "rows" "[I" ∈ cx_big := cx_tb 279 (by decide +kernel) (by decide +kernel)
theorem cw_285 : Cond.classLink "TreeMerge" 71 "TreeMerge$Merging" ∈ cx_big := cx_tb 285 (by decide +kernel) (by decide +kernel)
theorem cw_286 : Cond.instantiable "TreeMerge$Merging" 15 ∈ cx_big := cx_tb 286 (by decide +kernel) (by decide +kernel)
theorem cw_288 : Cond.instanceMethod yX5_init ∈ cx_big := cx_tb 288 (by decide +kernel) (by decide +kernel)
theorem cw_289 : Cond.code yX5_init cX5_init 1 none ∈ cx_big := cx_tb 289 (by decide +kernel) (by decide +kernel)
theorem cw_290 : Cond.methodLink "TreeMerge$Merging" 3 objectInit ∈ cx_big := cx_tb 290 (by decide +kernel) (by decide +kernel)
theorem cw_291 : Cond.classLink "TreeMerge$Merging" 9 "TreeMerge$Side" ∈ cx_big := cx_tb 291 (by decide +kernel) (by decide +kernel)
theorem cw_292 : Cond.instantiable "TreeMerge$Side" 4 ∈ cx_big := cx_tb 292 (by decide +kernel) (by decide +kernel)
theorem cw_294 : Cond.instanceMethod yX8_init ∈ cx_big := cx_tb 294 (by decide +kernel) (by decide +kernel)
theorem cw_295 : Cond.code yX8_init cX8_init 1 none ∈ cx_big := cx_tb 295 (by decide +kernel) (by decide +kernel)
theorem cw_296 : Cond.methodLink "TreeMerge$Side" 3 objectInit ∈ cx_big := cx_tb 296 (by decide +kernel) (by decide +kernel)
theorem cw_297 : Cond.classLink "TreeMerge$Side" 9 "TreeMerge$Tree" ∈ cx_big := cx_tb 297 (by decide +kernel) (by decide +kernel)
theorem cw_299 : Cond.fieldLink "TreeMerge$Side" 12 "TreeMerge$Side" "tree" "LTreeMerge$Tree;" ∈ cx_big := cx_tb 299 (by decide +kernel) (by decide +kernel)
theorem cw_302 : Cond.fieldLink "TreeMerge$Side" 18 "TreeMerge$Side" "places" "[I" ∈ cx_big := cx_tb 302 (by decide +kernel) (by decide +kernel)
theorem cw_303 : Cond.fieldLink "TreeMerge$Side" 22 "TreeMerge$Side" "touched" "[I" ∈ cx_big := cx_tb 303 (by decide +kernel) (by decide +kernel)
theorem cw_313 : Cond.classLink "TreeMerge$Merging" 24 "TreeMerge$Tree" ∈ cx_big := cx_tb 313 (by decide +kernel) (by decide +kernel)
theorem cw_315 : Cond.fieldLink "TreeMerge$Merging" 12 "TreeMerge$Merging" "one" "LTreeMerge$Side;" ∈ cx_big := cx_tb 315 (by decide +kernel) (by decide +kernel)
theorem cw_317 : Cond.fieldLink "TreeMerge$Merging" 18 "TreeMerge$Merging" "other" "LTreeMerge$Side;" ∈ cx_big := cx_tb 317 (by decide +kernel) (by decide +kernel)
theorem cw_319 : Cond.fieldLink "TreeMerge$Merging" 21 "TreeMerge$Merging" "base" "LTreeMerge$Side;" ∈ cx_big := cx_tb 319 (by decide +kernel) (by decide +kernel)
theorem cw_321 : Cond.fieldLink "TreeMerge$Merging" 27 "TreeMerge$Merging" "result" "LTreeMerge$Tree;" ∈ cx_big := cx_tb 321 (by decide +kernel) (by decide +kernel)
theorem cw_323 : Cond.fieldLink "TreeMerge$Merging" 31 "TreeMerge$Merging" "list" "LTreeMerge$Tree;" ∈ cx_big := cx_tb 323 (by decide +kernel) (by decide +kernel)
theorem cw_324 : Cond.fieldLink "TreeMerge$Merging" 34 "TreeMerge$Merging" "marks" "[I" ∈ cx_big := cx_tb 324 (by decide +kernel) (by decide +kernel)
theorem cw_325 : Cond.fieldLink "TreeMerge$Merging" 38 "TreeMerge$Merging" "stands" "[I" ∈ cx_big := cx_tb 325 (by decide +kernel) (by decide +kernel)
theorem cw_326 : Cond.fieldLink "TreeMerge$Merging" 41 "TreeMerge$Merging" "kinds" "[I" ∈ cx_big := cx_tb 326 (by decide +kernel) (by decide +kernel)
theorem cw_327 : Cond.fieldLink "TreeMerge$Merging" 44 "TreeMerge$Merging" "ups" "[I" ∈ cx_big := cx_tb 327 (by decide +kernel) (by decide +kernel)
theorem cw_328 : Cond.fieldLink "TreeMerge$Merging" 47 "TreeMerge$Merging" "words" "[J" ∈ cx_big := cx_tb 328 (by decide +kernel) (by decide +kernel)
theorem cw_330 : Cond.fieldLink "TreeMerge$Merging" 51 "TreeMerge$Merging" "children" "[I" ∈ cx_big := cx_tb 330 (by decide +kernel) (by decide +kernel)
theorem cw_332 : Cond.fieldLink "TreeMerge$Merging" 54 "TreeMerge$Merging" "ahead" "[I" ∈ cx_big := cx_tb 332 (by decide +kernel) (by decide +kernel)
theorem cw_333 : Cond.fieldLink "TreeMerge$Merging" 57 "TreeMerge$Merging" "waits" "[I" ∈ cx_big := cx_tb 333 (by decide +kernel) (by decide +kernel)
theorem cw_365 : Cond.classLink "TreeMerge" 84 "TreeMerge$Printer" ∈ cx_big := cx_tb 365 (by decide +kernel) (by decide +kernel)
theorem cw_366 : Cond.instantiable "TreeMerge$Printer" 3 ∈ cx_big := cx_tb 366 (by decide +kernel) (by decide +kernel)
theorem cw_368 : Cond.instanceMethod yX6_init ∈ cx_big := cx_tb 368 (by decide +kernel) (by decide +kernel)
theorem cw_369 : Cond.code yX6_init cX6_init 1 none ∈ cx_big := cx_tb 369 (by decide +kernel) (by decide +kernel)
theorem cw_370 : Cond.methodLink "TreeMerge$Printer" 3 objectInit ∈ cx_big := cx_tb 370 (by decide +kernel) (by decide +kernel)
theorem cw_383 : Cond.fieldLink "TreeMerge" 12 "TreeMerge" "text" "LTreeMerge$Text;" ∈ cx_big := cx_tb 383 (by decide +kernel) (by decide +kernel)
theorem cw_384 : Cond.fieldLink "TreeMerge" 19 "TreeMerge" "rules" "LTreeMerge$Grammar;" ∈ cx_big := cx_tb 384 (by decide +kernel) (by decide +kernel)
theorem cw_385 : Cond.fieldLink "TreeMerge" 23 "TreeMerge" "trial" "LTreeMerge$Grammar;" ∈ cx_big := cx_tb 385 (by decide +kernel) (by decide +kernel)
theorem cw_386 : Cond.fieldLink "TreeMerge" 29 "TreeMerge" "read" "LTreeMerge$Tree;" ∈ cx_big := cx_tb 386 (by decide +kernel) (by decide +kernel)
theorem cw_387 : Cond.fieldLink "TreeMerge" 33 "TreeMerge" "textTree" "LTreeMerge$Tree;" ∈ cx_big := cx_tb 387 (by decide +kernel) (by decide +kernel)
theorem cw_388 : Cond.fieldLink "TreeMerge" 39 "TreeMerge" "kids" "LTreeMerge$Kids;" ∈ cx_big := cx_tb 388 (by decide +kernel) (by decide +kernel)
theorem cw_389 : Cond.fieldLink "TreeMerge" 46 "TreeMerge" "matcher" "LTreeMerge$Matcher;" ∈ cx_big := cx_tb 389 (by decide +kernel) (by decide +kernel)
theorem cw_390 : Cond.fieldLink "TreeMerge" 53 "TreeMerge" "editions" "LTreeMerge$Editions;" ∈ cx_big := cx_tb 390 (by decide +kernel) (by decide +kernel)
theorem cw_391 : Cond.fieldLink "TreeMerge" 60 "TreeMerge" "draft" "LTreeMerge$Draft;" ∈ cx_big := cx_tb 391 (by decide +kernel) (by decide +kernel)
theorem cw_392 : Cond.fieldLink "TreeMerge" 67 "TreeMerge" "settled" "LTreeMerge$Settled;" ∈ cx_big := cx_tb 392 (by decide +kernel) (by decide +kernel)
theorem cw_393 : Cond.fieldLink "TreeMerge" 74 "TreeMerge" "merging" "LTreeMerge$Merging;" ∈ cx_big := cx_tb 393 (by decide +kernel) (by decide +kernel)
theorem cw_394 : Cond.fieldLink "TreeMerge" 78 "TreeMerge" "made" "LTreeMerge$Tree;" ∈ cx_big := cx_tb 394 (by decide +kernel) (by decide +kernel)
theorem cw_395 : Cond.fieldLink "TreeMerge" 81 "TreeMerge" "fresh" "LTreeMerge$Tree;" ∈ cx_big := cx_tb 395 (by decide +kernel) (by decide +kernel)
theorem cw_396 : Cond.fieldLink "TreeMerge" 87 "TreeMerge" "printer" "LTreeMerge$Printer;" ∈ cx_big := cx_tb 396 (by decide +kernel) (by decide +kernel)
theorem cw_397 : Cond.fieldLink "TreeMerge" 91 "TreeMerge" "nodeWriters" "[I" ∈ cx_big := cx_tb 397 (by decide +kernel) (by decide +kernel)
theorem cw_399 : Cond.fieldLink "TreeMerge" 95 "TreeMerge" "told" "[I" ∈ cx_big := cx_tb 399 (by decide +kernel) (by decide +kernel)
theorem cw_401 : Cond.fieldLink "TreeMerge" 98 "TreeMerge" "nameRow" "[I" ∈ cx_big := cx_tb 401 (by decide +kernel) (by decide +kernel)
theorem cx_inX0 : ∀ w ∈ u_ws RX0 TX0 4, w ∈ cx_big := cx_inT [262, 264, 266, 268] (by decide +kernel) (by decide +kernel)
theorem cx_fsX0 : ∀ j, j < 4 → defaultValue (tyX0 j) = vp_V [.int 0, .int 0, .null, .null] j := by
  intro j hj
  match j, hj with
  | 0, _ => rfl
  | 1, _ => rfl
  | 2, _ => rfl
  | 3, _ => rfl
  | k + 4, h => exact absurd h (by omega)
theorem cx_inX1 : ∀ w ∈ u_ws RX1 TX1 5, w ∈ cx_big := cx_inT [237, 239, 241, 243, 245] (by decide +kernel) (by decide +kernel)
theorem cx_fsX1 : ∀ j, j < 5 → defaultValue (tyX1 j) = vp_V [.int 0, .null, .null, .null, .null] j := by
  intro j hj
  match j, hj with
  | 0, _ => rfl
  | 1, _ => rfl
  | 2, _ => rfl
  | 3, _ => rfl
  | 4, _ => rfl
  | k + 5, h => exact absurd h (by omega)
theorem cx_inX2 : ∀ w ∈ u_ws RX2 TX2 13, w ∈ cx_big := cx_inT [83, 85, 87, 89, 91, 93, 95, 97, 99, 101, 103, 105, 107] (by decide +kernel) (by decide +kernel)
theorem cx_fsX2 : ∀ j, j < 13 → defaultValue (tyX2 j) = vp_V [.null, .int 0, .null, .null, .null, .null, .null, .int 0, .null, .null, .null, .null, .null] j := by
  intro j hj
  match j, hj with
  | 0, _ => rfl
  | 1, _ => rfl
  | 2, _ => rfl
  | 3, _ => rfl
  | 4, _ => rfl
  | 5, _ => rfl
  | 6, _ => rfl
  | 7, _ => rfl
  | 8, _ => rfl
  | 9, _ => rfl
  | 10, _ => rfl
  | 11, _ => rfl
  | 12, _ => rfl
  | k + 13, h => exact absurd h (by omega)
theorem cx_inX3 : ∀ w ∈ u_ws RX3 TX3 3, w ∈ cx_big := cx_inT [182, 184, 186] (by decide +kernel) (by decide +kernel)
theorem cx_fsX3 : ∀ j, j < 3 → defaultValue (tyX3 j) = vp_V [.int 0, .null, .null] j := by
  intro j hj
  match j, hj with
  | 0, _ => rfl
  | 1, _ => rfl
  | 2, _ => rfl
  | k + 3, h => exact absurd h (by omega)
theorem cx_inX4 : ∀ w ∈ u_ws RX4 TX4 7, w ∈ cx_big := cx_inT [206, 208, 210, 212, 214, 216, 218] (by decide +kernel) (by decide +kernel)
theorem cx_fsX4 : ∀ j, j < 7 → defaultValue (tyX4 j) = vp_V [.null, .null, .null, .null, .null, .int 0, .int 0] j := by
  intro j hj
  match j, hj with
  | 0, _ => rfl
  | 1, _ => rfl
  | 2, _ => rfl
  | 3, _ => rfl
  | 4, _ => rfl
  | 5, _ => rfl
  | 6, _ => rfl
  | k + 7, h => exact absurd h (by omega)
theorem cx_inX5 : ∀ w ∈ u_ws RX5 TX5 15, w ∈ cx_big := cx_inT [334, 336, 338, 340, 342, 344, 346, 348, 350, 352, 354, 356, 358, 360, 362] (by decide +kernel) (by decide +kernel)
theorem cx_fsX5 : ∀ j, j < 15 → defaultValue (tyX5 j) = vp_V [.null, .null, .null, .null, .null, .null, .null, .null, .null, .null, .int 0, .null, .int 0, .null, .null] j := by
  intro j hj
  match j, hj with
  | 0, _ => rfl
  | 1, _ => rfl
  | 2, _ => rfl
  | 3, _ => rfl
  | 4, _ => rfl
  | 5, _ => rfl
  | 6, _ => rfl
  | 7, _ => rfl
  | 8, _ => rfl
  | 9, _ => rfl
  | 10, _ => rfl
  | 11, _ => rfl
  | 12, _ => rfl
  | 13, _ => rfl
  | 14, _ => rfl
  | k + 15, h => exact absurd h (by omega)
theorem cx_inX6 : ∀ w ∈ u_ws RX6 TX6 3, w ∈ cx_big := cx_inT [376, 378, 380] (by decide +kernel) (by decide +kernel)
theorem cx_fsX6 : ∀ j, j < 3 → defaultValue (tyX6 j) = vp_V [.int 0, .int 0, .int 0] j := by
  intro j hj
  match j, hj with
  | 0, _ => rfl
  | 1, _ => rfl
  | 2, _ => rfl
  | k + 3, h => exact absurd h (by omega)
theorem cx_inX7 : ∀ w ∈ u_ws RX7 TX7 2, w ∈ cx_big := cx_inT [280, 282] (by decide +kernel) (by decide +kernel)
theorem cx_fsX7 : ∀ j, j < 2 → defaultValue (tyX7 j) = vp_V [.int 0, .null] j := by
  intro j hj
  match j, hj with
  | 0, _ => rfl
  | 1, _ => rfl
  | k + 2, h => exact absurd h (by omega)
theorem cx_inX8 : ∀ w ∈ u_ws RX8 TX8 4, w ∈ cx_big := cx_inT [304, 306, 308, 310] (by decide +kernel) (by decide +kernel)
theorem cx_fsX8 : ∀ j, j < 4 → defaultValue (tyX8 j) = vp_V [.null, .int 0, .null, .null] j := by
  intro j hj
  match j, hj with
  | 0, _ => rfl
  | 1, _ => rfl
  | 2, _ => rfl
  | 3, _ => rfl
  | k + 4, h => exact absurd h (by omega)
theorem cx_inX9 : ∀ w ∈ u_ws RX9 TX9 5, w ∈ cx_big := cx_inT [48, 50, 52, 54, 56] (by decide +kernel) (by decide +kernel)
theorem cx_fsX9 : ∀ j, j < 5 → defaultValue (tyX9 j) = vp_V [.null, .int 0, .int 0, .int 0, .int 0] j := by
  intro j hj
  match j, hj with
  | 0, _ => rfl
  | 1, _ => rfl
  | 2, _ => rfl
  | 3, _ => rfl
  | 4, _ => rfl
  | k + 5, h => exact absurd h (by omega)
theorem cx_inX10 : ∀ w ∈ u_ws RX10 TX10 8, w ∈ cx_big := cx_inT [153, 155, 157, 159, 161, 163, 165, 167] (by decide +kernel) (by decide +kernel)
theorem cx_fsX10 : ∀ j, j < 8 → defaultValue (tyX10 j) = vp_V [.int 0, .null, .null, .null, .null, .null, .null, .null] j := by
  intro j hj
  match j, hj with
  | 0, _ => rfl
  | 1, _ => rfl
  | 2, _ => rfl
  | 3, _ => rfl
  | 4, _ => rfl
  | 5, _ => rfl
  | 6, _ => rfl
  | 7, _ => rfl
  | k + 8, h => exact absurd h (by omega)
theorem cx_inX11 : ∀ w ∈ u_ws RX11 TX11 19, w ∈ cx_big := cx_inT [402, 404, 406, 408, 410, 412, 414, 416, 418, 420, 422, 424, 426, 428, 430, 432, 434, 436, 438] (by decide +kernel) (by decide +kernel)
theorem cx_fsX11 : ∀ j, j < 19 → defaultValue (tyX11 j) = vp_V [.null, .null, .null, .null, .null, .null, .null, .null, .null, .null, .null, .null, .null, .null, .null, .int 0, .null, .int 0, .null] j := by
  intro j hj
  match j, hj with
  | 0, _ => rfl
  | 1, _ => rfl
  | 2, _ => rfl
  | 3, _ => rfl
  | 4, _ => rfl
  | 5, _ => rfl
  | 6, _ => rfl
  | 7, _ => rfl
  | 8, _ => rfl
  | 9, _ => rfl
  | 10, _ => rfl
  | 11, _ => rfl
  | 12, _ => rfl
  | 13, _ => rfl
  | 14, _ => rfl
  | 15, _ => rfl
  | 16, _ => rfl
  | 17, _ => rfl
  | 18, _ => rfl
  | k + 19, h => exact absurd h (by omega)
theorem cx_inX12 : ∀ w ∈ u_ws RX12 TX12 64, w ∈ cx_big := cx_inT [1257, 1259, 1261, 1263, 1265, 1267, 1269, 1271, 1273, 1275, 1277, 1279, 1281, 1283, 1285, 1287, 1289, 1291, 1293, 1295, 1297, 1299, 1301, 1303, 1305, 1307, 1309, 1311, 1313, 1315, 1317, 1319, 1321, 1323, 1325, 1327, 1329, 1331, 1333, 1335, 1337, 1339, 1341, 1343, 1345, 1347, 1349, 1351, 1353, 1355, 1357, 1359, 1361, 1363, 1365, 1367, 1369, 1371, 1373, 1375, 1377, 1379, 1381, 1383] (by decide +kernel) (by decide +kernel)
theorem cx_fsX12 : ∀ j, j < 64 → defaultValue (tyX12 j) = vp_V [.null, .int 0, .int 0, .int 0, .int 0, .null, .null, .null, .null, .null, .null, .null, .null, .null, .int 0, .int 0, .null, .null, .null, .null, .null, .null, .null, .null, .null, .null, .int 0, .int 0, .int 0, .int 0, .null, .null, .null, .null, .null, .null, .null, .null, .null, .null, .null, .null, .null, .null, .null, .null, .null, .null, .null, .null, .int 0, .int 0, .int 0, .null, .null, .null, .null, .int 0, .int 0, .null, .null, .null, .null, .int 0] j := by
  intro j hj
  match j, hj with
  | 0, _ => rfl
  | 1, _ => rfl
  | 2, _ => rfl
  | 3, _ => rfl
  | 4, _ => rfl
  | 5, _ => rfl
  | 6, _ => rfl
  | 7, _ => rfl
  | 8, _ => rfl
  | 9, _ => rfl
  | 10, _ => rfl
  | 11, _ => rfl
  | 12, _ => rfl
  | 13, _ => rfl
  | 14, _ => rfl
  | 15, _ => rfl
  | 16, _ => rfl
  | 17, _ => rfl
  | 18, _ => rfl
  | 19, _ => rfl
  | 20, _ => rfl
  | 21, _ => rfl
  | 22, _ => rfl
  | 23, _ => rfl
  | 24, _ => rfl
  | 25, _ => rfl
  | 26, _ => rfl
  | 27, _ => rfl
  | 28, _ => rfl
  | 29, _ => rfl
  | 30, _ => rfl
  | 31, _ => rfl
  | 32, _ => rfl
  | 33, _ => rfl
  | 34, _ => rfl
  | 35, _ => rfl
  | 36, _ => rfl
  | 37, _ => rfl
  | 38, _ => rfl
  | 39, _ => rfl
  | 40, _ => rfl
  | 41, _ => rfl
  | 42, _ => rfl
  | 43, _ => rfl
  | 44, _ => rfl
  | 45, _ => rfl
  | 46, _ => rfl
  | 47, _ => rfl
  | 48, _ => rfl
  | 49, _ => rfl
  | 50, _ => rfl
  | 51, _ => rfl
  | 52, _ => rfl
  | 53, _ => rfl
  | 54, _ => rfl
  | 55, _ => rfl
  | 56, _ => rfl
  | 57, _ => rfl
  | 58, _ => rfl
  | 59, _ => rfl
  | 60, _ => rfl
  | 61, _ => rfl
  | 62, _ => rfl
  | 63, _ => rfl
  | k + 64, h => exact absurd h (by omega)
end
section
set_option maxHeartbeats 4000000 in
set_option maxRecDepth 100000 in
theorem kX9_init (l : Launch) (D : va_G) (cs : Nat → ClassId) (ad0 : Nat) (sz : Nat) : Met l yX9_init (.code yX9_init cX9_init 1 none :: cx_big) { frames := 1, cells := 1, slots := 500, locals := 12 } (cx_P D cs [.ref ad0] [(ad0, .inr (9, [.null, .int 0, .int 0, .int 0, .int 0]))] sz) (cx_Q D none (fun u => [(ad0, .inr (9, [.ref (u 0), .int 0, .int 0, .int 0, .int 0])), ((u 0), .inl (cs 0, 500, .inl (fun _ => 0)))]) (va_A [(ad0, .inr (9, [.null, .int 0, .int 0, .int 0, .int 0]))] sz)) 1 500 (va_A [(ad0, .inr (9, [.null, .int 0, .int 0, .int 0, .int 0]))] sz) := by
  refine cx_ofW (by decide) (Nat.le_of_ble_eq_true rfl) ?_
  intro p e s m below meth c A ls hx hb hr hml hB hown hlocks hnm hK hN hA hP hD hS hl
  have hown : s.vm.findClass "TreeMerge$Text" = some m.cls := hown
  have hl : lv_has ls 1 [(0, .ref ad0)] := hl
  have hnm : meth.name = "<init>" := hnm
  have hS0 := hS
  refine lv_aload_n hx hb dX9_init_0 rfl (lv_at hl 0 rfl) ?_
  refine W.objInit hx hb hown (hB _ cw_33) (hB _ cw_26) (hB _ cw_27) rfl (by rw [hml]; exact hl.1) rfl dX9_init_1 (Nat.le_of_ble_eq_true rfl) (Nat.le_of_ble_eq_true rfl) ?_
  refine W.eq (g2 := F0 m 4 ls []) rfl ?_
  refine lv_aload_n hx hb dX9_init_4 rfl (lv_at hl 0 rfl) ?_
  refine lv_sipush (v := 500) hx hb dX9_init_5 (by decide) ?_
  refine cx_newa (cs := cs) (atype := .int) (ty := .int) (a0 := (500, .inl (fun _ => 0))) hx hb hB cw_59 rfl cx_ra_int 0 rfl hK hP hD hS hA (fun _ => rfl) (by decide) (by decide) (Nat.le_of_ble_eq_true rfl) (Nat.le_of_ble_eq_true rfl) (Nat.le_of_ble_eq_true rfl) dX9_init_8 (fun qa1 H hP hD hS => ?_)
  have hP : va_P D vwCl [(ad0, .inr (9, [.null, .int 0, .int 0, .int 0, .int 0])), (qa1, .inl (cs 0, 500, .inl (fun _ => 0)))] H := hP
  have hD : va_D A [(ad0, .inr (9, [.null, .int 0, .int 0, .int 0, .int 0])), (qa1, .inl (cs 0, 500, .inl (fun _ => 0)))] := hD
  refine va_putF (D := D) (ci := 9) (v := .ref qa1) (ty := .array .int) (C := RX9) (T := TX9) (N := 5) hx hb hB cx_inX9 tyX9 tyX9_ok nmX9 hown hK hP hD hS 0 rfl rfl 0 (by decide) (hB _ cw_34) (fun _ h9 => h9) rfl hnm rfl (by decide +kernel) rfl rfl (Nat.le_of_ble_eq_true rfl) dX9_init_10 (fun H locs hP hD hS => ?_)
  have hP : va_P D vwCl [(ad0, .inr (9, [.ref qa1, .int 0, .int 0, .int 0, .int 0])), (qa1, .inl (cs 0, 500, .inl (fun _ => 0)))] H := hP
  have hD : va_D A [(ad0, .inr (9, [.ref qa1, .int 0, .int 0, .int 0, .int 0])), (qa1, .inl (cs 0, 500, .inl (fun _ => 0)))] := hD
  exact cx_vret hx hb hr hlocks hP hD hS (cx_uo [qa1]) [0, 1] rfl (by decide) (Nat.le_of_ble_eq_true rfl) (Nat.le_of_ble_eq_true rfl) dX9_init_13
set_option maxHeartbeats 4000000 in
set_option maxRecDepth 100000 in
theorem kX2_init (l : Launch) (D : va_G) (cs : Nat → ClassId) (ad0 : Nat) (sz : Nat) : Met l yX2_init (.code yX2_init cX2_init 1 none :: cx_big) { frames := 1, cells := 11, slots := 3051, locals := 12 } (cx_P D cs [.ref ad0] [(ad0, .inr (2, [.null, .int 0, .null, .null, .null, .null, .null, .int 0, .null, .null, .null, .null, .null]))] sz) (cx_Q D none (fun u => [(ad0, .inr (2, [.ref (u 0), .int 0, .ref (u 1), .ref (u 2), .ref (u 3), .ref (u 4), .ref (u 5), .int 0, .ref (u 6), .ref (u 7), .ref (u 8), .ref (u 9), .ref (u 10)])), ((u 0), .inl (cs 0, 500, .inl (fun _ => 0)))]) (va_A [(ad0, .inr (2, [.null, .int 0, .null, .null, .null, .null, .null, .int 0, .null, .null, .null, .null, .null]))] sz)) 11 3051 (va_A [(ad0, .inr (2, [.null, .int 0, .null, .null, .null, .null, .null, .int 0, .null, .null, .null, .null, .null]))] sz) := by
  refine cx_ofW (by decide) (Nat.le_of_ble_eq_true rfl) ?_
  intro p e s m below meth c A ls hx hb hr hml hB hown hlocks hnm hK hN hA hP hD hS hl
  have hown : s.vm.findClass "TreeMerge$Grammar" = some m.cls := hown
  have hl : lv_has ls 1 [(0, .ref ad0)] := hl
  have hnm : meth.name = "<init>" := hnm
  have hS0 := hS
  refine lv_aload_n hx hb dX2_init_0 rfl (lv_at hl 0 rfl) ?_
  refine W.objInit hx hb hown (hB _ cw_65) (hB _ cw_26) (hB _ cw_27) rfl (by rw [hml]; exact hl.1) rfl dX2_init_1 (Nat.le_of_ble_eq_true rfl) (Nat.le_of_ble_eq_true rfl) ?_
  refine W.eq (g2 := F0 m 4 ls []) rfl ?_
  refine lv_aload_n hx hb dX2_init_4 rfl (lv_at hl 0 rfl) ?_
  refine lv_sipush (v := 500) hx hb dX2_init_5 (by decide) ?_
  refine cx_newa (cs := cs) (atype := .int) (ty := .int) (a0 := (500, .inl (fun _ => 0))) hx hb hB cw_59 rfl cx_ra_int 0 rfl hK hP hD hS hA (fun _ => rfl) (by decide) (by decide) (Nat.le_of_ble_eq_true rfl) (Nat.le_of_ble_eq_true rfl) (Nat.le_of_ble_eq_true rfl) dX2_init_8 (fun qa1 H hP hD hS => ?_)
  have hP : va_P D vwCl [(ad0, .inr (2, [.null, .int 0, .null, .null, .null, .null, .null, .int 0, .null, .null, .null, .null, .null])), (qa1, .inl (cs 0, 500, .inl (fun _ => 0)))] H := hP
  have hD : va_D A [(ad0, .inr (2, [.null, .int 0, .null, .null, .null, .null, .null, .int 0, .null, .null, .null, .null, .null])), (qa1, .inl (cs 0, 500, .inl (fun _ => 0)))] := hD
  refine va_putF (D := D) (ci := 2) (v := .ref qa1) (ty := .array .int) (C := RX2) (T := TX2) (N := 13) hx hb hB cx_inX2 tyX2 tyX2_ok nmX2 hown hK hP hD hS 0 rfl rfl 0 (by decide) (hB _ cw_66) (fun _ h9 => h9) rfl hnm rfl (by decide +kernel) rfl rfl (Nat.le_of_ble_eq_true rfl) dX2_init_10 (fun H locs hP hD hS => ?_)
  have hP : va_P D vwCl [(ad0, .inr (2, [.ref qa1, .int 0, .null, .null, .null, .null, .null, .int 0, .null, .null, .null, .null, .null])), (qa1, .inl (cs 0, 500, .inl (fun _ => 0)))] H := hP
  have hD : va_D A [(ad0, .inr (2, [.ref qa1, .int 0, .null, .null, .null, .null, .null, .int 0, .null, .null, .null, .null, .null])), (qa1, .inl (cs 0, 500, .inl (fun _ => 0)))] := hD
  refine lv_aload_n hx hb dX2_init_13 rfl (lv_at hl 0 rfl) ?_
  refine lv_bipush (v := 10) hx hb dX2_init_14 (by decide) ?_
  refine cx_newa (cs := cs) (atype := .int) (ty := .int) (a0 := (10, .inl (fun _ => 0))) hx hb hB cw_59 rfl cx_ra_int 0 rfl hK hP hD hS hA (fun _ => rfl) (by decide) (by decide) (Nat.le_of_ble_eq_true rfl) (Nat.le_of_ble_eq_true rfl) (Nat.le_of_ble_eq_true rfl) dX2_init_16 (fun qa2 H hP hD hS => ?_)
  have hP : va_P D vwCl [(ad0, .inr (2, [.ref qa1, .int 0, .null, .null, .null, .null, .null, .int 0, .null, .null, .null, .null, .null])), (qa1, .inl (cs 0, 500, .inl (fun _ => 0))), (qa2, .inl (cs 0, 10, .inl (fun _ => 0)))] H := hP
  have hD : va_D A [(ad0, .inr (2, [.ref qa1, .int 0, .null, .null, .null, .null, .null, .int 0, .null, .null, .null, .null, .null])), (qa1, .inl (cs 0, 500, .inl (fun _ => 0))), (qa2, .inl (cs 0, 10, .inl (fun _ => 0)))] := hD
  refine va_putF (D := D) (ci := 2) (v := .ref qa2) (ty := .array .int) (C := RX2) (T := TX2) (N := 13) hx hb hB cx_inX2 tyX2 tyX2_ok nmX2 hown hK hP hD hS 0 rfl rfl 2 (by decide) (hB _ cw_70) (fun _ h9 => h9) rfl hnm rfl (by decide +kernel) rfl rfl (Nat.le_of_ble_eq_true rfl) dX2_init_18 (fun H locs hP hD hS => ?_)
  have hP : va_P D vwCl [(ad0, .inr (2, [.ref qa1, .int 0, .ref qa2, .null, .null, .null, .null, .int 0, .null, .null, .null, .null, .null])), (qa1, .inl (cs 0, 500, .inl (fun _ => 0))), (qa2, .inl (cs 0, 10, .inl (fun _ => 0)))] H := hP
  have hD : va_D A [(ad0, .inr (2, [.ref qa1, .int 0, .ref qa2, .null, .null, .null, .null, .int 0, .null, .null, .null, .null, .null])), (qa1, .inl (cs 0, 500, .inl (fun _ => 0))), (qa2, .inl (cs 0, 10, .inl (fun _ => 0)))] := hD
  refine lv_aload_n hx hb dX2_init_21 rfl (lv_at hl 0 rfl) ?_
  refine lv_bipush (v := 10) hx hb dX2_init_22 (by decide) ?_
  refine cx_newa (cs := cs) (atype := .int) (ty := .int) (a0 := (10, .inl (fun _ => 0))) hx hb hB cw_59 rfl cx_ra_int 0 rfl hK hP hD hS hA (fun _ => rfl) (by decide) (by decide) (Nat.le_of_ble_eq_true rfl) (Nat.le_of_ble_eq_true rfl) (Nat.le_of_ble_eq_true rfl) dX2_init_24 (fun qa3 H hP hD hS => ?_)
  have hP : va_P D vwCl [(ad0, .inr (2, [.ref qa1, .int 0, .ref qa2, .null, .null, .null, .null, .int 0, .null, .null, .null, .null, .null])), (qa1, .inl (cs 0, 500, .inl (fun _ => 0))), (qa2, .inl (cs 0, 10, .inl (fun _ => 0))), (qa3, .inl (cs 0, 10, .inl (fun _ => 0)))] H := hP
  have hD : va_D A [(ad0, .inr (2, [.ref qa1, .int 0, .ref qa2, .null, .null, .null, .null, .int 0, .null, .null, .null, .null, .null])), (qa1, .inl (cs 0, 500, .inl (fun _ => 0))), (qa2, .inl (cs 0, 10, .inl (fun _ => 0))), (qa3, .inl (cs 0, 10, .inl (fun _ => 0)))] := hD
  refine va_putF (D := D) (ci := 2) (v := .ref qa3) (ty := .array .int) (C := RX2) (T := TX2) (N := 13) hx hb hB cx_inX2 tyX2 tyX2_ok nmX2 hown hK hP hD hS 0 rfl rfl 3 (by decide) (hB _ cw_72) (fun _ h9 => h9) rfl hnm rfl (by decide +kernel) rfl rfl (Nat.le_of_ble_eq_true rfl) dX2_init_26 (fun H locs hP hD hS => ?_)
  have hP : va_P D vwCl [(ad0, .inr (2, [.ref qa1, .int 0, .ref qa2, .ref qa3, .null, .null, .null, .int 0, .null, .null, .null, .null, .null])), (qa1, .inl (cs 0, 500, .inl (fun _ => 0))), (qa2, .inl (cs 0, 10, .inl (fun _ => 0))), (qa3, .inl (cs 0, 10, .inl (fun _ => 0)))] H := hP
  have hD : va_D A [(ad0, .inr (2, [.ref qa1, .int 0, .ref qa2, .ref qa3, .null, .null, .null, .int 0, .null, .null, .null, .null, .null])), (qa1, .inl (cs 0, 500, .inl (fun _ => 0))), (qa2, .inl (cs 0, 10, .inl (fun _ => 0))), (qa3, .inl (cs 0, 10, .inl (fun _ => 0)))] := hD
  refine lv_aload_n hx hb dX2_init_29 rfl (lv_at hl 0 rfl) ?_
  refine lv_bipush (v := 10) hx hb dX2_init_30 (by decide) ?_
  refine cx_newa (cs := cs) (atype := .int) (ty := .int) (a0 := (10, .inl (fun _ => 0))) hx hb hB cw_59 rfl cx_ra_int 0 rfl hK hP hD hS hA (fun _ => rfl) (by decide) (by decide) (Nat.le_of_ble_eq_true rfl) (Nat.le_of_ble_eq_true rfl) (Nat.le_of_ble_eq_true rfl) dX2_init_32 (fun qa4 H hP hD hS => ?_)
  have hP : va_P D vwCl [(ad0, .inr (2, [.ref qa1, .int 0, .ref qa2, .ref qa3, .null, .null, .null, .int 0, .null, .null, .null, .null, .null])), (qa1, .inl (cs 0, 500, .inl (fun _ => 0))), (qa2, .inl (cs 0, 10, .inl (fun _ => 0))), (qa3, .inl (cs 0, 10, .inl (fun _ => 0))), (qa4, .inl (cs 0, 10, .inl (fun _ => 0)))] H := hP
  have hD : va_D A [(ad0, .inr (2, [.ref qa1, .int 0, .ref qa2, .ref qa3, .null, .null, .null, .int 0, .null, .null, .null, .null, .null])), (qa1, .inl (cs 0, 500, .inl (fun _ => 0))), (qa2, .inl (cs 0, 10, .inl (fun _ => 0))), (qa3, .inl (cs 0, 10, .inl (fun _ => 0))), (qa4, .inl (cs 0, 10, .inl (fun _ => 0)))] := hD
  refine va_putF (D := D) (ci := 2) (v := .ref qa4) (ty := .array .int) (C := RX2) (T := TX2) (N := 13) hx hb hB cx_inX2 tyX2 tyX2_ok nmX2 hown hK hP hD hS 0 rfl rfl 4 (by decide) (hB _ cw_74) (fun _ h9 => h9) rfl hnm rfl (by decide +kernel) rfl rfl (Nat.le_of_ble_eq_true rfl) dX2_init_34 (fun H locs hP hD hS => ?_)
  have hP : va_P D vwCl [(ad0, .inr (2, [.ref qa1, .int 0, .ref qa2, .ref qa3, .ref qa4, .null, .null, .int 0, .null, .null, .null, .null, .null])), (qa1, .inl (cs 0, 500, .inl (fun _ => 0))), (qa2, .inl (cs 0, 10, .inl (fun _ => 0))), (qa3, .inl (cs 0, 10, .inl (fun _ => 0))), (qa4, .inl (cs 0, 10, .inl (fun _ => 0)))] H := hP
  have hD : va_D A [(ad0, .inr (2, [.ref qa1, .int 0, .ref qa2, .ref qa3, .ref qa4, .null, .null, .int 0, .null, .null, .null, .null, .null])), (qa1, .inl (cs 0, 500, .inl (fun _ => 0))), (qa2, .inl (cs 0, 10, .inl (fun _ => 0))), (qa3, .inl (cs 0, 10, .inl (fun _ => 0))), (qa4, .inl (cs 0, 10, .inl (fun _ => 0)))] := hD
  refine lv_aload_n hx hb dX2_init_37 rfl (lv_at hl 0 rfl) ?_
  refine lv_bipush (v := 10) hx hb dX2_init_38 (by decide) ?_
  refine cx_newa (cs := cs) (atype := .int) (ty := .int) (a0 := (10, .inl (fun _ => 0))) hx hb hB cw_59 rfl cx_ra_int 0 rfl hK hP hD hS hA (fun _ => rfl) (by decide) (by decide) (Nat.le_of_ble_eq_true rfl) (Nat.le_of_ble_eq_true rfl) (Nat.le_of_ble_eq_true rfl) dX2_init_40 (fun qa5 H hP hD hS => ?_)
  have hP : va_P D vwCl [(ad0, .inr (2, [.ref qa1, .int 0, .ref qa2, .ref qa3, .ref qa4, .null, .null, .int 0, .null, .null, .null, .null, .null])), (qa1, .inl (cs 0, 500, .inl (fun _ => 0))), (qa2, .inl (cs 0, 10, .inl (fun _ => 0))), (qa3, .inl (cs 0, 10, .inl (fun _ => 0))), (qa4, .inl (cs 0, 10, .inl (fun _ => 0))), (qa5, .inl (cs 0, 10, .inl (fun _ => 0)))] H := hP
  have hD : va_D A [(ad0, .inr (2, [.ref qa1, .int 0, .ref qa2, .ref qa3, .ref qa4, .null, .null, .int 0, .null, .null, .null, .null, .null])), (qa1, .inl (cs 0, 500, .inl (fun _ => 0))), (qa2, .inl (cs 0, 10, .inl (fun _ => 0))), (qa3, .inl (cs 0, 10, .inl (fun _ => 0))), (qa4, .inl (cs 0, 10, .inl (fun _ => 0))), (qa5, .inl (cs 0, 10, .inl (fun _ => 0)))] := hD
  refine va_putF (D := D) (ci := 2) (v := .ref qa5) (ty := .array .int) (C := RX2) (T := TX2) (N := 13) hx hb hB cx_inX2 tyX2 tyX2_ok nmX2 hown hK hP hD hS 0 rfl rfl 5 (by decide) (hB _ cw_75) (fun _ h9 => h9) rfl hnm rfl (by decide +kernel) rfl rfl (Nat.le_of_ble_eq_true rfl) dX2_init_42 (fun H locs hP hD hS => ?_)
  have hP : va_P D vwCl [(ad0, .inr (2, [.ref qa1, .int 0, .ref qa2, .ref qa3, .ref qa4, .ref qa5, .null, .int 0, .null, .null, .null, .null, .null])), (qa1, .inl (cs 0, 500, .inl (fun _ => 0))), (qa2, .inl (cs 0, 10, .inl (fun _ => 0))), (qa3, .inl (cs 0, 10, .inl (fun _ => 0))), (qa4, .inl (cs 0, 10, .inl (fun _ => 0))), (qa5, .inl (cs 0, 10, .inl (fun _ => 0)))] H := hP
  have hD : va_D A [(ad0, .inr (2, [.ref qa1, .int 0, .ref qa2, .ref qa3, .ref qa4, .ref qa5, .null, .int 0, .null, .null, .null, .null, .null])), (qa1, .inl (cs 0, 500, .inl (fun _ => 0))), (qa2, .inl (cs 0, 10, .inl (fun _ => 0))), (qa3, .inl (cs 0, 10, .inl (fun _ => 0))), (qa4, .inl (cs 0, 10, .inl (fun _ => 0))), (qa5, .inl (cs 0, 10, .inl (fun _ => 0)))] := hD
  refine lv_aload_n hx hb dX2_init_45 rfl (lv_at hl 0 rfl) ?_
  refine lv_bipush (v := 10) hx hb dX2_init_46 (by decide) ?_
  refine cx_newa (cs := cs) (atype := .int) (ty := .int) (a0 := (10, .inl (fun _ => 0))) hx hb hB cw_59 rfl cx_ra_int 0 rfl hK hP hD hS hA (fun _ => rfl) (by decide) (by decide) (Nat.le_of_ble_eq_true rfl) (Nat.le_of_ble_eq_true rfl) (Nat.le_of_ble_eq_true rfl) dX2_init_48 (fun qa6 H hP hD hS => ?_)
  have hP : va_P D vwCl [(ad0, .inr (2, [.ref qa1, .int 0, .ref qa2, .ref qa3, .ref qa4, .ref qa5, .null, .int 0, .null, .null, .null, .null, .null])), (qa1, .inl (cs 0, 500, .inl (fun _ => 0))), (qa2, .inl (cs 0, 10, .inl (fun _ => 0))), (qa3, .inl (cs 0, 10, .inl (fun _ => 0))), (qa4, .inl (cs 0, 10, .inl (fun _ => 0))), (qa5, .inl (cs 0, 10, .inl (fun _ => 0))), (qa6, .inl (cs 0, 10, .inl (fun _ => 0)))] H := hP
  have hD : va_D A [(ad0, .inr (2, [.ref qa1, .int 0, .ref qa2, .ref qa3, .ref qa4, .ref qa5, .null, .int 0, .null, .null, .null, .null, .null])), (qa1, .inl (cs 0, 500, .inl (fun _ => 0))), (qa2, .inl (cs 0, 10, .inl (fun _ => 0))), (qa3, .inl (cs 0, 10, .inl (fun _ => 0))), (qa4, .inl (cs 0, 10, .inl (fun _ => 0))), (qa5, .inl (cs 0, 10, .inl (fun _ => 0))), (qa6, .inl (cs 0, 10, .inl (fun _ => 0)))] := hD
  refine va_putF (D := D) (ci := 2) (v := .ref qa6) (ty := .array .int) (C := RX2) (T := TX2) (N := 13) hx hb hB cx_inX2 tyX2 tyX2_ok nmX2 hown hK hP hD hS 0 rfl rfl 6 (by decide) (hB _ cw_76) (fun _ h9 => h9) rfl hnm rfl (by decide +kernel) rfl rfl (Nat.le_of_ble_eq_true rfl) dX2_init_50 (fun H locs hP hD hS => ?_)
  have hP : va_P D vwCl [(ad0, .inr (2, [.ref qa1, .int 0, .ref qa2, .ref qa3, .ref qa4, .ref qa5, .ref qa6, .int 0, .null, .null, .null, .null, .null])), (qa1, .inl (cs 0, 500, .inl (fun _ => 0))), (qa2, .inl (cs 0, 10, .inl (fun _ => 0))), (qa3, .inl (cs 0, 10, .inl (fun _ => 0))), (qa4, .inl (cs 0, 10, .inl (fun _ => 0))), (qa5, .inl (cs 0, 10, .inl (fun _ => 0))), (qa6, .inl (cs 0, 10, .inl (fun _ => 0)))] H := hP
  have hD : va_D A [(ad0, .inr (2, [.ref qa1, .int 0, .ref qa2, .ref qa3, .ref qa4, .ref qa5, .ref qa6, .int 0, .null, .null, .null, .null, .null])), (qa1, .inl (cs 0, 500, .inl (fun _ => 0))), (qa2, .inl (cs 0, 10, .inl (fun _ => 0))), (qa3, .inl (cs 0, 10, .inl (fun _ => 0))), (qa4, .inl (cs 0, 10, .inl (fun _ => 0))), (qa5, .inl (cs 0, 10, .inl (fun _ => 0))), (qa6, .inl (cs 0, 10, .inl (fun _ => 0)))] := hD
  refine lv_aload_n hx hb dX2_init_53 rfl (lv_at hl 0 rfl) ?_
  refine lv_sipush (v := 500) hx hb dX2_init_54 (by decide) ?_
  refine cx_newa (cs := cs) (atype := .int) (ty := .int) (a0 := (500, .inl (fun _ => 0))) hx hb hB cw_59 rfl cx_ra_int 0 rfl hK hP hD hS hA (fun _ => rfl) (by decide) (by decide) (Nat.le_of_ble_eq_true rfl) (Nat.le_of_ble_eq_true rfl) (Nat.le_of_ble_eq_true rfl) dX2_init_57 (fun qa7 H hP hD hS => ?_)
  have hP : va_P D vwCl [(ad0, .inr (2, [.ref qa1, .int 0, .ref qa2, .ref qa3, .ref qa4, .ref qa5, .ref qa6, .int 0, .null, .null, .null, .null, .null])), (qa1, .inl (cs 0, 500, .inl (fun _ => 0))), (qa2, .inl (cs 0, 10, .inl (fun _ => 0))), (qa3, .inl (cs 0, 10, .inl (fun _ => 0))), (qa4, .inl (cs 0, 10, .inl (fun _ => 0))), (qa5, .inl (cs 0, 10, .inl (fun _ => 0))), (qa6, .inl (cs 0, 10, .inl (fun _ => 0))), (qa7, .inl (cs 0, 500, .inl (fun _ => 0)))] H := hP
  have hD : va_D A [(ad0, .inr (2, [.ref qa1, .int 0, .ref qa2, .ref qa3, .ref qa4, .ref qa5, .ref qa6, .int 0, .null, .null, .null, .null, .null])), (qa1, .inl (cs 0, 500, .inl (fun _ => 0))), (qa2, .inl (cs 0, 10, .inl (fun _ => 0))), (qa3, .inl (cs 0, 10, .inl (fun _ => 0))), (qa4, .inl (cs 0, 10, .inl (fun _ => 0))), (qa5, .inl (cs 0, 10, .inl (fun _ => 0))), (qa6, .inl (cs 0, 10, .inl (fun _ => 0))), (qa7, .inl (cs 0, 500, .inl (fun _ => 0)))] := hD
  refine va_putF (D := D) (ci := 2) (v := .ref qa7) (ty := .array .int) (C := RX2) (T := TX2) (N := 13) hx hb hB cx_inX2 tyX2 tyX2_ok nmX2 hown hK hP hD hS 0 rfl rfl 8 (by decide) (hB _ cw_78) (fun _ h9 => h9) rfl hnm rfl (by decide +kernel) rfl rfl (Nat.le_of_ble_eq_true rfl) dX2_init_59 (fun H locs hP hD hS => ?_)
  have hP : va_P D vwCl [(ad0, .inr (2, [.ref qa1, .int 0, .ref qa2, .ref qa3, .ref qa4, .ref qa5, .ref qa6, .int 0, .ref qa7, .null, .null, .null, .null])), (qa1, .inl (cs 0, 500, .inl (fun _ => 0))), (qa2, .inl (cs 0, 10, .inl (fun _ => 0))), (qa3, .inl (cs 0, 10, .inl (fun _ => 0))), (qa4, .inl (cs 0, 10, .inl (fun _ => 0))), (qa5, .inl (cs 0, 10, .inl (fun _ => 0))), (qa6, .inl (cs 0, 10, .inl (fun _ => 0))), (qa7, .inl (cs 0, 500, .inl (fun _ => 0)))] H := hP
  have hD : va_D A [(ad0, .inr (2, [.ref qa1, .int 0, .ref qa2, .ref qa3, .ref qa4, .ref qa5, .ref qa6, .int 0, .ref qa7, .null, .null, .null, .null])), (qa1, .inl (cs 0, 500, .inl (fun _ => 0))), (qa2, .inl (cs 0, 10, .inl (fun _ => 0))), (qa3, .inl (cs 0, 10, .inl (fun _ => 0))), (qa4, .inl (cs 0, 10, .inl (fun _ => 0))), (qa5, .inl (cs 0, 10, .inl (fun _ => 0))), (qa6, .inl (cs 0, 10, .inl (fun _ => 0))), (qa7, .inl (cs 0, 500, .inl (fun _ => 0)))] := hD
  refine lv_aload_n hx hb dX2_init_62 rfl (lv_at hl 0 rfl) ?_
  refine lv_sipush (v := 500) hx hb dX2_init_63 (by decide) ?_
  refine cx_newa (cs := cs) (atype := .int) (ty := .int) (a0 := (500, .inl (fun _ => 0))) hx hb hB cw_59 rfl cx_ra_int 0 rfl hK hP hD hS hA (fun _ => rfl) (by decide) (by decide) (Nat.le_of_ble_eq_true rfl) (Nat.le_of_ble_eq_true rfl) (Nat.le_of_ble_eq_true rfl) dX2_init_66 (fun qa8 H hP hD hS => ?_)
  have hP : va_P D vwCl [(ad0, .inr (2, [.ref qa1, .int 0, .ref qa2, .ref qa3, .ref qa4, .ref qa5, .ref qa6, .int 0, .ref qa7, .null, .null, .null, .null])), (qa1, .inl (cs 0, 500, .inl (fun _ => 0))), (qa2, .inl (cs 0, 10, .inl (fun _ => 0))), (qa3, .inl (cs 0, 10, .inl (fun _ => 0))), (qa4, .inl (cs 0, 10, .inl (fun _ => 0))), (qa5, .inl (cs 0, 10, .inl (fun _ => 0))), (qa6, .inl (cs 0, 10, .inl (fun _ => 0))), (qa7, .inl (cs 0, 500, .inl (fun _ => 0))), (qa8, .inl (cs 0, 500, .inl (fun _ => 0)))] H := hP
  have hD : va_D A [(ad0, .inr (2, [.ref qa1, .int 0, .ref qa2, .ref qa3, .ref qa4, .ref qa5, .ref qa6, .int 0, .ref qa7, .null, .null, .null, .null])), (qa1, .inl (cs 0, 500, .inl (fun _ => 0))), (qa2, .inl (cs 0, 10, .inl (fun _ => 0))), (qa3, .inl (cs 0, 10, .inl (fun _ => 0))), (qa4, .inl (cs 0, 10, .inl (fun _ => 0))), (qa5, .inl (cs 0, 10, .inl (fun _ => 0))), (qa6, .inl (cs 0, 10, .inl (fun _ => 0))), (qa7, .inl (cs 0, 500, .inl (fun _ => 0))), (qa8, .inl (cs 0, 500, .inl (fun _ => 0)))] := hD
  refine va_putF (D := D) (ci := 2) (v := .ref qa8) (ty := .array .int) (C := RX2) (T := TX2) (N := 13) hx hb hB cx_inX2 tyX2 tyX2_ok nmX2 hown hK hP hD hS 0 rfl rfl 9 (by decide) (hB _ cw_79) (fun _ h9 => h9) rfl hnm rfl (by decide +kernel) rfl rfl (Nat.le_of_ble_eq_true rfl) dX2_init_68 (fun H locs hP hD hS => ?_)
  have hP : va_P D vwCl [(ad0, .inr (2, [.ref qa1, .int 0, .ref qa2, .ref qa3, .ref qa4, .ref qa5, .ref qa6, .int 0, .ref qa7, .ref qa8, .null, .null, .null])), (qa1, .inl (cs 0, 500, .inl (fun _ => 0))), (qa2, .inl (cs 0, 10, .inl (fun _ => 0))), (qa3, .inl (cs 0, 10, .inl (fun _ => 0))), (qa4, .inl (cs 0, 10, .inl (fun _ => 0))), (qa5, .inl (cs 0, 10, .inl (fun _ => 0))), (qa6, .inl (cs 0, 10, .inl (fun _ => 0))), (qa7, .inl (cs 0, 500, .inl (fun _ => 0))), (qa8, .inl (cs 0, 500, .inl (fun _ => 0)))] H := hP
  have hD : va_D A [(ad0, .inr (2, [.ref qa1, .int 0, .ref qa2, .ref qa3, .ref qa4, .ref qa5, .ref qa6, .int 0, .ref qa7, .ref qa8, .null, .null, .null])), (qa1, .inl (cs 0, 500, .inl (fun _ => 0))), (qa2, .inl (cs 0, 10, .inl (fun _ => 0))), (qa3, .inl (cs 0, 10, .inl (fun _ => 0))), (qa4, .inl (cs 0, 10, .inl (fun _ => 0))), (qa5, .inl (cs 0, 10, .inl (fun _ => 0))), (qa6, .inl (cs 0, 10, .inl (fun _ => 0))), (qa7, .inl (cs 0, 500, .inl (fun _ => 0))), (qa8, .inl (cs 0, 500, .inl (fun _ => 0)))] := hD
  refine lv_aload_n hx hb dX2_init_71 rfl (lv_at hl 0 rfl) ?_
  refine lv_sipush (v := 500) hx hb dX2_init_72 (by decide) ?_
  refine cx_newa (cs := cs) (atype := .int) (ty := .int) (a0 := (500, .inl (fun _ => 0))) hx hb hB cw_59 rfl cx_ra_int 0 rfl hK hP hD hS hA (fun _ => rfl) (by decide) (by decide) (Nat.le_of_ble_eq_true rfl) (Nat.le_of_ble_eq_true rfl) (Nat.le_of_ble_eq_true rfl) dX2_init_75 (fun qa9 H hP hD hS => ?_)
  have hP : va_P D vwCl [(ad0, .inr (2, [.ref qa1, .int 0, .ref qa2, .ref qa3, .ref qa4, .ref qa5, .ref qa6, .int 0, .ref qa7, .ref qa8, .null, .null, .null])), (qa1, .inl (cs 0, 500, .inl (fun _ => 0))), (qa2, .inl (cs 0, 10, .inl (fun _ => 0))), (qa3, .inl (cs 0, 10, .inl (fun _ => 0))), (qa4, .inl (cs 0, 10, .inl (fun _ => 0))), (qa5, .inl (cs 0, 10, .inl (fun _ => 0))), (qa6, .inl (cs 0, 10, .inl (fun _ => 0))), (qa7, .inl (cs 0, 500, .inl (fun _ => 0))), (qa8, .inl (cs 0, 500, .inl (fun _ => 0))), (qa9, .inl (cs 0, 500, .inl (fun _ => 0)))] H := hP
  have hD : va_D A [(ad0, .inr (2, [.ref qa1, .int 0, .ref qa2, .ref qa3, .ref qa4, .ref qa5, .ref qa6, .int 0, .ref qa7, .ref qa8, .null, .null, .null])), (qa1, .inl (cs 0, 500, .inl (fun _ => 0))), (qa2, .inl (cs 0, 10, .inl (fun _ => 0))), (qa3, .inl (cs 0, 10, .inl (fun _ => 0))), (qa4, .inl (cs 0, 10, .inl (fun _ => 0))), (qa5, .inl (cs 0, 10, .inl (fun _ => 0))), (qa6, .inl (cs 0, 10, .inl (fun _ => 0))), (qa7, .inl (cs 0, 500, .inl (fun _ => 0))), (qa8, .inl (cs 0, 500, .inl (fun _ => 0))), (qa9, .inl (cs 0, 500, .inl (fun _ => 0)))] := hD
  refine va_putF (D := D) (ci := 2) (v := .ref qa9) (ty := .array .int) (C := RX2) (T := TX2) (N := 13) hx hb hB cx_inX2 tyX2 tyX2_ok nmX2 hown hK hP hD hS 0 rfl rfl 10 (by decide) (hB _ cw_80) (fun _ h9 => h9) rfl hnm rfl (by decide +kernel) rfl rfl (Nat.le_of_ble_eq_true rfl) dX2_init_77 (fun H locs hP hD hS => ?_)
  have hP : va_P D vwCl [(ad0, .inr (2, [.ref qa1, .int 0, .ref qa2, .ref qa3, .ref qa4, .ref qa5, .ref qa6, .int 0, .ref qa7, .ref qa8, .ref qa9, .null, .null])), (qa1, .inl (cs 0, 500, .inl (fun _ => 0))), (qa2, .inl (cs 0, 10, .inl (fun _ => 0))), (qa3, .inl (cs 0, 10, .inl (fun _ => 0))), (qa4, .inl (cs 0, 10, .inl (fun _ => 0))), (qa5, .inl (cs 0, 10, .inl (fun _ => 0))), (qa6, .inl (cs 0, 10, .inl (fun _ => 0))), (qa7, .inl (cs 0, 500, .inl (fun _ => 0))), (qa8, .inl (cs 0, 500, .inl (fun _ => 0))), (qa9, .inl (cs 0, 500, .inl (fun _ => 0)))] H := hP
  have hD : va_D A [(ad0, .inr (2, [.ref qa1, .int 0, .ref qa2, .ref qa3, .ref qa4, .ref qa5, .ref qa6, .int 0, .ref qa7, .ref qa8, .ref qa9, .null, .null])), (qa1, .inl (cs 0, 500, .inl (fun _ => 0))), (qa2, .inl (cs 0, 10, .inl (fun _ => 0))), (qa3, .inl (cs 0, 10, .inl (fun _ => 0))), (qa4, .inl (cs 0, 10, .inl (fun _ => 0))), (qa5, .inl (cs 0, 10, .inl (fun _ => 0))), (qa6, .inl (cs 0, 10, .inl (fun _ => 0))), (qa7, .inl (cs 0, 500, .inl (fun _ => 0))), (qa8, .inl (cs 0, 500, .inl (fun _ => 0))), (qa9, .inl (cs 0, 500, .inl (fun _ => 0)))] := hD
  refine lv_aload_n hx hb dX2_init_80 rfl (lv_at hl 0 rfl) ?_
  refine lv_sipush (v := 500) hx hb dX2_init_81 (by decide) ?_
  refine cx_newa (cs := cs) (atype := .int) (ty := .int) (a0 := (500, .inl (fun _ => 0))) hx hb hB cw_59 rfl cx_ra_int 0 rfl hK hP hD hS hA (fun _ => rfl) (by decide) (by decide) (Nat.le_of_ble_eq_true rfl) (Nat.le_of_ble_eq_true rfl) (Nat.le_of_ble_eq_true rfl) dX2_init_84 (fun qa10 H hP hD hS => ?_)
  have hP : va_P D vwCl [(ad0, .inr (2, [.ref qa1, .int 0, .ref qa2, .ref qa3, .ref qa4, .ref qa5, .ref qa6, .int 0, .ref qa7, .ref qa8, .ref qa9, .null, .null])), (qa1, .inl (cs 0, 500, .inl (fun _ => 0))), (qa2, .inl (cs 0, 10, .inl (fun _ => 0))), (qa3, .inl (cs 0, 10, .inl (fun _ => 0))), (qa4, .inl (cs 0, 10, .inl (fun _ => 0))), (qa5, .inl (cs 0, 10, .inl (fun _ => 0))), (qa6, .inl (cs 0, 10, .inl (fun _ => 0))), (qa7, .inl (cs 0, 500, .inl (fun _ => 0))), (qa8, .inl (cs 0, 500, .inl (fun _ => 0))), (qa9, .inl (cs 0, 500, .inl (fun _ => 0))), (qa10, .inl (cs 0, 500, .inl (fun _ => 0)))] H := hP
  have hD : va_D A [(ad0, .inr (2, [.ref qa1, .int 0, .ref qa2, .ref qa3, .ref qa4, .ref qa5, .ref qa6, .int 0, .ref qa7, .ref qa8, .ref qa9, .null, .null])), (qa1, .inl (cs 0, 500, .inl (fun _ => 0))), (qa2, .inl (cs 0, 10, .inl (fun _ => 0))), (qa3, .inl (cs 0, 10, .inl (fun _ => 0))), (qa4, .inl (cs 0, 10, .inl (fun _ => 0))), (qa5, .inl (cs 0, 10, .inl (fun _ => 0))), (qa6, .inl (cs 0, 10, .inl (fun _ => 0))), (qa7, .inl (cs 0, 500, .inl (fun _ => 0))), (qa8, .inl (cs 0, 500, .inl (fun _ => 0))), (qa9, .inl (cs 0, 500, .inl (fun _ => 0))), (qa10, .inl (cs 0, 500, .inl (fun _ => 0)))] := hD
  refine va_putF (D := D) (ci := 2) (v := .ref qa10) (ty := .array .int) (C := RX2) (T := TX2) (N := 13) hx hb hB cx_inX2 tyX2 tyX2_ok nmX2 hown hK hP hD hS 0 rfl rfl 11 (by decide) (hB _ cw_81) (fun _ h9 => h9) rfl hnm rfl (by decide +kernel) rfl rfl (Nat.le_of_ble_eq_true rfl) dX2_init_86 (fun H locs hP hD hS => ?_)
  have hP : va_P D vwCl [(ad0, .inr (2, [.ref qa1, .int 0, .ref qa2, .ref qa3, .ref qa4, .ref qa5, .ref qa6, .int 0, .ref qa7, .ref qa8, .ref qa9, .ref qa10, .null])), (qa1, .inl (cs 0, 500, .inl (fun _ => 0))), (qa2, .inl (cs 0, 10, .inl (fun _ => 0))), (qa3, .inl (cs 0, 10, .inl (fun _ => 0))), (qa4, .inl (cs 0, 10, .inl (fun _ => 0))), (qa5, .inl (cs 0, 10, .inl (fun _ => 0))), (qa6, .inl (cs 0, 10, .inl (fun _ => 0))), (qa7, .inl (cs 0, 500, .inl (fun _ => 0))), (qa8, .inl (cs 0, 500, .inl (fun _ => 0))), (qa9, .inl (cs 0, 500, .inl (fun _ => 0))), (qa10, .inl (cs 0, 500, .inl (fun _ => 0)))] H := hP
  have hD : va_D A [(ad0, .inr (2, [.ref qa1, .int 0, .ref qa2, .ref qa3, .ref qa4, .ref qa5, .ref qa6, .int 0, .ref qa7, .ref qa8, .ref qa9, .ref qa10, .null])), (qa1, .inl (cs 0, 500, .inl (fun _ => 0))), (qa2, .inl (cs 0, 10, .inl (fun _ => 0))), (qa3, .inl (cs 0, 10, .inl (fun _ => 0))), (qa4, .inl (cs 0, 10, .inl (fun _ => 0))), (qa5, .inl (cs 0, 10, .inl (fun _ => 0))), (qa6, .inl (cs 0, 10, .inl (fun _ => 0))), (qa7, .inl (cs 0, 500, .inl (fun _ => 0))), (qa8, .inl (cs 0, 500, .inl (fun _ => 0))), (qa9, .inl (cs 0, 500, .inl (fun _ => 0))), (qa10, .inl (cs 0, 500, .inl (fun _ => 0)))] := hD
  refine lv_aload_n hx hb dX2_init_89 rfl (lv_at hl 0 rfl) ?_
  refine lv_sipush (v := 501) hx hb dX2_init_90 (by decide) ?_
  refine cx_newa (cs := cs) (atype := .int) (ty := .int) (a0 := (501, .inl (fun _ => 0))) hx hb hB cw_59 rfl cx_ra_int 0 rfl hK hP hD hS hA (fun _ => rfl) (by decide) (by decide) (Nat.le_of_ble_eq_true rfl) (Nat.le_of_ble_eq_true rfl) (Nat.le_of_ble_eq_true rfl) dX2_init_93 (fun qa11 H hP hD hS => ?_)
  have hP : va_P D vwCl [(ad0, .inr (2, [.ref qa1, .int 0, .ref qa2, .ref qa3, .ref qa4, .ref qa5, .ref qa6, .int 0, .ref qa7, .ref qa8, .ref qa9, .ref qa10, .null])), (qa1, .inl (cs 0, 500, .inl (fun _ => 0))), (qa2, .inl (cs 0, 10, .inl (fun _ => 0))), (qa3, .inl (cs 0, 10, .inl (fun _ => 0))), (qa4, .inl (cs 0, 10, .inl (fun _ => 0))), (qa5, .inl (cs 0, 10, .inl (fun _ => 0))), (qa6, .inl (cs 0, 10, .inl (fun _ => 0))), (qa7, .inl (cs 0, 500, .inl (fun _ => 0))), (qa8, .inl (cs 0, 500, .inl (fun _ => 0))), (qa9, .inl (cs 0, 500, .inl (fun _ => 0))), (qa10, .inl (cs 0, 500, .inl (fun _ => 0))), (qa11, .inl (cs 0, 501, .inl (fun _ => 0)))] H := hP
  have hD : va_D A [(ad0, .inr (2, [.ref qa1, .int 0, .ref qa2, .ref qa3, .ref qa4, .ref qa5, .ref qa6, .int 0, .ref qa7, .ref qa8, .ref qa9, .ref qa10, .null])), (qa1, .inl (cs 0, 500, .inl (fun _ => 0))), (qa2, .inl (cs 0, 10, .inl (fun _ => 0))), (qa3, .inl (cs 0, 10, .inl (fun _ => 0))), (qa4, .inl (cs 0, 10, .inl (fun _ => 0))), (qa5, .inl (cs 0, 10, .inl (fun _ => 0))), (qa6, .inl (cs 0, 10, .inl (fun _ => 0))), (qa7, .inl (cs 0, 500, .inl (fun _ => 0))), (qa8, .inl (cs 0, 500, .inl (fun _ => 0))), (qa9, .inl (cs 0, 500, .inl (fun _ => 0))), (qa10, .inl (cs 0, 500, .inl (fun _ => 0))), (qa11, .inl (cs 0, 501, .inl (fun _ => 0)))] := hD
  refine va_putF (D := D) (ci := 2) (v := .ref qa11) (ty := .array .int) (C := RX2) (T := TX2) (N := 13) hx hb hB cx_inX2 tyX2 tyX2_ok nmX2 hown hK hP hD hS 0 rfl rfl 12 (by decide) (hB _ cw_82) (fun _ h9 => h9) rfl hnm rfl (by decide +kernel) rfl rfl (Nat.le_of_ble_eq_true rfl) dX2_init_95 (fun H locs hP hD hS => ?_)
  have hP : va_P D vwCl [(ad0, .inr (2, [.ref qa1, .int 0, .ref qa2, .ref qa3, .ref qa4, .ref qa5, .ref qa6, .int 0, .ref qa7, .ref qa8, .ref qa9, .ref qa10, .ref qa11])), (qa1, .inl (cs 0, 500, .inl (fun _ => 0))), (qa2, .inl (cs 0, 10, .inl (fun _ => 0))), (qa3, .inl (cs 0, 10, .inl (fun _ => 0))), (qa4, .inl (cs 0, 10, .inl (fun _ => 0))), (qa5, .inl (cs 0, 10, .inl (fun _ => 0))), (qa6, .inl (cs 0, 10, .inl (fun _ => 0))), (qa7, .inl (cs 0, 500, .inl (fun _ => 0))), (qa8, .inl (cs 0, 500, .inl (fun _ => 0))), (qa9, .inl (cs 0, 500, .inl (fun _ => 0))), (qa10, .inl (cs 0, 500, .inl (fun _ => 0))), (qa11, .inl (cs 0, 501, .inl (fun _ => 0)))] H := hP
  have hD : va_D A [(ad0, .inr (2, [.ref qa1, .int 0, .ref qa2, .ref qa3, .ref qa4, .ref qa5, .ref qa6, .int 0, .ref qa7, .ref qa8, .ref qa9, .ref qa10, .ref qa11])), (qa1, .inl (cs 0, 500, .inl (fun _ => 0))), (qa2, .inl (cs 0, 10, .inl (fun _ => 0))), (qa3, .inl (cs 0, 10, .inl (fun _ => 0))), (qa4, .inl (cs 0, 10, .inl (fun _ => 0))), (qa5, .inl (cs 0, 10, .inl (fun _ => 0))), (qa6, .inl (cs 0, 10, .inl (fun _ => 0))), (qa7, .inl (cs 0, 500, .inl (fun _ => 0))), (qa8, .inl (cs 0, 500, .inl (fun _ => 0))), (qa9, .inl (cs 0, 500, .inl (fun _ => 0))), (qa10, .inl (cs 0, 500, .inl (fun _ => 0))), (qa11, .inl (cs 0, 501, .inl (fun _ => 0)))] := hD
  exact cx_vret hx hb hr hlocks hP hD hS (cx_uo [qa1, qa2, qa3, qa4, qa5, qa6, qa7, qa8, qa9, qa10, qa11]) [0, 1] rfl (by decide) (Nat.le_of_ble_eq_true rfl) (Nat.le_of_ble_eq_true rfl) dX2_init_98
set_option maxHeartbeats 4000000 in
set_option maxRecDepth 100000 in
theorem kX10_init (l : Launch) (D : va_G) (cs : Nat → ClassId) (ad0 : Nat) (sz : Nat) : Met l yX10_init (.code yX10_init cX10_init 1 none :: cx_big) { frames := 1, cells := 7, slots := 280, locals := 12 } (cx_P D cs [.ref ad0] [(ad0, .inr (10, [.int 0, .null, .null, .null, .null, .null, .null, .null]))] sz) (cx_Q D none (fun u => [(ad0, .inr (10, [.int 0, .ref (u 0), .ref (u 1), .ref (u 2), .ref (u 3), .ref (u 4), .ref (u 5), .ref (u 6)]))]) (va_A [(ad0, .inr (10, [.int 0, .null, .null, .null, .null, .null, .null, .null]))] sz)) 7 280 (va_A [(ad0, .inr (10, [.int 0, .null, .null, .null, .null, .null, .null, .null]))] sz) := by
  refine cx_ofW (by decide) (Nat.le_of_ble_eq_true rfl) ?_
  intro p e s m below meth c A ls hx hb hr hml hB hown hlocks hnm hK hN hA hP hD hS hl
  have hown : s.vm.findClass "TreeMerge$Tree" = some m.cls := hown
  have hl : lv_has ls 1 [(0, .ref ad0)] := hl
  have hnm : meth.name = "<init>" := hnm
  have hS0 := hS
  refine lv_aload_n hx hb dX10_init_0 rfl (lv_at hl 0 rfl) ?_
  refine W.objInit hx hb hown (hB _ cw_115) (hB _ cw_26) (hB _ cw_27) rfl (by rw [hml]; exact hl.1) rfl dX10_init_1 (Nat.le_of_ble_eq_true rfl) (Nat.le_of_ble_eq_true rfl) ?_
  refine W.eq (g2 := F0 m 4 ls []) rfl ?_
  refine lv_aload_n hx hb dX10_init_4 rfl (lv_at hl 0 rfl) ?_
  refine lv_bipush (v := 40) hx hb dX10_init_5 (by decide) ?_
  refine cx_newa (cs := cs) (atype := .int) (ty := .int) (a0 := (40, .inl (fun _ => 0))) hx hb hB cw_59 rfl cx_ra_int 0 rfl hK hP hD hS hA (fun _ => rfl) (by decide) (by decide) (Nat.le_of_ble_eq_true rfl) (Nat.le_of_ble_eq_true rfl) (Nat.le_of_ble_eq_true rfl) dX10_init_7 (fun qa1 H hP hD hS => ?_)
  have hP : va_P D vwCl [(ad0, .inr (10, [.int 0, .null, .null, .null, .null, .null, .null, .null])), (qa1, .inl (cs 0, 40, .inl (fun _ => 0)))] H := hP
  have hD : va_D A [(ad0, .inr (10, [.int 0, .null, .null, .null, .null, .null, .null, .null])), (qa1, .inl (cs 0, 40, .inl (fun _ => 0)))] := hD
  refine va_putF (D := D) (ci := 10) (v := .ref qa1) (ty := .array .int) (C := RX10) (T := TX10) (N := 8) hx hb hB cx_inX10 tyX10 tyX10_ok nmX10 hown hK hP hD hS 0 rfl rfl 1 (by decide) (hB _ cw_122) (fun _ h9 => h9) rfl hnm rfl (by decide +kernel) rfl rfl (Nat.le_of_ble_eq_true rfl) dX10_init_9 (fun H locs hP hD hS => ?_)
  have hP : va_P D vwCl [(ad0, .inr (10, [.int 0, .ref qa1, .null, .null, .null, .null, .null, .null])), (qa1, .inl (cs 0, 40, .inl (fun _ => 0)))] H := hP
  have hD : va_D A [(ad0, .inr (10, [.int 0, .ref qa1, .null, .null, .null, .null, .null, .null])), (qa1, .inl (cs 0, 40, .inl (fun _ => 0)))] := hD
  refine lv_aload_n hx hb dX10_init_12 rfl (lv_at hl 0 rfl) ?_
  refine lv_bipush (v := 40) hx hb dX10_init_13 (by decide) ?_
  refine cx_newa (cs := cs) (atype := .int) (ty := .int) (a0 := (40, .inl (fun _ => 0))) hx hb hB cw_59 rfl cx_ra_int 0 rfl hK hP hD hS hA (fun _ => rfl) (by decide) (by decide) (Nat.le_of_ble_eq_true rfl) (Nat.le_of_ble_eq_true rfl) (Nat.le_of_ble_eq_true rfl) dX10_init_15 (fun qa2 H hP hD hS => ?_)
  have hP : va_P D vwCl [(ad0, .inr (10, [.int 0, .ref qa1, .null, .null, .null, .null, .null, .null])), (qa1, .inl (cs 0, 40, .inl (fun _ => 0))), (qa2, .inl (cs 0, 40, .inl (fun _ => 0)))] H := hP
  have hD : va_D A [(ad0, .inr (10, [.int 0, .ref qa1, .null, .null, .null, .null, .null, .null])), (qa1, .inl (cs 0, 40, .inl (fun _ => 0))), (qa2, .inl (cs 0, 40, .inl (fun _ => 0)))] := hD
  refine va_putF (D := D) (ci := 10) (v := .ref qa2) (ty := .array .int) (C := RX10) (T := TX10) (N := 8) hx hb hB cx_inX10 tyX10 tyX10_ok nmX10 hown hK hP hD hS 0 rfl rfl 2 (by decide) (hB _ cw_127) (fun _ h9 => h9) rfl hnm rfl (by decide +kernel) rfl rfl (Nat.le_of_ble_eq_true rfl) dX10_init_17 (fun H locs hP hD hS => ?_)
  have hP : va_P D vwCl [(ad0, .inr (10, [.int 0, .ref qa1, .ref qa2, .null, .null, .null, .null, .null])), (qa1, .inl (cs 0, 40, .inl (fun _ => 0))), (qa2, .inl (cs 0, 40, .inl (fun _ => 0)))] H := hP
  have hD : va_D A [(ad0, .inr (10, [.int 0, .ref qa1, .ref qa2, .null, .null, .null, .null, .null])), (qa1, .inl (cs 0, 40, .inl (fun _ => 0))), (qa2, .inl (cs 0, 40, .inl (fun _ => 0)))] := hD
  refine lv_aload_n hx hb dX10_init_20 rfl (lv_at hl 0 rfl) ?_
  refine lv_bipush (v := 40) hx hb dX10_init_21 (by decide) ?_
  refine cx_newa (cs := cs) (atype := .int) (ty := .int) (a0 := (40, .inl (fun _ => 0))) hx hb hB cw_59 rfl cx_ra_int 0 rfl hK hP hD hS hA (fun _ => rfl) (by decide) (by decide) (Nat.le_of_ble_eq_true rfl) (Nat.le_of_ble_eq_true rfl) (Nat.le_of_ble_eq_true rfl) dX10_init_23 (fun qa3 H hP hD hS => ?_)
  have hP : va_P D vwCl [(ad0, .inr (10, [.int 0, .ref qa1, .ref qa2, .null, .null, .null, .null, .null])), (qa1, .inl (cs 0, 40, .inl (fun _ => 0))), (qa2, .inl (cs 0, 40, .inl (fun _ => 0))), (qa3, .inl (cs 0, 40, .inl (fun _ => 0)))] H := hP
  have hD : va_D A [(ad0, .inr (10, [.int 0, .ref qa1, .ref qa2, .null, .null, .null, .null, .null])), (qa1, .inl (cs 0, 40, .inl (fun _ => 0))), (qa2, .inl (cs 0, 40, .inl (fun _ => 0))), (qa3, .inl (cs 0, 40, .inl (fun _ => 0)))] := hD
  refine va_putF (D := D) (ci := 10) (v := .ref qa3) (ty := .array .int) (C := RX10) (T := TX10) (N := 8) hx hb hB cx_inX10 tyX10 tyX10_ok nmX10 hown hK hP hD hS 0 rfl rfl 3 (by decide) (hB _ cw_130) (fun _ h9 => h9) rfl hnm rfl (by decide +kernel) rfl rfl (Nat.le_of_ble_eq_true rfl) dX10_init_25 (fun H locs hP hD hS => ?_)
  have hP : va_P D vwCl [(ad0, .inr (10, [.int 0, .ref qa1, .ref qa2, .ref qa3, .null, .null, .null, .null])), (qa1, .inl (cs 0, 40, .inl (fun _ => 0))), (qa2, .inl (cs 0, 40, .inl (fun _ => 0))), (qa3, .inl (cs 0, 40, .inl (fun _ => 0)))] H := hP
  have hD : va_D A [(ad0, .inr (10, [.int 0, .ref qa1, .ref qa2, .ref qa3, .null, .null, .null, .null])), (qa1, .inl (cs 0, 40, .inl (fun _ => 0))), (qa2, .inl (cs 0, 40, .inl (fun _ => 0))), (qa3, .inl (cs 0, 40, .inl (fun _ => 0)))] := hD
  refine lv_aload_n hx hb dX10_init_28 rfl (lv_at hl 0 rfl) ?_
  refine lv_bipush (v := 40) hx hb dX10_init_29 (by decide) ?_
  refine cx_newa (cs := cs) (atype := .int) (ty := .int) (a0 := (40, .inl (fun _ => 0))) hx hb hB cw_59 rfl cx_ra_int 0 rfl hK hP hD hS hA (fun _ => rfl) (by decide) (by decide) (Nat.le_of_ble_eq_true rfl) (Nat.le_of_ble_eq_true rfl) (Nat.le_of_ble_eq_true rfl) dX10_init_31 (fun qa4 H hP hD hS => ?_)
  have hP : va_P D vwCl [(ad0, .inr (10, [.int 0, .ref qa1, .ref qa2, .ref qa3, .null, .null, .null, .null])), (qa1, .inl (cs 0, 40, .inl (fun _ => 0))), (qa2, .inl (cs 0, 40, .inl (fun _ => 0))), (qa3, .inl (cs 0, 40, .inl (fun _ => 0))), (qa4, .inl (cs 0, 40, .inl (fun _ => 0)))] H := hP
  have hD : va_D A [(ad0, .inr (10, [.int 0, .ref qa1, .ref qa2, .ref qa3, .null, .null, .null, .null])), (qa1, .inl (cs 0, 40, .inl (fun _ => 0))), (qa2, .inl (cs 0, 40, .inl (fun _ => 0))), (qa3, .inl (cs 0, 40, .inl (fun _ => 0))), (qa4, .inl (cs 0, 40, .inl (fun _ => 0)))] := hD
  refine va_putF (D := D) (ci := 10) (v := .ref qa4) (ty := .array .int) (C := RX10) (T := TX10) (N := 8) hx hb hB cx_inX10 tyX10 tyX10_ok nmX10 hown hK hP hD hS 0 rfl rfl 4 (by decide) (hB _ cw_135) (fun _ h9 => h9) rfl hnm rfl (by decide +kernel) rfl rfl (Nat.le_of_ble_eq_true rfl) dX10_init_33 (fun H locs hP hD hS => ?_)
  have hP : va_P D vwCl [(ad0, .inr (10, [.int 0, .ref qa1, .ref qa2, .ref qa3, .ref qa4, .null, .null, .null])), (qa1, .inl (cs 0, 40, .inl (fun _ => 0))), (qa2, .inl (cs 0, 40, .inl (fun _ => 0))), (qa3, .inl (cs 0, 40, .inl (fun _ => 0))), (qa4, .inl (cs 0, 40, .inl (fun _ => 0)))] H := hP
  have hD : va_D A [(ad0, .inr (10, [.int 0, .ref qa1, .ref qa2, .ref qa3, .ref qa4, .null, .null, .null])), (qa1, .inl (cs 0, 40, .inl (fun _ => 0))), (qa2, .inl (cs 0, 40, .inl (fun _ => 0))), (qa3, .inl (cs 0, 40, .inl (fun _ => 0))), (qa4, .inl (cs 0, 40, .inl (fun _ => 0)))] := hD
  refine lv_aload_n hx hb dX10_init_36 rfl (lv_at hl 0 rfl) ?_
  refine lv_bipush (v := 40) hx hb dX10_init_37 (by decide) ?_
  refine cx_newa (cs := cs) (atype := .int) (ty := .int) (a0 := (40, .inl (fun _ => 0))) hx hb hB cw_59 rfl cx_ra_int 0 rfl hK hP hD hS hA (fun _ => rfl) (by decide) (by decide) (Nat.le_of_ble_eq_true rfl) (Nat.le_of_ble_eq_true rfl) (Nat.le_of_ble_eq_true rfl) dX10_init_39 (fun qa5 H hP hD hS => ?_)
  have hP : va_P D vwCl [(ad0, .inr (10, [.int 0, .ref qa1, .ref qa2, .ref qa3, .ref qa4, .null, .null, .null])), (qa1, .inl (cs 0, 40, .inl (fun _ => 0))), (qa2, .inl (cs 0, 40, .inl (fun _ => 0))), (qa3, .inl (cs 0, 40, .inl (fun _ => 0))), (qa4, .inl (cs 0, 40, .inl (fun _ => 0))), (qa5, .inl (cs 0, 40, .inl (fun _ => 0)))] H := hP
  have hD : va_D A [(ad0, .inr (10, [.int 0, .ref qa1, .ref qa2, .ref qa3, .ref qa4, .null, .null, .null])), (qa1, .inl (cs 0, 40, .inl (fun _ => 0))), (qa2, .inl (cs 0, 40, .inl (fun _ => 0))), (qa3, .inl (cs 0, 40, .inl (fun _ => 0))), (qa4, .inl (cs 0, 40, .inl (fun _ => 0))), (qa5, .inl (cs 0, 40, .inl (fun _ => 0)))] := hD
  refine va_putF (D := D) (ci := 10) (v := .ref qa5) (ty := .array .int) (C := RX10) (T := TX10) (N := 8) hx hb hB cx_inX10 tyX10 tyX10_ok nmX10 hown hK hP hD hS 0 rfl rfl 5 (by decide) (hB _ cw_138) (fun _ h9 => h9) rfl hnm rfl (by decide +kernel) rfl rfl (Nat.le_of_ble_eq_true rfl) dX10_init_41 (fun H locs hP hD hS => ?_)
  have hP : va_P D vwCl [(ad0, .inr (10, [.int 0, .ref qa1, .ref qa2, .ref qa3, .ref qa4, .ref qa5, .null, .null])), (qa1, .inl (cs 0, 40, .inl (fun _ => 0))), (qa2, .inl (cs 0, 40, .inl (fun _ => 0))), (qa3, .inl (cs 0, 40, .inl (fun _ => 0))), (qa4, .inl (cs 0, 40, .inl (fun _ => 0))), (qa5, .inl (cs 0, 40, .inl (fun _ => 0)))] H := hP
  have hD : va_D A [(ad0, .inr (10, [.int 0, .ref qa1, .ref qa2, .ref qa3, .ref qa4, .ref qa5, .null, .null])), (qa1, .inl (cs 0, 40, .inl (fun _ => 0))), (qa2, .inl (cs 0, 40, .inl (fun _ => 0))), (qa3, .inl (cs 0, 40, .inl (fun _ => 0))), (qa4, .inl (cs 0, 40, .inl (fun _ => 0))), (qa5, .inl (cs 0, 40, .inl (fun _ => 0)))] := hD
  refine lv_aload_n hx hb dX10_init_44 rfl (lv_at hl 0 rfl) ?_
  refine lv_bipush (v := 40) hx hb dX10_init_45 (by decide) ?_
  refine cx_newa (cs := cs) (atype := .long) (ty := .long) (a0 := (40, .inr (.inl (fun _ => 0)))) hx hb hB cw_170 rfl cx_ra_long 1 rfl hK hP hD hS hA (fun _ => rfl) (by decide) (by decide) (Nat.le_of_ble_eq_true rfl) (Nat.le_of_ble_eq_true rfl) (Nat.le_of_ble_eq_true rfl) dX10_init_47 (fun qa6 H hP hD hS => ?_)
  have hP : va_P D vwCl [(ad0, .inr (10, [.int 0, .ref qa1, .ref qa2, .ref qa3, .ref qa4, .ref qa5, .null, .null])), (qa1, .inl (cs 0, 40, .inl (fun _ => 0))), (qa2, .inl (cs 0, 40, .inl (fun _ => 0))), (qa3, .inl (cs 0, 40, .inl (fun _ => 0))), (qa4, .inl (cs 0, 40, .inl (fun _ => 0))), (qa5, .inl (cs 0, 40, .inl (fun _ => 0))), (qa6, .inl (cs 1, 40, .inr (.inl (fun _ => 0))))] H := hP
  have hD : va_D A [(ad0, .inr (10, [.int 0, .ref qa1, .ref qa2, .ref qa3, .ref qa4, .ref qa5, .null, .null])), (qa1, .inl (cs 0, 40, .inl (fun _ => 0))), (qa2, .inl (cs 0, 40, .inl (fun _ => 0))), (qa3, .inl (cs 0, 40, .inl (fun _ => 0))), (qa4, .inl (cs 0, 40, .inl (fun _ => 0))), (qa5, .inl (cs 0, 40, .inl (fun _ => 0))), (qa6, .inl (cs 1, 40, .inr (.inl (fun _ => 0))))] := hD
  refine va_putF (D := D) (ci := 10) (v := .ref qa6) (ty := .array .long) (C := RX10) (T := TX10) (N := 8) hx hb hB cx_inX10 tyX10 tyX10_ok nmX10 hown hK hP hD hS 0 rfl rfl 6 (by decide) (hB _ cw_144) (fun _ h9 => h9) rfl hnm rfl (by decide +kernel) rfl rfl (Nat.le_of_ble_eq_true rfl) dX10_init_49 (fun H locs hP hD hS => ?_)
  have hP : va_P D vwCl [(ad0, .inr (10, [.int 0, .ref qa1, .ref qa2, .ref qa3, .ref qa4, .ref qa5, .ref qa6, .null])), (qa1, .inl (cs 0, 40, .inl (fun _ => 0))), (qa2, .inl (cs 0, 40, .inl (fun _ => 0))), (qa3, .inl (cs 0, 40, .inl (fun _ => 0))), (qa4, .inl (cs 0, 40, .inl (fun _ => 0))), (qa5, .inl (cs 0, 40, .inl (fun _ => 0))), (qa6, .inl (cs 1, 40, .inr (.inl (fun _ => 0))))] H := hP
  have hD : va_D A [(ad0, .inr (10, [.int 0, .ref qa1, .ref qa2, .ref qa3, .ref qa4, .ref qa5, .ref qa6, .null])), (qa1, .inl (cs 0, 40, .inl (fun _ => 0))), (qa2, .inl (cs 0, 40, .inl (fun _ => 0))), (qa3, .inl (cs 0, 40, .inl (fun _ => 0))), (qa4, .inl (cs 0, 40, .inl (fun _ => 0))), (qa5, .inl (cs 0, 40, .inl (fun _ => 0))), (qa6, .inl (cs 1, 40, .inr (.inl (fun _ => 0))))] := hD
  refine lv_aload_n hx hb dX10_init_52 rfl (lv_at hl 0 rfl) ?_
  refine lv_bipush (v := 40) hx hb dX10_init_53 (by decide) ?_
  refine cx_newa (cs := cs) (atype := .int) (ty := .int) (a0 := (40, .inl (fun _ => 0))) hx hb hB cw_59 rfl cx_ra_int 0 rfl hK hP hD hS hA (fun _ => rfl) (by decide) (by decide) (Nat.le_of_ble_eq_true rfl) (Nat.le_of_ble_eq_true rfl) (Nat.le_of_ble_eq_true rfl) dX10_init_55 (fun qa7 H hP hD hS => ?_)
  have hP : va_P D vwCl [(ad0, .inr (10, [.int 0, .ref qa1, .ref qa2, .ref qa3, .ref qa4, .ref qa5, .ref qa6, .null])), (qa1, .inl (cs 0, 40, .inl (fun _ => 0))), (qa2, .inl (cs 0, 40, .inl (fun _ => 0))), (qa3, .inl (cs 0, 40, .inl (fun _ => 0))), (qa4, .inl (cs 0, 40, .inl (fun _ => 0))), (qa5, .inl (cs 0, 40, .inl (fun _ => 0))), (qa6, .inl (cs 1, 40, .inr (.inl (fun _ => 0)))), (qa7, .inl (cs 0, 40, .inl (fun _ => 0)))] H := hP
  have hD : va_D A [(ad0, .inr (10, [.int 0, .ref qa1, .ref qa2, .ref qa3, .ref qa4, .ref qa5, .ref qa6, .null])), (qa1, .inl (cs 0, 40, .inl (fun _ => 0))), (qa2, .inl (cs 0, 40, .inl (fun _ => 0))), (qa3, .inl (cs 0, 40, .inl (fun _ => 0))), (qa4, .inl (cs 0, 40, .inl (fun _ => 0))), (qa5, .inl (cs 0, 40, .inl (fun _ => 0))), (qa6, .inl (cs 1, 40, .inr (.inl (fun _ => 0)))), (qa7, .inl (cs 0, 40, .inl (fun _ => 0)))] := hD
  refine va_putF (D := D) (ci := 10) (v := .ref qa7) (ty := .array .int) (C := RX10) (T := TX10) (N := 8) hx hb hB cx_inX10 tyX10 tyX10_ok nmX10 hown hK hP hD hS 0 rfl rfl 7 (by decide) (hB _ cw_150) (fun _ h9 => h9) rfl hnm rfl (by decide +kernel) rfl rfl (Nat.le_of_ble_eq_true rfl) dX10_init_57 (fun H locs hP hD hS => ?_)
  have hP : va_P D vwCl [(ad0, .inr (10, [.int 0, .ref qa1, .ref qa2, .ref qa3, .ref qa4, .ref qa5, .ref qa6, .ref qa7])), (qa1, .inl (cs 0, 40, .inl (fun _ => 0))), (qa2, .inl (cs 0, 40, .inl (fun _ => 0))), (qa3, .inl (cs 0, 40, .inl (fun _ => 0))), (qa4, .inl (cs 0, 40, .inl (fun _ => 0))), (qa5, .inl (cs 0, 40, .inl (fun _ => 0))), (qa6, .inl (cs 1, 40, .inr (.inl (fun _ => 0)))), (qa7, .inl (cs 0, 40, .inl (fun _ => 0)))] H := hP
  have hD : va_D A [(ad0, .inr (10, [.int 0, .ref qa1, .ref qa2, .ref qa3, .ref qa4, .ref qa5, .ref qa6, .ref qa7])), (qa1, .inl (cs 0, 40, .inl (fun _ => 0))), (qa2, .inl (cs 0, 40, .inl (fun _ => 0))), (qa3, .inl (cs 0, 40, .inl (fun _ => 0))), (qa4, .inl (cs 0, 40, .inl (fun _ => 0))), (qa5, .inl (cs 0, 40, .inl (fun _ => 0))), (qa6, .inl (cs 1, 40, .inr (.inl (fun _ => 0)))), (qa7, .inl (cs 0, 40, .inl (fun _ => 0)))] := hD
  exact cx_vret hx hb hr hlocks hP hD hS (cx_uo [qa1, qa2, qa3, qa4, qa5, qa6, qa7]) [0] rfl (by decide) (Nat.le_of_ble_eq_true rfl) (Nat.le_of_ble_eq_true rfl) dX10_init_60
set_option maxHeartbeats 4000000 in
set_option maxRecDepth 100000 in
theorem kX3_init (l : Launch) (D : va_G) (cs : Nat → ClassId) (ad0 : Nat) (sz : Nat) : Met l yX3_init (.code yX3_init cX3_init 1 none :: cx_big) { frames := 1, cells := 2, slots := 80, locals := 12 } (cx_P D cs [.ref ad0] [(ad0, .inr (3, [.int 0, .null, .null]))] sz) (cx_Q D none (fun u => []) (va_A [(ad0, .inr (3, [.int 0, .null, .null]))] sz)) 2 80 (va_A [(ad0, .inr (3, [.int 0, .null, .null]))] sz) := by
  refine cx_ofW (by decide) (Nat.le_of_ble_eq_true rfl) ?_
  intro p e s m below meth c A ls hx hb hr hml hB hown hlocks hnm hK hN hA hP hD hS hl
  have hown : s.vm.findClass "TreeMerge$Kids" = some m.cls := hown
  have hl : lv_has ls 1 [(0, .ref ad0)] := hl
  have hnm : meth.name = "<init>" := hnm
  have hS0 := hS
  refine lv_aload_n hx hb dX3_init_0 rfl (lv_at hl 0 rfl) ?_
  refine W.objInit hx hb hown (hB _ cw_176) (hB _ cw_26) (hB _ cw_27) rfl (by rw [hml]; exact hl.1) rfl dX3_init_1 (Nat.le_of_ble_eq_true rfl) (Nat.le_of_ble_eq_true rfl) ?_
  refine W.eq (g2 := F0 m 4 ls []) rfl ?_
  refine lv_aload_n hx hb dX3_init_4 rfl (lv_at hl 0 rfl) ?_
  refine lv_bipush (v := 40) hx hb dX3_init_5 (by decide) ?_
  refine cx_newa (cs := cs) (atype := .int) (ty := .int) (a0 := (40, .inl (fun _ => 0))) hx hb hB cw_59 rfl cx_ra_int 0 rfl hK hP hD hS hA (fun _ => rfl) (by decide) (by decide) (Nat.le_of_ble_eq_true rfl) (Nat.le_of_ble_eq_true rfl) (Nat.le_of_ble_eq_true rfl) dX3_init_7 (fun qa1 H hP hD hS => ?_)
  have hP : va_P D vwCl [(ad0, .inr (3, [.int 0, .null, .null])), (qa1, .inl (cs 0, 40, .inl (fun _ => 0)))] H := hP
  have hD : va_D A [(ad0, .inr (3, [.int 0, .null, .null])), (qa1, .inl (cs 0, 40, .inl (fun _ => 0)))] := hD
  refine va_putF (D := D) (ci := 3) (v := .ref qa1) (ty := .array .int) (C := RX3) (T := TX3) (N := 3) hx hb hB cx_inX3 tyX3 tyX3_ok nmX3 hown hK hP hD hS 0 rfl rfl 1 (by decide) (hB _ cw_179) (fun _ h9 => h9) rfl hnm rfl (by decide +kernel) rfl rfl (Nat.le_of_ble_eq_true rfl) dX3_init_9 (fun H locs hP hD hS => ?_)
  have hP : va_P D vwCl [(ad0, .inr (3, [.int 0, .ref qa1, .null])), (qa1, .inl (cs 0, 40, .inl (fun _ => 0)))] H := hP
  have hD : va_D A [(ad0, .inr (3, [.int 0, .ref qa1, .null])), (qa1, .inl (cs 0, 40, .inl (fun _ => 0)))] := hD
  refine lv_aload_n hx hb dX3_init_12 rfl (lv_at hl 0 rfl) ?_
  refine lv_bipush (v := 40) hx hb dX3_init_13 (by decide) ?_
  refine cx_newa (cs := cs) (atype := .long) (ty := .long) (a0 := (40, .inr (.inl (fun _ => 0)))) hx hb hB cw_170 rfl cx_ra_long 1 rfl hK hP hD hS hA (fun _ => rfl) (by decide) (by decide) (Nat.le_of_ble_eq_true rfl) (Nat.le_of_ble_eq_true rfl) (Nat.le_of_ble_eq_true rfl) dX3_init_15 (fun qa2 H hP hD hS => ?_)
  have hP : va_P D vwCl [(ad0, .inr (3, [.int 0, .ref qa1, .null])), (qa1, .inl (cs 0, 40, .inl (fun _ => 0))), (qa2, .inl (cs 1, 40, .inr (.inl (fun _ => 0))))] H := hP
  have hD : va_D A [(ad0, .inr (3, [.int 0, .ref qa1, .null])), (qa1, .inl (cs 0, 40, .inl (fun _ => 0))), (qa2, .inl (cs 1, 40, .inr (.inl (fun _ => 0))))] := hD
  refine va_putF (D := D) (ci := 3) (v := .ref qa2) (ty := .array .long) (C := RX3) (T := TX3) (N := 3) hx hb hB cx_inX3 tyX3 tyX3_ok nmX3 hown hK hP hD hS 0 rfl rfl 2 (by decide) (hB _ cw_181) (fun _ h9 => h9) rfl hnm rfl (by decide +kernel) rfl rfl (Nat.le_of_ble_eq_true rfl) dX3_init_17 (fun H locs hP hD hS => ?_)
  have hP : va_P D vwCl [(ad0, .inr (3, [.int 0, .ref qa1, .ref qa2])), (qa1, .inl (cs 0, 40, .inl (fun _ => 0))), (qa2, .inl (cs 1, 40, .inr (.inl (fun _ => 0))))] H := hP
  have hD : va_D A [(ad0, .inr (3, [.int 0, .ref qa1, .ref qa2])), (qa1, .inl (cs 0, 40, .inl (fun _ => 0))), (qa2, .inl (cs 1, 40, .inr (.inl (fun _ => 0))))] := hD
  exact cx_vret hx hb hr hlocks hP hD hS (cx_uo []) [] rfl (by decide) (Nat.le_of_ble_eq_true rfl) (Nat.le_of_ble_eq_true rfl) dX3_init_20
set_option maxHeartbeats 4000000 in
set_option maxRecDepth 100000 in
theorem kX4_init (l : Launch) (D : va_G) (cs : Nat → ClassId) (ad0 : Nat) (sz : Nat) : Met l yX4_init (.code yX4_init cX4_init 1 none :: cx_big) { frames := 2, cells := 19, slots := 696, locals := 32 } (cx_P D cs [.ref ad0] [(ad0, .inr (4, [.null, .null, .null, .null, .null, .int 0, .int 0]))] sz) (cx_Q D none (fun u => []) (va_A [(ad0, .inr (4, [.null, .null, .null, .null, .null, .int 0, .int 0]))] sz)) 19 696 (va_A [(ad0, .inr (4, [.null, .null, .null, .null, .null, .int 0, .int 0]))] sz) := by
  refine cx_ofW (by decide) (Nat.le_of_ble_eq_true rfl) ?_
  intro p e s m below meth c A ls hx hb hr hml hB hown hlocks hnm hK hN hA hP hD hS hl
  have hown : s.vm.findClass "TreeMerge$Matcher" = some m.cls := hown
  have hl : lv_has ls 1 [(0, .ref ad0)] := hl
  have hnm : meth.name = "<init>" := hnm
  have hS0 := hS
  refine lv_aload_n hx hb dX4_init_0 rfl (lv_at hl 0 rfl) ?_
  refine W.objInit hx hb hown (hB _ cw_194) (hB _ cw_26) (hB _ cw_27) rfl (by rw [hml]; exact hl.1) rfl dX4_init_1 (Nat.le_of_ble_eq_true rfl) (Nat.le_of_ble_eq_true rfl) ?_
  refine W.eq (g2 := F0 m 4 ls []) rfl ?_
  refine lv_aload_n hx hb dX4_init_4 rfl (lv_at hl 0 rfl) ?_
  refine va_new (ci := 10) (fs := [.int 0, .null, .null, .null, .null, .null, .null, .null]) (C := RX10) (T := TX10) (N := 8) hx hb hB cx_inX10 tyX10 tyX10_ok hown (hB _ cw_195) (hB _ cw_111) (hB _ cw_4) hK hP hD hS hA rfl cx_fsX10 (Nat.le_of_ble_eq_true rfl) (Nat.le_of_ble_eq_true rfl) dX4_init_5 (fun qn1 H hP hD hS => ?_)
  have hP : va_P D vwCl [(ad0, .inr (4, [.null, .null, .null, .null, .null, .int 0, .int 0])), (qn1, .inr (10, [.int 0, .null, .null, .null, .null, .null, .null, .null]))] H := hP
  have hD : va_D A [(ad0, .inr (4, [.null, .null, .null, .null, .null, .int 0, .int 0])), (qn1, .inr (10, [.int 0, .null, .null, .null, .null, .null, .null, .null]))] := hD
  refine lv_dup hx hb dX4_init_8 rfl ?_
  refine cx_IN (D := D) (cs := cs) (wc := [(qn1, .inr (10, [.int 0, .null, .null, .null, .null, .null, .null, .null]))]) (wr := [(ad0, .inr (4, [.null, .null, .null, .null, .null, .int 0, .int 0]))]) (v := none) (w1 := fun u => [(qn1, .inr (10, [.int 0, .ref (u 0), .ref (u 1), .ref (u 2), .ref (u 3), .ref (u 4), .ref (u 5), .ref (u 6)]))]) (As := []) (rest := [.ref qn1, .ref ad0]) (o := qn1) ⟨hx, hb, hml, hown, hB⟩ (fun sz => kX10_init l D cs qn1 sz) cw_114 cw_4 (by decide +kernel) cw_113 rfl rfl rfl (by decide +kernel) ⟨Nat.le_of_ble_eq_true rfl, Nat.le_of_ble_eq_true rfl⟩ hK hN hP hD hS hA [1] [0] rfl rfl (by decide) rfl hl.1 rfl (Nat.le_of_ble_eq_true rfl) dX4_init_9 ⟨Nat.le_of_ble_eq_true rfl, Nat.le_of_ble_eq_true rfl⟩ (fun uu2 H locs hP hD hS => ?_)
  refine W.eq (g2 := F0 m 12 ls [.ref qn1, .ref ad0]) rfl ?_
  have hP : va_P D vwCl [(ad0, .inr (4, [.null, .null, .null, .null, .null, .int 0, .int 0])), (qn1, .inr (10, [.int 0, .ref (uu2 0), .ref (uu2 1), .ref (uu2 2), .ref (uu2 3), .ref (uu2 4), .ref (uu2 5), .ref (uu2 6)]))] H := hP
  have hD : va_D A [(ad0, .inr (4, [.null, .null, .null, .null, .null, .int 0, .int 0])), (qn1, .inr (10, [.int 0, .ref (uu2 0), .ref (uu2 1), .ref (uu2 2), .ref (uu2 3), .ref (uu2 4), .ref (uu2 5), .ref (uu2 6)]))] := hD
  refine va_put (D := D) (ci := 4) (v := .ref qn1) (ty := .object "TreeMerge$Tree") (C := RX4) (T := TX4) (N := 7) hx hb hB cx_inX4 tyX4 tyX4_ok nmX4 hown hK hP hD hS 0 rfl rfl 0 (by decide) (hB _ cw_197) (fun _ h9 => h9) rfl (by decide +kernel) rfl rfl (Nat.le_of_ble_eq_true rfl) dX4_init_12 (fun H locs hP hD hS => ?_)
  have hP : va_P D vwCl [(ad0, .inr (4, [.ref qn1, .null, .null, .null, .null, .int 0, .int 0])), (qn1, .inr (10, [.int 0, .ref (uu2 0), .ref (uu2 1), .ref (uu2 2), .ref (uu2 3), .ref (uu2 4), .ref (uu2 5), .ref (uu2 6)]))] H := hP
  have hD : va_D A [(ad0, .inr (4, [.ref qn1, .null, .null, .null, .null, .int 0, .int 0])), (qn1, .inr (10, [.int 0, .ref (uu2 0), .ref (uu2 1), .ref (uu2 2), .ref (uu2 3), .ref (uu2 4), .ref (uu2 5), .ref (uu2 6)]))] := hD
  refine lv_aload_n hx hb dX4_init_15 rfl (lv_at hl 0 rfl) ?_
  refine va_new (ci := 10) (fs := [.int 0, .null, .null, .null, .null, .null, .null, .null]) (C := RX10) (T := TX10) (N := 8) hx hb hB cx_inX10 tyX10 tyX10_ok hown (hB _ cw_195) (hB _ cw_111) (hB _ cw_4) hK hP hD hS hA rfl cx_fsX10 (Nat.le_of_ble_eq_true rfl) (Nat.le_of_ble_eq_true rfl) dX4_init_16 (fun qn3 H hP hD hS => ?_)
  have hP : va_P D vwCl [(ad0, .inr (4, [.ref qn1, .null, .null, .null, .null, .int 0, .int 0])), (qn1, .inr (10, [.int 0, .ref (uu2 0), .ref (uu2 1), .ref (uu2 2), .ref (uu2 3), .ref (uu2 4), .ref (uu2 5), .ref (uu2 6)])), (qn3, .inr (10, [.int 0, .null, .null, .null, .null, .null, .null, .null]))] H := hP
  have hD : va_D A [(ad0, .inr (4, [.ref qn1, .null, .null, .null, .null, .int 0, .int 0])), (qn1, .inr (10, [.int 0, .ref (uu2 0), .ref (uu2 1), .ref (uu2 2), .ref (uu2 3), .ref (uu2 4), .ref (uu2 5), .ref (uu2 6)])), (qn3, .inr (10, [.int 0, .null, .null, .null, .null, .null, .null, .null]))] := hD
  refine lv_dup hx hb dX4_init_19 rfl ?_
  refine cx_IN (D := D) (cs := cs) (wc := [(qn3, .inr (10, [.int 0, .null, .null, .null, .null, .null, .null, .null]))]) (wr := [(ad0, .inr (4, [.ref qn1, .null, .null, .null, .null, .int 0, .int 0])), (qn1, .inr (10, [.int 0, .ref (uu2 0), .ref (uu2 1), .ref (uu2 2), .ref (uu2 3), .ref (uu2 4), .ref (uu2 5), .ref (uu2 6)]))]) (v := none) (w1 := fun u => [(qn3, .inr (10, [.int 0, .ref (u 0), .ref (u 1), .ref (u 2), .ref (u 3), .ref (u 4), .ref (u 5), .ref (u 6)]))]) (As := []) (rest := [.ref qn3, .ref ad0]) (o := qn3) ⟨hx, hb, hml, hown, hB⟩ (fun sz => kX10_init l D cs qn3 sz) cw_114 cw_4 (by decide +kernel) cw_113 rfl rfl rfl (by decide +kernel) ⟨Nat.le_of_ble_eq_true rfl, Nat.le_of_ble_eq_true rfl⟩ hK hN hP hD hS hA [2] [0, 1] rfl rfl (by decide) rfl hl.1 rfl (Nat.le_of_ble_eq_true rfl) dX4_init_20 ⟨Nat.le_of_ble_eq_true rfl, Nat.le_of_ble_eq_true rfl⟩ (fun uu4 H locs hP hD hS => ?_)
  refine W.eq (g2 := F0 m 23 ls [.ref qn3, .ref ad0]) rfl ?_
  have hP : va_P D vwCl [(ad0, .inr (4, [.ref qn1, .null, .null, .null, .null, .int 0, .int 0])), (qn1, .inr (10, [.int 0, .ref (uu2 0), .ref (uu2 1), .ref (uu2 2), .ref (uu2 3), .ref (uu2 4), .ref (uu2 5), .ref (uu2 6)])), (qn3, .inr (10, [.int 0, .ref (uu4 0), .ref (uu4 1), .ref (uu4 2), .ref (uu4 3), .ref (uu4 4), .ref (uu4 5), .ref (uu4 6)]))] H := hP
  have hD : va_D A [(ad0, .inr (4, [.ref qn1, .null, .null, .null, .null, .int 0, .int 0])), (qn1, .inr (10, [.int 0, .ref (uu2 0), .ref (uu2 1), .ref (uu2 2), .ref (uu2 3), .ref (uu2 4), .ref (uu2 5), .ref (uu2 6)])), (qn3, .inr (10, [.int 0, .ref (uu4 0), .ref (uu4 1), .ref (uu4 2), .ref (uu4 3), .ref (uu4 4), .ref (uu4 5), .ref (uu4 6)]))] := hD
  refine va_put (D := D) (ci := 4) (v := .ref qn3) (ty := .object "TreeMerge$Tree") (C := RX4) (T := TX4) (N := 7) hx hb hB cx_inX4 tyX4 tyX4_ok nmX4 hown hK hP hD hS 0 rfl rfl 1 (by decide) (hB _ cw_198) (fun _ h9 => h9) rfl (by decide +kernel) rfl rfl (Nat.le_of_ble_eq_true rfl) dX4_init_23 (fun H locs hP hD hS => ?_)
  have hP : va_P D vwCl [(ad0, .inr (4, [.ref qn1, .ref qn3, .null, .null, .null, .int 0, .int 0])), (qn1, .inr (10, [.int 0, .ref (uu2 0), .ref (uu2 1), .ref (uu2 2), .ref (uu2 3), .ref (uu2 4), .ref (uu2 5), .ref (uu2 6)])), (qn3, .inr (10, [.int 0, .ref (uu4 0), .ref (uu4 1), .ref (uu4 2), .ref (uu4 3), .ref (uu4 4), .ref (uu4 5), .ref (uu4 6)]))] H := hP
  have hD : va_D A [(ad0, .inr (4, [.ref qn1, .ref qn3, .null, .null, .null, .int 0, .int 0])), (qn1, .inr (10, [.int 0, .ref (uu2 0), .ref (uu2 1), .ref (uu2 2), .ref (uu2 3), .ref (uu2 4), .ref (uu2 5), .ref (uu2 6)])), (qn3, .inr (10, [.int 0, .ref (uu4 0), .ref (uu4 1), .ref (uu4 2), .ref (uu4 3), .ref (uu4 4), .ref (uu4 5), .ref (uu4 6)]))] := hD
  refine lv_aload_n hx hb dX4_init_26 rfl (lv_at hl 0 rfl) ?_
  refine lv_bipush (v := 40) hx hb dX4_init_27 (by decide) ?_
  refine cx_newa (cs := cs) (atype := .int) (ty := .int) (a0 := (40, .inl (fun _ => 0))) hx hb hB cw_59 rfl cx_ra_int 0 rfl hK hP hD hS hA (fun _ => rfl) (by decide) (by decide) (Nat.le_of_ble_eq_true rfl) (Nat.le_of_ble_eq_true rfl) (Nat.le_of_ble_eq_true rfl) dX4_init_29 (fun qa5 H hP hD hS => ?_)
  have hP : va_P D vwCl [(ad0, .inr (4, [.ref qn1, .ref qn3, .null, .null, .null, .int 0, .int 0])), (qn1, .inr (10, [.int 0, .ref (uu2 0), .ref (uu2 1), .ref (uu2 2), .ref (uu2 3), .ref (uu2 4), .ref (uu2 5), .ref (uu2 6)])), (qn3, .inr (10, [.int 0, .ref (uu4 0), .ref (uu4 1), .ref (uu4 2), .ref (uu4 3), .ref (uu4 4), .ref (uu4 5), .ref (uu4 6)])), (qa5, .inl (cs 0, 40, .inl (fun _ => 0)))] H := hP
  have hD : va_D A [(ad0, .inr (4, [.ref qn1, .ref qn3, .null, .null, .null, .int 0, .int 0])), (qn1, .inr (10, [.int 0, .ref (uu2 0), .ref (uu2 1), .ref (uu2 2), .ref (uu2 3), .ref (uu2 4), .ref (uu2 5), .ref (uu2 6)])), (qn3, .inr (10, [.int 0, .ref (uu4 0), .ref (uu4 1), .ref (uu4 2), .ref (uu4 3), .ref (uu4 4), .ref (uu4 5), .ref (uu4 6)])), (qa5, .inl (cs 0, 40, .inl (fun _ => 0)))] := hD
  refine va_putF (D := D) (ci := 4) (v := .ref qa5) (ty := .array .int) (C := RX4) (T := TX4) (N := 7) hx hb hB cx_inX4 tyX4 tyX4_ok nmX4 hown hK hP hD hS 0 rfl rfl 2 (by decide) (hB _ cw_199) (fun _ h9 => h9) rfl hnm rfl (by decide +kernel) rfl rfl (Nat.le_of_ble_eq_true rfl) dX4_init_31 (fun H locs hP hD hS => ?_)
  have hP : va_P D vwCl [(ad0, .inr (4, [.ref qn1, .ref qn3, .ref qa5, .null, .null, .int 0, .int 0])), (qn1, .inr (10, [.int 0, .ref (uu2 0), .ref (uu2 1), .ref (uu2 2), .ref (uu2 3), .ref (uu2 4), .ref (uu2 5), .ref (uu2 6)])), (qn3, .inr (10, [.int 0, .ref (uu4 0), .ref (uu4 1), .ref (uu4 2), .ref (uu4 3), .ref (uu4 4), .ref (uu4 5), .ref (uu4 6)])), (qa5, .inl (cs 0, 40, .inl (fun _ => 0)))] H := hP
  have hD : va_D A [(ad0, .inr (4, [.ref qn1, .ref qn3, .ref qa5, .null, .null, .int 0, .int 0])), (qn1, .inr (10, [.int 0, .ref (uu2 0), .ref (uu2 1), .ref (uu2 2), .ref (uu2 3), .ref (uu2 4), .ref (uu2 5), .ref (uu2 6)])), (qn3, .inr (10, [.int 0, .ref (uu4 0), .ref (uu4 1), .ref (uu4 2), .ref (uu4 3), .ref (uu4 4), .ref (uu4 5), .ref (uu4 6)])), (qa5, .inl (cs 0, 40, .inl (fun _ => 0)))] := hD
  refine lv_aload_n hx hb dX4_init_34 rfl (lv_at hl 0 rfl) ?_
  refine lv_bipush (v := 40) hx hb dX4_init_35 (by decide) ?_
  refine cx_newa (cs := cs) (atype := .int) (ty := .int) (a0 := (40, .inl (fun _ => 0))) hx hb hB cw_59 rfl cx_ra_int 0 rfl hK hP hD hS hA (fun _ => rfl) (by decide) (by decide) (Nat.le_of_ble_eq_true rfl) (Nat.le_of_ble_eq_true rfl) (Nat.le_of_ble_eq_true rfl) dX4_init_37 (fun qa6 H hP hD hS => ?_)
  have hP : va_P D vwCl [(ad0, .inr (4, [.ref qn1, .ref qn3, .ref qa5, .null, .null, .int 0, .int 0])), (qn1, .inr (10, [.int 0, .ref (uu2 0), .ref (uu2 1), .ref (uu2 2), .ref (uu2 3), .ref (uu2 4), .ref (uu2 5), .ref (uu2 6)])), (qn3, .inr (10, [.int 0, .ref (uu4 0), .ref (uu4 1), .ref (uu4 2), .ref (uu4 3), .ref (uu4 4), .ref (uu4 5), .ref (uu4 6)])), (qa5, .inl (cs 0, 40, .inl (fun _ => 0))), (qa6, .inl (cs 0, 40, .inl (fun _ => 0)))] H := hP
  have hD : va_D A [(ad0, .inr (4, [.ref qn1, .ref qn3, .ref qa5, .null, .null, .int 0, .int 0])), (qn1, .inr (10, [.int 0, .ref (uu2 0), .ref (uu2 1), .ref (uu2 2), .ref (uu2 3), .ref (uu2 4), .ref (uu2 5), .ref (uu2 6)])), (qn3, .inr (10, [.int 0, .ref (uu4 0), .ref (uu4 1), .ref (uu4 2), .ref (uu4 3), .ref (uu4 4), .ref (uu4 5), .ref (uu4 6)])), (qa5, .inl (cs 0, 40, .inl (fun _ => 0))), (qa6, .inl (cs 0, 40, .inl (fun _ => 0)))] := hD
  refine va_putF (D := D) (ci := 4) (v := .ref qa6) (ty := .array .int) (C := RX4) (T := TX4) (N := 7) hx hb hB cx_inX4 tyX4 tyX4_ok nmX4 hown hK hP hD hS 0 rfl rfl 3 (by decide) (hB _ cw_200) (fun _ h9 => h9) rfl hnm rfl (by decide +kernel) rfl rfl (Nat.le_of_ble_eq_true rfl) dX4_init_39 (fun H locs hP hD hS => ?_)
  have hP : va_P D vwCl [(ad0, .inr (4, [.ref qn1, .ref qn3, .ref qa5, .ref qa6, .null, .int 0, .int 0])), (qn1, .inr (10, [.int 0, .ref (uu2 0), .ref (uu2 1), .ref (uu2 2), .ref (uu2 3), .ref (uu2 4), .ref (uu2 5), .ref (uu2 6)])), (qn3, .inr (10, [.int 0, .ref (uu4 0), .ref (uu4 1), .ref (uu4 2), .ref (uu4 3), .ref (uu4 4), .ref (uu4 5), .ref (uu4 6)])), (qa5, .inl (cs 0, 40, .inl (fun _ => 0))), (qa6, .inl (cs 0, 40, .inl (fun _ => 0)))] H := hP
  have hD : va_D A [(ad0, .inr (4, [.ref qn1, .ref qn3, .ref qa5, .ref qa6, .null, .int 0, .int 0])), (qn1, .inr (10, [.int 0, .ref (uu2 0), .ref (uu2 1), .ref (uu2 2), .ref (uu2 3), .ref (uu2 4), .ref (uu2 5), .ref (uu2 6)])), (qn3, .inr (10, [.int 0, .ref (uu4 0), .ref (uu4 1), .ref (uu4 2), .ref (uu4 3), .ref (uu4 4), .ref (uu4 5), .ref (uu4 6)])), (qa5, .inl (cs 0, 40, .inl (fun _ => 0))), (qa6, .inl (cs 0, 40, .inl (fun _ => 0)))] := hD
  refine lv_aload_n hx hb dX4_init_42 rfl (lv_at hl 0 rfl) ?_
  refine lv_bipush (v := 40) hx hb dX4_init_43 (by decide) ?_
  refine cx_newa (cs := cs) (atype := .int) (ty := .int) (a0 := (40, .inl (fun _ => 0))) hx hb hB cw_59 rfl cx_ra_int 0 rfl hK hP hD hS hA (fun _ => rfl) (by decide) (by decide) (Nat.le_of_ble_eq_true rfl) (Nat.le_of_ble_eq_true rfl) (Nat.le_of_ble_eq_true rfl) dX4_init_45 (fun qa7 H hP hD hS => ?_)
  have hP : va_P D vwCl [(ad0, .inr (4, [.ref qn1, .ref qn3, .ref qa5, .ref qa6, .null, .int 0, .int 0])), (qn1, .inr (10, [.int 0, .ref (uu2 0), .ref (uu2 1), .ref (uu2 2), .ref (uu2 3), .ref (uu2 4), .ref (uu2 5), .ref (uu2 6)])), (qn3, .inr (10, [.int 0, .ref (uu4 0), .ref (uu4 1), .ref (uu4 2), .ref (uu4 3), .ref (uu4 4), .ref (uu4 5), .ref (uu4 6)])), (qa5, .inl (cs 0, 40, .inl (fun _ => 0))), (qa6, .inl (cs 0, 40, .inl (fun _ => 0))), (qa7, .inl (cs 0, 40, .inl (fun _ => 0)))] H := hP
  have hD : va_D A [(ad0, .inr (4, [.ref qn1, .ref qn3, .ref qa5, .ref qa6, .null, .int 0, .int 0])), (qn1, .inr (10, [.int 0, .ref (uu2 0), .ref (uu2 1), .ref (uu2 2), .ref (uu2 3), .ref (uu2 4), .ref (uu2 5), .ref (uu2 6)])), (qn3, .inr (10, [.int 0, .ref (uu4 0), .ref (uu4 1), .ref (uu4 2), .ref (uu4 3), .ref (uu4 4), .ref (uu4 5), .ref (uu4 6)])), (qa5, .inl (cs 0, 40, .inl (fun _ => 0))), (qa6, .inl (cs 0, 40, .inl (fun _ => 0))), (qa7, .inl (cs 0, 40, .inl (fun _ => 0)))] := hD
  refine va_putF (D := D) (ci := 4) (v := .ref qa7) (ty := .array .int) (C := RX4) (T := TX4) (N := 7) hx hb hB cx_inX4 tyX4 tyX4_ok nmX4 hown hK hP hD hS 0 rfl rfl 4 (by decide) (hB _ cw_201) (fun _ h9 => h9) rfl hnm rfl (by decide +kernel) rfl rfl (Nat.le_of_ble_eq_true rfl) dX4_init_47 (fun H locs hP hD hS => ?_)
  have hP : va_P D vwCl [(ad0, .inr (4, [.ref qn1, .ref qn3, .ref qa5, .ref qa6, .ref qa7, .int 0, .int 0])), (qn1, .inr (10, [.int 0, .ref (uu2 0), .ref (uu2 1), .ref (uu2 2), .ref (uu2 3), .ref (uu2 4), .ref (uu2 5), .ref (uu2 6)])), (qn3, .inr (10, [.int 0, .ref (uu4 0), .ref (uu4 1), .ref (uu4 2), .ref (uu4 3), .ref (uu4 4), .ref (uu4 5), .ref (uu4 6)])), (qa5, .inl (cs 0, 40, .inl (fun _ => 0))), (qa6, .inl (cs 0, 40, .inl (fun _ => 0))), (qa7, .inl (cs 0, 40, .inl (fun _ => 0)))] H := hP
  have hD : va_D A [(ad0, .inr (4, [.ref qn1, .ref qn3, .ref qa5, .ref qa6, .ref qa7, .int 0, .int 0])), (qn1, .inr (10, [.int 0, .ref (uu2 0), .ref (uu2 1), .ref (uu2 2), .ref (uu2 3), .ref (uu2 4), .ref (uu2 5), .ref (uu2 6)])), (qn3, .inr (10, [.int 0, .ref (uu4 0), .ref (uu4 1), .ref (uu4 2), .ref (uu4 3), .ref (uu4 4), .ref (uu4 5), .ref (uu4 6)])), (qa5, .inl (cs 0, 40, .inl (fun _ => 0))), (qa6, .inl (cs 0, 40, .inl (fun _ => 0))), (qa7, .inl (cs 0, 40, .inl (fun _ => 0)))] := hD
  exact cx_vret hx hb hr hlocks hP hD hS (cx_uo []) [] rfl (by decide) (Nat.le_of_ble_eq_true rfl) (Nat.le_of_ble_eq_true rfl) dX4_init_50
set_option maxHeartbeats 4000000 in
set_option maxRecDepth 100000 in
theorem kX1_init (l : Launch) (D : va_G) (cs : Nat → ClassId) (ad0 : Nat) (sz : Nat) : Met l yX1_init (.code yX1_init cX1_init 1 none :: cx_big) { frames := 1, cells := 4, slots := 48, locals := 12 } (cx_P D cs [.ref ad0] [(ad0, .inr (1, [.int 0, .null, .null, .null, .null]))] sz) (cx_Q D none (fun u => [(ad0, .inr (1, [.int 0, .ref (u 0), .ref (u 1), .ref (u 2), .ref (u 3)]))]) (va_A [(ad0, .inr (1, [.int 0, .null, .null, .null, .null]))] sz)) 4 48 (va_A [(ad0, .inr (1, [.int 0, .null, .null, .null, .null]))] sz) := by
  refine cx_ofW (by decide) (Nat.le_of_ble_eq_true rfl) ?_
  intro p e s m below meth c A ls hx hb hr hml hB hown hlocks hnm hK hN hA hP hD hS hl
  have hown : s.vm.findClass "TreeMerge$Editions" = some m.cls := hown
  have hl : lv_has ls 1 [(0, .ref ad0)] := hl
  have hnm : meth.name = "<init>" := hnm
  have hS0 := hS
  refine lv_aload_n hx hb dX1_init_0 rfl (lv_at hl 0 rfl) ?_
  refine W.objInit hx hb hown (hB _ cw_226) (hB _ cw_26) (hB _ cw_27) rfl (by rw [hml]; exact hl.1) rfl dX1_init_1 (Nat.le_of_ble_eq_true rfl) (Nat.le_of_ble_eq_true rfl) ?_
  refine W.eq (g2 := F0 m 4 ls []) rfl ?_
  refine lv_aload_n hx hb dX1_init_4 rfl (lv_at hl 0 rfl) ?_
  refine lv_bipush (v := 12) hx hb dX1_init_5 (by decide) ?_
  refine va_newq (own := "TreeMerge$Editions") (C := "TreeMerge$Tree") (N' := 12) hx hb hown (hB _ cw_227) hN.2 hK hP hD hS hA (by decide) (by decide) (Nat.le_of_ble_eq_true rfl) (Nat.le_of_ble_eq_true rfl) (Nat.le_of_ble_eq_true rfl) dX1_init_7 (fun qa1 cQ H _ hP hD hS => ?_)
  have hP := hP.sub (ws' := [(ad0, .inr (1, [.int 0, .null, .null, .null, .null]))]) [0] rfl
  have hD := hD.sub (ws' := [(ad0, .inr (1, [.int 0, .null, .null, .null, .null]))]) [0] (by decide) rfl
  refine va_putF (D := D) (ci := 1) (v := .ref qa1) (ty := .array (.object "TreeMerge$Tree")) (C := RX1) (T := TX1) (N := 5) hx hb hB cx_inX1 tyX1 tyX1_ok nmX1 hown hK hP hD hS 0 rfl rfl 1 (by decide) (hB _ cw_231) (fun _ h9 => h9) rfl hnm rfl (by decide +kernel) rfl rfl (Nat.le_of_ble_eq_true rfl) dX1_init_10 (fun H locs hP hD hS => ?_)
  have hP : va_P D vwCl [(ad0, .inr (1, [.int 0, .ref qa1, .null, .null, .null]))] H := hP
  have hD : va_D A [(ad0, .inr (1, [.int 0, .ref qa1, .null, .null, .null]))] := hD
  refine lv_aload_n hx hb dX1_init_13 rfl (lv_at hl 0 rfl) ?_
  refine lv_bipush (v := 12) hx hb dX1_init_14 (by decide) ?_
  refine cx_newa (cs := cs) (atype := .int) (ty := .int) (a0 := (12, .inl (fun _ => 0))) hx hb hB cw_59 rfl cx_ra_int 0 rfl hK hP hD hS hA (fun _ => rfl) (by decide) (by decide) (Nat.le_of_ble_eq_true rfl) (Nat.le_of_ble_eq_true rfl) (Nat.le_of_ble_eq_true rfl) dX1_init_16 (fun qa2 H hP hD hS => ?_)
  have hP : va_P D vwCl [(ad0, .inr (1, [.int 0, .ref qa1, .null, .null, .null])), (qa2, .inl (cs 0, 12, .inl (fun _ => 0)))] H := hP
  have hD : va_D A [(ad0, .inr (1, [.int 0, .ref qa1, .null, .null, .null])), (qa2, .inl (cs 0, 12, .inl (fun _ => 0)))] := hD
  refine va_putF (D := D) (ci := 1) (v := .ref qa2) (ty := .array .int) (C := RX1) (T := TX1) (N := 5) hx hb hB cx_inX1 tyX1 tyX1_ok nmX1 hown hK hP hD hS 0 rfl rfl 2 (by decide) (hB _ cw_232) (fun _ h9 => h9) rfl hnm rfl (by decide +kernel) rfl rfl (Nat.le_of_ble_eq_true rfl) dX1_init_18 (fun H locs hP hD hS => ?_)
  have hP : va_P D vwCl [(ad0, .inr (1, [.int 0, .ref qa1, .ref qa2, .null, .null])), (qa2, .inl (cs 0, 12, .inl (fun _ => 0)))] H := hP
  have hD : va_D A [(ad0, .inr (1, [.int 0, .ref qa1, .ref qa2, .null, .null])), (qa2, .inl (cs 0, 12, .inl (fun _ => 0)))] := hD
  refine lv_aload_n hx hb dX1_init_21 rfl (lv_at hl 0 rfl) ?_
  refine lv_bipush (v := 12) hx hb dX1_init_22 (by decide) ?_
  refine cx_newa (cs := cs) (atype := .int) (ty := .int) (a0 := (12, .inl (fun _ => 0))) hx hb hB cw_59 rfl cx_ra_int 0 rfl hK hP hD hS hA (fun _ => rfl) (by decide) (by decide) (Nat.le_of_ble_eq_true rfl) (Nat.le_of_ble_eq_true rfl) (Nat.le_of_ble_eq_true rfl) dX1_init_24 (fun qa3 H hP hD hS => ?_)
  have hP : va_P D vwCl [(ad0, .inr (1, [.int 0, .ref qa1, .ref qa2, .null, .null])), (qa2, .inl (cs 0, 12, .inl (fun _ => 0))), (qa3, .inl (cs 0, 12, .inl (fun _ => 0)))] H := hP
  have hD : va_D A [(ad0, .inr (1, [.int 0, .ref qa1, .ref qa2, .null, .null])), (qa2, .inl (cs 0, 12, .inl (fun _ => 0))), (qa3, .inl (cs 0, 12, .inl (fun _ => 0)))] := hD
  refine va_putF (D := D) (ci := 1) (v := .ref qa3) (ty := .array .int) (C := RX1) (T := TX1) (N := 5) hx hb hB cx_inX1 tyX1 tyX1_ok nmX1 hown hK hP hD hS 0 rfl rfl 3 (by decide) (hB _ cw_234) (fun _ h9 => h9) rfl hnm rfl (by decide +kernel) rfl rfl (Nat.le_of_ble_eq_true rfl) dX1_init_26 (fun H locs hP hD hS => ?_)
  have hP : va_P D vwCl [(ad0, .inr (1, [.int 0, .ref qa1, .ref qa2, .ref qa3, .null])), (qa2, .inl (cs 0, 12, .inl (fun _ => 0))), (qa3, .inl (cs 0, 12, .inl (fun _ => 0)))] H := hP
  have hD : va_D A [(ad0, .inr (1, [.int 0, .ref qa1, .ref qa2, .ref qa3, .null])), (qa2, .inl (cs 0, 12, .inl (fun _ => 0))), (qa3, .inl (cs 0, 12, .inl (fun _ => 0)))] := hD
  refine lv_aload_n hx hb dX1_init_29 rfl (lv_at hl 0 rfl) ?_
  refine lv_bipush (v := 12) hx hb dX1_init_30 (by decide) ?_
  refine cx_newa (cs := cs) (atype := .int) (ty := .int) (a0 := (12, .inl (fun _ => 0))) hx hb hB cw_59 rfl cx_ra_int 0 rfl hK hP hD hS hA (fun _ => rfl) (by decide) (by decide) (Nat.le_of_ble_eq_true rfl) (Nat.le_of_ble_eq_true rfl) (Nat.le_of_ble_eq_true rfl) dX1_init_32 (fun qa4 H hP hD hS => ?_)
  have hP : va_P D vwCl [(ad0, .inr (1, [.int 0, .ref qa1, .ref qa2, .ref qa3, .null])), (qa2, .inl (cs 0, 12, .inl (fun _ => 0))), (qa3, .inl (cs 0, 12, .inl (fun _ => 0))), (qa4, .inl (cs 0, 12, .inl (fun _ => 0)))] H := hP
  have hD : va_D A [(ad0, .inr (1, [.int 0, .ref qa1, .ref qa2, .ref qa3, .null])), (qa2, .inl (cs 0, 12, .inl (fun _ => 0))), (qa3, .inl (cs 0, 12, .inl (fun _ => 0))), (qa4, .inl (cs 0, 12, .inl (fun _ => 0)))] := hD
  refine va_putF (D := D) (ci := 1) (v := .ref qa4) (ty := .array .int) (C := RX1) (T := TX1) (N := 5) hx hb hB cx_inX1 tyX1 tyX1_ok nmX1 hown hK hP hD hS 0 rfl rfl 4 (by decide) (hB _ cw_236) (fun _ h9 => h9) rfl hnm rfl (by decide +kernel) rfl rfl (Nat.le_of_ble_eq_true rfl) dX1_init_34 (fun H locs hP hD hS => ?_)
  have hP : va_P D vwCl [(ad0, .inr (1, [.int 0, .ref qa1, .ref qa2, .ref qa3, .ref qa4])), (qa2, .inl (cs 0, 12, .inl (fun _ => 0))), (qa3, .inl (cs 0, 12, .inl (fun _ => 0))), (qa4, .inl (cs 0, 12, .inl (fun _ => 0)))] H := hP
  have hD : va_D A [(ad0, .inr (1, [.int 0, .ref qa1, .ref qa2, .ref qa3, .ref qa4])), (qa2, .inl (cs 0, 12, .inl (fun _ => 0))), (qa3, .inl (cs 0, 12, .inl (fun _ => 0))), (qa4, .inl (cs 0, 12, .inl (fun _ => 0)))] := hD
  exact cx_vret hx hb hr hlocks hP hD hS (cx_uo [qa1, qa2, qa3, qa4]) [0] rfl (by decide) (Nat.le_of_ble_eq_true rfl) (Nat.le_of_ble_eq_true rfl) dX1_init_37
set_option maxHeartbeats 4000000 in
set_option maxRecDepth 100000 in
theorem kX0_init (l : Launch) (D : va_G) (cs : Nat → ClassId) (ad0 : Nat) (sz : Nat) : Met l yX0_init (.code yX0_init cX0_init 1 none :: cx_big) { frames := 2, cells := 16, slots := 576, locals := 32 } (cx_P D cs [.ref ad0] [(ad0, .inr (0, [.int 0, .int 0, .null, .null]))] sz) (cx_Q D none (fun u => [(ad0, .inr (0, [.int 0, .int 0, .ref (u 0), .ref (u 1)]))]) (va_A [(ad0, .inr (0, [.int 0, .int 0, .null, .null]))] sz)) 16 576 (va_A [(ad0, .inr (0, [.int 0, .int 0, .null, .null]))] sz) := by
  refine cx_ofW (by decide) (Nat.le_of_ble_eq_true rfl) ?_
  intro p e s m below meth c A ls hx hb hr hml hB hown hlocks hnm hK hN hA hP hD hS hl
  have hown : s.vm.findClass "TreeMerge$Draft" = some m.cls := hown
  have hl : lv_has ls 1 [(0, .ref ad0)] := hl
  have hnm : meth.name = "<init>" := hnm
  have hS0 := hS
  refine lv_aload_n hx hb dX0_init_0 rfl (lv_at hl 0 rfl) ?_
  refine W.objInit hx hb hown (hB _ cw_253) (hB _ cw_26) (hB _ cw_27) rfl (by rw [hml]; exact hl.1) rfl dX0_init_1 (Nat.le_of_ble_eq_true rfl) (Nat.le_of_ble_eq_true rfl) ?_
  refine W.eq (g2 := F0 m 4 ls []) rfl ?_
  refine lv_aload_n hx hb dX0_init_4 rfl (lv_at hl 0 rfl) ?_
  refine va_new (ci := 10) (fs := [.int 0, .null, .null, .null, .null, .null, .null, .null]) (C := RX10) (T := TX10) (N := 8) hx hb hB cx_inX10 tyX10 tyX10_ok hown (hB _ cw_254) (hB _ cw_111) (hB _ cw_4) hK hP hD hS hA rfl cx_fsX10 (Nat.le_of_ble_eq_true rfl) (Nat.le_of_ble_eq_true rfl) dX0_init_5 (fun qn1 H hP hD hS => ?_)
  have hP : va_P D vwCl [(ad0, .inr (0, [.int 0, .int 0, .null, .null])), (qn1, .inr (10, [.int 0, .null, .null, .null, .null, .null, .null, .null]))] H := hP
  have hD : va_D A [(ad0, .inr (0, [.int 0, .int 0, .null, .null])), (qn1, .inr (10, [.int 0, .null, .null, .null, .null, .null, .null, .null]))] := hD
  refine lv_dup hx hb dX0_init_8 rfl ?_
  refine cx_IN (D := D) (cs := cs) (wc := [(qn1, .inr (10, [.int 0, .null, .null, .null, .null, .null, .null, .null]))]) (wr := [(ad0, .inr (0, [.int 0, .int 0, .null, .null]))]) (v := none) (w1 := fun u => [(qn1, .inr (10, [.int 0, .ref (u 0), .ref (u 1), .ref (u 2), .ref (u 3), .ref (u 4), .ref (u 5), .ref (u 6)]))]) (As := []) (rest := [.ref qn1, .ref ad0]) (o := qn1) ⟨hx, hb, hml, hown, hB⟩ (fun sz => kX10_init l D cs qn1 sz) cw_114 cw_4 (by decide +kernel) cw_113 rfl rfl rfl (by decide +kernel) ⟨Nat.le_of_ble_eq_true rfl, Nat.le_of_ble_eq_true rfl⟩ hK hN hP hD hS hA [1] [0] rfl rfl (by decide) rfl hl.1 rfl (Nat.le_of_ble_eq_true rfl) dX0_init_9 ⟨Nat.le_of_ble_eq_true rfl, Nat.le_of_ble_eq_true rfl⟩ (fun uu2 H locs hP hD hS => ?_)
  refine W.eq (g2 := F0 m 12 ls [.ref qn1, .ref ad0]) rfl ?_
  have hP : va_P D vwCl [(ad0, .inr (0, [.int 0, .int 0, .null, .null])), (qn1, .inr (10, [.int 0, .ref (uu2 0), .ref (uu2 1), .ref (uu2 2), .ref (uu2 3), .ref (uu2 4), .ref (uu2 5), .ref (uu2 6)]))] H := hP
  have hD : va_D A [(ad0, .inr (0, [.int 0, .int 0, .null, .null])), (qn1, .inr (10, [.int 0, .ref (uu2 0), .ref (uu2 1), .ref (uu2 2), .ref (uu2 3), .ref (uu2 4), .ref (uu2 5), .ref (uu2 6)]))] := hD
  refine va_putF (D := D) (ci := 0) (v := .ref qn1) (ty := .object "TreeMerge$Tree") (C := RX0) (T := TX0) (N := 4) hx hb hB cx_inX0 tyX0 tyX0_ok nmX0 hown hK hP hD hS 0 rfl rfl 2 (by decide) (hB _ cw_259) (fun _ h9 => h9) rfl hnm rfl (by decide +kernel) rfl rfl (Nat.le_of_ble_eq_true rfl) dX0_init_12 (fun H locs hP hD hS => ?_)
  have hP : va_P D vwCl [(ad0, .inr (0, [.int 0, .int 0, .ref qn1, .null])), (qn1, .inr (10, [.int 0, .ref (uu2 0), .ref (uu2 1), .ref (uu2 2), .ref (uu2 3), .ref (uu2 4), .ref (uu2 5), .ref (uu2 6)]))] H := hP
  have hD : va_D A [(ad0, .inr (0, [.int 0, .int 0, .ref qn1, .null])), (qn1, .inr (10, [.int 0, .ref (uu2 0), .ref (uu2 1), .ref (uu2 2), .ref (uu2 3), .ref (uu2 4), .ref (uu2 5), .ref (uu2 6)]))] := hD
  refine lv_aload_n hx hb dX0_init_15 rfl (lv_at hl 0 rfl) ?_
  refine va_new (ci := 10) (fs := [.int 0, .null, .null, .null, .null, .null, .null, .null]) (C := RX10) (T := TX10) (N := 8) hx hb hB cx_inX10 tyX10 tyX10_ok hown (hB _ cw_254) (hB _ cw_111) (hB _ cw_4) hK hP hD hS hA rfl cx_fsX10 (Nat.le_of_ble_eq_true rfl) (Nat.le_of_ble_eq_true rfl) dX0_init_16 (fun qn3 H hP hD hS => ?_)
  have hP : va_P D vwCl [(ad0, .inr (0, [.int 0, .int 0, .ref qn1, .null])), (qn1, .inr (10, [.int 0, .ref (uu2 0), .ref (uu2 1), .ref (uu2 2), .ref (uu2 3), .ref (uu2 4), .ref (uu2 5), .ref (uu2 6)])), (qn3, .inr (10, [.int 0, .null, .null, .null, .null, .null, .null, .null]))] H := hP
  have hD : va_D A [(ad0, .inr (0, [.int 0, .int 0, .ref qn1, .null])), (qn1, .inr (10, [.int 0, .ref (uu2 0), .ref (uu2 1), .ref (uu2 2), .ref (uu2 3), .ref (uu2 4), .ref (uu2 5), .ref (uu2 6)])), (qn3, .inr (10, [.int 0, .null, .null, .null, .null, .null, .null, .null]))] := hD
  refine lv_dup hx hb dX0_init_19 rfl ?_
  refine cx_IN (D := D) (cs := cs) (wc := [(qn3, .inr (10, [.int 0, .null, .null, .null, .null, .null, .null, .null]))]) (wr := [(ad0, .inr (0, [.int 0, .int 0, .ref qn1, .null])), (qn1, .inr (10, [.int 0, .ref (uu2 0), .ref (uu2 1), .ref (uu2 2), .ref (uu2 3), .ref (uu2 4), .ref (uu2 5), .ref (uu2 6)]))]) (v := none) (w1 := fun u => [(qn3, .inr (10, [.int 0, .ref (u 0), .ref (u 1), .ref (u 2), .ref (u 3), .ref (u 4), .ref (u 5), .ref (u 6)]))]) (As := []) (rest := [.ref qn3, .ref ad0]) (o := qn3) ⟨hx, hb, hml, hown, hB⟩ (fun sz => kX10_init l D cs qn3 sz) cw_114 cw_4 (by decide +kernel) cw_113 rfl rfl rfl (by decide +kernel) ⟨Nat.le_of_ble_eq_true rfl, Nat.le_of_ble_eq_true rfl⟩ hK hN hP hD hS hA [2] [0, 1] rfl rfl (by decide) rfl hl.1 rfl (Nat.le_of_ble_eq_true rfl) dX0_init_20 ⟨Nat.le_of_ble_eq_true rfl, Nat.le_of_ble_eq_true rfl⟩ (fun uu4 H locs hP hD hS => ?_)
  refine W.eq (g2 := F0 m 23 ls [.ref qn3, .ref ad0]) rfl ?_
  have hP : va_P D vwCl [(ad0, .inr (0, [.int 0, .int 0, .ref qn1, .null])), (qn1, .inr (10, [.int 0, .ref (uu2 0), .ref (uu2 1), .ref (uu2 2), .ref (uu2 3), .ref (uu2 4), .ref (uu2 5), .ref (uu2 6)])), (qn3, .inr (10, [.int 0, .ref (uu4 0), .ref (uu4 1), .ref (uu4 2), .ref (uu4 3), .ref (uu4 4), .ref (uu4 5), .ref (uu4 6)]))] H := hP
  have hD : va_D A [(ad0, .inr (0, [.int 0, .int 0, .ref qn1, .null])), (qn1, .inr (10, [.int 0, .ref (uu2 0), .ref (uu2 1), .ref (uu2 2), .ref (uu2 3), .ref (uu2 4), .ref (uu2 5), .ref (uu2 6)])), (qn3, .inr (10, [.int 0, .ref (uu4 0), .ref (uu4 1), .ref (uu4 2), .ref (uu4 3), .ref (uu4 4), .ref (uu4 5), .ref (uu4 6)]))] := hD
  refine va_putF (D := D) (ci := 0) (v := .ref qn3) (ty := .object "TreeMerge$Tree") (C := RX0) (T := TX0) (N := 4) hx hb hB cx_inX0 tyX0 tyX0_ok nmX0 hown hK hP hD hS 0 rfl rfl 3 (by decide) (hB _ cw_261) (fun _ h9 => h9) rfl hnm rfl (by decide +kernel) rfl rfl (Nat.le_of_ble_eq_true rfl) dX0_init_23 (fun H locs hP hD hS => ?_)
  have hP : va_P D vwCl [(ad0, .inr (0, [.int 0, .int 0, .ref qn1, .ref qn3])), (qn1, .inr (10, [.int 0, .ref (uu2 0), .ref (uu2 1), .ref (uu2 2), .ref (uu2 3), .ref (uu2 4), .ref (uu2 5), .ref (uu2 6)])), (qn3, .inr (10, [.int 0, .ref (uu4 0), .ref (uu4 1), .ref (uu4 2), .ref (uu4 3), .ref (uu4 4), .ref (uu4 5), .ref (uu4 6)]))] H := hP
  have hD : va_D A [(ad0, .inr (0, [.int 0, .int 0, .ref qn1, .ref qn3])), (qn1, .inr (10, [.int 0, .ref (uu2 0), .ref (uu2 1), .ref (uu2 2), .ref (uu2 3), .ref (uu2 4), .ref (uu2 5), .ref (uu2 6)])), (qn3, .inr (10, [.int 0, .ref (uu4 0), .ref (uu4 1), .ref (uu4 2), .ref (uu4 3), .ref (uu4 4), .ref (uu4 5), .ref (uu4 6)]))] := hD
  exact cx_vret hx hb hr hlocks hP hD hS (cx_uo [qn1, qn3]) [0] rfl (by decide) (Nat.le_of_ble_eq_true rfl) (Nat.le_of_ble_eq_true rfl) dX0_init_26
set_option maxHeartbeats 4000000 in
set_option maxRecDepth 100000 in
theorem kX7_init (l : Launch) (D : va_G) (cs : Nat → ClassId) (ad0 : Nat) (sz : Nat) : Met l yX7_init (.code yX7_init cX7_init 1 none :: cx_big) { frames := 1, cells := 1, slots := 450, locals := 12 } (cx_P D cs [.ref ad0] [(ad0, .inr (7, [.int 0, .null]))] sz) (cx_Q D none (fun u => [(ad0, .inr (7, [.int 0, .ref (u 0)])), ((u 0), .inl (cs 0, 450, .inl (fun _ => 0)))]) (va_A [(ad0, .inr (7, [.int 0, .null]))] sz)) 1 450 (va_A [(ad0, .inr (7, [.int 0, .null]))] sz) := by
  refine cx_ofW (by decide) (Nat.le_of_ble_eq_true rfl) ?_
  intro p e s m below meth c A ls hx hb hr hml hB hown hlocks hnm hK hN hA hP hD hS hl
  have hown : s.vm.findClass "TreeMerge$Settled" = some m.cls := hown
  have hl : lv_has ls 1 [(0, .ref ad0)] := hl
  have hnm : meth.name = "<init>" := hnm
  have hS0 := hS
  refine lv_aload_n hx hb dX7_init_0 rfl (lv_at hl 0 rfl) ?_
  refine W.objInit hx hb hown (hB _ cw_276) (hB _ cw_26) (hB _ cw_27) rfl (by rw [hml]; exact hl.1) rfl dX7_init_1 (Nat.le_of_ble_eq_true rfl) (Nat.le_of_ble_eq_true rfl) ?_
  refine W.eq (g2 := F0 m 4 ls []) rfl ?_
  refine lv_aload_n hx hb dX7_init_4 rfl (lv_at hl 0 rfl) ?_
  refine lv_sipush (v := 450) hx hb dX7_init_5 (by decide) ?_
  refine cx_newa (cs := cs) (atype := .int) (ty := .int) (a0 := (450, .inl (fun _ => 0))) hx hb hB cw_59 rfl cx_ra_int 0 rfl hK hP hD hS hA (fun _ => rfl) (by decide) (by decide) (Nat.le_of_ble_eq_true rfl) (Nat.le_of_ble_eq_true rfl) (Nat.le_of_ble_eq_true rfl) dX7_init_8 (fun qa1 H hP hD hS => ?_)
  have hP : va_P D vwCl [(ad0, .inr (7, [.int 0, .null])), (qa1, .inl (cs 0, 450, .inl (fun _ => 0)))] H := hP
  have hD : va_D A [(ad0, .inr (7, [.int 0, .null])), (qa1, .inl (cs 0, 450, .inl (fun _ => 0)))] := hD
  refine va_putF (D := D) (ci := 7) (v := .ref qa1) (ty := .array .int) (C := RX7) (T := TX7) (N := 2) hx hb hB cx_inX7 tyX7 tyX7_ok nmX7 hown hK hP hD hS 0 rfl rfl 1 (by decide) (hB _ cw_279) (fun _ h9 => h9) rfl hnm rfl (by decide +kernel) rfl rfl (Nat.le_of_ble_eq_true rfl) dX7_init_10 (fun H locs hP hD hS => ?_)
  have hP : va_P D vwCl [(ad0, .inr (7, [.int 0, .ref qa1])), (qa1, .inl (cs 0, 450, .inl (fun _ => 0)))] H := hP
  have hD : va_D A [(ad0, .inr (7, [.int 0, .ref qa1])), (qa1, .inl (cs 0, 450, .inl (fun _ => 0)))] := hD
  exact cx_vret hx hb hr hlocks hP hD hS (cx_uo [qa1]) [0, 1] rfl (by decide) (Nat.le_of_ble_eq_true rfl) (Nat.le_of_ble_eq_true rfl) dX7_init_13
set_option maxHeartbeats 4000000 in
set_option maxRecDepth 100000 in
theorem kX8_init (l : Launch) (D : va_G) (cs : Nat → ClassId) (ad0 : Nat) (sz : Nat) : Met l yX8_init (.code yX8_init cX8_init 1 none :: cx_big) { frames := 2, cells := 10, slots := 478, locals := 32 } (cx_P D cs [.ref ad0] [(ad0, .inr (8, [.null, .int 0, .null, .null]))] sz) (cx_Q D none (fun u => []) (va_A [(ad0, .inr (8, [.null, .int 0, .null, .null]))] sz)) 10 478 (va_A [(ad0, .inr (8, [.null, .int 0, .null, .null]))] sz) := by
  refine cx_ofW (by decide) (Nat.le_of_ble_eq_true rfl) ?_
  intro p e s m below meth c A ls hx hb hr hml hB hown hlocks hnm hK hN hA hP hD hS hl
  have hown : s.vm.findClass "TreeMerge$Side" = some m.cls := hown
  have hl : lv_has ls 1 [(0, .ref ad0)] := hl
  have hnm : meth.name = "<init>" := hnm
  have hS0 := hS
  refine lv_aload_n hx hb dX8_init_0 rfl (lv_at hl 0 rfl) ?_
  refine W.objInit hx hb hown (hB _ cw_296) (hB _ cw_26) (hB _ cw_27) rfl (by rw [hml]; exact hl.1) rfl dX8_init_1 (Nat.le_of_ble_eq_true rfl) (Nat.le_of_ble_eq_true rfl) ?_
  refine W.eq (g2 := F0 m 4 ls []) rfl ?_
  refine lv_aload_n hx hb dX8_init_4 rfl (lv_at hl 0 rfl) ?_
  refine va_new (ci := 10) (fs := [.int 0, .null, .null, .null, .null, .null, .null, .null]) (C := RX10) (T := TX10) (N := 8) hx hb hB cx_inX10 tyX10 tyX10_ok hown (hB _ cw_297) (hB _ cw_111) (hB _ cw_4) hK hP hD hS hA rfl cx_fsX10 (Nat.le_of_ble_eq_true rfl) (Nat.le_of_ble_eq_true rfl) dX8_init_5 (fun qn1 H hP hD hS => ?_)
  have hP : va_P D vwCl [(ad0, .inr (8, [.null, .int 0, .null, .null])), (qn1, .inr (10, [.int 0, .null, .null, .null, .null, .null, .null, .null]))] H := hP
  have hD : va_D A [(ad0, .inr (8, [.null, .int 0, .null, .null])), (qn1, .inr (10, [.int 0, .null, .null, .null, .null, .null, .null, .null]))] := hD
  refine lv_dup hx hb dX8_init_8 rfl ?_
  refine cx_IN (D := D) (cs := cs) (wc := [(qn1, .inr (10, [.int 0, .null, .null, .null, .null, .null, .null, .null]))]) (wr := [(ad0, .inr (8, [.null, .int 0, .null, .null]))]) (v := none) (w1 := fun u => [(qn1, .inr (10, [.int 0, .ref (u 0), .ref (u 1), .ref (u 2), .ref (u 3), .ref (u 4), .ref (u 5), .ref (u 6)]))]) (As := []) (rest := [.ref qn1, .ref ad0]) (o := qn1) ⟨hx, hb, hml, hown, hB⟩ (fun sz => kX10_init l D cs qn1 sz) cw_114 cw_4 (by decide +kernel) cw_113 rfl rfl rfl (by decide +kernel) ⟨Nat.le_of_ble_eq_true rfl, Nat.le_of_ble_eq_true rfl⟩ hK hN hP hD hS hA [1] [0] rfl rfl (by decide) rfl hl.1 rfl (Nat.le_of_ble_eq_true rfl) dX8_init_9 ⟨Nat.le_of_ble_eq_true rfl, Nat.le_of_ble_eq_true rfl⟩ (fun uu2 H locs hP hD hS => ?_)
  refine W.eq (g2 := F0 m 12 ls [.ref qn1, .ref ad0]) rfl ?_
  have hP : va_P D vwCl [(ad0, .inr (8, [.null, .int 0, .null, .null])), (qn1, .inr (10, [.int 0, .ref (uu2 0), .ref (uu2 1), .ref (uu2 2), .ref (uu2 3), .ref (uu2 4), .ref (uu2 5), .ref (uu2 6)]))] H := hP
  have hD : va_D A [(ad0, .inr (8, [.null, .int 0, .null, .null])), (qn1, .inr (10, [.int 0, .ref (uu2 0), .ref (uu2 1), .ref (uu2 2), .ref (uu2 3), .ref (uu2 4), .ref (uu2 5), .ref (uu2 6)]))] := hD
  refine va_put (D := D) (ci := 8) (v := .ref qn1) (ty := .object "TreeMerge$Tree") (C := RX8) (T := TX8) (N := 4) hx hb hB cx_inX8 tyX8 tyX8_ok nmX8 hown hK hP hD hS 0 rfl rfl 0 (by decide) (hB _ cw_299) (fun _ h9 => h9) rfl (by decide +kernel) rfl rfl (Nat.le_of_ble_eq_true rfl) dX8_init_12 (fun H locs hP hD hS => ?_)
  have hP : va_P D vwCl [(ad0, .inr (8, [.ref qn1, .int 0, .null, .null])), (qn1, .inr (10, [.int 0, .ref (uu2 0), .ref (uu2 1), .ref (uu2 2), .ref (uu2 3), .ref (uu2 4), .ref (uu2 5), .ref (uu2 6)]))] H := hP
  have hD : va_D A [(ad0, .inr (8, [.ref qn1, .int 0, .null, .null])), (qn1, .inr (10, [.int 0, .ref (uu2 0), .ref (uu2 1), .ref (uu2 2), .ref (uu2 3), .ref (uu2 4), .ref (uu2 5), .ref (uu2 6)]))] := hD
  refine lv_aload_n hx hb dX8_init_15 rfl (lv_at hl 0 rfl) ?_
  refine lv_sipush (v := 150) hx hb dX8_init_16 (by decide) ?_
  refine cx_newa (cs := cs) (atype := .int) (ty := .int) (a0 := (150, .inl (fun _ => 0))) hx hb hB cw_59 rfl cx_ra_int 0 rfl hK hP hD hS hA (fun _ => rfl) (by decide) (by decide) (Nat.le_of_ble_eq_true rfl) (Nat.le_of_ble_eq_true rfl) (Nat.le_of_ble_eq_true rfl) dX8_init_19 (fun qa3 H hP hD hS => ?_)
  have hP : va_P D vwCl [(ad0, .inr (8, [.ref qn1, .int 0, .null, .null])), (qn1, .inr (10, [.int 0, .ref (uu2 0), .ref (uu2 1), .ref (uu2 2), .ref (uu2 3), .ref (uu2 4), .ref (uu2 5), .ref (uu2 6)])), (qa3, .inl (cs 0, 150, .inl (fun _ => 0)))] H := hP
  have hD : va_D A [(ad0, .inr (8, [.ref qn1, .int 0, .null, .null])), (qn1, .inr (10, [.int 0, .ref (uu2 0), .ref (uu2 1), .ref (uu2 2), .ref (uu2 3), .ref (uu2 4), .ref (uu2 5), .ref (uu2 6)])), (qa3, .inl (cs 0, 150, .inl (fun _ => 0)))] := hD
  refine va_putF (D := D) (ci := 8) (v := .ref qa3) (ty := .array .int) (C := RX8) (T := TX8) (N := 4) hx hb hB cx_inX8 tyX8 tyX8_ok nmX8 hown hK hP hD hS 0 rfl rfl 2 (by decide) (hB _ cw_302) (fun _ h9 => h9) rfl hnm rfl (by decide +kernel) rfl rfl (Nat.le_of_ble_eq_true rfl) dX8_init_21 (fun H locs hP hD hS => ?_)
  have hP : va_P D vwCl [(ad0, .inr (8, [.ref qn1, .int 0, .ref qa3, .null])), (qn1, .inr (10, [.int 0, .ref (uu2 0), .ref (uu2 1), .ref (uu2 2), .ref (uu2 3), .ref (uu2 4), .ref (uu2 5), .ref (uu2 6)])), (qa3, .inl (cs 0, 150, .inl (fun _ => 0)))] H := hP
  have hD : va_D A [(ad0, .inr (8, [.ref qn1, .int 0, .ref qa3, .null])), (qn1, .inr (10, [.int 0, .ref (uu2 0), .ref (uu2 1), .ref (uu2 2), .ref (uu2 3), .ref (uu2 4), .ref (uu2 5), .ref (uu2 6)])), (qa3, .inl (cs 0, 150, .inl (fun _ => 0)))] := hD
  refine lv_aload_n hx hb dX8_init_24 rfl (lv_at hl 0 rfl) ?_
  refine lv_bipush (v := 40) hx hb dX8_init_25 (by decide) ?_
  refine cx_newa (cs := cs) (atype := .int) (ty := .int) (a0 := (40, .inl (fun _ => 0))) hx hb hB cw_59 rfl cx_ra_int 0 rfl hK hP hD hS hA (fun _ => rfl) (by decide) (by decide) (Nat.le_of_ble_eq_true rfl) (Nat.le_of_ble_eq_true rfl) (Nat.le_of_ble_eq_true rfl) dX8_init_27 (fun qa4 H hP hD hS => ?_)
  have hP : va_P D vwCl [(ad0, .inr (8, [.ref qn1, .int 0, .ref qa3, .null])), (qn1, .inr (10, [.int 0, .ref (uu2 0), .ref (uu2 1), .ref (uu2 2), .ref (uu2 3), .ref (uu2 4), .ref (uu2 5), .ref (uu2 6)])), (qa3, .inl (cs 0, 150, .inl (fun _ => 0))), (qa4, .inl (cs 0, 40, .inl (fun _ => 0)))] H := hP
  have hD : va_D A [(ad0, .inr (8, [.ref qn1, .int 0, .ref qa3, .null])), (qn1, .inr (10, [.int 0, .ref (uu2 0), .ref (uu2 1), .ref (uu2 2), .ref (uu2 3), .ref (uu2 4), .ref (uu2 5), .ref (uu2 6)])), (qa3, .inl (cs 0, 150, .inl (fun _ => 0))), (qa4, .inl (cs 0, 40, .inl (fun _ => 0)))] := hD
  refine va_putF (D := D) (ci := 8) (v := .ref qa4) (ty := .array .int) (C := RX8) (T := TX8) (N := 4) hx hb hB cx_inX8 tyX8 tyX8_ok nmX8 hown hK hP hD hS 0 rfl rfl 3 (by decide) (hB _ cw_303) (fun _ h9 => h9) rfl hnm rfl (by decide +kernel) rfl rfl (Nat.le_of_ble_eq_true rfl) dX8_init_29 (fun H locs hP hD hS => ?_)
  have hP : va_P D vwCl [(ad0, .inr (8, [.ref qn1, .int 0, .ref qa3, .ref qa4])), (qn1, .inr (10, [.int 0, .ref (uu2 0), .ref (uu2 1), .ref (uu2 2), .ref (uu2 3), .ref (uu2 4), .ref (uu2 5), .ref (uu2 6)])), (qa3, .inl (cs 0, 150, .inl (fun _ => 0))), (qa4, .inl (cs 0, 40, .inl (fun _ => 0)))] H := hP
  have hD : va_D A [(ad0, .inr (8, [.ref qn1, .int 0, .ref qa3, .ref qa4])), (qn1, .inr (10, [.int 0, .ref (uu2 0), .ref (uu2 1), .ref (uu2 2), .ref (uu2 3), .ref (uu2 4), .ref (uu2 5), .ref (uu2 6)])), (qa3, .inl (cs 0, 150, .inl (fun _ => 0))), (qa4, .inl (cs 0, 40, .inl (fun _ => 0)))] := hD
  exact cx_vret hx hb hr hlocks hP hD hS (cx_uo []) [] rfl (by decide) (Nat.le_of_ble_eq_true rfl) (Nat.le_of_ble_eq_true rfl) dX8_init_32
set_option maxHeartbeats 4000000 in
set_option maxRecDepth 100000 in
theorem kX5_init (l : Launch) (D : va_G) (cs : Nat → ClassId) (ad0 : Nat) (sz : Nat) : Met l yX5_init (.code yX5_init cX5_init 1 none :: cx_big) { frames := 3, cells := 57, slots := 4452, locals := 52 } (cx_P D cs [.ref ad0] [(ad0, .inr (5, [.null, .null, .null, .null, .null, .null, .null, .null, .null, .null, .int 0, .null, .int 0, .null, .null]))] sz) (cx_Q D none (fun u => []) (va_A [(ad0, .inr (5, [.null, .null, .null, .null, .null, .null, .null, .null, .null, .null, .int 0, .null, .int 0, .null, .null]))] sz)) 57 4452 (va_A [(ad0, .inr (5, [.null, .null, .null, .null, .null, .null, .null, .null, .null, .null, .int 0, .null, .int 0, .null, .null]))] sz) := by
  refine cx_ofW (by decide) (Nat.le_of_ble_eq_true rfl) ?_
  intro p e s m below meth c A ls hx hb hr hml hB hown hlocks hnm hK hN hA hP hD hS hl
  have hown : s.vm.findClass "TreeMerge$Merging" = some m.cls := hown
  have hl : lv_has ls 1 [(0, .ref ad0)] := hl
  have hnm : meth.name = "<init>" := hnm
  have hS0 := hS
  refine lv_aload_n hx hb dX5_init_0 rfl (lv_at hl 0 rfl) ?_
  refine W.objInit hx hb hown (hB _ cw_290) (hB _ cw_26) (hB _ cw_27) rfl (by rw [hml]; exact hl.1) rfl dX5_init_1 (Nat.le_of_ble_eq_true rfl) (Nat.le_of_ble_eq_true rfl) ?_
  refine W.eq (g2 := F0 m 4 ls []) rfl ?_
  refine lv_aload_n hx hb dX5_init_4 rfl (lv_at hl 0 rfl) ?_
  refine va_new (ci := 8) (fs := [.null, .int 0, .null, .null]) (C := RX8) (T := TX8) (N := 4) hx hb hB cx_inX8 tyX8 tyX8_ok hown (hB _ cw_291) (hB _ cw_292) (hB _ cw_11) hK hP hD hS hA rfl cx_fsX8 (Nat.le_of_ble_eq_true rfl) (Nat.le_of_ble_eq_true rfl) dX5_init_5 (fun qn1 H hP hD hS => ?_)
  have hP : va_P D vwCl [(ad0, .inr (5, [.null, .null, .null, .null, .null, .null, .null, .null, .null, .null, .int 0, .null, .int 0, .null, .null])), (qn1, .inr (8, [.null, .int 0, .null, .null]))] H := hP
  have hD : va_D A [(ad0, .inr (5, [.null, .null, .null, .null, .null, .null, .null, .null, .null, .null, .int 0, .null, .int 0, .null, .null])), (qn1, .inr (8, [.null, .int 0, .null, .null]))] := hD
  refine lv_dup hx hb dX5_init_8 rfl ?_
  refine cx_IN (D := D) (cs := cs) (wc := [(qn1, .inr (8, [.null, .int 0, .null, .null]))]) (wr := [(ad0, .inr (5, [.null, .null, .null, .null, .null, .null, .null, .null, .null, .null, .int 0, .null, .int 0, .null, .null]))]) (v := none) (w1 := fun u => []) (As := []) (rest := [.ref qn1, .ref ad0]) (o := qn1) ⟨hx, hb, hml, hown, hB⟩ (fun sz => kX8_init l D cs qn1 sz) cw_295 cw_11 (by decide +kernel) cw_294 rfl rfl rfl (by decide +kernel) ⟨Nat.le_of_ble_eq_true rfl, Nat.le_of_ble_eq_true rfl⟩ hK hN hP hD hS hA [1] [0] rfl rfl (by decide) rfl hl.1 rfl (Nat.le_of_ble_eq_true rfl) dX5_init_9 ⟨Nat.le_of_ble_eq_true rfl, Nat.le_of_ble_eq_true rfl⟩ (fun uu2 H locs hP hD hS => ?_)
  refine W.eq (g2 := F0 m 12 ls [.ref qn1, .ref ad0]) rfl ?_
  have hP : va_P D vwCl [(ad0, .inr (5, [.null, .null, .null, .null, .null, .null, .null, .null, .null, .null, .int 0, .null, .int 0, .null, .null]))] H := hP
  have hD : va_D A [(ad0, .inr (5, [.null, .null, .null, .null, .null, .null, .null, .null, .null, .null, .int 0, .null, .int 0, .null, .null]))] := hD
  refine va_putF (D := D) (ci := 5) (v := .ref qn1) (ty := .object "TreeMerge$Side") (C := RX5) (T := TX5) (N := 15) hx hb hB cx_inX5 tyX5 tyX5_ok nmX5 hown hK hP hD hS 0 rfl rfl 0 (by decide) (hB _ cw_315) (fun _ h9 => h9) rfl hnm rfl (by decide +kernel) rfl rfl (Nat.le_of_ble_eq_true rfl) dX5_init_12 (fun H locs hP hD hS => ?_)
  have hP : va_P D vwCl [(ad0, .inr (5, [.ref qn1, .null, .null, .null, .null, .null, .null, .null, .null, .null, .int 0, .null, .int 0, .null, .null]))] H := hP
  have hD : va_D A [(ad0, .inr (5, [.ref qn1, .null, .null, .null, .null, .null, .null, .null, .null, .null, .int 0, .null, .int 0, .null, .null]))] := hD
  refine lv_aload_n hx hb dX5_init_15 rfl (lv_at hl 0 rfl) ?_
  refine va_new (ci := 8) (fs := [.null, .int 0, .null, .null]) (C := RX8) (T := TX8) (N := 4) hx hb hB cx_inX8 tyX8 tyX8_ok hown (hB _ cw_291) (hB _ cw_292) (hB _ cw_11) hK hP hD hS hA rfl cx_fsX8 (Nat.le_of_ble_eq_true rfl) (Nat.le_of_ble_eq_true rfl) dX5_init_16 (fun qn3 H hP hD hS => ?_)
  have hP : va_P D vwCl [(ad0, .inr (5, [.ref qn1, .null, .null, .null, .null, .null, .null, .null, .null, .null, .int 0, .null, .int 0, .null, .null])), (qn3, .inr (8, [.null, .int 0, .null, .null]))] H := hP
  have hD : va_D A [(ad0, .inr (5, [.ref qn1, .null, .null, .null, .null, .null, .null, .null, .null, .null, .int 0, .null, .int 0, .null, .null])), (qn3, .inr (8, [.null, .int 0, .null, .null]))] := hD
  refine lv_dup hx hb dX5_init_19 rfl ?_
  refine cx_IN (D := D) (cs := cs) (wc := [(qn3, .inr (8, [.null, .int 0, .null, .null]))]) (wr := [(ad0, .inr (5, [.ref qn1, .null, .null, .null, .null, .null, .null, .null, .null, .null, .int 0, .null, .int 0, .null, .null]))]) (v := none) (w1 := fun u => []) (As := []) (rest := [.ref qn3, .ref ad0]) (o := qn3) ⟨hx, hb, hml, hown, hB⟩ (fun sz => kX8_init l D cs qn3 sz) cw_295 cw_11 (by decide +kernel) cw_294 rfl rfl rfl (by decide +kernel) ⟨Nat.le_of_ble_eq_true rfl, Nat.le_of_ble_eq_true rfl⟩ hK hN hP hD hS hA [1] [0] rfl rfl (by decide) rfl hl.1 rfl (Nat.le_of_ble_eq_true rfl) dX5_init_20 ⟨Nat.le_of_ble_eq_true rfl, Nat.le_of_ble_eq_true rfl⟩ (fun uu4 H locs hP hD hS => ?_)
  refine W.eq (g2 := F0 m 23 ls [.ref qn3, .ref ad0]) rfl ?_
  have hP : va_P D vwCl [(ad0, .inr (5, [.ref qn1, .null, .null, .null, .null, .null, .null, .null, .null, .null, .int 0, .null, .int 0, .null, .null]))] H := hP
  have hD : va_D A [(ad0, .inr (5, [.ref qn1, .null, .null, .null, .null, .null, .null, .null, .null, .null, .int 0, .null, .int 0, .null, .null]))] := hD
  refine va_putF (D := D) (ci := 5) (v := .ref qn3) (ty := .object "TreeMerge$Side") (C := RX5) (T := TX5) (N := 15) hx hb hB cx_inX5 tyX5 tyX5_ok nmX5 hown hK hP hD hS 0 rfl rfl 1 (by decide) (hB _ cw_317) (fun _ h9 => h9) rfl hnm rfl (by decide +kernel) rfl rfl (Nat.le_of_ble_eq_true rfl) dX5_init_23 (fun H locs hP hD hS => ?_)
  have hP : va_P D vwCl [(ad0, .inr (5, [.ref qn1, .ref qn3, .null, .null, .null, .null, .null, .null, .null, .null, .int 0, .null, .int 0, .null, .null]))] H := hP
  have hD : va_D A [(ad0, .inr (5, [.ref qn1, .ref qn3, .null, .null, .null, .null, .null, .null, .null, .null, .int 0, .null, .int 0, .null, .null]))] := hD
  refine lv_aload_n hx hb dX5_init_26 rfl (lv_at hl 0 rfl) ?_
  refine va_new (ci := 8) (fs := [.null, .int 0, .null, .null]) (C := RX8) (T := TX8) (N := 4) hx hb hB cx_inX8 tyX8 tyX8_ok hown (hB _ cw_291) (hB _ cw_292) (hB _ cw_11) hK hP hD hS hA rfl cx_fsX8 (Nat.le_of_ble_eq_true rfl) (Nat.le_of_ble_eq_true rfl) dX5_init_27 (fun qn5 H hP hD hS => ?_)
  have hP : va_P D vwCl [(ad0, .inr (5, [.ref qn1, .ref qn3, .null, .null, .null, .null, .null, .null, .null, .null, .int 0, .null, .int 0, .null, .null])), (qn5, .inr (8, [.null, .int 0, .null, .null]))] H := hP
  have hD : va_D A [(ad0, .inr (5, [.ref qn1, .ref qn3, .null, .null, .null, .null, .null, .null, .null, .null, .int 0, .null, .int 0, .null, .null])), (qn5, .inr (8, [.null, .int 0, .null, .null]))] := hD
  refine lv_dup hx hb dX5_init_30 rfl ?_
  refine cx_IN (D := D) (cs := cs) (wc := [(qn5, .inr (8, [.null, .int 0, .null, .null]))]) (wr := [(ad0, .inr (5, [.ref qn1, .ref qn3, .null, .null, .null, .null, .null, .null, .null, .null, .int 0, .null, .int 0, .null, .null]))]) (v := none) (w1 := fun u => []) (As := []) (rest := [.ref qn5, .ref ad0]) (o := qn5) ⟨hx, hb, hml, hown, hB⟩ (fun sz => kX8_init l D cs qn5 sz) cw_295 cw_11 (by decide +kernel) cw_294 rfl rfl rfl (by decide +kernel) ⟨Nat.le_of_ble_eq_true rfl, Nat.le_of_ble_eq_true rfl⟩ hK hN hP hD hS hA [1] [0] rfl rfl (by decide) rfl hl.1 rfl (Nat.le_of_ble_eq_true rfl) dX5_init_31 ⟨Nat.le_of_ble_eq_true rfl, Nat.le_of_ble_eq_true rfl⟩ (fun uu6 H locs hP hD hS => ?_)
  refine W.eq (g2 := F0 m 34 ls [.ref qn5, .ref ad0]) rfl ?_
  have hP : va_P D vwCl [(ad0, .inr (5, [.ref qn1, .ref qn3, .null, .null, .null, .null, .null, .null, .null, .null, .int 0, .null, .int 0, .null, .null]))] H := hP
  have hD : va_D A [(ad0, .inr (5, [.ref qn1, .ref qn3, .null, .null, .null, .null, .null, .null, .null, .null, .int 0, .null, .int 0, .null, .null]))] := hD
  refine va_putF (D := D) (ci := 5) (v := .ref qn5) (ty := .object "TreeMerge$Side") (C := RX5) (T := TX5) (N := 15) hx hb hB cx_inX5 tyX5 tyX5_ok nmX5 hown hK hP hD hS 0 rfl rfl 2 (by decide) (hB _ cw_319) (fun _ h9 => h9) rfl hnm rfl (by decide +kernel) rfl rfl (Nat.le_of_ble_eq_true rfl) dX5_init_34 (fun H locs hP hD hS => ?_)
  have hP : va_P D vwCl [(ad0, .inr (5, [.ref qn1, .ref qn3, .ref qn5, .null, .null, .null, .null, .null, .null, .null, .int 0, .null, .int 0, .null, .null]))] H := hP
  have hD : va_D A [(ad0, .inr (5, [.ref qn1, .ref qn3, .ref qn5, .null, .null, .null, .null, .null, .null, .null, .int 0, .null, .int 0, .null, .null]))] := hD
  refine lv_aload_n hx hb dX5_init_37 rfl (lv_at hl 0 rfl) ?_
  refine va_new (ci := 10) (fs := [.int 0, .null, .null, .null, .null, .null, .null, .null]) (C := RX10) (T := TX10) (N := 8) hx hb hB cx_inX10 tyX10 tyX10_ok hown (hB _ cw_313) (hB _ cw_111) (hB _ cw_4) hK hP hD hS hA rfl cx_fsX10 (Nat.le_of_ble_eq_true rfl) (Nat.le_of_ble_eq_true rfl) dX5_init_38 (fun qn7 H hP hD hS => ?_)
  have hP : va_P D vwCl [(ad0, .inr (5, [.ref qn1, .ref qn3, .ref qn5, .null, .null, .null, .null, .null, .null, .null, .int 0, .null, .int 0, .null, .null])), (qn7, .inr (10, [.int 0, .null, .null, .null, .null, .null, .null, .null]))] H := hP
  have hD : va_D A [(ad0, .inr (5, [.ref qn1, .ref qn3, .ref qn5, .null, .null, .null, .null, .null, .null, .null, .int 0, .null, .int 0, .null, .null])), (qn7, .inr (10, [.int 0, .null, .null, .null, .null, .null, .null, .null]))] := hD
  refine lv_dup hx hb dX5_init_41 rfl ?_
  refine cx_IN (D := D) (cs := cs) (wc := [(qn7, .inr (10, [.int 0, .null, .null, .null, .null, .null, .null, .null]))]) (wr := [(ad0, .inr (5, [.ref qn1, .ref qn3, .ref qn5, .null, .null, .null, .null, .null, .null, .null, .int 0, .null, .int 0, .null, .null]))]) (v := none) (w1 := fun u => [(qn7, .inr (10, [.int 0, .ref (u 0), .ref (u 1), .ref (u 2), .ref (u 3), .ref (u 4), .ref (u 5), .ref (u 6)]))]) (As := []) (rest := [.ref qn7, .ref ad0]) (o := qn7) ⟨hx, hb, hml, hown, hB⟩ (fun sz => kX10_init l D cs qn7 sz) cw_114 cw_4 (by decide +kernel) cw_113 rfl rfl rfl (by decide +kernel) ⟨Nat.le_of_ble_eq_true rfl, Nat.le_of_ble_eq_true rfl⟩ hK hN hP hD hS hA [1] [0] rfl rfl (by decide) rfl hl.1 rfl (Nat.le_of_ble_eq_true rfl) dX5_init_42 ⟨Nat.le_of_ble_eq_true rfl, Nat.le_of_ble_eq_true rfl⟩ (fun uu8 H locs hP hD hS => ?_)
  refine W.eq (g2 := F0 m 45 ls [.ref qn7, .ref ad0]) rfl ?_
  have hP : va_P D vwCl [(ad0, .inr (5, [.ref qn1, .ref qn3, .ref qn5, .null, .null, .null, .null, .null, .null, .null, .int 0, .null, .int 0, .null, .null])), (qn7, .inr (10, [.int 0, .ref (uu8 0), .ref (uu8 1), .ref (uu8 2), .ref (uu8 3), .ref (uu8 4), .ref (uu8 5), .ref (uu8 6)]))] H := hP
  have hD : va_D A [(ad0, .inr (5, [.ref qn1, .ref qn3, .ref qn5, .null, .null, .null, .null, .null, .null, .null, .int 0, .null, .int 0, .null, .null])), (qn7, .inr (10, [.int 0, .ref (uu8 0), .ref (uu8 1), .ref (uu8 2), .ref (uu8 3), .ref (uu8 4), .ref (uu8 5), .ref (uu8 6)]))] := hD
  refine va_putF (D := D) (ci := 5) (v := .ref qn7) (ty := .object "TreeMerge$Tree") (C := RX5) (T := TX5) (N := 15) hx hb hB cx_inX5 tyX5 tyX5_ok nmX5 hown hK hP hD hS 0 rfl rfl 3 (by decide) (hB _ cw_321) (fun _ h9 => h9) rfl hnm rfl (by decide +kernel) rfl rfl (Nat.le_of_ble_eq_true rfl) dX5_init_45 (fun H locs hP hD hS => ?_)
  have hP : va_P D vwCl [(ad0, .inr (5, [.ref qn1, .ref qn3, .ref qn5, .ref qn7, .null, .null, .null, .null, .null, .null, .int 0, .null, .int 0, .null, .null])), (qn7, .inr (10, [.int 0, .ref (uu8 0), .ref (uu8 1), .ref (uu8 2), .ref (uu8 3), .ref (uu8 4), .ref (uu8 5), .ref (uu8 6)]))] H := hP
  have hD : va_D A [(ad0, .inr (5, [.ref qn1, .ref qn3, .ref qn5, .ref qn7, .null, .null, .null, .null, .null, .null, .int 0, .null, .int 0, .null, .null])), (qn7, .inr (10, [.int 0, .ref (uu8 0), .ref (uu8 1), .ref (uu8 2), .ref (uu8 3), .ref (uu8 4), .ref (uu8 5), .ref (uu8 6)]))] := hD
  refine lv_aload_n hx hb dX5_init_48 rfl (lv_at hl 0 rfl) ?_
  refine va_new (ci := 10) (fs := [.int 0, .null, .null, .null, .null, .null, .null, .null]) (C := RX10) (T := TX10) (N := 8) hx hb hB cx_inX10 tyX10 tyX10_ok hown (hB _ cw_313) (hB _ cw_111) (hB _ cw_4) hK hP hD hS hA rfl cx_fsX10 (Nat.le_of_ble_eq_true rfl) (Nat.le_of_ble_eq_true rfl) dX5_init_49 (fun qn9 H hP hD hS => ?_)
  have hP : va_P D vwCl [(ad0, .inr (5, [.ref qn1, .ref qn3, .ref qn5, .ref qn7, .null, .null, .null, .null, .null, .null, .int 0, .null, .int 0, .null, .null])), (qn7, .inr (10, [.int 0, .ref (uu8 0), .ref (uu8 1), .ref (uu8 2), .ref (uu8 3), .ref (uu8 4), .ref (uu8 5), .ref (uu8 6)])), (qn9, .inr (10, [.int 0, .null, .null, .null, .null, .null, .null, .null]))] H := hP
  have hD : va_D A [(ad0, .inr (5, [.ref qn1, .ref qn3, .ref qn5, .ref qn7, .null, .null, .null, .null, .null, .null, .int 0, .null, .int 0, .null, .null])), (qn7, .inr (10, [.int 0, .ref (uu8 0), .ref (uu8 1), .ref (uu8 2), .ref (uu8 3), .ref (uu8 4), .ref (uu8 5), .ref (uu8 6)])), (qn9, .inr (10, [.int 0, .null, .null, .null, .null, .null, .null, .null]))] := hD
  refine lv_dup hx hb dX5_init_52 rfl ?_
  refine cx_IN (D := D) (cs := cs) (wc := [(qn9, .inr (10, [.int 0, .null, .null, .null, .null, .null, .null, .null]))]) (wr := [(ad0, .inr (5, [.ref qn1, .ref qn3, .ref qn5, .ref qn7, .null, .null, .null, .null, .null, .null, .int 0, .null, .int 0, .null, .null])), (qn7, .inr (10, [.int 0, .ref (uu8 0), .ref (uu8 1), .ref (uu8 2), .ref (uu8 3), .ref (uu8 4), .ref (uu8 5), .ref (uu8 6)]))]) (v := none) (w1 := fun u => [(qn9, .inr (10, [.int 0, .ref (u 0), .ref (u 1), .ref (u 2), .ref (u 3), .ref (u 4), .ref (u 5), .ref (u 6)]))]) (As := []) (rest := [.ref qn9, .ref ad0]) (o := qn9) ⟨hx, hb, hml, hown, hB⟩ (fun sz => kX10_init l D cs qn9 sz) cw_114 cw_4 (by decide +kernel) cw_113 rfl rfl rfl (by decide +kernel) ⟨Nat.le_of_ble_eq_true rfl, Nat.le_of_ble_eq_true rfl⟩ hK hN hP hD hS hA [2] [0, 1] rfl rfl (by decide) rfl hl.1 rfl (Nat.le_of_ble_eq_true rfl) dX5_init_53 ⟨Nat.le_of_ble_eq_true rfl, Nat.le_of_ble_eq_true rfl⟩ (fun uu10 H locs hP hD hS => ?_)
  refine W.eq (g2 := F0 m 56 ls [.ref qn9, .ref ad0]) rfl ?_
  have hP : va_P D vwCl [(ad0, .inr (5, [.ref qn1, .ref qn3, .ref qn5, .ref qn7, .null, .null, .null, .null, .null, .null, .int 0, .null, .int 0, .null, .null])), (qn7, .inr (10, [.int 0, .ref (uu8 0), .ref (uu8 1), .ref (uu8 2), .ref (uu8 3), .ref (uu8 4), .ref (uu8 5), .ref (uu8 6)])), (qn9, .inr (10, [.int 0, .ref (uu10 0), .ref (uu10 1), .ref (uu10 2), .ref (uu10 3), .ref (uu10 4), .ref (uu10 5), .ref (uu10 6)]))] H := hP
  have hD : va_D A [(ad0, .inr (5, [.ref qn1, .ref qn3, .ref qn5, .ref qn7, .null, .null, .null, .null, .null, .null, .int 0, .null, .int 0, .null, .null])), (qn7, .inr (10, [.int 0, .ref (uu8 0), .ref (uu8 1), .ref (uu8 2), .ref (uu8 3), .ref (uu8 4), .ref (uu8 5), .ref (uu8 6)])), (qn9, .inr (10, [.int 0, .ref (uu10 0), .ref (uu10 1), .ref (uu10 2), .ref (uu10 3), .ref (uu10 4), .ref (uu10 5), .ref (uu10 6)]))] := hD
  refine va_putF (D := D) (ci := 5) (v := .ref qn9) (ty := .object "TreeMerge$Tree") (C := RX5) (T := TX5) (N := 15) hx hb hB cx_inX5 tyX5 tyX5_ok nmX5 hown hK hP hD hS 0 rfl rfl 4 (by decide) (hB _ cw_323) (fun _ h9 => h9) rfl hnm rfl (by decide +kernel) rfl rfl (Nat.le_of_ble_eq_true rfl) dX5_init_56 (fun H locs hP hD hS => ?_)
  have hP : va_P D vwCl [(ad0, .inr (5, [.ref qn1, .ref qn3, .ref qn5, .ref qn7, .ref qn9, .null, .null, .null, .null, .null, .int 0, .null, .int 0, .null, .null])), (qn7, .inr (10, [.int 0, .ref (uu8 0), .ref (uu8 1), .ref (uu8 2), .ref (uu8 3), .ref (uu8 4), .ref (uu8 5), .ref (uu8 6)])), (qn9, .inr (10, [.int 0, .ref (uu10 0), .ref (uu10 1), .ref (uu10 2), .ref (uu10 3), .ref (uu10 4), .ref (uu10 5), .ref (uu10 6)]))] H := hP
  have hD : va_D A [(ad0, .inr (5, [.ref qn1, .ref qn3, .ref qn5, .ref qn7, .ref qn9, .null, .null, .null, .null, .null, .int 0, .null, .int 0, .null, .null])), (qn7, .inr (10, [.int 0, .ref (uu8 0), .ref (uu8 1), .ref (uu8 2), .ref (uu8 3), .ref (uu8 4), .ref (uu8 5), .ref (uu8 6)])), (qn9, .inr (10, [.int 0, .ref (uu10 0), .ref (uu10 1), .ref (uu10 2), .ref (uu10 3), .ref (uu10 4), .ref (uu10 5), .ref (uu10 6)]))] := hD
  refine lv_aload_n hx hb dX5_init_59 rfl (lv_at hl 0 rfl) ?_
  refine lv_sipush (v := 150) hx hb dX5_init_60 (by decide) ?_
  refine cx_newa (cs := cs) (atype := .int) (ty := .int) (a0 := (150, .inl (fun _ => 0))) hx hb hB cw_59 rfl cx_ra_int 0 rfl hK hP hD hS hA (fun _ => rfl) (by decide) (by decide) (Nat.le_of_ble_eq_true rfl) (Nat.le_of_ble_eq_true rfl) (Nat.le_of_ble_eq_true rfl) dX5_init_63 (fun qa11 H hP hD hS => ?_)
  have hP : va_P D vwCl [(ad0, .inr (5, [.ref qn1, .ref qn3, .ref qn5, .ref qn7, .ref qn9, .null, .null, .null, .null, .null, .int 0, .null, .int 0, .null, .null])), (qn7, .inr (10, [.int 0, .ref (uu8 0), .ref (uu8 1), .ref (uu8 2), .ref (uu8 3), .ref (uu8 4), .ref (uu8 5), .ref (uu8 6)])), (qn9, .inr (10, [.int 0, .ref (uu10 0), .ref (uu10 1), .ref (uu10 2), .ref (uu10 3), .ref (uu10 4), .ref (uu10 5), .ref (uu10 6)])), (qa11, .inl (cs 0, 150, .inl (fun _ => 0)))] H := hP
  have hD : va_D A [(ad0, .inr (5, [.ref qn1, .ref qn3, .ref qn5, .ref qn7, .ref qn9, .null, .null, .null, .null, .null, .int 0, .null, .int 0, .null, .null])), (qn7, .inr (10, [.int 0, .ref (uu8 0), .ref (uu8 1), .ref (uu8 2), .ref (uu8 3), .ref (uu8 4), .ref (uu8 5), .ref (uu8 6)])), (qn9, .inr (10, [.int 0, .ref (uu10 0), .ref (uu10 1), .ref (uu10 2), .ref (uu10 3), .ref (uu10 4), .ref (uu10 5), .ref (uu10 6)])), (qa11, .inl (cs 0, 150, .inl (fun _ => 0)))] := hD
  refine va_putF (D := D) (ci := 5) (v := .ref qa11) (ty := .array .int) (C := RX5) (T := TX5) (N := 15) hx hb hB cx_inX5 tyX5 tyX5_ok nmX5 hown hK hP hD hS 0 rfl rfl 5 (by decide) (hB _ cw_324) (fun _ h9 => h9) rfl hnm rfl (by decide +kernel) rfl rfl (Nat.le_of_ble_eq_true rfl) dX5_init_65 (fun H locs hP hD hS => ?_)
  have hP : va_P D vwCl [(ad0, .inr (5, [.ref qn1, .ref qn3, .ref qn5, .ref qn7, .ref qn9, .ref qa11, .null, .null, .null, .null, .int 0, .null, .int 0, .null, .null])), (qn7, .inr (10, [.int 0, .ref (uu8 0), .ref (uu8 1), .ref (uu8 2), .ref (uu8 3), .ref (uu8 4), .ref (uu8 5), .ref (uu8 6)])), (qn9, .inr (10, [.int 0, .ref (uu10 0), .ref (uu10 1), .ref (uu10 2), .ref (uu10 3), .ref (uu10 4), .ref (uu10 5), .ref (uu10 6)])), (qa11, .inl (cs 0, 150, .inl (fun _ => 0)))] H := hP
  have hD : va_D A [(ad0, .inr (5, [.ref qn1, .ref qn3, .ref qn5, .ref qn7, .ref qn9, .ref qa11, .null, .null, .null, .null, .int 0, .null, .int 0, .null, .null])), (qn7, .inr (10, [.int 0, .ref (uu8 0), .ref (uu8 1), .ref (uu8 2), .ref (uu8 3), .ref (uu8 4), .ref (uu8 5), .ref (uu8 6)])), (qn9, .inr (10, [.int 0, .ref (uu10 0), .ref (uu10 1), .ref (uu10 2), .ref (uu10 3), .ref (uu10 4), .ref (uu10 5), .ref (uu10 6)])), (qa11, .inl (cs 0, 150, .inl (fun _ => 0)))] := hD
  refine lv_aload_n hx hb dX5_init_68 rfl (lv_at hl 0 rfl) ?_
  refine lv_sipush (v := 150) hx hb dX5_init_69 (by decide) ?_
  refine cx_newa (cs := cs) (atype := .int) (ty := .int) (a0 := (150, .inl (fun _ => 0))) hx hb hB cw_59 rfl cx_ra_int 0 rfl hK hP hD hS hA (fun _ => rfl) (by decide) (by decide) (Nat.le_of_ble_eq_true rfl) (Nat.le_of_ble_eq_true rfl) (Nat.le_of_ble_eq_true rfl) dX5_init_72 (fun qa12 H hP hD hS => ?_)
  have hP : va_P D vwCl [(ad0, .inr (5, [.ref qn1, .ref qn3, .ref qn5, .ref qn7, .ref qn9, .ref qa11, .null, .null, .null, .null, .int 0, .null, .int 0, .null, .null])), (qn7, .inr (10, [.int 0, .ref (uu8 0), .ref (uu8 1), .ref (uu8 2), .ref (uu8 3), .ref (uu8 4), .ref (uu8 5), .ref (uu8 6)])), (qn9, .inr (10, [.int 0, .ref (uu10 0), .ref (uu10 1), .ref (uu10 2), .ref (uu10 3), .ref (uu10 4), .ref (uu10 5), .ref (uu10 6)])), (qa11, .inl (cs 0, 150, .inl (fun _ => 0))), (qa12, .inl (cs 0, 150, .inl (fun _ => 0)))] H := hP
  have hD : va_D A [(ad0, .inr (5, [.ref qn1, .ref qn3, .ref qn5, .ref qn7, .ref qn9, .ref qa11, .null, .null, .null, .null, .int 0, .null, .int 0, .null, .null])), (qn7, .inr (10, [.int 0, .ref (uu8 0), .ref (uu8 1), .ref (uu8 2), .ref (uu8 3), .ref (uu8 4), .ref (uu8 5), .ref (uu8 6)])), (qn9, .inr (10, [.int 0, .ref (uu10 0), .ref (uu10 1), .ref (uu10 2), .ref (uu10 3), .ref (uu10 4), .ref (uu10 5), .ref (uu10 6)])), (qa11, .inl (cs 0, 150, .inl (fun _ => 0))), (qa12, .inl (cs 0, 150, .inl (fun _ => 0)))] := hD
  refine va_putF (D := D) (ci := 5) (v := .ref qa12) (ty := .array .int) (C := RX5) (T := TX5) (N := 15) hx hb hB cx_inX5 tyX5 tyX5_ok nmX5 hown hK hP hD hS 0 rfl rfl 6 (by decide) (hB _ cw_325) (fun _ h9 => h9) rfl hnm rfl (by decide +kernel) rfl rfl (Nat.le_of_ble_eq_true rfl) dX5_init_74 (fun H locs hP hD hS => ?_)
  have hP : va_P D vwCl [(ad0, .inr (5, [.ref qn1, .ref qn3, .ref qn5, .ref qn7, .ref qn9, .ref qa11, .ref qa12, .null, .null, .null, .int 0, .null, .int 0, .null, .null])), (qn7, .inr (10, [.int 0, .ref (uu8 0), .ref (uu8 1), .ref (uu8 2), .ref (uu8 3), .ref (uu8 4), .ref (uu8 5), .ref (uu8 6)])), (qn9, .inr (10, [.int 0, .ref (uu10 0), .ref (uu10 1), .ref (uu10 2), .ref (uu10 3), .ref (uu10 4), .ref (uu10 5), .ref (uu10 6)])), (qa11, .inl (cs 0, 150, .inl (fun _ => 0))), (qa12, .inl (cs 0, 150, .inl (fun _ => 0)))] H := hP
  have hD : va_D A [(ad0, .inr (5, [.ref qn1, .ref qn3, .ref qn5, .ref qn7, .ref qn9, .ref qa11, .ref qa12, .null, .null, .null, .int 0, .null, .int 0, .null, .null])), (qn7, .inr (10, [.int 0, .ref (uu8 0), .ref (uu8 1), .ref (uu8 2), .ref (uu8 3), .ref (uu8 4), .ref (uu8 5), .ref (uu8 6)])), (qn9, .inr (10, [.int 0, .ref (uu10 0), .ref (uu10 1), .ref (uu10 2), .ref (uu10 3), .ref (uu10 4), .ref (uu10 5), .ref (uu10 6)])), (qa11, .inl (cs 0, 150, .inl (fun _ => 0))), (qa12, .inl (cs 0, 150, .inl (fun _ => 0)))] := hD
  refine lv_aload_n hx hb dX5_init_77 rfl (lv_at hl 0 rfl) ?_
  refine lv_sipush (v := 150) hx hb dX5_init_78 (by decide) ?_
  refine cx_newa (cs := cs) (atype := .int) (ty := .int) (a0 := (150, .inl (fun _ => 0))) hx hb hB cw_59 rfl cx_ra_int 0 rfl hK hP hD hS hA (fun _ => rfl) (by decide) (by decide) (Nat.le_of_ble_eq_true rfl) (Nat.le_of_ble_eq_true rfl) (Nat.le_of_ble_eq_true rfl) dX5_init_81 (fun qa13 H hP hD hS => ?_)
  have hP : va_P D vwCl [(ad0, .inr (5, [.ref qn1, .ref qn3, .ref qn5, .ref qn7, .ref qn9, .ref qa11, .ref qa12, .null, .null, .null, .int 0, .null, .int 0, .null, .null])), (qn7, .inr (10, [.int 0, .ref (uu8 0), .ref (uu8 1), .ref (uu8 2), .ref (uu8 3), .ref (uu8 4), .ref (uu8 5), .ref (uu8 6)])), (qn9, .inr (10, [.int 0, .ref (uu10 0), .ref (uu10 1), .ref (uu10 2), .ref (uu10 3), .ref (uu10 4), .ref (uu10 5), .ref (uu10 6)])), (qa11, .inl (cs 0, 150, .inl (fun _ => 0))), (qa12, .inl (cs 0, 150, .inl (fun _ => 0))), (qa13, .inl (cs 0, 150, .inl (fun _ => 0)))] H := hP
  have hD : va_D A [(ad0, .inr (5, [.ref qn1, .ref qn3, .ref qn5, .ref qn7, .ref qn9, .ref qa11, .ref qa12, .null, .null, .null, .int 0, .null, .int 0, .null, .null])), (qn7, .inr (10, [.int 0, .ref (uu8 0), .ref (uu8 1), .ref (uu8 2), .ref (uu8 3), .ref (uu8 4), .ref (uu8 5), .ref (uu8 6)])), (qn9, .inr (10, [.int 0, .ref (uu10 0), .ref (uu10 1), .ref (uu10 2), .ref (uu10 3), .ref (uu10 4), .ref (uu10 5), .ref (uu10 6)])), (qa11, .inl (cs 0, 150, .inl (fun _ => 0))), (qa12, .inl (cs 0, 150, .inl (fun _ => 0))), (qa13, .inl (cs 0, 150, .inl (fun _ => 0)))] := hD
  refine va_putF (D := D) (ci := 5) (v := .ref qa13) (ty := .array .int) (C := RX5) (T := TX5) (N := 15) hx hb hB cx_inX5 tyX5 tyX5_ok nmX5 hown hK hP hD hS 0 rfl rfl 7 (by decide) (hB _ cw_326) (fun _ h9 => h9) rfl hnm rfl (by decide +kernel) rfl rfl (Nat.le_of_ble_eq_true rfl) dX5_init_83 (fun H locs hP hD hS => ?_)
  have hP : va_P D vwCl [(ad0, .inr (5, [.ref qn1, .ref qn3, .ref qn5, .ref qn7, .ref qn9, .ref qa11, .ref qa12, .ref qa13, .null, .null, .int 0, .null, .int 0, .null, .null])), (qn7, .inr (10, [.int 0, .ref (uu8 0), .ref (uu8 1), .ref (uu8 2), .ref (uu8 3), .ref (uu8 4), .ref (uu8 5), .ref (uu8 6)])), (qn9, .inr (10, [.int 0, .ref (uu10 0), .ref (uu10 1), .ref (uu10 2), .ref (uu10 3), .ref (uu10 4), .ref (uu10 5), .ref (uu10 6)])), (qa11, .inl (cs 0, 150, .inl (fun _ => 0))), (qa12, .inl (cs 0, 150, .inl (fun _ => 0))), (qa13, .inl (cs 0, 150, .inl (fun _ => 0)))] H := hP
  have hD : va_D A [(ad0, .inr (5, [.ref qn1, .ref qn3, .ref qn5, .ref qn7, .ref qn9, .ref qa11, .ref qa12, .ref qa13, .null, .null, .int 0, .null, .int 0, .null, .null])), (qn7, .inr (10, [.int 0, .ref (uu8 0), .ref (uu8 1), .ref (uu8 2), .ref (uu8 3), .ref (uu8 4), .ref (uu8 5), .ref (uu8 6)])), (qn9, .inr (10, [.int 0, .ref (uu10 0), .ref (uu10 1), .ref (uu10 2), .ref (uu10 3), .ref (uu10 4), .ref (uu10 5), .ref (uu10 6)])), (qa11, .inl (cs 0, 150, .inl (fun _ => 0))), (qa12, .inl (cs 0, 150, .inl (fun _ => 0))), (qa13, .inl (cs 0, 150, .inl (fun _ => 0)))] := hD
  refine lv_aload_n hx hb dX5_init_86 rfl (lv_at hl 0 rfl) ?_
  refine lv_sipush (v := 150) hx hb dX5_init_87 (by decide) ?_
  refine cx_newa (cs := cs) (atype := .int) (ty := .int) (a0 := (150, .inl (fun _ => 0))) hx hb hB cw_59 rfl cx_ra_int 0 rfl hK hP hD hS hA (fun _ => rfl) (by decide) (by decide) (Nat.le_of_ble_eq_true rfl) (Nat.le_of_ble_eq_true rfl) (Nat.le_of_ble_eq_true rfl) dX5_init_90 (fun qa14 H hP hD hS => ?_)
  have hP : va_P D vwCl [(ad0, .inr (5, [.ref qn1, .ref qn3, .ref qn5, .ref qn7, .ref qn9, .ref qa11, .ref qa12, .ref qa13, .null, .null, .int 0, .null, .int 0, .null, .null])), (qn7, .inr (10, [.int 0, .ref (uu8 0), .ref (uu8 1), .ref (uu8 2), .ref (uu8 3), .ref (uu8 4), .ref (uu8 5), .ref (uu8 6)])), (qn9, .inr (10, [.int 0, .ref (uu10 0), .ref (uu10 1), .ref (uu10 2), .ref (uu10 3), .ref (uu10 4), .ref (uu10 5), .ref (uu10 6)])), (qa11, .inl (cs 0, 150, .inl (fun _ => 0))), (qa12, .inl (cs 0, 150, .inl (fun _ => 0))), (qa13, .inl (cs 0, 150, .inl (fun _ => 0))), (qa14, .inl (cs 0, 150, .inl (fun _ => 0)))] H := hP
  have hD : va_D A [(ad0, .inr (5, [.ref qn1, .ref qn3, .ref qn5, .ref qn7, .ref qn9, .ref qa11, .ref qa12, .ref qa13, .null, .null, .int 0, .null, .int 0, .null, .null])), (qn7, .inr (10, [.int 0, .ref (uu8 0), .ref (uu8 1), .ref (uu8 2), .ref (uu8 3), .ref (uu8 4), .ref (uu8 5), .ref (uu8 6)])), (qn9, .inr (10, [.int 0, .ref (uu10 0), .ref (uu10 1), .ref (uu10 2), .ref (uu10 3), .ref (uu10 4), .ref (uu10 5), .ref (uu10 6)])), (qa11, .inl (cs 0, 150, .inl (fun _ => 0))), (qa12, .inl (cs 0, 150, .inl (fun _ => 0))), (qa13, .inl (cs 0, 150, .inl (fun _ => 0))), (qa14, .inl (cs 0, 150, .inl (fun _ => 0)))] := hD
  refine va_putF (D := D) (ci := 5) (v := .ref qa14) (ty := .array .int) (C := RX5) (T := TX5) (N := 15) hx hb hB cx_inX5 tyX5 tyX5_ok nmX5 hown hK hP hD hS 0 rfl rfl 8 (by decide) (hB _ cw_327) (fun _ h9 => h9) rfl hnm rfl (by decide +kernel) rfl rfl (Nat.le_of_ble_eq_true rfl) dX5_init_92 (fun H locs hP hD hS => ?_)
  have hP : va_P D vwCl [(ad0, .inr (5, [.ref qn1, .ref qn3, .ref qn5, .ref qn7, .ref qn9, .ref qa11, .ref qa12, .ref qa13, .ref qa14, .null, .int 0, .null, .int 0, .null, .null])), (qn7, .inr (10, [.int 0, .ref (uu8 0), .ref (uu8 1), .ref (uu8 2), .ref (uu8 3), .ref (uu8 4), .ref (uu8 5), .ref (uu8 6)])), (qn9, .inr (10, [.int 0, .ref (uu10 0), .ref (uu10 1), .ref (uu10 2), .ref (uu10 3), .ref (uu10 4), .ref (uu10 5), .ref (uu10 6)])), (qa11, .inl (cs 0, 150, .inl (fun _ => 0))), (qa12, .inl (cs 0, 150, .inl (fun _ => 0))), (qa13, .inl (cs 0, 150, .inl (fun _ => 0))), (qa14, .inl (cs 0, 150, .inl (fun _ => 0)))] H := hP
  have hD : va_D A [(ad0, .inr (5, [.ref qn1, .ref qn3, .ref qn5, .ref qn7, .ref qn9, .ref qa11, .ref qa12, .ref qa13, .ref qa14, .null, .int 0, .null, .int 0, .null, .null])), (qn7, .inr (10, [.int 0, .ref (uu8 0), .ref (uu8 1), .ref (uu8 2), .ref (uu8 3), .ref (uu8 4), .ref (uu8 5), .ref (uu8 6)])), (qn9, .inr (10, [.int 0, .ref (uu10 0), .ref (uu10 1), .ref (uu10 2), .ref (uu10 3), .ref (uu10 4), .ref (uu10 5), .ref (uu10 6)])), (qa11, .inl (cs 0, 150, .inl (fun _ => 0))), (qa12, .inl (cs 0, 150, .inl (fun _ => 0))), (qa13, .inl (cs 0, 150, .inl (fun _ => 0))), (qa14, .inl (cs 0, 150, .inl (fun _ => 0)))] := hD
  refine lv_aload_n hx hb dX5_init_95 rfl (lv_at hl 0 rfl) ?_
  refine lv_sipush (v := 150) hx hb dX5_init_96 (by decide) ?_
  refine cx_newa (cs := cs) (atype := .long) (ty := .long) (a0 := (150, .inr (.inl (fun _ => 0)))) hx hb hB cw_170 rfl cx_ra_long 1 rfl hK hP hD hS hA (fun _ => rfl) (by decide) (by decide) (Nat.le_of_ble_eq_true rfl) (Nat.le_of_ble_eq_true rfl) (Nat.le_of_ble_eq_true rfl) dX5_init_99 (fun qa15 H hP hD hS => ?_)
  have hP : va_P D vwCl [(ad0, .inr (5, [.ref qn1, .ref qn3, .ref qn5, .ref qn7, .ref qn9, .ref qa11, .ref qa12, .ref qa13, .ref qa14, .null, .int 0, .null, .int 0, .null, .null])), (qn7, .inr (10, [.int 0, .ref (uu8 0), .ref (uu8 1), .ref (uu8 2), .ref (uu8 3), .ref (uu8 4), .ref (uu8 5), .ref (uu8 6)])), (qn9, .inr (10, [.int 0, .ref (uu10 0), .ref (uu10 1), .ref (uu10 2), .ref (uu10 3), .ref (uu10 4), .ref (uu10 5), .ref (uu10 6)])), (qa11, .inl (cs 0, 150, .inl (fun _ => 0))), (qa12, .inl (cs 0, 150, .inl (fun _ => 0))), (qa13, .inl (cs 0, 150, .inl (fun _ => 0))), (qa14, .inl (cs 0, 150, .inl (fun _ => 0))), (qa15, .inl (cs 1, 150, .inr (.inl (fun _ => 0))))] H := hP
  have hD : va_D A [(ad0, .inr (5, [.ref qn1, .ref qn3, .ref qn5, .ref qn7, .ref qn9, .ref qa11, .ref qa12, .ref qa13, .ref qa14, .null, .int 0, .null, .int 0, .null, .null])), (qn7, .inr (10, [.int 0, .ref (uu8 0), .ref (uu8 1), .ref (uu8 2), .ref (uu8 3), .ref (uu8 4), .ref (uu8 5), .ref (uu8 6)])), (qn9, .inr (10, [.int 0, .ref (uu10 0), .ref (uu10 1), .ref (uu10 2), .ref (uu10 3), .ref (uu10 4), .ref (uu10 5), .ref (uu10 6)])), (qa11, .inl (cs 0, 150, .inl (fun _ => 0))), (qa12, .inl (cs 0, 150, .inl (fun _ => 0))), (qa13, .inl (cs 0, 150, .inl (fun _ => 0))), (qa14, .inl (cs 0, 150, .inl (fun _ => 0))), (qa15, .inl (cs 1, 150, .inr (.inl (fun _ => 0))))] := hD
  refine va_putF (D := D) (ci := 5) (v := .ref qa15) (ty := .array .long) (C := RX5) (T := TX5) (N := 15) hx hb hB cx_inX5 tyX5 tyX5_ok nmX5 hown hK hP hD hS 0 rfl rfl 9 (by decide) (hB _ cw_328) (fun _ h9 => h9) rfl hnm rfl (by decide +kernel) rfl rfl (Nat.le_of_ble_eq_true rfl) dX5_init_101 (fun H locs hP hD hS => ?_)
  have hP : va_P D vwCl [(ad0, .inr (5, [.ref qn1, .ref qn3, .ref qn5, .ref qn7, .ref qn9, .ref qa11, .ref qa12, .ref qa13, .ref qa14, .ref qa15, .int 0, .null, .int 0, .null, .null])), (qn7, .inr (10, [.int 0, .ref (uu8 0), .ref (uu8 1), .ref (uu8 2), .ref (uu8 3), .ref (uu8 4), .ref (uu8 5), .ref (uu8 6)])), (qn9, .inr (10, [.int 0, .ref (uu10 0), .ref (uu10 1), .ref (uu10 2), .ref (uu10 3), .ref (uu10 4), .ref (uu10 5), .ref (uu10 6)])), (qa11, .inl (cs 0, 150, .inl (fun _ => 0))), (qa12, .inl (cs 0, 150, .inl (fun _ => 0))), (qa13, .inl (cs 0, 150, .inl (fun _ => 0))), (qa14, .inl (cs 0, 150, .inl (fun _ => 0))), (qa15, .inl (cs 1, 150, .inr (.inl (fun _ => 0))))] H := hP
  have hD : va_D A [(ad0, .inr (5, [.ref qn1, .ref qn3, .ref qn5, .ref qn7, .ref qn9, .ref qa11, .ref qa12, .ref qa13, .ref qa14, .ref qa15, .int 0, .null, .int 0, .null, .null])), (qn7, .inr (10, [.int 0, .ref (uu8 0), .ref (uu8 1), .ref (uu8 2), .ref (uu8 3), .ref (uu8 4), .ref (uu8 5), .ref (uu8 6)])), (qn9, .inr (10, [.int 0, .ref (uu10 0), .ref (uu10 1), .ref (uu10 2), .ref (uu10 3), .ref (uu10 4), .ref (uu10 5), .ref (uu10 6)])), (qa11, .inl (cs 0, 150, .inl (fun _ => 0))), (qa12, .inl (cs 0, 150, .inl (fun _ => 0))), (qa13, .inl (cs 0, 150, .inl (fun _ => 0))), (qa14, .inl (cs 0, 150, .inl (fun _ => 0))), (qa15, .inl (cs 1, 150, .inr (.inl (fun _ => 0))))] := hD
  refine lv_aload_n hx hb dX5_init_104 rfl (lv_at hl 0 rfl) ?_
  refine lv_bipush (v := 40) hx hb dX5_init_105 (by decide) ?_
  refine cx_newa (cs := cs) (atype := .int) (ty := .int) (a0 := (40, .inl (fun _ => 0))) hx hb hB cw_59 rfl cx_ra_int 0 rfl hK hP hD hS hA (fun _ => rfl) (by decide) (by decide) (Nat.le_of_ble_eq_true rfl) (Nat.le_of_ble_eq_true rfl) (Nat.le_of_ble_eq_true rfl) dX5_init_107 (fun qa16 H hP hD hS => ?_)
  have hP : va_P D vwCl [(ad0, .inr (5, [.ref qn1, .ref qn3, .ref qn5, .ref qn7, .ref qn9, .ref qa11, .ref qa12, .ref qa13, .ref qa14, .ref qa15, .int 0, .null, .int 0, .null, .null])), (qn7, .inr (10, [.int 0, .ref (uu8 0), .ref (uu8 1), .ref (uu8 2), .ref (uu8 3), .ref (uu8 4), .ref (uu8 5), .ref (uu8 6)])), (qn9, .inr (10, [.int 0, .ref (uu10 0), .ref (uu10 1), .ref (uu10 2), .ref (uu10 3), .ref (uu10 4), .ref (uu10 5), .ref (uu10 6)])), (qa11, .inl (cs 0, 150, .inl (fun _ => 0))), (qa12, .inl (cs 0, 150, .inl (fun _ => 0))), (qa13, .inl (cs 0, 150, .inl (fun _ => 0))), (qa14, .inl (cs 0, 150, .inl (fun _ => 0))), (qa15, .inl (cs 1, 150, .inr (.inl (fun _ => 0)))), (qa16, .inl (cs 0, 40, .inl (fun _ => 0)))] H := hP
  have hD : va_D A [(ad0, .inr (5, [.ref qn1, .ref qn3, .ref qn5, .ref qn7, .ref qn9, .ref qa11, .ref qa12, .ref qa13, .ref qa14, .ref qa15, .int 0, .null, .int 0, .null, .null])), (qn7, .inr (10, [.int 0, .ref (uu8 0), .ref (uu8 1), .ref (uu8 2), .ref (uu8 3), .ref (uu8 4), .ref (uu8 5), .ref (uu8 6)])), (qn9, .inr (10, [.int 0, .ref (uu10 0), .ref (uu10 1), .ref (uu10 2), .ref (uu10 3), .ref (uu10 4), .ref (uu10 5), .ref (uu10 6)])), (qa11, .inl (cs 0, 150, .inl (fun _ => 0))), (qa12, .inl (cs 0, 150, .inl (fun _ => 0))), (qa13, .inl (cs 0, 150, .inl (fun _ => 0))), (qa14, .inl (cs 0, 150, .inl (fun _ => 0))), (qa15, .inl (cs 1, 150, .inr (.inl (fun _ => 0)))), (qa16, .inl (cs 0, 40, .inl (fun _ => 0)))] := hD
  refine va_putF (D := D) (ci := 5) (v := .ref qa16) (ty := .array .int) (C := RX5) (T := TX5) (N := 15) hx hb hB cx_inX5 tyX5 tyX5_ok nmX5 hown hK hP hD hS 0 rfl rfl 11 (by decide) (hB _ cw_330) (fun _ h9 => h9) rfl hnm rfl (by decide +kernel) rfl rfl (Nat.le_of_ble_eq_true rfl) dX5_init_109 (fun H locs hP hD hS => ?_)
  have hP : va_P D vwCl [(ad0, .inr (5, [.ref qn1, .ref qn3, .ref qn5, .ref qn7, .ref qn9, .ref qa11, .ref qa12, .ref qa13, .ref qa14, .ref qa15, .int 0, .ref qa16, .int 0, .null, .null])), (qn7, .inr (10, [.int 0, .ref (uu8 0), .ref (uu8 1), .ref (uu8 2), .ref (uu8 3), .ref (uu8 4), .ref (uu8 5), .ref (uu8 6)])), (qn9, .inr (10, [.int 0, .ref (uu10 0), .ref (uu10 1), .ref (uu10 2), .ref (uu10 3), .ref (uu10 4), .ref (uu10 5), .ref (uu10 6)])), (qa11, .inl (cs 0, 150, .inl (fun _ => 0))), (qa12, .inl (cs 0, 150, .inl (fun _ => 0))), (qa13, .inl (cs 0, 150, .inl (fun _ => 0))), (qa14, .inl (cs 0, 150, .inl (fun _ => 0))), (qa15, .inl (cs 1, 150, .inr (.inl (fun _ => 0)))), (qa16, .inl (cs 0, 40, .inl (fun _ => 0)))] H := hP
  have hD : va_D A [(ad0, .inr (5, [.ref qn1, .ref qn3, .ref qn5, .ref qn7, .ref qn9, .ref qa11, .ref qa12, .ref qa13, .ref qa14, .ref qa15, .int 0, .ref qa16, .int 0, .null, .null])), (qn7, .inr (10, [.int 0, .ref (uu8 0), .ref (uu8 1), .ref (uu8 2), .ref (uu8 3), .ref (uu8 4), .ref (uu8 5), .ref (uu8 6)])), (qn9, .inr (10, [.int 0, .ref (uu10 0), .ref (uu10 1), .ref (uu10 2), .ref (uu10 3), .ref (uu10 4), .ref (uu10 5), .ref (uu10 6)])), (qa11, .inl (cs 0, 150, .inl (fun _ => 0))), (qa12, .inl (cs 0, 150, .inl (fun _ => 0))), (qa13, .inl (cs 0, 150, .inl (fun _ => 0))), (qa14, .inl (cs 0, 150, .inl (fun _ => 0))), (qa15, .inl (cs 1, 150, .inr (.inl (fun _ => 0)))), (qa16, .inl (cs 0, 40, .inl (fun _ => 0)))] := hD
  refine lv_aload_n hx hb dX5_init_112 rfl (lv_at hl 0 rfl) ?_
  refine lv_sipush (v := 1600) hx hb dX5_init_113 (by decide) ?_
  refine cx_newa (cs := cs) (atype := .int) (ty := .int) (a0 := (1600, .inl (fun _ => 0))) hx hb hB cw_59 rfl cx_ra_int 0 rfl hK hP hD hS hA (fun _ => rfl) (by decide) (by decide) (Nat.le_of_ble_eq_true rfl) (Nat.le_of_ble_eq_true rfl) (Nat.le_of_ble_eq_true rfl) dX5_init_116 (fun qa17 H hP hD hS => ?_)
  have hP : va_P D vwCl [(ad0, .inr (5, [.ref qn1, .ref qn3, .ref qn5, .ref qn7, .ref qn9, .ref qa11, .ref qa12, .ref qa13, .ref qa14, .ref qa15, .int 0, .ref qa16, .int 0, .null, .null])), (qn7, .inr (10, [.int 0, .ref (uu8 0), .ref (uu8 1), .ref (uu8 2), .ref (uu8 3), .ref (uu8 4), .ref (uu8 5), .ref (uu8 6)])), (qn9, .inr (10, [.int 0, .ref (uu10 0), .ref (uu10 1), .ref (uu10 2), .ref (uu10 3), .ref (uu10 4), .ref (uu10 5), .ref (uu10 6)])), (qa11, .inl (cs 0, 150, .inl (fun _ => 0))), (qa12, .inl (cs 0, 150, .inl (fun _ => 0))), (qa13, .inl (cs 0, 150, .inl (fun _ => 0))), (qa14, .inl (cs 0, 150, .inl (fun _ => 0))), (qa15, .inl (cs 1, 150, .inr (.inl (fun _ => 0)))), (qa16, .inl (cs 0, 40, .inl (fun _ => 0))), (qa17, .inl (cs 0, 1600, .inl (fun _ => 0)))] H := hP
  have hD : va_D A [(ad0, .inr (5, [.ref qn1, .ref qn3, .ref qn5, .ref qn7, .ref qn9, .ref qa11, .ref qa12, .ref qa13, .ref qa14, .ref qa15, .int 0, .ref qa16, .int 0, .null, .null])), (qn7, .inr (10, [.int 0, .ref (uu8 0), .ref (uu8 1), .ref (uu8 2), .ref (uu8 3), .ref (uu8 4), .ref (uu8 5), .ref (uu8 6)])), (qn9, .inr (10, [.int 0, .ref (uu10 0), .ref (uu10 1), .ref (uu10 2), .ref (uu10 3), .ref (uu10 4), .ref (uu10 5), .ref (uu10 6)])), (qa11, .inl (cs 0, 150, .inl (fun _ => 0))), (qa12, .inl (cs 0, 150, .inl (fun _ => 0))), (qa13, .inl (cs 0, 150, .inl (fun _ => 0))), (qa14, .inl (cs 0, 150, .inl (fun _ => 0))), (qa15, .inl (cs 1, 150, .inr (.inl (fun _ => 0)))), (qa16, .inl (cs 0, 40, .inl (fun _ => 0))), (qa17, .inl (cs 0, 1600, .inl (fun _ => 0)))] := hD
  refine va_putF (D := D) (ci := 5) (v := .ref qa17) (ty := .array .int) (C := RX5) (T := TX5) (N := 15) hx hb hB cx_inX5 tyX5 tyX5_ok nmX5 hown hK hP hD hS 0 rfl rfl 13 (by decide) (hB _ cw_332) (fun _ h9 => h9) rfl hnm rfl (by decide +kernel) rfl rfl (Nat.le_of_ble_eq_true rfl) dX5_init_118 (fun H locs hP hD hS => ?_)
  have hP : va_P D vwCl [(ad0, .inr (5, [.ref qn1, .ref qn3, .ref qn5, .ref qn7, .ref qn9, .ref qa11, .ref qa12, .ref qa13, .ref qa14, .ref qa15, .int 0, .ref qa16, .int 0, .ref qa17, .null])), (qn7, .inr (10, [.int 0, .ref (uu8 0), .ref (uu8 1), .ref (uu8 2), .ref (uu8 3), .ref (uu8 4), .ref (uu8 5), .ref (uu8 6)])), (qn9, .inr (10, [.int 0, .ref (uu10 0), .ref (uu10 1), .ref (uu10 2), .ref (uu10 3), .ref (uu10 4), .ref (uu10 5), .ref (uu10 6)])), (qa11, .inl (cs 0, 150, .inl (fun _ => 0))), (qa12, .inl (cs 0, 150, .inl (fun _ => 0))), (qa13, .inl (cs 0, 150, .inl (fun _ => 0))), (qa14, .inl (cs 0, 150, .inl (fun _ => 0))), (qa15, .inl (cs 1, 150, .inr (.inl (fun _ => 0)))), (qa16, .inl (cs 0, 40, .inl (fun _ => 0))), (qa17, .inl (cs 0, 1600, .inl (fun _ => 0)))] H := hP
  have hD : va_D A [(ad0, .inr (5, [.ref qn1, .ref qn3, .ref qn5, .ref qn7, .ref qn9, .ref qa11, .ref qa12, .ref qa13, .ref qa14, .ref qa15, .int 0, .ref qa16, .int 0, .ref qa17, .null])), (qn7, .inr (10, [.int 0, .ref (uu8 0), .ref (uu8 1), .ref (uu8 2), .ref (uu8 3), .ref (uu8 4), .ref (uu8 5), .ref (uu8 6)])), (qn9, .inr (10, [.int 0, .ref (uu10 0), .ref (uu10 1), .ref (uu10 2), .ref (uu10 3), .ref (uu10 4), .ref (uu10 5), .ref (uu10 6)])), (qa11, .inl (cs 0, 150, .inl (fun _ => 0))), (qa12, .inl (cs 0, 150, .inl (fun _ => 0))), (qa13, .inl (cs 0, 150, .inl (fun _ => 0))), (qa14, .inl (cs 0, 150, .inl (fun _ => 0))), (qa15, .inl (cs 1, 150, .inr (.inl (fun _ => 0)))), (qa16, .inl (cs 0, 40, .inl (fun _ => 0))), (qa17, .inl (cs 0, 1600, .inl (fun _ => 0)))] := hD
  refine lv_aload_n hx hb dX5_init_121 rfl (lv_at hl 0 rfl) ?_
  refine lv_bipush (v := 40) hx hb dX5_init_122 (by decide) ?_
  refine cx_newa (cs := cs) (atype := .int) (ty := .int) (a0 := (40, .inl (fun _ => 0))) hx hb hB cw_59 rfl cx_ra_int 0 rfl hK hP hD hS hA (fun _ => rfl) (by decide) (by decide) (Nat.le_of_ble_eq_true rfl) (Nat.le_of_ble_eq_true rfl) (Nat.le_of_ble_eq_true rfl) dX5_init_124 (fun qa18 H hP hD hS => ?_)
  have hP : va_P D vwCl [(ad0, .inr (5, [.ref qn1, .ref qn3, .ref qn5, .ref qn7, .ref qn9, .ref qa11, .ref qa12, .ref qa13, .ref qa14, .ref qa15, .int 0, .ref qa16, .int 0, .ref qa17, .null])), (qn7, .inr (10, [.int 0, .ref (uu8 0), .ref (uu8 1), .ref (uu8 2), .ref (uu8 3), .ref (uu8 4), .ref (uu8 5), .ref (uu8 6)])), (qn9, .inr (10, [.int 0, .ref (uu10 0), .ref (uu10 1), .ref (uu10 2), .ref (uu10 3), .ref (uu10 4), .ref (uu10 5), .ref (uu10 6)])), (qa11, .inl (cs 0, 150, .inl (fun _ => 0))), (qa12, .inl (cs 0, 150, .inl (fun _ => 0))), (qa13, .inl (cs 0, 150, .inl (fun _ => 0))), (qa14, .inl (cs 0, 150, .inl (fun _ => 0))), (qa15, .inl (cs 1, 150, .inr (.inl (fun _ => 0)))), (qa16, .inl (cs 0, 40, .inl (fun _ => 0))), (qa17, .inl (cs 0, 1600, .inl (fun _ => 0))), (qa18, .inl (cs 0, 40, .inl (fun _ => 0)))] H := hP
  have hD : va_D A [(ad0, .inr (5, [.ref qn1, .ref qn3, .ref qn5, .ref qn7, .ref qn9, .ref qa11, .ref qa12, .ref qa13, .ref qa14, .ref qa15, .int 0, .ref qa16, .int 0, .ref qa17, .null])), (qn7, .inr (10, [.int 0, .ref (uu8 0), .ref (uu8 1), .ref (uu8 2), .ref (uu8 3), .ref (uu8 4), .ref (uu8 5), .ref (uu8 6)])), (qn9, .inr (10, [.int 0, .ref (uu10 0), .ref (uu10 1), .ref (uu10 2), .ref (uu10 3), .ref (uu10 4), .ref (uu10 5), .ref (uu10 6)])), (qa11, .inl (cs 0, 150, .inl (fun _ => 0))), (qa12, .inl (cs 0, 150, .inl (fun _ => 0))), (qa13, .inl (cs 0, 150, .inl (fun _ => 0))), (qa14, .inl (cs 0, 150, .inl (fun _ => 0))), (qa15, .inl (cs 1, 150, .inr (.inl (fun _ => 0)))), (qa16, .inl (cs 0, 40, .inl (fun _ => 0))), (qa17, .inl (cs 0, 1600, .inl (fun _ => 0))), (qa18, .inl (cs 0, 40, .inl (fun _ => 0)))] := hD
  refine va_putF (D := D) (ci := 5) (v := .ref qa18) (ty := .array .int) (C := RX5) (T := TX5) (N := 15) hx hb hB cx_inX5 tyX5 tyX5_ok nmX5 hown hK hP hD hS 0 rfl rfl 14 (by decide) (hB _ cw_333) (fun _ h9 => h9) rfl hnm rfl (by decide +kernel) rfl rfl (Nat.le_of_ble_eq_true rfl) dX5_init_126 (fun H locs hP hD hS => ?_)
  have hP : va_P D vwCl [(ad0, .inr (5, [.ref qn1, .ref qn3, .ref qn5, .ref qn7, .ref qn9, .ref qa11, .ref qa12, .ref qa13, .ref qa14, .ref qa15, .int 0, .ref qa16, .int 0, .ref qa17, .ref qa18])), (qn7, .inr (10, [.int 0, .ref (uu8 0), .ref (uu8 1), .ref (uu8 2), .ref (uu8 3), .ref (uu8 4), .ref (uu8 5), .ref (uu8 6)])), (qn9, .inr (10, [.int 0, .ref (uu10 0), .ref (uu10 1), .ref (uu10 2), .ref (uu10 3), .ref (uu10 4), .ref (uu10 5), .ref (uu10 6)])), (qa11, .inl (cs 0, 150, .inl (fun _ => 0))), (qa12, .inl (cs 0, 150, .inl (fun _ => 0))), (qa13, .inl (cs 0, 150, .inl (fun _ => 0))), (qa14, .inl (cs 0, 150, .inl (fun _ => 0))), (qa15, .inl (cs 1, 150, .inr (.inl (fun _ => 0)))), (qa16, .inl (cs 0, 40, .inl (fun _ => 0))), (qa17, .inl (cs 0, 1600, .inl (fun _ => 0))), (qa18, .inl (cs 0, 40, .inl (fun _ => 0)))] H := hP
  have hD : va_D A [(ad0, .inr (5, [.ref qn1, .ref qn3, .ref qn5, .ref qn7, .ref qn9, .ref qa11, .ref qa12, .ref qa13, .ref qa14, .ref qa15, .int 0, .ref qa16, .int 0, .ref qa17, .ref qa18])), (qn7, .inr (10, [.int 0, .ref (uu8 0), .ref (uu8 1), .ref (uu8 2), .ref (uu8 3), .ref (uu8 4), .ref (uu8 5), .ref (uu8 6)])), (qn9, .inr (10, [.int 0, .ref (uu10 0), .ref (uu10 1), .ref (uu10 2), .ref (uu10 3), .ref (uu10 4), .ref (uu10 5), .ref (uu10 6)])), (qa11, .inl (cs 0, 150, .inl (fun _ => 0))), (qa12, .inl (cs 0, 150, .inl (fun _ => 0))), (qa13, .inl (cs 0, 150, .inl (fun _ => 0))), (qa14, .inl (cs 0, 150, .inl (fun _ => 0))), (qa15, .inl (cs 1, 150, .inr (.inl (fun _ => 0)))), (qa16, .inl (cs 0, 40, .inl (fun _ => 0))), (qa17, .inl (cs 0, 1600, .inl (fun _ => 0))), (qa18, .inl (cs 0, 40, .inl (fun _ => 0)))] := hD
  exact cx_vret hx hb hr hlocks hP hD hS (cx_uo []) [] rfl (by decide) (Nat.le_of_ble_eq_true rfl) (Nat.le_of_ble_eq_true rfl) dX5_init_129
set_option maxHeartbeats 4000000 in
set_option maxRecDepth 100000 in
theorem kX6_init (l : Launch) (D : va_G) (cs : Nat → ClassId) (ad0 : Nat) (sz : Nat) : Met l yX6_init (.code yX6_init cX6_init 1 none :: cx_big) { frames := 1, cells := 0, slots := 0, locals := 12 } (cx_P D cs [.ref ad0] [(ad0, .inr (6, [.int 0, .int 0, .int 0]))] sz) (cx_Q D none (fun u => []) (va_A [(ad0, .inr (6, [.int 0, .int 0, .int 0]))] sz)) 0 0 (va_A [(ad0, .inr (6, [.int 0, .int 0, .int 0]))] sz) := by
  refine cx_ofW (by decide) (Nat.le_of_ble_eq_true rfl) ?_
  intro p e s m below meth c A ls hx hb hr hml hB hown hlocks hnm hK hN hA hP hD hS hl
  have hown : s.vm.findClass "TreeMerge$Printer" = some m.cls := hown
  have hl : lv_has ls 1 [(0, .ref ad0)] := hl
  have hnm : meth.name = "<init>" := hnm
  have hS0 := hS
  refine lv_aload_n hx hb dX6_init_0 rfl (lv_at hl 0 rfl) ?_
  refine W.objInit hx hb hown (hB _ cw_370) (hB _ cw_26) (hB _ cw_27) rfl (by rw [hml]; exact hl.1) rfl dX6_init_1 (Nat.le_of_ble_eq_true rfl) (Nat.le_of_ble_eq_true rfl) ?_
  refine W.eq (g2 := F0 m 4 ls []) rfl ?_
  exact cx_vret hx hb hr hlocks hP hD hS (cx_uo []) [] rfl (by decide) (Nat.le_of_ble_eq_true rfl) (Nat.le_of_ble_eq_true rfl) dX6_init_4
set_option maxHeartbeats 4000000 in
set_option maxRecDepth 100000 in
theorem kX11_init (l : Launch) (D : va_G) (cs : Nat → ClassId) (ad0 : Nat) (sz : Nat) : Met l yX11_init (.code yX11_init cX11_init 1 none :: cx_big) { frames := 4, cells := 167, slots := 14766, locals := 72 } (cx_P D cs [.ref ad0] [(ad0, .inr (11, [.null, .null, .null, .null, .null, .null, .null, .null, .null, .null, .null, .null, .null, .null, .null, .int 0, .null, .int 0, .null]))] sz) (cx_Q D none (fun u => [(ad0, .inr (11, [.ref (u 0), .ref (u 1), .ref (u 2), .ref (u 3), .ref (u 4), .ref (u 5), .ref (u 6), .ref (u 7), .ref (u 8), .ref (u 9), .ref (u 10), .ref (u 11), .ref (u 12), .ref (u 13), .ref (u 14), .int 0, .ref (u 15), .int 0, .ref (u 16)])), ((u 0), .inr (9, [.ref (u 17), .int 0, .int 0, .int 0, .int 0])), ((u 17), .inl (cs 0, 500, .inl (fun _ => 0))), ((u 1), .inr (2, [.ref (u 18), .int 0, .ref (u 19), .ref (u 20), .ref (u 21), .ref (u 22), .ref (u 23), .int 0, .ref (u 24), .ref (u 25), .ref (u 26), .ref (u 27), .ref (u 28)])), ((u 2), .inr (2, [.ref (u 29), .int 0, .ref (u 30), .ref (u 31), .ref (u 32), .ref (u 33), .ref (u 34), .int 0, .ref (u 35), .ref (u 36), .ref (u 37), .ref (u 38), .ref (u 39)])), ((u 29), .inl (cs 0, 500, .inl (fun _ => 0))), ((u 3), .inr (10, [.int 0, .ref (u 40), .ref (u 41), .ref (u 42), .ref (u 43), .ref (u 44), .ref (u 45), .ref (u 46)])), ((u 7), .inr (1, [.int 0, .ref (u 47), .ref (u 48), .ref (u 49), .ref (u 50)])), ((u 8), .inr (0, [.int 0, .int 0, .ref (u 51), .ref (u 52)])), ((u 9), .inr (7, [.int 0, .ref (u 53)])), ((u 53), .inl (cs 0, 450, .inl (fun _ => 0)))]) (va_A [(ad0, .inr (11, [.null, .null, .null, .null, .null, .null, .null, .null, .null, .null, .null, .null, .null, .null, .null, .int 0, .null, .int 0, .null]))] sz)) 167 14766 (va_A [(ad0, .inr (11, [.null, .null, .null, .null, .null, .null, .null, .null, .null, .null, .null, .null, .null, .null, .null, .int 0, .null, .int 0, .null]))] sz) := by
  refine cx_ofW (by decide) (Nat.le_of_ble_eq_true rfl) ?_
  intro p e s m below meth c A ls hx hb hr hml hB hown hlocks hnm hK hN hA hP hD hS hl
  have hown : s.vm.findClass "TreeMerge" = some m.cls := hown
  have hl : lv_has ls 1 [(0, .ref ad0)] := hl
  have hnm : meth.name = "<init>" := hnm
  have hS0 := hS
  refine lv_aload_n hx hb dX11_init_0 rfl (lv_at hl 0 rfl) ?_
  refine W.objInit hx hb hown (hB _ cw_25) (hB _ cw_26) (hB _ cw_27) rfl (by rw [hml]; exact hl.1) rfl dX11_init_1 (Nat.le_of_ble_eq_true rfl) (Nat.le_of_ble_eq_true rfl) ?_
  refine W.eq (g2 := F0 m 4 ls []) rfl ?_
  refine lv_aload_n hx hb dX11_init_4 rfl (lv_at hl 0 rfl) ?_
  refine va_new (ci := 9) (fs := [.null, .int 0, .int 0, .int 0, .int 0]) (C := RX9) (T := TX9) (N := 5) hx hb hB cx_inX9 tyX9 tyX9_ok hown (hB _ cw_28) (hB _ cw_29) (hB _ cw_2) hK hP hD hS hA rfl cx_fsX9 (Nat.le_of_ble_eq_true rfl) (Nat.le_of_ble_eq_true rfl) dX11_init_5 (fun qn1 H hP hD hS => ?_)
  have hP : va_P D vwCl [(ad0, .inr (11, [.null, .null, .null, .null, .null, .null, .null, .null, .null, .null, .null, .null, .null, .null, .null, .int 0, .null, .int 0, .null])), (qn1, .inr (9, [.null, .int 0, .int 0, .int 0, .int 0]))] H := hP
  have hD : va_D A [(ad0, .inr (11, [.null, .null, .null, .null, .null, .null, .null, .null, .null, .null, .null, .null, .null, .null, .null, .int 0, .null, .int 0, .null])), (qn1, .inr (9, [.null, .int 0, .int 0, .int 0, .int 0]))] := hD
  refine lv_dup hx hb dX11_init_8 rfl ?_
  refine cx_IN (D := D) (cs := cs) (wc := [(qn1, .inr (9, [.null, .int 0, .int 0, .int 0, .int 0]))]) (wr := [(ad0, .inr (11, [.null, .null, .null, .null, .null, .null, .null, .null, .null, .null, .null, .null, .null, .null, .null, .int 0, .null, .int 0, .null]))]) (v := none) (w1 := fun u => [(qn1, .inr (9, [.ref (u 0), .int 0, .int 0, .int 0, .int 0])), ((u 0), .inl (cs 0, 500, .inl (fun _ => 0)))]) (As := []) (rest := [.ref qn1, .ref ad0]) (o := qn1) ⟨hx, hb, hml, hown, hB⟩ (fun sz => kX9_init l D cs qn1 sz) cw_32 cw_2 (by decide +kernel) cw_31 rfl rfl rfl (by decide +kernel) ⟨Nat.le_of_ble_eq_true rfl, Nat.le_of_ble_eq_true rfl⟩ hK hN hP hD hS hA [1] [0] rfl rfl (by decide) rfl hl.1 rfl (Nat.le_of_ble_eq_true rfl) dX11_init_9 ⟨Nat.le_of_ble_eq_true rfl, Nat.le_of_ble_eq_true rfl⟩ (fun uu2 H locs hP hD hS => ?_)
  refine W.eq (g2 := F0 m 12 ls [.ref qn1, .ref ad0]) rfl ?_
  have hP : va_P D vwCl [(ad0, .inr (11, [.null, .null, .null, .null, .null, .null, .null, .null, .null, .null, .null, .null, .null, .null, .null, .int 0, .null, .int 0, .null])), (qn1, .inr (9, [.ref (uu2 0), .int 0, .int 0, .int 0, .int 0])), ((uu2 0), .inl (cs 0, 500, .inl (fun _ => 0)))] H := hP
  have hD : va_D A [(ad0, .inr (11, [.null, .null, .null, .null, .null, .null, .null, .null, .null, .null, .null, .null, .null, .null, .null, .int 0, .null, .int 0, .null])), (qn1, .inr (9, [.ref (uu2 0), .int 0, .int 0, .int 0, .int 0])), ((uu2 0), .inl (cs 0, 500, .inl (fun _ => 0)))] := hD
  refine va_putF (D := D) (ci := 11) (v := .ref qn1) (ty := .object "TreeMerge$Text") (C := RX11) (T := TX11) (N := 19) hx hb hB cx_inX11 tyX11 tyX11_ok nmX11 hown hK hP hD hS 0 rfl rfl 0 (by decide) (hB _ cw_383) (fun _ h9 => h9) rfl hnm rfl (by decide +kernel) rfl rfl (Nat.le_of_ble_eq_true rfl) dX11_init_12 (fun H locs hP hD hS => ?_)
  have hP : va_P D vwCl [(ad0, .inr (11, [.ref qn1, .null, .null, .null, .null, .null, .null, .null, .null, .null, .null, .null, .null, .null, .null, .int 0, .null, .int 0, .null])), (qn1, .inr (9, [.ref (uu2 0), .int 0, .int 0, .int 0, .int 0])), ((uu2 0), .inl (cs 0, 500, .inl (fun _ => 0)))] H := hP
  have hD : va_D A [(ad0, .inr (11, [.ref qn1, .null, .null, .null, .null, .null, .null, .null, .null, .null, .null, .null, .null, .null, .null, .int 0, .null, .int 0, .null])), (qn1, .inr (9, [.ref (uu2 0), .int 0, .int 0, .int 0, .int 0])), ((uu2 0), .inl (cs 0, 500, .inl (fun _ => 0)))] := hD
  refine lv_aload_n hx hb dX11_init_15 rfl (lv_at hl 0 rfl) ?_
  refine va_new (ci := 2) (fs := [.null, .int 0, .null, .null, .null, .null, .null, .int 0, .null, .null, .null, .null, .null]) (C := RX2) (T := TX2) (N := 13) hx hb hB cx_inX2 tyX2 tyX2_ok hown (hB _ cw_60) (hB _ cw_61) (hB _ cw_3) hK hP hD hS hA rfl cx_fsX2 (Nat.le_of_ble_eq_true rfl) (Nat.le_of_ble_eq_true rfl) dX11_init_16 (fun qn3 H hP hD hS => ?_)
  have hP : va_P D vwCl [(ad0, .inr (11, [.ref qn1, .null, .null, .null, .null, .null, .null, .null, .null, .null, .null, .null, .null, .null, .null, .int 0, .null, .int 0, .null])), (qn1, .inr (9, [.ref (uu2 0), .int 0, .int 0, .int 0, .int 0])), ((uu2 0), .inl (cs 0, 500, .inl (fun _ => 0))), (qn3, .inr (2, [.null, .int 0, .null, .null, .null, .null, .null, .int 0, .null, .null, .null, .null, .null]))] H := hP
  have hD : va_D A [(ad0, .inr (11, [.ref qn1, .null, .null, .null, .null, .null, .null, .null, .null, .null, .null, .null, .null, .null, .null, .int 0, .null, .int 0, .null])), (qn1, .inr (9, [.ref (uu2 0), .int 0, .int 0, .int 0, .int 0])), ((uu2 0), .inl (cs 0, 500, .inl (fun _ => 0))), (qn3, .inr (2, [.null, .int 0, .null, .null, .null, .null, .null, .int 0, .null, .null, .null, .null, .null]))] := hD
  refine lv_dup hx hb dX11_init_19 rfl ?_
  refine cx_IN (D := D) (cs := cs) (wc := [(qn3, .inr (2, [.null, .int 0, .null, .null, .null, .null, .null, .int 0, .null, .null, .null, .null, .null]))]) (wr := [(ad0, .inr (11, [.ref qn1, .null, .null, .null, .null, .null, .null, .null, .null, .null, .null, .null, .null, .null, .null, .int 0, .null, .int 0, .null])), (qn1, .inr (9, [.ref (uu2 0), .int 0, .int 0, .int 0, .int 0])), ((uu2 0), .inl (cs 0, 500, .inl (fun _ => 0)))]) (v := none) (w1 := fun u => [(qn3, .inr (2, [.ref (u 0), .int 0, .ref (u 1), .ref (u 2), .ref (u 3), .ref (u 4), .ref (u 5), .int 0, .ref (u 6), .ref (u 7), .ref (u 8), .ref (u 9), .ref (u 10)])), ((u 0), .inl (cs 0, 500, .inl (fun _ => 0)))]) (As := []) (rest := [.ref qn3, .ref ad0]) (o := qn3) ⟨hx, hb, hml, hown, hB⟩ (fun sz => kX2_init l D cs qn3 sz) cw_64 cw_3 (by decide +kernel) cw_63 rfl rfl rfl (by decide +kernel) ⟨Nat.le_of_ble_eq_true rfl, Nat.le_of_ble_eq_true rfl⟩ hK hN hP hD hS hA [3] [0, 1, 2] rfl rfl (by decide) rfl hl.1 rfl (Nat.le_of_ble_eq_true rfl) dX11_init_20 ⟨Nat.le_of_ble_eq_true rfl, Nat.le_of_ble_eq_true rfl⟩ (fun uu4 H locs hP hD hS => ?_)
  refine W.eq (g2 := F0 m 23 ls [.ref qn3, .ref ad0]) rfl ?_
  have hP : va_P D vwCl [(ad0, .inr (11, [.ref qn1, .null, .null, .null, .null, .null, .null, .null, .null, .null, .null, .null, .null, .null, .null, .int 0, .null, .int 0, .null])), (qn1, .inr (9, [.ref (uu2 0), .int 0, .int 0, .int 0, .int 0])), ((uu2 0), .inl (cs 0, 500, .inl (fun _ => 0))), (qn3, .inr (2, [.ref (uu4 0), .int 0, .ref (uu4 1), .ref (uu4 2), .ref (uu4 3), .ref (uu4 4), .ref (uu4 5), .int 0, .ref (uu4 6), .ref (uu4 7), .ref (uu4 8), .ref (uu4 9), .ref (uu4 10)])), ((uu4 0), .inl (cs 0, 500, .inl (fun _ => 0)))] H := hP
  have hD : va_D A [(ad0, .inr (11, [.ref qn1, .null, .null, .null, .null, .null, .null, .null, .null, .null, .null, .null, .null, .null, .null, .int 0, .null, .int 0, .null])), (qn1, .inr (9, [.ref (uu2 0), .int 0, .int 0, .int 0, .int 0])), ((uu2 0), .inl (cs 0, 500, .inl (fun _ => 0))), (qn3, .inr (2, [.ref (uu4 0), .int 0, .ref (uu4 1), .ref (uu4 2), .ref (uu4 3), .ref (uu4 4), .ref (uu4 5), .int 0, .ref (uu4 6), .ref (uu4 7), .ref (uu4 8), .ref (uu4 9), .ref (uu4 10)])), ((uu4 0), .inl (cs 0, 500, .inl (fun _ => 0)))] := hD
  refine va_put (D := D) (ci := 11) (v := .ref qn3) (ty := .object "TreeMerge$Grammar") (C := RX11) (T := TX11) (N := 19) hx hb hB cx_inX11 tyX11 tyX11_ok nmX11 hown hK hP hD hS 0 rfl rfl 1 (by decide) (hB _ cw_384) (fun _ h9 => h9) rfl (by decide +kernel) rfl rfl (Nat.le_of_ble_eq_true rfl) dX11_init_23 (fun H locs hP hD hS => ?_)
  have hP : va_P D vwCl [(ad0, .inr (11, [.ref qn1, .ref qn3, .null, .null, .null, .null, .null, .null, .null, .null, .null, .null, .null, .null, .null, .int 0, .null, .int 0, .null])), (qn1, .inr (9, [.ref (uu2 0), .int 0, .int 0, .int 0, .int 0])), ((uu2 0), .inl (cs 0, 500, .inl (fun _ => 0))), (qn3, .inr (2, [.ref (uu4 0), .int 0, .ref (uu4 1), .ref (uu4 2), .ref (uu4 3), .ref (uu4 4), .ref (uu4 5), .int 0, .ref (uu4 6), .ref (uu4 7), .ref (uu4 8), .ref (uu4 9), .ref (uu4 10)])), ((uu4 0), .inl (cs 0, 500, .inl (fun _ => 0)))] H := hP
  have hD : va_D A [(ad0, .inr (11, [.ref qn1, .ref qn3, .null, .null, .null, .null, .null, .null, .null, .null, .null, .null, .null, .null, .null, .int 0, .null, .int 0, .null])), (qn1, .inr (9, [.ref (uu2 0), .int 0, .int 0, .int 0, .int 0])), ((uu2 0), .inl (cs 0, 500, .inl (fun _ => 0))), (qn3, .inr (2, [.ref (uu4 0), .int 0, .ref (uu4 1), .ref (uu4 2), .ref (uu4 3), .ref (uu4 4), .ref (uu4 5), .int 0, .ref (uu4 6), .ref (uu4 7), .ref (uu4 8), .ref (uu4 9), .ref (uu4 10)])), ((uu4 0), .inl (cs 0, 500, .inl (fun _ => 0)))] := hD
  refine lv_aload_n hx hb dX11_init_26 rfl (lv_at hl 0 rfl) ?_
  refine va_new (ci := 2) (fs := [.null, .int 0, .null, .null, .null, .null, .null, .int 0, .null, .null, .null, .null, .null]) (C := RX2) (T := TX2) (N := 13) hx hb hB cx_inX2 tyX2 tyX2_ok hown (hB _ cw_60) (hB _ cw_61) (hB _ cw_3) hK hP hD hS hA rfl cx_fsX2 (Nat.le_of_ble_eq_true rfl) (Nat.le_of_ble_eq_true rfl) dX11_init_27 (fun qn5 H hP hD hS => ?_)
  have hP : va_P D vwCl [(ad0, .inr (11, [.ref qn1, .ref qn3, .null, .null, .null, .null, .null, .null, .null, .null, .null, .null, .null, .null, .null, .int 0, .null, .int 0, .null])), (qn1, .inr (9, [.ref (uu2 0), .int 0, .int 0, .int 0, .int 0])), ((uu2 0), .inl (cs 0, 500, .inl (fun _ => 0))), (qn3, .inr (2, [.ref (uu4 0), .int 0, .ref (uu4 1), .ref (uu4 2), .ref (uu4 3), .ref (uu4 4), .ref (uu4 5), .int 0, .ref (uu4 6), .ref (uu4 7), .ref (uu4 8), .ref (uu4 9), .ref (uu4 10)])), ((uu4 0), .inl (cs 0, 500, .inl (fun _ => 0))), (qn5, .inr (2, [.null, .int 0, .null, .null, .null, .null, .null, .int 0, .null, .null, .null, .null, .null]))] H := hP
  have hD : va_D A [(ad0, .inr (11, [.ref qn1, .ref qn3, .null, .null, .null, .null, .null, .null, .null, .null, .null, .null, .null, .null, .null, .int 0, .null, .int 0, .null])), (qn1, .inr (9, [.ref (uu2 0), .int 0, .int 0, .int 0, .int 0])), ((uu2 0), .inl (cs 0, 500, .inl (fun _ => 0))), (qn3, .inr (2, [.ref (uu4 0), .int 0, .ref (uu4 1), .ref (uu4 2), .ref (uu4 3), .ref (uu4 4), .ref (uu4 5), .int 0, .ref (uu4 6), .ref (uu4 7), .ref (uu4 8), .ref (uu4 9), .ref (uu4 10)])), ((uu4 0), .inl (cs 0, 500, .inl (fun _ => 0))), (qn5, .inr (2, [.null, .int 0, .null, .null, .null, .null, .null, .int 0, .null, .null, .null, .null, .null]))] := hD
  refine lv_dup hx hb dX11_init_30 rfl ?_
  refine cx_IN (D := D) (cs := cs) (wc := [(qn5, .inr (2, [.null, .int 0, .null, .null, .null, .null, .null, .int 0, .null, .null, .null, .null, .null]))]) (wr := [(ad0, .inr (11, [.ref qn1, .ref qn3, .null, .null, .null, .null, .null, .null, .null, .null, .null, .null, .null, .null, .null, .int 0, .null, .int 0, .null])), (qn1, .inr (9, [.ref (uu2 0), .int 0, .int 0, .int 0, .int 0])), ((uu2 0), .inl (cs 0, 500, .inl (fun _ => 0))), (qn3, .inr (2, [.ref (uu4 0), .int 0, .ref (uu4 1), .ref (uu4 2), .ref (uu4 3), .ref (uu4 4), .ref (uu4 5), .int 0, .ref (uu4 6), .ref (uu4 7), .ref (uu4 8), .ref (uu4 9), .ref (uu4 10)])), ((uu4 0), .inl (cs 0, 500, .inl (fun _ => 0)))]) (v := none) (w1 := fun u => [(qn5, .inr (2, [.ref (u 0), .int 0, .ref (u 1), .ref (u 2), .ref (u 3), .ref (u 4), .ref (u 5), .int 0, .ref (u 6), .ref (u 7), .ref (u 8), .ref (u 9), .ref (u 10)])), ((u 0), .inl (cs 0, 500, .inl (fun _ => 0)))]) (As := []) (rest := [.ref qn5, .ref ad0]) (o := qn5) ⟨hx, hb, hml, hown, hB⟩ (fun sz => kX2_init l D cs qn5 sz) cw_64 cw_3 (by decide +kernel) cw_63 rfl rfl rfl (by decide +kernel) ⟨Nat.le_of_ble_eq_true rfl, Nat.le_of_ble_eq_true rfl⟩ hK hN hP hD hS hA [5] [0, 1, 2, 3, 4] rfl rfl (by decide) rfl hl.1 rfl (Nat.le_of_ble_eq_true rfl) dX11_init_31 ⟨Nat.le_of_ble_eq_true rfl, Nat.le_of_ble_eq_true rfl⟩ (fun uu6 H locs hP hD hS => ?_)
  refine W.eq (g2 := F0 m 34 ls [.ref qn5, .ref ad0]) rfl ?_
  have hP : va_P D vwCl [(ad0, .inr (11, [.ref qn1, .ref qn3, .null, .null, .null, .null, .null, .null, .null, .null, .null, .null, .null, .null, .null, .int 0, .null, .int 0, .null])), (qn1, .inr (9, [.ref (uu2 0), .int 0, .int 0, .int 0, .int 0])), ((uu2 0), .inl (cs 0, 500, .inl (fun _ => 0))), (qn3, .inr (2, [.ref (uu4 0), .int 0, .ref (uu4 1), .ref (uu4 2), .ref (uu4 3), .ref (uu4 4), .ref (uu4 5), .int 0, .ref (uu4 6), .ref (uu4 7), .ref (uu4 8), .ref (uu4 9), .ref (uu4 10)])), ((uu4 0), .inl (cs 0, 500, .inl (fun _ => 0))), (qn5, .inr (2, [.ref (uu6 0), .int 0, .ref (uu6 1), .ref (uu6 2), .ref (uu6 3), .ref (uu6 4), .ref (uu6 5), .int 0, .ref (uu6 6), .ref (uu6 7), .ref (uu6 8), .ref (uu6 9), .ref (uu6 10)])), ((uu6 0), .inl (cs 0, 500, .inl (fun _ => 0)))] H := hP
  have hD : va_D A [(ad0, .inr (11, [.ref qn1, .ref qn3, .null, .null, .null, .null, .null, .null, .null, .null, .null, .null, .null, .null, .null, .int 0, .null, .int 0, .null])), (qn1, .inr (9, [.ref (uu2 0), .int 0, .int 0, .int 0, .int 0])), ((uu2 0), .inl (cs 0, 500, .inl (fun _ => 0))), (qn3, .inr (2, [.ref (uu4 0), .int 0, .ref (uu4 1), .ref (uu4 2), .ref (uu4 3), .ref (uu4 4), .ref (uu4 5), .int 0, .ref (uu4 6), .ref (uu4 7), .ref (uu4 8), .ref (uu4 9), .ref (uu4 10)])), ((uu4 0), .inl (cs 0, 500, .inl (fun _ => 0))), (qn5, .inr (2, [.ref (uu6 0), .int 0, .ref (uu6 1), .ref (uu6 2), .ref (uu6 3), .ref (uu6 4), .ref (uu6 5), .int 0, .ref (uu6 6), .ref (uu6 7), .ref (uu6 8), .ref (uu6 9), .ref (uu6 10)])), ((uu6 0), .inl (cs 0, 500, .inl (fun _ => 0)))] := hD
  refine va_put (D := D) (ci := 11) (v := .ref qn5) (ty := .object "TreeMerge$Grammar") (C := RX11) (T := TX11) (N := 19) hx hb hB cx_inX11 tyX11 tyX11_ok nmX11 hown hK hP hD hS 0 rfl rfl 2 (by decide) (hB _ cw_385) (fun _ h9 => h9) rfl (by decide +kernel) rfl rfl (Nat.le_of_ble_eq_true rfl) dX11_init_34 (fun H locs hP hD hS => ?_)
  have hP : va_P D vwCl [(ad0, .inr (11, [.ref qn1, .ref qn3, .ref qn5, .null, .null, .null, .null, .null, .null, .null, .null, .null, .null, .null, .null, .int 0, .null, .int 0, .null])), (qn1, .inr (9, [.ref (uu2 0), .int 0, .int 0, .int 0, .int 0])), ((uu2 0), .inl (cs 0, 500, .inl (fun _ => 0))), (qn3, .inr (2, [.ref (uu4 0), .int 0, .ref (uu4 1), .ref (uu4 2), .ref (uu4 3), .ref (uu4 4), .ref (uu4 5), .int 0, .ref (uu4 6), .ref (uu4 7), .ref (uu4 8), .ref (uu4 9), .ref (uu4 10)])), ((uu4 0), .inl (cs 0, 500, .inl (fun _ => 0))), (qn5, .inr (2, [.ref (uu6 0), .int 0, .ref (uu6 1), .ref (uu6 2), .ref (uu6 3), .ref (uu6 4), .ref (uu6 5), .int 0, .ref (uu6 6), .ref (uu6 7), .ref (uu6 8), .ref (uu6 9), .ref (uu6 10)])), ((uu6 0), .inl (cs 0, 500, .inl (fun _ => 0)))] H := hP
  have hD : va_D A [(ad0, .inr (11, [.ref qn1, .ref qn3, .ref qn5, .null, .null, .null, .null, .null, .null, .null, .null, .null, .null, .null, .null, .int 0, .null, .int 0, .null])), (qn1, .inr (9, [.ref (uu2 0), .int 0, .int 0, .int 0, .int 0])), ((uu2 0), .inl (cs 0, 500, .inl (fun _ => 0))), (qn3, .inr (2, [.ref (uu4 0), .int 0, .ref (uu4 1), .ref (uu4 2), .ref (uu4 3), .ref (uu4 4), .ref (uu4 5), .int 0, .ref (uu4 6), .ref (uu4 7), .ref (uu4 8), .ref (uu4 9), .ref (uu4 10)])), ((uu4 0), .inl (cs 0, 500, .inl (fun _ => 0))), (qn5, .inr (2, [.ref (uu6 0), .int 0, .ref (uu6 1), .ref (uu6 2), .ref (uu6 3), .ref (uu6 4), .ref (uu6 5), .int 0, .ref (uu6 6), .ref (uu6 7), .ref (uu6 8), .ref (uu6 9), .ref (uu6 10)])), ((uu6 0), .inl (cs 0, 500, .inl (fun _ => 0)))] := hD
  refine lv_aload_n hx hb dX11_init_37 rfl (lv_at hl 0 rfl) ?_
  refine va_new (ci := 10) (fs := [.int 0, .null, .null, .null, .null, .null, .null, .null]) (C := RX10) (T := TX10) (N := 8) hx hb hB cx_inX10 tyX10 tyX10_ok hown (hB _ cw_110) (hB _ cw_111) (hB _ cw_4) hK hP hD hS hA rfl cx_fsX10 (Nat.le_of_ble_eq_true rfl) (Nat.le_of_ble_eq_true rfl) dX11_init_38 (fun qn7 H hP hD hS => ?_)
  have hP : va_P D vwCl [(ad0, .inr (11, [.ref qn1, .ref qn3, .ref qn5, .null, .null, .null, .null, .null, .null, .null, .null, .null, .null, .null, .null, .int 0, .null, .int 0, .null])), (qn1, .inr (9, [.ref (uu2 0), .int 0, .int 0, .int 0, .int 0])), ((uu2 0), .inl (cs 0, 500, .inl (fun _ => 0))), (qn3, .inr (2, [.ref (uu4 0), .int 0, .ref (uu4 1), .ref (uu4 2), .ref (uu4 3), .ref (uu4 4), .ref (uu4 5), .int 0, .ref (uu4 6), .ref (uu4 7), .ref (uu4 8), .ref (uu4 9), .ref (uu4 10)])), ((uu4 0), .inl (cs 0, 500, .inl (fun _ => 0))), (qn5, .inr (2, [.ref (uu6 0), .int 0, .ref (uu6 1), .ref (uu6 2), .ref (uu6 3), .ref (uu6 4), .ref (uu6 5), .int 0, .ref (uu6 6), .ref (uu6 7), .ref (uu6 8), .ref (uu6 9), .ref (uu6 10)])), ((uu6 0), .inl (cs 0, 500, .inl (fun _ => 0))), (qn7, .inr (10, [.int 0, .null, .null, .null, .null, .null, .null, .null]))] H := hP
  have hD : va_D A [(ad0, .inr (11, [.ref qn1, .ref qn3, .ref qn5, .null, .null, .null, .null, .null, .null, .null, .null, .null, .null, .null, .null, .int 0, .null, .int 0, .null])), (qn1, .inr (9, [.ref (uu2 0), .int 0, .int 0, .int 0, .int 0])), ((uu2 0), .inl (cs 0, 500, .inl (fun _ => 0))), (qn3, .inr (2, [.ref (uu4 0), .int 0, .ref (uu4 1), .ref (uu4 2), .ref (uu4 3), .ref (uu4 4), .ref (uu4 5), .int 0, .ref (uu4 6), .ref (uu4 7), .ref (uu4 8), .ref (uu4 9), .ref (uu4 10)])), ((uu4 0), .inl (cs 0, 500, .inl (fun _ => 0))), (qn5, .inr (2, [.ref (uu6 0), .int 0, .ref (uu6 1), .ref (uu6 2), .ref (uu6 3), .ref (uu6 4), .ref (uu6 5), .int 0, .ref (uu6 6), .ref (uu6 7), .ref (uu6 8), .ref (uu6 9), .ref (uu6 10)])), ((uu6 0), .inl (cs 0, 500, .inl (fun _ => 0))), (qn7, .inr (10, [.int 0, .null, .null, .null, .null, .null, .null, .null]))] := hD
  refine lv_dup hx hb dX11_init_41 rfl ?_
  refine cx_IN (D := D) (cs := cs) (wc := [(qn7, .inr (10, [.int 0, .null, .null, .null, .null, .null, .null, .null]))]) (wr := [(ad0, .inr (11, [.ref qn1, .ref qn3, .ref qn5, .null, .null, .null, .null, .null, .null, .null, .null, .null, .null, .null, .null, .int 0, .null, .int 0, .null])), (qn1, .inr (9, [.ref (uu2 0), .int 0, .int 0, .int 0, .int 0])), ((uu2 0), .inl (cs 0, 500, .inl (fun _ => 0))), (qn3, .inr (2, [.ref (uu4 0), .int 0, .ref (uu4 1), .ref (uu4 2), .ref (uu4 3), .ref (uu4 4), .ref (uu4 5), .int 0, .ref (uu4 6), .ref (uu4 7), .ref (uu4 8), .ref (uu4 9), .ref (uu4 10)])), ((uu4 0), .inl (cs 0, 500, .inl (fun _ => 0))), (qn5, .inr (2, [.ref (uu6 0), .int 0, .ref (uu6 1), .ref (uu6 2), .ref (uu6 3), .ref (uu6 4), .ref (uu6 5), .int 0, .ref (uu6 6), .ref (uu6 7), .ref (uu6 8), .ref (uu6 9), .ref (uu6 10)])), ((uu6 0), .inl (cs 0, 500, .inl (fun _ => 0)))]) (v := none) (w1 := fun u => [(qn7, .inr (10, [.int 0, .ref (u 0), .ref (u 1), .ref (u 2), .ref (u 3), .ref (u 4), .ref (u 5), .ref (u 6)]))]) (As := []) (rest := [.ref qn7, .ref ad0]) (o := qn7) ⟨hx, hb, hml, hown, hB⟩ (fun sz => kX10_init l D cs qn7 sz) cw_114 cw_4 (by decide +kernel) cw_113 rfl rfl rfl (by decide +kernel) ⟨Nat.le_of_ble_eq_true rfl, Nat.le_of_ble_eq_true rfl⟩ hK hN hP hD hS hA [7] [0, 1, 2, 3, 4, 5, 6] rfl rfl (by decide) rfl hl.1 rfl (Nat.le_of_ble_eq_true rfl) dX11_init_42 ⟨Nat.le_of_ble_eq_true rfl, Nat.le_of_ble_eq_true rfl⟩ (fun uu8 H locs hP hD hS => ?_)
  refine W.eq (g2 := F0 m 45 ls [.ref qn7, .ref ad0]) rfl ?_
  have hP : va_P D vwCl [(ad0, .inr (11, [.ref qn1, .ref qn3, .ref qn5, .null, .null, .null, .null, .null, .null, .null, .null, .null, .null, .null, .null, .int 0, .null, .int 0, .null])), (qn1, .inr (9, [.ref (uu2 0), .int 0, .int 0, .int 0, .int 0])), ((uu2 0), .inl (cs 0, 500, .inl (fun _ => 0))), (qn3, .inr (2, [.ref (uu4 0), .int 0, .ref (uu4 1), .ref (uu4 2), .ref (uu4 3), .ref (uu4 4), .ref (uu4 5), .int 0, .ref (uu4 6), .ref (uu4 7), .ref (uu4 8), .ref (uu4 9), .ref (uu4 10)])), ((uu4 0), .inl (cs 0, 500, .inl (fun _ => 0))), (qn5, .inr (2, [.ref (uu6 0), .int 0, .ref (uu6 1), .ref (uu6 2), .ref (uu6 3), .ref (uu6 4), .ref (uu6 5), .int 0, .ref (uu6 6), .ref (uu6 7), .ref (uu6 8), .ref (uu6 9), .ref (uu6 10)])), ((uu6 0), .inl (cs 0, 500, .inl (fun _ => 0))), (qn7, .inr (10, [.int 0, .ref (uu8 0), .ref (uu8 1), .ref (uu8 2), .ref (uu8 3), .ref (uu8 4), .ref (uu8 5), .ref (uu8 6)]))] H := hP
  have hD : va_D A [(ad0, .inr (11, [.ref qn1, .ref qn3, .ref qn5, .null, .null, .null, .null, .null, .null, .null, .null, .null, .null, .null, .null, .int 0, .null, .int 0, .null])), (qn1, .inr (9, [.ref (uu2 0), .int 0, .int 0, .int 0, .int 0])), ((uu2 0), .inl (cs 0, 500, .inl (fun _ => 0))), (qn3, .inr (2, [.ref (uu4 0), .int 0, .ref (uu4 1), .ref (uu4 2), .ref (uu4 3), .ref (uu4 4), .ref (uu4 5), .int 0, .ref (uu4 6), .ref (uu4 7), .ref (uu4 8), .ref (uu4 9), .ref (uu4 10)])), ((uu4 0), .inl (cs 0, 500, .inl (fun _ => 0))), (qn5, .inr (2, [.ref (uu6 0), .int 0, .ref (uu6 1), .ref (uu6 2), .ref (uu6 3), .ref (uu6 4), .ref (uu6 5), .int 0, .ref (uu6 6), .ref (uu6 7), .ref (uu6 8), .ref (uu6 9), .ref (uu6 10)])), ((uu6 0), .inl (cs 0, 500, .inl (fun _ => 0))), (qn7, .inr (10, [.int 0, .ref (uu8 0), .ref (uu8 1), .ref (uu8 2), .ref (uu8 3), .ref (uu8 4), .ref (uu8 5), .ref (uu8 6)]))] := hD
  refine va_putF (D := D) (ci := 11) (v := .ref qn7) (ty := .object "TreeMerge$Tree") (C := RX11) (T := TX11) (N := 19) hx hb hB cx_inX11 tyX11 tyX11_ok nmX11 hown hK hP hD hS 0 rfl rfl 3 (by decide) (hB _ cw_386) (fun _ h9 => h9) rfl hnm rfl (by decide +kernel) rfl rfl (Nat.le_of_ble_eq_true rfl) dX11_init_45 (fun H locs hP hD hS => ?_)
  have hP : va_P D vwCl [(ad0, .inr (11, [.ref qn1, .ref qn3, .ref qn5, .ref qn7, .null, .null, .null, .null, .null, .null, .null, .null, .null, .null, .null, .int 0, .null, .int 0, .null])), (qn1, .inr (9, [.ref (uu2 0), .int 0, .int 0, .int 0, .int 0])), ((uu2 0), .inl (cs 0, 500, .inl (fun _ => 0))), (qn3, .inr (2, [.ref (uu4 0), .int 0, .ref (uu4 1), .ref (uu4 2), .ref (uu4 3), .ref (uu4 4), .ref (uu4 5), .int 0, .ref (uu4 6), .ref (uu4 7), .ref (uu4 8), .ref (uu4 9), .ref (uu4 10)])), ((uu4 0), .inl (cs 0, 500, .inl (fun _ => 0))), (qn5, .inr (2, [.ref (uu6 0), .int 0, .ref (uu6 1), .ref (uu6 2), .ref (uu6 3), .ref (uu6 4), .ref (uu6 5), .int 0, .ref (uu6 6), .ref (uu6 7), .ref (uu6 8), .ref (uu6 9), .ref (uu6 10)])), ((uu6 0), .inl (cs 0, 500, .inl (fun _ => 0))), (qn7, .inr (10, [.int 0, .ref (uu8 0), .ref (uu8 1), .ref (uu8 2), .ref (uu8 3), .ref (uu8 4), .ref (uu8 5), .ref (uu8 6)]))] H := hP
  have hD : va_D A [(ad0, .inr (11, [.ref qn1, .ref qn3, .ref qn5, .ref qn7, .null, .null, .null, .null, .null, .null, .null, .null, .null, .null, .null, .int 0, .null, .int 0, .null])), (qn1, .inr (9, [.ref (uu2 0), .int 0, .int 0, .int 0, .int 0])), ((uu2 0), .inl (cs 0, 500, .inl (fun _ => 0))), (qn3, .inr (2, [.ref (uu4 0), .int 0, .ref (uu4 1), .ref (uu4 2), .ref (uu4 3), .ref (uu4 4), .ref (uu4 5), .int 0, .ref (uu4 6), .ref (uu4 7), .ref (uu4 8), .ref (uu4 9), .ref (uu4 10)])), ((uu4 0), .inl (cs 0, 500, .inl (fun _ => 0))), (qn5, .inr (2, [.ref (uu6 0), .int 0, .ref (uu6 1), .ref (uu6 2), .ref (uu6 3), .ref (uu6 4), .ref (uu6 5), .int 0, .ref (uu6 6), .ref (uu6 7), .ref (uu6 8), .ref (uu6 9), .ref (uu6 10)])), ((uu6 0), .inl (cs 0, 500, .inl (fun _ => 0))), (qn7, .inr (10, [.int 0, .ref (uu8 0), .ref (uu8 1), .ref (uu8 2), .ref (uu8 3), .ref (uu8 4), .ref (uu8 5), .ref (uu8 6)]))] := hD
  refine lv_aload_n hx hb dX11_init_48 rfl (lv_at hl 0 rfl) ?_
  refine va_new (ci := 10) (fs := [.int 0, .null, .null, .null, .null, .null, .null, .null]) (C := RX10) (T := TX10) (N := 8) hx hb hB cx_inX10 tyX10 tyX10_ok hown (hB _ cw_110) (hB _ cw_111) (hB _ cw_4) hK hP hD hS hA rfl cx_fsX10 (Nat.le_of_ble_eq_true rfl) (Nat.le_of_ble_eq_true rfl) dX11_init_49 (fun qn9 H hP hD hS => ?_)
  have hP : va_P D vwCl [(ad0, .inr (11, [.ref qn1, .ref qn3, .ref qn5, .ref qn7, .null, .null, .null, .null, .null, .null, .null, .null, .null, .null, .null, .int 0, .null, .int 0, .null])), (qn1, .inr (9, [.ref (uu2 0), .int 0, .int 0, .int 0, .int 0])), ((uu2 0), .inl (cs 0, 500, .inl (fun _ => 0))), (qn3, .inr (2, [.ref (uu4 0), .int 0, .ref (uu4 1), .ref (uu4 2), .ref (uu4 3), .ref (uu4 4), .ref (uu4 5), .int 0, .ref (uu4 6), .ref (uu4 7), .ref (uu4 8), .ref (uu4 9), .ref (uu4 10)])), ((uu4 0), .inl (cs 0, 500, .inl (fun _ => 0))), (qn5, .inr (2, [.ref (uu6 0), .int 0, .ref (uu6 1), .ref (uu6 2), .ref (uu6 3), .ref (uu6 4), .ref (uu6 5), .int 0, .ref (uu6 6), .ref (uu6 7), .ref (uu6 8), .ref (uu6 9), .ref (uu6 10)])), ((uu6 0), .inl (cs 0, 500, .inl (fun _ => 0))), (qn7, .inr (10, [.int 0, .ref (uu8 0), .ref (uu8 1), .ref (uu8 2), .ref (uu8 3), .ref (uu8 4), .ref (uu8 5), .ref (uu8 6)])), (qn9, .inr (10, [.int 0, .null, .null, .null, .null, .null, .null, .null]))] H := hP
  have hD : va_D A [(ad0, .inr (11, [.ref qn1, .ref qn3, .ref qn5, .ref qn7, .null, .null, .null, .null, .null, .null, .null, .null, .null, .null, .null, .int 0, .null, .int 0, .null])), (qn1, .inr (9, [.ref (uu2 0), .int 0, .int 0, .int 0, .int 0])), ((uu2 0), .inl (cs 0, 500, .inl (fun _ => 0))), (qn3, .inr (2, [.ref (uu4 0), .int 0, .ref (uu4 1), .ref (uu4 2), .ref (uu4 3), .ref (uu4 4), .ref (uu4 5), .int 0, .ref (uu4 6), .ref (uu4 7), .ref (uu4 8), .ref (uu4 9), .ref (uu4 10)])), ((uu4 0), .inl (cs 0, 500, .inl (fun _ => 0))), (qn5, .inr (2, [.ref (uu6 0), .int 0, .ref (uu6 1), .ref (uu6 2), .ref (uu6 3), .ref (uu6 4), .ref (uu6 5), .int 0, .ref (uu6 6), .ref (uu6 7), .ref (uu6 8), .ref (uu6 9), .ref (uu6 10)])), ((uu6 0), .inl (cs 0, 500, .inl (fun _ => 0))), (qn7, .inr (10, [.int 0, .ref (uu8 0), .ref (uu8 1), .ref (uu8 2), .ref (uu8 3), .ref (uu8 4), .ref (uu8 5), .ref (uu8 6)])), (qn9, .inr (10, [.int 0, .null, .null, .null, .null, .null, .null, .null]))] := hD
  refine lv_dup hx hb dX11_init_52 rfl ?_
  refine cx_IN (D := D) (cs := cs) (wc := [(qn9, .inr (10, [.int 0, .null, .null, .null, .null, .null, .null, .null]))]) (wr := [(ad0, .inr (11, [.ref qn1, .ref qn3, .ref qn5, .ref qn7, .null, .null, .null, .null, .null, .null, .null, .null, .null, .null, .null, .int 0, .null, .int 0, .null])), (qn1, .inr (9, [.ref (uu2 0), .int 0, .int 0, .int 0, .int 0])), ((uu2 0), .inl (cs 0, 500, .inl (fun _ => 0))), (qn3, .inr (2, [.ref (uu4 0), .int 0, .ref (uu4 1), .ref (uu4 2), .ref (uu4 3), .ref (uu4 4), .ref (uu4 5), .int 0, .ref (uu4 6), .ref (uu4 7), .ref (uu4 8), .ref (uu4 9), .ref (uu4 10)])), ((uu4 0), .inl (cs 0, 500, .inl (fun _ => 0))), (qn5, .inr (2, [.ref (uu6 0), .int 0, .ref (uu6 1), .ref (uu6 2), .ref (uu6 3), .ref (uu6 4), .ref (uu6 5), .int 0, .ref (uu6 6), .ref (uu6 7), .ref (uu6 8), .ref (uu6 9), .ref (uu6 10)])), ((uu6 0), .inl (cs 0, 500, .inl (fun _ => 0))), (qn7, .inr (10, [.int 0, .ref (uu8 0), .ref (uu8 1), .ref (uu8 2), .ref (uu8 3), .ref (uu8 4), .ref (uu8 5), .ref (uu8 6)]))]) (v := none) (w1 := fun u => [(qn9, .inr (10, [.int 0, .ref (u 0), .ref (u 1), .ref (u 2), .ref (u 3), .ref (u 4), .ref (u 5), .ref (u 6)]))]) (As := []) (rest := [.ref qn9, .ref ad0]) (o := qn9) ⟨hx, hb, hml, hown, hB⟩ (fun sz => kX10_init l D cs qn9 sz) cw_114 cw_4 (by decide +kernel) cw_113 rfl rfl rfl (by decide +kernel) ⟨Nat.le_of_ble_eq_true rfl, Nat.le_of_ble_eq_true rfl⟩ hK hN hP hD hS hA [8] [0, 1, 2, 3, 4, 5, 6, 7] rfl rfl (by decide) rfl hl.1 rfl (Nat.le_of_ble_eq_true rfl) dX11_init_53 ⟨Nat.le_of_ble_eq_true rfl, Nat.le_of_ble_eq_true rfl⟩ (fun uu10 H locs hP hD hS => ?_)
  refine W.eq (g2 := F0 m 56 ls [.ref qn9, .ref ad0]) rfl ?_
  have hP : va_P D vwCl [(ad0, .inr (11, [.ref qn1, .ref qn3, .ref qn5, .ref qn7, .null, .null, .null, .null, .null, .null, .null, .null, .null, .null, .null, .int 0, .null, .int 0, .null])), (qn1, .inr (9, [.ref (uu2 0), .int 0, .int 0, .int 0, .int 0])), ((uu2 0), .inl (cs 0, 500, .inl (fun _ => 0))), (qn3, .inr (2, [.ref (uu4 0), .int 0, .ref (uu4 1), .ref (uu4 2), .ref (uu4 3), .ref (uu4 4), .ref (uu4 5), .int 0, .ref (uu4 6), .ref (uu4 7), .ref (uu4 8), .ref (uu4 9), .ref (uu4 10)])), ((uu4 0), .inl (cs 0, 500, .inl (fun _ => 0))), (qn5, .inr (2, [.ref (uu6 0), .int 0, .ref (uu6 1), .ref (uu6 2), .ref (uu6 3), .ref (uu6 4), .ref (uu6 5), .int 0, .ref (uu6 6), .ref (uu6 7), .ref (uu6 8), .ref (uu6 9), .ref (uu6 10)])), ((uu6 0), .inl (cs 0, 500, .inl (fun _ => 0))), (qn7, .inr (10, [.int 0, .ref (uu8 0), .ref (uu8 1), .ref (uu8 2), .ref (uu8 3), .ref (uu8 4), .ref (uu8 5), .ref (uu8 6)])), (qn9, .inr (10, [.int 0, .ref (uu10 0), .ref (uu10 1), .ref (uu10 2), .ref (uu10 3), .ref (uu10 4), .ref (uu10 5), .ref (uu10 6)]))] H := hP
  have hD : va_D A [(ad0, .inr (11, [.ref qn1, .ref qn3, .ref qn5, .ref qn7, .null, .null, .null, .null, .null, .null, .null, .null, .null, .null, .null, .int 0, .null, .int 0, .null])), (qn1, .inr (9, [.ref (uu2 0), .int 0, .int 0, .int 0, .int 0])), ((uu2 0), .inl (cs 0, 500, .inl (fun _ => 0))), (qn3, .inr (2, [.ref (uu4 0), .int 0, .ref (uu4 1), .ref (uu4 2), .ref (uu4 3), .ref (uu4 4), .ref (uu4 5), .int 0, .ref (uu4 6), .ref (uu4 7), .ref (uu4 8), .ref (uu4 9), .ref (uu4 10)])), ((uu4 0), .inl (cs 0, 500, .inl (fun _ => 0))), (qn5, .inr (2, [.ref (uu6 0), .int 0, .ref (uu6 1), .ref (uu6 2), .ref (uu6 3), .ref (uu6 4), .ref (uu6 5), .int 0, .ref (uu6 6), .ref (uu6 7), .ref (uu6 8), .ref (uu6 9), .ref (uu6 10)])), ((uu6 0), .inl (cs 0, 500, .inl (fun _ => 0))), (qn7, .inr (10, [.int 0, .ref (uu8 0), .ref (uu8 1), .ref (uu8 2), .ref (uu8 3), .ref (uu8 4), .ref (uu8 5), .ref (uu8 6)])), (qn9, .inr (10, [.int 0, .ref (uu10 0), .ref (uu10 1), .ref (uu10 2), .ref (uu10 3), .ref (uu10 4), .ref (uu10 5), .ref (uu10 6)]))] := hD
  refine va_putF (D := D) (ci := 11) (v := .ref qn9) (ty := .object "TreeMerge$Tree") (C := RX11) (T := TX11) (N := 19) hx hb hB cx_inX11 tyX11 tyX11_ok nmX11 hown hK hP hD hS 0 rfl rfl 4 (by decide) (hB _ cw_387) (fun _ h9 => h9) rfl hnm rfl (by decide +kernel) rfl rfl (Nat.le_of_ble_eq_true rfl) dX11_init_56 (fun H locs hP hD hS => ?_)
  have hP : va_P D vwCl [(ad0, .inr (11, [.ref qn1, .ref qn3, .ref qn5, .ref qn7, .ref qn9, .null, .null, .null, .null, .null, .null, .null, .null, .null, .null, .int 0, .null, .int 0, .null])), (qn1, .inr (9, [.ref (uu2 0), .int 0, .int 0, .int 0, .int 0])), ((uu2 0), .inl (cs 0, 500, .inl (fun _ => 0))), (qn3, .inr (2, [.ref (uu4 0), .int 0, .ref (uu4 1), .ref (uu4 2), .ref (uu4 3), .ref (uu4 4), .ref (uu4 5), .int 0, .ref (uu4 6), .ref (uu4 7), .ref (uu4 8), .ref (uu4 9), .ref (uu4 10)])), ((uu4 0), .inl (cs 0, 500, .inl (fun _ => 0))), (qn5, .inr (2, [.ref (uu6 0), .int 0, .ref (uu6 1), .ref (uu6 2), .ref (uu6 3), .ref (uu6 4), .ref (uu6 5), .int 0, .ref (uu6 6), .ref (uu6 7), .ref (uu6 8), .ref (uu6 9), .ref (uu6 10)])), ((uu6 0), .inl (cs 0, 500, .inl (fun _ => 0))), (qn7, .inr (10, [.int 0, .ref (uu8 0), .ref (uu8 1), .ref (uu8 2), .ref (uu8 3), .ref (uu8 4), .ref (uu8 5), .ref (uu8 6)])), (qn9, .inr (10, [.int 0, .ref (uu10 0), .ref (uu10 1), .ref (uu10 2), .ref (uu10 3), .ref (uu10 4), .ref (uu10 5), .ref (uu10 6)]))] H := hP
  have hD : va_D A [(ad0, .inr (11, [.ref qn1, .ref qn3, .ref qn5, .ref qn7, .ref qn9, .null, .null, .null, .null, .null, .null, .null, .null, .null, .null, .int 0, .null, .int 0, .null])), (qn1, .inr (9, [.ref (uu2 0), .int 0, .int 0, .int 0, .int 0])), ((uu2 0), .inl (cs 0, 500, .inl (fun _ => 0))), (qn3, .inr (2, [.ref (uu4 0), .int 0, .ref (uu4 1), .ref (uu4 2), .ref (uu4 3), .ref (uu4 4), .ref (uu4 5), .int 0, .ref (uu4 6), .ref (uu4 7), .ref (uu4 8), .ref (uu4 9), .ref (uu4 10)])), ((uu4 0), .inl (cs 0, 500, .inl (fun _ => 0))), (qn5, .inr (2, [.ref (uu6 0), .int 0, .ref (uu6 1), .ref (uu6 2), .ref (uu6 3), .ref (uu6 4), .ref (uu6 5), .int 0, .ref (uu6 6), .ref (uu6 7), .ref (uu6 8), .ref (uu6 9), .ref (uu6 10)])), ((uu6 0), .inl (cs 0, 500, .inl (fun _ => 0))), (qn7, .inr (10, [.int 0, .ref (uu8 0), .ref (uu8 1), .ref (uu8 2), .ref (uu8 3), .ref (uu8 4), .ref (uu8 5), .ref (uu8 6)])), (qn9, .inr (10, [.int 0, .ref (uu10 0), .ref (uu10 1), .ref (uu10 2), .ref (uu10 3), .ref (uu10 4), .ref (uu10 5), .ref (uu10 6)]))] := hD
  refine lv_aload_n hx hb dX11_init_59 rfl (lv_at hl 0 rfl) ?_
  refine va_new (ci := 3) (fs := [.int 0, .null, .null]) (C := RX3) (T := TX3) (N := 3) hx hb hB cx_inX3 tyX3 tyX3_ok hown (hB _ cw_171) (hB _ cw_172) (hB _ cw_5) hK hP hD hS hA rfl cx_fsX3 (Nat.le_of_ble_eq_true rfl) (Nat.le_of_ble_eq_true rfl) dX11_init_60 (fun qn11 H hP hD hS => ?_)
  have hP : va_P D vwCl [(ad0, .inr (11, [.ref qn1, .ref qn3, .ref qn5, .ref qn7, .ref qn9, .null, .null, .null, .null, .null, .null, .null, .null, .null, .null, .int 0, .null, .int 0, .null])), (qn1, .inr (9, [.ref (uu2 0), .int 0, .int 0, .int 0, .int 0])), ((uu2 0), .inl (cs 0, 500, .inl (fun _ => 0))), (qn3, .inr (2, [.ref (uu4 0), .int 0, .ref (uu4 1), .ref (uu4 2), .ref (uu4 3), .ref (uu4 4), .ref (uu4 5), .int 0, .ref (uu4 6), .ref (uu4 7), .ref (uu4 8), .ref (uu4 9), .ref (uu4 10)])), ((uu4 0), .inl (cs 0, 500, .inl (fun _ => 0))), (qn5, .inr (2, [.ref (uu6 0), .int 0, .ref (uu6 1), .ref (uu6 2), .ref (uu6 3), .ref (uu6 4), .ref (uu6 5), .int 0, .ref (uu6 6), .ref (uu6 7), .ref (uu6 8), .ref (uu6 9), .ref (uu6 10)])), ((uu6 0), .inl (cs 0, 500, .inl (fun _ => 0))), (qn7, .inr (10, [.int 0, .ref (uu8 0), .ref (uu8 1), .ref (uu8 2), .ref (uu8 3), .ref (uu8 4), .ref (uu8 5), .ref (uu8 6)])), (qn9, .inr (10, [.int 0, .ref (uu10 0), .ref (uu10 1), .ref (uu10 2), .ref (uu10 3), .ref (uu10 4), .ref (uu10 5), .ref (uu10 6)])), (qn11, .inr (3, [.int 0, .null, .null]))] H := hP
  have hD : va_D A [(ad0, .inr (11, [.ref qn1, .ref qn3, .ref qn5, .ref qn7, .ref qn9, .null, .null, .null, .null, .null, .null, .null, .null, .null, .null, .int 0, .null, .int 0, .null])), (qn1, .inr (9, [.ref (uu2 0), .int 0, .int 0, .int 0, .int 0])), ((uu2 0), .inl (cs 0, 500, .inl (fun _ => 0))), (qn3, .inr (2, [.ref (uu4 0), .int 0, .ref (uu4 1), .ref (uu4 2), .ref (uu4 3), .ref (uu4 4), .ref (uu4 5), .int 0, .ref (uu4 6), .ref (uu4 7), .ref (uu4 8), .ref (uu4 9), .ref (uu4 10)])), ((uu4 0), .inl (cs 0, 500, .inl (fun _ => 0))), (qn5, .inr (2, [.ref (uu6 0), .int 0, .ref (uu6 1), .ref (uu6 2), .ref (uu6 3), .ref (uu6 4), .ref (uu6 5), .int 0, .ref (uu6 6), .ref (uu6 7), .ref (uu6 8), .ref (uu6 9), .ref (uu6 10)])), ((uu6 0), .inl (cs 0, 500, .inl (fun _ => 0))), (qn7, .inr (10, [.int 0, .ref (uu8 0), .ref (uu8 1), .ref (uu8 2), .ref (uu8 3), .ref (uu8 4), .ref (uu8 5), .ref (uu8 6)])), (qn9, .inr (10, [.int 0, .ref (uu10 0), .ref (uu10 1), .ref (uu10 2), .ref (uu10 3), .ref (uu10 4), .ref (uu10 5), .ref (uu10 6)])), (qn11, .inr (3, [.int 0, .null, .null]))] := hD
  refine lv_dup hx hb dX11_init_63 rfl ?_
  refine cx_IN (D := D) (cs := cs) (wc := [(qn11, .inr (3, [.int 0, .null, .null]))]) (wr := [(ad0, .inr (11, [.ref qn1, .ref qn3, .ref qn5, .ref qn7, .ref qn9, .null, .null, .null, .null, .null, .null, .null, .null, .null, .null, .int 0, .null, .int 0, .null])), (qn1, .inr (9, [.ref (uu2 0), .int 0, .int 0, .int 0, .int 0])), ((uu2 0), .inl (cs 0, 500, .inl (fun _ => 0))), (qn3, .inr (2, [.ref (uu4 0), .int 0, .ref (uu4 1), .ref (uu4 2), .ref (uu4 3), .ref (uu4 4), .ref (uu4 5), .int 0, .ref (uu4 6), .ref (uu4 7), .ref (uu4 8), .ref (uu4 9), .ref (uu4 10)])), ((uu4 0), .inl (cs 0, 500, .inl (fun _ => 0))), (qn5, .inr (2, [.ref (uu6 0), .int 0, .ref (uu6 1), .ref (uu6 2), .ref (uu6 3), .ref (uu6 4), .ref (uu6 5), .int 0, .ref (uu6 6), .ref (uu6 7), .ref (uu6 8), .ref (uu6 9), .ref (uu6 10)])), ((uu6 0), .inl (cs 0, 500, .inl (fun _ => 0))), (qn7, .inr (10, [.int 0, .ref (uu8 0), .ref (uu8 1), .ref (uu8 2), .ref (uu8 3), .ref (uu8 4), .ref (uu8 5), .ref (uu8 6)])), (qn9, .inr (10, [.int 0, .ref (uu10 0), .ref (uu10 1), .ref (uu10 2), .ref (uu10 3), .ref (uu10 4), .ref (uu10 5), .ref (uu10 6)]))]) (v := none) (w1 := fun u => []) (As := []) (rest := [.ref qn11, .ref ad0]) (o := qn11) ⟨hx, hb, hml, hown, hB⟩ (fun sz => kX3_init l D cs qn11 sz) cw_175 cw_5 (by decide +kernel) cw_174 rfl rfl rfl (by decide +kernel) ⟨Nat.le_of_ble_eq_true rfl, Nat.le_of_ble_eq_true rfl⟩ hK hN hP hD hS hA [9] [0, 1, 2, 3, 4, 5, 6, 7, 8] rfl rfl (by decide) rfl hl.1 rfl (Nat.le_of_ble_eq_true rfl) dX11_init_64 ⟨Nat.le_of_ble_eq_true rfl, Nat.le_of_ble_eq_true rfl⟩ (fun uu12 H locs hP hD hS => ?_)
  refine W.eq (g2 := F0 m 67 ls [.ref qn11, .ref ad0]) rfl ?_
  have hP : va_P D vwCl [(ad0, .inr (11, [.ref qn1, .ref qn3, .ref qn5, .ref qn7, .ref qn9, .null, .null, .null, .null, .null, .null, .null, .null, .null, .null, .int 0, .null, .int 0, .null])), (qn1, .inr (9, [.ref (uu2 0), .int 0, .int 0, .int 0, .int 0])), ((uu2 0), .inl (cs 0, 500, .inl (fun _ => 0))), (qn3, .inr (2, [.ref (uu4 0), .int 0, .ref (uu4 1), .ref (uu4 2), .ref (uu4 3), .ref (uu4 4), .ref (uu4 5), .int 0, .ref (uu4 6), .ref (uu4 7), .ref (uu4 8), .ref (uu4 9), .ref (uu4 10)])), ((uu4 0), .inl (cs 0, 500, .inl (fun _ => 0))), (qn5, .inr (2, [.ref (uu6 0), .int 0, .ref (uu6 1), .ref (uu6 2), .ref (uu6 3), .ref (uu6 4), .ref (uu6 5), .int 0, .ref (uu6 6), .ref (uu6 7), .ref (uu6 8), .ref (uu6 9), .ref (uu6 10)])), ((uu6 0), .inl (cs 0, 500, .inl (fun _ => 0))), (qn7, .inr (10, [.int 0, .ref (uu8 0), .ref (uu8 1), .ref (uu8 2), .ref (uu8 3), .ref (uu8 4), .ref (uu8 5), .ref (uu8 6)])), (qn9, .inr (10, [.int 0, .ref (uu10 0), .ref (uu10 1), .ref (uu10 2), .ref (uu10 3), .ref (uu10 4), .ref (uu10 5), .ref (uu10 6)]))] H := hP
  have hD : va_D A [(ad0, .inr (11, [.ref qn1, .ref qn3, .ref qn5, .ref qn7, .ref qn9, .null, .null, .null, .null, .null, .null, .null, .null, .null, .null, .int 0, .null, .int 0, .null])), (qn1, .inr (9, [.ref (uu2 0), .int 0, .int 0, .int 0, .int 0])), ((uu2 0), .inl (cs 0, 500, .inl (fun _ => 0))), (qn3, .inr (2, [.ref (uu4 0), .int 0, .ref (uu4 1), .ref (uu4 2), .ref (uu4 3), .ref (uu4 4), .ref (uu4 5), .int 0, .ref (uu4 6), .ref (uu4 7), .ref (uu4 8), .ref (uu4 9), .ref (uu4 10)])), ((uu4 0), .inl (cs 0, 500, .inl (fun _ => 0))), (qn5, .inr (2, [.ref (uu6 0), .int 0, .ref (uu6 1), .ref (uu6 2), .ref (uu6 3), .ref (uu6 4), .ref (uu6 5), .int 0, .ref (uu6 6), .ref (uu6 7), .ref (uu6 8), .ref (uu6 9), .ref (uu6 10)])), ((uu6 0), .inl (cs 0, 500, .inl (fun _ => 0))), (qn7, .inr (10, [.int 0, .ref (uu8 0), .ref (uu8 1), .ref (uu8 2), .ref (uu8 3), .ref (uu8 4), .ref (uu8 5), .ref (uu8 6)])), (qn9, .inr (10, [.int 0, .ref (uu10 0), .ref (uu10 1), .ref (uu10 2), .ref (uu10 3), .ref (uu10 4), .ref (uu10 5), .ref (uu10 6)]))] := hD
  refine va_putF (D := D) (ci := 11) (v := .ref qn11) (ty := .object "TreeMerge$Kids") (C := RX11) (T := TX11) (N := 19) hx hb hB cx_inX11 tyX11 tyX11_ok nmX11 hown hK hP hD hS 0 rfl rfl 5 (by decide) (hB _ cw_388) (fun _ h9 => h9) rfl hnm rfl (by decide +kernel) rfl rfl (Nat.le_of_ble_eq_true rfl) dX11_init_67 (fun H locs hP hD hS => ?_)
  have hP : va_P D vwCl [(ad0, .inr (11, [.ref qn1, .ref qn3, .ref qn5, .ref qn7, .ref qn9, .ref qn11, .null, .null, .null, .null, .null, .null, .null, .null, .null, .int 0, .null, .int 0, .null])), (qn1, .inr (9, [.ref (uu2 0), .int 0, .int 0, .int 0, .int 0])), ((uu2 0), .inl (cs 0, 500, .inl (fun _ => 0))), (qn3, .inr (2, [.ref (uu4 0), .int 0, .ref (uu4 1), .ref (uu4 2), .ref (uu4 3), .ref (uu4 4), .ref (uu4 5), .int 0, .ref (uu4 6), .ref (uu4 7), .ref (uu4 8), .ref (uu4 9), .ref (uu4 10)])), ((uu4 0), .inl (cs 0, 500, .inl (fun _ => 0))), (qn5, .inr (2, [.ref (uu6 0), .int 0, .ref (uu6 1), .ref (uu6 2), .ref (uu6 3), .ref (uu6 4), .ref (uu6 5), .int 0, .ref (uu6 6), .ref (uu6 7), .ref (uu6 8), .ref (uu6 9), .ref (uu6 10)])), ((uu6 0), .inl (cs 0, 500, .inl (fun _ => 0))), (qn7, .inr (10, [.int 0, .ref (uu8 0), .ref (uu8 1), .ref (uu8 2), .ref (uu8 3), .ref (uu8 4), .ref (uu8 5), .ref (uu8 6)])), (qn9, .inr (10, [.int 0, .ref (uu10 0), .ref (uu10 1), .ref (uu10 2), .ref (uu10 3), .ref (uu10 4), .ref (uu10 5), .ref (uu10 6)]))] H := hP
  have hD : va_D A [(ad0, .inr (11, [.ref qn1, .ref qn3, .ref qn5, .ref qn7, .ref qn9, .ref qn11, .null, .null, .null, .null, .null, .null, .null, .null, .null, .int 0, .null, .int 0, .null])), (qn1, .inr (9, [.ref (uu2 0), .int 0, .int 0, .int 0, .int 0])), ((uu2 0), .inl (cs 0, 500, .inl (fun _ => 0))), (qn3, .inr (2, [.ref (uu4 0), .int 0, .ref (uu4 1), .ref (uu4 2), .ref (uu4 3), .ref (uu4 4), .ref (uu4 5), .int 0, .ref (uu4 6), .ref (uu4 7), .ref (uu4 8), .ref (uu4 9), .ref (uu4 10)])), ((uu4 0), .inl (cs 0, 500, .inl (fun _ => 0))), (qn5, .inr (2, [.ref (uu6 0), .int 0, .ref (uu6 1), .ref (uu6 2), .ref (uu6 3), .ref (uu6 4), .ref (uu6 5), .int 0, .ref (uu6 6), .ref (uu6 7), .ref (uu6 8), .ref (uu6 9), .ref (uu6 10)])), ((uu6 0), .inl (cs 0, 500, .inl (fun _ => 0))), (qn7, .inr (10, [.int 0, .ref (uu8 0), .ref (uu8 1), .ref (uu8 2), .ref (uu8 3), .ref (uu8 4), .ref (uu8 5), .ref (uu8 6)])), (qn9, .inr (10, [.int 0, .ref (uu10 0), .ref (uu10 1), .ref (uu10 2), .ref (uu10 3), .ref (uu10 4), .ref (uu10 5), .ref (uu10 6)]))] := hD
  refine lv_aload_n hx hb dX11_init_70 rfl (lv_at hl 0 rfl) ?_
  refine va_new (ci := 4) (fs := [.null, .null, .null, .null, .null, .int 0, .int 0]) (C := RX4) (T := TX4) (N := 7) hx hb hB cx_inX4 tyX4 tyX4_ok hown (hB _ cw_189) (hB _ cw_190) (hB _ cw_6) hK hP hD hS hA rfl cx_fsX4 (Nat.le_of_ble_eq_true rfl) (Nat.le_of_ble_eq_true rfl) dX11_init_71 (fun qn13 H hP hD hS => ?_)
  have hP : va_P D vwCl [(ad0, .inr (11, [.ref qn1, .ref qn3, .ref qn5, .ref qn7, .ref qn9, .ref qn11, .null, .null, .null, .null, .null, .null, .null, .null, .null, .int 0, .null, .int 0, .null])), (qn1, .inr (9, [.ref (uu2 0), .int 0, .int 0, .int 0, .int 0])), ((uu2 0), .inl (cs 0, 500, .inl (fun _ => 0))), (qn3, .inr (2, [.ref (uu4 0), .int 0, .ref (uu4 1), .ref (uu4 2), .ref (uu4 3), .ref (uu4 4), .ref (uu4 5), .int 0, .ref (uu4 6), .ref (uu4 7), .ref (uu4 8), .ref (uu4 9), .ref (uu4 10)])), ((uu4 0), .inl (cs 0, 500, .inl (fun _ => 0))), (qn5, .inr (2, [.ref (uu6 0), .int 0, .ref (uu6 1), .ref (uu6 2), .ref (uu6 3), .ref (uu6 4), .ref (uu6 5), .int 0, .ref (uu6 6), .ref (uu6 7), .ref (uu6 8), .ref (uu6 9), .ref (uu6 10)])), ((uu6 0), .inl (cs 0, 500, .inl (fun _ => 0))), (qn7, .inr (10, [.int 0, .ref (uu8 0), .ref (uu8 1), .ref (uu8 2), .ref (uu8 3), .ref (uu8 4), .ref (uu8 5), .ref (uu8 6)])), (qn9, .inr (10, [.int 0, .ref (uu10 0), .ref (uu10 1), .ref (uu10 2), .ref (uu10 3), .ref (uu10 4), .ref (uu10 5), .ref (uu10 6)])), (qn13, .inr (4, [.null, .null, .null, .null, .null, .int 0, .int 0]))] H := hP
  have hD : va_D A [(ad0, .inr (11, [.ref qn1, .ref qn3, .ref qn5, .ref qn7, .ref qn9, .ref qn11, .null, .null, .null, .null, .null, .null, .null, .null, .null, .int 0, .null, .int 0, .null])), (qn1, .inr (9, [.ref (uu2 0), .int 0, .int 0, .int 0, .int 0])), ((uu2 0), .inl (cs 0, 500, .inl (fun _ => 0))), (qn3, .inr (2, [.ref (uu4 0), .int 0, .ref (uu4 1), .ref (uu4 2), .ref (uu4 3), .ref (uu4 4), .ref (uu4 5), .int 0, .ref (uu4 6), .ref (uu4 7), .ref (uu4 8), .ref (uu4 9), .ref (uu4 10)])), ((uu4 0), .inl (cs 0, 500, .inl (fun _ => 0))), (qn5, .inr (2, [.ref (uu6 0), .int 0, .ref (uu6 1), .ref (uu6 2), .ref (uu6 3), .ref (uu6 4), .ref (uu6 5), .int 0, .ref (uu6 6), .ref (uu6 7), .ref (uu6 8), .ref (uu6 9), .ref (uu6 10)])), ((uu6 0), .inl (cs 0, 500, .inl (fun _ => 0))), (qn7, .inr (10, [.int 0, .ref (uu8 0), .ref (uu8 1), .ref (uu8 2), .ref (uu8 3), .ref (uu8 4), .ref (uu8 5), .ref (uu8 6)])), (qn9, .inr (10, [.int 0, .ref (uu10 0), .ref (uu10 1), .ref (uu10 2), .ref (uu10 3), .ref (uu10 4), .ref (uu10 5), .ref (uu10 6)])), (qn13, .inr (4, [.null, .null, .null, .null, .null, .int 0, .int 0]))] := hD
  refine lv_dup hx hb dX11_init_74 rfl ?_
  refine cx_IN (D := D) (cs := cs) (wc := [(qn13, .inr (4, [.null, .null, .null, .null, .null, .int 0, .int 0]))]) (wr := [(ad0, .inr (11, [.ref qn1, .ref qn3, .ref qn5, .ref qn7, .ref qn9, .ref qn11, .null, .null, .null, .null, .null, .null, .null, .null, .null, .int 0, .null, .int 0, .null])), (qn1, .inr (9, [.ref (uu2 0), .int 0, .int 0, .int 0, .int 0])), ((uu2 0), .inl (cs 0, 500, .inl (fun _ => 0))), (qn3, .inr (2, [.ref (uu4 0), .int 0, .ref (uu4 1), .ref (uu4 2), .ref (uu4 3), .ref (uu4 4), .ref (uu4 5), .int 0, .ref (uu4 6), .ref (uu4 7), .ref (uu4 8), .ref (uu4 9), .ref (uu4 10)])), ((uu4 0), .inl (cs 0, 500, .inl (fun _ => 0))), (qn5, .inr (2, [.ref (uu6 0), .int 0, .ref (uu6 1), .ref (uu6 2), .ref (uu6 3), .ref (uu6 4), .ref (uu6 5), .int 0, .ref (uu6 6), .ref (uu6 7), .ref (uu6 8), .ref (uu6 9), .ref (uu6 10)])), ((uu6 0), .inl (cs 0, 500, .inl (fun _ => 0))), (qn7, .inr (10, [.int 0, .ref (uu8 0), .ref (uu8 1), .ref (uu8 2), .ref (uu8 3), .ref (uu8 4), .ref (uu8 5), .ref (uu8 6)])), (qn9, .inr (10, [.int 0, .ref (uu10 0), .ref (uu10 1), .ref (uu10 2), .ref (uu10 3), .ref (uu10 4), .ref (uu10 5), .ref (uu10 6)]))]) (v := none) (w1 := fun u => []) (As := []) (rest := [.ref qn13, .ref ad0]) (o := qn13) ⟨hx, hb, hml, hown, hB⟩ (fun sz => kX4_init l D cs qn13 sz) cw_193 cw_6 (by decide +kernel) cw_192 rfl rfl rfl (by decide +kernel) ⟨Nat.le_of_ble_eq_true rfl, Nat.le_of_ble_eq_true rfl⟩ hK hN hP hD hS hA [9] [0, 1, 2, 3, 4, 5, 6, 7, 8] rfl rfl (by decide) rfl hl.1 rfl (Nat.le_of_ble_eq_true rfl) dX11_init_75 ⟨Nat.le_of_ble_eq_true rfl, Nat.le_of_ble_eq_true rfl⟩ (fun uu14 H locs hP hD hS => ?_)
  refine W.eq (g2 := F0 m 78 ls [.ref qn13, .ref ad0]) rfl ?_
  have hP : va_P D vwCl [(ad0, .inr (11, [.ref qn1, .ref qn3, .ref qn5, .ref qn7, .ref qn9, .ref qn11, .null, .null, .null, .null, .null, .null, .null, .null, .null, .int 0, .null, .int 0, .null])), (qn1, .inr (9, [.ref (uu2 0), .int 0, .int 0, .int 0, .int 0])), ((uu2 0), .inl (cs 0, 500, .inl (fun _ => 0))), (qn3, .inr (2, [.ref (uu4 0), .int 0, .ref (uu4 1), .ref (uu4 2), .ref (uu4 3), .ref (uu4 4), .ref (uu4 5), .int 0, .ref (uu4 6), .ref (uu4 7), .ref (uu4 8), .ref (uu4 9), .ref (uu4 10)])), ((uu4 0), .inl (cs 0, 500, .inl (fun _ => 0))), (qn5, .inr (2, [.ref (uu6 0), .int 0, .ref (uu6 1), .ref (uu6 2), .ref (uu6 3), .ref (uu6 4), .ref (uu6 5), .int 0, .ref (uu6 6), .ref (uu6 7), .ref (uu6 8), .ref (uu6 9), .ref (uu6 10)])), ((uu6 0), .inl (cs 0, 500, .inl (fun _ => 0))), (qn7, .inr (10, [.int 0, .ref (uu8 0), .ref (uu8 1), .ref (uu8 2), .ref (uu8 3), .ref (uu8 4), .ref (uu8 5), .ref (uu8 6)])), (qn9, .inr (10, [.int 0, .ref (uu10 0), .ref (uu10 1), .ref (uu10 2), .ref (uu10 3), .ref (uu10 4), .ref (uu10 5), .ref (uu10 6)]))] H := hP
  have hD : va_D A [(ad0, .inr (11, [.ref qn1, .ref qn3, .ref qn5, .ref qn7, .ref qn9, .ref qn11, .null, .null, .null, .null, .null, .null, .null, .null, .null, .int 0, .null, .int 0, .null])), (qn1, .inr (9, [.ref (uu2 0), .int 0, .int 0, .int 0, .int 0])), ((uu2 0), .inl (cs 0, 500, .inl (fun _ => 0))), (qn3, .inr (2, [.ref (uu4 0), .int 0, .ref (uu4 1), .ref (uu4 2), .ref (uu4 3), .ref (uu4 4), .ref (uu4 5), .int 0, .ref (uu4 6), .ref (uu4 7), .ref (uu4 8), .ref (uu4 9), .ref (uu4 10)])), ((uu4 0), .inl (cs 0, 500, .inl (fun _ => 0))), (qn5, .inr (2, [.ref (uu6 0), .int 0, .ref (uu6 1), .ref (uu6 2), .ref (uu6 3), .ref (uu6 4), .ref (uu6 5), .int 0, .ref (uu6 6), .ref (uu6 7), .ref (uu6 8), .ref (uu6 9), .ref (uu6 10)])), ((uu6 0), .inl (cs 0, 500, .inl (fun _ => 0))), (qn7, .inr (10, [.int 0, .ref (uu8 0), .ref (uu8 1), .ref (uu8 2), .ref (uu8 3), .ref (uu8 4), .ref (uu8 5), .ref (uu8 6)])), (qn9, .inr (10, [.int 0, .ref (uu10 0), .ref (uu10 1), .ref (uu10 2), .ref (uu10 3), .ref (uu10 4), .ref (uu10 5), .ref (uu10 6)]))] := hD
  refine va_putF (D := D) (ci := 11) (v := .ref qn13) (ty := .object "TreeMerge$Matcher") (C := RX11) (T := TX11) (N := 19) hx hb hB cx_inX11 tyX11 tyX11_ok nmX11 hown hK hP hD hS 0 rfl rfl 6 (by decide) (hB _ cw_389) (fun _ h9 => h9) rfl hnm rfl (by decide +kernel) rfl rfl (Nat.le_of_ble_eq_true rfl) dX11_init_78 (fun H locs hP hD hS => ?_)
  have hP : va_P D vwCl [(ad0, .inr (11, [.ref qn1, .ref qn3, .ref qn5, .ref qn7, .ref qn9, .ref qn11, .ref qn13, .null, .null, .null, .null, .null, .null, .null, .null, .int 0, .null, .int 0, .null])), (qn1, .inr (9, [.ref (uu2 0), .int 0, .int 0, .int 0, .int 0])), ((uu2 0), .inl (cs 0, 500, .inl (fun _ => 0))), (qn3, .inr (2, [.ref (uu4 0), .int 0, .ref (uu4 1), .ref (uu4 2), .ref (uu4 3), .ref (uu4 4), .ref (uu4 5), .int 0, .ref (uu4 6), .ref (uu4 7), .ref (uu4 8), .ref (uu4 9), .ref (uu4 10)])), ((uu4 0), .inl (cs 0, 500, .inl (fun _ => 0))), (qn5, .inr (2, [.ref (uu6 0), .int 0, .ref (uu6 1), .ref (uu6 2), .ref (uu6 3), .ref (uu6 4), .ref (uu6 5), .int 0, .ref (uu6 6), .ref (uu6 7), .ref (uu6 8), .ref (uu6 9), .ref (uu6 10)])), ((uu6 0), .inl (cs 0, 500, .inl (fun _ => 0))), (qn7, .inr (10, [.int 0, .ref (uu8 0), .ref (uu8 1), .ref (uu8 2), .ref (uu8 3), .ref (uu8 4), .ref (uu8 5), .ref (uu8 6)])), (qn9, .inr (10, [.int 0, .ref (uu10 0), .ref (uu10 1), .ref (uu10 2), .ref (uu10 3), .ref (uu10 4), .ref (uu10 5), .ref (uu10 6)]))] H := hP
  have hD : va_D A [(ad0, .inr (11, [.ref qn1, .ref qn3, .ref qn5, .ref qn7, .ref qn9, .ref qn11, .ref qn13, .null, .null, .null, .null, .null, .null, .null, .null, .int 0, .null, .int 0, .null])), (qn1, .inr (9, [.ref (uu2 0), .int 0, .int 0, .int 0, .int 0])), ((uu2 0), .inl (cs 0, 500, .inl (fun _ => 0))), (qn3, .inr (2, [.ref (uu4 0), .int 0, .ref (uu4 1), .ref (uu4 2), .ref (uu4 3), .ref (uu4 4), .ref (uu4 5), .int 0, .ref (uu4 6), .ref (uu4 7), .ref (uu4 8), .ref (uu4 9), .ref (uu4 10)])), ((uu4 0), .inl (cs 0, 500, .inl (fun _ => 0))), (qn5, .inr (2, [.ref (uu6 0), .int 0, .ref (uu6 1), .ref (uu6 2), .ref (uu6 3), .ref (uu6 4), .ref (uu6 5), .int 0, .ref (uu6 6), .ref (uu6 7), .ref (uu6 8), .ref (uu6 9), .ref (uu6 10)])), ((uu6 0), .inl (cs 0, 500, .inl (fun _ => 0))), (qn7, .inr (10, [.int 0, .ref (uu8 0), .ref (uu8 1), .ref (uu8 2), .ref (uu8 3), .ref (uu8 4), .ref (uu8 5), .ref (uu8 6)])), (qn9, .inr (10, [.int 0, .ref (uu10 0), .ref (uu10 1), .ref (uu10 2), .ref (uu10 3), .ref (uu10 4), .ref (uu10 5), .ref (uu10 6)]))] := hD
  refine lv_aload_n hx hb dX11_init_81 rfl (lv_at hl 0 rfl) ?_
  refine va_new (ci := 1) (fs := [.int 0, .null, .null, .null, .null]) (C := RX1) (T := TX1) (N := 5) hx hb hB cx_inX1 tyX1 tyX1_ok hown (hB _ cw_221) (hB _ cw_222) (hB _ cw_7) hK hP hD hS hA rfl cx_fsX1 (Nat.le_of_ble_eq_true rfl) (Nat.le_of_ble_eq_true rfl) dX11_init_82 (fun qn15 H hP hD hS => ?_)
  have hP : va_P D vwCl [(ad0, .inr (11, [.ref qn1, .ref qn3, .ref qn5, .ref qn7, .ref qn9, .ref qn11, .ref qn13, .null, .null, .null, .null, .null, .null, .null, .null, .int 0, .null, .int 0, .null])), (qn1, .inr (9, [.ref (uu2 0), .int 0, .int 0, .int 0, .int 0])), ((uu2 0), .inl (cs 0, 500, .inl (fun _ => 0))), (qn3, .inr (2, [.ref (uu4 0), .int 0, .ref (uu4 1), .ref (uu4 2), .ref (uu4 3), .ref (uu4 4), .ref (uu4 5), .int 0, .ref (uu4 6), .ref (uu4 7), .ref (uu4 8), .ref (uu4 9), .ref (uu4 10)])), ((uu4 0), .inl (cs 0, 500, .inl (fun _ => 0))), (qn5, .inr (2, [.ref (uu6 0), .int 0, .ref (uu6 1), .ref (uu6 2), .ref (uu6 3), .ref (uu6 4), .ref (uu6 5), .int 0, .ref (uu6 6), .ref (uu6 7), .ref (uu6 8), .ref (uu6 9), .ref (uu6 10)])), ((uu6 0), .inl (cs 0, 500, .inl (fun _ => 0))), (qn7, .inr (10, [.int 0, .ref (uu8 0), .ref (uu8 1), .ref (uu8 2), .ref (uu8 3), .ref (uu8 4), .ref (uu8 5), .ref (uu8 6)])), (qn9, .inr (10, [.int 0, .ref (uu10 0), .ref (uu10 1), .ref (uu10 2), .ref (uu10 3), .ref (uu10 4), .ref (uu10 5), .ref (uu10 6)])), (qn15, .inr (1, [.int 0, .null, .null, .null, .null]))] H := hP
  have hD : va_D A [(ad0, .inr (11, [.ref qn1, .ref qn3, .ref qn5, .ref qn7, .ref qn9, .ref qn11, .ref qn13, .null, .null, .null, .null, .null, .null, .null, .null, .int 0, .null, .int 0, .null])), (qn1, .inr (9, [.ref (uu2 0), .int 0, .int 0, .int 0, .int 0])), ((uu2 0), .inl (cs 0, 500, .inl (fun _ => 0))), (qn3, .inr (2, [.ref (uu4 0), .int 0, .ref (uu4 1), .ref (uu4 2), .ref (uu4 3), .ref (uu4 4), .ref (uu4 5), .int 0, .ref (uu4 6), .ref (uu4 7), .ref (uu4 8), .ref (uu4 9), .ref (uu4 10)])), ((uu4 0), .inl (cs 0, 500, .inl (fun _ => 0))), (qn5, .inr (2, [.ref (uu6 0), .int 0, .ref (uu6 1), .ref (uu6 2), .ref (uu6 3), .ref (uu6 4), .ref (uu6 5), .int 0, .ref (uu6 6), .ref (uu6 7), .ref (uu6 8), .ref (uu6 9), .ref (uu6 10)])), ((uu6 0), .inl (cs 0, 500, .inl (fun _ => 0))), (qn7, .inr (10, [.int 0, .ref (uu8 0), .ref (uu8 1), .ref (uu8 2), .ref (uu8 3), .ref (uu8 4), .ref (uu8 5), .ref (uu8 6)])), (qn9, .inr (10, [.int 0, .ref (uu10 0), .ref (uu10 1), .ref (uu10 2), .ref (uu10 3), .ref (uu10 4), .ref (uu10 5), .ref (uu10 6)])), (qn15, .inr (1, [.int 0, .null, .null, .null, .null]))] := hD
  refine lv_dup hx hb dX11_init_85 rfl ?_
  refine cx_IN (D := D) (cs := cs) (wc := [(qn15, .inr (1, [.int 0, .null, .null, .null, .null]))]) (wr := [(ad0, .inr (11, [.ref qn1, .ref qn3, .ref qn5, .ref qn7, .ref qn9, .ref qn11, .ref qn13, .null, .null, .null, .null, .null, .null, .null, .null, .int 0, .null, .int 0, .null])), (qn1, .inr (9, [.ref (uu2 0), .int 0, .int 0, .int 0, .int 0])), ((uu2 0), .inl (cs 0, 500, .inl (fun _ => 0))), (qn3, .inr (2, [.ref (uu4 0), .int 0, .ref (uu4 1), .ref (uu4 2), .ref (uu4 3), .ref (uu4 4), .ref (uu4 5), .int 0, .ref (uu4 6), .ref (uu4 7), .ref (uu4 8), .ref (uu4 9), .ref (uu4 10)])), ((uu4 0), .inl (cs 0, 500, .inl (fun _ => 0))), (qn5, .inr (2, [.ref (uu6 0), .int 0, .ref (uu6 1), .ref (uu6 2), .ref (uu6 3), .ref (uu6 4), .ref (uu6 5), .int 0, .ref (uu6 6), .ref (uu6 7), .ref (uu6 8), .ref (uu6 9), .ref (uu6 10)])), ((uu6 0), .inl (cs 0, 500, .inl (fun _ => 0))), (qn7, .inr (10, [.int 0, .ref (uu8 0), .ref (uu8 1), .ref (uu8 2), .ref (uu8 3), .ref (uu8 4), .ref (uu8 5), .ref (uu8 6)])), (qn9, .inr (10, [.int 0, .ref (uu10 0), .ref (uu10 1), .ref (uu10 2), .ref (uu10 3), .ref (uu10 4), .ref (uu10 5), .ref (uu10 6)]))]) (v := none) (w1 := fun u => [(qn15, .inr (1, [.int 0, .ref (u 0), .ref (u 1), .ref (u 2), .ref (u 3)]))]) (As := []) (rest := [.ref qn15, .ref ad0]) (o := qn15) ⟨hx, hb, hml, hown, hB⟩ (fun sz => kX1_init l D cs qn15 sz) cw_225 cw_7 (by decide +kernel) cw_224 rfl rfl rfl (by decide +kernel) ⟨Nat.le_of_ble_eq_true rfl, Nat.le_of_ble_eq_true rfl⟩ hK hN hP hD hS hA [9] [0, 1, 2, 3, 4, 5, 6, 7, 8] rfl rfl (by decide) rfl hl.1 rfl (Nat.le_of_ble_eq_true rfl) dX11_init_86 ⟨Nat.le_of_ble_eq_true rfl, Nat.le_of_ble_eq_true rfl⟩ (fun uu16 H locs hP hD hS => ?_)
  refine W.eq (g2 := F0 m 89 ls [.ref qn15, .ref ad0]) rfl ?_
  have hP : va_P D vwCl [(ad0, .inr (11, [.ref qn1, .ref qn3, .ref qn5, .ref qn7, .ref qn9, .ref qn11, .ref qn13, .null, .null, .null, .null, .null, .null, .null, .null, .int 0, .null, .int 0, .null])), (qn1, .inr (9, [.ref (uu2 0), .int 0, .int 0, .int 0, .int 0])), ((uu2 0), .inl (cs 0, 500, .inl (fun _ => 0))), (qn3, .inr (2, [.ref (uu4 0), .int 0, .ref (uu4 1), .ref (uu4 2), .ref (uu4 3), .ref (uu4 4), .ref (uu4 5), .int 0, .ref (uu4 6), .ref (uu4 7), .ref (uu4 8), .ref (uu4 9), .ref (uu4 10)])), ((uu4 0), .inl (cs 0, 500, .inl (fun _ => 0))), (qn5, .inr (2, [.ref (uu6 0), .int 0, .ref (uu6 1), .ref (uu6 2), .ref (uu6 3), .ref (uu6 4), .ref (uu6 5), .int 0, .ref (uu6 6), .ref (uu6 7), .ref (uu6 8), .ref (uu6 9), .ref (uu6 10)])), ((uu6 0), .inl (cs 0, 500, .inl (fun _ => 0))), (qn7, .inr (10, [.int 0, .ref (uu8 0), .ref (uu8 1), .ref (uu8 2), .ref (uu8 3), .ref (uu8 4), .ref (uu8 5), .ref (uu8 6)])), (qn9, .inr (10, [.int 0, .ref (uu10 0), .ref (uu10 1), .ref (uu10 2), .ref (uu10 3), .ref (uu10 4), .ref (uu10 5), .ref (uu10 6)])), (qn15, .inr (1, [.int 0, .ref (uu16 0), .ref (uu16 1), .ref (uu16 2), .ref (uu16 3)]))] H := hP
  have hD : va_D A [(ad0, .inr (11, [.ref qn1, .ref qn3, .ref qn5, .ref qn7, .ref qn9, .ref qn11, .ref qn13, .null, .null, .null, .null, .null, .null, .null, .null, .int 0, .null, .int 0, .null])), (qn1, .inr (9, [.ref (uu2 0), .int 0, .int 0, .int 0, .int 0])), ((uu2 0), .inl (cs 0, 500, .inl (fun _ => 0))), (qn3, .inr (2, [.ref (uu4 0), .int 0, .ref (uu4 1), .ref (uu4 2), .ref (uu4 3), .ref (uu4 4), .ref (uu4 5), .int 0, .ref (uu4 6), .ref (uu4 7), .ref (uu4 8), .ref (uu4 9), .ref (uu4 10)])), ((uu4 0), .inl (cs 0, 500, .inl (fun _ => 0))), (qn5, .inr (2, [.ref (uu6 0), .int 0, .ref (uu6 1), .ref (uu6 2), .ref (uu6 3), .ref (uu6 4), .ref (uu6 5), .int 0, .ref (uu6 6), .ref (uu6 7), .ref (uu6 8), .ref (uu6 9), .ref (uu6 10)])), ((uu6 0), .inl (cs 0, 500, .inl (fun _ => 0))), (qn7, .inr (10, [.int 0, .ref (uu8 0), .ref (uu8 1), .ref (uu8 2), .ref (uu8 3), .ref (uu8 4), .ref (uu8 5), .ref (uu8 6)])), (qn9, .inr (10, [.int 0, .ref (uu10 0), .ref (uu10 1), .ref (uu10 2), .ref (uu10 3), .ref (uu10 4), .ref (uu10 5), .ref (uu10 6)])), (qn15, .inr (1, [.int 0, .ref (uu16 0), .ref (uu16 1), .ref (uu16 2), .ref (uu16 3)]))] := hD
  refine va_putF (D := D) (ci := 11) (v := .ref qn15) (ty := .object "TreeMerge$Editions") (C := RX11) (T := TX11) (N := 19) hx hb hB cx_inX11 tyX11 tyX11_ok nmX11 hown hK hP hD hS 0 rfl rfl 7 (by decide) (hB _ cw_390) (fun _ h9 => h9) rfl hnm rfl (by decide +kernel) rfl rfl (Nat.le_of_ble_eq_true rfl) dX11_init_89 (fun H locs hP hD hS => ?_)
  have hP : va_P D vwCl [(ad0, .inr (11, [.ref qn1, .ref qn3, .ref qn5, .ref qn7, .ref qn9, .ref qn11, .ref qn13, .ref qn15, .null, .null, .null, .null, .null, .null, .null, .int 0, .null, .int 0, .null])), (qn1, .inr (9, [.ref (uu2 0), .int 0, .int 0, .int 0, .int 0])), ((uu2 0), .inl (cs 0, 500, .inl (fun _ => 0))), (qn3, .inr (2, [.ref (uu4 0), .int 0, .ref (uu4 1), .ref (uu4 2), .ref (uu4 3), .ref (uu4 4), .ref (uu4 5), .int 0, .ref (uu4 6), .ref (uu4 7), .ref (uu4 8), .ref (uu4 9), .ref (uu4 10)])), ((uu4 0), .inl (cs 0, 500, .inl (fun _ => 0))), (qn5, .inr (2, [.ref (uu6 0), .int 0, .ref (uu6 1), .ref (uu6 2), .ref (uu6 3), .ref (uu6 4), .ref (uu6 5), .int 0, .ref (uu6 6), .ref (uu6 7), .ref (uu6 8), .ref (uu6 9), .ref (uu6 10)])), ((uu6 0), .inl (cs 0, 500, .inl (fun _ => 0))), (qn7, .inr (10, [.int 0, .ref (uu8 0), .ref (uu8 1), .ref (uu8 2), .ref (uu8 3), .ref (uu8 4), .ref (uu8 5), .ref (uu8 6)])), (qn9, .inr (10, [.int 0, .ref (uu10 0), .ref (uu10 1), .ref (uu10 2), .ref (uu10 3), .ref (uu10 4), .ref (uu10 5), .ref (uu10 6)])), (qn15, .inr (1, [.int 0, .ref (uu16 0), .ref (uu16 1), .ref (uu16 2), .ref (uu16 3)]))] H := hP
  have hD : va_D A [(ad0, .inr (11, [.ref qn1, .ref qn3, .ref qn5, .ref qn7, .ref qn9, .ref qn11, .ref qn13, .ref qn15, .null, .null, .null, .null, .null, .null, .null, .int 0, .null, .int 0, .null])), (qn1, .inr (9, [.ref (uu2 0), .int 0, .int 0, .int 0, .int 0])), ((uu2 0), .inl (cs 0, 500, .inl (fun _ => 0))), (qn3, .inr (2, [.ref (uu4 0), .int 0, .ref (uu4 1), .ref (uu4 2), .ref (uu4 3), .ref (uu4 4), .ref (uu4 5), .int 0, .ref (uu4 6), .ref (uu4 7), .ref (uu4 8), .ref (uu4 9), .ref (uu4 10)])), ((uu4 0), .inl (cs 0, 500, .inl (fun _ => 0))), (qn5, .inr (2, [.ref (uu6 0), .int 0, .ref (uu6 1), .ref (uu6 2), .ref (uu6 3), .ref (uu6 4), .ref (uu6 5), .int 0, .ref (uu6 6), .ref (uu6 7), .ref (uu6 8), .ref (uu6 9), .ref (uu6 10)])), ((uu6 0), .inl (cs 0, 500, .inl (fun _ => 0))), (qn7, .inr (10, [.int 0, .ref (uu8 0), .ref (uu8 1), .ref (uu8 2), .ref (uu8 3), .ref (uu8 4), .ref (uu8 5), .ref (uu8 6)])), (qn9, .inr (10, [.int 0, .ref (uu10 0), .ref (uu10 1), .ref (uu10 2), .ref (uu10 3), .ref (uu10 4), .ref (uu10 5), .ref (uu10 6)])), (qn15, .inr (1, [.int 0, .ref (uu16 0), .ref (uu16 1), .ref (uu16 2), .ref (uu16 3)]))] := hD
  refine lv_aload_n hx hb dX11_init_92 rfl (lv_at hl 0 rfl) ?_
  refine va_new (ci := 0) (fs := [.int 0, .int 0, .null, .null]) (C := RX0) (T := TX0) (N := 4) hx hb hB cx_inX0 tyX0 tyX0_ok hown (hB _ cw_248) (hB _ cw_249) (hB _ cw_8) hK hP hD hS hA rfl cx_fsX0 (Nat.le_of_ble_eq_true rfl) (Nat.le_of_ble_eq_true rfl) dX11_init_93 (fun qn17 H hP hD hS => ?_)
  have hP : va_P D vwCl [(ad0, .inr (11, [.ref qn1, .ref qn3, .ref qn5, .ref qn7, .ref qn9, .ref qn11, .ref qn13, .ref qn15, .null, .null, .null, .null, .null, .null, .null, .int 0, .null, .int 0, .null])), (qn1, .inr (9, [.ref (uu2 0), .int 0, .int 0, .int 0, .int 0])), ((uu2 0), .inl (cs 0, 500, .inl (fun _ => 0))), (qn3, .inr (2, [.ref (uu4 0), .int 0, .ref (uu4 1), .ref (uu4 2), .ref (uu4 3), .ref (uu4 4), .ref (uu4 5), .int 0, .ref (uu4 6), .ref (uu4 7), .ref (uu4 8), .ref (uu4 9), .ref (uu4 10)])), ((uu4 0), .inl (cs 0, 500, .inl (fun _ => 0))), (qn5, .inr (2, [.ref (uu6 0), .int 0, .ref (uu6 1), .ref (uu6 2), .ref (uu6 3), .ref (uu6 4), .ref (uu6 5), .int 0, .ref (uu6 6), .ref (uu6 7), .ref (uu6 8), .ref (uu6 9), .ref (uu6 10)])), ((uu6 0), .inl (cs 0, 500, .inl (fun _ => 0))), (qn7, .inr (10, [.int 0, .ref (uu8 0), .ref (uu8 1), .ref (uu8 2), .ref (uu8 3), .ref (uu8 4), .ref (uu8 5), .ref (uu8 6)])), (qn9, .inr (10, [.int 0, .ref (uu10 0), .ref (uu10 1), .ref (uu10 2), .ref (uu10 3), .ref (uu10 4), .ref (uu10 5), .ref (uu10 6)])), (qn15, .inr (1, [.int 0, .ref (uu16 0), .ref (uu16 1), .ref (uu16 2), .ref (uu16 3)])), (qn17, .inr (0, [.int 0, .int 0, .null, .null]))] H := hP
  have hD : va_D A [(ad0, .inr (11, [.ref qn1, .ref qn3, .ref qn5, .ref qn7, .ref qn9, .ref qn11, .ref qn13, .ref qn15, .null, .null, .null, .null, .null, .null, .null, .int 0, .null, .int 0, .null])), (qn1, .inr (9, [.ref (uu2 0), .int 0, .int 0, .int 0, .int 0])), ((uu2 0), .inl (cs 0, 500, .inl (fun _ => 0))), (qn3, .inr (2, [.ref (uu4 0), .int 0, .ref (uu4 1), .ref (uu4 2), .ref (uu4 3), .ref (uu4 4), .ref (uu4 5), .int 0, .ref (uu4 6), .ref (uu4 7), .ref (uu4 8), .ref (uu4 9), .ref (uu4 10)])), ((uu4 0), .inl (cs 0, 500, .inl (fun _ => 0))), (qn5, .inr (2, [.ref (uu6 0), .int 0, .ref (uu6 1), .ref (uu6 2), .ref (uu6 3), .ref (uu6 4), .ref (uu6 5), .int 0, .ref (uu6 6), .ref (uu6 7), .ref (uu6 8), .ref (uu6 9), .ref (uu6 10)])), ((uu6 0), .inl (cs 0, 500, .inl (fun _ => 0))), (qn7, .inr (10, [.int 0, .ref (uu8 0), .ref (uu8 1), .ref (uu8 2), .ref (uu8 3), .ref (uu8 4), .ref (uu8 5), .ref (uu8 6)])), (qn9, .inr (10, [.int 0, .ref (uu10 0), .ref (uu10 1), .ref (uu10 2), .ref (uu10 3), .ref (uu10 4), .ref (uu10 5), .ref (uu10 6)])), (qn15, .inr (1, [.int 0, .ref (uu16 0), .ref (uu16 1), .ref (uu16 2), .ref (uu16 3)])), (qn17, .inr (0, [.int 0, .int 0, .null, .null]))] := hD
  refine lv_dup hx hb dX11_init_96 rfl ?_
  refine cx_IN (D := D) (cs := cs) (wc := [(qn17, .inr (0, [.int 0, .int 0, .null, .null]))]) (wr := [(ad0, .inr (11, [.ref qn1, .ref qn3, .ref qn5, .ref qn7, .ref qn9, .ref qn11, .ref qn13, .ref qn15, .null, .null, .null, .null, .null, .null, .null, .int 0, .null, .int 0, .null])), (qn1, .inr (9, [.ref (uu2 0), .int 0, .int 0, .int 0, .int 0])), ((uu2 0), .inl (cs 0, 500, .inl (fun _ => 0))), (qn3, .inr (2, [.ref (uu4 0), .int 0, .ref (uu4 1), .ref (uu4 2), .ref (uu4 3), .ref (uu4 4), .ref (uu4 5), .int 0, .ref (uu4 6), .ref (uu4 7), .ref (uu4 8), .ref (uu4 9), .ref (uu4 10)])), ((uu4 0), .inl (cs 0, 500, .inl (fun _ => 0))), (qn5, .inr (2, [.ref (uu6 0), .int 0, .ref (uu6 1), .ref (uu6 2), .ref (uu6 3), .ref (uu6 4), .ref (uu6 5), .int 0, .ref (uu6 6), .ref (uu6 7), .ref (uu6 8), .ref (uu6 9), .ref (uu6 10)])), ((uu6 0), .inl (cs 0, 500, .inl (fun _ => 0))), (qn7, .inr (10, [.int 0, .ref (uu8 0), .ref (uu8 1), .ref (uu8 2), .ref (uu8 3), .ref (uu8 4), .ref (uu8 5), .ref (uu8 6)])), (qn9, .inr (10, [.int 0, .ref (uu10 0), .ref (uu10 1), .ref (uu10 2), .ref (uu10 3), .ref (uu10 4), .ref (uu10 5), .ref (uu10 6)])), (qn15, .inr (1, [.int 0, .ref (uu16 0), .ref (uu16 1), .ref (uu16 2), .ref (uu16 3)]))]) (v := none) (w1 := fun u => [(qn17, .inr (0, [.int 0, .int 0, .ref (u 0), .ref (u 1)]))]) (As := []) (rest := [.ref qn17, .ref ad0]) (o := qn17) ⟨hx, hb, hml, hown, hB⟩ (fun sz => kX0_init l D cs qn17 sz) cw_252 cw_8 (by decide +kernel) cw_251 rfl rfl rfl (by decide +kernel) ⟨Nat.le_of_ble_eq_true rfl, Nat.le_of_ble_eq_true rfl⟩ hK hN hP hD hS hA [10] [0, 1, 2, 3, 4, 5, 6, 7, 8, 9] rfl rfl (by decide) rfl hl.1 rfl (Nat.le_of_ble_eq_true rfl) dX11_init_97 ⟨Nat.le_of_ble_eq_true rfl, Nat.le_of_ble_eq_true rfl⟩ (fun uu18 H locs hP hD hS => ?_)
  refine W.eq (g2 := F0 m 100 ls [.ref qn17, .ref ad0]) rfl ?_
  have hP : va_P D vwCl [(ad0, .inr (11, [.ref qn1, .ref qn3, .ref qn5, .ref qn7, .ref qn9, .ref qn11, .ref qn13, .ref qn15, .null, .null, .null, .null, .null, .null, .null, .int 0, .null, .int 0, .null])), (qn1, .inr (9, [.ref (uu2 0), .int 0, .int 0, .int 0, .int 0])), ((uu2 0), .inl (cs 0, 500, .inl (fun _ => 0))), (qn3, .inr (2, [.ref (uu4 0), .int 0, .ref (uu4 1), .ref (uu4 2), .ref (uu4 3), .ref (uu4 4), .ref (uu4 5), .int 0, .ref (uu4 6), .ref (uu4 7), .ref (uu4 8), .ref (uu4 9), .ref (uu4 10)])), ((uu4 0), .inl (cs 0, 500, .inl (fun _ => 0))), (qn5, .inr (2, [.ref (uu6 0), .int 0, .ref (uu6 1), .ref (uu6 2), .ref (uu6 3), .ref (uu6 4), .ref (uu6 5), .int 0, .ref (uu6 6), .ref (uu6 7), .ref (uu6 8), .ref (uu6 9), .ref (uu6 10)])), ((uu6 0), .inl (cs 0, 500, .inl (fun _ => 0))), (qn7, .inr (10, [.int 0, .ref (uu8 0), .ref (uu8 1), .ref (uu8 2), .ref (uu8 3), .ref (uu8 4), .ref (uu8 5), .ref (uu8 6)])), (qn9, .inr (10, [.int 0, .ref (uu10 0), .ref (uu10 1), .ref (uu10 2), .ref (uu10 3), .ref (uu10 4), .ref (uu10 5), .ref (uu10 6)])), (qn15, .inr (1, [.int 0, .ref (uu16 0), .ref (uu16 1), .ref (uu16 2), .ref (uu16 3)])), (qn17, .inr (0, [.int 0, .int 0, .ref (uu18 0), .ref (uu18 1)]))] H := hP
  have hD : va_D A [(ad0, .inr (11, [.ref qn1, .ref qn3, .ref qn5, .ref qn7, .ref qn9, .ref qn11, .ref qn13, .ref qn15, .null, .null, .null, .null, .null, .null, .null, .int 0, .null, .int 0, .null])), (qn1, .inr (9, [.ref (uu2 0), .int 0, .int 0, .int 0, .int 0])), ((uu2 0), .inl (cs 0, 500, .inl (fun _ => 0))), (qn3, .inr (2, [.ref (uu4 0), .int 0, .ref (uu4 1), .ref (uu4 2), .ref (uu4 3), .ref (uu4 4), .ref (uu4 5), .int 0, .ref (uu4 6), .ref (uu4 7), .ref (uu4 8), .ref (uu4 9), .ref (uu4 10)])), ((uu4 0), .inl (cs 0, 500, .inl (fun _ => 0))), (qn5, .inr (2, [.ref (uu6 0), .int 0, .ref (uu6 1), .ref (uu6 2), .ref (uu6 3), .ref (uu6 4), .ref (uu6 5), .int 0, .ref (uu6 6), .ref (uu6 7), .ref (uu6 8), .ref (uu6 9), .ref (uu6 10)])), ((uu6 0), .inl (cs 0, 500, .inl (fun _ => 0))), (qn7, .inr (10, [.int 0, .ref (uu8 0), .ref (uu8 1), .ref (uu8 2), .ref (uu8 3), .ref (uu8 4), .ref (uu8 5), .ref (uu8 6)])), (qn9, .inr (10, [.int 0, .ref (uu10 0), .ref (uu10 1), .ref (uu10 2), .ref (uu10 3), .ref (uu10 4), .ref (uu10 5), .ref (uu10 6)])), (qn15, .inr (1, [.int 0, .ref (uu16 0), .ref (uu16 1), .ref (uu16 2), .ref (uu16 3)])), (qn17, .inr (0, [.int 0, .int 0, .ref (uu18 0), .ref (uu18 1)]))] := hD
  refine va_putF (D := D) (ci := 11) (v := .ref qn17) (ty := .object "TreeMerge$Draft") (C := RX11) (T := TX11) (N := 19) hx hb hB cx_inX11 tyX11 tyX11_ok nmX11 hown hK hP hD hS 0 rfl rfl 8 (by decide) (hB _ cw_391) (fun _ h9 => h9) rfl hnm rfl (by decide +kernel) rfl rfl (Nat.le_of_ble_eq_true rfl) dX11_init_100 (fun H locs hP hD hS => ?_)
  have hP : va_P D vwCl [(ad0, .inr (11, [.ref qn1, .ref qn3, .ref qn5, .ref qn7, .ref qn9, .ref qn11, .ref qn13, .ref qn15, .ref qn17, .null, .null, .null, .null, .null, .null, .int 0, .null, .int 0, .null])), (qn1, .inr (9, [.ref (uu2 0), .int 0, .int 0, .int 0, .int 0])), ((uu2 0), .inl (cs 0, 500, .inl (fun _ => 0))), (qn3, .inr (2, [.ref (uu4 0), .int 0, .ref (uu4 1), .ref (uu4 2), .ref (uu4 3), .ref (uu4 4), .ref (uu4 5), .int 0, .ref (uu4 6), .ref (uu4 7), .ref (uu4 8), .ref (uu4 9), .ref (uu4 10)])), ((uu4 0), .inl (cs 0, 500, .inl (fun _ => 0))), (qn5, .inr (2, [.ref (uu6 0), .int 0, .ref (uu6 1), .ref (uu6 2), .ref (uu6 3), .ref (uu6 4), .ref (uu6 5), .int 0, .ref (uu6 6), .ref (uu6 7), .ref (uu6 8), .ref (uu6 9), .ref (uu6 10)])), ((uu6 0), .inl (cs 0, 500, .inl (fun _ => 0))), (qn7, .inr (10, [.int 0, .ref (uu8 0), .ref (uu8 1), .ref (uu8 2), .ref (uu8 3), .ref (uu8 4), .ref (uu8 5), .ref (uu8 6)])), (qn9, .inr (10, [.int 0, .ref (uu10 0), .ref (uu10 1), .ref (uu10 2), .ref (uu10 3), .ref (uu10 4), .ref (uu10 5), .ref (uu10 6)])), (qn15, .inr (1, [.int 0, .ref (uu16 0), .ref (uu16 1), .ref (uu16 2), .ref (uu16 3)])), (qn17, .inr (0, [.int 0, .int 0, .ref (uu18 0), .ref (uu18 1)]))] H := hP
  have hD : va_D A [(ad0, .inr (11, [.ref qn1, .ref qn3, .ref qn5, .ref qn7, .ref qn9, .ref qn11, .ref qn13, .ref qn15, .ref qn17, .null, .null, .null, .null, .null, .null, .int 0, .null, .int 0, .null])), (qn1, .inr (9, [.ref (uu2 0), .int 0, .int 0, .int 0, .int 0])), ((uu2 0), .inl (cs 0, 500, .inl (fun _ => 0))), (qn3, .inr (2, [.ref (uu4 0), .int 0, .ref (uu4 1), .ref (uu4 2), .ref (uu4 3), .ref (uu4 4), .ref (uu4 5), .int 0, .ref (uu4 6), .ref (uu4 7), .ref (uu4 8), .ref (uu4 9), .ref (uu4 10)])), ((uu4 0), .inl (cs 0, 500, .inl (fun _ => 0))), (qn5, .inr (2, [.ref (uu6 0), .int 0, .ref (uu6 1), .ref (uu6 2), .ref (uu6 3), .ref (uu6 4), .ref (uu6 5), .int 0, .ref (uu6 6), .ref (uu6 7), .ref (uu6 8), .ref (uu6 9), .ref (uu6 10)])), ((uu6 0), .inl (cs 0, 500, .inl (fun _ => 0))), (qn7, .inr (10, [.int 0, .ref (uu8 0), .ref (uu8 1), .ref (uu8 2), .ref (uu8 3), .ref (uu8 4), .ref (uu8 5), .ref (uu8 6)])), (qn9, .inr (10, [.int 0, .ref (uu10 0), .ref (uu10 1), .ref (uu10 2), .ref (uu10 3), .ref (uu10 4), .ref (uu10 5), .ref (uu10 6)])), (qn15, .inr (1, [.int 0, .ref (uu16 0), .ref (uu16 1), .ref (uu16 2), .ref (uu16 3)])), (qn17, .inr (0, [.int 0, .int 0, .ref (uu18 0), .ref (uu18 1)]))] := hD
  refine lv_aload_n hx hb dX11_init_103 rfl (lv_at hl 0 rfl) ?_
  refine va_new (ci := 7) (fs := [.int 0, .null]) (C := RX7) (T := TX7) (N := 2) hx hb hB cx_inX7 tyX7 tyX7_ok hown (hB _ cw_271) (hB _ cw_272) (hB _ cw_9) hK hP hD hS hA rfl cx_fsX7 (Nat.le_of_ble_eq_true rfl) (Nat.le_of_ble_eq_true rfl) dX11_init_104 (fun qn19 H hP hD hS => ?_)
  have hP : va_P D vwCl [(ad0, .inr (11, [.ref qn1, .ref qn3, .ref qn5, .ref qn7, .ref qn9, .ref qn11, .ref qn13, .ref qn15, .ref qn17, .null, .null, .null, .null, .null, .null, .int 0, .null, .int 0, .null])), (qn1, .inr (9, [.ref (uu2 0), .int 0, .int 0, .int 0, .int 0])), ((uu2 0), .inl (cs 0, 500, .inl (fun _ => 0))), (qn3, .inr (2, [.ref (uu4 0), .int 0, .ref (uu4 1), .ref (uu4 2), .ref (uu4 3), .ref (uu4 4), .ref (uu4 5), .int 0, .ref (uu4 6), .ref (uu4 7), .ref (uu4 8), .ref (uu4 9), .ref (uu4 10)])), ((uu4 0), .inl (cs 0, 500, .inl (fun _ => 0))), (qn5, .inr (2, [.ref (uu6 0), .int 0, .ref (uu6 1), .ref (uu6 2), .ref (uu6 3), .ref (uu6 4), .ref (uu6 5), .int 0, .ref (uu6 6), .ref (uu6 7), .ref (uu6 8), .ref (uu6 9), .ref (uu6 10)])), ((uu6 0), .inl (cs 0, 500, .inl (fun _ => 0))), (qn7, .inr (10, [.int 0, .ref (uu8 0), .ref (uu8 1), .ref (uu8 2), .ref (uu8 3), .ref (uu8 4), .ref (uu8 5), .ref (uu8 6)])), (qn9, .inr (10, [.int 0, .ref (uu10 0), .ref (uu10 1), .ref (uu10 2), .ref (uu10 3), .ref (uu10 4), .ref (uu10 5), .ref (uu10 6)])), (qn15, .inr (1, [.int 0, .ref (uu16 0), .ref (uu16 1), .ref (uu16 2), .ref (uu16 3)])), (qn17, .inr (0, [.int 0, .int 0, .ref (uu18 0), .ref (uu18 1)])), (qn19, .inr (7, [.int 0, .null]))] H := hP
  have hD : va_D A [(ad0, .inr (11, [.ref qn1, .ref qn3, .ref qn5, .ref qn7, .ref qn9, .ref qn11, .ref qn13, .ref qn15, .ref qn17, .null, .null, .null, .null, .null, .null, .int 0, .null, .int 0, .null])), (qn1, .inr (9, [.ref (uu2 0), .int 0, .int 0, .int 0, .int 0])), ((uu2 0), .inl (cs 0, 500, .inl (fun _ => 0))), (qn3, .inr (2, [.ref (uu4 0), .int 0, .ref (uu4 1), .ref (uu4 2), .ref (uu4 3), .ref (uu4 4), .ref (uu4 5), .int 0, .ref (uu4 6), .ref (uu4 7), .ref (uu4 8), .ref (uu4 9), .ref (uu4 10)])), ((uu4 0), .inl (cs 0, 500, .inl (fun _ => 0))), (qn5, .inr (2, [.ref (uu6 0), .int 0, .ref (uu6 1), .ref (uu6 2), .ref (uu6 3), .ref (uu6 4), .ref (uu6 5), .int 0, .ref (uu6 6), .ref (uu6 7), .ref (uu6 8), .ref (uu6 9), .ref (uu6 10)])), ((uu6 0), .inl (cs 0, 500, .inl (fun _ => 0))), (qn7, .inr (10, [.int 0, .ref (uu8 0), .ref (uu8 1), .ref (uu8 2), .ref (uu8 3), .ref (uu8 4), .ref (uu8 5), .ref (uu8 6)])), (qn9, .inr (10, [.int 0, .ref (uu10 0), .ref (uu10 1), .ref (uu10 2), .ref (uu10 3), .ref (uu10 4), .ref (uu10 5), .ref (uu10 6)])), (qn15, .inr (1, [.int 0, .ref (uu16 0), .ref (uu16 1), .ref (uu16 2), .ref (uu16 3)])), (qn17, .inr (0, [.int 0, .int 0, .ref (uu18 0), .ref (uu18 1)])), (qn19, .inr (7, [.int 0, .null]))] := hD
  refine lv_dup hx hb dX11_init_107 rfl ?_
  refine cx_IN (D := D) (cs := cs) (wc := [(qn19, .inr (7, [.int 0, .null]))]) (wr := [(ad0, .inr (11, [.ref qn1, .ref qn3, .ref qn5, .ref qn7, .ref qn9, .ref qn11, .ref qn13, .ref qn15, .ref qn17, .null, .null, .null, .null, .null, .null, .int 0, .null, .int 0, .null])), (qn1, .inr (9, [.ref (uu2 0), .int 0, .int 0, .int 0, .int 0])), ((uu2 0), .inl (cs 0, 500, .inl (fun _ => 0))), (qn3, .inr (2, [.ref (uu4 0), .int 0, .ref (uu4 1), .ref (uu4 2), .ref (uu4 3), .ref (uu4 4), .ref (uu4 5), .int 0, .ref (uu4 6), .ref (uu4 7), .ref (uu4 8), .ref (uu4 9), .ref (uu4 10)])), ((uu4 0), .inl (cs 0, 500, .inl (fun _ => 0))), (qn5, .inr (2, [.ref (uu6 0), .int 0, .ref (uu6 1), .ref (uu6 2), .ref (uu6 3), .ref (uu6 4), .ref (uu6 5), .int 0, .ref (uu6 6), .ref (uu6 7), .ref (uu6 8), .ref (uu6 9), .ref (uu6 10)])), ((uu6 0), .inl (cs 0, 500, .inl (fun _ => 0))), (qn7, .inr (10, [.int 0, .ref (uu8 0), .ref (uu8 1), .ref (uu8 2), .ref (uu8 3), .ref (uu8 4), .ref (uu8 5), .ref (uu8 6)])), (qn9, .inr (10, [.int 0, .ref (uu10 0), .ref (uu10 1), .ref (uu10 2), .ref (uu10 3), .ref (uu10 4), .ref (uu10 5), .ref (uu10 6)])), (qn15, .inr (1, [.int 0, .ref (uu16 0), .ref (uu16 1), .ref (uu16 2), .ref (uu16 3)])), (qn17, .inr (0, [.int 0, .int 0, .ref (uu18 0), .ref (uu18 1)]))]) (v := none) (w1 := fun u => [(qn19, .inr (7, [.int 0, .ref (u 0)])), ((u 0), .inl (cs 0, 450, .inl (fun _ => 0)))]) (As := []) (rest := [.ref qn19, .ref ad0]) (o := qn19) ⟨hx, hb, hml, hown, hB⟩ (fun sz => kX7_init l D cs qn19 sz) cw_275 cw_9 (by decide +kernel) cw_274 rfl rfl rfl (by decide +kernel) ⟨Nat.le_of_ble_eq_true rfl, Nat.le_of_ble_eq_true rfl⟩ hK hN hP hD hS hA [11] [0, 1, 2, 3, 4, 5, 6, 7, 8, 9, 10] rfl rfl (by decide) rfl hl.1 rfl (Nat.le_of_ble_eq_true rfl) dX11_init_108 ⟨Nat.le_of_ble_eq_true rfl, Nat.le_of_ble_eq_true rfl⟩ (fun uu20 H locs hP hD hS => ?_)
  refine W.eq (g2 := F0 m 111 ls [.ref qn19, .ref ad0]) rfl ?_
  have hP : va_P D vwCl [(ad0, .inr (11, [.ref qn1, .ref qn3, .ref qn5, .ref qn7, .ref qn9, .ref qn11, .ref qn13, .ref qn15, .ref qn17, .null, .null, .null, .null, .null, .null, .int 0, .null, .int 0, .null])), (qn1, .inr (9, [.ref (uu2 0), .int 0, .int 0, .int 0, .int 0])), ((uu2 0), .inl (cs 0, 500, .inl (fun _ => 0))), (qn3, .inr (2, [.ref (uu4 0), .int 0, .ref (uu4 1), .ref (uu4 2), .ref (uu4 3), .ref (uu4 4), .ref (uu4 5), .int 0, .ref (uu4 6), .ref (uu4 7), .ref (uu4 8), .ref (uu4 9), .ref (uu4 10)])), ((uu4 0), .inl (cs 0, 500, .inl (fun _ => 0))), (qn5, .inr (2, [.ref (uu6 0), .int 0, .ref (uu6 1), .ref (uu6 2), .ref (uu6 3), .ref (uu6 4), .ref (uu6 5), .int 0, .ref (uu6 6), .ref (uu6 7), .ref (uu6 8), .ref (uu6 9), .ref (uu6 10)])), ((uu6 0), .inl (cs 0, 500, .inl (fun _ => 0))), (qn7, .inr (10, [.int 0, .ref (uu8 0), .ref (uu8 1), .ref (uu8 2), .ref (uu8 3), .ref (uu8 4), .ref (uu8 5), .ref (uu8 6)])), (qn9, .inr (10, [.int 0, .ref (uu10 0), .ref (uu10 1), .ref (uu10 2), .ref (uu10 3), .ref (uu10 4), .ref (uu10 5), .ref (uu10 6)])), (qn15, .inr (1, [.int 0, .ref (uu16 0), .ref (uu16 1), .ref (uu16 2), .ref (uu16 3)])), (qn17, .inr (0, [.int 0, .int 0, .ref (uu18 0), .ref (uu18 1)])), (qn19, .inr (7, [.int 0, .ref (uu20 0)])), ((uu20 0), .inl (cs 0, 450, .inl (fun _ => 0)))] H := hP
  have hD : va_D A [(ad0, .inr (11, [.ref qn1, .ref qn3, .ref qn5, .ref qn7, .ref qn9, .ref qn11, .ref qn13, .ref qn15, .ref qn17, .null, .null, .null, .null, .null, .null, .int 0, .null, .int 0, .null])), (qn1, .inr (9, [.ref (uu2 0), .int 0, .int 0, .int 0, .int 0])), ((uu2 0), .inl (cs 0, 500, .inl (fun _ => 0))), (qn3, .inr (2, [.ref (uu4 0), .int 0, .ref (uu4 1), .ref (uu4 2), .ref (uu4 3), .ref (uu4 4), .ref (uu4 5), .int 0, .ref (uu4 6), .ref (uu4 7), .ref (uu4 8), .ref (uu4 9), .ref (uu4 10)])), ((uu4 0), .inl (cs 0, 500, .inl (fun _ => 0))), (qn5, .inr (2, [.ref (uu6 0), .int 0, .ref (uu6 1), .ref (uu6 2), .ref (uu6 3), .ref (uu6 4), .ref (uu6 5), .int 0, .ref (uu6 6), .ref (uu6 7), .ref (uu6 8), .ref (uu6 9), .ref (uu6 10)])), ((uu6 0), .inl (cs 0, 500, .inl (fun _ => 0))), (qn7, .inr (10, [.int 0, .ref (uu8 0), .ref (uu8 1), .ref (uu8 2), .ref (uu8 3), .ref (uu8 4), .ref (uu8 5), .ref (uu8 6)])), (qn9, .inr (10, [.int 0, .ref (uu10 0), .ref (uu10 1), .ref (uu10 2), .ref (uu10 3), .ref (uu10 4), .ref (uu10 5), .ref (uu10 6)])), (qn15, .inr (1, [.int 0, .ref (uu16 0), .ref (uu16 1), .ref (uu16 2), .ref (uu16 3)])), (qn17, .inr (0, [.int 0, .int 0, .ref (uu18 0), .ref (uu18 1)])), (qn19, .inr (7, [.int 0, .ref (uu20 0)])), ((uu20 0), .inl (cs 0, 450, .inl (fun _ => 0)))] := hD
  refine va_putF (D := D) (ci := 11) (v := .ref qn19) (ty := .object "TreeMerge$Settled") (C := RX11) (T := TX11) (N := 19) hx hb hB cx_inX11 tyX11 tyX11_ok nmX11 hown hK hP hD hS 0 rfl rfl 9 (by decide) (hB _ cw_392) (fun _ h9 => h9) rfl hnm rfl (by decide +kernel) rfl rfl (Nat.le_of_ble_eq_true rfl) dX11_init_111 (fun H locs hP hD hS => ?_)
  have hP : va_P D vwCl [(ad0, .inr (11, [.ref qn1, .ref qn3, .ref qn5, .ref qn7, .ref qn9, .ref qn11, .ref qn13, .ref qn15, .ref qn17, .ref qn19, .null, .null, .null, .null, .null, .int 0, .null, .int 0, .null])), (qn1, .inr (9, [.ref (uu2 0), .int 0, .int 0, .int 0, .int 0])), ((uu2 0), .inl (cs 0, 500, .inl (fun _ => 0))), (qn3, .inr (2, [.ref (uu4 0), .int 0, .ref (uu4 1), .ref (uu4 2), .ref (uu4 3), .ref (uu4 4), .ref (uu4 5), .int 0, .ref (uu4 6), .ref (uu4 7), .ref (uu4 8), .ref (uu4 9), .ref (uu4 10)])), ((uu4 0), .inl (cs 0, 500, .inl (fun _ => 0))), (qn5, .inr (2, [.ref (uu6 0), .int 0, .ref (uu6 1), .ref (uu6 2), .ref (uu6 3), .ref (uu6 4), .ref (uu6 5), .int 0, .ref (uu6 6), .ref (uu6 7), .ref (uu6 8), .ref (uu6 9), .ref (uu6 10)])), ((uu6 0), .inl (cs 0, 500, .inl (fun _ => 0))), (qn7, .inr (10, [.int 0, .ref (uu8 0), .ref (uu8 1), .ref (uu8 2), .ref (uu8 3), .ref (uu8 4), .ref (uu8 5), .ref (uu8 6)])), (qn9, .inr (10, [.int 0, .ref (uu10 0), .ref (uu10 1), .ref (uu10 2), .ref (uu10 3), .ref (uu10 4), .ref (uu10 5), .ref (uu10 6)])), (qn15, .inr (1, [.int 0, .ref (uu16 0), .ref (uu16 1), .ref (uu16 2), .ref (uu16 3)])), (qn17, .inr (0, [.int 0, .int 0, .ref (uu18 0), .ref (uu18 1)])), (qn19, .inr (7, [.int 0, .ref (uu20 0)])), ((uu20 0), .inl (cs 0, 450, .inl (fun _ => 0)))] H := hP
  have hD : va_D A [(ad0, .inr (11, [.ref qn1, .ref qn3, .ref qn5, .ref qn7, .ref qn9, .ref qn11, .ref qn13, .ref qn15, .ref qn17, .ref qn19, .null, .null, .null, .null, .null, .int 0, .null, .int 0, .null])), (qn1, .inr (9, [.ref (uu2 0), .int 0, .int 0, .int 0, .int 0])), ((uu2 0), .inl (cs 0, 500, .inl (fun _ => 0))), (qn3, .inr (2, [.ref (uu4 0), .int 0, .ref (uu4 1), .ref (uu4 2), .ref (uu4 3), .ref (uu4 4), .ref (uu4 5), .int 0, .ref (uu4 6), .ref (uu4 7), .ref (uu4 8), .ref (uu4 9), .ref (uu4 10)])), ((uu4 0), .inl (cs 0, 500, .inl (fun _ => 0))), (qn5, .inr (2, [.ref (uu6 0), .int 0, .ref (uu6 1), .ref (uu6 2), .ref (uu6 3), .ref (uu6 4), .ref (uu6 5), .int 0, .ref (uu6 6), .ref (uu6 7), .ref (uu6 8), .ref (uu6 9), .ref (uu6 10)])), ((uu6 0), .inl (cs 0, 500, .inl (fun _ => 0))), (qn7, .inr (10, [.int 0, .ref (uu8 0), .ref (uu8 1), .ref (uu8 2), .ref (uu8 3), .ref (uu8 4), .ref (uu8 5), .ref (uu8 6)])), (qn9, .inr (10, [.int 0, .ref (uu10 0), .ref (uu10 1), .ref (uu10 2), .ref (uu10 3), .ref (uu10 4), .ref (uu10 5), .ref (uu10 6)])), (qn15, .inr (1, [.int 0, .ref (uu16 0), .ref (uu16 1), .ref (uu16 2), .ref (uu16 3)])), (qn17, .inr (0, [.int 0, .int 0, .ref (uu18 0), .ref (uu18 1)])), (qn19, .inr (7, [.int 0, .ref (uu20 0)])), ((uu20 0), .inl (cs 0, 450, .inl (fun _ => 0)))] := hD
  refine lv_aload_n hx hb dX11_init_114 rfl (lv_at hl 0 rfl) ?_
  refine va_new (ci := 5) (fs := [.null, .null, .null, .null, .null, .null, .null, .null, .null, .null, .int 0, .null, .int 0, .null, .null]) (C := RX5) (T := TX5) (N := 15) hx hb hB cx_inX5 tyX5 tyX5_ok hown (hB _ cw_285) (hB _ cw_286) (hB _ cw_10) hK hP hD hS hA rfl cx_fsX5 (Nat.le_of_ble_eq_true rfl) (Nat.le_of_ble_eq_true rfl) dX11_init_115 (fun qn21 H hP hD hS => ?_)
  have hP : va_P D vwCl [(ad0, .inr (11, [.ref qn1, .ref qn3, .ref qn5, .ref qn7, .ref qn9, .ref qn11, .ref qn13, .ref qn15, .ref qn17, .ref qn19, .null, .null, .null, .null, .null, .int 0, .null, .int 0, .null])), (qn1, .inr (9, [.ref (uu2 0), .int 0, .int 0, .int 0, .int 0])), ((uu2 0), .inl (cs 0, 500, .inl (fun _ => 0))), (qn3, .inr (2, [.ref (uu4 0), .int 0, .ref (uu4 1), .ref (uu4 2), .ref (uu4 3), .ref (uu4 4), .ref (uu4 5), .int 0, .ref (uu4 6), .ref (uu4 7), .ref (uu4 8), .ref (uu4 9), .ref (uu4 10)])), ((uu4 0), .inl (cs 0, 500, .inl (fun _ => 0))), (qn5, .inr (2, [.ref (uu6 0), .int 0, .ref (uu6 1), .ref (uu6 2), .ref (uu6 3), .ref (uu6 4), .ref (uu6 5), .int 0, .ref (uu6 6), .ref (uu6 7), .ref (uu6 8), .ref (uu6 9), .ref (uu6 10)])), ((uu6 0), .inl (cs 0, 500, .inl (fun _ => 0))), (qn7, .inr (10, [.int 0, .ref (uu8 0), .ref (uu8 1), .ref (uu8 2), .ref (uu8 3), .ref (uu8 4), .ref (uu8 5), .ref (uu8 6)])), (qn9, .inr (10, [.int 0, .ref (uu10 0), .ref (uu10 1), .ref (uu10 2), .ref (uu10 3), .ref (uu10 4), .ref (uu10 5), .ref (uu10 6)])), (qn15, .inr (1, [.int 0, .ref (uu16 0), .ref (uu16 1), .ref (uu16 2), .ref (uu16 3)])), (qn17, .inr (0, [.int 0, .int 0, .ref (uu18 0), .ref (uu18 1)])), (qn19, .inr (7, [.int 0, .ref (uu20 0)])), ((uu20 0), .inl (cs 0, 450, .inl (fun _ => 0))), (qn21, .inr (5, [.null, .null, .null, .null, .null, .null, .null, .null, .null, .null, .int 0, .null, .int 0, .null, .null]))] H := hP
  have hD : va_D A [(ad0, .inr (11, [.ref qn1, .ref qn3, .ref qn5, .ref qn7, .ref qn9, .ref qn11, .ref qn13, .ref qn15, .ref qn17, .ref qn19, .null, .null, .null, .null, .null, .int 0, .null, .int 0, .null])), (qn1, .inr (9, [.ref (uu2 0), .int 0, .int 0, .int 0, .int 0])), ((uu2 0), .inl (cs 0, 500, .inl (fun _ => 0))), (qn3, .inr (2, [.ref (uu4 0), .int 0, .ref (uu4 1), .ref (uu4 2), .ref (uu4 3), .ref (uu4 4), .ref (uu4 5), .int 0, .ref (uu4 6), .ref (uu4 7), .ref (uu4 8), .ref (uu4 9), .ref (uu4 10)])), ((uu4 0), .inl (cs 0, 500, .inl (fun _ => 0))), (qn5, .inr (2, [.ref (uu6 0), .int 0, .ref (uu6 1), .ref (uu6 2), .ref (uu6 3), .ref (uu6 4), .ref (uu6 5), .int 0, .ref (uu6 6), .ref (uu6 7), .ref (uu6 8), .ref (uu6 9), .ref (uu6 10)])), ((uu6 0), .inl (cs 0, 500, .inl (fun _ => 0))), (qn7, .inr (10, [.int 0, .ref (uu8 0), .ref (uu8 1), .ref (uu8 2), .ref (uu8 3), .ref (uu8 4), .ref (uu8 5), .ref (uu8 6)])), (qn9, .inr (10, [.int 0, .ref (uu10 0), .ref (uu10 1), .ref (uu10 2), .ref (uu10 3), .ref (uu10 4), .ref (uu10 5), .ref (uu10 6)])), (qn15, .inr (1, [.int 0, .ref (uu16 0), .ref (uu16 1), .ref (uu16 2), .ref (uu16 3)])), (qn17, .inr (0, [.int 0, .int 0, .ref (uu18 0), .ref (uu18 1)])), (qn19, .inr (7, [.int 0, .ref (uu20 0)])), ((uu20 0), .inl (cs 0, 450, .inl (fun _ => 0))), (qn21, .inr (5, [.null, .null, .null, .null, .null, .null, .null, .null, .null, .null, .int 0, .null, .int 0, .null, .null]))] := hD
  refine lv_dup hx hb dX11_init_118 rfl ?_
  refine cx_IN (D := D) (cs := cs) (wc := [(qn21, .inr (5, [.null, .null, .null, .null, .null, .null, .null, .null, .null, .null, .int 0, .null, .int 0, .null, .null]))]) (wr := [(ad0, .inr (11, [.ref qn1, .ref qn3, .ref qn5, .ref qn7, .ref qn9, .ref qn11, .ref qn13, .ref qn15, .ref qn17, .ref qn19, .null, .null, .null, .null, .null, .int 0, .null, .int 0, .null])), (qn1, .inr (9, [.ref (uu2 0), .int 0, .int 0, .int 0, .int 0])), ((uu2 0), .inl (cs 0, 500, .inl (fun _ => 0))), (qn3, .inr (2, [.ref (uu4 0), .int 0, .ref (uu4 1), .ref (uu4 2), .ref (uu4 3), .ref (uu4 4), .ref (uu4 5), .int 0, .ref (uu4 6), .ref (uu4 7), .ref (uu4 8), .ref (uu4 9), .ref (uu4 10)])), ((uu4 0), .inl (cs 0, 500, .inl (fun _ => 0))), (qn5, .inr (2, [.ref (uu6 0), .int 0, .ref (uu6 1), .ref (uu6 2), .ref (uu6 3), .ref (uu6 4), .ref (uu6 5), .int 0, .ref (uu6 6), .ref (uu6 7), .ref (uu6 8), .ref (uu6 9), .ref (uu6 10)])), ((uu6 0), .inl (cs 0, 500, .inl (fun _ => 0))), (qn7, .inr (10, [.int 0, .ref (uu8 0), .ref (uu8 1), .ref (uu8 2), .ref (uu8 3), .ref (uu8 4), .ref (uu8 5), .ref (uu8 6)])), (qn9, .inr (10, [.int 0, .ref (uu10 0), .ref (uu10 1), .ref (uu10 2), .ref (uu10 3), .ref (uu10 4), .ref (uu10 5), .ref (uu10 6)])), (qn15, .inr (1, [.int 0, .ref (uu16 0), .ref (uu16 1), .ref (uu16 2), .ref (uu16 3)])), (qn17, .inr (0, [.int 0, .int 0, .ref (uu18 0), .ref (uu18 1)])), (qn19, .inr (7, [.int 0, .ref (uu20 0)])), ((uu20 0), .inl (cs 0, 450, .inl (fun _ => 0)))]) (v := none) (w1 := fun u => []) (As := []) (rest := [.ref qn21, .ref ad0]) (o := qn21) ⟨hx, hb, hml, hown, hB⟩ (fun sz => kX5_init l D cs qn21 sz) cw_289 cw_10 (by decide +kernel) cw_288 rfl rfl rfl (by decide +kernel) ⟨Nat.le_of_ble_eq_true rfl, Nat.le_of_ble_eq_true rfl⟩ hK hN hP hD hS hA [13] [0, 1, 2, 3, 4, 5, 6, 7, 8, 9, 10, 11, 12] rfl rfl (by decide) rfl hl.1 rfl (Nat.le_of_ble_eq_true rfl) dX11_init_119 ⟨Nat.le_of_ble_eq_true rfl, Nat.le_of_ble_eq_true rfl⟩ (fun uu22 H locs hP hD hS => ?_)
  refine W.eq (g2 := F0 m 122 ls [.ref qn21, .ref ad0]) rfl ?_
  have hP : va_P D vwCl [(ad0, .inr (11, [.ref qn1, .ref qn3, .ref qn5, .ref qn7, .ref qn9, .ref qn11, .ref qn13, .ref qn15, .ref qn17, .ref qn19, .null, .null, .null, .null, .null, .int 0, .null, .int 0, .null])), (qn1, .inr (9, [.ref (uu2 0), .int 0, .int 0, .int 0, .int 0])), ((uu2 0), .inl (cs 0, 500, .inl (fun _ => 0))), (qn3, .inr (2, [.ref (uu4 0), .int 0, .ref (uu4 1), .ref (uu4 2), .ref (uu4 3), .ref (uu4 4), .ref (uu4 5), .int 0, .ref (uu4 6), .ref (uu4 7), .ref (uu4 8), .ref (uu4 9), .ref (uu4 10)])), ((uu4 0), .inl (cs 0, 500, .inl (fun _ => 0))), (qn5, .inr (2, [.ref (uu6 0), .int 0, .ref (uu6 1), .ref (uu6 2), .ref (uu6 3), .ref (uu6 4), .ref (uu6 5), .int 0, .ref (uu6 6), .ref (uu6 7), .ref (uu6 8), .ref (uu6 9), .ref (uu6 10)])), ((uu6 0), .inl (cs 0, 500, .inl (fun _ => 0))), (qn7, .inr (10, [.int 0, .ref (uu8 0), .ref (uu8 1), .ref (uu8 2), .ref (uu8 3), .ref (uu8 4), .ref (uu8 5), .ref (uu8 6)])), (qn9, .inr (10, [.int 0, .ref (uu10 0), .ref (uu10 1), .ref (uu10 2), .ref (uu10 3), .ref (uu10 4), .ref (uu10 5), .ref (uu10 6)])), (qn15, .inr (1, [.int 0, .ref (uu16 0), .ref (uu16 1), .ref (uu16 2), .ref (uu16 3)])), (qn17, .inr (0, [.int 0, .int 0, .ref (uu18 0), .ref (uu18 1)])), (qn19, .inr (7, [.int 0, .ref (uu20 0)])), ((uu20 0), .inl (cs 0, 450, .inl (fun _ => 0)))] H := hP
  have hD : va_D A [(ad0, .inr (11, [.ref qn1, .ref qn3, .ref qn5, .ref qn7, .ref qn9, .ref qn11, .ref qn13, .ref qn15, .ref qn17, .ref qn19, .null, .null, .null, .null, .null, .int 0, .null, .int 0, .null])), (qn1, .inr (9, [.ref (uu2 0), .int 0, .int 0, .int 0, .int 0])), ((uu2 0), .inl (cs 0, 500, .inl (fun _ => 0))), (qn3, .inr (2, [.ref (uu4 0), .int 0, .ref (uu4 1), .ref (uu4 2), .ref (uu4 3), .ref (uu4 4), .ref (uu4 5), .int 0, .ref (uu4 6), .ref (uu4 7), .ref (uu4 8), .ref (uu4 9), .ref (uu4 10)])), ((uu4 0), .inl (cs 0, 500, .inl (fun _ => 0))), (qn5, .inr (2, [.ref (uu6 0), .int 0, .ref (uu6 1), .ref (uu6 2), .ref (uu6 3), .ref (uu6 4), .ref (uu6 5), .int 0, .ref (uu6 6), .ref (uu6 7), .ref (uu6 8), .ref (uu6 9), .ref (uu6 10)])), ((uu6 0), .inl (cs 0, 500, .inl (fun _ => 0))), (qn7, .inr (10, [.int 0, .ref (uu8 0), .ref (uu8 1), .ref (uu8 2), .ref (uu8 3), .ref (uu8 4), .ref (uu8 5), .ref (uu8 6)])), (qn9, .inr (10, [.int 0, .ref (uu10 0), .ref (uu10 1), .ref (uu10 2), .ref (uu10 3), .ref (uu10 4), .ref (uu10 5), .ref (uu10 6)])), (qn15, .inr (1, [.int 0, .ref (uu16 0), .ref (uu16 1), .ref (uu16 2), .ref (uu16 3)])), (qn17, .inr (0, [.int 0, .int 0, .ref (uu18 0), .ref (uu18 1)])), (qn19, .inr (7, [.int 0, .ref (uu20 0)])), ((uu20 0), .inl (cs 0, 450, .inl (fun _ => 0)))] := hD
  refine va_putF (D := D) (ci := 11) (v := .ref qn21) (ty := .object "TreeMerge$Merging") (C := RX11) (T := TX11) (N := 19) hx hb hB cx_inX11 tyX11 tyX11_ok nmX11 hown hK hP hD hS 0 rfl rfl 10 (by decide) (hB _ cw_393) (fun _ h9 => h9) rfl hnm rfl (by decide +kernel) rfl rfl (Nat.le_of_ble_eq_true rfl) dX11_init_122 (fun H locs hP hD hS => ?_)
  have hP : va_P D vwCl [(ad0, .inr (11, [.ref qn1, .ref qn3, .ref qn5, .ref qn7, .ref qn9, .ref qn11, .ref qn13, .ref qn15, .ref qn17, .ref qn19, .ref qn21, .null, .null, .null, .null, .int 0, .null, .int 0, .null])), (qn1, .inr (9, [.ref (uu2 0), .int 0, .int 0, .int 0, .int 0])), ((uu2 0), .inl (cs 0, 500, .inl (fun _ => 0))), (qn3, .inr (2, [.ref (uu4 0), .int 0, .ref (uu4 1), .ref (uu4 2), .ref (uu4 3), .ref (uu4 4), .ref (uu4 5), .int 0, .ref (uu4 6), .ref (uu4 7), .ref (uu4 8), .ref (uu4 9), .ref (uu4 10)])), ((uu4 0), .inl (cs 0, 500, .inl (fun _ => 0))), (qn5, .inr (2, [.ref (uu6 0), .int 0, .ref (uu6 1), .ref (uu6 2), .ref (uu6 3), .ref (uu6 4), .ref (uu6 5), .int 0, .ref (uu6 6), .ref (uu6 7), .ref (uu6 8), .ref (uu6 9), .ref (uu6 10)])), ((uu6 0), .inl (cs 0, 500, .inl (fun _ => 0))), (qn7, .inr (10, [.int 0, .ref (uu8 0), .ref (uu8 1), .ref (uu8 2), .ref (uu8 3), .ref (uu8 4), .ref (uu8 5), .ref (uu8 6)])), (qn9, .inr (10, [.int 0, .ref (uu10 0), .ref (uu10 1), .ref (uu10 2), .ref (uu10 3), .ref (uu10 4), .ref (uu10 5), .ref (uu10 6)])), (qn15, .inr (1, [.int 0, .ref (uu16 0), .ref (uu16 1), .ref (uu16 2), .ref (uu16 3)])), (qn17, .inr (0, [.int 0, .int 0, .ref (uu18 0), .ref (uu18 1)])), (qn19, .inr (7, [.int 0, .ref (uu20 0)])), ((uu20 0), .inl (cs 0, 450, .inl (fun _ => 0)))] H := hP
  have hD : va_D A [(ad0, .inr (11, [.ref qn1, .ref qn3, .ref qn5, .ref qn7, .ref qn9, .ref qn11, .ref qn13, .ref qn15, .ref qn17, .ref qn19, .ref qn21, .null, .null, .null, .null, .int 0, .null, .int 0, .null])), (qn1, .inr (9, [.ref (uu2 0), .int 0, .int 0, .int 0, .int 0])), ((uu2 0), .inl (cs 0, 500, .inl (fun _ => 0))), (qn3, .inr (2, [.ref (uu4 0), .int 0, .ref (uu4 1), .ref (uu4 2), .ref (uu4 3), .ref (uu4 4), .ref (uu4 5), .int 0, .ref (uu4 6), .ref (uu4 7), .ref (uu4 8), .ref (uu4 9), .ref (uu4 10)])), ((uu4 0), .inl (cs 0, 500, .inl (fun _ => 0))), (qn5, .inr (2, [.ref (uu6 0), .int 0, .ref (uu6 1), .ref (uu6 2), .ref (uu6 3), .ref (uu6 4), .ref (uu6 5), .int 0, .ref (uu6 6), .ref (uu6 7), .ref (uu6 8), .ref (uu6 9), .ref (uu6 10)])), ((uu6 0), .inl (cs 0, 500, .inl (fun _ => 0))), (qn7, .inr (10, [.int 0, .ref (uu8 0), .ref (uu8 1), .ref (uu8 2), .ref (uu8 3), .ref (uu8 4), .ref (uu8 5), .ref (uu8 6)])), (qn9, .inr (10, [.int 0, .ref (uu10 0), .ref (uu10 1), .ref (uu10 2), .ref (uu10 3), .ref (uu10 4), .ref (uu10 5), .ref (uu10 6)])), (qn15, .inr (1, [.int 0, .ref (uu16 0), .ref (uu16 1), .ref (uu16 2), .ref (uu16 3)])), (qn17, .inr (0, [.int 0, .int 0, .ref (uu18 0), .ref (uu18 1)])), (qn19, .inr (7, [.int 0, .ref (uu20 0)])), ((uu20 0), .inl (cs 0, 450, .inl (fun _ => 0)))] := hD
  refine lv_aload_n hx hb dX11_init_125 rfl (lv_at hl 0 rfl) ?_
  refine va_new (ci := 10) (fs := [.int 0, .null, .null, .null, .null, .null, .null, .null]) (C := RX10) (T := TX10) (N := 8) hx hb hB cx_inX10 tyX10 tyX10_ok hown (hB _ cw_110) (hB _ cw_111) (hB _ cw_4) hK hP hD hS hA rfl cx_fsX10 (Nat.le_of_ble_eq_true rfl) (Nat.le_of_ble_eq_true rfl) dX11_init_126 (fun qn23 H hP hD hS => ?_)
  have hP : va_P D vwCl [(ad0, .inr (11, [.ref qn1, .ref qn3, .ref qn5, .ref qn7, .ref qn9, .ref qn11, .ref qn13, .ref qn15, .ref qn17, .ref qn19, .ref qn21, .null, .null, .null, .null, .int 0, .null, .int 0, .null])), (qn1, .inr (9, [.ref (uu2 0), .int 0, .int 0, .int 0, .int 0])), ((uu2 0), .inl (cs 0, 500, .inl (fun _ => 0))), (qn3, .inr (2, [.ref (uu4 0), .int 0, .ref (uu4 1), .ref (uu4 2), .ref (uu4 3), .ref (uu4 4), .ref (uu4 5), .int 0, .ref (uu4 6), .ref (uu4 7), .ref (uu4 8), .ref (uu4 9), .ref (uu4 10)])), ((uu4 0), .inl (cs 0, 500, .inl (fun _ => 0))), (qn5, .inr (2, [.ref (uu6 0), .int 0, .ref (uu6 1), .ref (uu6 2), .ref (uu6 3), .ref (uu6 4), .ref (uu6 5), .int 0, .ref (uu6 6), .ref (uu6 7), .ref (uu6 8), .ref (uu6 9), .ref (uu6 10)])), ((uu6 0), .inl (cs 0, 500, .inl (fun _ => 0))), (qn7, .inr (10, [.int 0, .ref (uu8 0), .ref (uu8 1), .ref (uu8 2), .ref (uu8 3), .ref (uu8 4), .ref (uu8 5), .ref (uu8 6)])), (qn9, .inr (10, [.int 0, .ref (uu10 0), .ref (uu10 1), .ref (uu10 2), .ref (uu10 3), .ref (uu10 4), .ref (uu10 5), .ref (uu10 6)])), (qn15, .inr (1, [.int 0, .ref (uu16 0), .ref (uu16 1), .ref (uu16 2), .ref (uu16 3)])), (qn17, .inr (0, [.int 0, .int 0, .ref (uu18 0), .ref (uu18 1)])), (qn19, .inr (7, [.int 0, .ref (uu20 0)])), ((uu20 0), .inl (cs 0, 450, .inl (fun _ => 0))), (qn23, .inr (10, [.int 0, .null, .null, .null, .null, .null, .null, .null]))] H := hP
  have hD : va_D A [(ad0, .inr (11, [.ref qn1, .ref qn3, .ref qn5, .ref qn7, .ref qn9, .ref qn11, .ref qn13, .ref qn15, .ref qn17, .ref qn19, .ref qn21, .null, .null, .null, .null, .int 0, .null, .int 0, .null])), (qn1, .inr (9, [.ref (uu2 0), .int 0, .int 0, .int 0, .int 0])), ((uu2 0), .inl (cs 0, 500, .inl (fun _ => 0))), (qn3, .inr (2, [.ref (uu4 0), .int 0, .ref (uu4 1), .ref (uu4 2), .ref (uu4 3), .ref (uu4 4), .ref (uu4 5), .int 0, .ref (uu4 6), .ref (uu4 7), .ref (uu4 8), .ref (uu4 9), .ref (uu4 10)])), ((uu4 0), .inl (cs 0, 500, .inl (fun _ => 0))), (qn5, .inr (2, [.ref (uu6 0), .int 0, .ref (uu6 1), .ref (uu6 2), .ref (uu6 3), .ref (uu6 4), .ref (uu6 5), .int 0, .ref (uu6 6), .ref (uu6 7), .ref (uu6 8), .ref (uu6 9), .ref (uu6 10)])), ((uu6 0), .inl (cs 0, 500, .inl (fun _ => 0))), (qn7, .inr (10, [.int 0, .ref (uu8 0), .ref (uu8 1), .ref (uu8 2), .ref (uu8 3), .ref (uu8 4), .ref (uu8 5), .ref (uu8 6)])), (qn9, .inr (10, [.int 0, .ref (uu10 0), .ref (uu10 1), .ref (uu10 2), .ref (uu10 3), .ref (uu10 4), .ref (uu10 5), .ref (uu10 6)])), (qn15, .inr (1, [.int 0, .ref (uu16 0), .ref (uu16 1), .ref (uu16 2), .ref (uu16 3)])), (qn17, .inr (0, [.int 0, .int 0, .ref (uu18 0), .ref (uu18 1)])), (qn19, .inr (7, [.int 0, .ref (uu20 0)])), ((uu20 0), .inl (cs 0, 450, .inl (fun _ => 0))), (qn23, .inr (10, [.int 0, .null, .null, .null, .null, .null, .null, .null]))] := hD
  refine lv_dup hx hb dX11_init_129 rfl ?_
  refine cx_IN (D := D) (cs := cs) (wc := [(qn23, .inr (10, [.int 0, .null, .null, .null, .null, .null, .null, .null]))]) (wr := [(ad0, .inr (11, [.ref qn1, .ref qn3, .ref qn5, .ref qn7, .ref qn9, .ref qn11, .ref qn13, .ref qn15, .ref qn17, .ref qn19, .ref qn21, .null, .null, .null, .null, .int 0, .null, .int 0, .null])), (qn1, .inr (9, [.ref (uu2 0), .int 0, .int 0, .int 0, .int 0])), ((uu2 0), .inl (cs 0, 500, .inl (fun _ => 0))), (qn3, .inr (2, [.ref (uu4 0), .int 0, .ref (uu4 1), .ref (uu4 2), .ref (uu4 3), .ref (uu4 4), .ref (uu4 5), .int 0, .ref (uu4 6), .ref (uu4 7), .ref (uu4 8), .ref (uu4 9), .ref (uu4 10)])), ((uu4 0), .inl (cs 0, 500, .inl (fun _ => 0))), (qn5, .inr (2, [.ref (uu6 0), .int 0, .ref (uu6 1), .ref (uu6 2), .ref (uu6 3), .ref (uu6 4), .ref (uu6 5), .int 0, .ref (uu6 6), .ref (uu6 7), .ref (uu6 8), .ref (uu6 9), .ref (uu6 10)])), ((uu6 0), .inl (cs 0, 500, .inl (fun _ => 0))), (qn7, .inr (10, [.int 0, .ref (uu8 0), .ref (uu8 1), .ref (uu8 2), .ref (uu8 3), .ref (uu8 4), .ref (uu8 5), .ref (uu8 6)])), (qn9, .inr (10, [.int 0, .ref (uu10 0), .ref (uu10 1), .ref (uu10 2), .ref (uu10 3), .ref (uu10 4), .ref (uu10 5), .ref (uu10 6)])), (qn15, .inr (1, [.int 0, .ref (uu16 0), .ref (uu16 1), .ref (uu16 2), .ref (uu16 3)])), (qn17, .inr (0, [.int 0, .int 0, .ref (uu18 0), .ref (uu18 1)])), (qn19, .inr (7, [.int 0, .ref (uu20 0)])), ((uu20 0), .inl (cs 0, 450, .inl (fun _ => 0)))]) (v := none) (w1 := fun u => [(qn23, .inr (10, [.int 0, .ref (u 0), .ref (u 1), .ref (u 2), .ref (u 3), .ref (u 4), .ref (u 5), .ref (u 6)]))]) (As := []) (rest := [.ref qn23, .ref ad0]) (o := qn23) ⟨hx, hb, hml, hown, hB⟩ (fun sz => kX10_init l D cs qn23 sz) cw_114 cw_4 (by decide +kernel) cw_113 rfl rfl rfl (by decide +kernel) ⟨Nat.le_of_ble_eq_true rfl, Nat.le_of_ble_eq_true rfl⟩ hK hN hP hD hS hA [13] [0, 1, 2, 3, 4, 5, 6, 7, 8, 9, 10, 11, 12] rfl rfl (by decide) rfl hl.1 rfl (Nat.le_of_ble_eq_true rfl) dX11_init_130 ⟨Nat.le_of_ble_eq_true rfl, Nat.le_of_ble_eq_true rfl⟩ (fun uu24 H locs hP hD hS => ?_)
  refine W.eq (g2 := F0 m 133 ls [.ref qn23, .ref ad0]) rfl ?_
  have hP : va_P D vwCl [(ad0, .inr (11, [.ref qn1, .ref qn3, .ref qn5, .ref qn7, .ref qn9, .ref qn11, .ref qn13, .ref qn15, .ref qn17, .ref qn19, .ref qn21, .null, .null, .null, .null, .int 0, .null, .int 0, .null])), (qn1, .inr (9, [.ref (uu2 0), .int 0, .int 0, .int 0, .int 0])), ((uu2 0), .inl (cs 0, 500, .inl (fun _ => 0))), (qn3, .inr (2, [.ref (uu4 0), .int 0, .ref (uu4 1), .ref (uu4 2), .ref (uu4 3), .ref (uu4 4), .ref (uu4 5), .int 0, .ref (uu4 6), .ref (uu4 7), .ref (uu4 8), .ref (uu4 9), .ref (uu4 10)])), ((uu4 0), .inl (cs 0, 500, .inl (fun _ => 0))), (qn5, .inr (2, [.ref (uu6 0), .int 0, .ref (uu6 1), .ref (uu6 2), .ref (uu6 3), .ref (uu6 4), .ref (uu6 5), .int 0, .ref (uu6 6), .ref (uu6 7), .ref (uu6 8), .ref (uu6 9), .ref (uu6 10)])), ((uu6 0), .inl (cs 0, 500, .inl (fun _ => 0))), (qn7, .inr (10, [.int 0, .ref (uu8 0), .ref (uu8 1), .ref (uu8 2), .ref (uu8 3), .ref (uu8 4), .ref (uu8 5), .ref (uu8 6)])), (qn9, .inr (10, [.int 0, .ref (uu10 0), .ref (uu10 1), .ref (uu10 2), .ref (uu10 3), .ref (uu10 4), .ref (uu10 5), .ref (uu10 6)])), (qn15, .inr (1, [.int 0, .ref (uu16 0), .ref (uu16 1), .ref (uu16 2), .ref (uu16 3)])), (qn17, .inr (0, [.int 0, .int 0, .ref (uu18 0), .ref (uu18 1)])), (qn19, .inr (7, [.int 0, .ref (uu20 0)])), ((uu20 0), .inl (cs 0, 450, .inl (fun _ => 0))), (qn23, .inr (10, [.int 0, .ref (uu24 0), .ref (uu24 1), .ref (uu24 2), .ref (uu24 3), .ref (uu24 4), .ref (uu24 5), .ref (uu24 6)]))] H := hP
  have hD : va_D A [(ad0, .inr (11, [.ref qn1, .ref qn3, .ref qn5, .ref qn7, .ref qn9, .ref qn11, .ref qn13, .ref qn15, .ref qn17, .ref qn19, .ref qn21, .null, .null, .null, .null, .int 0, .null, .int 0, .null])), (qn1, .inr (9, [.ref (uu2 0), .int 0, .int 0, .int 0, .int 0])), ((uu2 0), .inl (cs 0, 500, .inl (fun _ => 0))), (qn3, .inr (2, [.ref (uu4 0), .int 0, .ref (uu4 1), .ref (uu4 2), .ref (uu4 3), .ref (uu4 4), .ref (uu4 5), .int 0, .ref (uu4 6), .ref (uu4 7), .ref (uu4 8), .ref (uu4 9), .ref (uu4 10)])), ((uu4 0), .inl (cs 0, 500, .inl (fun _ => 0))), (qn5, .inr (2, [.ref (uu6 0), .int 0, .ref (uu6 1), .ref (uu6 2), .ref (uu6 3), .ref (uu6 4), .ref (uu6 5), .int 0, .ref (uu6 6), .ref (uu6 7), .ref (uu6 8), .ref (uu6 9), .ref (uu6 10)])), ((uu6 0), .inl (cs 0, 500, .inl (fun _ => 0))), (qn7, .inr (10, [.int 0, .ref (uu8 0), .ref (uu8 1), .ref (uu8 2), .ref (uu8 3), .ref (uu8 4), .ref (uu8 5), .ref (uu8 6)])), (qn9, .inr (10, [.int 0, .ref (uu10 0), .ref (uu10 1), .ref (uu10 2), .ref (uu10 3), .ref (uu10 4), .ref (uu10 5), .ref (uu10 6)])), (qn15, .inr (1, [.int 0, .ref (uu16 0), .ref (uu16 1), .ref (uu16 2), .ref (uu16 3)])), (qn17, .inr (0, [.int 0, .int 0, .ref (uu18 0), .ref (uu18 1)])), (qn19, .inr (7, [.int 0, .ref (uu20 0)])), ((uu20 0), .inl (cs 0, 450, .inl (fun _ => 0))), (qn23, .inr (10, [.int 0, .ref (uu24 0), .ref (uu24 1), .ref (uu24 2), .ref (uu24 3), .ref (uu24 4), .ref (uu24 5), .ref (uu24 6)]))] := hD
  refine va_putF (D := D) (ci := 11) (v := .ref qn23) (ty := .object "TreeMerge$Tree") (C := RX11) (T := TX11) (N := 19) hx hb hB cx_inX11 tyX11 tyX11_ok nmX11 hown hK hP hD hS 0 rfl rfl 11 (by decide) (hB _ cw_394) (fun _ h9 => h9) rfl hnm rfl (by decide +kernel) rfl rfl (Nat.le_of_ble_eq_true rfl) dX11_init_133 (fun H locs hP hD hS => ?_)
  have hP : va_P D vwCl [(ad0, .inr (11, [.ref qn1, .ref qn3, .ref qn5, .ref qn7, .ref qn9, .ref qn11, .ref qn13, .ref qn15, .ref qn17, .ref qn19, .ref qn21, .ref qn23, .null, .null, .null, .int 0, .null, .int 0, .null])), (qn1, .inr (9, [.ref (uu2 0), .int 0, .int 0, .int 0, .int 0])), ((uu2 0), .inl (cs 0, 500, .inl (fun _ => 0))), (qn3, .inr (2, [.ref (uu4 0), .int 0, .ref (uu4 1), .ref (uu4 2), .ref (uu4 3), .ref (uu4 4), .ref (uu4 5), .int 0, .ref (uu4 6), .ref (uu4 7), .ref (uu4 8), .ref (uu4 9), .ref (uu4 10)])), ((uu4 0), .inl (cs 0, 500, .inl (fun _ => 0))), (qn5, .inr (2, [.ref (uu6 0), .int 0, .ref (uu6 1), .ref (uu6 2), .ref (uu6 3), .ref (uu6 4), .ref (uu6 5), .int 0, .ref (uu6 6), .ref (uu6 7), .ref (uu6 8), .ref (uu6 9), .ref (uu6 10)])), ((uu6 0), .inl (cs 0, 500, .inl (fun _ => 0))), (qn7, .inr (10, [.int 0, .ref (uu8 0), .ref (uu8 1), .ref (uu8 2), .ref (uu8 3), .ref (uu8 4), .ref (uu8 5), .ref (uu8 6)])), (qn9, .inr (10, [.int 0, .ref (uu10 0), .ref (uu10 1), .ref (uu10 2), .ref (uu10 3), .ref (uu10 4), .ref (uu10 5), .ref (uu10 6)])), (qn15, .inr (1, [.int 0, .ref (uu16 0), .ref (uu16 1), .ref (uu16 2), .ref (uu16 3)])), (qn17, .inr (0, [.int 0, .int 0, .ref (uu18 0), .ref (uu18 1)])), (qn19, .inr (7, [.int 0, .ref (uu20 0)])), ((uu20 0), .inl (cs 0, 450, .inl (fun _ => 0))), (qn23, .inr (10, [.int 0, .ref (uu24 0), .ref (uu24 1), .ref (uu24 2), .ref (uu24 3), .ref (uu24 4), .ref (uu24 5), .ref (uu24 6)]))] H := hP
  have hD : va_D A [(ad0, .inr (11, [.ref qn1, .ref qn3, .ref qn5, .ref qn7, .ref qn9, .ref qn11, .ref qn13, .ref qn15, .ref qn17, .ref qn19, .ref qn21, .ref qn23, .null, .null, .null, .int 0, .null, .int 0, .null])), (qn1, .inr (9, [.ref (uu2 0), .int 0, .int 0, .int 0, .int 0])), ((uu2 0), .inl (cs 0, 500, .inl (fun _ => 0))), (qn3, .inr (2, [.ref (uu4 0), .int 0, .ref (uu4 1), .ref (uu4 2), .ref (uu4 3), .ref (uu4 4), .ref (uu4 5), .int 0, .ref (uu4 6), .ref (uu4 7), .ref (uu4 8), .ref (uu4 9), .ref (uu4 10)])), ((uu4 0), .inl (cs 0, 500, .inl (fun _ => 0))), (qn5, .inr (2, [.ref (uu6 0), .int 0, .ref (uu6 1), .ref (uu6 2), .ref (uu6 3), .ref (uu6 4), .ref (uu6 5), .int 0, .ref (uu6 6), .ref (uu6 7), .ref (uu6 8), .ref (uu6 9), .ref (uu6 10)])), ((uu6 0), .inl (cs 0, 500, .inl (fun _ => 0))), (qn7, .inr (10, [.int 0, .ref (uu8 0), .ref (uu8 1), .ref (uu8 2), .ref (uu8 3), .ref (uu8 4), .ref (uu8 5), .ref (uu8 6)])), (qn9, .inr (10, [.int 0, .ref (uu10 0), .ref (uu10 1), .ref (uu10 2), .ref (uu10 3), .ref (uu10 4), .ref (uu10 5), .ref (uu10 6)])), (qn15, .inr (1, [.int 0, .ref (uu16 0), .ref (uu16 1), .ref (uu16 2), .ref (uu16 3)])), (qn17, .inr (0, [.int 0, .int 0, .ref (uu18 0), .ref (uu18 1)])), (qn19, .inr (7, [.int 0, .ref (uu20 0)])), ((uu20 0), .inl (cs 0, 450, .inl (fun _ => 0))), (qn23, .inr (10, [.int 0, .ref (uu24 0), .ref (uu24 1), .ref (uu24 2), .ref (uu24 3), .ref (uu24 4), .ref (uu24 5), .ref (uu24 6)]))] := hD
  refine lv_aload_n hx hb dX11_init_136 rfl (lv_at hl 0 rfl) ?_
  refine va_new (ci := 10) (fs := [.int 0, .null, .null, .null, .null, .null, .null, .null]) (C := RX10) (T := TX10) (N := 8) hx hb hB cx_inX10 tyX10 tyX10_ok hown (hB _ cw_110) (hB _ cw_111) (hB _ cw_4) hK hP hD hS hA rfl cx_fsX10 (Nat.le_of_ble_eq_true rfl) (Nat.le_of_ble_eq_true rfl) dX11_init_137 (fun qn25 H hP hD hS => ?_)
  have hP : va_P D vwCl [(ad0, .inr (11, [.ref qn1, .ref qn3, .ref qn5, .ref qn7, .ref qn9, .ref qn11, .ref qn13, .ref qn15, .ref qn17, .ref qn19, .ref qn21, .ref qn23, .null, .null, .null, .int 0, .null, .int 0, .null])), (qn1, .inr (9, [.ref (uu2 0), .int 0, .int 0, .int 0, .int 0])), ((uu2 0), .inl (cs 0, 500, .inl (fun _ => 0))), (qn3, .inr (2, [.ref (uu4 0), .int 0, .ref (uu4 1), .ref (uu4 2), .ref (uu4 3), .ref (uu4 4), .ref (uu4 5), .int 0, .ref (uu4 6), .ref (uu4 7), .ref (uu4 8), .ref (uu4 9), .ref (uu4 10)])), ((uu4 0), .inl (cs 0, 500, .inl (fun _ => 0))), (qn5, .inr (2, [.ref (uu6 0), .int 0, .ref (uu6 1), .ref (uu6 2), .ref (uu6 3), .ref (uu6 4), .ref (uu6 5), .int 0, .ref (uu6 6), .ref (uu6 7), .ref (uu6 8), .ref (uu6 9), .ref (uu6 10)])), ((uu6 0), .inl (cs 0, 500, .inl (fun _ => 0))), (qn7, .inr (10, [.int 0, .ref (uu8 0), .ref (uu8 1), .ref (uu8 2), .ref (uu8 3), .ref (uu8 4), .ref (uu8 5), .ref (uu8 6)])), (qn9, .inr (10, [.int 0, .ref (uu10 0), .ref (uu10 1), .ref (uu10 2), .ref (uu10 3), .ref (uu10 4), .ref (uu10 5), .ref (uu10 6)])), (qn15, .inr (1, [.int 0, .ref (uu16 0), .ref (uu16 1), .ref (uu16 2), .ref (uu16 3)])), (qn17, .inr (0, [.int 0, .int 0, .ref (uu18 0), .ref (uu18 1)])), (qn19, .inr (7, [.int 0, .ref (uu20 0)])), ((uu20 0), .inl (cs 0, 450, .inl (fun _ => 0))), (qn23, .inr (10, [.int 0, .ref (uu24 0), .ref (uu24 1), .ref (uu24 2), .ref (uu24 3), .ref (uu24 4), .ref (uu24 5), .ref (uu24 6)])), (qn25, .inr (10, [.int 0, .null, .null, .null, .null, .null, .null, .null]))] H := hP
  have hD : va_D A [(ad0, .inr (11, [.ref qn1, .ref qn3, .ref qn5, .ref qn7, .ref qn9, .ref qn11, .ref qn13, .ref qn15, .ref qn17, .ref qn19, .ref qn21, .ref qn23, .null, .null, .null, .int 0, .null, .int 0, .null])), (qn1, .inr (9, [.ref (uu2 0), .int 0, .int 0, .int 0, .int 0])), ((uu2 0), .inl (cs 0, 500, .inl (fun _ => 0))), (qn3, .inr (2, [.ref (uu4 0), .int 0, .ref (uu4 1), .ref (uu4 2), .ref (uu4 3), .ref (uu4 4), .ref (uu4 5), .int 0, .ref (uu4 6), .ref (uu4 7), .ref (uu4 8), .ref (uu4 9), .ref (uu4 10)])), ((uu4 0), .inl (cs 0, 500, .inl (fun _ => 0))), (qn5, .inr (2, [.ref (uu6 0), .int 0, .ref (uu6 1), .ref (uu6 2), .ref (uu6 3), .ref (uu6 4), .ref (uu6 5), .int 0, .ref (uu6 6), .ref (uu6 7), .ref (uu6 8), .ref (uu6 9), .ref (uu6 10)])), ((uu6 0), .inl (cs 0, 500, .inl (fun _ => 0))), (qn7, .inr (10, [.int 0, .ref (uu8 0), .ref (uu8 1), .ref (uu8 2), .ref (uu8 3), .ref (uu8 4), .ref (uu8 5), .ref (uu8 6)])), (qn9, .inr (10, [.int 0, .ref (uu10 0), .ref (uu10 1), .ref (uu10 2), .ref (uu10 3), .ref (uu10 4), .ref (uu10 5), .ref (uu10 6)])), (qn15, .inr (1, [.int 0, .ref (uu16 0), .ref (uu16 1), .ref (uu16 2), .ref (uu16 3)])), (qn17, .inr (0, [.int 0, .int 0, .ref (uu18 0), .ref (uu18 1)])), (qn19, .inr (7, [.int 0, .ref (uu20 0)])), ((uu20 0), .inl (cs 0, 450, .inl (fun _ => 0))), (qn23, .inr (10, [.int 0, .ref (uu24 0), .ref (uu24 1), .ref (uu24 2), .ref (uu24 3), .ref (uu24 4), .ref (uu24 5), .ref (uu24 6)])), (qn25, .inr (10, [.int 0, .null, .null, .null, .null, .null, .null, .null]))] := hD
  refine lv_dup hx hb dX11_init_140 rfl ?_
  refine cx_IN (D := D) (cs := cs) (wc := [(qn25, .inr (10, [.int 0, .null, .null, .null, .null, .null, .null, .null]))]) (wr := [(ad0, .inr (11, [.ref qn1, .ref qn3, .ref qn5, .ref qn7, .ref qn9, .ref qn11, .ref qn13, .ref qn15, .ref qn17, .ref qn19, .ref qn21, .ref qn23, .null, .null, .null, .int 0, .null, .int 0, .null])), (qn1, .inr (9, [.ref (uu2 0), .int 0, .int 0, .int 0, .int 0])), ((uu2 0), .inl (cs 0, 500, .inl (fun _ => 0))), (qn3, .inr (2, [.ref (uu4 0), .int 0, .ref (uu4 1), .ref (uu4 2), .ref (uu4 3), .ref (uu4 4), .ref (uu4 5), .int 0, .ref (uu4 6), .ref (uu4 7), .ref (uu4 8), .ref (uu4 9), .ref (uu4 10)])), ((uu4 0), .inl (cs 0, 500, .inl (fun _ => 0))), (qn5, .inr (2, [.ref (uu6 0), .int 0, .ref (uu6 1), .ref (uu6 2), .ref (uu6 3), .ref (uu6 4), .ref (uu6 5), .int 0, .ref (uu6 6), .ref (uu6 7), .ref (uu6 8), .ref (uu6 9), .ref (uu6 10)])), ((uu6 0), .inl (cs 0, 500, .inl (fun _ => 0))), (qn7, .inr (10, [.int 0, .ref (uu8 0), .ref (uu8 1), .ref (uu8 2), .ref (uu8 3), .ref (uu8 4), .ref (uu8 5), .ref (uu8 6)])), (qn9, .inr (10, [.int 0, .ref (uu10 0), .ref (uu10 1), .ref (uu10 2), .ref (uu10 3), .ref (uu10 4), .ref (uu10 5), .ref (uu10 6)])), (qn15, .inr (1, [.int 0, .ref (uu16 0), .ref (uu16 1), .ref (uu16 2), .ref (uu16 3)])), (qn17, .inr (0, [.int 0, .int 0, .ref (uu18 0), .ref (uu18 1)])), (qn19, .inr (7, [.int 0, .ref (uu20 0)])), ((uu20 0), .inl (cs 0, 450, .inl (fun _ => 0))), (qn23, .inr (10, [.int 0, .ref (uu24 0), .ref (uu24 1), .ref (uu24 2), .ref (uu24 3), .ref (uu24 4), .ref (uu24 5), .ref (uu24 6)]))]) (v := none) (w1 := fun u => [(qn25, .inr (10, [.int 0, .ref (u 0), .ref (u 1), .ref (u 2), .ref (u 3), .ref (u 4), .ref (u 5), .ref (u 6)]))]) (As := []) (rest := [.ref qn25, .ref ad0]) (o := qn25) ⟨hx, hb, hml, hown, hB⟩ (fun sz => kX10_init l D cs qn25 sz) cw_114 cw_4 (by decide +kernel) cw_113 rfl rfl rfl (by decide +kernel) ⟨Nat.le_of_ble_eq_true rfl, Nat.le_of_ble_eq_true rfl⟩ hK hN hP hD hS hA [14] [0, 1, 2, 3, 4, 5, 6, 7, 8, 9, 10, 11, 12, 13] rfl rfl (by decide) rfl hl.1 rfl (Nat.le_of_ble_eq_true rfl) dX11_init_141 ⟨Nat.le_of_ble_eq_true rfl, Nat.le_of_ble_eq_true rfl⟩ (fun uu26 H locs hP hD hS => ?_)
  refine W.eq (g2 := F0 m 144 ls [.ref qn25, .ref ad0]) rfl ?_
  have hP : va_P D vwCl [(ad0, .inr (11, [.ref qn1, .ref qn3, .ref qn5, .ref qn7, .ref qn9, .ref qn11, .ref qn13, .ref qn15, .ref qn17, .ref qn19, .ref qn21, .ref qn23, .null, .null, .null, .int 0, .null, .int 0, .null])), (qn1, .inr (9, [.ref (uu2 0), .int 0, .int 0, .int 0, .int 0])), ((uu2 0), .inl (cs 0, 500, .inl (fun _ => 0))), (qn3, .inr (2, [.ref (uu4 0), .int 0, .ref (uu4 1), .ref (uu4 2), .ref (uu4 3), .ref (uu4 4), .ref (uu4 5), .int 0, .ref (uu4 6), .ref (uu4 7), .ref (uu4 8), .ref (uu4 9), .ref (uu4 10)])), ((uu4 0), .inl (cs 0, 500, .inl (fun _ => 0))), (qn5, .inr (2, [.ref (uu6 0), .int 0, .ref (uu6 1), .ref (uu6 2), .ref (uu6 3), .ref (uu6 4), .ref (uu6 5), .int 0, .ref (uu6 6), .ref (uu6 7), .ref (uu6 8), .ref (uu6 9), .ref (uu6 10)])), ((uu6 0), .inl (cs 0, 500, .inl (fun _ => 0))), (qn7, .inr (10, [.int 0, .ref (uu8 0), .ref (uu8 1), .ref (uu8 2), .ref (uu8 3), .ref (uu8 4), .ref (uu8 5), .ref (uu8 6)])), (qn9, .inr (10, [.int 0, .ref (uu10 0), .ref (uu10 1), .ref (uu10 2), .ref (uu10 3), .ref (uu10 4), .ref (uu10 5), .ref (uu10 6)])), (qn15, .inr (1, [.int 0, .ref (uu16 0), .ref (uu16 1), .ref (uu16 2), .ref (uu16 3)])), (qn17, .inr (0, [.int 0, .int 0, .ref (uu18 0), .ref (uu18 1)])), (qn19, .inr (7, [.int 0, .ref (uu20 0)])), ((uu20 0), .inl (cs 0, 450, .inl (fun _ => 0))), (qn23, .inr (10, [.int 0, .ref (uu24 0), .ref (uu24 1), .ref (uu24 2), .ref (uu24 3), .ref (uu24 4), .ref (uu24 5), .ref (uu24 6)])), (qn25, .inr (10, [.int 0, .ref (uu26 0), .ref (uu26 1), .ref (uu26 2), .ref (uu26 3), .ref (uu26 4), .ref (uu26 5), .ref (uu26 6)]))] H := hP
  have hD : va_D A [(ad0, .inr (11, [.ref qn1, .ref qn3, .ref qn5, .ref qn7, .ref qn9, .ref qn11, .ref qn13, .ref qn15, .ref qn17, .ref qn19, .ref qn21, .ref qn23, .null, .null, .null, .int 0, .null, .int 0, .null])), (qn1, .inr (9, [.ref (uu2 0), .int 0, .int 0, .int 0, .int 0])), ((uu2 0), .inl (cs 0, 500, .inl (fun _ => 0))), (qn3, .inr (2, [.ref (uu4 0), .int 0, .ref (uu4 1), .ref (uu4 2), .ref (uu4 3), .ref (uu4 4), .ref (uu4 5), .int 0, .ref (uu4 6), .ref (uu4 7), .ref (uu4 8), .ref (uu4 9), .ref (uu4 10)])), ((uu4 0), .inl (cs 0, 500, .inl (fun _ => 0))), (qn5, .inr (2, [.ref (uu6 0), .int 0, .ref (uu6 1), .ref (uu6 2), .ref (uu6 3), .ref (uu6 4), .ref (uu6 5), .int 0, .ref (uu6 6), .ref (uu6 7), .ref (uu6 8), .ref (uu6 9), .ref (uu6 10)])), ((uu6 0), .inl (cs 0, 500, .inl (fun _ => 0))), (qn7, .inr (10, [.int 0, .ref (uu8 0), .ref (uu8 1), .ref (uu8 2), .ref (uu8 3), .ref (uu8 4), .ref (uu8 5), .ref (uu8 6)])), (qn9, .inr (10, [.int 0, .ref (uu10 0), .ref (uu10 1), .ref (uu10 2), .ref (uu10 3), .ref (uu10 4), .ref (uu10 5), .ref (uu10 6)])), (qn15, .inr (1, [.int 0, .ref (uu16 0), .ref (uu16 1), .ref (uu16 2), .ref (uu16 3)])), (qn17, .inr (0, [.int 0, .int 0, .ref (uu18 0), .ref (uu18 1)])), (qn19, .inr (7, [.int 0, .ref (uu20 0)])), ((uu20 0), .inl (cs 0, 450, .inl (fun _ => 0))), (qn23, .inr (10, [.int 0, .ref (uu24 0), .ref (uu24 1), .ref (uu24 2), .ref (uu24 3), .ref (uu24 4), .ref (uu24 5), .ref (uu24 6)])), (qn25, .inr (10, [.int 0, .ref (uu26 0), .ref (uu26 1), .ref (uu26 2), .ref (uu26 3), .ref (uu26 4), .ref (uu26 5), .ref (uu26 6)]))] := hD
  refine va_putF (D := D) (ci := 11) (v := .ref qn25) (ty := .object "TreeMerge$Tree") (C := RX11) (T := TX11) (N := 19) hx hb hB cx_inX11 tyX11 tyX11_ok nmX11 hown hK hP hD hS 0 rfl rfl 12 (by decide) (hB _ cw_395) (fun _ h9 => h9) rfl hnm rfl (by decide +kernel) rfl rfl (Nat.le_of_ble_eq_true rfl) dX11_init_144 (fun H locs hP hD hS => ?_)
  have hP : va_P D vwCl [(ad0, .inr (11, [.ref qn1, .ref qn3, .ref qn5, .ref qn7, .ref qn9, .ref qn11, .ref qn13, .ref qn15, .ref qn17, .ref qn19, .ref qn21, .ref qn23, .ref qn25, .null, .null, .int 0, .null, .int 0, .null])), (qn1, .inr (9, [.ref (uu2 0), .int 0, .int 0, .int 0, .int 0])), ((uu2 0), .inl (cs 0, 500, .inl (fun _ => 0))), (qn3, .inr (2, [.ref (uu4 0), .int 0, .ref (uu4 1), .ref (uu4 2), .ref (uu4 3), .ref (uu4 4), .ref (uu4 5), .int 0, .ref (uu4 6), .ref (uu4 7), .ref (uu4 8), .ref (uu4 9), .ref (uu4 10)])), ((uu4 0), .inl (cs 0, 500, .inl (fun _ => 0))), (qn5, .inr (2, [.ref (uu6 0), .int 0, .ref (uu6 1), .ref (uu6 2), .ref (uu6 3), .ref (uu6 4), .ref (uu6 5), .int 0, .ref (uu6 6), .ref (uu6 7), .ref (uu6 8), .ref (uu6 9), .ref (uu6 10)])), ((uu6 0), .inl (cs 0, 500, .inl (fun _ => 0))), (qn7, .inr (10, [.int 0, .ref (uu8 0), .ref (uu8 1), .ref (uu8 2), .ref (uu8 3), .ref (uu8 4), .ref (uu8 5), .ref (uu8 6)])), (qn9, .inr (10, [.int 0, .ref (uu10 0), .ref (uu10 1), .ref (uu10 2), .ref (uu10 3), .ref (uu10 4), .ref (uu10 5), .ref (uu10 6)])), (qn15, .inr (1, [.int 0, .ref (uu16 0), .ref (uu16 1), .ref (uu16 2), .ref (uu16 3)])), (qn17, .inr (0, [.int 0, .int 0, .ref (uu18 0), .ref (uu18 1)])), (qn19, .inr (7, [.int 0, .ref (uu20 0)])), ((uu20 0), .inl (cs 0, 450, .inl (fun _ => 0))), (qn23, .inr (10, [.int 0, .ref (uu24 0), .ref (uu24 1), .ref (uu24 2), .ref (uu24 3), .ref (uu24 4), .ref (uu24 5), .ref (uu24 6)])), (qn25, .inr (10, [.int 0, .ref (uu26 0), .ref (uu26 1), .ref (uu26 2), .ref (uu26 3), .ref (uu26 4), .ref (uu26 5), .ref (uu26 6)]))] H := hP
  have hD : va_D A [(ad0, .inr (11, [.ref qn1, .ref qn3, .ref qn5, .ref qn7, .ref qn9, .ref qn11, .ref qn13, .ref qn15, .ref qn17, .ref qn19, .ref qn21, .ref qn23, .ref qn25, .null, .null, .int 0, .null, .int 0, .null])), (qn1, .inr (9, [.ref (uu2 0), .int 0, .int 0, .int 0, .int 0])), ((uu2 0), .inl (cs 0, 500, .inl (fun _ => 0))), (qn3, .inr (2, [.ref (uu4 0), .int 0, .ref (uu4 1), .ref (uu4 2), .ref (uu4 3), .ref (uu4 4), .ref (uu4 5), .int 0, .ref (uu4 6), .ref (uu4 7), .ref (uu4 8), .ref (uu4 9), .ref (uu4 10)])), ((uu4 0), .inl (cs 0, 500, .inl (fun _ => 0))), (qn5, .inr (2, [.ref (uu6 0), .int 0, .ref (uu6 1), .ref (uu6 2), .ref (uu6 3), .ref (uu6 4), .ref (uu6 5), .int 0, .ref (uu6 6), .ref (uu6 7), .ref (uu6 8), .ref (uu6 9), .ref (uu6 10)])), ((uu6 0), .inl (cs 0, 500, .inl (fun _ => 0))), (qn7, .inr (10, [.int 0, .ref (uu8 0), .ref (uu8 1), .ref (uu8 2), .ref (uu8 3), .ref (uu8 4), .ref (uu8 5), .ref (uu8 6)])), (qn9, .inr (10, [.int 0, .ref (uu10 0), .ref (uu10 1), .ref (uu10 2), .ref (uu10 3), .ref (uu10 4), .ref (uu10 5), .ref (uu10 6)])), (qn15, .inr (1, [.int 0, .ref (uu16 0), .ref (uu16 1), .ref (uu16 2), .ref (uu16 3)])), (qn17, .inr (0, [.int 0, .int 0, .ref (uu18 0), .ref (uu18 1)])), (qn19, .inr (7, [.int 0, .ref (uu20 0)])), ((uu20 0), .inl (cs 0, 450, .inl (fun _ => 0))), (qn23, .inr (10, [.int 0, .ref (uu24 0), .ref (uu24 1), .ref (uu24 2), .ref (uu24 3), .ref (uu24 4), .ref (uu24 5), .ref (uu24 6)])), (qn25, .inr (10, [.int 0, .ref (uu26 0), .ref (uu26 1), .ref (uu26 2), .ref (uu26 3), .ref (uu26 4), .ref (uu26 5), .ref (uu26 6)]))] := hD
  refine lv_aload_n hx hb dX11_init_147 rfl (lv_at hl 0 rfl) ?_
  refine va_new (ci := 6) (fs := [.int 0, .int 0, .int 0]) (C := RX6) (T := TX6) (N := 3) hx hb hB cx_inX6 tyX6 tyX6_ok hown (hB _ cw_365) (hB _ cw_366) (hB _ cw_12) hK hP hD hS hA rfl cx_fsX6 (Nat.le_of_ble_eq_true rfl) (Nat.le_of_ble_eq_true rfl) dX11_init_148 (fun qn27 H hP hD hS => ?_)
  have hP : va_P D vwCl [(ad0, .inr (11, [.ref qn1, .ref qn3, .ref qn5, .ref qn7, .ref qn9, .ref qn11, .ref qn13, .ref qn15, .ref qn17, .ref qn19, .ref qn21, .ref qn23, .ref qn25, .null, .null, .int 0, .null, .int 0, .null])), (qn1, .inr (9, [.ref (uu2 0), .int 0, .int 0, .int 0, .int 0])), ((uu2 0), .inl (cs 0, 500, .inl (fun _ => 0))), (qn3, .inr (2, [.ref (uu4 0), .int 0, .ref (uu4 1), .ref (uu4 2), .ref (uu4 3), .ref (uu4 4), .ref (uu4 5), .int 0, .ref (uu4 6), .ref (uu4 7), .ref (uu4 8), .ref (uu4 9), .ref (uu4 10)])), ((uu4 0), .inl (cs 0, 500, .inl (fun _ => 0))), (qn5, .inr (2, [.ref (uu6 0), .int 0, .ref (uu6 1), .ref (uu6 2), .ref (uu6 3), .ref (uu6 4), .ref (uu6 5), .int 0, .ref (uu6 6), .ref (uu6 7), .ref (uu6 8), .ref (uu6 9), .ref (uu6 10)])), ((uu6 0), .inl (cs 0, 500, .inl (fun _ => 0))), (qn7, .inr (10, [.int 0, .ref (uu8 0), .ref (uu8 1), .ref (uu8 2), .ref (uu8 3), .ref (uu8 4), .ref (uu8 5), .ref (uu8 6)])), (qn9, .inr (10, [.int 0, .ref (uu10 0), .ref (uu10 1), .ref (uu10 2), .ref (uu10 3), .ref (uu10 4), .ref (uu10 5), .ref (uu10 6)])), (qn15, .inr (1, [.int 0, .ref (uu16 0), .ref (uu16 1), .ref (uu16 2), .ref (uu16 3)])), (qn17, .inr (0, [.int 0, .int 0, .ref (uu18 0), .ref (uu18 1)])), (qn19, .inr (7, [.int 0, .ref (uu20 0)])), ((uu20 0), .inl (cs 0, 450, .inl (fun _ => 0))), (qn23, .inr (10, [.int 0, .ref (uu24 0), .ref (uu24 1), .ref (uu24 2), .ref (uu24 3), .ref (uu24 4), .ref (uu24 5), .ref (uu24 6)])), (qn25, .inr (10, [.int 0, .ref (uu26 0), .ref (uu26 1), .ref (uu26 2), .ref (uu26 3), .ref (uu26 4), .ref (uu26 5), .ref (uu26 6)])), (qn27, .inr (6, [.int 0, .int 0, .int 0]))] H := hP
  have hD : va_D A [(ad0, .inr (11, [.ref qn1, .ref qn3, .ref qn5, .ref qn7, .ref qn9, .ref qn11, .ref qn13, .ref qn15, .ref qn17, .ref qn19, .ref qn21, .ref qn23, .ref qn25, .null, .null, .int 0, .null, .int 0, .null])), (qn1, .inr (9, [.ref (uu2 0), .int 0, .int 0, .int 0, .int 0])), ((uu2 0), .inl (cs 0, 500, .inl (fun _ => 0))), (qn3, .inr (2, [.ref (uu4 0), .int 0, .ref (uu4 1), .ref (uu4 2), .ref (uu4 3), .ref (uu4 4), .ref (uu4 5), .int 0, .ref (uu4 6), .ref (uu4 7), .ref (uu4 8), .ref (uu4 9), .ref (uu4 10)])), ((uu4 0), .inl (cs 0, 500, .inl (fun _ => 0))), (qn5, .inr (2, [.ref (uu6 0), .int 0, .ref (uu6 1), .ref (uu6 2), .ref (uu6 3), .ref (uu6 4), .ref (uu6 5), .int 0, .ref (uu6 6), .ref (uu6 7), .ref (uu6 8), .ref (uu6 9), .ref (uu6 10)])), ((uu6 0), .inl (cs 0, 500, .inl (fun _ => 0))), (qn7, .inr (10, [.int 0, .ref (uu8 0), .ref (uu8 1), .ref (uu8 2), .ref (uu8 3), .ref (uu8 4), .ref (uu8 5), .ref (uu8 6)])), (qn9, .inr (10, [.int 0, .ref (uu10 0), .ref (uu10 1), .ref (uu10 2), .ref (uu10 3), .ref (uu10 4), .ref (uu10 5), .ref (uu10 6)])), (qn15, .inr (1, [.int 0, .ref (uu16 0), .ref (uu16 1), .ref (uu16 2), .ref (uu16 3)])), (qn17, .inr (0, [.int 0, .int 0, .ref (uu18 0), .ref (uu18 1)])), (qn19, .inr (7, [.int 0, .ref (uu20 0)])), ((uu20 0), .inl (cs 0, 450, .inl (fun _ => 0))), (qn23, .inr (10, [.int 0, .ref (uu24 0), .ref (uu24 1), .ref (uu24 2), .ref (uu24 3), .ref (uu24 4), .ref (uu24 5), .ref (uu24 6)])), (qn25, .inr (10, [.int 0, .ref (uu26 0), .ref (uu26 1), .ref (uu26 2), .ref (uu26 3), .ref (uu26 4), .ref (uu26 5), .ref (uu26 6)])), (qn27, .inr (6, [.int 0, .int 0, .int 0]))] := hD
  refine lv_dup hx hb dX11_init_151 rfl ?_
  refine cx_IN (D := D) (cs := cs) (wc := [(qn27, .inr (6, [.int 0, .int 0, .int 0]))]) (wr := [(ad0, .inr (11, [.ref qn1, .ref qn3, .ref qn5, .ref qn7, .ref qn9, .ref qn11, .ref qn13, .ref qn15, .ref qn17, .ref qn19, .ref qn21, .ref qn23, .ref qn25, .null, .null, .int 0, .null, .int 0, .null])), (qn1, .inr (9, [.ref (uu2 0), .int 0, .int 0, .int 0, .int 0])), ((uu2 0), .inl (cs 0, 500, .inl (fun _ => 0))), (qn3, .inr (2, [.ref (uu4 0), .int 0, .ref (uu4 1), .ref (uu4 2), .ref (uu4 3), .ref (uu4 4), .ref (uu4 5), .int 0, .ref (uu4 6), .ref (uu4 7), .ref (uu4 8), .ref (uu4 9), .ref (uu4 10)])), ((uu4 0), .inl (cs 0, 500, .inl (fun _ => 0))), (qn5, .inr (2, [.ref (uu6 0), .int 0, .ref (uu6 1), .ref (uu6 2), .ref (uu6 3), .ref (uu6 4), .ref (uu6 5), .int 0, .ref (uu6 6), .ref (uu6 7), .ref (uu6 8), .ref (uu6 9), .ref (uu6 10)])), ((uu6 0), .inl (cs 0, 500, .inl (fun _ => 0))), (qn7, .inr (10, [.int 0, .ref (uu8 0), .ref (uu8 1), .ref (uu8 2), .ref (uu8 3), .ref (uu8 4), .ref (uu8 5), .ref (uu8 6)])), (qn9, .inr (10, [.int 0, .ref (uu10 0), .ref (uu10 1), .ref (uu10 2), .ref (uu10 3), .ref (uu10 4), .ref (uu10 5), .ref (uu10 6)])), (qn15, .inr (1, [.int 0, .ref (uu16 0), .ref (uu16 1), .ref (uu16 2), .ref (uu16 3)])), (qn17, .inr (0, [.int 0, .int 0, .ref (uu18 0), .ref (uu18 1)])), (qn19, .inr (7, [.int 0, .ref (uu20 0)])), ((uu20 0), .inl (cs 0, 450, .inl (fun _ => 0))), (qn23, .inr (10, [.int 0, .ref (uu24 0), .ref (uu24 1), .ref (uu24 2), .ref (uu24 3), .ref (uu24 4), .ref (uu24 5), .ref (uu24 6)])), (qn25, .inr (10, [.int 0, .ref (uu26 0), .ref (uu26 1), .ref (uu26 2), .ref (uu26 3), .ref (uu26 4), .ref (uu26 5), .ref (uu26 6)]))]) (v := none) (w1 := fun u => []) (As := []) (rest := [.ref qn27, .ref ad0]) (o := qn27) ⟨hx, hb, hml, hown, hB⟩ (fun sz => kX6_init l D cs qn27 sz) cw_369 cw_12 (by decide +kernel) cw_368 rfl rfl rfl (by decide +kernel) ⟨Nat.le_of_ble_eq_true rfl, Nat.le_of_ble_eq_true rfl⟩ hK hN hP hD hS hA [15] [0, 1, 2, 3, 4, 5, 6, 7, 8, 9, 10, 11, 12, 13, 14] rfl rfl (by decide) rfl hl.1 rfl (Nat.le_of_ble_eq_true rfl) dX11_init_152 ⟨Nat.le_of_ble_eq_true rfl, Nat.le_of_ble_eq_true rfl⟩ (fun uu28 H locs hP hD hS => ?_)
  refine W.eq (g2 := F0 m 155 ls [.ref qn27, .ref ad0]) rfl ?_
  have hP : va_P D vwCl [(ad0, .inr (11, [.ref qn1, .ref qn3, .ref qn5, .ref qn7, .ref qn9, .ref qn11, .ref qn13, .ref qn15, .ref qn17, .ref qn19, .ref qn21, .ref qn23, .ref qn25, .null, .null, .int 0, .null, .int 0, .null])), (qn1, .inr (9, [.ref (uu2 0), .int 0, .int 0, .int 0, .int 0])), ((uu2 0), .inl (cs 0, 500, .inl (fun _ => 0))), (qn3, .inr (2, [.ref (uu4 0), .int 0, .ref (uu4 1), .ref (uu4 2), .ref (uu4 3), .ref (uu4 4), .ref (uu4 5), .int 0, .ref (uu4 6), .ref (uu4 7), .ref (uu4 8), .ref (uu4 9), .ref (uu4 10)])), ((uu4 0), .inl (cs 0, 500, .inl (fun _ => 0))), (qn5, .inr (2, [.ref (uu6 0), .int 0, .ref (uu6 1), .ref (uu6 2), .ref (uu6 3), .ref (uu6 4), .ref (uu6 5), .int 0, .ref (uu6 6), .ref (uu6 7), .ref (uu6 8), .ref (uu6 9), .ref (uu6 10)])), ((uu6 0), .inl (cs 0, 500, .inl (fun _ => 0))), (qn7, .inr (10, [.int 0, .ref (uu8 0), .ref (uu8 1), .ref (uu8 2), .ref (uu8 3), .ref (uu8 4), .ref (uu8 5), .ref (uu8 6)])), (qn9, .inr (10, [.int 0, .ref (uu10 0), .ref (uu10 1), .ref (uu10 2), .ref (uu10 3), .ref (uu10 4), .ref (uu10 5), .ref (uu10 6)])), (qn15, .inr (1, [.int 0, .ref (uu16 0), .ref (uu16 1), .ref (uu16 2), .ref (uu16 3)])), (qn17, .inr (0, [.int 0, .int 0, .ref (uu18 0), .ref (uu18 1)])), (qn19, .inr (7, [.int 0, .ref (uu20 0)])), ((uu20 0), .inl (cs 0, 450, .inl (fun _ => 0))), (qn23, .inr (10, [.int 0, .ref (uu24 0), .ref (uu24 1), .ref (uu24 2), .ref (uu24 3), .ref (uu24 4), .ref (uu24 5), .ref (uu24 6)])), (qn25, .inr (10, [.int 0, .ref (uu26 0), .ref (uu26 1), .ref (uu26 2), .ref (uu26 3), .ref (uu26 4), .ref (uu26 5), .ref (uu26 6)]))] H := hP
  have hD : va_D A [(ad0, .inr (11, [.ref qn1, .ref qn3, .ref qn5, .ref qn7, .ref qn9, .ref qn11, .ref qn13, .ref qn15, .ref qn17, .ref qn19, .ref qn21, .ref qn23, .ref qn25, .null, .null, .int 0, .null, .int 0, .null])), (qn1, .inr (9, [.ref (uu2 0), .int 0, .int 0, .int 0, .int 0])), ((uu2 0), .inl (cs 0, 500, .inl (fun _ => 0))), (qn3, .inr (2, [.ref (uu4 0), .int 0, .ref (uu4 1), .ref (uu4 2), .ref (uu4 3), .ref (uu4 4), .ref (uu4 5), .int 0, .ref (uu4 6), .ref (uu4 7), .ref (uu4 8), .ref (uu4 9), .ref (uu4 10)])), ((uu4 0), .inl (cs 0, 500, .inl (fun _ => 0))), (qn5, .inr (2, [.ref (uu6 0), .int 0, .ref (uu6 1), .ref (uu6 2), .ref (uu6 3), .ref (uu6 4), .ref (uu6 5), .int 0, .ref (uu6 6), .ref (uu6 7), .ref (uu6 8), .ref (uu6 9), .ref (uu6 10)])), ((uu6 0), .inl (cs 0, 500, .inl (fun _ => 0))), (qn7, .inr (10, [.int 0, .ref (uu8 0), .ref (uu8 1), .ref (uu8 2), .ref (uu8 3), .ref (uu8 4), .ref (uu8 5), .ref (uu8 6)])), (qn9, .inr (10, [.int 0, .ref (uu10 0), .ref (uu10 1), .ref (uu10 2), .ref (uu10 3), .ref (uu10 4), .ref (uu10 5), .ref (uu10 6)])), (qn15, .inr (1, [.int 0, .ref (uu16 0), .ref (uu16 1), .ref (uu16 2), .ref (uu16 3)])), (qn17, .inr (0, [.int 0, .int 0, .ref (uu18 0), .ref (uu18 1)])), (qn19, .inr (7, [.int 0, .ref (uu20 0)])), ((uu20 0), .inl (cs 0, 450, .inl (fun _ => 0))), (qn23, .inr (10, [.int 0, .ref (uu24 0), .ref (uu24 1), .ref (uu24 2), .ref (uu24 3), .ref (uu24 4), .ref (uu24 5), .ref (uu24 6)])), (qn25, .inr (10, [.int 0, .ref (uu26 0), .ref (uu26 1), .ref (uu26 2), .ref (uu26 3), .ref (uu26 4), .ref (uu26 5), .ref (uu26 6)]))] := hD
  refine va_putF (D := D) (ci := 11) (v := .ref qn27) (ty := .object "TreeMerge$Printer") (C := RX11) (T := TX11) (N := 19) hx hb hB cx_inX11 tyX11 tyX11_ok nmX11 hown hK hP hD hS 0 rfl rfl 13 (by decide) (hB _ cw_396) (fun _ h9 => h9) rfl hnm rfl (by decide +kernel) rfl rfl (Nat.le_of_ble_eq_true rfl) dX11_init_155 (fun H locs hP hD hS => ?_)
  have hP : va_P D vwCl [(ad0, .inr (11, [.ref qn1, .ref qn3, .ref qn5, .ref qn7, .ref qn9, .ref qn11, .ref qn13, .ref qn15, .ref qn17, .ref qn19, .ref qn21, .ref qn23, .ref qn25, .ref qn27, .null, .int 0, .null, .int 0, .null])), (qn1, .inr (9, [.ref (uu2 0), .int 0, .int 0, .int 0, .int 0])), ((uu2 0), .inl (cs 0, 500, .inl (fun _ => 0))), (qn3, .inr (2, [.ref (uu4 0), .int 0, .ref (uu4 1), .ref (uu4 2), .ref (uu4 3), .ref (uu4 4), .ref (uu4 5), .int 0, .ref (uu4 6), .ref (uu4 7), .ref (uu4 8), .ref (uu4 9), .ref (uu4 10)])), ((uu4 0), .inl (cs 0, 500, .inl (fun _ => 0))), (qn5, .inr (2, [.ref (uu6 0), .int 0, .ref (uu6 1), .ref (uu6 2), .ref (uu6 3), .ref (uu6 4), .ref (uu6 5), .int 0, .ref (uu6 6), .ref (uu6 7), .ref (uu6 8), .ref (uu6 9), .ref (uu6 10)])), ((uu6 0), .inl (cs 0, 500, .inl (fun _ => 0))), (qn7, .inr (10, [.int 0, .ref (uu8 0), .ref (uu8 1), .ref (uu8 2), .ref (uu8 3), .ref (uu8 4), .ref (uu8 5), .ref (uu8 6)])), (qn9, .inr (10, [.int 0, .ref (uu10 0), .ref (uu10 1), .ref (uu10 2), .ref (uu10 3), .ref (uu10 4), .ref (uu10 5), .ref (uu10 6)])), (qn15, .inr (1, [.int 0, .ref (uu16 0), .ref (uu16 1), .ref (uu16 2), .ref (uu16 3)])), (qn17, .inr (0, [.int 0, .int 0, .ref (uu18 0), .ref (uu18 1)])), (qn19, .inr (7, [.int 0, .ref (uu20 0)])), ((uu20 0), .inl (cs 0, 450, .inl (fun _ => 0))), (qn23, .inr (10, [.int 0, .ref (uu24 0), .ref (uu24 1), .ref (uu24 2), .ref (uu24 3), .ref (uu24 4), .ref (uu24 5), .ref (uu24 6)])), (qn25, .inr (10, [.int 0, .ref (uu26 0), .ref (uu26 1), .ref (uu26 2), .ref (uu26 3), .ref (uu26 4), .ref (uu26 5), .ref (uu26 6)]))] H := hP
  have hD : va_D A [(ad0, .inr (11, [.ref qn1, .ref qn3, .ref qn5, .ref qn7, .ref qn9, .ref qn11, .ref qn13, .ref qn15, .ref qn17, .ref qn19, .ref qn21, .ref qn23, .ref qn25, .ref qn27, .null, .int 0, .null, .int 0, .null])), (qn1, .inr (9, [.ref (uu2 0), .int 0, .int 0, .int 0, .int 0])), ((uu2 0), .inl (cs 0, 500, .inl (fun _ => 0))), (qn3, .inr (2, [.ref (uu4 0), .int 0, .ref (uu4 1), .ref (uu4 2), .ref (uu4 3), .ref (uu4 4), .ref (uu4 5), .int 0, .ref (uu4 6), .ref (uu4 7), .ref (uu4 8), .ref (uu4 9), .ref (uu4 10)])), ((uu4 0), .inl (cs 0, 500, .inl (fun _ => 0))), (qn5, .inr (2, [.ref (uu6 0), .int 0, .ref (uu6 1), .ref (uu6 2), .ref (uu6 3), .ref (uu6 4), .ref (uu6 5), .int 0, .ref (uu6 6), .ref (uu6 7), .ref (uu6 8), .ref (uu6 9), .ref (uu6 10)])), ((uu6 0), .inl (cs 0, 500, .inl (fun _ => 0))), (qn7, .inr (10, [.int 0, .ref (uu8 0), .ref (uu8 1), .ref (uu8 2), .ref (uu8 3), .ref (uu8 4), .ref (uu8 5), .ref (uu8 6)])), (qn9, .inr (10, [.int 0, .ref (uu10 0), .ref (uu10 1), .ref (uu10 2), .ref (uu10 3), .ref (uu10 4), .ref (uu10 5), .ref (uu10 6)])), (qn15, .inr (1, [.int 0, .ref (uu16 0), .ref (uu16 1), .ref (uu16 2), .ref (uu16 3)])), (qn17, .inr (0, [.int 0, .int 0, .ref (uu18 0), .ref (uu18 1)])), (qn19, .inr (7, [.int 0, .ref (uu20 0)])), ((uu20 0), .inl (cs 0, 450, .inl (fun _ => 0))), (qn23, .inr (10, [.int 0, .ref (uu24 0), .ref (uu24 1), .ref (uu24 2), .ref (uu24 3), .ref (uu24 4), .ref (uu24 5), .ref (uu24 6)])), (qn25, .inr (10, [.int 0, .ref (uu26 0), .ref (uu26 1), .ref (uu26 2), .ref (uu26 3), .ref (uu26 4), .ref (uu26 5), .ref (uu26 6)]))] := hD
  refine lv_aload_n hx hb dX11_init_158 rfl (lv_at hl 0 rfl) ?_
  refine lv_sipush (v := 150) hx hb dX11_init_159 (by decide) ?_
  refine cx_newa (cs := cs) (atype := .int) (ty := .int) (a0 := (150, .inl (fun _ => 0))) hx hb hB cw_59 rfl cx_ra_int 0 rfl hK hP hD hS hA (fun _ => rfl) (by decide) (by decide) (Nat.le_of_ble_eq_true rfl) (Nat.le_of_ble_eq_true rfl) (Nat.le_of_ble_eq_true rfl) dX11_init_162 (fun qa29 H hP hD hS => ?_)
  have hP : va_P D vwCl [(ad0, .inr (11, [.ref qn1, .ref qn3, .ref qn5, .ref qn7, .ref qn9, .ref qn11, .ref qn13, .ref qn15, .ref qn17, .ref qn19, .ref qn21, .ref qn23, .ref qn25, .ref qn27, .null, .int 0, .null, .int 0, .null])), (qn1, .inr (9, [.ref (uu2 0), .int 0, .int 0, .int 0, .int 0])), ((uu2 0), .inl (cs 0, 500, .inl (fun _ => 0))), (qn3, .inr (2, [.ref (uu4 0), .int 0, .ref (uu4 1), .ref (uu4 2), .ref (uu4 3), .ref (uu4 4), .ref (uu4 5), .int 0, .ref (uu4 6), .ref (uu4 7), .ref (uu4 8), .ref (uu4 9), .ref (uu4 10)])), ((uu4 0), .inl (cs 0, 500, .inl (fun _ => 0))), (qn5, .inr (2, [.ref (uu6 0), .int 0, .ref (uu6 1), .ref (uu6 2), .ref (uu6 3), .ref (uu6 4), .ref (uu6 5), .int 0, .ref (uu6 6), .ref (uu6 7), .ref (uu6 8), .ref (uu6 9), .ref (uu6 10)])), ((uu6 0), .inl (cs 0, 500, .inl (fun _ => 0))), (qn7, .inr (10, [.int 0, .ref (uu8 0), .ref (uu8 1), .ref (uu8 2), .ref (uu8 3), .ref (uu8 4), .ref (uu8 5), .ref (uu8 6)])), (qn9, .inr (10, [.int 0, .ref (uu10 0), .ref (uu10 1), .ref (uu10 2), .ref (uu10 3), .ref (uu10 4), .ref (uu10 5), .ref (uu10 6)])), (qn15, .inr (1, [.int 0, .ref (uu16 0), .ref (uu16 1), .ref (uu16 2), .ref (uu16 3)])), (qn17, .inr (0, [.int 0, .int 0, .ref (uu18 0), .ref (uu18 1)])), (qn19, .inr (7, [.int 0, .ref (uu20 0)])), ((uu20 0), .inl (cs 0, 450, .inl (fun _ => 0))), (qn23, .inr (10, [.int 0, .ref (uu24 0), .ref (uu24 1), .ref (uu24 2), .ref (uu24 3), .ref (uu24 4), .ref (uu24 5), .ref (uu24 6)])), (qn25, .inr (10, [.int 0, .ref (uu26 0), .ref (uu26 1), .ref (uu26 2), .ref (uu26 3), .ref (uu26 4), .ref (uu26 5), .ref (uu26 6)])), (qa29, .inl (cs 0, 150, .inl (fun _ => 0)))] H := hP
  have hD : va_D A [(ad0, .inr (11, [.ref qn1, .ref qn3, .ref qn5, .ref qn7, .ref qn9, .ref qn11, .ref qn13, .ref qn15, .ref qn17, .ref qn19, .ref qn21, .ref qn23, .ref qn25, .ref qn27, .null, .int 0, .null, .int 0, .null])), (qn1, .inr (9, [.ref (uu2 0), .int 0, .int 0, .int 0, .int 0])), ((uu2 0), .inl (cs 0, 500, .inl (fun _ => 0))), (qn3, .inr (2, [.ref (uu4 0), .int 0, .ref (uu4 1), .ref (uu4 2), .ref (uu4 3), .ref (uu4 4), .ref (uu4 5), .int 0, .ref (uu4 6), .ref (uu4 7), .ref (uu4 8), .ref (uu4 9), .ref (uu4 10)])), ((uu4 0), .inl (cs 0, 500, .inl (fun _ => 0))), (qn5, .inr (2, [.ref (uu6 0), .int 0, .ref (uu6 1), .ref (uu6 2), .ref (uu6 3), .ref (uu6 4), .ref (uu6 5), .int 0, .ref (uu6 6), .ref (uu6 7), .ref (uu6 8), .ref (uu6 9), .ref (uu6 10)])), ((uu6 0), .inl (cs 0, 500, .inl (fun _ => 0))), (qn7, .inr (10, [.int 0, .ref (uu8 0), .ref (uu8 1), .ref (uu8 2), .ref (uu8 3), .ref (uu8 4), .ref (uu8 5), .ref (uu8 6)])), (qn9, .inr (10, [.int 0, .ref (uu10 0), .ref (uu10 1), .ref (uu10 2), .ref (uu10 3), .ref (uu10 4), .ref (uu10 5), .ref (uu10 6)])), (qn15, .inr (1, [.int 0, .ref (uu16 0), .ref (uu16 1), .ref (uu16 2), .ref (uu16 3)])), (qn17, .inr (0, [.int 0, .int 0, .ref (uu18 0), .ref (uu18 1)])), (qn19, .inr (7, [.int 0, .ref (uu20 0)])), ((uu20 0), .inl (cs 0, 450, .inl (fun _ => 0))), (qn23, .inr (10, [.int 0, .ref (uu24 0), .ref (uu24 1), .ref (uu24 2), .ref (uu24 3), .ref (uu24 4), .ref (uu24 5), .ref (uu24 6)])), (qn25, .inr (10, [.int 0, .ref (uu26 0), .ref (uu26 1), .ref (uu26 2), .ref (uu26 3), .ref (uu26 4), .ref (uu26 5), .ref (uu26 6)])), (qa29, .inl (cs 0, 150, .inl (fun _ => 0)))] := hD
  refine va_putF (D := D) (ci := 11) (v := .ref qa29) (ty := .array .int) (C := RX11) (T := TX11) (N := 19) hx hb hB cx_inX11 tyX11 tyX11_ok nmX11 hown hK hP hD hS 0 rfl rfl 14 (by decide) (hB _ cw_397) (fun _ h9 => h9) rfl hnm rfl (by decide +kernel) rfl rfl (Nat.le_of_ble_eq_true rfl) dX11_init_164 (fun H locs hP hD hS => ?_)
  have hP : va_P D vwCl [(ad0, .inr (11, [.ref qn1, .ref qn3, .ref qn5, .ref qn7, .ref qn9, .ref qn11, .ref qn13, .ref qn15, .ref qn17, .ref qn19, .ref qn21, .ref qn23, .ref qn25, .ref qn27, .ref qa29, .int 0, .null, .int 0, .null])), (qn1, .inr (9, [.ref (uu2 0), .int 0, .int 0, .int 0, .int 0])), ((uu2 0), .inl (cs 0, 500, .inl (fun _ => 0))), (qn3, .inr (2, [.ref (uu4 0), .int 0, .ref (uu4 1), .ref (uu4 2), .ref (uu4 3), .ref (uu4 4), .ref (uu4 5), .int 0, .ref (uu4 6), .ref (uu4 7), .ref (uu4 8), .ref (uu4 9), .ref (uu4 10)])), ((uu4 0), .inl (cs 0, 500, .inl (fun _ => 0))), (qn5, .inr (2, [.ref (uu6 0), .int 0, .ref (uu6 1), .ref (uu6 2), .ref (uu6 3), .ref (uu6 4), .ref (uu6 5), .int 0, .ref (uu6 6), .ref (uu6 7), .ref (uu6 8), .ref (uu6 9), .ref (uu6 10)])), ((uu6 0), .inl (cs 0, 500, .inl (fun _ => 0))), (qn7, .inr (10, [.int 0, .ref (uu8 0), .ref (uu8 1), .ref (uu8 2), .ref (uu8 3), .ref (uu8 4), .ref (uu8 5), .ref (uu8 6)])), (qn9, .inr (10, [.int 0, .ref (uu10 0), .ref (uu10 1), .ref (uu10 2), .ref (uu10 3), .ref (uu10 4), .ref (uu10 5), .ref (uu10 6)])), (qn15, .inr (1, [.int 0, .ref (uu16 0), .ref (uu16 1), .ref (uu16 2), .ref (uu16 3)])), (qn17, .inr (0, [.int 0, .int 0, .ref (uu18 0), .ref (uu18 1)])), (qn19, .inr (7, [.int 0, .ref (uu20 0)])), ((uu20 0), .inl (cs 0, 450, .inl (fun _ => 0))), (qn23, .inr (10, [.int 0, .ref (uu24 0), .ref (uu24 1), .ref (uu24 2), .ref (uu24 3), .ref (uu24 4), .ref (uu24 5), .ref (uu24 6)])), (qn25, .inr (10, [.int 0, .ref (uu26 0), .ref (uu26 1), .ref (uu26 2), .ref (uu26 3), .ref (uu26 4), .ref (uu26 5), .ref (uu26 6)])), (qa29, .inl (cs 0, 150, .inl (fun _ => 0)))] H := hP
  have hD : va_D A [(ad0, .inr (11, [.ref qn1, .ref qn3, .ref qn5, .ref qn7, .ref qn9, .ref qn11, .ref qn13, .ref qn15, .ref qn17, .ref qn19, .ref qn21, .ref qn23, .ref qn25, .ref qn27, .ref qa29, .int 0, .null, .int 0, .null])), (qn1, .inr (9, [.ref (uu2 0), .int 0, .int 0, .int 0, .int 0])), ((uu2 0), .inl (cs 0, 500, .inl (fun _ => 0))), (qn3, .inr (2, [.ref (uu4 0), .int 0, .ref (uu4 1), .ref (uu4 2), .ref (uu4 3), .ref (uu4 4), .ref (uu4 5), .int 0, .ref (uu4 6), .ref (uu4 7), .ref (uu4 8), .ref (uu4 9), .ref (uu4 10)])), ((uu4 0), .inl (cs 0, 500, .inl (fun _ => 0))), (qn5, .inr (2, [.ref (uu6 0), .int 0, .ref (uu6 1), .ref (uu6 2), .ref (uu6 3), .ref (uu6 4), .ref (uu6 5), .int 0, .ref (uu6 6), .ref (uu6 7), .ref (uu6 8), .ref (uu6 9), .ref (uu6 10)])), ((uu6 0), .inl (cs 0, 500, .inl (fun _ => 0))), (qn7, .inr (10, [.int 0, .ref (uu8 0), .ref (uu8 1), .ref (uu8 2), .ref (uu8 3), .ref (uu8 4), .ref (uu8 5), .ref (uu8 6)])), (qn9, .inr (10, [.int 0, .ref (uu10 0), .ref (uu10 1), .ref (uu10 2), .ref (uu10 3), .ref (uu10 4), .ref (uu10 5), .ref (uu10 6)])), (qn15, .inr (1, [.int 0, .ref (uu16 0), .ref (uu16 1), .ref (uu16 2), .ref (uu16 3)])), (qn17, .inr (0, [.int 0, .int 0, .ref (uu18 0), .ref (uu18 1)])), (qn19, .inr (7, [.int 0, .ref (uu20 0)])), ((uu20 0), .inl (cs 0, 450, .inl (fun _ => 0))), (qn23, .inr (10, [.int 0, .ref (uu24 0), .ref (uu24 1), .ref (uu24 2), .ref (uu24 3), .ref (uu24 4), .ref (uu24 5), .ref (uu24 6)])), (qn25, .inr (10, [.int 0, .ref (uu26 0), .ref (uu26 1), .ref (uu26 2), .ref (uu26 3), .ref (uu26 4), .ref (uu26 5), .ref (uu26 6)])), (qa29, .inl (cs 0, 150, .inl (fun _ => 0)))] := hD
  refine lv_aload_n hx hb dX11_init_167 rfl (lv_at hl 0 rfl) ?_
  refine lv_sipush (v := 450) hx hb dX11_init_168 (by decide) ?_
  refine cx_newa (cs := cs) (atype := .int) (ty := .int) (a0 := (450, .inl (fun _ => 0))) hx hb hB cw_59 rfl cx_ra_int 0 rfl hK hP hD hS hA (fun _ => rfl) (by decide) (by decide) (Nat.le_of_ble_eq_true rfl) (Nat.le_of_ble_eq_true rfl) (Nat.le_of_ble_eq_true rfl) dX11_init_171 (fun qa30 H hP hD hS => ?_)
  have hP : va_P D vwCl [(ad0, .inr (11, [.ref qn1, .ref qn3, .ref qn5, .ref qn7, .ref qn9, .ref qn11, .ref qn13, .ref qn15, .ref qn17, .ref qn19, .ref qn21, .ref qn23, .ref qn25, .ref qn27, .ref qa29, .int 0, .null, .int 0, .null])), (qn1, .inr (9, [.ref (uu2 0), .int 0, .int 0, .int 0, .int 0])), ((uu2 0), .inl (cs 0, 500, .inl (fun _ => 0))), (qn3, .inr (2, [.ref (uu4 0), .int 0, .ref (uu4 1), .ref (uu4 2), .ref (uu4 3), .ref (uu4 4), .ref (uu4 5), .int 0, .ref (uu4 6), .ref (uu4 7), .ref (uu4 8), .ref (uu4 9), .ref (uu4 10)])), ((uu4 0), .inl (cs 0, 500, .inl (fun _ => 0))), (qn5, .inr (2, [.ref (uu6 0), .int 0, .ref (uu6 1), .ref (uu6 2), .ref (uu6 3), .ref (uu6 4), .ref (uu6 5), .int 0, .ref (uu6 6), .ref (uu6 7), .ref (uu6 8), .ref (uu6 9), .ref (uu6 10)])), ((uu6 0), .inl (cs 0, 500, .inl (fun _ => 0))), (qn7, .inr (10, [.int 0, .ref (uu8 0), .ref (uu8 1), .ref (uu8 2), .ref (uu8 3), .ref (uu8 4), .ref (uu8 5), .ref (uu8 6)])), (qn9, .inr (10, [.int 0, .ref (uu10 0), .ref (uu10 1), .ref (uu10 2), .ref (uu10 3), .ref (uu10 4), .ref (uu10 5), .ref (uu10 6)])), (qn15, .inr (1, [.int 0, .ref (uu16 0), .ref (uu16 1), .ref (uu16 2), .ref (uu16 3)])), (qn17, .inr (0, [.int 0, .int 0, .ref (uu18 0), .ref (uu18 1)])), (qn19, .inr (7, [.int 0, .ref (uu20 0)])), ((uu20 0), .inl (cs 0, 450, .inl (fun _ => 0))), (qn23, .inr (10, [.int 0, .ref (uu24 0), .ref (uu24 1), .ref (uu24 2), .ref (uu24 3), .ref (uu24 4), .ref (uu24 5), .ref (uu24 6)])), (qn25, .inr (10, [.int 0, .ref (uu26 0), .ref (uu26 1), .ref (uu26 2), .ref (uu26 3), .ref (uu26 4), .ref (uu26 5), .ref (uu26 6)])), (qa29, .inl (cs 0, 150, .inl (fun _ => 0))), (qa30, .inl (cs 0, 450, .inl (fun _ => 0)))] H := hP
  have hD : va_D A [(ad0, .inr (11, [.ref qn1, .ref qn3, .ref qn5, .ref qn7, .ref qn9, .ref qn11, .ref qn13, .ref qn15, .ref qn17, .ref qn19, .ref qn21, .ref qn23, .ref qn25, .ref qn27, .ref qa29, .int 0, .null, .int 0, .null])), (qn1, .inr (9, [.ref (uu2 0), .int 0, .int 0, .int 0, .int 0])), ((uu2 0), .inl (cs 0, 500, .inl (fun _ => 0))), (qn3, .inr (2, [.ref (uu4 0), .int 0, .ref (uu4 1), .ref (uu4 2), .ref (uu4 3), .ref (uu4 4), .ref (uu4 5), .int 0, .ref (uu4 6), .ref (uu4 7), .ref (uu4 8), .ref (uu4 9), .ref (uu4 10)])), ((uu4 0), .inl (cs 0, 500, .inl (fun _ => 0))), (qn5, .inr (2, [.ref (uu6 0), .int 0, .ref (uu6 1), .ref (uu6 2), .ref (uu6 3), .ref (uu6 4), .ref (uu6 5), .int 0, .ref (uu6 6), .ref (uu6 7), .ref (uu6 8), .ref (uu6 9), .ref (uu6 10)])), ((uu6 0), .inl (cs 0, 500, .inl (fun _ => 0))), (qn7, .inr (10, [.int 0, .ref (uu8 0), .ref (uu8 1), .ref (uu8 2), .ref (uu8 3), .ref (uu8 4), .ref (uu8 5), .ref (uu8 6)])), (qn9, .inr (10, [.int 0, .ref (uu10 0), .ref (uu10 1), .ref (uu10 2), .ref (uu10 3), .ref (uu10 4), .ref (uu10 5), .ref (uu10 6)])), (qn15, .inr (1, [.int 0, .ref (uu16 0), .ref (uu16 1), .ref (uu16 2), .ref (uu16 3)])), (qn17, .inr (0, [.int 0, .int 0, .ref (uu18 0), .ref (uu18 1)])), (qn19, .inr (7, [.int 0, .ref (uu20 0)])), ((uu20 0), .inl (cs 0, 450, .inl (fun _ => 0))), (qn23, .inr (10, [.int 0, .ref (uu24 0), .ref (uu24 1), .ref (uu24 2), .ref (uu24 3), .ref (uu24 4), .ref (uu24 5), .ref (uu24 6)])), (qn25, .inr (10, [.int 0, .ref (uu26 0), .ref (uu26 1), .ref (uu26 2), .ref (uu26 3), .ref (uu26 4), .ref (uu26 5), .ref (uu26 6)])), (qa29, .inl (cs 0, 150, .inl (fun _ => 0))), (qa30, .inl (cs 0, 450, .inl (fun _ => 0)))] := hD
  refine va_putF (D := D) (ci := 11) (v := .ref qa30) (ty := .array .int) (C := RX11) (T := TX11) (N := 19) hx hb hB cx_inX11 tyX11 tyX11_ok nmX11 hown hK hP hD hS 0 rfl rfl 16 (by decide) (hB _ cw_399) (fun _ h9 => h9) rfl hnm rfl (by decide +kernel) rfl rfl (Nat.le_of_ble_eq_true rfl) dX11_init_173 (fun H locs hP hD hS => ?_)
  have hP : va_P D vwCl [(ad0, .inr (11, [.ref qn1, .ref qn3, .ref qn5, .ref qn7, .ref qn9, .ref qn11, .ref qn13, .ref qn15, .ref qn17, .ref qn19, .ref qn21, .ref qn23, .ref qn25, .ref qn27, .ref qa29, .int 0, .ref qa30, .int 0, .null])), (qn1, .inr (9, [.ref (uu2 0), .int 0, .int 0, .int 0, .int 0])), ((uu2 0), .inl (cs 0, 500, .inl (fun _ => 0))), (qn3, .inr (2, [.ref (uu4 0), .int 0, .ref (uu4 1), .ref (uu4 2), .ref (uu4 3), .ref (uu4 4), .ref (uu4 5), .int 0, .ref (uu4 6), .ref (uu4 7), .ref (uu4 8), .ref (uu4 9), .ref (uu4 10)])), ((uu4 0), .inl (cs 0, 500, .inl (fun _ => 0))), (qn5, .inr (2, [.ref (uu6 0), .int 0, .ref (uu6 1), .ref (uu6 2), .ref (uu6 3), .ref (uu6 4), .ref (uu6 5), .int 0, .ref (uu6 6), .ref (uu6 7), .ref (uu6 8), .ref (uu6 9), .ref (uu6 10)])), ((uu6 0), .inl (cs 0, 500, .inl (fun _ => 0))), (qn7, .inr (10, [.int 0, .ref (uu8 0), .ref (uu8 1), .ref (uu8 2), .ref (uu8 3), .ref (uu8 4), .ref (uu8 5), .ref (uu8 6)])), (qn9, .inr (10, [.int 0, .ref (uu10 0), .ref (uu10 1), .ref (uu10 2), .ref (uu10 3), .ref (uu10 4), .ref (uu10 5), .ref (uu10 6)])), (qn15, .inr (1, [.int 0, .ref (uu16 0), .ref (uu16 1), .ref (uu16 2), .ref (uu16 3)])), (qn17, .inr (0, [.int 0, .int 0, .ref (uu18 0), .ref (uu18 1)])), (qn19, .inr (7, [.int 0, .ref (uu20 0)])), ((uu20 0), .inl (cs 0, 450, .inl (fun _ => 0))), (qn23, .inr (10, [.int 0, .ref (uu24 0), .ref (uu24 1), .ref (uu24 2), .ref (uu24 3), .ref (uu24 4), .ref (uu24 5), .ref (uu24 6)])), (qn25, .inr (10, [.int 0, .ref (uu26 0), .ref (uu26 1), .ref (uu26 2), .ref (uu26 3), .ref (uu26 4), .ref (uu26 5), .ref (uu26 6)])), (qa29, .inl (cs 0, 150, .inl (fun _ => 0))), (qa30, .inl (cs 0, 450, .inl (fun _ => 0)))] H := hP
  have hD : va_D A [(ad0, .inr (11, [.ref qn1, .ref qn3, .ref qn5, .ref qn7, .ref qn9, .ref qn11, .ref qn13, .ref qn15, .ref qn17, .ref qn19, .ref qn21, .ref qn23, .ref qn25, .ref qn27, .ref qa29, .int 0, .ref qa30, .int 0, .null])), (qn1, .inr (9, [.ref (uu2 0), .int 0, .int 0, .int 0, .int 0])), ((uu2 0), .inl (cs 0, 500, .inl (fun _ => 0))), (qn3, .inr (2, [.ref (uu4 0), .int 0, .ref (uu4 1), .ref (uu4 2), .ref (uu4 3), .ref (uu4 4), .ref (uu4 5), .int 0, .ref (uu4 6), .ref (uu4 7), .ref (uu4 8), .ref (uu4 9), .ref (uu4 10)])), ((uu4 0), .inl (cs 0, 500, .inl (fun _ => 0))), (qn5, .inr (2, [.ref (uu6 0), .int 0, .ref (uu6 1), .ref (uu6 2), .ref (uu6 3), .ref (uu6 4), .ref (uu6 5), .int 0, .ref (uu6 6), .ref (uu6 7), .ref (uu6 8), .ref (uu6 9), .ref (uu6 10)])), ((uu6 0), .inl (cs 0, 500, .inl (fun _ => 0))), (qn7, .inr (10, [.int 0, .ref (uu8 0), .ref (uu8 1), .ref (uu8 2), .ref (uu8 3), .ref (uu8 4), .ref (uu8 5), .ref (uu8 6)])), (qn9, .inr (10, [.int 0, .ref (uu10 0), .ref (uu10 1), .ref (uu10 2), .ref (uu10 3), .ref (uu10 4), .ref (uu10 5), .ref (uu10 6)])), (qn15, .inr (1, [.int 0, .ref (uu16 0), .ref (uu16 1), .ref (uu16 2), .ref (uu16 3)])), (qn17, .inr (0, [.int 0, .int 0, .ref (uu18 0), .ref (uu18 1)])), (qn19, .inr (7, [.int 0, .ref (uu20 0)])), ((uu20 0), .inl (cs 0, 450, .inl (fun _ => 0))), (qn23, .inr (10, [.int 0, .ref (uu24 0), .ref (uu24 1), .ref (uu24 2), .ref (uu24 3), .ref (uu24 4), .ref (uu24 5), .ref (uu24 6)])), (qn25, .inr (10, [.int 0, .ref (uu26 0), .ref (uu26 1), .ref (uu26 2), .ref (uu26 3), .ref (uu26 4), .ref (uu26 5), .ref (uu26 6)])), (qa29, .inl (cs 0, 150, .inl (fun _ => 0))), (qa30, .inl (cs 0, 450, .inl (fun _ => 0)))] := hD
  refine lv_aload_n hx hb dX11_init_176 rfl (lv_at hl 0 rfl) ?_
  refine lv_bipush (v := 40) hx hb dX11_init_177 (by decide) ?_
  refine cx_newa (cs := cs) (atype := .int) (ty := .int) (a0 := (40, .inl (fun _ => 0))) hx hb hB cw_59 rfl cx_ra_int 0 rfl hK hP hD hS hA (fun _ => rfl) (by decide) (by decide) (Nat.le_of_ble_eq_true rfl) (Nat.le_of_ble_eq_true rfl) (Nat.le_of_ble_eq_true rfl) dX11_init_179 (fun qa31 H hP hD hS => ?_)
  have hP : va_P D vwCl [(ad0, .inr (11, [.ref qn1, .ref qn3, .ref qn5, .ref qn7, .ref qn9, .ref qn11, .ref qn13, .ref qn15, .ref qn17, .ref qn19, .ref qn21, .ref qn23, .ref qn25, .ref qn27, .ref qa29, .int 0, .ref qa30, .int 0, .null])), (qn1, .inr (9, [.ref (uu2 0), .int 0, .int 0, .int 0, .int 0])), ((uu2 0), .inl (cs 0, 500, .inl (fun _ => 0))), (qn3, .inr (2, [.ref (uu4 0), .int 0, .ref (uu4 1), .ref (uu4 2), .ref (uu4 3), .ref (uu4 4), .ref (uu4 5), .int 0, .ref (uu4 6), .ref (uu4 7), .ref (uu4 8), .ref (uu4 9), .ref (uu4 10)])), ((uu4 0), .inl (cs 0, 500, .inl (fun _ => 0))), (qn5, .inr (2, [.ref (uu6 0), .int 0, .ref (uu6 1), .ref (uu6 2), .ref (uu6 3), .ref (uu6 4), .ref (uu6 5), .int 0, .ref (uu6 6), .ref (uu6 7), .ref (uu6 8), .ref (uu6 9), .ref (uu6 10)])), ((uu6 0), .inl (cs 0, 500, .inl (fun _ => 0))), (qn7, .inr (10, [.int 0, .ref (uu8 0), .ref (uu8 1), .ref (uu8 2), .ref (uu8 3), .ref (uu8 4), .ref (uu8 5), .ref (uu8 6)])), (qn9, .inr (10, [.int 0, .ref (uu10 0), .ref (uu10 1), .ref (uu10 2), .ref (uu10 3), .ref (uu10 4), .ref (uu10 5), .ref (uu10 6)])), (qn15, .inr (1, [.int 0, .ref (uu16 0), .ref (uu16 1), .ref (uu16 2), .ref (uu16 3)])), (qn17, .inr (0, [.int 0, .int 0, .ref (uu18 0), .ref (uu18 1)])), (qn19, .inr (7, [.int 0, .ref (uu20 0)])), ((uu20 0), .inl (cs 0, 450, .inl (fun _ => 0))), (qn23, .inr (10, [.int 0, .ref (uu24 0), .ref (uu24 1), .ref (uu24 2), .ref (uu24 3), .ref (uu24 4), .ref (uu24 5), .ref (uu24 6)])), (qn25, .inr (10, [.int 0, .ref (uu26 0), .ref (uu26 1), .ref (uu26 2), .ref (uu26 3), .ref (uu26 4), .ref (uu26 5), .ref (uu26 6)])), (qa29, .inl (cs 0, 150, .inl (fun _ => 0))), (qa30, .inl (cs 0, 450, .inl (fun _ => 0))), (qa31, .inl (cs 0, 40, .inl (fun _ => 0)))] H := hP
  have hD : va_D A [(ad0, .inr (11, [.ref qn1, .ref qn3, .ref qn5, .ref qn7, .ref qn9, .ref qn11, .ref qn13, .ref qn15, .ref qn17, .ref qn19, .ref qn21, .ref qn23, .ref qn25, .ref qn27, .ref qa29, .int 0, .ref qa30, .int 0, .null])), (qn1, .inr (9, [.ref (uu2 0), .int 0, .int 0, .int 0, .int 0])), ((uu2 0), .inl (cs 0, 500, .inl (fun _ => 0))), (qn3, .inr (2, [.ref (uu4 0), .int 0, .ref (uu4 1), .ref (uu4 2), .ref (uu4 3), .ref (uu4 4), .ref (uu4 5), .int 0, .ref (uu4 6), .ref (uu4 7), .ref (uu4 8), .ref (uu4 9), .ref (uu4 10)])), ((uu4 0), .inl (cs 0, 500, .inl (fun _ => 0))), (qn5, .inr (2, [.ref (uu6 0), .int 0, .ref (uu6 1), .ref (uu6 2), .ref (uu6 3), .ref (uu6 4), .ref (uu6 5), .int 0, .ref (uu6 6), .ref (uu6 7), .ref (uu6 8), .ref (uu6 9), .ref (uu6 10)])), ((uu6 0), .inl (cs 0, 500, .inl (fun _ => 0))), (qn7, .inr (10, [.int 0, .ref (uu8 0), .ref (uu8 1), .ref (uu8 2), .ref (uu8 3), .ref (uu8 4), .ref (uu8 5), .ref (uu8 6)])), (qn9, .inr (10, [.int 0, .ref (uu10 0), .ref (uu10 1), .ref (uu10 2), .ref (uu10 3), .ref (uu10 4), .ref (uu10 5), .ref (uu10 6)])), (qn15, .inr (1, [.int 0, .ref (uu16 0), .ref (uu16 1), .ref (uu16 2), .ref (uu16 3)])), (qn17, .inr (0, [.int 0, .int 0, .ref (uu18 0), .ref (uu18 1)])), (qn19, .inr (7, [.int 0, .ref (uu20 0)])), ((uu20 0), .inl (cs 0, 450, .inl (fun _ => 0))), (qn23, .inr (10, [.int 0, .ref (uu24 0), .ref (uu24 1), .ref (uu24 2), .ref (uu24 3), .ref (uu24 4), .ref (uu24 5), .ref (uu24 6)])), (qn25, .inr (10, [.int 0, .ref (uu26 0), .ref (uu26 1), .ref (uu26 2), .ref (uu26 3), .ref (uu26 4), .ref (uu26 5), .ref (uu26 6)])), (qa29, .inl (cs 0, 150, .inl (fun _ => 0))), (qa30, .inl (cs 0, 450, .inl (fun _ => 0))), (qa31, .inl (cs 0, 40, .inl (fun _ => 0)))] := hD
  refine va_putF (D := D) (ci := 11) (v := .ref qa31) (ty := .array .int) (C := RX11) (T := TX11) (N := 19) hx hb hB cx_inX11 tyX11 tyX11_ok nmX11 hown hK hP hD hS 0 rfl rfl 18 (by decide) (hB _ cw_401) (fun _ h9 => h9) rfl hnm rfl (by decide +kernel) rfl rfl (Nat.le_of_ble_eq_true rfl) dX11_init_181 (fun H locs hP hD hS => ?_)
  have hP : va_P D vwCl [(ad0, .inr (11, [.ref qn1, .ref qn3, .ref qn5, .ref qn7, .ref qn9, .ref qn11, .ref qn13, .ref qn15, .ref qn17, .ref qn19, .ref qn21, .ref qn23, .ref qn25, .ref qn27, .ref qa29, .int 0, .ref qa30, .int 0, .ref qa31])), (qn1, .inr (9, [.ref (uu2 0), .int 0, .int 0, .int 0, .int 0])), ((uu2 0), .inl (cs 0, 500, .inl (fun _ => 0))), (qn3, .inr (2, [.ref (uu4 0), .int 0, .ref (uu4 1), .ref (uu4 2), .ref (uu4 3), .ref (uu4 4), .ref (uu4 5), .int 0, .ref (uu4 6), .ref (uu4 7), .ref (uu4 8), .ref (uu4 9), .ref (uu4 10)])), ((uu4 0), .inl (cs 0, 500, .inl (fun _ => 0))), (qn5, .inr (2, [.ref (uu6 0), .int 0, .ref (uu6 1), .ref (uu6 2), .ref (uu6 3), .ref (uu6 4), .ref (uu6 5), .int 0, .ref (uu6 6), .ref (uu6 7), .ref (uu6 8), .ref (uu6 9), .ref (uu6 10)])), ((uu6 0), .inl (cs 0, 500, .inl (fun _ => 0))), (qn7, .inr (10, [.int 0, .ref (uu8 0), .ref (uu8 1), .ref (uu8 2), .ref (uu8 3), .ref (uu8 4), .ref (uu8 5), .ref (uu8 6)])), (qn9, .inr (10, [.int 0, .ref (uu10 0), .ref (uu10 1), .ref (uu10 2), .ref (uu10 3), .ref (uu10 4), .ref (uu10 5), .ref (uu10 6)])), (qn15, .inr (1, [.int 0, .ref (uu16 0), .ref (uu16 1), .ref (uu16 2), .ref (uu16 3)])), (qn17, .inr (0, [.int 0, .int 0, .ref (uu18 0), .ref (uu18 1)])), (qn19, .inr (7, [.int 0, .ref (uu20 0)])), ((uu20 0), .inl (cs 0, 450, .inl (fun _ => 0))), (qn23, .inr (10, [.int 0, .ref (uu24 0), .ref (uu24 1), .ref (uu24 2), .ref (uu24 3), .ref (uu24 4), .ref (uu24 5), .ref (uu24 6)])), (qn25, .inr (10, [.int 0, .ref (uu26 0), .ref (uu26 1), .ref (uu26 2), .ref (uu26 3), .ref (uu26 4), .ref (uu26 5), .ref (uu26 6)])), (qa29, .inl (cs 0, 150, .inl (fun _ => 0))), (qa30, .inl (cs 0, 450, .inl (fun _ => 0))), (qa31, .inl (cs 0, 40, .inl (fun _ => 0)))] H := hP
  have hD : va_D A [(ad0, .inr (11, [.ref qn1, .ref qn3, .ref qn5, .ref qn7, .ref qn9, .ref qn11, .ref qn13, .ref qn15, .ref qn17, .ref qn19, .ref qn21, .ref qn23, .ref qn25, .ref qn27, .ref qa29, .int 0, .ref qa30, .int 0, .ref qa31])), (qn1, .inr (9, [.ref (uu2 0), .int 0, .int 0, .int 0, .int 0])), ((uu2 0), .inl (cs 0, 500, .inl (fun _ => 0))), (qn3, .inr (2, [.ref (uu4 0), .int 0, .ref (uu4 1), .ref (uu4 2), .ref (uu4 3), .ref (uu4 4), .ref (uu4 5), .int 0, .ref (uu4 6), .ref (uu4 7), .ref (uu4 8), .ref (uu4 9), .ref (uu4 10)])), ((uu4 0), .inl (cs 0, 500, .inl (fun _ => 0))), (qn5, .inr (2, [.ref (uu6 0), .int 0, .ref (uu6 1), .ref (uu6 2), .ref (uu6 3), .ref (uu6 4), .ref (uu6 5), .int 0, .ref (uu6 6), .ref (uu6 7), .ref (uu6 8), .ref (uu6 9), .ref (uu6 10)])), ((uu6 0), .inl (cs 0, 500, .inl (fun _ => 0))), (qn7, .inr (10, [.int 0, .ref (uu8 0), .ref (uu8 1), .ref (uu8 2), .ref (uu8 3), .ref (uu8 4), .ref (uu8 5), .ref (uu8 6)])), (qn9, .inr (10, [.int 0, .ref (uu10 0), .ref (uu10 1), .ref (uu10 2), .ref (uu10 3), .ref (uu10 4), .ref (uu10 5), .ref (uu10 6)])), (qn15, .inr (1, [.int 0, .ref (uu16 0), .ref (uu16 1), .ref (uu16 2), .ref (uu16 3)])), (qn17, .inr (0, [.int 0, .int 0, .ref (uu18 0), .ref (uu18 1)])), (qn19, .inr (7, [.int 0, .ref (uu20 0)])), ((uu20 0), .inl (cs 0, 450, .inl (fun _ => 0))), (qn23, .inr (10, [.int 0, .ref (uu24 0), .ref (uu24 1), .ref (uu24 2), .ref (uu24 3), .ref (uu24 4), .ref (uu24 5), .ref (uu24 6)])), (qn25, .inr (10, [.int 0, .ref (uu26 0), .ref (uu26 1), .ref (uu26 2), .ref (uu26 3), .ref (uu26 4), .ref (uu26 5), .ref (uu26 6)])), (qa29, .inl (cs 0, 150, .inl (fun _ => 0))), (qa30, .inl (cs 0, 450, .inl (fun _ => 0))), (qa31, .inl (cs 0, 40, .inl (fun _ => 0)))] := hD
  exact cx_vret hx hb hr hlocks hP hD hS (cx_uo [qn1, qn3, qn5, qn7, qn9, qn11, qn13, qn15, qn17, qn19, qn21, qn23, qn25, qn27, qa29, qa30, qa31, (uu2 0), (uu4 0), (uu4 1), (uu4 2), (uu4 3), (uu4 4), (uu4 5), (uu4 6), (uu4 7), (uu4 8), (uu4 9), (uu4 10), (uu6 0), (uu6 1), (uu6 2), (uu6 3), (uu6 4), (uu6 5), (uu6 6), (uu6 7), (uu6 8), (uu6 9), (uu6 10), (uu8 0), (uu8 1), (uu8 2), (uu8 3), (uu8 4), (uu8 5), (uu8 6), (uu16 0), (uu16 1), (uu16 2), (uu16 3), (uu18 0), (uu18 1), (uu20 0)]) [0, 1, 2, 3, 5, 6, 7, 9, 10, 11, 12] rfl (by decide) (Nat.le_of_ble_eq_true rfl) (Nat.le_of_ble_eq_true rfl) dX11_init_184
end
