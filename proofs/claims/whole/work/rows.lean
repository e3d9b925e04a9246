section
-- ===== PART A: goes FIRST, ahead of the names: the tables' words, and 'selects' of the private methods out of them =====
/-- a private method of a class that the tables say can be made, by its rows of tables_1 -/
def lw_okq (q : MethodName × Nat) : Prop := (q.1.cls ≠ "java/lang/invoke/MethodHandle" ∧ q.1.cls ≠ "java/lang/invoke/VarHandle") ∧ Cond.instantiable q.1.cls q.2 ∈ tables_1 ∧ Cond.privateMethod q.1 ∈ tables_1 ∧ Cond.instanceMethod q.1 ∈ tables_1
theorem lw_p0 : lw_okq (⟨"LineFlow", "plantRoot", "()V"⟩, 5) := ⟨⟨by decide +kernel, by decide +kernel⟩, List.mem_of_getElem? (i := 22) (by decide +kernel), List.mem_of_getElem? (i := 193) (by decide +kernel), List.mem_of_getElem? (i := 194) (by decide +kernel)⟩
theorem lw_p1 : lw_okq (⟨"LineFlow", "putOnTape", "(I)V"⟩, 5) := ⟨⟨by decide +kernel, by decide +kernel⟩, List.mem_of_getElem? (i := 22) (by decide +kernel), List.mem_of_getElem? (i := 342) (by decide +kernel), List.mem_of_getElem? (i := 343) (by decide +kernel)⟩
theorem lw_p2 : lw_okq (⟨"LineFlow", "elementAt", "(I)LLineFlow$Node;"⟩, 5) := ⟨⟨by decide +kernel, by decide +kernel⟩, List.mem_of_getElem? (i := 22) (by decide +kernel), List.mem_of_getElem? (i := 362) (by decide +kernel), List.mem_of_getElem? (i := 363) (by decide +kernel)⟩
theorem lw_p3 : lw_okq (⟨"LineFlow", "nodeAt", "(I)LLineFlow$Node;"⟩, 5) := ⟨⟨by decide +kernel, by decide +kernel⟩, List.mem_of_getElem? (i := 22) (by decide +kernel), List.mem_of_getElem? (i := 366) (by decide +kernel), List.mem_of_getElem? (i := 367) (by decide +kernel)⟩
theorem lw_p4 : lw_okq (⟨"LineFlow$Layout", "prepare", "(LLineFlow$Node;I)V"⟩, 4) := ⟨⟨by decide +kernel, by decide +kernel⟩, List.mem_of_getElem? (i := 32) (by decide +kernel), List.mem_of_getElem? (i := 418) (by decide +kernel), List.mem_of_getElem? (i := 419) (by decide +kernel)⟩
theorem lw_p5 : lw_okq (⟨"LineFlow$Layout", "listWords", "(LLineFlow$Node;)V"⟩, 4) := ⟨⟨by decide +kernel, by decide +kernel⟩, List.mem_of_getElem? (i := 32) (by decide +kernel), List.mem_of_getElem? (i := 422) (by decide +kernel), List.mem_of_getElem? (i := 423) (by decide +kernel)⟩
theorem lw_p6 : lw_okq (⟨"LineFlow$Layout", "listWord", "(LLineFlow$Node;III)V"⟩, 4) := ⟨⟨by decide +kernel, by decide +kernel⟩, List.mem_of_getElem? (i := 32) (by decide +kernel), List.mem_of_getElem? (i := 432) (by decide +kernel), List.mem_of_getElem? (i := 433) (by decide +kernel)⟩
theorem lw_p7 : lw_okq (⟨"java/util/ArrayList", "add", "(Ljava/lang/Object;[Ljava/lang/Object;I)V"⟩, 3) := ⟨⟨by decide +kernel, by decide +kernel⟩, List.mem_of_getElem? (i := 38) (by decide +kernel), List.mem_of_getElem? (i := 470) (by decide +kernel), List.mem_of_getElem? (i := 471) (by decide +kernel)⟩
theorem lw_p8 : lw_okq (⟨"java/util/ArrayList", "grow", "()[Ljava/lang/Object;"⟩, 3) := ⟨⟨by decide +kernel, by decide +kernel⟩, List.mem_of_getElem? (i := 38) (by decide +kernel), List.mem_of_getElem? (i := 474) (by decide +kernel), List.mem_of_getElem? (i := 475) (by decide +kernel)⟩
theorem lw_p9 : lw_okq (⟨"java/util/ArrayList", "grow", "(I)[Ljava/lang/Object;"⟩, 3) := ⟨⟨by decide +kernel, by decide +kernel⟩, List.mem_of_getElem? (i := 38) (by decide +kernel), List.mem_of_getElem? (i := 478) (by decide +kernel), List.mem_of_getElem? (i := 479) (by decide +kernel)⟩
theorem lw_p10 : lw_okq (⟨"LineFlow$Layout", "layElement", "(LLineFlow$Node;III)V"⟩, 4) := ⟨⟨by decide +kernel, by decide +kernel⟩, List.mem_of_getElem? (i := 32) (by decide +kernel), List.mem_of_getElem? (i := 539) (by decide +kernel), List.mem_of_getElem? (i := 540) (by decide +kernel)⟩
theorem lw_p11 : lw_okq (⟨"LineFlow$Layout", "layRow", "(LLineFlow$Flow;)I"⟩, 4) := ⟨⟨by decide +kernel, by decide +kernel⟩, List.mem_of_getElem? (i := 32) (by decide +kernel), List.mem_of_getElem? (i := 560) (by decide +kernel), List.mem_of_getElem? (i := 561) (by decide +kernel)⟩
theorem lw_p12 : lw_okq (⟨"LineFlow$Layout", "measurePiece", "(LLineFlow$Node;I)V"⟩, 4) := ⟨⟨by decide +kernel, by decide +kernel⟩, List.mem_of_getElem? (i := 32) (by decide +kernel), List.mem_of_getElem? (i := 564) (by decide +kernel), List.mem_of_getElem? (i := 565) (by decide +kernel)⟩
theorem lw_p13 : lw_okq (⟨"LineFlow$Layout", "textWidth", "(LLineFlow$Node;)I"⟩, 4) := ⟨⟨by decide +kernel, by decide +kernel⟩, List.mem_of_getElem? (i := 32) (by decide +kernel), List.mem_of_getElem? (i := 572) (by decide +kernel), List.mem_of_getElem? (i := 573) (by decide +kernel)⟩
theorem lw_p14 : lw_okq (⟨"LineFlow$Ruler", "addTexts", "(LLineFlow$Node;)V"⟩, 2) := ⟨⟨by decide +kernel, by decide +kernel⟩, List.mem_of_getElem? (i := 67) (by decide +kernel), List.mem_of_getElem? (i := 580) (by decide +kernel), List.mem_of_getElem? (i := 581) (by decide +kernel)⟩
theorem lw_p15 : lw_okq (⟨"LineFlow$Ruler", "addBytes", "([B)V"⟩, 2) := ⟨⟨by decide +kernel, by decide +kernel⟩, List.mem_of_getElem? (i := 67) (by decide +kernel), List.mem_of_getElem? (i := 584) (by decide +kernel), List.mem_of_getElem? (i := 585) (by decide +kernel)⟩
def lw_privs_1 : List (MethodName × Nat) := [(⟨"LineFlow", "plantRoot", "()V"⟩, 5), (⟨"LineFlow", "putOnTape", "(I)V"⟩, 5), (⟨"LineFlow", "elementAt", "(I)LLineFlow$Node;"⟩, 5), (⟨"LineFlow", "nodeAt", "(I)LLineFlow$Node;"⟩, 5), (⟨"LineFlow$Layout", "prepare", "(LLineFlow$Node;I)V"⟩, 4), (⟨"LineFlow$Layout", "listWords", "(LLineFlow$Node;)V"⟩, 4), (⟨"LineFlow$Layout", "listWord", "(LLineFlow$Node;III)V"⟩, 4), (⟨"java/util/ArrayList", "add", "(Ljava/lang/Object;[Ljava/lang/Object;I)V"⟩, 3), (⟨"java/util/ArrayList", "grow", "()[Ljava/lang/Object;"⟩, 3), (⟨"java/util/ArrayList", "grow", "(I)[Ljava/lang/Object;"⟩, 3), (⟨"LineFlow$Layout", "layElement", "(LLineFlow$Node;III)V"⟩, 4), (⟨"LineFlow$Layout", "layRow", "(LLineFlow$Flow;)I"⟩, 4), (⟨"LineFlow$Layout", "measurePiece", "(LLineFlow$Node;I)V"⟩, 4), (⟨"LineFlow$Layout", "textWidth", "(LLineFlow$Node;)I"⟩, 4), (⟨"LineFlow$Ruler", "addTexts", "(LLineFlow$Node;)V"⟩, 2), (⟨"LineFlow$Ruler", "addBytes", "([B)V"⟩, 2)]
theorem lw_r1 : ∀ q ∈ lw_privs_1, lw_okq q := List.forall_mem_cons.mpr ⟨lw_p0, List.forall_mem_cons.mpr ⟨lw_p1, List.forall_mem_cons.mpr ⟨lw_p2, List.forall_mem_cons.mpr ⟨lw_p3, List.forall_mem_cons.mpr ⟨lw_p4, List.forall_mem_cons.mpr ⟨lw_p5, List.forall_mem_cons.mpr ⟨lw_p6, List.forall_mem_cons.mpr ⟨lw_p7, List.forall_mem_cons.mpr ⟨lw_p8, List.forall_mem_cons.mpr ⟨lw_p9, List.forall_mem_cons.mpr ⟨lw_p10, List.forall_mem_cons.mpr ⟨lw_p11, List.forall_mem_cons.mpr ⟨lw_p12, List.forall_mem_cons.mpr ⟨lw_p13, List.forall_mem_cons.mpr ⟨lw_p14, List.forall_mem_cons.mpr ⟨lw_p15, fun _ h => absurd h List.not_mem_nil⟩⟩⟩⟩⟩⟩⟩⟩⟩⟩⟩⟩⟩⟩⟩⟩
theorem lw_p16 : lw_okq (⟨"LineFlow$Layout", "layDown", "(LLineFlow$Flow;)I"⟩, 4) := ⟨⟨by decide +kernel, by decide +kernel⟩, List.mem_of_getElem? (i := 32) (by decide +kernel), List.mem_of_getElem? (i := 599) (by decide +kernel), List.mem_of_getElem? (i := 600) (by decide +kernel)⟩
theorem lw_p17 : lw_okq (⟨"LineFlow$Layout", "addFloat", "(LLineFlow$Flow;LLineFlow$Node;)V"⟩, 4) := ⟨⟨by decide +kernel, by decide +kernel⟩, List.mem_of_getElem? (i := 32) (by decide +kernel), List.mem_of_getElem? (i := 603) (by decide +kernel), List.mem_of_getElem? (i := 604) (by decide +kernel)⟩
theorem lw_p18 : lw_okq (⟨"LineFlow$Layout", "putFloat", "(LLineFlow$Flow;LLineFlow$Node;)V"⟩, 4) := ⟨⟨by decide +kernel, by decide +kernel⟩, List.mem_of_getElem? (i := 32) (by decide +kernel), List.mem_of_getElem? (i := 615) (by decide +kernel), List.mem_of_getElem? (i := 616) (by decide +kernel)⟩
theorem lw_p19 : lw_okq (⟨"LineFlow$Floats", "leastEndAt", "(I)I"⟩, 6) := ⟨⟨by decide +kernel, by decide +kernel⟩, List.mem_of_getElem? (i := 85) (by decide +kernel), List.mem_of_getElem? (i := 624) (by decide +kernel), List.mem_of_getElem? (i := 625) (by decide +kernel)⟩
theorem lw_p20 : lw_okq (⟨"LineFlow$Layout", "addInline", "(LLineFlow$Flow;LLineFlow$Node;)V"⟩, 4) := ⟨⟨by decide +kernel, by decide +kernel⟩, List.mem_of_getElem? (i := 32) (by decide +kernel), List.mem_of_getElem? (i := 657) (by decide +kernel), List.mem_of_getElem? (i := 658) (by decide +kernel)⟩
theorem lw_p21 : lw_okq (⟨"LineFlow$Layout", "addWords", "(LLineFlow$Flow;LLineFlow$Node;)V"⟩, 4) := ⟨⟨by decide +kernel, by decide +kernel⟩, List.mem_of_getElem? (i := 32) (by decide +kernel), List.mem_of_getElem? (i := 661) (by decide +kernel), List.mem_of_getElem? (i := 662) (by decide +kernel)⟩
theorem lw_p22 : lw_okq (⟨"LineFlow$Layout", "addItem", "(LLineFlow$Flow;LLineFlow$Box;I)V"⟩, 4) := ⟨⟨by decide +kernel, by decide +kernel⟩, List.mem_of_getElem? (i := 32) (by decide +kernel), List.mem_of_getElem? (i := 665) (by decide +kernel), List.mem_of_getElem? (i := 666) (by decide +kernel)⟩
theorem lw_p23 : lw_okq (⟨"LineFlow$Layout", "endLine", "(LLineFlow$Flow;)V"⟩, 4) := ⟨⟨by decide +kernel, by decide +kernel⟩, List.mem_of_getElem? (i := 32) (by decide +kernel), List.mem_of_getElem? (i := 678) (by decide +kernel), List.mem_of_getElem? (i := 679) (by decide +kernel)⟩
theorem lw_p24 : lw_okq (⟨"LineFlow$Line", "spaceAhead", "(I)I"⟩, 5) := ⟨⟨by decide +kernel, by decide +kernel⟩, List.mem_of_getElem? (i := 113) (by decide +kernel), List.mem_of_getElem? (i := 686) (by decide +kernel), List.mem_of_getElem? (i := 687) (by decide +kernel)⟩
theorem lw_p25 : lw_okq (⟨"LineFlow$Layout", "addBreak", "(LLineFlow$Flow;LLineFlow$Node;)V"⟩, 4) := ⟨⟨by decide +kernel, by decide +kernel⟩, List.mem_of_getElem? (i := 32) (by decide +kernel), List.mem_of_getElem? (i := 699) (by decide +kernel), List.mem_of_getElem? (i := 700) (by decide +kernel)⟩
theorem lw_p26 : lw_okq (⟨"LineFlow$Layout", "addBlock", "(LLineFlow$Flow;LLineFlow$Node;)V"⟩, 4) := ⟨⟨by decide +kernel, by decide +kernel⟩, List.mem_of_getElem? (i := 32) (by decide +kernel), List.mem_of_getElem? (i := 703) (by decide +kernel), List.mem_of_getElem? (i := 704) (by decide +kernel)⟩
theorem lw_p27 : lw_okq (⟨"LineFlowModel", "fresh", "(III)V"⟩, 56) := ⟨⟨by decide +kernel, by decide +kernel⟩, List.mem_of_getElem? (i := 764) (by decide +kernel), List.mem_of_getElem? (i := 774) (by decide +kernel), List.mem_of_getElem? (i := 775) (by decide +kernel)⟩
theorem lw_p28 : lw_okq (⟨"LineFlowModel", "putFour", "(I)V"⟩, 56) := ⟨⟨by decide +kernel, by decide +kernel⟩, List.mem_of_getElem? (i := 764) (by decide +kernel), List.mem_of_getElem? (i := 952) (by decide +kernel), List.mem_of_getElem? (i := 953) (by decide +kernel)⟩
theorem lw_p29 : lw_okq (⟨"LineFlowModel", "there", "(I)Z"⟩, 56) := ⟨⟨by decide +kernel, by decide +kernel⟩, List.mem_of_getElem? (i := 764) (by decide +kernel), List.mem_of_getElem? (i := 965) (by decide +kernel), List.mem_of_getElem? (i := 966) (by decide +kernel)⟩
theorem lw_p30 : lw_okq (⟨"LineFlowModel", "mayBe", "(III)Z"⟩, 56) := ⟨⟨by decide +kernel, by decide +kernel⟩, List.mem_of_getElem? (i := 764) (by decide +kernel), List.mem_of_getElem? (i := 977) (by decide +kernel), List.mem_of_getElem? (i := 978) (by decide +kernel)⟩
theorem lw_p31 : lw_okq (⟨"LineFlowModel", "modes", "()V"⟩, 56) := ⟨⟨by decide +kernel, by decide +kernel⟩, List.mem_of_getElem? (i := 764) (by decide +kernel), List.mem_of_getElem? (i := 985) (by decide +kernel), List.mem_of_getElem? (i := 986) (by decide +kernel)⟩
def lw_privs_2 : List (MethodName × Nat) := [(⟨"LineFlow$Layout", "layDown", "(LLineFlow$Flow;)I"⟩, 4), (⟨"LineFlow$Layout", "addFloat", "(LLineFlow$Flow;LLineFlow$Node;)V"⟩, 4), (⟨"LineFlow$Layout", "putFloat", "(LLineFlow$Flow;LLineFlow$Node;)V"⟩, 4), (⟨"LineFlow$Floats", "leastEndAt", "(I)I"⟩, 6), (⟨"LineFlow$Layout", "addInline", "(LLineFlow$Flow;LLineFlow$Node;)V"⟩, 4), (⟨"LineFlow$Layout", "addWords", "(LLineFlow$Flow;LLineFlow$Node;)V"⟩, 4), (⟨"LineFlow$Layout", "addItem", "(LLineFlow$Flow;LLineFlow$Box;I)V"⟩, 4), (⟨"LineFlow$Layout", "endLine", "(LLineFlow$Flow;)V"⟩, 4), (⟨"LineFlow$Line", "spaceAhead", "(I)I"⟩, 5), (⟨"LineFlow$Layout", "addBreak", "(LLineFlow$Flow;LLineFlow$Node;)V"⟩, 4), (⟨"LineFlow$Layout", "addBlock", "(LLineFlow$Flow;LLineFlow$Node;)V"⟩, 4), (⟨"LineFlowModel", "fresh", "(III)V"⟩, 56), (⟨"LineFlowModel", "putFour", "(I)V"⟩, 56), (⟨"LineFlowModel", "there", "(I)Z"⟩, 56), (⟨"LineFlowModel", "mayBe", "(III)Z"⟩, 56), (⟨"LineFlowModel", "modes", "()V"⟩, 56)]
theorem lw_r2 : ∀ q ∈ lw_privs_2, lw_okq q := List.forall_mem_cons.mpr ⟨lw_p16, List.forall_mem_cons.mpr ⟨lw_p17, List.forall_mem_cons.mpr ⟨lw_p18, List.forall_mem_cons.mpr ⟨lw_p19, List.forall_mem_cons.mpr ⟨lw_p20, List.forall_mem_cons.mpr ⟨lw_p21, List.forall_mem_cons.mpr ⟨lw_p22, List.forall_mem_cons.mpr ⟨lw_p23, List.forall_mem_cons.mpr ⟨lw_p24, List.forall_mem_cons.mpr ⟨lw_p25, List.forall_mem_cons.mpr ⟨lw_p26, List.forall_mem_cons.mpr ⟨lw_p27, List.forall_mem_cons.mpr ⟨lw_p28, List.forall_mem_cons.mpr ⟨lw_p29, List.forall_mem_cons.mpr ⟨lw_p30, List.forall_mem_cons.mpr ⟨lw_p31, fun _ h => absurd h List.not_mem_nil⟩⟩⟩⟩⟩⟩⟩⟩⟩⟩⟩⟩⟩⟩⟩⟩
theorem lw_p32 : lw_okq (⟨"LineFlowModel", "isBox", "(I)Z"⟩, 56) := ⟨⟨by decide +kernel, by decide +kernel⟩, List.mem_of_getElem? (i := 764) (by decide +kernel), List.mem_of_getElem? (i := 989) (by decide +kernel), List.mem_of_getElem? (i := 990) (by decide +kernel)⟩
theorem lw_p33 : lw_okq (⟨"LineFlowModel", "of", "(II)I"⟩, 56) := ⟨⟨by decide +kernel, by decide +kernel⟩, List.mem_of_getElem? (i := 764) (by decide +kernel), List.mem_of_getElem? (i := 993) (by decide +kernel), List.mem_of_getElem? (i := 994) (by decide +kernel)⟩
theorem lw_p34 : lw_okq (⟨"LineFlowModel", "modeOf", "(I)I"⟩, 56) := ⟨⟨by decide +kernel, by decide +kernel⟩, List.mem_of_getElem? (i := 764) (by decide +kernel), List.mem_of_getElem? (i := 997) (by decide +kernel), List.mem_of_getElem? (i := 998) (by decide +kernel)⟩
theorem lw_p35 : lw_okq (⟨"LineFlowModel", "after", "(II)I"⟩, 56) := ⟨⟨by decide +kernel, by decide +kernel⟩, List.mem_of_getElem? (i := 764) (by decide +kernel), List.mem_of_getElem? (i := 1001) (by decide +kernel), List.mem_of_getElem? (i := 1002) (by decide +kernel)⟩
theorem lw_p36 : lw_okq (⟨"LineFlowModel", "behind", "(II)I"⟩, 56) := ⟨⟨by decide +kernel, by decide +kernel⟩, List.mem_of_getElem? (i := 764) (by decide +kernel), List.mem_of_getElem? (i := 1005) (by decide +kernel), List.mem_of_getElem? (i := 1006) (by decide +kernel)⟩
theorem lw_p37 : lw_okq (⟨"LineFlowModel", "margins", "(I)V"⟩, 56) := ⟨⟨by decide +kernel, by decide +kernel⟩, List.mem_of_getElem? (i := 764) (by decide +kernel), List.mem_of_getElem? (i := 1009) (by decide +kernel), List.mem_of_getElem? (i := 1010) (by decide +kernel)⟩
theorem lw_p38 : lw_okq (⟨"LineFlowModel", "joins", "(I)Z"⟩, 56) := ⟨⟨by decide +kernel, by decide +kernel⟩, List.mem_of_getElem? (i := 764) (by decide +kernel), List.mem_of_getElem? (i := 1013) (by decide +kernel), List.mem_of_getElem? (i := 1014) (by decide +kernel)⟩
theorem lw_p39 : lw_okq (⟨"LineFlowModel", "isBlock", "(I)Z"⟩, 56) := ⟨⟨by decide +kernel, by decide +kernel⟩, List.mem_of_getElem? (i := 764) (by decide +kernel), List.mem_of_getElem? (i := 1017) (by decide +kernel), List.mem_of_getElem? (i := 1018) (by decide +kernel)⟩
theorem lw_p40 : lw_okq (⟨"LineFlowModel", "edges", "(I)I"⟩, 56) := ⟨⟨by decide +kernel, by decide +kernel⟩, List.mem_of_getElem? (i := 764) (by decide +kernel), List.mem_of_getElem? (i := 1021) (by decide +kernel), List.mem_of_getElem? (i := 1022) (by decide +kernel)⟩
theorem lw_p41 : lw_okq (⟨"LineFlowModel", "widen", "(I)V"⟩, 56) := ⟨⟨by decide +kernel, by decide +kernel⟩, List.mem_of_getElem? (i := 764) (by decide +kernel), List.mem_of_getElem? (i := 1028) (by decide +kernel), List.mem_of_getElem? (i := 1029) (by decide +kernel)⟩
theorem lw_p42 : lw_okq (⟨"LineFlowModel", "inner", "(I)I"⟩, 56) := ⟨⟨by decide +kernel, by decide +kernel⟩, List.mem_of_getElem? (i := 764) (by decide +kernel), List.mem_of_getElem? (i := 1032) (by decide +kernel), List.mem_of_getElem? (i := 1033) (by decide +kernel)⟩
theorem lw_p43 : lw_okq (⟨"LineFlowModel", "told", "(II)I"⟩, 56) := ⟨⟨by decide +kernel, by decide +kernel⟩, List.mem_of_getElem? (i := 764) (by decide +kernel), List.mem_of_getElem? (i := 1036) (by decide +kernel), List.mem_of_getElem? (i := 1037) (by decide +kernel)⟩
theorem lw_p44 : lw_okq (⟨"LineFlowModel", "oneLine", "(I)I"⟩, 56) := ⟨⟨by decide +kernel, by decide +kernel⟩, List.mem_of_getElem? (i := 764) (by decide +kernel), List.mem_of_getElem? (i := 1040) (by decide +kernel), List.mem_of_getElem? (i := 1041) (by decide +kernel)⟩
theorem lw_p45 : lw_okq (⟨"LineFlowModel", "split", "(I)V"⟩, 56) := ⟨⟨by decide +kernel, by decide +kernel⟩, List.mem_of_getElem? (i := 764) (by decide +kernel), List.mem_of_getElem? (i := 1053) (by decide +kernel), List.mem_of_getElem? (i := 1054) (by decide +kernel)⟩
theorem lw_p46 : lw_okq (⟨"LineFlowModel", "layBlock", "(I)V"⟩, 56) := ⟨⟨by decide +kernel, by decide +kernel⟩, List.mem_of_getElem? (i := 764) (by decide +kernel), List.mem_of_getElem? (i := 1057) (by decide +kernel), List.mem_of_getElem? (i := 1058) (by decide +kernel)⟩
theorem lw_p47 : lw_okq (⟨"LineFlowModel", "lineThing", "(I)V"⟩, 56) := ⟨⟨by decide +kernel, by decide +kernel⟩, List.mem_of_getElem? (i := 764) (by decide +kernel), List.mem_of_getElem? (i := 1061) (by decide +kernel), List.mem_of_getElem? (i := 1062) (by decide +kernel)⟩
def lw_privs_3 : List (MethodName × Nat) := [(⟨"LineFlowModel", "isBox", "(I)Z"⟩, 56), (⟨"LineFlowModel", "of", "(II)I"⟩, 56), (⟨"LineFlowModel", "modeOf", "(I)I"⟩, 56), (⟨"LineFlowModel", "after", "(II)I"⟩, 56), (⟨"LineFlowModel", "behind", "(II)I"⟩, 56), (⟨"LineFlowModel", "margins", "(I)V"⟩, 56), (⟨"LineFlowModel", "joins", "(I)Z"⟩, 56), (⟨"LineFlowModel", "isBlock", "(I)Z"⟩, 56), (⟨"LineFlowModel", "edges", "(I)I"⟩, 56), (⟨"LineFlowModel", "widen", "(I)V"⟩, 56), (⟨"LineFlowModel", "inner", "(I)I"⟩, 56), (⟨"LineFlowModel", "told", "(II)I"⟩, 56), (⟨"LineFlowModel", "oneLine", "(I)I"⟩, 56), (⟨"LineFlowModel", "split", "(I)V"⟩, 56), (⟨"LineFlowModel", "layBlock", "(I)V"⟩, 56), (⟨"LineFlowModel", "lineThing", "(I)V"⟩, 56)]
theorem lw_r3 : ∀ q ∈ lw_privs_3, lw_okq q := List.forall_mem_cons.mpr ⟨lw_p32, List.forall_mem_cons.mpr ⟨lw_p33, List.forall_mem_cons.mpr ⟨lw_p34, List.forall_mem_cons.mpr ⟨lw_p35, List.forall_mem_cons.mpr ⟨lw_p36, List.forall_mem_cons.mpr ⟨lw_p37, List.forall_mem_cons.mpr ⟨lw_p38, List.forall_mem_cons.mpr ⟨lw_p39, List.forall_mem_cons.mpr ⟨lw_p40, List.forall_mem_cons.mpr ⟨lw_p41, List.forall_mem_cons.mpr ⟨lw_p42, List.forall_mem_cons.mpr ⟨lw_p43, List.forall_mem_cons.mpr ⟨lw_p44, List.forall_mem_cons.mpr ⟨lw_p45, List.forall_mem_cons.mpr ⟨lw_p46, List.forall_mem_cons.mpr ⟨lw_p47, fun _ h => absurd h List.not_mem_nil⟩⟩⟩⟩⟩⟩⟩⟩⟩⟩⟩⟩⟩⟩⟩⟩
theorem lw_p48 : lw_okq (⟨"LineFlowModel", "putFloat", "(I)V"⟩, 56) := ⟨⟨by decide +kernel, by decide +kernel⟩, List.mem_of_getElem? (i := 764) (by decide +kernel), List.mem_of_getElem? (i := 1065) (by decide +kernel), List.mem_of_getElem? (i := 1066) (by decide +kernel)⟩
theorem lw_p49 : lw_okq (⟨"LineFlowModel", "edgesAt", "(I)V"⟩, 56) := ⟨⟨by decide +kernel, by decide +kernel⟩, List.mem_of_getElem? (i := 764) (by decide +kernel), List.mem_of_getElem? (i := 1069) (by decide +kernel), List.mem_of_getElem? (i := 1070) (by decide +kernel)⟩
theorem lw_p50 : lw_okq (⟨"LineFlowModel", "isFloatAt", "(II)Z"⟩, 56) := ⟨⟨by decide +kernel, by decide +kernel⟩, List.mem_of_getElem? (i := 764) (by decide +kernel), List.mem_of_getElem? (i := 1073) (by decide +kernel), List.mem_of_getElem? (i := 1074) (by decide +kernel)⟩
theorem lw_p51 : lw_okq (⟨"LineFlowModel", "leastEnd", "(I)I"⟩, 56) := ⟨⟨by decide +kernel, by decide +kernel⟩, List.mem_of_getElem? (i := 764) (by decide +kernel), List.mem_of_getElem? (i := 1077) (by decide +kernel), List.mem_of_getElem? (i := 1078) (by decide +kernel)⟩
theorem lw_p52 : lw_okq (⟨"LineFlowModel", "putItem", "(III)V"⟩, 56) := ⟨⟨by decide +kernel, by decide +kernel⟩, List.mem_of_getElem? (i := 764) (by decide +kernel), List.mem_of_getElem? (i := 1081) (by decide +kernel), List.mem_of_getElem? (i := 1082) (by decide +kernel)⟩
theorem lw_p53 : lw_okq (⟨"LineFlowModel", "itemHigh", "(I)I"⟩, 56) := ⟨⟨by decide +kernel, by decide +kernel⟩, List.mem_of_getElem? (i := 764) (by decide +kernel), List.mem_of_getElem? (i := 1085) (by decide +kernel), List.mem_of_getElem? (i := 1086) (by decide +kernel)⟩
theorem lw_p54 : lw_okq (⟨"LineFlowModel", "endLine", "()V"⟩, 56) := ⟨⟨by decide +kernel, by decide +kernel⟩, List.mem_of_getElem? (i := 764) (by decide +kernel), List.mem_of_getElem? (i := 1089) (by decide +kernel), List.mem_of_getElem? (i := 1090) (by decide +kernel)⟩
theorem lw_p55 : lw_okq (⟨"LineFlowModel", "lineText", "(I)V"⟩, 56) := ⟨⟨by decide +kernel, by decide +kernel⟩, List.mem_of_getElem? (i := 764) (by decide +kernel), List.mem_of_getElem? (i := 1093) (by decide +kernel), List.mem_of_getElem? (i := 1094) (by decide +kernel)⟩
theorem lw_p56 : lw_okq (⟨"LineFlowModel", "heightOf", "(II)I"⟩, 56) := ⟨⟨by decide +kernel, by decide +kernel⟩, List.mem_of_getElem? (i := 764) (by decide +kernel), List.mem_of_getElem? (i := 1097) (by decide +kernel), List.mem_of_getElem? (i := 1098) (by decide +kernel)⟩
theorem lw_p57 : lw_okq (⟨"LineFlowModel", "layFlex", "(I)V"⟩, 56) := ⟨⟨by decide +kernel, by decide +kernel⟩, List.mem_of_getElem? (i := 764) (by decide +kernel), List.mem_of_getElem? (i := 1101) (by decide +kernel), List.mem_of_getElem? (i := 1102) (by decide +kernel)⟩
def lw_privs_4 : List (MethodName × Nat) := [(⟨"LineFlowModel", "putFloat", "(I)V"⟩, 56), (⟨"LineFlowModel", "edgesAt", "(I)V"⟩, 56), (⟨"LineFlowModel", "isFloatAt", "(II)Z"⟩, 56), (⟨"LineFlowModel", "leastEnd", "(I)I"⟩, 56), (⟨"LineFlowModel", "putItem", "(III)V"⟩, 56), (⟨"LineFlowModel", "itemHigh", "(I)I"⟩, 56), (⟨"LineFlowModel", "endLine", "()V"⟩, 56), (⟨"LineFlowModel", "lineText", "(I)V"⟩, 56), (⟨"LineFlowModel", "heightOf", "(II)I"⟩, 56), (⟨"LineFlowModel", "layFlex", "(I)V"⟩, 56)]
theorem lw_r4 : ∀ q ∈ lw_privs_4, lw_okq q := List.forall_mem_cons.mpr ⟨lw_p48, List.forall_mem_cons.mpr ⟨lw_p49, List.forall_mem_cons.mpr ⟨lw_p50, List.forall_mem_cons.mpr ⟨lw_p51, List.forall_mem_cons.mpr ⟨lw_p52, List.forall_mem_cons.mpr ⟨lw_p53, List.forall_mem_cons.mpr ⟨lw_p54, List.forall_mem_cons.mpr ⟨lw_p55, List.forall_mem_cons.mpr ⟨lw_p56, List.forall_mem_cons.mpr ⟨lw_p57, fun _ h => absurd h List.not_mem_nil⟩⟩⟩⟩⟩⟩⟩⟩⟩⟩
def lw_privs : List (MethodName × Nat) := lw_privs_1 ++ (lw_privs_2 ++ (lw_privs_3 ++ (lw_privs_4)))
def lw_tbl : List Cond := k2_sels lw_privs ++ tables_1
theorem lw_privs_ok : ∀ q ∈ lw_privs, lw_okq q := by
  show ∀ q ∈ lw_privs_1 ++ (lw_privs_2 ++ (lw_privs_3 ++ (lw_privs_4))), lw_okq q
  exact List.forall_mem_append.mpr ⟨lw_r1, List.forall_mem_append.mpr ⟨lw_r2, List.forall_mem_append.mpr ⟨lw_r3, lw_r4⟩⟩⟩
end
section
/-! THE SMALL MACHINE: a machine over lists, the JVM's instructions as predicate transformers. What is shown of it (am_T) holds of the JVM (am_sim). -/
/-- a cell: an object (its class's number, its fields), or an array (its components' type, the components). Value.ref i is the i-th cell of the list, Value.retAddr j the j-th constant (an array that nobody writes) -/
abbrev am_E : Type := (Nat × List Value) ⊕ (FieldType × List Value)
abbrev am_H : Type := List am_E
/-- program counter, locals, operands, heap -/
abbrev am_F : Type := Nat × List (Option Value) × List Value × am_H
/-- a method: its class's number, its code, how many locals, what it returns, whether it is a constructor -/
abbrev am_I : Type := Nat × ByteArray × Nat × Option FieldType × Bool
/-- the tables: what a pool entry of a class is; the methods; the fields of the classes (type, final); the constants -/
abbrev am_B : Type := (Nat → Nat → Nat × Nat × Nat) × (Nat → Option am_I) × (Nat → Option (List (FieldType × Bool))) × (Nat → Option (FieldType × List Value))
abbrev am_C : Type := Nat → List Value → am_H → (Option Value → am_H → Prop) → Prop
def am_isR (v : Value) : Prop := v = .null ∨ (∃ a, v = .ref a) ∨ ∃ j, v = .retAddr j
def am_cmpR (B : am_B) (v w : Value) : Prop := am_isR v ∧ am_isR w ∧ (v = w ∨ (¬ ∃ i j, v = .retAddr i ∧ w = .retAddr j) ∧ ∀ j, v = .retAddr j ∨ w = .retAddr j → (B.2.2.2 j).isSome = true)
def am_get (h : am_H) (c a k : Nat) : Option Value := match h[a]? with
  | some (.inl (c', fs)) => if c' = c then fs[k]? else none
  | _ => none
def am_put (h : am_H) (a k : Nat) (v : Value) : am_H := match h[a]? with
  | some (.inl (c', fs)) => h.set a (.inl (c', fs.set k v))
  | _ => h
/-- an array that can be read -/
def am_arr (B : am_B) (h : am_H) : Value → Option (FieldType × List Value)
  | .ref a => match h[a]? with
    | some (.inr x) => some x
    | _ => none
  | .retAddr j => B.2.2.2 j
  | _ => none
def am_fit : FieldType → Value → Bool
  | .int, .int _ => true
  | .boolean, .int x => x == 0 || x == 1
  | .object _, .null | .object _, .ref _ | .object _, .retAddr _ => true
  | .array _, .null | .array _, .ref _ | .array _, .retAddr _ => true
  | _, _ => false
/-- what a method may answer -/
def am_ans : Option FieldType → Option Value → Bool
  | none, none => true
  | some .int, some (.int _) => true
  | some .boolean, some (.int x) => x == 0 || x == 1
  | some (.object _), some .null | some (.object _), some (.ref _) | some (.object _), some (.retAddr _) => true
  | some (.array _), some .null | some (.array _), some (.ref _) | some (.array _), some (.retAddr _) => true
  | _, _ => false
def am_br (P : am_F → Prop) (pc : Nat) (ls : List (Option Value)) (st : List Value) (h : am_H) (off : Int) (C : Prop) : Prop :=
  ∃ tgt : Nat, (pc : Int) + off = (tgt : Int) ∧ (C → P (tgt, ls, st, h)) ∧ (¬ C → P (pc + 3, ls, st, h))
def am_c1 (P : am_F → Prop) (pc : Nat) (ls : List (Option Value)) (st : List Value) (h : am_H) (off : Int) (C : Int32 → Prop) : Prop :=
  ∃ x rest, st = .int x :: rest ∧ am_br P pc ls rest h off (C x)
def am_c2 (P : am_F → Prop) (pc : Nat) (ls : List (Option Value)) (st : List Value) (h : am_H) (off : Int) (C : Int32 → Int32 → Prop) : Prop :=
  ∃ x y rest, st = .int y :: .int x :: rest ∧ am_br P pc ls rest h off (C x y)
def am_b2 (P : am_F → Prop) (pc : Nat) (ls : List (Option Value)) (st : List Value) (h : am_H) (f : Int32 → Int32 → Int32) : Prop :=
  ∃ x y rest, st = .int y :: .int x :: rest ∧ P (pc + 1, ls, .int (f x y) :: rest, h)
def am_ald (B : am_B) (P : am_F → Prop) (pc : Nat) (ls : List (Option Value)) (st : List Value) (h : am_H) (ok : FieldType → Prop) : Prop :=
  ∃ j r rest ty vs v, st = .int j :: r :: rest ∧ am_arr B h r = some (ty, vs) ∧ ok ty ∧ ¬ j < 0 ∧ vs[j.toNatClampNeg]? = some v ∧ P (pc + 1, ls, v :: rest, h)
def am_ast (P : am_F → Prop) (pc : Nat) (ls : List (Option Value)) (st : List Value) (h : am_H) (ok : FieldType → Value → Value → Prop) : Prop :=
  ∃ w j a rest ty vs v, st = w :: .int j :: .ref a :: rest ∧ h[a]? = some (.inr (ty, vs)) ∧ ok ty w v ∧ ¬ j < 0 ∧ j.toNatClampNeg < vs.length ∧ P (pc + 1, ls, rest, h.set a (.inr (ty, vs.set j.toNatClampNeg v)))
/-- the component kinds of the arrays of references -/
def am_refs : List String := ["LineFlow$Node", "LineFlow$Flow", "java/lang/Object"]
def am_tyk (ty : FieldType) : Prop := ty = .int ∨ ty = .byte ∨ ty = .boolean ∨ ∃ C, C ∈ am_refs ∧ ty = .object C
/-- what may stand in an array of references -/
def am_into (cn : Nat → String) (h : am_H) (ty : FieldType) (w v : Value) : Prop := v = w ∧ ∃ C, C ∈ am_refs ∧ ty = .object C ∧ (w = .null ∨ ∃ b c fs, w = .ref b ∧ h[b]? = some (.inl (c, fs)) ∧ (cn c = C ∨ C = "java/lang/Object" ∧ c = 7))
def am_cpy (vs ws : List Value) (sp dp n : Nat) : List Value := (List.range ws.length).map (va_cpy (fun j => vs.getD j .null) (fun j => ws.getD j .null) sp dp n)
/-- one instruction that stays in the method; T: what calls do; cn: the names of the numbered object kinds -/
def am_nx (B : am_B) (cn : Nat → String) (T : am_C) (I : am_I) (P : am_F → Prop) (pc : Nat) (ls : List (Option Value)) (st : List Value) (h : am_H) (i : Instr) : Prop := match i with
  | .iconst n => P (pc + 1, ls, .int (Int32.ofInt n) :: st, h)
  | .bipush n => P (pc + 2, ls, .int (Int8.ofInt n).toInt32 :: st, h)
  | .sipush n => P (pc + 3, ls, .int (Int16.ofInt n).toInt32 :: st, h)
  | .ldc idx => (∃ x y, B.1 I.1 idx = (12, x, y) ∧ P (pc + 2, ls, .int (Int32.ofNat x) :: st, h)) ∨ ∃ x y, B.1 I.1 idx = (15, x, y) ∧ P (pc + 2, ls, .retAddr 3 :: st, h)
  | .aconst_null => P (pc + 1, ls, .null :: st, h)
  | .iload k => ∃ x, ls[k]? = some (some (.int x)) ∧ P (pc + 2, ls, .int x :: st, h)
  | .iload_n k => ∃ x, ls[k.val]? = some (some (.int x)) ∧ P (pc + 1, ls, .int x :: st, h)
  | .aload k => ∃ v, ls[k]? = some (some v) ∧ am_isR v ∧ P (pc + 2, ls, v :: st, h)
  | .aload_n k => ∃ v, ls[k.val]? = some (some v) ∧ am_isR v ∧ P (pc + 1, ls, v :: st, h)
  | .istore k => ∃ x rest, st = .int x :: rest ∧ k < ls.length ∧ P (pc + 2, ls.set k (some (.int x)), rest, h)
  | .istore_n k => ∃ x rest, st = .int x :: rest ∧ k.val < ls.length ∧ P (pc + 1, ls.set k.val (some (.int x)), rest, h)
  | .astore k => ∃ v rest, st = v :: rest ∧ am_isR v ∧ k < ls.length ∧ P (pc + 2, ls.set k (some v), rest, h)
  | .astore_n k => ∃ v rest, st = v :: rest ∧ am_isR v ∧ k.val < ls.length ∧ P (pc + 1, ls.set k.val (some v), rest, h)
  | .iinc k n => ∃ x, ls[k]? = some (some (.int x)) ∧ P (pc + 3, ls.set k (some (.int (x + Int32.ofInt n))), st, h)
  | .iadd => am_b2 P pc ls st h (fun x y => x + y)
  | .isub => am_b2 P pc ls st h (fun x y => x - y)
  | .imul => am_b2 P pc ls st h (fun x y => x * y)
  | .iand => am_b2 P pc ls st h (fun x y => x &&& y)
  | .idiv => ∃ x y rest, st = .int y :: .int x :: rest ∧ ¬ y = 0 ∧ P (pc + 1, ls, .int (x / y) :: rest, h)
  | .ishr => am_b2 P pc ls st h (fun x y => x >>> (y &&& 31))
  | .iushr => am_b2 P pc ls st h (fun x y => (x.toUInt32 >>> (y.toUInt32 &&& Int32.toUInt32 31)).toInt32)
  | .i2b => ∃ x rest, st = .int x :: rest ∧ P (pc + 1, ls, .int x.toInt8.toInt32 :: rest, h)
  | .dup => ∃ v rest, st = v :: rest ∧ P (pc + 1, ls, v :: v :: rest, h)
  | .dup_x1 => ∃ v w rest, st = v :: w :: rest ∧ P (pc + 1, ls, v :: w :: v :: rest, h)
  | .dup2 => ∃ v w rest, st = v :: w :: rest ∧ P (pc + 1, ls, v :: w :: v :: w :: rest, h)
  | .pop => ∃ v rest, st = v :: rest ∧ P (pc + 1, ls, rest, h)
  | .goto off => ∃ tgt : Nat, (pc : Int) + off = (tgt : Int) ∧ P (tgt, ls, st, h)
  | .ifCond .eq off => am_c1 P pc ls st h off (fun x => x = 0)
  | .ifCond .ne off => am_c1 P pc ls st h off (fun x => ¬ x = 0)
  | .ifCond .lt off => am_c1 P pc ls st h off (fun x => x < 0)
  | .ifCond .ge off => am_c1 P pc ls st h off (fun x => 0 ≤ x)
  | .ifCond .gt off => am_c1 P pc ls st h off (fun x => 0 < x)
  | .ifCond .le off => am_c1 P pc ls st h off (fun x => x ≤ 0)
  | .if_icmp .eq off => am_c2 P pc ls st h off (fun x y => x = y)
  | .if_icmp .ne off => am_c2 P pc ls st h off (fun x y => ¬ x = y)
  | .if_icmp .lt off => am_c2 P pc ls st h off (fun x y => x < y)
  | .if_icmp .ge off => am_c2 P pc ls st h off (fun x y => y ≤ x)
  | .if_icmp .gt off => am_c2 P pc ls st h off (fun x y => y < x)
  | .if_icmp .le off => am_c2 P pc ls st h off (fun x y => x ≤ y)
  | .ifnull off => ∃ v rest, st = v :: rest ∧ am_isR v ∧ am_br P pc ls rest h off (v = .null)
  | .ifnonnull off => ∃ v rest, st = v :: rest ∧ am_isR v ∧ am_br P pc ls rest h off (¬ v = .null)
  | .if_acmp .eq off => ∃ v w rest, st = w :: v :: rest ∧ am_cmpR B v w ∧ am_br P pc ls rest h off (v = w)
  | .if_acmp .ne off => ∃ v w rest, st = w :: v :: rest ∧ am_cmpR B v w ∧ am_br P pc ls rest h off (¬ v = w)
  | .tableswitch dflt lo hi offs => ∃ x rest, st = .int x :: rest ∧ ∃ tgt : Nat, ((x.toInt < lo ∨ hi < x.toInt) ∧ (pc : Int) + dflt = (tgt : Int) ∨ ¬ x.toInt < lo ∧ ¬ hi < x.toInt ∧ ∃ off, offs[(x.toInt - lo).toNat]? = some off ∧ (pc : Int) + off = (tgt : Int)) ∧ P (tgt, ls, rest, h)
  | .lookupswitch dflt ps => ∃ x rest, st = .int x :: rest ∧ (ps.toList.zip (ps.toList.drop 1)).all (fun (a, next) => a.1 < next.1) = true ∧ ∃ tgt : Nat, (pc : Int) + Op.lookupswitch.offset ps.toList dflt x.toInt = (tgt : Int) ∧ P (tgt, ls, rest, h)
  | .getfield idx => ∃ a rest t c k v, st = .ref a :: rest ∧ B.1 I.1 idx = (t, c, k) ∧ (t = 1 ∨ t = 2) ∧ am_get h c a k = some v ∧ P (pc + 3, ls, v :: rest, h)
  | .putfield idx => ∃ a rest c k v w ts ty fin, st = v :: .ref a :: rest ∧ B.1 I.1 idx = (1, c, k) ∧ am_get h c a k = some w ∧ B.2.2.1 c = some ts ∧ ts[k]? = some (ty, fin) ∧ am_fit ty v = true ∧ (fin = true → I.2.2.2.2 = true ∧ c = I.1) ∧ P (pc + 3, ls, rest, am_put h a k v)
  | .getstatic idx => ∃ j y, B.1 I.1 idx = (3, j, y) ∧ P (pc + 3, ls, .retAddr j :: st, h)
  | .arraylength => ∃ r rest ty vs, st = r :: rest ∧ am_arr B h r = some (ty, vs) ∧ am_tyk ty ∧ P (pc + 1, ls, .int (Int32.ofNat vs.length) :: rest, h)
  | .iaload => am_ald B P pc ls st h (fun ty => ty = .int)
  | .baload => am_ald B P pc ls st h (fun ty => ty = .byte ∨ ty = .boolean)
  | .aaload => am_ald B P pc ls st h (fun ty => ∃ C, C ∈ am_refs ∧ ty = .object C)
  | .iastore => am_ast P pc ls st h (fun ty w v => ty = .int ∧ v = w ∧ ∃ x, w = .int x)
  | .bastore => am_ast P pc ls st h (fun ty w v => ∃ x, w = .int x ∧ (ty = .byte ∧ v = .int x.toInt8.toInt32 ∨ ty = .boolean ∧ v = .int (x &&& 1)))
  | .aastore => am_ast P pc ls st h (am_into cn h)
  | .new idx => ∃ c y ts, B.1 I.1 idx = (9, c, y) ∧ B.2.2.1 c = some ts ∧ (∀ q ∈ ts, (defaultValue q.1).category = 1) ∧ P (pc + 3, ls, .ref h.length :: st, h ++ [.inl (c, ts.map (fun q => defaultValue q.1))])
  | .newarray at_ => ∃ n rest ty, st = .int n :: rest ∧ newarray.typeOf at_ = ty ∧ (ty = .int ∨ ty = .byte ∨ ty = .boolean) ∧ ¬ n < 0 ∧ n.toNatClampNeg ≤ 100000 ∧ P (pc + 2, ls, .ref h.length :: rest, h ++ [.inr (ty, List.replicate n.toNatClampNeg (.int 0))])
  | .anewarray idx => ∃ n rest c y, st = .int n :: rest ∧ B.1 I.1 idx = (9, c, y) ∧ cn c ∈ am_refs ∧ ¬ n < 0 ∧ n.toNatClampNeg ≤ 100000 ∧ P (pc + 3, ls, .ref h.length :: rest, h ++ [.inr (.object (cn c), List.replicate n.toNatClampNeg .null)])
  | .checkcast idx => ∃ v rest c y, st = v :: rest ∧ B.1 I.1 idx = (9, c, y) ∧ (v = .null ∨ ∃ a fs, v = .ref a ∧ h[a]? = some (.inl (c, fs))) ∧ P (pc + 3, ls, v :: rest, h)
  | .invokevirtual idx => (∃ a rest vs x y, B.1 I.1 idx = (14, x, y) ∧ st = .ref a :: rest ∧ rest.length ≤ 8 ∧ h[a]? = some (.inr (.object "java/lang/Object", vs)) ∧ P (pc + 3, ls, .retAddr 3 :: rest, h)) ∨ ∃ m n as b rest J fs, B.1 I.1 idx = (4, m, n) ∧ as.length = n ∧ st = as.reverse ++ .ref b :: rest ∧ rest.length ≤ 8 ∧ B.2.1 m = some J ∧ h[b]? = some (.inl (J.1, fs)) ∧ T m (.ref b :: as) h (fun v h' => P (pc + 3, ls, v.toList ++ rest, h'))
  | .invokestatic idx => (∃ n dp a sp b rest ty vs ws x y, B.1 I.1 idx = (13, x, y) ∧ st = .int n :: .int dp :: .ref a :: .int sp :: .ref b :: rest ∧ rest.length ≤ 8 ∧ h[b]? = some (.inr (ty, vs)) ∧ h[a]? = some (.inr (ty, ws)) ∧ (ty = .byte ∧ (∀ v ∈ vs, fits .byte v = true) ∨ ty = .object "java/lang/Object" ∧ ∀ v ∈ vs, v = .null ∨ ∃ q fs, v = .ref q ∧ h[q]? = some (.inl (7, fs))) ∧
      ¬ sp < 0 ∧ ¬ dp < 0 ∧ ¬ n < 0 ∧ sp.toNatClampNeg + n.toNatClampNeg ≤ vs.length ∧ dp.toNatClampNeg + n.toNatClampNeg ≤ ws.length ∧ P (pc + 3, ls, rest, h.set a (.inr (ty, am_cpy vs ws sp.toNatClampNeg dp.toNatClampNeg n.toNatClampNeg)))) ∨
      (∃ a b rest x y, B.1 I.1 idx = (16, x, y) ∧ st = .int b :: .int a :: rest ∧ rest.length ≤ 8 ∧ P (pc + 3, ls, .int (if a < b then b else a) :: rest, h)) ∨ (∃ a b rest x y, B.1 I.1 idx = (17, x, y) ∧ st = .int b :: .int a :: rest ∧ rest.length ≤ 8 ∧ P (pc + 3, ls, .int (if b < a then b else a) :: rest, h)) ∨ ∃ m n as rest, B.1 I.1 idx = (5, m, n) ∧ as.length = n ∧ st = as.reverse ++ rest ∧ rest.length ≤ 8 ∧ T m as h (fun v h' => P (pc + 3, ls, v.toList ++ rest, h'))
  | .invokespecial idx => (∃ a rest x y, B.1 I.1 idx = (8, x, y) ∧ st = .ref a :: rest ∧ rest.length ≤ 8 ∧ P (pc + 3, ls, rest, h)) ∨
      ∃ t m n as b rest, B.1 I.1 idx = (t, m, n) ∧ (t = 6 ∨ t = 7) ∧ as.length = n ∧ st = as.reverse ++ .ref b :: rest ∧ rest.length ≤ 8 ∧ T m (.ref b :: as) h (fun v h' => v = none ∧ P (pc + 3, ls, rest, h'))
  | _ => False
/-- one instruction that ends the method -/
def am_re (Q : Option Value → am_H → Prop) (I : am_I) (st : List Value) (h : am_H) (i : Instr) : Prop :=
  ∃ v : Option Value, st = v.toList ∧ am_ans I.2.2.2.1 v = true ∧ Q v h ∧ (i = .return_ ∧ v = none ∨ (i = .ireturn ∧ ∃ x, v = some (.int x)) ∨ i = .areturn ∧ ∃ r, v = some r ∧ am_isR r)
def am_len : Instr → Nat → Bool
  | .bipush _, n | .iload _, n | .aload _, n | .istore _, n | .astore _, n | .ldc _, n | .newarray _, n => n == 2
  | .sipush _, n | .iinc _ _, n | .goto _, n | .ifCond _ _, n | .if_icmp _ _, n | .if_acmp _ _, n | .ifnull _, n | .ifnonnull _, n => n == 3
  | .getfield _, n | .putfield _, n | .getstatic _, n | .new _, n | .anewarray _, n | .checkcast _, n | .invokevirtual _, n | .invokestatic _, n | .invokespecial _, n => n == 3
  | .tableswitch _ _ _ _, _ | .lookupswitch _ _, _ => true
  | _, n => n == 1
def am_ok (B : am_B) (cn : Nat → String) (T : am_C) (Q : Option Value → am_H → Prop) (I : am_I) (P : am_F → Prop) (F : am_F) : Prop :=
  ∃ (i : Instr) (len : Nat), decode I.2.1 F.1 = .ok (i, len) ∧ am_len i len = true ∧ (am_nx B cn T I P F.1 F.2.1 F.2.2.1 F.2.2.2 i ∨ am_re Q I F.2.2.1 F.2.2.2 i)
/-- from here the method ends with Q: the least predicate that is closed under the instructions -/
def am_wp (B : am_B) (cn : Nat → String) (T : am_C) (Q : Option Value → am_H → Prop) (I : am_I) (F : am_F) : Prop :=
  ∀ P : am_F → Prop, (∀ F, am_ok B cn T Q I P F → P F) → P F
/-- a call of method m, at most d deep, ends with Q -/
def am_T (B : am_B) (cn : Nat → String) : Nat → am_C
  | 0 => fun _ _ _ _ => False
  | d + 1 => fun m as h Q => ∃ I : am_I, B.2.1 m = some I ∧ as.length ≤ I.2.2.1 ∧ am_wp B cn (am_T B cn d) Q I (0, as.map some ++ List.replicate (I.2.2.1 - as.length) none, [], h)
theorem am_re_mono {Q Q' : Option Value → am_H → Prop} {I : am_I} {st : List Value} {h : am_H} {i : Instr} (hQ : ∀ v h, Q v h → Q' v h) (hr : am_re Q I st h i) : am_re Q' I st h i := by
  obtain ⟨v, h1, h2, h3, h4⟩ := hr
  exact ⟨v, h1, h2, hQ _ _ h3, h4⟩
theorem am_wp_mono {B : am_B} {cn : Nat → String} {T : am_C} {Q Q' : Option Value → am_H → Prop} {I : am_I} {F : am_F} (hQ : ∀ v h, Q v h → Q' v h) (hw : am_wp B cn T Q I F) : am_wp B cn T Q' I F := by
  intro P hP
  refine hw P (fun F' hF => hP F' ?_)
  obtain ⟨i, len, hd, hl, h⟩ := hF
  exact ⟨i, len, hd, hl, h.imp id (am_re_mono hQ)⟩
theorem am_T_mono {B : am_B} {cn : Nat → String} {d m : Nat} {as : List Value} {h : am_H} {Q Q' : Option Value → am_H → Prop} (hQ : ∀ v h, Q v h → Q' v h) (ht : am_T B cn d m as h Q) : am_T B cn d m as h Q' := by
  cases d with
  | zero => exact ht
  | succ d =>
    obtain ⟨I, h1, h2, h3⟩ := ht
    exact ⟨I, h1, h2, am_wp_mono hQ h3⟩
end
section
/-! THE SMALL MACHINE's RUNS ARE RUNS OF THE JVM: worlds, places, one instruction. -/
def am_cv (sa : Nat → Nat) (base : Nat) : Value → Value
  | .ref i => .ref (base + i)
  | .retAddr j => .ref (sa j)
  | v => v
theorem am_cv_cat (sa : Nat → Nat) (base : Nat) (v : Value) : (am_cv sa base v).category = v.category := by cases v <;> rfl
def am_sz : am_E → Nat
  | .inl x => x.2.length
  | .inr x => x.2.length
def am_sl (h : am_H) : Nat := (h.map am_sz).sum
def am_e1 : am_E → Prop
  | .inl x => ∀ v ∈ x.2, v.category = 1
  | .inr x => ∀ v ∈ x.2, v.category = 1
def am_v1 (h : am_H) : Prop := ∀ e ∈ h, am_e1 e
def am_cell (D : va_G) (DA : FieldType → ClassId) (sa : Nat → Nat) (base : Nat) (cl : List vw_C) (a : Nat) (e : am_E) (H : Heap) : Prop := match e with
  | .inl x => ∃ r : vw_C, cl[x.1]? = some r ∧ x.2.length = r.2.2 ∧ t_OB a (D.1 x.1) r.2.2 (D.2 x.1) H (fun k => am_cv sa base (x.2.getD k .null))
  | .inr x => H[a]? = some (arrV (DA x.1) x.2.length (fun j => am_cv sa base (x.2.getD j .null)))
def am_Wd (D : va_G) (DA : FieldType → ClassId) (sa : Nat → Nat) (base : Nat) (cl : List vw_C) (h : am_H) (H : Heap) : Prop :=
  H.size = base + h.length ∧ ∀ (i : Nat) (e : am_E), h[i]? = some e → am_cell D DA sa base cl (base + i) e H
theorem am_cell.kept {D : va_G} {DA : FieldType → ClassId} {sa : Nat → Nat} {base : Nat} {cl : List vw_C} {a : Nat} {e : am_E} {H H1 : Heap} (h : am_cell D DA sa base cl a e H) (h1 : H1[a]? = H[a]?) : am_cell D DA sa base cl a e H1 := by
  cases e with
  | inl x =>
    obtain ⟨r, h2, h3, h4⟩ := h
    exact ⟨r, h2, h3, h4.kept h1⟩
  | inr x => exact h1.trans h
theorem am_Wd.set {D : va_G} {DA : FieldType → ClassId} {sa : Nat → Nat} {base : Nat} {cl : List vw_C} {h : am_H} {H H1 : Heap} {a : Nat} {e : am_E} (w : am_Wd D DA sa base cl h H) (z : H1.size = H.size) (oq : ∀ q : Nat, q ≠ base + a → H1[q]? = H[q]?) (he : am_cell D DA sa base cl (base + a) e H1) : am_Wd D DA sa base cl (h.set a e) H1 := by
  refine ⟨by rw [z, w.1, List.length_set], fun i x hx => ?_⟩
  by_cases hia : i = a
  · subst hia
    have hl : i < h.length := by
      have := (List.getElem?_eq_some_iff.mp hx).1
      simpa using this
    rw [List.getElem?_set_self hl] at hx
    cases hx
    exact he
  · rw [List.getElem?_set_ne (Ne.symm hia)] at hx
    exact (w.2 i x hx).kept (oq _ (by omega))
theorem am_Wd.push {D : va_G} {DA : FieldType → ClassId} {sa : Nat → Nat} {base : Nat} {cl : List vw_C} {h : am_H} {H H1 : Heap} {e : am_E} (w : am_Wd D DA sa base cl h H) (z : H1.size = H.size + 1) (oq : ∀ q : Nat, q < H.size → H1[q]? = H[q]?) (he : am_cell D DA sa base cl (base + h.length) e H1) : am_Wd D DA sa base cl (h ++ [e]) H1 := by
  refine ⟨by rw [z, w.1, List.length_append]; simp; omega, fun i x hx => ?_⟩
  by_cases hia : i < h.length
  · rw [List.getElem?_append_left hia] at hx
    exact (w.2 i x hx).kept (oq _ (by rw [w.1]; omega))
  · rw [List.getElem?_append_right (by omega)] at hx
    have hz : i - h.length < 1 := (List.getElem?_eq_some_iff.mp hx).1
    have hi : i = h.length := by omega
    subst hi
    rw [Nat.sub_self] at hx
    cases hx
    exact he
theorem am_sl_push (h : am_H) (e : am_E) : am_sl (h ++ [e]) = am_sl h + am_sz e := by simp [am_sl]
theorem am_sl_set (h : am_H) (a : Nat) (e e0 : am_E) (h0 : h[a]? = some e0) (hz : am_sz e = am_sz e0) : am_sl (h.set a e) = am_sl h := by
  unfold am_sl
  rw [List.map_set]
  congr 1
  have : (h.map am_sz)[a]? = some (am_sz e) := by rw [List.getElem?_map, h0, hz]; rfl
  apply List.ext_getElem?
  intro i
  by_cases hi : a = i
  · subst hi
    rw [List.getElem?_set_self (List.getElem?_eq_some_iff.mp this).1, this]
  · rw [List.getElem?_set_ne hi]
theorem am_v1_set {h : am_H} {a : Nat} {e : am_E} (h1 : am_v1 h) (he : am_e1 e) : am_v1 (h.set a e) := by
  intro x hx
  rcases List.mem_or_eq_of_mem_set hx with h2 | h2
  · exact h1 x h2
  · rw [h2]; exact he
theorem am_v1_push {h : am_H} {e : am_E} (h1 : am_v1 h) (he : am_e1 e) : am_v1 (h ++ [e]) := by
  intro x hx
  rcases List.mem_append.mp hx with h2 | h2
  · exact h1 x h2
  · rw [List.mem_singleton.mp h2]; exact he
/-- the locals -/
def am_Rl (sa : Nat → Nat) (base : Nat) (ls : List (Option Value)) (lsm : Array Slot) : Prop :=
  lsm.size = ls.length ∧ lv_wf lsm ∧ ∀ (i : Nat) (v : Value), ls[i]? = some (some v) → lsm[i]? = some (.val (am_cv sa base v)) ∧ v.category = 1
def am_lv (sa : Nat → Nat) (base : Nat) (ls : List (Option Value)) : List (Nat × Value) := (List.range ls.length).filterMap (fun i => match ls[i]? with
  | some (some v) => some (i, am_cv sa base v)
  | _ => none)
theorem am_lv_mem {sa : Nat → Nat} {base : Nat} {ls : List (Option Value)} {q : Nat × Value} : q ∈ am_lv sa base ls ↔ ∃ v, ls[q.1]? = some (some v) ∧ q.2 = am_cv sa base v := by
  unfold am_lv
  rw [List.mem_filterMap]
  constructor
  · rintro ⟨i, hi, h⟩
    split at h
    · next v hv =>
      cases h
      exact ⟨v, hv, rfl⟩
    · cases h
  · rintro ⟨v, h1, h2⟩
    refine ⟨q.1, List.mem_range.mpr (List.getElem?_eq_some_iff.mp h1).1, ?_⟩
    rw [h1]
    show some (q.1, am_cv sa base v) = some q
    rw [← h2]
theorem am_Rl.has {sa : Nat → Nat} {base : Nat} {ls : List (Option Value)} {lsm : Array Slot} (h : am_Rl sa base ls lsm) : lv_has lsm ls.length (am_lv sa base ls) := by
  refine ⟨h.1, h.2.1, fun q hq => ?_⟩
  obtain ⟨v, h1, h2⟩ := am_lv_mem.mp hq
  rw [h2]
  exact (h.2.2 _ _ h1).1
theorem am_Rl.store {sa : Nat → Nat} {base : Nat} {ls : List (Option Value)} {lsm lsm' : Array Slot} {k : Nat} {v : Value} (h : am_Rl sa base ls lsm) (hv : v.category = 1) (hk : k < ls.length)
    (h' : lv_has lsm' ls.length ((k, am_cv sa base v) :: (am_lv sa base ls).filter (fun q => !(q.1 == k) && !(q.1 + 1 == k && q.2.category == 2)))) : am_Rl sa base (ls.set k (some v)) lsm' := by
  refine ⟨by rw [h'.1, List.length_set], h'.2.1, fun i w hw => ?_⟩
  by_cases hik : i = k
  · subst hik
    rw [List.getElem?_set_self hk] at hw
    cases hw
    exact ⟨h'.2.2 (i, am_cv sa base v) List.mem_cons_self, hv⟩
  · rw [List.getElem?_set_ne (Ne.symm hik)] at hw
    have hc := (h.2.2 i w hw).2
    refine ⟨h'.2.2 (i, am_cv sa base w) (List.mem_cons_of_mem _ (List.mem_filter.mpr ⟨am_lv_mem.mpr ⟨w, hw, rfl⟩, ?_⟩)), hc⟩
    simp [hik, am_cv_cat, hc]
/-- what the tables say of the numbers: object kinds, methods, pool entries -/
def am_TabC (B : am_B) (nm : Nat → String) (cl : List vw_C) (Ts : List Cond) : Prop := ∀ (c : Nat) (r : vw_C), cl[c]? = some r → r.1 = nm c ∧ (∀ w ∈ u_ws r.1 r.2.1 r.2.2, w ∈ Ts) ∧ Cond.instantiable r.1 r.2.2 ∈ Ts ∧ Cond.initialized r.1 ∈ Ts ∧ (∀ a, a < r.2.2 → ∀ b, b < r.2.2 → a ≠ b → (r.2.1 a).2.1 ≠ (r.2.1 b).2.1) ∧
  ∃ ty : Nat → FieldType, (∀ k, k < r.2.2 → parseFieldDescriptor (r.2.1 k).2.2.1 = some (ty k)) ∧ B.2.2.1 c = some ((List.range r.2.2).map (fun k => (ty k, (r.2.1 k).2.2.2)))
def am_fieldAt (nm : Nat → String) (cl : List vw_C) (Ts NW : List Cond) (o idx t c k : Nat) : Prop := ∃ r : vw_C, cl[c]? = some r ∧ k < r.2.2 ∧ ((r.2.1 k).2.2.2 = true → (r.2.1 k).1 = nm c) ∧ ((t = 1 ∧ ∃ ref, Cond.fieldLink (nm o) idx ref (r.2.1 k).2.1 (r.2.1 k).2.2.1 ∈ Ts ∧ (ref = (r.2.1 k).1 ∨ Cond.sameField ref (r.2.1 k).1 (r.2.1 k).2.1 (r.2.1 k).2.2.1 ∈ Ts)) ∨
  (t = 2 ∧ ∃ host, Cond.fieldLinkNest (nm o) idx (r.2.1 k).1 (r.2.1 k).2.1 (r.2.1 k).2.2.1 host ∈ NW))
def am_methAt (B : am_B) (nm : Nat → String) (my : Nat → MethodName) (Ts : List Cond) (m : Nat) (I : am_I) : Prop :=
  Cond.code (my m) I.2.1 I.2.2.1 I.2.2.2.1 ∈ Ts ∧ (my m).cls = nm I.1 ∧ plainName (my m).cls = true ∧ ((my m).cls ≠ "java/lang/invoke/MethodHandle" ∧ (my m).cls ≠ "java/lang/invoke/VarHandle") ∧ (I.2.2.2.2 = true → (my m).name = "<init>") ∧ I.2.2.1 ≤ 40 ∧ Cond.initialized (my m).cls ∈ Ts
def am_parms (y : MethodName) (n : Nat) : Prop := (parseMethodDescriptor y.desc).map (fun d => d.parameters.length) = some n
def am_gcn : MethodName := ⟨"java/lang/Object", "getClass", "()Ljava/lang/Class;"⟩
/-- the words that are carried beside the others -/
def am_nwk (w : Cond) : Prop := (∃ a i b n d h, w = .fieldLinkNest a i b n d h) ∨ (∃ a i x h, w = .methodLinkNest a i x h) ∨ (∃ C T, w = .castable C T) ∨ (∃ C, w = .arrayOver (.object C)) ∨ ∃ x, w = .declares x
def am_Tab (B : am_B) (nm : Nat → String) (my : Nat → MethodName) (cl : List vw_C) (Ts NW : List Cond) : Prop :=
  am_TabC B nm cl Ts ∧ (∀ m I, B.2.1 m = some I → am_methAt B nm my Ts m I) ∧
  (∀ o idx t c k, B.1 o idx = (t, c, k) → (t = 1 ∨ t = 2) → am_fieldAt nm cl Ts NW o idx t c k) ∧
  (∀ o idx m n, B.1 o idx = (4, m, n) → Cond.methodLink (nm o) idx (my m) ∈ Ts ∧ Cond.instanceMethod (my m) ∈ Ts ∧ Cond.selects (my m).cls (my m) (my m) ∈ Ts ∧ am_parms (my m) n) ∧
  (∀ o idx m n, B.1 o idx = (5, m, n) → Cond.methodLink (nm o) idx (my m) ∈ Ts ∧ Cond.static (my m) ∈ Ts ∧ am_parms (my m) n) ∧
  (∀ o idx m n, B.1 o idx = (6, m, n) → Cond.methodLink (nm o) idx (my m) ∈ Ts ∧ Cond.instanceMethod (my m) ∈ Ts ∧ (my m).name = "<init>" ∧ am_parms (my m) n ∧ ∀ I, B.2.1 m = some I → I.2.2.2.1 = none) ∧
  (∀ o idx m n, B.1 o idx = (7, m, n) → (∃ host, Cond.methodLinkNest (nm o) idx (my m) host ∈ NW) ∧ Cond.instanceMethod (my m) ∈ Ts ∧ (my m).name = "<init>" ∧ am_parms (my m) n ∧ ∀ I, B.2.1 m = some I → I.2.2.2.1 = none) ∧
  (∀ o idx x y, B.1 o idx = (8, x, y) → Cond.methodLink (nm o) idx objectInit ∈ Ts ∧ Cond.instanceMethod objectInit ∈ Ts ∧ Cond.code objectInit ⟨#[0xb1]⟩ 1 none ∈ Ts) ∧
  (∀ o idx c y, B.1 o idx = (9, c, y) → Cond.classLink (nm o) idx (nm c) ∈ Ts) ∧
  (∀ c ts, B.2.2.1 c = some ts → ∃ r : vw_C, cl[c]? = some r) ∧
  True ∧
  (∀ o idx x y, B.1 o idx = (12, x, y) → Cond.constant (nm o) idx (Int32.ofNat x) ∈ Ts) ∧
  (∀ w ∈ Ts, (w.onTables && w.keeps) = true ∨ ∃ ty, w = .arrayClass ty) ∧
  (Cond.arrayClass .int ∈ Ts ∧ Cond.arrayClass .byte ∈ Ts ∧ Cond.arrayClass .boolean ∈ Ts) ∧ Cond.castable (nm 7) "java/lang/Object" ∈ NW ∧ (∀ C ∈ am_refs, Cond.arrayOver (.object C) ∈ NW) ∧ (∀ w ∈ NW, am_nwk w) ∧
  (∀ o idx x y, B.1 o idx = (13, x, y) → Cond.methodLink (nm o) idx arraycopyName ∈ Ts ∧ Cond.native arraycopyName ∈ Ts ∧ Cond.static arraycopyName ∈ Ts ∧ Cond.initialized "java/lang/System" ∈ Ts) ∧
  (∀ o idx x y, B.1 o idx = (14, x, y) → Cond.methodLink (nm o) idx am_gcn ∈ Ts ∧ Cond.declares am_gcn ∈ NW ∧ Cond.selects "[Ljava/lang/Object;" am_gcn am_gcn ∈ Ts ∧ Cond.instanceMethod am_gcn ∈ Ts ∧ Cond.native am_gcn ∈ Ts) ∧
  (∀ o idx x y, B.1 o idx = (15, x, y) → Cond.classLink (nm o) idx "[Ljava/lang/Object;" ∈ Ts) ∧
  (∀ o idx x y, B.1 o idx = (16, x, y) → Cond.methodLink (nm o) idx Lib.Math.max.name ∈ Ts ∧ Cond.static Lib.Math.max.name ∈ Ts ∧ Cond.initialized "java/lang/Math" ∈ Ts ∧ Cond.code Lib.Math.max.name Lib.Math.max.code 2 (some .int) ∈ Ts) ∧
  (∀ o idx x y, B.1 o idx = (17, x, y) → Cond.methodLink (nm o) idx Lib.Math.min.name ∈ Ts ∧ Cond.static Lib.Math.min.name ∈ Ts ∧ Cond.initialized "java/lang/Math" ∈ Ts ∧ Cond.code Lib.Math.min.name Lib.Math.min.code 2 (some .int) ∈ Ts)
end
section
/-- the addresses that the small machine's cells have -/
def am_A (base : Nat) : Nat → Prop := fun q => base ≤ q
/-- what is known of the tables and of the constants at a method's start -/
def am_K (B : am_B) (nm : Nat → String) (cl : List vw_C) (NW : List Cond) (D : va_G) (DA : FieldType → ClassId) (sa : Nat → Nat) (base : Nat) (U : State) : Prop :=
  va_K D cl [] U ∧ (∀ w ∈ NW, va_Nw w U) ∧ (∀ ty, am_tyk ty → ArrOfT U (DA ty) ty ∧ va_RA U (DA ty) ty) ∧
  (∀ j ty vs, B.2.2.2 j = some (ty, vs) → sa j < base ∧ va_T ty (sa j) vs.length (fun i => am_cv sa base (vs.getD i .null)) (am_A base) U U.heap) ∧
  (∀ o idx j y, B.1 o idx = (3, j, y) → ∃ C n d ref, va_Z C n d (.ref (sa j)) (am_A base) U U.heap ∧ (ref = C) ∧ (va_Nw (.fieldLink (nm o) idx ref n d) U ∨ ∃ host, Cond.fieldLinkNest (nm o) idx ref n d host ∈ NW)) ∧ va_Mi "[Ljava/lang/Object;" (sa 3) U
def am_wfF (I : am_I) (F : am_F) : Prop := (∀ v ∈ F.2.2.1, v.category = 1) ∧ (∀ v, some v ∈ F.2.1 → v.category = 1) ∧ am_v1 F.2.2.2 ∧ F.2.1.length = I.2.2.1
section AMS
variable (l : Launch) (B : am_B) (nm : Nat → String) (my : Nat → MethodName) (cl : List vw_C) (Ts NW : List Cond) (D : va_G) (DA : FieldType → ClassId) (sa : Nat → Nat) (base : Nat)
def am_Ctx (I : am_I) (p : Program) (s : State) (m : MethodId) (args : Array Value) (meth : Method) (c : Code) : Prop :=
  p.tables.exec = Jvm.exec ∧ c.code = I.2.1 ∧ c.maxLocals = I.2.2.1 ∧ s.vm.findClass (nm I.1) = some m.cls ∧ (∀ w ∈ Ts, w.before args s = true) ∧ am_K B nm cl NW D DA sa base s ∧ meth.locks = false ∧ meth.sig.returnType = I.2.2.2.1 ∧ (I.2.2.2.2 = true → meth.name = "<init>") ∧ base ≤ s.heap.size
def am_Rel (h0 : am_H) (F : am_F) (s : State) (H : Heap) (locs : List Loc) (lsm : Array Slot) (cells slots : Nat) : Prop :=
  am_Rl sa base F.2.1 lsm ∧ am_Wd D DA sa base cl F.2.2.2 H ∧ va_S (am_A base) s.heap H locs ∧ h0.length + cells = F.2.2.2.length ∧ am_sl h0 + slots = am_sl F.2.2.2
def am_P (I : am_I) (h0 : am_H) (d : Nat) (Q : Option Value → am_H → Prop) (Z : Option Value → am_H → State → Array Value → List Frame → State → Prop) (F : am_F) : Prop :=
  am_wfF I F → ∃ v h', Q v h' ∧ F.2.2.2.length ≤ h'.length ∧ am_sl F.2.2.2 ≤ am_sl h' ∧ am_v1 h' ∧ (∀ w, v = some w → w.category = 1) ∧
    ∀ (p : Program) (e : Env) (R : Room) (s : State) (m : MethodId) (args : Array Value) (below : List Frame) (meth : Method) (c : Code), am_Ctx B nm cl Ts NW D DA sa base I p s m args meth c → d ≤ R.frames → 64 * d ≤ R.locals → h'.length ≤ h0.length + R.cells → am_sl h' ≤ am_sl h0 + R.slots →
      ∀ (H : Heap) (locs : List Loc) (lsm : Array Slot) (cells slots : Nat), am_Rel cl D DA sa base h0 F s H locs lsm cells slots → W p l e R s m args below meth c H locs cells slots (Z v h' s args below) (F0 m F.1 lsm (F.2.2.1.map (am_cv sa base)))
variable {l B nm my cl Ts NW D DA sa base}
theorem am_go {I : am_I} {h0 : am_H} {d : Nat} {Q : Option Value → am_H → Prop} {Z : Option Value → am_H → State → Array Value → List Frame → State → Prop} {F F' : am_F} (hw : am_wfF I F → am_wfF I F') (hl : F.2.2.2.length ≤ F'.2.2.2.length) (hs : am_sl F.2.2.2 ≤ am_sl F'.2.2.2)
    (hstep : am_wfF I F → ∀ (p : Program) (e : Env) (R : Room) (s : State) (m : MethodId) (args : Array Value) (below : List Frame) (meth : Method) (c : Code) (Qm : State → Prop), am_Ctx B nm cl Ts NW D DA sa base I p s m args meth c → d ≤ R.frames → 64 * d ≤ R.locals → F'.2.2.2.length ≤ h0.length + R.cells → am_sl F'.2.2.2 ≤ am_sl h0 + R.slots →
      (∀ (H : Heap) (locs : List Loc) (lsm : Array Slot) (cells slots : Nat), am_Rel cl D DA sa base h0 F' s H locs lsm cells slots → W p l e R s m args below meth c H locs cells slots Qm (F0 m F'.1 lsm (F'.2.2.1.map (am_cv sa base)))) →
      ∀ (H : Heap) (locs : List Loc) (lsm : Array Slot) (cells slots : Nat), am_Rel cl D DA sa base h0 F s H locs lsm cells slots → W p l e R s m args below meth c H locs cells slots Qm (F0 m F.1 lsm (F.2.2.1.map (am_cv sa base))))
    (hP : am_P l B nm cl Ts NW D DA sa base I h0 d Q Z F') : am_P l B nm cl Ts NW D DA sa base I h0 d Q Z F := by
  intro hF
  obtain ⟨v, h', hQ, h1, h2, h3, h4, h5⟩ := hP (hw hF)
  refine ⟨v, h', hQ, Nat.le_trans hl h1, Nat.le_trans hs h2, h3, h4, ?_⟩
  intro p e R s m args below meth c hC hf hlo hc hsl
  exact hstep hF p e R s m args below meth c _ hC hf hlo (Nat.le_trans h1 hc) (Nat.le_trans h2 hsl) (h5 p e R s m args below meth c hC hf hlo hc hsl)
/-- an instruction that moves operands alone -/
theorem am_gost {I : am_I} {h0 : am_H} {d : Nat} {Q : Option Value → am_H → Prop} {Z : Option Value → am_H → State → Array Value → List Frame → State → Prop} {pc pc' : Nat} {ls : List (Option Value)} {st st' : List Value} {h : am_H} (hst : (∀ v ∈ st, v.category = 1) → ∀ v ∈ st', v.category = 1)
    (hstep : ∀ (p : Program) (e : Env) (R : Room) (s : State) (m : MethodId) (args : Array Value) (below : List Frame) (meth : Method) (c : Code) (Qm : State → Prop) (H : Heap) (locs : List Loc) (lsm : Array Slot) (cells slots : Nat), am_Ctx B nm cl Ts NW D DA sa base I p s m args meth c → (∀ v ∈ st, v.category = 1) → am_Rel cl D DA sa base h0 (pc, ls, st, h) s H locs lsm cells slots →
      W p l e R s m args below meth c H locs cells slots Qm (F0 m pc' lsm (st'.map (am_cv sa base))) → W p l e R s m args below meth c H locs cells slots Qm (F0 m pc lsm (st.map (am_cv sa base))))
    (hP : am_P l B nm cl Ts NW D DA sa base I h0 d Q Z (pc', ls, st', h)) : am_P l B nm cl Ts NW D DA sa base I h0 d Q Z (pc, ls, st, h) :=
  am_go (F' := (pc', ls, st', h)) (fun ⟨a, b, c, e⟩ => ⟨hst a, b, c, e⟩) (Nat.le_refl _) (Nat.le_refl _)
    (fun hF p e R s m args below meth c Qm hC _ _ _ _ k H locs lsm cells slots hR => hstep p e R s m args below meth c Qm H locs lsm cells slots hC hF.1 hR (k H locs lsm cells slots hR)) hP
/-- a store into a place -/
theorem am_golv {I : am_I} {h0 : am_H} {d : Nat} {Q : Option Value → am_H → Prop} {Z : Option Value → am_H → State → Array Value → List Frame → State → Prop} {pc pc' k : Nat} {ls : List (Option Value)} {st st' : List Value} {h : am_H} {v : Value} (hst : (∀ v ∈ st, v.category = 1) → (∀ v ∈ st', v.category = 1)) (hv : (∀ v ∈ st, v.category = 1) → v.category = 1) (hk : k < ls.length)
    (hstep : ∀ (p : Program) (e : Env) (R : Room) (s : State) (m : MethodId) (args : Array Value) (below : List Frame) (meth : Method) (c : Code) (Qm : State → Prop) (H : Heap) (locs : List Loc) (lsm : Array Slot) (cells slots : Nat), am_Ctx B nm cl Ts NW D DA sa base I p s m args meth c → am_Rl sa base ls lsm → 
      (∀ lsm' : Array Slot, lv_has lsm' ls.length ((k, am_cv sa base v) :: (am_lv sa base ls).filter (fun q => !(q.1 == k) && !(q.1 + 1 == k && q.2.category == 2))) → W p l e R s m args below meth c H locs cells slots Qm (F0 m pc' lsm' (st'.map (am_cv sa base)))) → W p l e R s m args below meth c H locs cells slots Qm (F0 m pc lsm (st.map (am_cv sa base))))
    (hP : am_P l B nm cl Ts NW D DA sa base I h0 d Q Z (pc', ls.set k (some v), st', h)) : am_P l B nm cl Ts NW D DA sa base I h0 d Q Z (pc, ls, st, h) :=
  am_go (F' := (pc', ls.set k (some v), st', h)) (fun ⟨a, b, c, e⟩ => ⟨hst a, fun w hw => by
      rcases List.mem_or_eq_of_mem_set hw with h2 | h2
      · exact b w h2
      · cases h2; exact hv a, c, by
      show (ls.set k (some v)).length = _
      rw [List.length_set]; exact e⟩) (Nat.le_refl _) (Nat.le_refl _)
    (fun hF p e R s m args below meth c Qm hC _ _ _ _ kk H locs lsm cells slots hR => hstep p e R s m args below meth c Qm H locs lsm cells slots hC hR.1 (fun lsm' h' => kk H locs lsm' cells slots ⟨hR.1.store (hv hF.1) hk h', hR.2⟩)) hP
end AMS
end
section
/-! one instruction: operands, places, numbers, branches -/
section AMI
variable {l : Launch} {B : am_B} {nm : Nat → String} {my : Nat → MethodName} {cl : List vw_C} {Ts NW : List Cond} {D : va_G} {DA : FieldType → ClassId} {sa : Nat → Nat} {base : Nat}
variable {I : am_I} {h0 : am_H} {d : Nat} {Q : Option Value → am_H → Prop} {Z : Option Value → am_H → State → Array Value → List Frame → State → Prop} {pc : Nat} {ls : List (Option Value)} {st : List Value} {h : am_H}
theorem am_i_iconst {n : Int} (hd : decode I.2.1 pc = .ok (.iconst n, 1)) (hP : am_P l B nm cl Ts NW D DA sa base I h0 d Q Z (pc + 1, ls, .int (Int32.ofInt n) :: st, h)) : am_P l B nm cl Ts NW D DA sa base I h0 d Q Z (pc, ls, st, h) :=
  am_gost (fun a => List.forall_mem_cons.mpr ⟨rfl, a⟩) (fun p e R s m args below meth c Qm H locs lsm cells slots hC _ hR k => lv_iconst hC.1 hC.2.1 hd rfl k) hP
theorem am_i_bipush {n : Int} (hd : decode I.2.1 pc = .ok (.bipush n, 2)) (hP : am_P l B nm cl Ts NW D DA sa base I h0 d Q Z (pc + 2, ls, .int (Int8.ofInt n).toInt32 :: st, h)) : am_P l B nm cl Ts NW D DA sa base I h0 d Q Z (pc, ls, st, h) :=
  am_gost (fun a => List.forall_mem_cons.mpr ⟨rfl, a⟩) (fun p e R s m args below meth c Qm H locs lsm cells slots hC _ hR k => lv_bipush hC.1 hC.2.1 hd rfl k) hP
theorem am_i_sipush {n : Int} (hd : decode I.2.1 pc = .ok (.sipush n, 3)) (hP : am_P l B nm cl Ts NW D DA sa base I h0 d Q Z (pc + 3, ls, .int (Int16.ofInt n).toInt32 :: st, h)) : am_P l B nm cl Ts NW D DA sa base I h0 d Q Z (pc, ls, st, h) :=
  am_gost (fun a => List.forall_mem_cons.mpr ⟨rfl, a⟩) (fun p e R s m args below meth c Qm H locs lsm cells slots hC _ hR k => lv_sipush hC.1 hC.2.1 hd rfl k) hP
theorem am_i_null (hd : decode I.2.1 pc = .ok (.aconst_null, 1)) (hP : am_P l B nm cl Ts NW D DA sa base I h0 d Q Z (pc + 1, ls, .null :: st, h)) : am_P l B nm cl Ts NW D DA sa base I h0 d Q Z (pc, ls, st, h) :=
  am_gost (fun a => List.forall_mem_cons.mpr ⟨rfl, a⟩) (fun p e R s m args below meth c Qm H locs lsm cells slots hC _ hR k => lv_null hC.1 hC.2.1 hd k) hP
theorem am_i_iload {k : Nat} {x : Int32} (hd : decode I.2.1 pc = .ok (.iload k, 2)) (hx : ls[k]? = some (some (.int x))) (hP : am_P l B nm cl Ts NW D DA sa base I h0 d Q Z (pc + 2, ls, .int x :: st, h)) : am_P l B nm cl Ts NW D DA sa base I h0 d Q Z (pc, ls, st, h) :=
  am_gost (fun a => List.forall_mem_cons.mpr ⟨rfl, a⟩) (fun p e R s m args below meth c Qm H locs lsm cells slots hC _ hR kk => lv_iload hC.1 hC.2.1 hd (hR.1.2.2 _ _ hx).1 kk) hP
theorem am_i_iload_n {k : Fin 4} {x : Int32} (hd : decode I.2.1 pc = .ok (.iload_n k, 1)) (hx : ls[k.val]? = some (some (.int x))) (hP : am_P l B nm cl Ts NW D DA sa base I h0 d Q Z (pc + 1, ls, .int x :: st, h)) : am_P l B nm cl Ts NW D DA sa base I h0 d Q Z (pc, ls, st, h) :=
  am_gost (fun a => List.forall_mem_cons.mpr ⟨rfl, a⟩) (fun p e R s m args below meth c Qm H locs lsm cells slots hC _ hR kk => lv_iload_n hC.1 hC.2.1 hd rfl (hR.1.2.2 _ _ hx).1 kk) hP
theorem am_isR_cat {v : Value} (h : am_isR v) : v.category = 1 := by
  rcases h with rfl | ⟨a, rfl⟩ | ⟨j, rfl⟩ <;> rfl
theorem am_i_aload {k : Nat} {v : Value} (hd : decode I.2.1 pc = .ok (.aload k, 2)) (hx : ls[k]? = some (some v)) (hv : am_isR v) (hP : am_P l B nm cl Ts NW D DA sa base I h0 d Q Z (pc + 2, ls, v :: st, h)) : am_P l B nm cl Ts NW D DA sa base I h0 d Q Z (pc, ls, st, h) := by
  refine am_gost (fun a => List.forall_mem_cons.mpr ⟨am_isR_cat hv, a⟩) (fun p e R s m args below meth c Qm H locs lsm cells slots hC _ hR kk => ?_) hP
  have h1 := (hR.1.2.2 _ _ hx).1
  rcases hv with rfl | ⟨a, rfl⟩ | ⟨j, rfl⟩
  · exact lv_aloadN hC.1 hC.2.1 hd h1 kk
  · exact lv_aload hC.1 hC.2.1 hd h1 kk
  · exact lv_aload hC.1 hC.2.1 hd h1 kk
theorem am_i_aload_n {k : Fin 4} {v : Value} (hd : decode I.2.1 pc = .ok (.aload_n k, 1)) (hx : ls[k.val]? = some (some v)) (hv : am_isR v) (hP : am_P l B nm cl Ts NW D DA sa base I h0 d Q Z (pc + 1, ls, v :: st, h)) : am_P l B nm cl Ts NW D DA sa base I h0 d Q Z (pc, ls, st, h) := by
  refine am_gost (fun a => List.forall_mem_cons.mpr ⟨am_isR_cat hv, a⟩) (fun p e R s m args below meth c Qm H locs lsm cells slots hC _ hR kk => ?_) hP
  have h1 := (hR.1.2.2 _ _ hx).1
  rcases hv with rfl | ⟨a, rfl⟩ | ⟨j, rfl⟩
  · exact lv_aload_nN hC.1 hC.2.1 hd rfl h1 kk
  · exact lv_aload_n hC.1 hC.2.1 hd rfl h1 kk
  · exact lv_aload_n hC.1 hC.2.1 hd rfl h1 kk
theorem am_tl {P : Value → Prop} {v : Value} {st : List Value} (h : ∀ w ∈ v :: st, P w) : ∀ w ∈ st, P w := fun w hw => h w (List.mem_cons_of_mem _ hw)
theorem am_hd {P : Value → Prop} {v : Value} {st : List Value} (h : ∀ w ∈ v :: st, P w) : P v := h v List.mem_cons_self
theorem am_i_istore {k : Nat} {x : Int32} {rest : List Value} (hd : decode I.2.1 pc = .ok (.istore k, 2)) (hk : k < ls.length) (hP : am_P l B nm cl Ts NW D DA sa base I h0 d Q Z (pc + 2, ls.set k (some (.int x)), rest, h)) : am_P l B nm cl Ts NW D DA sa base I h0 d Q Z (pc, ls, .int x :: rest, h) :=
  am_golv (v := .int x) am_tl (fun _ => rfl) hk (fun p e R s m args below meth c Qm H locs lsm cells slots hC hR kk => lv_istore hC.1 hC.2.1 hd hR.has hk rfl kk) hP
theorem am_i_istore_n {k : Fin 4} {x : Int32} {rest : List Value} (hd : decode I.2.1 pc = .ok (.istore_n k, 1)) (hk : k.val < ls.length) (hP : am_P l B nm cl Ts NW D DA sa base I h0 d Q Z (pc + 1, ls.set k.val (some (.int x)), rest, h)) : am_P l B nm cl Ts NW D DA sa base I h0 d Q Z (pc, ls, .int x :: rest, h) :=
  am_golv (v := .int x) am_tl (fun _ => rfl) hk (fun p e R s m args below meth c Qm H locs lsm cells slots hC hR kk => lv_istore_n hC.1 hC.2.1 hd rfl hR.has hk rfl kk) hP
theorem am_i_astore {k : Nat} {v : Value} {rest : List Value} (hd : decode I.2.1 pc = .ok (.astore k, 2)) (hv : am_isR v) (hk : k < ls.length) (hP : am_P l B nm cl Ts NW D DA sa base I h0 d Q Z (pc + 2, ls.set k (some v), rest, h)) : am_P l B nm cl Ts NW D DA sa base I h0 d Q Z (pc, ls, v :: rest, h) := by
  refine am_golv (v := v) am_tl (fun _ => am_isR_cat hv) hk (fun p e R s m args below meth c Qm H locs lsm cells slots hC hR kk => ?_) hP
  rcases hv with rfl | ⟨a, rfl⟩ | ⟨j, rfl⟩
  · exact lv_astoreN hC.1 hC.2.1 hd hR.has hk rfl kk
  · exact lv_astore hC.1 hC.2.1 hd hR.has hk rfl kk
  · exact lv_astore hC.1 hC.2.1 hd hR.has hk rfl kk
theorem am_i_astore_n {k : Fin 4} {v : Value} {rest : List Value} (hd : decode I.2.1 pc = .ok (.astore_n k, 1)) (hv : am_isR v) (hk : k.val < ls.length) (hP : am_P l B nm cl Ts NW D DA sa base I h0 d Q Z (pc + 1, ls.set k.val (some v), rest, h)) : am_P l B nm cl Ts NW D DA sa base I h0 d Q Z (pc, ls, v :: rest, h) := by
  refine am_golv (v := v) am_tl (fun _ => am_isR_cat hv) hk (fun p e R s m args below meth c Qm H locs lsm cells slots hC hR kk => ?_) hP
  rcases hv with rfl | ⟨a, rfl⟩ | ⟨j, rfl⟩
  · exact lv_astore_nN hC.1 hC.2.1 hd rfl hR.has hk rfl kk
  · exact lv_astore_n hC.1 hC.2.1 hd rfl hR.has hk rfl kk
  · exact lv_astore_n hC.1 hC.2.1 hd rfl hR.has hk rfl kk
theorem am_i_iinc {k : Nat} {n : Int} {x : Int32} (hd : decode I.2.1 pc = .ok (.iinc k n, 3)) (hx : ls[k]? = some (some (.int x))) (hP : am_P l B nm cl Ts NW D DA sa base I h0 d Q Z (pc + 3, ls.set k (some (.int (x + Int32.ofInt n))), st, h)) : am_P l B nm cl Ts NW D DA sa base I h0 d Q Z (pc, ls, st, h) := by
  have hk : k < ls.length := (List.getElem?_eq_some_iff.mp hx).1
  refine am_golv (v := .int (x + Int32.ofInt n)) id (fun _ => rfl) hk (fun p e R s m args below meth c Qm H locs lsm cells slots hC hR kk => ?_) hP
  obtain ⟨q, hq⟩ := List.getElem?_of_mem (am_lv_mem.mpr ⟨.int x, hx, rfl⟩ : (k, am_cv sa base (.int x)) ∈ am_lv sa base ls)
  exact lv_iinc (k := q) hC.1 hC.2.1 hd hR.has hq rfl hk rfl kk
end AMI
end
section
/-! one instruction: numbers, operands, branches -/
section AMJ
variable {l : Launch} {B : am_B} {nm : Nat → String} {my : Nat → MethodName} {cl : List vw_C} {Ts NW : List Cond} {D : va_G} {DA : FieldType → ClassId} {sa : Nat → Nat} {base : Nat}
variable {I : am_I} {h0 : am_H} {d : Nat} {Q : Option Value → am_H → Prop} {Z : Option Value → am_H → State → Array Value → List Frame → State → Prop} {pc : Nat} {ls : List (Option Value)} {st rest : List Value} {h : am_H}
theorem am_i_iadd {x y : Int32} (hd : decode I.2.1 pc = .ok (.iadd, 1)) (hP : am_P l B nm cl Ts NW D DA sa base I h0 d Q Z (pc + 1, ls, .int (x + y) :: rest, h)) : am_P l B nm cl Ts NW D DA sa base I h0 d Q Z (pc, ls, .int y :: .int x :: rest, h) :=
  am_gost (fun a => List.forall_mem_cons.mpr ⟨rfl, am_tl (am_tl a)⟩) (fun p e R s m args below meth c Qm H locs lsm cells slots hC hst hR k => lv_iadd hC.1 hC.2.1 hd k) hP
theorem am_i_isub {x y : Int32} (hd : decode I.2.1 pc = .ok (.isub, 1)) (hP : am_P l B nm cl Ts NW D DA sa base I h0 d Q Z (pc + 1, ls, .int (x - y) :: rest, h)) : am_P l B nm cl Ts NW D DA sa base I h0 d Q Z (pc, ls, .int y :: .int x :: rest, h) :=
  am_gost (fun a => List.forall_mem_cons.mpr ⟨rfl, am_tl (am_tl a)⟩) (fun p e R s m args below meth c Qm H locs lsm cells slots hC hst hR k => lv_isub hC.1 hC.2.1 hd k) hP
theorem am_i_imul {x y : Int32} (hd : decode I.2.1 pc = .ok (.imul, 1)) (hP : am_P l B nm cl Ts NW D DA sa base I h0 d Q Z (pc + 1, ls, .int (x * y) :: rest, h)) : am_P l B nm cl Ts NW D DA sa base I h0 d Q Z (pc, ls, .int y :: .int x :: rest, h) :=
  am_gost (fun a => List.forall_mem_cons.mpr ⟨rfl, am_tl (am_tl a)⟩) (fun p e R s m args below meth c Qm H locs lsm cells slots hC hst hR k => lv_imul hC.1 hC.2.1 hd k) hP
theorem am_i_iand {x y : Int32} (hd : decode I.2.1 pc = .ok (.iand, 1)) (hP : am_P l B nm cl Ts NW D DA sa base I h0 d Q Z (pc + 1, ls, .int (x &&& y) :: rest, h)) : am_P l B nm cl Ts NW D DA sa base I h0 d Q Z (pc, ls, .int y :: .int x :: rest, h) :=
  am_gost (fun a => List.forall_mem_cons.mpr ⟨rfl, am_tl (am_tl a)⟩) (fun p e R s m args below meth c Qm H locs lsm cells slots hC hst hR k => lv_iand hC.1 hC.2.1 hd k) hP
theorem am_i_ishr {x y : Int32} (hd : decode I.2.1 pc = .ok (.ishr, 1)) (hP : am_P l B nm cl Ts NW D DA sa base I h0 d Q Z (pc + 1, ls, .int (x >>> (y &&& 31)) :: rest, h)) : am_P l B nm cl Ts NW D DA sa base I h0 d Q Z (pc, ls, .int y :: .int x :: rest, h) :=
  am_gost (fun a => List.forall_mem_cons.mpr ⟨rfl, am_tl (am_tl a)⟩) (fun p e R s m args below meth c Qm H locs lsm cells slots hC hst hR k => lv_ishr hC.1 hC.2.1 hd k) hP
theorem am_i_iushr {x y : Int32} (hd : decode I.2.1 pc = .ok (.iushr, 1)) (hP : am_P l B nm cl Ts NW D DA sa base I h0 d Q Z (pc + 1, ls, .int ((x.toUInt32 >>> (y.toUInt32 &&& Int32.toUInt32 31)).toInt32) :: rest, h)) : am_P l B nm cl Ts NW D DA sa base I h0 d Q Z (pc, ls, .int y :: .int x :: rest, h) :=
  am_gost (fun a => List.forall_mem_cons.mpr ⟨rfl, am_tl (am_tl a)⟩) (fun p e R s m args below meth c Qm H locs lsm cells slots hC hst hR k => lv_iushr hC.1 hC.2.1 hd rfl k) hP
theorem am_i_idiv {x y : Int32} (hne : ¬ y = 0) (hd : decode I.2.1 pc = .ok (.idiv, 1)) (hP : am_P l B nm cl Ts NW D DA sa base I h0 d Q Z (pc + 1, ls, .int (x / y) :: rest, h)) : am_P l B nm cl Ts NW D DA sa base I h0 d Q Z (pc, ls, .int y :: .int x :: rest, h) :=
  am_gost (fun a => List.forall_mem_cons.mpr ⟨rfl, am_tl (am_tl a)⟩) (fun p e R s m args below meth c Qm H locs lsm cells slots hC hst hR k => lv_idiv hC.1 hC.2.1 hd hne k) hP
theorem am_i_i2b {x : Int32} (hd : decode I.2.1 pc = .ok (.i2b, 1)) (hP : am_P l B nm cl Ts NW D DA sa base I h0 d Q Z (pc + 1, ls, .int x.toInt8.toInt32 :: rest, h)) : am_P l B nm cl Ts NW D DA sa base I h0 d Q Z (pc, ls, .int x :: rest, h) :=
  am_gost (fun a => List.forall_mem_cons.mpr ⟨rfl, am_tl a⟩) (fun p e R s m args below meth c Qm H locs lsm cells slots hC hst hR k => lv_i2b hC.1 hC.2.1 hd rfl k) hP
theorem am_cc {st : List Value} {v : Value} (hst : ∀ w ∈ v :: st, w.category = 1) : (am_cv sa base v).category = 1 := by rw [am_cv_cat]; exact am_hd hst
theorem am_i_dup {v : Value} (hd : decode I.2.1 pc = .ok (.dup, 1)) (hP : am_P l B nm cl Ts NW D DA sa base I h0 d Q Z (pc + 1, ls, v :: v :: rest, h)) : am_P l B nm cl Ts NW D DA sa base I h0 d Q Z (pc, ls, v :: rest, h) :=
  am_gost (fun a => List.forall_mem_cons.mpr ⟨am_hd a, a⟩) (fun p e R s m args below meth c Qm H locs lsm cells slots hC hst hR k => lv_dup hC.1 hC.2.1 hd (am_cc hst) k) hP
theorem am_i_dup_x1 {v w : Value} (hd : decode I.2.1 pc = .ok (.dup_x1, 1)) (hP : am_P l B nm cl Ts NW D DA sa base I h0 d Q Z (pc + 1, ls, v :: w :: v :: rest, h)) : am_P l B nm cl Ts NW D DA sa base I h0 d Q Z (pc, ls, v :: w :: rest, h) :=
  am_gost (fun a => List.forall_mem_cons.mpr ⟨am_hd a, List.forall_mem_cons.mpr ⟨am_hd (am_tl a), List.forall_mem_cons.mpr ⟨am_hd a, am_tl (am_tl a)⟩⟩⟩) (fun p e R s m args below meth c Qm H locs lsm cells slots hC hst hR k => lv_dup_x1 hC.1 hC.2.1 hd (am_cc hst) (am_cc (am_tl hst)) k) hP
theorem am_i_dup2 {v w : Value} (hd : decode I.2.1 pc = .ok (.dup2, 1)) (hP : am_P l B nm cl Ts NW D DA sa base I h0 d Q Z (pc + 1, ls, v :: w :: v :: w :: rest, h)) : am_P l B nm cl Ts NW D DA sa base I h0 d Q Z (pc, ls, v :: w :: rest, h) :=
  am_gost (fun a => List.forall_mem_cons.mpr ⟨am_hd a, List.forall_mem_cons.mpr ⟨am_hd (am_tl a), a⟩⟩) (fun p e R s m args below meth c Qm H locs lsm cells slots hC hst hR k => lv_dup2_11 hC.1 hC.2.1 hd (am_cc hst) (am_cc (am_tl hst)) k) hP
theorem am_i_pop {v : Value} (hd : decode I.2.1 pc = .ok (.pop, 1)) (hP : am_P l B nm cl Ts NW D DA sa base I h0 d Q Z (pc + 1, ls, rest, h)) : am_P l B nm cl Ts NW D DA sa base I h0 d Q Z (pc, ls, v :: rest, h) :=
  am_gost am_tl (fun p e R s m args below meth c Qm H locs lsm cells slots hC hst hR k => lv_pop hC.1 hC.2.1 hd (am_cc hst) k) hP
theorem am_i_goto {off : Int} {tgt : Nat} (hd : decode I.2.1 pc = .ok (.goto off, 3)) (ht : (pc : Int) + off = (tgt : Int)) (hP : am_P l B nm cl Ts NW D DA sa base I h0 d Q Z (tgt, ls, st, h)) : am_P l B nm cl Ts NW D DA sa base I h0 d Q Z (pc, ls, st, h) :=
  am_gost id (fun p e R s m args below meth c Qm H locs lsm cells slots hC hst hR k => lv_goto hC.1 hC.2.1 hd ht k) hP
theorem am_i_c1eq {x : Int32} {off : Int} {tgt : Nat} (hd : decode I.2.1 pc = .ok (.ifCond .eq off, 3)) (ht : (pc : Int) + off = (tgt : Int)) (h1 : x = 0 → am_P l B nm cl Ts NW D DA sa base I h0 d Q Z (tgt, ls, rest, h)) (h2 : ¬ (x = 0) → am_P l B nm cl Ts NW D DA sa base I h0 d Q Z (pc + 3, ls, rest, h)) : am_P l B nm cl Ts NW D DA sa base I h0 d Q Z (pc, ls, .int x :: rest, h) := by
  by_cases hc : x = 0
  · exact am_gost am_tl (fun p e R s m args below meth c Qm H locs lsm cells slots hC hst hR k => lv_if_eq hC.1 hC.2.1 hd ht (fun _ => k) (fun hn => absurd hc hn)) (h1 hc)
  · exact am_gost am_tl (fun p e R s m args below meth c Qm H locs lsm cells slots hC hst hR k => lv_if_eq hC.1 hC.2.1 hd ht (fun hn => absurd hn hc) (fun _ => k)) (h2 hc)
theorem am_i_c2eq {x y : Int32} {off : Int} {tgt : Nat} (hd : decode I.2.1 pc = .ok (.if_icmp .eq off, 3)) (ht : (pc : Int) + off = (tgt : Int)) (h1 : x = y → am_P l B nm cl Ts NW D DA sa base I h0 d Q Z (tgt, ls, rest, h)) (h2 : ¬ (x = y) → am_P l B nm cl Ts NW D DA sa base I h0 d Q Z (pc + 3, ls, rest, h)) : am_P l B nm cl Ts NW D DA sa base I h0 d Q Z (pc, ls, .int y :: .int x :: rest, h) := by
  by_cases hc : x = y
  · exact am_gost (fun a => am_tl (am_tl a)) (fun p e R s m args below meth c Qm H locs lsm cells slots hC hst hR k => lv_icmp_eq hC.1 hC.2.1 hd ht (fun _ => k) (fun hn => absurd hc hn)) (h1 hc)
  · exact am_gost (fun a => am_tl (am_tl a)) (fun p e R s m args below meth c Qm H locs lsm cells slots hC hst hR k => lv_icmp_eq hC.1 hC.2.1 hd ht (fun hn => absurd hn hc) (fun _ => k)) (h2 hc)
theorem am_i_c1ne {x : Int32} {off : Int} {tgt : Nat} (hd : decode I.2.1 pc = .ok (.ifCond .ne off, 3)) (ht : (pc : Int) + off = (tgt : Int)) (h1 : ¬ x = 0 → am_P l B nm cl Ts NW D DA sa base I h0 d Q Z (tgt, ls, rest, h)) (h2 : ¬ (¬ x = 0) → am_P l B nm cl Ts NW D DA sa base I h0 d Q Z (pc + 3, ls, rest, h)) : am_P l B nm cl Ts NW D DA sa base I h0 d Q Z (pc, ls, .int x :: rest, h) := by
  by_cases hc : ¬ x = 0
  · exact am_gost am_tl (fun p e R s m args below meth c Qm H locs lsm cells slots hC hst hR k => lv_if_ne hC.1 hC.2.1 hd ht (fun _ => k) (fun hn => absurd hn hc)) (h1 hc)
  · exact am_gost am_tl (fun p e R s m args below meth c Qm H locs lsm cells slots hC hst hR k => lv_if_ne hC.1 hC.2.1 hd ht (fun hn => absurd hn hc) (fun _ => k)) (h2 hc)
theorem am_i_c2ne {x y : Int32} {off : Int} {tgt : Nat} (hd : decode I.2.1 pc = .ok (.if_icmp .ne off, 3)) (ht : (pc : Int) + off = (tgt : Int)) (h1 : ¬ x = y → am_P l B nm cl Ts NW D DA sa base I h0 d Q Z (tgt, ls, rest, h)) (h2 : ¬ (¬ x = y) → am_P l B nm cl Ts NW D DA sa base I h0 d Q Z (pc + 3, ls, rest, h)) : am_P l B nm cl Ts NW D DA sa base I h0 d Q Z (pc, ls, .int y :: .int x :: rest, h) := by
  by_cases hc : ¬ x = y
  · exact am_gost (fun a => am_tl (am_tl a)) (fun p e R s m args below meth c Qm H locs lsm cells slots hC hst hR k => lv_icmp_ne hC.1 hC.2.1 hd ht (fun _ => k) (fun hn => absurd hn hc)) (h1 hc)
  · exact am_gost (fun a => am_tl (am_tl a)) (fun p e R s m args below meth c Qm H locs lsm cells slots hC hst hR k => lv_icmp_ne hC.1 hC.2.1 hd ht (fun hn => absurd hn hc) (fun _ => k)) (h2 hc)
theorem am_i_c1lt {x : Int32} {off : Int} {tgt : Nat} (hd : decode I.2.1 pc = .ok (.ifCond .lt off, 3)) (ht : (pc : Int) + off = (tgt : Int)) (h1 : x < 0 → am_P l B nm cl Ts NW D DA sa base I h0 d Q Z (tgt, ls, rest, h)) (h2 : ¬ (x < 0) → am_P l B nm cl Ts NW D DA sa base I h0 d Q Z (pc + 3, ls, rest, h)) : am_P l B nm cl Ts NW D DA sa base I h0 d Q Z (pc, ls, .int x :: rest, h) := by
  by_cases hc : x < 0
  · exact am_gost am_tl (fun p e R s m args below meth c Qm H locs lsm cells slots hC hst hR k => lv_if_lt hC.1 hC.2.1 hd ht (fun _ => k) (fun hn => absurd hc hn)) (h1 hc)
  · exact am_gost am_tl (fun p e R s m args below meth c Qm H locs lsm cells slots hC hst hR k => lv_if_lt hC.1 hC.2.1 hd ht (fun hn => absurd hn hc) (fun _ => k)) (h2 hc)
theorem am_i_c2lt {x y : Int32} {off : Int} {tgt : Nat} (hd : decode I.2.1 pc = .ok (.if_icmp .lt off, 3)) (ht : (pc : Int) + off = (tgt : Int)) (h1 : x < y → am_P l B nm cl Ts NW D DA sa base I h0 d Q Z (tgt, ls, rest, h)) (h2 : ¬ (x < y) → am_P l B nm cl Ts NW D DA sa base I h0 d Q Z (pc + 3, ls, rest, h)) : am_P l B nm cl Ts NW D DA sa base I h0 d Q Z (pc, ls, .int y :: .int x :: rest, h) := by
  by_cases hc : x < y
  · exact am_gost (fun a => am_tl (am_tl a)) (fun p e R s m args below meth c Qm H locs lsm cells slots hC hst hR k => lv_icmp_lt hC.1 hC.2.1 hd ht (fun _ => k) (fun hn => absurd hc hn)) (h1 hc)
  · exact am_gost (fun a => am_tl (am_tl a)) (fun p e R s m args below meth c Qm H locs lsm cells slots hC hst hR k => lv_icmp_lt hC.1 hC.2.1 hd ht (fun hn => absurd hn hc) (fun _ => k)) (h2 hc)
theorem am_i_c1ge {x : Int32} {off : Int} {tgt : Nat} (hd : decode I.2.1 pc = .ok (.ifCond .ge off, 3)) (ht : (pc : Int) + off = (tgt : Int)) (h1 : 0 ≤ x → am_P l B nm cl Ts NW D DA sa base I h0 d Q Z (tgt, ls, rest, h)) (h2 : ¬ (0 ≤ x) → am_P l B nm cl Ts NW D DA sa base I h0 d Q Z (pc + 3, ls, rest, h)) : am_P l B nm cl Ts NW D DA sa base I h0 d Q Z (pc, ls, .int x :: rest, h) := by
  by_cases hc : 0 ≤ x
  · exact am_gost am_tl (fun p e R s m args below meth c Qm H locs lsm cells slots hC hst hR k => lv_if_ge hC.1 hC.2.1 hd ht (fun _ => k) (fun hn => absurd hc hn)) (h1 hc)
  · exact am_gost am_tl (fun p e R s m args below meth c Qm H locs lsm cells slots hC hst hR k => lv_if_ge hC.1 hC.2.1 hd ht (fun hn => absurd hn hc) (fun _ => k)) (h2 hc)
theorem am_i_c2ge {x y : Int32} {off : Int} {tgt : Nat} (hd : decode I.2.1 pc = .ok (.if_icmp .ge off, 3)) (ht : (pc : Int) + off = (tgt : Int)) (h1 : y ≤ x → am_P l B nm cl Ts NW D DA sa base I h0 d Q Z (tgt, ls, rest, h)) (h2 : ¬ (y ≤ x) → am_P l B nm cl Ts NW D DA sa base I h0 d Q Z (pc + 3, ls, rest, h)) : am_P l B nm cl Ts NW D DA sa base I h0 d Q Z (pc, ls, .int y :: .int x :: rest, h) := by
  by_cases hc : y ≤ x
  · exact am_gost (fun a => am_tl (am_tl a)) (fun p e R s m args below meth c Qm H locs lsm cells slots hC hst hR k => lv_icmp_ge hC.1 hC.2.1 hd ht (fun _ => k) (fun hn => absurd hc hn)) (h1 hc)
  · exact am_gost (fun a => am_tl (am_tl a)) (fun p e R s m args below meth c Qm H locs lsm cells slots hC hst hR k => lv_icmp_ge hC.1 hC.2.1 hd ht (fun hn => absurd hn hc) (fun _ => k)) (h2 hc)
theorem am_i_c1gt {x : Int32} {off : Int} {tgt : Nat} (hd : decode I.2.1 pc = .ok (.ifCond .gt off, 3)) (ht : (pc : Int) + off = (tgt : Int)) (h1 : 0 < x → am_P l B nm cl Ts NW D DA sa base I h0 d Q Z (tgt, ls, rest, h)) (h2 : ¬ (0 < x) → am_P l B nm cl Ts NW D DA sa base I h0 d Q Z (pc + 3, ls, rest, h)) : am_P l B nm cl Ts NW D DA sa base I h0 d Q Z (pc, ls, .int x :: rest, h) := by
  by_cases hc : 0 < x
  · exact am_gost am_tl (fun p e R s m args below meth c Qm H locs lsm cells slots hC hst hR k => lv_if_gt hC.1 hC.2.1 hd ht (fun _ => k) (fun hn => absurd hc hn)) (h1 hc)
  · exact am_gost am_tl (fun p e R s m args below meth c Qm H locs lsm cells slots hC hst hR k => lv_if_gt hC.1 hC.2.1 hd ht (fun hn => absurd hn hc) (fun _ => k)) (h2 hc)
theorem am_i_c2gt {x y : Int32} {off : Int} {tgt : Nat} (hd : decode I.2.1 pc = .ok (.if_icmp .gt off, 3)) (ht : (pc : Int) + off = (tgt : Int)) (h1 : y < x → am_P l B nm cl Ts NW D DA sa base I h0 d Q Z (tgt, ls, rest, h)) (h2 : ¬ (y < x) → am_P l B nm cl Ts NW D DA sa base I h0 d Q Z (pc + 3, ls, rest, h)) : am_P l B nm cl Ts NW D DA sa base I h0 d Q Z (pc, ls, .int y :: .int x :: rest, h) := by
  by_cases hc : y < x
  · exact am_gost (fun a => am_tl (am_tl a)) (fun p e R s m args below meth c Qm H locs lsm cells slots hC hst hR k => lv_icmp_gt hC.1 hC.2.1 hd ht (fun _ => k) (fun hn => absurd hc hn)) (h1 hc)
  · exact am_gost (fun a => am_tl (am_tl a)) (fun p e R s m args below meth c Qm H locs lsm cells slots hC hst hR k => lv_icmp_gt hC.1 hC.2.1 hd ht (fun hn => absurd hn hc) (fun _ => k)) (h2 hc)
theorem am_i_c1le {x : Int32} {off : Int} {tgt : Nat} (hd : decode I.2.1 pc = .ok (.ifCond .le off, 3)) (ht : (pc : Int) + off = (tgt : Int)) (h1 : x ≤ 0 → am_P l B nm cl Ts NW D DA sa base I h0 d Q Z (tgt, ls, rest, h)) (h2 : ¬ (x ≤ 0) → am_P l B nm cl Ts NW D DA sa base I h0 d Q Z (pc + 3, ls, rest, h)) : am_P l B nm cl Ts NW D DA sa base I h0 d Q Z (pc, ls, .int x :: rest, h) := by
  by_cases hc : x ≤ 0
  · exact am_gost am_tl (fun p e R s m args below meth c Qm H locs lsm cells slots hC hst hR k => lv_if_le hC.1 hC.2.1 hd ht (fun _ => k) (fun hn => absurd hc hn)) (h1 hc)
  · exact am_gost am_tl (fun p e R s m args below meth c Qm H locs lsm cells slots hC hst hR k => lv_if_le hC.1 hC.2.1 hd ht (fun hn => absurd hn hc) (fun _ => k)) (h2 hc)
theorem am_i_c2le {x y : Int32} {off : Int} {tgt : Nat} (hd : decode I.2.1 pc = .ok (.if_icmp .le off, 3)) (ht : (pc : Int) + off = (tgt : Int)) (h1 : x ≤ y → am_P l B nm cl Ts NW D DA sa base I h0 d Q Z (tgt, ls, rest, h)) (h2 : ¬ (x ≤ y) → am_P l B nm cl Ts NW D DA sa base I h0 d Q Z (pc + 3, ls, rest, h)) : am_P l B nm cl Ts NW D DA sa base I h0 d Q Z (pc, ls, .int y :: .int x :: rest, h) := by
  by_cases hc : x ≤ y
  · exact am_gost (fun a => am_tl (am_tl a)) (fun p e R s m args below meth c Qm H locs lsm cells slots hC hst hR k => lv_icmp_le hC.1 hC.2.1 hd ht (fun _ => k) (fun hn => absurd hc hn)) (h1 hc)
  · exact am_gost (fun a => am_tl (am_tl a)) (fun p e R s m args below meth c Qm H locs lsm cells slots hC hst hR k => lv_icmp_le hC.1 hC.2.1 hd ht (fun hn => absurd hn hc) (fun _ => k)) (h2 hc)
theorem am_cvR {v : Value} (hv : am_isR v) : ∃ r : Option Nat, am_cv sa base v = va_rf r ∧ (v = .null ↔ r = none) := by
  rcases hv with rfl | ⟨a, rfl⟩ | ⟨j, rfl⟩
  · exact ⟨none, rfl, by simp⟩
  · exact ⟨some (base + a), rfl, by simp⟩
  · exact ⟨some (sa j), rfl, by simp⟩
theorem am_i_ifnull {v : Value} {off : Int} {tgt : Nat} (hd : decode I.2.1 pc = .ok (.ifnull off, 3)) (hv : am_isR v) (ht : (pc : Int) + off = (tgt : Int)) (h1 : v = .null → am_P l B nm cl Ts NW D DA sa base I h0 d Q Z (tgt, ls, rest, h)) (h2 : ¬ v = .null → am_P l B nm cl Ts NW D DA sa base I h0 d Q Z (pc + 3, ls, rest, h)) : am_P l B nm cl Ts NW D DA sa base I h0 d Q Z (pc, ls, v :: rest, h) := by
  rcases hv with rfl | ⟨a, rfl⟩ | ⟨j, rfl⟩
  · exact am_gost am_tl (fun p e R s m args below meth c Qm H locs lsm cells slots hC hst hR k => lv_ifnullN hC.1 hC.2.1 hd ht k) (h1 rfl)
  · exact am_gost am_tl (fun p e R s m args below meth c Qm H locs lsm cells slots hC hst hR k => lv_ifnull hC.1 hC.2.1 hd k) (h2 (by simp))
  · exact am_gost am_tl (fun p e R s m args below meth c Qm H locs lsm cells slots hC hst hR k => lv_ifnull hC.1 hC.2.1 hd k) (h2 (by simp))
theorem am_i_ifnonnull {v : Value} {off : Int} {tgt : Nat} (hd : decode I.2.1 pc = .ok (.ifnonnull off, 3)) (hv : am_isR v) (ht : (pc : Int) + off = (tgt : Int)) (h1 : ¬ v = .null → am_P l B nm cl Ts NW D DA sa base I h0 d Q Z (tgt, ls, rest, h)) (h2 : ¬ ¬ v = .null → am_P l B nm cl Ts NW D DA sa base I h0 d Q Z (pc + 3, ls, rest, h)) : am_P l B nm cl Ts NW D DA sa base I h0 d Q Z (pc, ls, v :: rest, h) := by
  rcases hv with rfl | ⟨a, rfl⟩ | ⟨j, rfl⟩
  · exact am_gost am_tl (fun p e R s m args below meth c Qm H locs lsm cells slots hC hst hR k => lv_ifnonnullN hC.1 hC.2.1 hd k) (h2 (by simp))
  · exact am_gost am_tl (fun p e R s m args below meth c Qm H locs lsm cells slots hC hst hR k => lv_ifnonnull hC.1 hC.2.1 hd ht k) (h1 (by simp))
  · exact am_gost am_tl (fun p e R s m args below meth c Qm H locs lsm cells slots hC hst hR k => lv_ifnonnull hC.1 hC.2.1 hd ht k) (h1 (by simp))
/-- two references differ as the numbers of their cells do -/
theorem am_cvEq {v w : Value} (hK : ∀ j ty vs, B.2.2.2 j = some (ty, vs) → sa j < base) (hc : am_cmpR B v w) : ∃ rv rw_ : Option Nat, am_cv sa base v = va_rf rv ∧ am_cv sa base w = va_rf rw_ ∧ (v = w ↔ rv = rw_) := by
  obtain ⟨hv, hw, hc⟩ := hc
  rcases hc with rfl | ⟨hc, hk⟩
  · obtain ⟨r, e1, -⟩ := am_cvR (sa := sa) (base := base) hv
    exact ⟨r, r, e1, e1, by simp⟩
  have hK2 : ∀ j, v = .retAddr j ∨ w = .retAddr j → sa j < base := fun j hj => by
    obtain ⟨x, hx⟩ := Option.isSome_iff_exists.mp (hk j hj)
    exact hK j x.1 x.2 hx
  rcases hv with rfl | ⟨a, rfl⟩ | ⟨i, rfl⟩ <;> rcases hw with rfl | ⟨b, rfl⟩ | ⟨j, rfl⟩
  · exact ⟨none, none, rfl, rfl, by simp⟩
  · exact ⟨none, some (base + b), rfl, rfl, by simp⟩
  · exact ⟨none, some (sa j), rfl, rfl, by simp⟩
  · exact ⟨some (base + a), none, rfl, rfl, by simp⟩
  · exact ⟨some (base + a), some (base + b), rfl, rfl, by simp⟩
  · refine ⟨some (base + a), some (sa j), rfl, rfl, ?_⟩
    have := hK2 j (Or.inr rfl)
    constructor
    · intro q; cases q
    · intro q
      have := Option.some.inj q
      omega
  · exact ⟨some (sa i), none, rfl, rfl, by simp⟩
  · refine ⟨some (sa i), some (base + b), rfl, rfl, ?_⟩
    have := hK2 i (Or.inl rfl)
    constructor
    · intro q; cases q
    · intro q
      have := Option.some.inj q
      omega
  · exact absurd ⟨i, j, rfl, rfl⟩ hc
theorem am_i_acmpeq {v w : Value} {off : Int} {tgt : Nat} (hd : decode I.2.1 pc = .ok (.if_acmp .eq off, 3)) (hv : am_cmpR B v w) (ht : (pc : Int) + off = (tgt : Int)) (h1 : v = w → am_P l B nm cl Ts NW D DA sa base I h0 d Q Z (tgt, ls, rest, h)) (h2 : ¬ v = w → am_P l B nm cl Ts NW D DA sa base I h0 d Q Z (pc + 3, ls, rest, h)) : am_P l B nm cl Ts NW D DA sa base I h0 d Q Z (pc, ls, w :: v :: rest, h) := by
  by_cases hc : v = w
  · refine am_gost (fun a => am_tl (am_tl a)) (fun p e R s m args below meth c Qm H locs lsm cells slots hC hst hR k => ?_) (h1 hc)
    obtain ⟨rv, rw_, e1, e2, e3⟩ := am_cvEq (sa := sa) (base := base) (fun j ty vs hj => (hC.2.2.2.2.2.1.2.2.2.1 j ty vs hj).1) hv
    show W p l e R s m args below meth c H locs cells slots Qm (F0 m pc lsm (am_cv sa base w :: am_cv sa base v :: rest.map (am_cv sa base)))
    rw [e1, e2]
    exact lv_acmp_eq hC.1 hC.2.1 hd ht (fun _ => k) (fun hn => absurd (e3.mp hc) hn)
  · refine am_gost (fun a => am_tl (am_tl a)) (fun p e R s m args below meth c Qm H locs lsm cells slots hC hst hR k => ?_) (h2 hc)
    obtain ⟨rv, rw_, e1, e2, e3⟩ := am_cvEq (sa := sa) (base := base) (fun j ty vs hj => (hC.2.2.2.2.2.1.2.2.2.1 j ty vs hj).1) hv
    show W p l e R s m args below meth c H locs cells slots Qm (F0 m pc lsm (am_cv sa base w :: am_cv sa base v :: rest.map (am_cv sa base)))
    rw [e1, e2]
    exact lv_acmp_eq hC.1 hC.2.1 hd ht (fun hn => absurd (e3.mpr hn) hc) (fun _ => k)
theorem am_i_acmpne {v w : Value} {off : Int} {tgt : Nat} (hd : decode I.2.1 pc = .ok (.if_acmp .ne off, 3)) (hv : am_cmpR B v w) (ht : (pc : Int) + off = (tgt : Int)) (h1 : ¬ v = w → am_P l B nm cl Ts NW D DA sa base I h0 d Q Z (tgt, ls, rest, h)) (h2 : ¬ ¬ v = w → am_P l B nm cl Ts NW D DA sa base I h0 d Q Z (pc + 3, ls, rest, h)) : am_P l B nm cl Ts NW D DA sa base I h0 d Q Z (pc, ls, w :: v :: rest, h) := by
  by_cases hc : v = w
  · refine am_gost (fun a => am_tl (am_tl a)) (fun p e R s m args below meth c Qm H locs lsm cells slots hC hst hR k => ?_) (h2 (fun q => q hc))
    obtain ⟨rv, rw_, e1, e2, e3⟩ := am_cvEq (sa := sa) (base := base) (fun j ty vs hj => (hC.2.2.2.2.2.1.2.2.2.1 j ty vs hj).1) hv
    show W p l e R s m args below meth c H locs cells slots Qm (F0 m pc lsm (am_cv sa base w :: am_cv sa base v :: rest.map (am_cv sa base)))
    rw [e1, e2]
    exact lv_acmp_ne hC.1 hC.2.1 hd ht (fun hn => absurd (e3.mp hc) hn) (fun _ => k)
  · refine am_gost (fun a => am_tl (am_tl a)) (fun p e R s m args below meth c Qm H locs lsm cells slots hC hst hR k => ?_) (h1 hc)
    obtain ⟨rv, rw_, e1, e2, e3⟩ := am_cvEq (sa := sa) (base := base) (fun j ty vs hj => (hC.2.2.2.2.2.1.2.2.2.1 j ty vs hj).1) hv
    show W p l e R s m args below meth c H locs cells slots Qm (F0 m pc lsm (am_cv sa base w :: am_cv sa base v :: rest.map (am_cv sa base)))
    rw [e1, e2]
    exact lv_acmp_ne hC.1 hC.2.1 hd ht (fun _ => k) (fun hn => absurd (e3.mpr hn) hc)
theorem am_i_tableswitch {dflt lo hi : Int} {offs : Array Int} {x : Int32} {tgt len : Nat} (hd : decode I.2.1 pc = .ok (.tableswitch dflt lo hi offs, len)) (ht : (x.toInt < lo ∨ hi < x.toInt) ∧ (pc : Int) + dflt = (tgt : Int) ∨ ¬ x.toInt < lo ∧ ¬ hi < x.toInt ∧ ∃ off, offs[(x.toInt - lo).toNat]? = some off ∧ (pc : Int) + off = (tgt : Int)) (hP : am_P l B nm cl Ts NW D DA sa base I h0 d Q Z (tgt, ls, rest, h)) : am_P l B nm cl Ts NW D DA sa base I h0 d Q Z (pc, ls, .int x :: rest, h) := by
  rcases ht with ⟨h1, h2⟩ | ⟨h1, h2, off, h3, h4⟩
  · exact am_gost am_tl (fun p e R s m args below meth c Qm H locs lsm cells slots hC hst hR k => lv_tableOut hC.1 hC.2.1 hd h1 h2 k) hP
  · exact am_gost am_tl (fun p e R s m args below meth c Qm H locs lsm cells slots hC hst hR k => lv_tableIn hC.1 hC.2.1 hd h1 h2 h3 h4 k) hP
theorem am_i_lookupswitch {dflt : Int} {ps : Array (Int × Int)} {x : Int32} {tgt len : Nat} (hd : decode I.2.1 pc = .ok (.lookupswitch dflt ps, len)) (hp : (ps.toList.zip (ps.toList.drop 1)).all (fun (a, next) => a.1 < next.1) = true) (ht : (pc : Int) + Op.lookupswitch.offset ps.toList dflt x.toInt = (tgt : Int)) (hP : am_P l B nm cl Ts NW D DA sa base I h0 d Q Z (tgt, ls, rest, h)) : am_P l B nm cl Ts NW D DA sa base I h0 d Q Z (pc, ls, .int x :: rest, h) :=
  am_gost am_tl (fun p e R s m args below meth c Qm H locs lsm cells slots hC hst hR k => lv_lookup hC.1 hC.2.1 hd hp rfl ht k) hP
end AMJ
end
section
/-! one instruction: fields, arrays, new cells -/
section AMK
variable {l : Launch} {B : am_B} {nm : Nat → String} {my : Nat → MethodName} {cl : List vw_C} {Ts NW : List Cond} {D : va_G} {DA : FieldType → ClassId} {sa : Nat → Nat} {base : Nat}
variable {I : am_I} {h0 : am_H} {d : Nat} {Q : Option Value → am_H → Prop} {Z : Option Value → am_H → State → Array Value → List Frame → State → Prop} {pc : Nat} {ls : List (Option Value)} {st rest : List Value} {h : am_H}
theorem am_get_some {c a k : Nat} {v : Value} (hg : am_get h c a k = some v) : ∃ fs, h[a]? = some (.inl (c, fs)) ∧ fs[k]? = some v := by
  unfold am_get at hg
  split at hg
  · next c' fs hh =>
    split at hg
    · next hc => subst hc; exact ⟨fs, hh, hg⟩
    · cases hg
  · cases hg
theorem am_getD_cv (fs : List Value) (k : Nat) : (fs.map (am_cv sa base)).getD k .null = am_cv sa base (fs.getD k .null) := by
  rw [List.getD_eq_getElem?_getD, List.getD_eq_getElem?_getD, List.getElem?_map]
  cases fs[k]? <;> rfl
theorem am_obj {H : Heap} {a c : Nat} {fs : List Value} (w : am_Wd D DA sa base cl h H) (ha : h[a]? = some (.inl (c, fs))) : va_P D cl [(base + a, .inr (c, fs.map (am_cv sa base)))] H := by
  intro k q hk
  have hz : k < 1 := (List.getElem?_eq_some_iff.mp hk).1
  have h0 : k = 0 := by omega
  subst h0
  cases hk
  obtain ⟨r, h1, h2, h3⟩ := w.2 a _ ha
  exact ⟨r, h1, h3.to (fun k _ => (am_getD_cv fs k).symm)⟩
theorem am_mem_h {a : Nat} {e : am_E} (h1 : am_v1 h) (ha : h[a]? = some e) : am_e1 e := h1 e (List.mem_of_getElem? ha)
theorem am_i_getfield {idx a t c k : Nat} {v : Value} (hT : am_Tab B nm my cl Ts NW) (hd : decode I.2.1 pc = .ok (.getfield idx, 3)) (hb : B.1 I.1 idx = (t, c, k)) (ht : t = 1 ∨ t = 2) (hg : am_get h c a k = some v) (hP : am_P l B nm cl Ts NW D DA sa base I h0 d Q Z (pc + 3, ls, v :: rest, h)) : am_P l B nm cl Ts NW D DA sa base I h0 d Q Z (pc, ls, .ref a :: rest, h) := by
  obtain ⟨fs, hh, hv⟩ := am_get_some hg
  refine am_go (F' := (pc + 3, ls, v :: rest, h)) (fun ⟨q1, q2, q3, q4⟩ => ⟨List.forall_mem_cons.mpr ⟨am_mem_h q3 hh v (List.mem_of_getElem? hv), am_tl q1⟩, q2, q3, q4⟩) (Nat.le_refl _) (Nat.le_refl _)
    (fun hF p e R s m args below meth cc Qm hC _ _ _ _ kk H locs lsm cells slots hR => ?_) hP
  obtain ⟨r, hr, hk, -, hl⟩ := hT.2.2.1 I.1 idx t c k hb ht
  have hP1 := am_obj hR.2.1 hh
  have hin := (hT.1 c r hr).2.1
  have hv' : (fs.map (am_cv sa base))[k]? = some (am_cv sa base v) := by rw [List.getElem?_map, hv]; rfl
  rcases hl with ⟨rfl, ref, h1, h2⟩ | ⟨rfl, host, h1⟩
  · refine va_get (cl := cl) (ci := c) (C := r.1) (T := r.2.1) (N := r.2.2) (ref := ref) hC.1 hC.2.1 hC.2.2.2.2.1 hin hC.2.2.2.1 hC.2.2.2.2.2.1.1 hP1 0 rfl hr k hk (hC.2.2.2.2.1 _ h1) (fun x hx => ?_) hv' hd (kk H locs lsm cells slots hR)
    rcases h2 with h2 | h2
    · rw [h2]; exact hx
    · exact u_same (hC.2.2.2.2.1 _ h2) x hx
  · exact va_getN (cl := cl) (ci := c) (C := r.1) (T := r.2.1) (N := r.2.2) (host := host) hC.1 hC.2.1 hC.2.2.2.2.1 hin hC.2.2.2.1 hC.2.2.2.2.2.1.1 hP1 0 rfl hr k hk (va_Nw.use rfl (hC.2.2.2.2.2.1.2.1 _ h1)) (fun x hx => hx) hv' hd (kk H locs lsm cells slots hR)
theorem am_fit_ok {ty : FieldType} {v : Value} (h : am_fit ty v = true) : narrow ty (am_cv sa base v) = am_cv sa base v ∧ fits ty (am_cv sa base v) = true ∧ v.category = 1 := by
  unfold am_fit at h
  split at h
  · exact ⟨rfl, rfl, rfl⟩
  · next x =>
    simp only [Bool.or_eq_true, beq_iff_eq] at h
    rcases h with rfl | rfl <;> exact ⟨rfl, rfl, rfl⟩
  all_goals first | exact ⟨rfl, rfl, rfl⟩ | cases h
theorem am_put_eq {a k c : Nat} {fs : List Value} {v : Value} (ha : h[a]? = some (.inl (c, fs))) : am_put h a k v = h.set a (.inl (c, fs.set k v)) := by
  unfold am_put
  rw [ha]
theorem am_i_putfield {idx a c k : Nat} {v w : Value} {ts : List (FieldType × Bool)} {ty : FieldType} {fin : Bool} (hT : am_Tab B nm my cl Ts NW) (hd : decode I.2.1 pc = .ok (.putfield idx, 3)) (hb : B.1 I.1 idx = (1, c, k)) (hg : am_get h c a k = some w) (hts : B.2.2.1 c = some ts) (hty : ts[k]? = some (ty, fin)) (hfit : am_fit ty v = true) (hfin : fin = true → I.2.2.2.2 = true ∧ c = I.1)
    (hP : am_P l B nm cl Ts NW D DA sa base I h0 d Q Z (pc + 3, ls, rest, am_put h a k v)) : am_P l B nm cl Ts NW D DA sa base I h0 d Q Z (pc, ls, v :: .ref a :: rest, h) := by
  obtain ⟨fs, hh, hv⟩ := am_get_some hg
  have hkl : k < fs.length := (List.getElem?_eq_some_iff.mp hv).1
  rw [am_put_eq hh] at hP
  obtain ⟨f1, f2, f3⟩ := am_fit_ok (sa := sa) (base := base) hfit
  refine am_go (F' := (pc + 3, ls, rest, h.set a (.inl (c, fs.set k v)))) (fun ⟨q1, q2, q3, q4⟩ => ⟨am_tl (am_tl q1), q2, am_v1_set q3 (fun x hx => ?_), q4⟩) (Nat.le_of_eq List.length_set.symm) (Nat.le_of_eq (am_sl_set h a _ _ hh (by simp [am_sz])).symm)
    (fun hF p e R s m args below meth cc Qm hC _ _ _ _ kk H locs lsm cells slots hR => ?_) hP
  · rcases List.mem_or_eq_of_mem_set hx with h2 | h2
    · exact am_mem_h q3 hh x h2
    · rw [h2]; exact f3
  · obtain ⟨r, hr, hk, hdec, hl⟩ := hT.2.2.1 I.1 idx 1 c k hb (Or.inl rfl)
    obtain ⟨hnm, hin, -, -, hnames, ty0, hty0, hB⟩ := hT.1 c r hr
    rw [hB] at hts
    cases hts
    rw [List.getElem?_map, List.getElem?_range hk] at hty
    cases hty
    obtain ⟨r', h1, hlen, cell, g1, g2, g3, g4⟩ := hR.2.1.2 a _ hh
    have hrr : r' = r := Option.some.inj (h1.symm.trans hr)
    subst hrr
    have hK := hC.2.2.2.2.2.1.1
    have hts' := hC.2.2.2.2.1
    have hap := va_apart (own := nm I.1) hts' hin ty0 hty0 hnames hK hr
    obtain ⟨hS, hfc, kC, hkC, hkind⟩ := hK.1 c _ hr
    obtain ⟨cf, kf, fi, f, hi, hsl⟩ := hS k hk
    have hst := (u_facts hfc hkC (u_lays hts' hin hk) hi).1
    have done : ∀ H' : Heap, H'[base + a]? = some (cell.setSlot f.slot (am_cv sa base v)) → H'.size = H.size → (∀ q, q ≠ base + a → H'[q]? = H[q]?) → am_Rel cl D DA sa base h0 (pc + 3, ls, rest, h.set a (.inl (c, fs.set k v))) s H' (locs ++ [⟨base + a, f.slot⟩]) lsm cells slots := by
      intro H' e1 z oq
      refine ⟨hR.1, hR.2.1.set z oq ⟨r', hr, by rw [List.length_set]; exact hlen, ?_⟩, hR.2.2.1.put z oq (show base ≤ base + a by omega), by simpa using hR.2.2.2.1, by show am_sl h0 + slots = am_sl (h.set a _); rw [am_sl_set h a _ _ hh (by simp [am_sz])]; exact hR.2.2.2.2⟩
      rw [hsl] at e1
      refine t_OB.to (V := updV (fun j => am_cv sa base (fs.getD j .null)) k (am_cv sa base v)) ⟨_, e1, g2, g3, t_set g4 hap hk _⟩ (fun j _ => ?_)
      by_cases hj : j = k
      · subst hj
        simp [updV, hkl]
      · simp [updV, hj, List.getElem?_set, Ne.symm hj]
    rcases hl with ⟨-, ref, q1, q2⟩ | ⟨q, -⟩
    · have hsame : s.fieldFound? ref (r'.2.1 k).2.1 (r'.2.1 k).2.2.1 = some (cf, kf, fi, f) := by
        rcases q2 with q2 | q2
        · rw [q2]; exact hi
        · exact u_same (hts' _ q2) _ hi
      have hlay := hts' _ (hin _ (u_in_lay hk))
      unfold u_lay at hlay
      by_cases hfn : (r'.2.1 k).2.2.2 = true
      · rw [if_pos hfn] at hlay
        obtain ⟨z1, z2⟩ := hfin hfn
        have hcf : m.cls = cf := by
          obtain ⟨_, _, c', _, _, _, -, -, hf', -, -, -, hown2, -⟩ := Cond.laysFinal_spec hlay
          have e1 : c' = cf := by have := hi.symm.trans hf'; simp at this; exact this.1.symm
          rw [hdec hfn, z2] at hown2
          rw [← e1]; exact Option.some.inj (hC.2.2.2.1.symm.trans hown2)
        have h6 := u_fits hfc hkC hkind (Or.inr hlay) hi (hty0 k hk) f1 f2
        exact W.putFinK hC.1 hC.2.1 hC.2.2.2.1 (hts' _ q1) hsame hst hcf (hC.2.2.2.2.2.2.2.2.1 z1) (by rw [g2]; exact h6) g1 g3 (by rw [hsl]; exact k2_hasslot (g4 k hk)) rfl rfl hd fun H' e1 z oq => kk H' _ lsm cells slots (done H' e1 z oq)
      · rw [if_neg hfn] at hlay
        have h6 := u_store hfc hkC hkind hlay hi (hty0 k hk) f1 f2
        exact W.putK hC.1 hC.2.1 (f := f) ⟨hC.2.2.2.1, hts' _ q1, ⟨_, _, _, hsame⟩, hst⟩ (by rw [g2]; exact h6) g1 g3 (by rw [hsl]; exact k2_hasslot (g4 k hk)) rfl rfl hd fun H' e1 z oq => kk H' _ lsm cells slots (done H' e1 z oq)
    · cases q
end AMK
end
section
/-! one instruction: arrays, new cells, constants -/
section AML
variable {l : Launch} {B : am_B} {nm : Nat → String} {my : Nat → MethodName} {cl : List vw_C} {Ts NW : List Cond} {D : va_G} {DA : FieldType → ClassId} {sa : Nat → Nat} {base : Nat}
variable {I : am_I} {h0 : am_H} {d : Nat} {Q : Option Value → am_H → Prop} {Z : Option Value → am_H → State → Array Value → List Frame → State → Prop} {pc : Nat} {ls : List (Option Value)} {st rest : List Value} {h : am_H}
/-- an array, read -/
theorem am_rd {s : State} {H : Heap} {locs : List Loc} {r : Value} {ty : FieldType} {vs : List Value} (hK : am_K B nm cl NW D DA sa base s) (w : am_Wd D DA sa base cl h H) (hS : va_S (am_A base) s.heap H locs) (hr : am_arr B h r = some (ty, vs)) (hty : am_tyk ty) :
    ∃ (a : Nat) (cell : Cell), am_cv sa base r = .ref a ∧ H[a]? = some cell ∧ s.isArrayOf cell ty ∧ cell.vm ≠ .unknown ∧ vs.length ≤ cell.slots.size ∧ cell.slots.size.toInt32 = Int32.ofNat vs.length ∧ ∀ j : Nat, j < vs.length → cell.slots[j]? = some (am_cv sa base (vs.getD j .null)) := by
  unfold am_arr at hr
  split at hr
  · next a =>
    split at hr
    · next x hx =>
      cases hr
      have hc := w.2 a _ hx
      refine ⟨base + a, _, rfl, hc, (hK.2.2.1 _ hty).1 _ _, (fun q => by cases q), ?_, ?_, fun j hj => ?_⟩
      · rw [arrV_size]; exact Nat.le_refl _
      · rw [arrV_size]
      · rw [arrV_read _ _ hj]
    · cases hr
  · next j =>
    obtain ⟨h1, cell, g1, g2, g3, g4, g5, g6, g7⟩ := hK.2.2.2.1 j ty vs hr
    exact ⟨sa j, cell, rfl, by rw [hS.2.1 _ (Array.getElem?_eq_some_iff.mp g1).1 g7]; exact g1, g2, g3, g4, g5, g6⟩
  · cases hr
theorem am_arr_e1 {r : Value} {ty : FieldType} {vs : List Value} {j : Nat} {v : Value} (hK : ∀ i ty vs, B.2.2.2 i = some (ty, vs) → ∀ v ∈ vs, v.category = 1) (h1 : am_v1 h) (hr : am_arr B h r = some (ty, vs)) (hv : vs[j]? = some v) : v.category = 1 := by
  unfold am_arr at hr
  split at hr
  · next a =>
    split at hr
    · next x hx =>
      cases hr
      exact am_mem_h h1 hx v (List.mem_of_getElem? hv)
    · cases hr
  · next i => exact hK i ty vs hr v (List.mem_of_getElem? hv)
  · cases hr
theorem am_i_len {r : Value} {ty : FieldType} {vs : List Value} (hd : decode I.2.1 pc = .ok (.arraylength, 1)) (hr : am_arr B h r = some (ty, vs)) (hty : am_tyk ty) (hP : am_P l B nm cl Ts NW D DA sa base I h0 d Q Z (pc + 1, ls, .int (Int32.ofNat vs.length) :: rest, h)) : am_P l B nm cl Ts NW D DA sa base I h0 d Q Z (pc, ls, r :: rest, h) := by
  refine am_gost (fun a => List.forall_mem_cons.mpr ⟨rfl, am_tl a⟩) (fun p e R s m args below meth c Qm H locs lsm cells slots hC hst hR k => ?_) hP
  obtain ⟨a, cell, e1, g1, g2, g3, g4, g5, g6⟩ := am_rd hC.2.2.2.2.2.1 hR.2.1 hR.2.2.1 hr hty
  show W p l e R s m args below meth c H locs cells slots Qm (F0 m pc lsm (am_cv sa base r :: rest.map (am_cv sa base)))
  rw [e1]
  exact W.alen hC.1 hC.2.1 g1 g2 g5 rfl rfl hd k
theorem am_inb {j : Int32} {n N : Nat} (h0 : ¬ j < 0) (hj : j.toNatClampNeg < n) (hN : n ≤ N) : ¬ (j < 0 ∨ N ≤ j.toNatClampNeg) := by
  rintro (q | q)
  · exact h0 q
  · omega
theorem am_getD {vs : List Value} {j : Nat} {v : Value} (hv : vs[j]? = some v) : vs.getD j .null = v := by
  rw [List.getD_eq_getElem?_getD, hv]; rfl
theorem am_i_ald {i : Instr} {j : Int32} {r v : Value} {ty : FieldType} {vs : List Value} (hB : ∀ i ty vs, B.2.2.2 i = some (ty, vs) → ∀ v ∈ vs, v.category = 1) (hd : decode I.2.1 pc = .ok (i, 1)) (hi : i = .iaload ∧ ty = .int ∨ i = .baload ∧ (ty = .byte ∨ ty = .boolean) ∨ i = .aaload ∧ ∃ C, C ∈ am_refs ∧ ty = .object C) (hr : am_arr B h r = some (ty, vs)) (h0j : ¬ j < 0) (hv : vs[j.toNatClampNeg]? = some v)
    (hP : am_P l B nm cl Ts NW D DA sa base I h0 d Q Z (pc + 1, ls, v :: rest, h)) : am_P l B nm cl Ts NW D DA sa base I h0 d Q Z (pc, ls, .int j :: r :: rest, h) := by
  have hty : am_tyk ty := by
    rcases hi with ⟨-, h⟩ | ⟨-, h | h⟩ | ⟨-, h⟩
    · exact Or.inl h
    · exact Or.inr (Or.inl h)
    · exact Or.inr (Or.inr (Or.inl h))
    · exact Or.inr (Or.inr (Or.inr h))
  have hj : j.toNatClampNeg < vs.length := (List.getElem?_eq_some_iff.mp hv).1
  refine am_go (F' := (pc + 1, ls, v :: rest, h)) (fun ⟨q1, q2, q3, q4⟩ => ⟨List.forall_mem_cons.mpr ⟨am_arr_e1 hB q3 hr hv, am_tl (am_tl q1)⟩, q2, q3, q4⟩) (Nat.le_refl _) (Nat.le_refl _)
    (fun hF p e R s m args below meth cc Qm hC _ _ _ _ kk H locs lsm cells slots hR => ?_) hP
  obtain ⟨a, cell, e1, g1, g2, g3, g4, g5, g6⟩ := am_rd hC.2.2.2.2.2.1 hR.2.1 hR.2.2.1 hr hty
  have g7 := g6 _ hj
  rw [am_getD hv] at g7
  show W p l e R s m args below meth cc H locs cells slots Qm (F0 m pc lsm (.int j :: am_cv sa base r :: rest.map (am_cv sa base)))
  rw [e1]
  rcases hi with ⟨rfl, rfl⟩ | ⟨rfl, rfl | rfl⟩ | ⟨rfl, C, -, rfl⟩
  · exact W.iald hC.1 hC.2.1 g1 g2 g3 (am_inb h0j hj g4) g7 rfl rfl hd (kk H locs lsm cells slots hR)
  · exact W.bald hC.1 hC.2.1 g1 g2 g3 (am_inb h0j hj g4) g7 rfl rfl hd (kk H locs lsm cells slots hR)
  · exact W.zald hC.1 hC.2.1 g1 g2 g3 (am_inb h0j hj g4) g7 rfl rfl hd (kk H locs lsm cells slots hR)
  · exact W.aald hC.1 hC.2.1 g1 g2 rfl g3 (am_inb h0j hj g4) g7 rfl rfl hd (kk H locs lsm cells slots hR)
/-- an array's cell behind a store -/
theorem am_arr_set {ty : FieldType} {vs : List Value} {j : Nat} {v : Value} (hj : j < vs.length) : (arrV (DA ty) vs.length (fun i => am_cv sa base (vs.getD i .null))).setSlot j (am_cv sa base v) = arrV (DA ty) (vs.set j v).length (fun i => am_cv sa base ((vs.set j v).getD i .null)) := by
  rw [arrV_store, List.length_set]
  congr 1
  funext q
  by_cases hq : q = j
  · subst hq
    simp [updV, hj]
  · simp [updV, hq, List.getElem?_set, Ne.symm hq]
theorem am_goast {pc' a j : Nat} {st' : List Value} {ty : FieldType} {vs : List Value} {v : Value} (hst : (∀ v ∈ st, v.category = 1) → (∀ v ∈ st', v.category = 1)) (hv : (∀ v ∈ st, v.category = 1) → v.category = 1) (ha : h[a]? = some (.inr (ty, vs))) (hj : j < vs.length)
    (hstep : ∀ (p : Program) (e : Env) (R : Room) (s : State) (m : MethodId) (args : Array Value) (below : List Frame) (meth : Method) (c : Code) (Qm : State → Prop) (H : Heap) (locs : List Loc) (lsm : Array Slot) (cells slots : Nat), am_Ctx B nm cl Ts NW D DA sa base I p s m args meth c → am_Wd D DA sa base cl h H →
      (∀ H' : Heap, H'[base + a]? = some ((arrV (DA ty) vs.length (fun i => am_cv sa base (vs.getD i .null))).setSlot j (am_cv sa base v)) → H'.size = H.size → (∀ q, q ≠ base + a → H'[q]? = H[q]?) → W p l e R s m args below meth c H' (locs ++ [⟨base + a, j⟩]) cells slots Qm (F0 m pc' lsm (st'.map (am_cv sa base)))) → W p l e R s m args below meth c H locs cells slots Qm (F0 m pc lsm (st.map (am_cv sa base))))
    (hP : am_P l B nm cl Ts NW D DA sa base I h0 d Q Z (pc', ls, st', h.set a (.inr (ty, vs.set j v)))) : am_P l B nm cl Ts NW D DA sa base I h0 d Q Z (pc, ls, st, h) := by
  have hsz : am_sl (h.set a (.inr (ty, vs.set j v))) = am_sl h := am_sl_set h a _ _ ha (by simp [am_sz])
  refine am_go (F' := (pc', ls, st', h.set a (.inr (ty, vs.set j v)))) (fun ⟨q1, q2, q3, q4⟩ => ⟨hst q1, q2, am_v1_set q3 (fun x hx => ?_), q4⟩) (Nat.le_of_eq List.length_set.symm) (Nat.le_of_eq hsz.symm)
    (fun hF p e R s m args below meth c Qm hC _ _ _ _ kk H locs lsm cells slots hR => hstep p e R s m args below meth c Qm H locs lsm cells slots hC hR.2.1 (fun H' e1 z oq => kk H' _ lsm cells slots ⟨hR.1, hR.2.1.set z oq ?_, hR.2.2.1.put z oq (show base ≤ base + a by omega), by simpa using hR.2.2.2.1, by show am_sl h0 + slots = am_sl (h.set a _); rw [hsz]; exact hR.2.2.2.2⟩)) hP
  · rcases List.mem_or_eq_of_mem_set hx with h2 | h2
    · exact am_mem_h q3 ha x h2
    · rw [h2]; exact hv q1
  · show H'[base + a]? = some (arrV _ _ _)
    rw [e1, am_arr_set hj]
theorem am_i_iast {j : Int32} {x : Int32} {a : Nat} {vs : List Value} (hd : decode I.2.1 pc = .ok (.iastore, 1)) (ha : h[a]? = some (.inr (.int, vs))) (h0j : ¬ j < 0) (hj : j.toNatClampNeg < vs.length)
    (hP : am_P l B nm cl Ts NW D DA sa base I h0 d Q Z (pc + 1, ls, rest, h.set a (.inr (.int, vs.set j.toNatClampNeg (.int x))))) : am_P l B nm cl Ts NW D DA sa base I h0 d Q Z (pc, ls, .int x :: .int j :: .ref a :: rest, h) :=
  am_goast (pc' := pc + 1) (st' := rest) (v := .int x) (fun q => am_tl (am_tl (am_tl q))) (fun _ => rfl) ha hj (fun p e R s m args below meth c Qm H locs lsm cells slots hC w k =>
    W.iast hC.1 hC.2.1 (w.2 a _ ha) ((hC.2.2.2.2.2.1.2.2.1 _ (Or.inl rfl)).1 _ _) (fun q => by cases q) (am_inb h0j hj (by rw [arrV_size]; exact Nat.le_refl _)) rfl rfl hd k) hP
theorem am_i_bast {j : Int32} {x : Int32} {a : Nat} {vs : List Value} (hd : decode I.2.1 pc = .ok (.bastore, 1)) (ha : h[a]? = some (.inr (.byte, vs))) (h0j : ¬ j < 0) (hj : j.toNatClampNeg < vs.length)
    (hP : am_P l B nm cl Ts NW D DA sa base I h0 d Q Z (pc + 1, ls, rest, h.set a (.inr (.byte, vs.set j.toNatClampNeg (.int x.toInt8.toInt32))))) : am_P l B nm cl Ts NW D DA sa base I h0 d Q Z (pc, ls, .int x :: .int j :: .ref a :: rest, h) :=
  am_goast (pc' := pc + 1) (st' := rest) (v := .int x.toInt8.toInt32) (fun q => am_tl (am_tl (am_tl q))) (fun _ => rfl) ha hj (fun p e R s m args below meth c Qm H locs lsm cells slots hC w k =>
    W.bast hC.1 hC.2.1 (w.2 a _ ha) ((hC.2.2.2.2.2.1.2.2.1 _ (Or.inr (Or.inl rfl))).1 _ _) (fun q => by cases q) (am_inb h0j hj (by rw [arrV_size]; exact Nat.le_refl _)) rfl rfl hd k) hP
theorem am_i_zast {j : Int32} {x : Int32} {a : Nat} {vs : List Value} (hd : decode I.2.1 pc = .ok (.bastore, 1)) (ha : h[a]? = some (.inr (.boolean, vs))) (h0j : ¬ j < 0) (hj : j.toNatClampNeg < vs.length)
    (hP : am_P l B nm cl Ts NW D DA sa base I h0 d Q Z (pc + 1, ls, rest, h.set a (.inr (.boolean, vs.set j.toNatClampNeg (.int (x &&& 1)))))) : am_P l B nm cl Ts NW D DA sa base I h0 d Q Z (pc, ls, .int x :: .int j :: .ref a :: rest, h) :=
  am_goast (pc' := pc + 1) (st' := rest) (v := .int (x &&& 1)) (fun q => am_tl (am_tl (am_tl q))) (fun _ => rfl) ha hj (fun p e R s m args below meth c Qm H locs lsm cells slots hC w k =>
    W.zast hC.1 hC.2.1 (w.2 a _ ha) ((hC.2.2.2.2.2.1.2.2.1 _ (Or.inr (Or.inr (Or.inl rfl)))).1 _ _) (fun q => by cases q) (am_inb h0j hj (by rw [arrV_size]; exact Nat.le_refl _)) rfl rfl hd k) hP
theorem am_cls {c : Nat} {r : vw_C} {s : State} (hK : va_K D cl [] s) (hr : cl[c]? = some r) : ClassAt s r.1 (D.1 c) := (hK.1 c r hr).2
theorem am_i_aastN {j : Int32} {a : Nat} {C : String} {vs : List Value} (hd : decode I.2.1 pc = .ok (.aastore, 1)) (hC0 : C ∈ am_refs) (ha : h[a]? = some (.inr (.object C, vs))) (h0j : ¬ j < 0) (hj : j.toNatClampNeg < vs.length)
    (hP : am_P l B nm cl Ts NW D DA sa base I h0 d Q Z (pc + 1, ls, rest, h.set a (.inr (.object C, vs.set j.toNatClampNeg .null)))) : am_P l B nm cl Ts NW D DA sa base I h0 d Q Z (pc, ls, .null :: .int j :: .ref a :: rest, h) :=
  am_goast (pc' := pc + 1) (st' := rest) (v := .null) (fun q => am_tl (am_tl (am_tl q))) (fun _ => rfl) ha hj (fun p e R s m args below meth c Qm H locs lsm cells slots hC w k =>
    va_WaastN hC.1 hC.2.1 (w.2 a _ ha) ((hC.2.2.2.2.2.1.2.2.1 _ (Or.inr (Or.inr (Or.inr ⟨C, hC0, rfl⟩)))).1 _ _) (fun q => by cases q) (am_inb h0j hj (by rw [arrV_size]; exact Nat.le_refl _)) rfl rfl hd k) hP
theorem am_i_aast {j : Int32} {a b c : Nat} {C : String} {vs fs : List Value} (hT : am_Tab B nm my cl Ts NW) (hd : decode I.2.1 pc = .ok (.aastore, 1)) (hC0 : C ∈ am_refs) (ha : h[a]? = some (.inr (.object C, vs))) (hbb : h[b]? = some (.inl (c, fs))) (hcn : nm c = C ∨ C = "java/lang/Object" ∧ c = 7) (h0j : ¬ j < 0) (hj : j.toNatClampNeg < vs.length)
    (hP : am_P l B nm cl Ts NW D DA sa base I h0 d Q Z (pc + 1, ls, rest, h.set a (.inr (.object C, vs.set j.toNatClampNeg (.ref b))))) : am_P l B nm cl Ts NW D DA sa base I h0 d Q Z (pc, ls, .ref b :: .int j :: .ref a :: rest, h) := by
  refine am_goast (pc' := pc + 1) (st' := rest) (v := .ref b) (fun q => am_tl (am_tl (am_tl q))) (fun _ => rfl) ha hj (fun p e R s m args below meth cc Qm H locs lsm cells slots hC w k => ?_) hP
  obtain ⟨r, hr, -, cell, g1, g2, g3, -⟩ := w.2 b _ hbb
  have hK := hC.2.2.2.2.2.1
  obtain ⟨hfc, kC, hkC, hkind⟩ := am_cls hK.1 hr
  obtain ⟨kA, comp, k1, k2, k3, -⟩ := (hK.2.2.1 _ (Or.inr (Or.inr (Or.inr ⟨C, hC0, rfl⟩)))).2
  obtain ⟨kE, hkE, -⟩ := Vm.findClass_spec k3
  have hasg : s.vm.assignable cell.cls comp = true := by
    rw [g2]
    rcases hcn with hcn | ⟨hcn, rfl⟩
    · have e1 : r.1 = C := (hT.1 c r hr).1.trans hcn
      rw [e1] at hfc
      cases k3.symm.trans hfc
      exact va_assign ⟨hfc, kC, hkC, hkind⟩
    · obtain ⟨c0, t0, f1, f2, f3⟩ := Cond.castable_spec (va_Nw.use (A := args) rfl (hK.2.1 _ hT.2.2.2.2.2.2.2.2.2.2.2.2.2.2.1))
      rw [← (hT.1 7 r hr).1] at f1
      cases hfc.symm.trans f1
      rw [hcn] at k3
      cases k3.symm.trans f2
      exact f3
  exact W.aast hC.1 hC.2.1 (w.2 a _ ha) (fun q h => by cases h) (fun h => by cases h) k1 k2 rfl hkE ⟨h0j, by rw [arrV_size]; exact hj⟩ g1 (fun q h => by rw [g3] at h; cases h) (by rw [g2]; exact hkC) hasg rfl rfl hd k
end AML
end
section
/-! one instruction: constants, new cells, casts -/
section AMN
variable {l : Launch} {B : am_B} {nm : Nat → String} {my : Nat → MethodName} {cl : List vw_C} {Ts NW : List Cond} {D : va_G} {DA : FieldType → ClassId} {sa : Nat → Nat} {base : Nat}
variable {I : am_I} {h0 : am_H} {d : Nat} {Q : Option Value → am_H → Prop} {Z : Option Value → am_H → State → Array Value → List Frame → State → Prop} {pc : Nat} {ls : List (Option Value)} {st rest : List Value} {h : am_H}
theorem am_i_ldc {idx x y : Nat} (hT : am_Tab B nm my cl Ts NW) (hd : decode I.2.1 pc = .ok (.ldc idx, 2)) (hb : B.1 I.1 idx = (12, x, y)) (hP : am_P l B nm cl Ts NW D DA sa base I h0 d Q Z (pc + 2, ls, .int (Int32.ofNat x) :: st, h)) : am_P l B nm cl Ts NW D DA sa base I h0 d Q Z (pc, ls, st, h) :=
  am_gost (fun a => List.forall_mem_cons.mpr ⟨rfl, a⟩) (fun p e R s m args below meth c Qm H locs lsm cells slots hC _ hR k => lv_ldc hC.1 hC.2.1 hC.2.2.2.1 (hC.2.2.2.2.1 _ (hT.2.2.2.2.2.2.2.2.2.2.2.1 _ _ _ _ hb)) hd k) hP
theorem am_i_getstatic {idx j y : Nat} (hd : decode I.2.1 pc = .ok (.getstatic idx, 3)) (hb : B.1 I.1 idx = (3, j, y)) (hP : am_P l B nm cl Ts NW D DA sa base I h0 d Q Z (pc + 3, ls, .retAddr j :: st, h)) : am_P l B nm cl Ts NW D DA sa base I h0 d Q Z (pc, ls, st, h) := by
  refine am_gost (fun a => List.forall_mem_cons.mpr ⟨rfl, a⟩) (fun p e R s m args below meth c Qm H locs lsm cells slots hC _ hR k => ?_) hP
  obtain ⟨C, n, dd, ref, hZ, hrf, hlk⟩ := hC.2.2.2.2.2.1.2.2.2.2.1 _ _ _ _ hb
  subst hrf
  rcases hlk with hlk | ⟨host, hlk⟩
  · exact va_gets hC.1 hC.2.1 hZ hR.2.2.1 hC.2.2.2.1 (va_Nw.use rfl hlk) (fun x hx => hx) hd k
  · exact va_getsN hC.1 hC.2.1 hZ hR.2.2.1 hC.2.2.2.1 (va_Nw.use rfl (hC.2.2.2.2.2.1.2.1 _ hlk)) (fun x hx => hx) hd k
theorem am_sum1 (st : List Value) (h : ∀ v ∈ st, v.category = 1) : ((st.map (am_cv sa base)).map fun v => v.category).sum = st.length := by
  induction st with
  | nil => rfl
  | cons v st ih =>
    simp only [List.map_cons, List.sum_cons, List.length_cons, am_cv_cat]
    rw [ih (am_tl h), am_hd h]
    omega
theorem am_arrV_ext {cA : ClassId} {n : Nat} {f g : Nat → Value} (h : ∀ j, j < n → f j = g j) : arrV cA n f = arrV cA n g := by
  unfold arrV
  congr 1
  apply congrArg
  funext j
  exact h j.val j.isLt
theorem am_i_objInit {idx a x y : Nat} (hT : am_Tab B nm my cl Ts NW) (hd1 : 1 ≤ d) (hd : decode I.2.1 pc = .ok (.invokespecial idx, 3)) (hb : B.1 I.1 idx = (8, x, y)) (hrl : rest.length ≤ 8) (hP : am_P l B nm cl Ts NW D DA sa base I h0 d Q Z (pc + 3, ls, rest, h)) : am_P l B nm cl Ts NW D DA sa base I h0 d Q Z (pc, ls, .ref a :: rest, h) := by
  refine am_go (F' := (pc + 3, ls, rest, h)) (fun ⟨q1, q2, q3, q4⟩ => ⟨am_tl q1, q2, q3, q4⟩) (Nat.le_refl _) (Nat.le_refl _)
    (fun hF p e R s m args below meth cc Qm hC hfr hlo _ _ kk H locs lsm cells slots hR => ?_) hP
  obtain ⟨w1, w2, w3⟩ := hT.2.2.2.2.2.2.2.1 _ _ _ _ hb
  have hsum : ((rest.map (am_cv sa base)).map fun v => v.category).sum ≤ 8 := by
    rw [am_sum1 rest (am_tl hF.1)]
    exact hrl
  refine W.objInit hC.1 hC.2.1 hC.2.2.2.1 (hC.2.2.2.2.1 _ w1) (hC.2.2.2.2.1 _ w2) (hC.2.2.2.2.1 _ w3) rfl (by rw [hC.2.2.1]; exact hR.1.1.trans hF.2.2.2) rfl hd (by omega) ?_ (kk H locs lsm cells slots hR)
  show 2 * 0 + _ + 12 ≤ _
  omega
theorem am_i_cast {idx c y : Nat} {v : Value} (hT : am_Tab B nm my cl Ts NW) (hd : decode I.2.1 pc = .ok (.checkcast idx, 3)) (hb : B.1 I.1 idx = (9, c, y)) (hv : v = .null ∨ ∃ a fs, v = .ref a ∧ h[a]? = some (.inl (c, fs))) (hP : am_P l B nm cl Ts NW D DA sa base I h0 d Q Z (pc + 3, ls, v :: rest, h)) : am_P l B nm cl Ts NW D DA sa base I h0 d Q Z (pc, ls, v :: rest, h) := by
  refine am_gost id (fun p e R s m args below meth cc Qm H locs lsm cells slots hC _ hR k => ?_) hP
  rcases hv with rfl | ⟨a, fs, rfl, ha⟩
  · exact lv_castN hC.1 hC.2.1 hd k
  · have w1 := hT.2.2.2.2.2.2.2.2.1 _ _ _ _ hb
    obtain ⟨r, hr, -, cell, g1, g2, g3, -⟩ := hR.2.1.2 a _ ha
    have hcl := am_cls hC.2.2.2.2.2.1.1 hr
    rw [(hT.1 c r hr).1] at hcl
    exact va_castS hC.1 hC.2.1 hC.2.2.2.1 (hC.2.2.2.2.1 _ w1) hcl ⟨cell, g1, by rw [g3]; rfl, by rw [g2]; exact hcl.1⟩ hd k
theorem am_i_new {idx c y : Nat} {ts : List (FieldType × Bool)} (hT : am_Tab B nm my cl Ts NW) (hd : decode I.2.1 pc = .ok (.new idx, 3)) (hb : B.1 I.1 idx = (9, c, y)) (hts : B.2.2.1 c = some ts) (hP : am_P l B nm cl Ts NW D DA sa base I h0 d Q Z (pc + 3, ls, .ref h.length :: st, h ++ [.inl (c, ts.map (fun q => defaultValue q.1))])) (h1 : ∀ q ∈ ts, (defaultValue q.1).category = 1) : am_P l B nm cl Ts NW D DA sa base I h0 d Q Z (pc, ls, st, h) := by
  have w1 := hT.2.2.2.2.2.2.2.2.1 _ _ _ _ hb
  obtain ⟨r, hr⟩ := hT.2.2.2.2.2.2.2.2.2.1 c ts hts
  obtain ⟨hnm, hin, hins, hini, hnames, ty0, hty0, hB⟩ := hT.1 c r hr
  rw [hB] at hts
  cases hts
  refine am_go (F' := (pc + 3, ls, .ref h.length :: st, h ++ [.inl (c, ((List.range r.2.2).map (fun k => (ty0 k, (r.2.1 k).2.2.2))).map (fun q => defaultValue q.1))])) (fun ⟨q1, q2, q3, q4⟩ => ⟨List.forall_mem_cons.mpr ⟨rfl, q1⟩, q2, am_v1_push q3 (show am_e1 (.inl (_, _)) from fun x hx => ?_), q4⟩) (by simp) (by rw [am_sl_push]; exact Nat.le_add_right _ _)
    (fun hF p e R s m args below meth cc Qm hC _ _ hc1 hc2 kk H locs lsm cells slots hR => ?_) hP
  · obtain ⟨q, hq, rfl⟩ := List.mem_map.mp hx
    exact h1 q hq
  · have hK := hC.2.2.2.2.2.1.1
    have hKn := hK.1 c r hr
    have hlen : h0.length + cells = h.length := hR.2.2.2.1
    have hsl : am_sl h0 + slots = am_sl h := hR.2.2.2.2
    rw [am_sl_push] at hc2
    simp only [List.length_append, List.length_cons, List.length_nil] at hc1
    have hsz : am_sz (.inl (c, ((List.range r.2.2).map (fun k => (ty0 k, (r.2.1 k).2.2.2))).map (fun q => defaultValue q.1))) = r.2.2 := by simp [am_sz]
    rw [hsz] at hc2
    refine W.newcK hC.1 hC.2.1 hC.2.2.2.1 (by rw [hnm]; exact hC.2.2.2.2.1 _ w1) (hC.2.2.2.2.1 _ hins) (hC.2.2.2.2.1 _ hini) rfl hd (by omega) (by omega) hKn.2.1 rfl fun H1 kC hkC e1 z1 o1 => ?_
    have hz : H.size = base + h.length := hR.2.1.1
    rw [show Value.ref H.size = am_cv sa base (.ref h.length) by rw [hz]; rfl]
    refine kk H1 locs lsm (cells + 1) (slots + r.2.2) ⟨hR.1, hR.2.1.push z1 o1 ⟨r, hr, by simp, ?_⟩, ⟨Nat.le_trans hR.2.2.1.1 (by omega), fun x h1 h2 => (o1 x (Nat.lt_of_lt_of_le h1 hR.2.2.1.1)).trans (hR.2.2.1.2.1 x h1 h2), hR.2.2.1.2.2⟩, by simp; omega, by rw [am_sl_push, hsz]; omega⟩
    rw [← hz]
    refine (u_born ty0 hC.2.2.2.2.1 hin hKn hkC e1 hty0).to (fun k hk => ?_)
    have : (((List.range r.2.2).map (fun k => (ty0 k, (r.2.1 k).2.2.2))).map (fun q => defaultValue q.1)).getD k .null = defaultValue (ty0 k) := by
      rw [List.getD_eq_getElem?_getD, List.getElem?_map, List.getElem?_map, List.getElem?_range hk]
      rfl
    rw [this]
    cases ty0 k <;> rfl
/-- a new array -/
theorem am_gonew {pc' n : Nat} {st' : List Value} {ty : FieldType} {x : Value} (hst : (∀ v ∈ st, v.category = 1) → (∀ v ∈ st', v.category = 1)) (hx : x = .null ∨ x = .int 0)
    (hstep : ∀ (p : Program) (e : Env) (R : Room) (s : State) (m : MethodId) (args : Array Value) (below : List Frame) (meth : Method) (c : Code) (Qm : State → Prop) (H : Heap) (locs : List Loc) (lsm : Array Slot) (cells slots : Nat), am_Ctx B nm cl Ts NW D DA sa base I p s m args meth c → cells + 1 ≤ R.cells → slots + n ≤ R.slots →
      (∀ H' : Heap, H'[H.size]? = some (arrV (DA ty) n (fun _ => x)) → H'.size = H.size + 1 → (∀ q, q < H.size → H'[q]? = H[q]?) → W p l e R s m args below meth c H' locs (cells + 1) (slots + n) Qm (F0 m pc' lsm (.ref H.size :: st'.map (am_cv sa base)))) → W p l e R s m args below meth c H locs cells slots Qm (F0 m pc lsm (st.map (am_cv sa base))))
    (hP : am_P l B nm cl Ts NW D DA sa base I h0 d Q Z (pc', ls, .ref h.length :: st', h ++ [.inr (ty, List.replicate n x)])) : am_P l B nm cl Ts NW D DA sa base I h0 d Q Z (pc, ls, st, h) := by
  have hsz : am_sz (.inr (ty, List.replicate n x)) = n := by simp [am_sz]
  refine am_go (F' := (pc', ls, .ref h.length :: st', h ++ [.inr (ty, List.replicate n x)])) (fun ⟨q1, q2, q3, q4⟩ => ⟨List.forall_mem_cons.mpr ⟨rfl, hst q1⟩, q2, am_v1_push q3 (show am_e1 (.inr (_, _)) from fun y hy => ?_), q4⟩) (by simp) (by rw [am_sl_push]; exact Nat.le_add_right _ _)
    (fun hF p e R s m args below meth cc Qm hC _ _ hc1 hc2 kk H locs lsm cells slots hR => ?_) hP
  · have := List.eq_of_mem_replicate hy
    rw [this]
    rcases hx with rfl | rfl <;> rfl
  · have hlen : h0.length + cells = h.length := hR.2.2.2.1
    have hsl : am_sl h0 + slots = am_sl h := hR.2.2.2.2
    rw [am_sl_push, hsz] at hc2
    simp only [List.length_append, List.length_cons, List.length_nil] at hc1
    have hz : H.size = base + h.length := hR.2.1.1
    refine hstep p e R s m args below meth cc Qm H locs lsm cells slots hC (by omega) (by omega) (fun H1 e1 z1 o1 => ?_)
    rw [show Value.ref H.size = am_cv sa base (.ref h.length) by rw [hz]; rfl]
    refine kk H1 locs lsm (cells + 1) (slots + n) ⟨hR.1, hR.2.1.push z1 o1 ?_, ⟨Nat.le_trans hR.2.2.1.1 (by omega), fun x h1 h2 => (o1 x (Nat.lt_of_lt_of_le h1 hR.2.2.1.1)).trans (hR.2.2.1.2.1 x h1 h2), hR.2.2.1.2.2⟩, by simp; omega, by rw [am_sl_push, hsz]; omega⟩
    show H1[base + h.length]? = some (arrV (DA ty) (List.replicate n x).length _)
    rw [← hz, e1, List.length_replicate]
    congr 1
    refine am_arrV_ext (fun j hj => ?_)
    rw [List.getD_eq_getElem?_getD, List.getElem?_replicate, if_pos hj]
    rcases hx with rfl | rfl <;> rfl
theorem am_i_newarray {at_ : ArrayType} {n : Int32} {ty : FieldType} (hT : am_Tab B nm my cl Ts NW) (hd : decode I.2.1 pc = .ok (.newarray at_, 2)) (hat : newarray.typeOf at_ = ty) (hty : ty = .int ∨ ty = .byte ∨ ty = .boolean) (hn : ¬ n < 0) (hn2 : n.toNatClampNeg ≤ 100000) (hP : am_P l B nm cl Ts NW D DA sa base I h0 d Q Z (pc + 2, ls, .ref h.length :: rest, h ++ [.inr (ty, List.replicate n.toNatClampNeg (.int 0))])) : am_P l B nm cl Ts NW D DA sa base I h0 d Q Z (pc, ls, .int n :: rest, h) := by
  subst hat
  have hac : Cond.arrayClass (newarray.typeOf at_) ∈ Ts := by
    obtain ⟨w1, w2, w3⟩ := hT.2.2.2.2.2.2.2.2.2.2.2.2.2.1
    rcases hty with h | h | h <;> rw [h] <;> assumption
  have hk : am_tyk (newarray.typeOf at_) := by
    rcases hty with h | h | h
    · exact Or.inl h
    · exact Or.inr (Or.inl h)
    · exact Or.inr (Or.inr (Or.inl h))
  refine am_gonew (pc' := pc + 2) (st' := rest) (n := n.toNatClampNeg) (ty := newarray.typeOf at_) (x := .int 0) am_tl (Or.inr rfl) (fun p e R s m args below meth cc Qm H locs lsm cells slots hC hc1 hc2 k => ?_) hP
  refine va_newaK hC.1 hC.2.1 (hC.2.2.2.2.1 _ hac) rfl hd rfl hn rfl ?_ hc1 hc2 rfl fun H1 cA e1 z1 o1 hAr hNm => ?_
  · have : componentBytes (newarray.typeOf at_) ≤ 8 := by
      rcases hty with h | h | h <;> rw [h] <;> decide
    calc n.toNatClampNeg * componentBytes (newarray.typeOf at_) ≤ 100000 * 8 := Nat.mul_le_mul hn2 this
      _ ≤ 536870912 := by decide
  · have hcA : cA = DA (newarray.typeOf at_) := by
      have h2 := (hC.2.2.2.2.2.1.2.2.1 _ hk).2
      have h3 : s.vm.findClass ("[" ++ (newarray.typeOf at_).toString) = some (DA (newarray.typeOf at_)) := by
        rcases hty with h | h | h <;> rw [h] at h2 ⊢ <;> exact h2
      exact Option.some.inj (hNm.symm.trans h3)
    subst hcA
    refine k H1 ?_ z1 o1
    rw [e1]
    congr 1
    refine am_arrV_ext (fun j _ => ?_)
    rcases hty with h | h | h <;> rw [h] <;> rfl
theorem am_i_anewarray {idx c y : Nat} {n : Int32} (hT : am_Tab B nm my cl Ts NW) (hd : decode I.2.1 pc = .ok (.anewarray idx, 3)) (hb : B.1 I.1 idx = (9, c, y)) (hcr : nm c ∈ am_refs) (hn : ¬ n < 0) (hn2 : n.toNatClampNeg ≤ 100000) (hP : am_P l B nm cl Ts NW D DA sa base I h0 d Q Z (pc + 3, ls, .ref h.length :: rest, h ++ [.inr (.object (nm c), List.replicate n.toNatClampNeg .null)])) : am_P l B nm cl Ts NW D DA sa base I h0 d Q Z (pc, ls, .int n :: rest, h) := by
  have hk : am_tyk (.object (nm c)) := Or.inr (Or.inr (Or.inr ⟨_, hcr, rfl⟩))
  refine am_gonew (pc' := pc + 3) (st' := rest) (n := n.toNatClampNeg) (ty := .object (nm c)) (x := .null) am_tl (Or.inl rfl) (fun p e R s m args below meth cc Qm H locs lsm cells slots hC hc1 hc2 k => ?_) hP
  have hw := hT.2.2.2.2.2.2.2.2.1 _ _ _ _ hb
  refine W.anew hC.1 hC.2.1 hC.2.2.2.1 (hC.2.2.2.2.1 _ hw) (va_AO.use (hC.2.2.2.2.2.1.2.1 _ (hT.2.2.2.2.2.2.2.2.2.2.2.2.2.2.2.1 _ hcr))) rfl hd rfl hn (by omega) hc1 hc2 fun cA kA comp f1 f2 f3 f4 => ?_
  have hcA : cA = DA (.object (nm c)) := by
    obtain ⟨_, _, -, -, -, h4⟩ := (hC.2.2.2.2.2.1.2.2.1 _ hk).2
    exact Option.some.inj (f1.symm.trans h4)
  subst hcA
  refine k _ ?_ (by rw [Array.size_push]) (fun q hq => by rw [Array.getElem?_push, if_neg (Nat.ne_of_lt hq)])
  rw [Array.getElem?_push_size, ← arrV_new]
theorem am_i_ldcM {idx x y : Nat} (hT : am_Tab B nm my cl Ts NW) (hd : decode I.2.1 pc = .ok (.ldc idx, 2)) (hb : B.1 I.1 idx = (15, x, y)) (hP : am_P l B nm cl Ts NW D DA sa base I h0 d Q Z (pc + 2, ls, .retAddr 3 :: st, h)) : am_P l B nm cl Ts NW D DA sa base I h0 d Q Z (pc, ls, st, h) :=
  am_gost (fun a => List.forall_mem_cons.mpr ⟨rfl, a⟩) (fun p e R s m args below meth c Qm H locs lsm cells slots hC _ hR k => va_ldcM hC.1 hC.2.1 hC.2.2.2.1 (hC.2.2.2.2.1 _ (hT.2.2.2.2.2.2.2.2.2.2.2.2.2.2.2.2.2.2.2.1 _ _ _ _ hb)) hC.2.2.2.2.2.1.2.2.2.2.2 hd k) hP
theorem am_i_getClass {idx a x y : Nat} {vs : List Value} (hT : am_Tab B nm my cl Ts NW) (hd1 : 1 ≤ d) (hd : decode I.2.1 pc = .ok (.invokevirtual idx, 3)) (hb : B.1 I.1 idx = (14, x, y)) (hrl : rest.length ≤ 8) (ha : h[a]? = some (.inr (.object "java/lang/Object", vs))) (hP : am_P l B nm cl Ts NW D DA sa base I h0 d Q Z (pc + 3, ls, .retAddr 3 :: rest, h)) : am_P l B nm cl Ts NW D DA sa base I h0 d Q Z (pc, ls, .ref a :: rest, h) := by
  refine am_go (F' := (pc + 3, ls, .retAddr 3 :: rest, h)) (fun ⟨q1, q2, q3, q4⟩ => ⟨List.forall_mem_cons.mpr ⟨rfl, am_tl q1⟩, q2, q3, q4⟩) (Nat.le_refl _) (Nat.le_refl _)
    (fun hF p e R s m args below meth cc Qm hC hfr hlo _ _ kk H locs lsm cells slots hR => ?_) hP
  obtain ⟨w1, w2, w3, w4, w5⟩ := hT.2.2.2.2.2.2.2.2.2.2.2.2.2.2.2.2.2.2.1 _ _ _ _ hb
  obtain ⟨_, _, -, -, -, k4⟩ := (hC.2.2.2.2.2.1.2.2.1 (.object "java/lang/Object") (Or.inr (Or.inr (Or.inr ⟨_, by decide, rfl⟩)))).2
  refine va_getC hC.1 hC.2.1 (by rw [hC.2.2.1]; exact (hR.1.1.trans hF.2.2.2).symm) hC.2.2.2.1 (hC.2.2.2.2.1 _ w1) (va_Nw.use rfl (hC.2.2.2.2.2.1.2.1 _ w2)) (hC.2.2.2.2.1 _ w3) (hC.2.2.2.2.1 _ w4) (hC.2.2.2.2.1 _ w5) hC.2.2.2.2.2.1.2.2.2.2.2 ⟨_, hR.2.1.2 a _ ha, rfl, k4⟩ (by omega) ?_ hd (kk H locs lsm cells slots hR)
  have := am_sum1 (sa := sa) (base := base) rest (am_tl hF.1)
  omega
theorem am_cpy_len {vs ws : List Value} {sp dp n : Nat} : (am_cpy vs ws sp dp n).length = ws.length := by simp [am_cpy]
theorem am_cpy_mem {vs ws : List Value} {sp dp n : Nat} (h1 : ∀ v ∈ vs, v.category = 1) (h2 : ∀ v ∈ ws, v.category = 1) : ∀ v ∈ am_cpy vs ws sp dp n, v.category = 1 := by
  intro v hv
  obtain ⟨j, hj, rfl⟩ := List.mem_map.mp hv
  have key : ∀ (l : List Value) (i : Nat), (∀ v ∈ l, v.category = 1) → (l.getD i .null).category = 1 := by
    intro l i hl
    rw [List.getD_eq_getElem?_getD]
    cases hi : l[i]? with
    | none => rfl
    | some w => exact hl w (List.mem_of_getElem? hi)
  show (if _ then _ else _ : Value).category = 1
  split
  · exact key vs _ h1
  · exact key ws _ h2
theorem am_i_copy {idx a b x y : Nat} {n dp sp : Int32} {ty : FieldType} {vs ws : List Value} (hT : am_Tab B nm my cl Ts NW) (hd1 : 1 ≤ d) (hd : decode I.2.1 pc = .ok (.invokestatic idx, 3)) (hb : B.1 I.1 idx = (13, x, y)) (hrl : rest.length ≤ 8) (hbb : h[b]? = some (.inr (ty, vs))) (ha : h[a]? = some (.inr (ty, ws))) (hty : ty = .byte ∧ (∀ v ∈ vs, fits .byte v = true) ∨ ty = .object "java/lang/Object" ∧ ∀ v ∈ vs, v = .null ∨ ∃ q fs, v = .ref q ∧ h[q]? = some (.inl (7, fs)))
    (h1 : ¬ sp < 0) (h2 : ¬ dp < 0) (h3 : ¬ n < 0) (h4 : sp.toNatClampNeg + n.toNatClampNeg ≤ vs.length) (h5 : dp.toNatClampNeg + n.toNatClampNeg ≤ ws.length)
    (hP : am_P l B nm cl Ts NW D DA sa base I h0 d Q Z (pc + 3, ls, rest, h.set a (.inr (ty, am_cpy vs ws sp.toNatClampNeg dp.toNatClampNeg n.toNatClampNeg)))) : am_P l B nm cl Ts NW D DA sa base I h0 d Q Z (pc, ls, .int n :: .int dp :: .ref a :: .int sp :: .ref b :: rest, h) := by
  have hsz : am_sl (h.set a (.inr (ty, am_cpy vs ws sp.toNatClampNeg dp.toNatClampNeg n.toNatClampNeg))) = am_sl h := am_sl_set h a _ _ ha (am_cpy_len)
  have htk : am_tyk ty := by
    rcases hty with ⟨rfl, -⟩ | ⟨rfl, -⟩
    · exact Or.inr (Or.inl rfl)
    · exact Or.inr (Or.inr (Or.inr ⟨_, by decide, rfl⟩))
  refine am_go (F' := (pc + 3, ls, rest, h.set a (.inr (ty, am_cpy vs ws sp.toNatClampNeg dp.toNatClampNeg n.toNatClampNeg)))) (fun ⟨q1, q2, q3, q4⟩ => ⟨am_tl (am_tl (am_tl (am_tl (am_tl q1)))), q2, am_v1_set q3 (am_cpy_mem (am_mem_h q3 hbb) (am_mem_h q3 ha)), q4⟩) (Nat.le_of_eq List.length_set.symm) (Nat.le_of_eq hsz.symm)
    (fun hF p e R s m args below meth cc Qm hC hfr hlo _ _ kk H locs lsm cells slots hR => ?_) hP
  have nn : ∀ z : Int32, ¬ z < 0 → z.toInt = (z.toNatClampNeg : Int) := by
    intro z hz
    have hz0 : (0 : Int) ≤ z.toInt := by
      have := Int32.not_lt.mp hz
      simpa using Int32.le_iff_toInt_le.mp this
    show z.toInt = ((z.toInt.toNat : Nat) : Int)
    omega
  obtain ⟨w1, w2, w3, w4⟩ := hT.2.2.2.2.2.2.2.2.2.2.2.2.2.2.2.2.2.1 _ _ _ _ hb
  have hK := hC.2.2.2.2.2.1
  intro T hTT X
  have hc0 := hR.2.1.2 b _ hbb
  have hc1 := hR.2.1.2 a _ ha
  obtain ⟨-, k0, hk0, cm0, hkk0⟩ := (hK.2.2.1 _ htk).1 vs.length (fun j => am_cv sa base (vs.getD j .null))
  obtain ⟨-, k1, hk1, cm1, hkk1⟩ := (hK.2.2.1 _ htk).1 ws.length (fun j => am_cv sa base (ws.getD j .null))
  have hsum := am_sum1 (sa := sa) (base := base) rest (am_tl (am_tl (am_tl (am_tl (am_tl hF.1)))))
  have hnw : nativeFrameWords "java/lang/System" "arraycopy" 5 = 7 := by decide
  obtain ⟨vm', X', step⟩ := X.arraycopy hC.1 hC.2.2.2.1 (hC.2.2.2.2.1 _ w1) (hC.2.2.2.2.1 _ w2) (hC.2.2.2.2.1 _ w3) (hC.2.2.2.2.1 _ w4) (src := base + b) (dst := base + a) (cs := arrV (DA ty) vs.length (fun j => am_cv sa base (vs.getD j .null))) (cd := arrV (DA ty) ws.length (fun j => am_cv sa base (ws.getD j .null))) (srcPos := sp) (destPos := dp) (n := n) (by rw [hTT]; exact hc0) (by rw [hTT]; exact hc1)
    (fun _ h => by cases h) (fun _ h => by cases h) (fun h => by cases h) (fun h => by cases h) hk0 hk1 hkk0 hkk1 (by rcases hty with ⟨rfl, -⟩ | ⟨rfl, -⟩ <;> rfl) h1 h2 h3
    (by rw [nn sp h1, nn n h3, arrV_size]; omega)
    (by rw [nn dp h2, nn n h3, arrV_size]; omega)
    (fun vm₁ hal i hi => by
      have e : (arrV (DA ty) vs.length (fun j => am_cv sa base (vs.getD j .null))).slots.getD (sp.toNatClampNeg + i) .null = am_cv sa base (vs.getD (sp.toNatClampNeg + i) .null) := by
        rw [Array.getD_eq_getD_getElem?, arrV_read _ _ (by omega)]
        rfl
      rw [e]
      have hlt : sp.toNatClampNeg + i < vs.length := by omega
      obtain ⟨v, hv⟩ : ∃ v, vs[sp.toNatClampNeg + i]? = some v := ⟨_, List.getElem?_eq_getElem hlt⟩
      rw [am_getD hv]
      have hm := List.mem_of_getElem? hv
      rcases hty with ⟨rfl, hq⟩ | ⟨rfl, hq⟩
      · have hf := hq v hm
        cases v with
        | int x => exact ⟨hf, trivial⟩
        | _ => cases hf
      · rcases hq v hm with rfl | ⟨q, fs, rfl, hh⟩
        · exact ⟨rfl, trivial⟩
        · obtain ⟨r, hr, -, cell, g1, g2, g3, -⟩ := hR.2.1.2 q _ hh
          obtain ⟨hfc, kC, hkC, hkind⟩ := am_cls hK.1 hr
          obtain ⟨kA, comp, r1, r2, r3, -⟩ := (hK.2.2.1 _ htk).2
          cases hk1.symm.trans r1
          cases hkk1.symm.trans r2
          obtain ⟨kE, hkE, -⟩ := Vm.findClass_spec r3
          obtain ⟨kC', hkC', -⟩ := hal.2.2 _ _ hkC
          obtain ⟨kE', hkE', -⟩ := hal.2.2 _ _ hkE
          refine ⟨rfl, cell, (show T.heap[base + q]? = some cell by rw [hTT]; exact g1), (fun q h => by rw [g3] at h; cases h), ⟨kC', by rw [g2]; exact hkC'⟩, ?_, ?_⟩
          · exact ⟨kE', hkE'⟩
          · show vm₁.assignable _ _ = true
            rw [hal.assignable, g2]
            obtain ⟨c0, t0, f1, f2, f3⟩ := Cond.castable_spec (va_Nw.use (A := args) rfl (hK.2.1 _ hT.2.2.2.2.2.2.2.2.2.2.2.2.2.2.1))
            rw [← (hT.1 7 r hr).1] at f1
            cases hfc.symm.trans f1
            cases r3.symm.trans f2
            exact f3)
    (g := F0 m pc lsm (.int n :: .int dp :: .ref (base + a) :: .int sp :: .ref (base + b) :: rest.map (am_cv sa base))) rfl (by rw [hC.2.2.1]; exact hR.1.1.trans hF.2.2.2) (rest := rest.map (am_cv sa base)) rfl (by rw [hC.2.1]; exact hd) (by omega) (by show 2 * 0 + _ + _ ≤ _; omega)
  have e1 : copied (arrV (DA ty) vs.length (fun j => am_cv sa base (vs.getD j .null))) (arrV (DA ty) ws.length (fun j => am_cv sa base (ws.getD j .null))) sp dp n = arrV (DA ty) (am_cpy vs ws sp.toNatClampNeg dp.toNatClampNeg n.toNatClampNeg).length (fun j => am_cv sa base ((am_cpy vs ws sp.toNatClampNeg dp.toNatClampNeg n.toNatClampNeg).getD j .null)) := by
    rw [am_cpy_len]
    refine (va_copied id (DA ty) (DA ty) (fun j => am_cv sa base (vs.getD j .null)) (fun j => am_cv sa base (ws.getD j .null)) h4).trans (am_arrV_ext (fun j hj => ?_))
    have e2 : (am_cpy vs ws sp.toNatClampNeg dp.toNatClampNeg n.toNatClampNeg).getD j .null = va_cpy (fun j => vs.getD j .null) (fun j => ws.getD j .null) sp.toNatClampNeg dp.toNatClampNeg n.toNatClampNeg j := by
      rw [List.getD_eq_getElem?_getD, am_cpy, List.getElem?_map, List.getElem?_range hj]
      rfl
    rw [e2]
    show (if _ then _ else _) = am_cv sa base (if _ then _ else _)
    split <;> rfl
  rw [e1] at X' step
  have hl : base + a < H.size := (Array.getElem?_eq_some_iff.mp hc1).1
  have oq : ∀ (x : Cell) (q : Nat), q ≠ base + a → (H.setIfInBounds (base + a) x)[q]? = H[q]? := fun x q hq => by simp [Array.getElem?_setIfInBounds, Ne.symm hq]
  have hheap : ∀ x : Cell, ((T.setVm vm').setCell (base + a) x).heap = H.setIfInBounds (base + a) x := fun x => by rw [← hTT]; rfl
  obtain ⟨t, a1, b1⟩ := kk _ _ lsm cells slots ⟨hR.1, hR.2.1.set (H1 := H.setIfInBounds (base + a) _) (by simp) (oq _) (show (H.setIfInBounds (base + a) _)[base + a]? = some _ by simp [Array.getElem?_setIfInBounds, hl]), ⟨by simp; exact hR.2.2.1.1, fun q g1 g2 => by
      rw [oq _ q (fun e => g2 (by rw [e]; exact Nat.le_add_right _ _))]
      exact hR.2.2.1.2.1 q g1 g2, fun q hq => by
      rcases List.mem_append.mp hq with h | h
      · exact hR.2.2.1.2.2 q h
      · obtain ⟨z, -, hz⟩ := List.mem_map.mp h
        rw [← hz]
        exact Nat.le_add_right _ _⟩, by simpa using hR.2.2.2.1, by show am_sl h0 + slots = am_sl (h.set a _); rw [hsz]; exact hR.2.2.2.2⟩ _ (hheap _) X'
  exact ⟨t, step t a1, b1⟩
theorem am_i_mmax {idx x y : Nat} {a b : Int32} (hT : am_Tab B nm my cl Ts NW) (hd1 : 1 ≤ d) (hd : decode I.2.1 pc = .ok (.invokestatic idx, 3)) (hb : B.1 I.1 idx = (16, x, y)) (hrl : rest.length ≤ 8) (hP : am_P l B nm cl Ts NW D DA sa base I h0 d Q Z (pc + 3, ls, .int (if a < b then b else a) :: rest, h)) : am_P l B nm cl Ts NW D DA sa base I h0 d Q Z (pc, ls, .int b :: .int a :: rest, h) := by
  refine am_go (F' := (pc + 3, ls, .int (if a < b then b else a) :: rest, h)) (fun ⟨q1, q2, q3, q4⟩ => ⟨List.forall_mem_cons.mpr ⟨rfl, am_tl (am_tl q1)⟩, q2, q3, q4⟩) (Nat.le_refl _) (Nat.le_refl _)
    (fun hF p e R s m args below meth cc Qm hC hfr hlo hc1 hc2 kk H locs lsm cells slots hR => ?_) hP
  obtain ⟨w1, w2, w3, w4⟩ := hT.2.2.2.2.2.2.2.2.2.2.2.2.2.2.2.2.2.2.2.2.1 _ _ _ _ hb
  have := am_sum1 (sa := sa) (base := base) rest (am_tl (am_tl hF.1))
  have e1 : h0.length + cells = h.length := hR.2.2.2.1
  have e2 : am_sl h0 + slots = am_sl h := hR.2.2.2.2
  simp only at hc1 hc2
  exact va_mmax hC.1 hC.2.1 (by rw [hC.2.2.1]; exact (hR.1.1.trans hF.2.2.2).symm) hC.2.2.2.1 (hC.2.2.2.2.1 _ w1) (hC.2.2.2.2.1 _ w2) (hC.2.2.2.2.1 _ w3) (hC.2.2.2.2.1 _ w4) (by omega) (by omega) (by omega) (by omega) hd (kk H locs lsm cells slots hR)
theorem am_i_mmin {idx x y : Nat} {a b : Int32} (hT : am_Tab B nm my cl Ts NW) (hd1 : 1 ≤ d) (hd : decode I.2.1 pc = .ok (.invokestatic idx, 3)) (hb : B.1 I.1 idx = (17, x, y)) (hrl : rest.length ≤ 8) (hP : am_P l B nm cl Ts NW D DA sa base I h0 d Q Z (pc + 3, ls, .int (if b < a then b else a) :: rest, h)) : am_P l B nm cl Ts NW D DA sa base I h0 d Q Z (pc, ls, .int b :: .int a :: rest, h) := by
  refine am_go (F' := (pc + 3, ls, .int (if b < a then b else a) :: rest, h)) (fun ⟨q1, q2, q3, q4⟩ => ⟨List.forall_mem_cons.mpr ⟨rfl, am_tl (am_tl q1)⟩, q2, q3, q4⟩) (Nat.le_refl _) (Nat.le_refl _)
    (fun hF p e R s m args below meth cc Qm hC hfr hlo hc1 hc2 kk H locs lsm cells slots hR => ?_) hP
  obtain ⟨w1, w2, w3, w4⟩ := hT.2.2.2.2.2.2.2.2.2.2.2.2.2.2.2.2.2.2.2.2.2 _ _ _ _ hb
  have := am_sum1 (sa := sa) (base := base) rest (am_tl (am_tl hF.1))
  have e1 : h0.length + cells = h.length := hR.2.2.2.1
  have e2 : am_sl h0 + slots = am_sl h := hR.2.2.2.2
  simp only at hc1 hc2
  exact va_mmin hC.1 hC.2.1 (by rw [hC.2.2.1]; exact (hR.1.1.trans hF.2.2.2).symm) hC.2.2.2.1 (hC.2.2.2.2.1 _ w1) (hC.2.2.2.2.1 _ w2) (hC.2.2.2.2.1 _ w3) (hC.2.2.2.2.1 _ w4) (by omega) (by omega) (by omega) (by omega) hd (kk H locs lsm cells slots hR)
end AMN
end
section
/-! calls -/
section AMC
variable {l : Launch} {B : am_B} {nm : Nat → String} {my : Nat → MethodName} {cl : List vw_C} {Ts NW : List Cond} {D : va_G} {DA : FieldType → ClassId} {sa : Nat → Nat} {base : Nat}
theorem am_K.to {s U : State} (hK : am_K B nm cl NW D DA sa base s) (hvm : s.vm.Alike U.vm) (hnw : ∀ w ∈ NW, va_Nw w s → va_Nw w U) (hfl : ∀ o i r n d, va_Nw (.fieldLink o i r n d) s → va_Nw (.fieldLink o i r n d) U) (hh : ∀ a : Nat, a < s.heap.size → ¬ am_A base a → U.heap[a]? = s.heap[a]?) : am_K B nm cl NW D DA sa base U := by
  obtain ⟨h1, h2, h3, h4, h5, h6⟩ := hK
  refine ⟨h1.moved hvm, fun w hw => hnw w hw (h2 w hw), fun ty ht => ⟨arrOfT_moved hvm (h3 ty ht).1, (h3 ty ht).2.moved hvm⟩, fun j ty vs hj => ⟨(h4 j ty vs hj).1, va_T.moved hvm ((h4 j ty vs hj).2.kept hh)⟩, fun o idx j y hb => ?_, h6.moved hvm⟩
  obtain ⟨C, n, d, ref, g1, g2, g3⟩ := h5 o idx j y hb
  exact ⟨C, n, d, ref, va_Z.moved hvm (g1.kept hh), g2, g3.imp (hfl _ _ _ _ _) id⟩
theorem am_nw_warm {w : Cond} {s U : State} (hk : am_nwk w) (hW : s.WarmedH U.vm) (h : va_Nw w s) : va_Nw w U := by
  rcases hk with ⟨a, i, b, n, d, hh, rfl⟩ | ⟨a, i, x, hh, rfl⟩ | ⟨C, T, rfl⟩ | ⟨C, rfl⟩ | ⟨x, rfl⟩
  · exact va_Nw.warmF hW h
  · exact va_Nw.warmM hW h
  · exact va_Nw.warmC hW h
  · exact va_AO.moved hW.alike h
  · exact va_Nw.warmD hW h
theorem am_nw_same {w : Cond} {s U : State} (hk : am_nwk w) (hv : s.vm = U.vm) (h : va_Nw w s) : va_Nw w U := by
  rcases hk with ⟨a, i, b, n, d, hh, rfl⟩ | ⟨a, i, x, hh, rfl⟩ | ⟨C, T, rfl⟩ | ⟨C, rfl⟩ | ⟨x, rfl⟩
  · exact va_Nw.same rfl hv h
  · exact va_Nw.same rfl hv h
  · exact va_Nw.same rfl hv h
  · exact va_AO.moved (by rw [hv]; exact Vm.Alike.refl _) h
  · exact va_Nw.same rfl hv h
/-- a method's start -/
def am_Pc (B : am_B) (nm : Nat → String) (cl : List vw_C) (NW : List Cond) (D : va_G) (DA : FieldType → ClassId) (sa : Nat → Nat) (base : Nat) (as : List Value) (h : am_H) : Array Value → State → Prop := va_Pc (as.map (am_cv sa base)) (fun U => am_Wd D DA sa base cl h U.heap ∧ am_K B nm cl NW D DA sa base U)
def am_Qc (cl : List vw_C) (D : va_G) (DA : FieldType → ClassId) (sa : Nat → Nat) (base : Nat) (v : Option Value) (h' : am_H) : Array Value → State → Outcome → State → Prop := fun _ st o t => o = .returned (v.map (am_cv sa base)) ∧ am_Wd D DA sa base cl h' t.heap ∧ va_F (am_A base) st t
theorem am_Pc_blind {as : List Value} {h : am_H} (hT : am_Tab B nm my cl Ts NW) : FrameBlind (am_Pc B nm cl NW D DA sa base as h) := by
  intro a U g mk hp
  obtain ⟨h1, h2, h3⟩ := hp
  exact ⟨h1, h2, h3.to (Vm.Alike.refl U.vm) (fun w hw h => am_nw_same (s := U) (U := U.calling g mk a) (hT.2.2.2.2.2.2.2.2.2.2.2.2.2.2.2.2.1 w hw) rfl h) (fun o i r n d h => va_Nw.same (u := U) (U := U.calling g mk a) rfl rfl h) (fun a _ _ => rfl)⟩
theorem am_K_warm {s U : State} {H : Heap} {locs : List Loc} (hT : am_Tab B nm my cl Ts NW) (hK : am_K B nm cl NW D DA sa base s) (hS : va_S (am_A base) s.heap H locs) (hU : U.heap = H) (hW : s.WarmedH U.vm) : am_K B nm cl NW D DA sa base U :=
  hK.to hW.alike (fun w hw h => am_nw_warm (hT.2.2.2.2.2.2.2.2.2.2.2.2.2.2.2.2.1 w hw) hW h) (fun o i r n d h => word_at (args := #[]) hW (Or.inl rfl) h) (fun a h1 h2 => by rw [hU]; exact hS.2.1 a h1 h2)
/-- the contract that a call of the small machine has -/
def am_Met (l : Launch) (B : am_B) (nm : Nat → String) (my : Nat → MethodName) (cl : List vw_C) (Ts NW : List Cond) (D : va_G) (DA : FieldType → ClassId) (sa : Nat → Nat) (base d mi : Nat) (I : am_I) (as : List Value) (h : am_H) (v : Option Value) (h' : am_H) : Prop :=
  Met l (my mi) (Cond.code (my mi) I.2.1 I.2.2.1 I.2.2.2.1 :: Ts) { frames := d, cells := h'.length - h.length, slots := am_sl h' - am_sl h, locals := 64 * d } (am_Pc B nm cl NW D DA sa base as h) (am_Qc cl D DA sa base v h') (h'.length - h.length) (am_sl h' - am_sl h) (am_A base)
def am_Sim (l : Launch) (B : am_B) (nm : Nat → String) (my : Nat → MethodName) (cl : List vw_C) (Ts NW : List Cond) (D : va_G) (DA : FieldType → ClassId) (sa : Nat → Nat) (base d : Nat) : Prop :=
  ∀ (mi : Nat) (as : List Value) (h : am_H) (Q : Option Value → am_H → Prop), am_T B nm d mi as h Q → am_v1 h → (∀ v ∈ as, v.category = 1) → ∃ (v : Option Value) (h' : am_H) (I : am_I), Q v h' ∧ h.length ≤ h'.length ∧ am_sl h ≤ am_sl h' ∧ am_v1 h' ∧ (∀ w, v = some w → w.category = 1) ∧ B.2.1 mi = some I ∧ am_Met l B nm my cl Ts NW D DA sa base d mi I as h v h'
variable {p : Program} {e : Env} {R : Room} {s : State} {m : MethodId} {args : Array Value} {below : List Frame} {meth : Method} {c : Code} {H : Heap} {locs : List Loc} {cells slots mc ms : Nat} {Qm : State → Prop}
theorem am_callW {pc : Nat} {lsm : Array Slot} {st0 rest : List Value} {v : Option Value} {h' : am_H} {a : Array Value} (hr : va_Run p l e R s m args below meth c H locs cells slots mc ms (F0 m pc lsm st0) rest (am_Qc cl D DA sa base v h' a) (am_A base)) (hS : va_S (am_A base) s.heap H locs)
    (kk : ∀ (H1 : Heap) (locs1 : List Loc), am_Wd D DA sa base cl h' H1 → va_S (am_A base) s.heap H1 locs1 → W p l e R s m args below meth c H1 locs1 (cells + mc) (slots + ms) Qm (F0 m (pc + 3) lsm ((v.map (am_cv sa base)).toList ++ rest))) : W p l e R s m args below meth c H locs cells slots Qm (F0 m pc lsm st0) := by
  intro T hT X
  obtain ⟨v', st₀, t, T', L, h0, X', hL, e1, e2, ⟨hv, hw, hz, hk⟩, st⟩ := hr T hT X
  cases hv
  rw [h0] at hz hk
  obtain ⟨t2, a1, b1⟩ := kk T'.heap (locs ++ L) (by rw [e1]; exact hw)
    ⟨Nat.le_trans hS.1 (by rw [e1]; exact hz), fun q h1 h2 => by rw [e1, hk q (Nat.lt_of_lt_of_le h1 hS.1) h2]; exact hS.2.1 q h1 h2, fun q hq => by
      rcases List.mem_append.mp hq with h | h
      · exact hS.2.2 q h
      · exact hL q h⟩ T' rfl X'
  exact ⟨t2, st t2 a1, b1⟩
variable {I : am_I} {h0 : am_H} {d : Nat} {Q : Option Value → am_H → Prop} {Z : Option Value → am_H → State → Array Value → List Frame → State → Prop} {pc : Nat} {ls : List (Option Value)} {rest : List Value} {h : am_H}
/-- the words of a callee are among the caller's -/
theorem am_good {w0 : Cond} (hT : am_Tab B nm my cl Ts NW) (h0 : w0 ∈ Ts) : GoodIn Ts (w0 :: Ts) := by
  intro w hw
  rcases List.mem_cons.mp hw with rfl | hw
  · exact ⟨h0, hT.2.2.2.2.2.2.2.2.2.2.2.2.1 _ h0⟩
  · exact ⟨hw, hT.2.2.2.2.2.2.2.2.2.2.2.2.1 _ hw⟩
theorem am_cats {st : List Value} {v : Option Value} (h1 : ∀ w, v = some w → w.category = 1) (h2 : ∀ w ∈ st, w.category = 1) : ∀ w ∈ v.toList ++ st, w.category = 1 := by
  intro w hw
  rcases List.mem_append.mp hw with h | h
  · exact h1 w (Option.mem_toList.mp h)
  · exact h2 w h
/-- a call, out of the callee's contract and the way the instruction finds it -/
theorem am_gocall {mi : Nat} {as st : List Value} (hS : am_Sim l B nm my cl Ts NW D DA sa base d) (hst : (∀ v ∈ st, v.category = 1) → (∀ v ∈ as, v.category = 1) ∧ ∀ v ∈ rest, v.category = 1) (ht : am_T B nm d mi as h (fun v h' => am_P l B nm cl Ts NW D DA sa base I h0 (d + 1) Q Z (pc + 3, ls, v.toList ++ rest, h')))
    (hrun : ∀ (v : Option Value) (h' : am_H) (J : am_I), h.length ≤ h'.length → am_sl h ≤ am_sl h' → B.2.1 mi = some J → am_Met l B nm my cl Ts NW D DA sa base d mi J as h v h' → ∀ (p : Program) (e : Env) (R : Room) (s : State) (m : MethodId) (args : Array Value) (below : List Frame) (meth : Method) (c : Code) (H : Heap) (locs : List Loc) (lsm : Array Slot) (cells slots : Nat), (∀ v ∈ st, v.category = 1) → ls.length = I.2.2.1 → am_Ctx B nm cl Ts NW D DA sa base I p s m args meth c → d + 1 ≤ R.frames → 64 * (d + 1) ≤ R.locals → cells + (h'.length - h.length) ≤ R.cells → slots + (am_sl h' - am_sl h) ≤ R.slots → am_Rel cl D DA sa base h0 (pc, ls, st, h) s H locs lsm cells slots →
      ∃ a : Array Value, va_Run p l e R s m args below meth c H locs cells slots (h'.length - h.length) (am_sl h' - am_sl h) (F0 m pc lsm (st.map (am_cv sa base))) (rest.map (am_cv sa base)) (am_Qc cl D DA sa base v h' a) (am_A base)) :
    am_P l B nm cl Ts NW D DA sa base I h0 (d + 1) Q Z (pc, ls, st, h) := by
  intro hF
  obtain ⟨q1, q2⟩ := hst hF.1
  obtain ⟨v, h1, J, hP, g1, g2, g3, g4, g5, g6⟩ := hS mi as h _ ht hF.2.2.1 q1
  obtain ⟨v', h', hQ, k1, k2, k3, k4, k5⟩ := hP ⟨am_cats g4 q2, hF.2.1, g3, hF.2.2.2⟩
  refine ⟨v', h', hQ, Nat.le_trans g1 k1, Nat.le_trans g2 k2, k3, k4, ?_⟩
  intro p e R s m args below meth c hC hf hlo hc hsl H locs lsm cells slots hR
  have e1 : h0.length + cells = h.length := hR.2.2.2.1
  have e2 : am_sl h0 + slots = am_sl h := hR.2.2.2.2
  have k1' : h1.length ≤ h'.length := k1
  have k2' : am_sl h1 ≤ am_sl h' := k2
  obtain ⟨a, hr⟩ := hrun v h1 J g1 g2 g5 g6 p e R s m args below meth c H locs lsm cells slots hF.1 hF.2.2.2 hC hf hlo (by omega) (by omega) hR
  refine am_callW hr hR.2.2.1 (fun H1 locs1 w1 s1 => ?_)
  have := k5 p e R s m args below meth c hC hf hlo hc hsl H1 locs1 lsm (cells + (h1.length - h.length)) (slots + (am_sl h1 - am_sl h)) ⟨hR.1, w1, s1, by show _ = h1.length; omega, by show _ = am_sl h1; omega⟩
  refine W.eq ?_ this
  show F0 m (pc + 3) lsm _ = F0 m (pc + 3) lsm ((v.toList ++ rest).map (am_cv sa base))
  rw [List.map_append]
  congr 2
  cases v <;> rfl
end AMC
end
section
/-! the instructions that call -/
section AMV
variable {l : Launch} {B : am_B} {nm : Nat → String} {my : Nat → MethodName} {cl : List vw_C} {Ts NW : List Cond} {D : va_G} {DA : FieldType → ClassId} {sa : Nat → Nat} {base : Nat}
variable {I : am_I} {h0 : am_H} {d : Nat} {Q : Option Value → am_H → Prop} {Z : Option Value → am_H → State → Array Value → List Frame → State → Prop} {pc : Nat} {ls : List (Option Value)} {rest : List Value} {h : am_H}
theorem am_rev {as rest : List Value} (h : ∀ v ∈ as.reverse ++ rest, v.category = 1) : (∀ v ∈ as, v.category = 1) ∧ ∀ v ∈ rest, v.category = 1 :=
  ⟨fun v hv => h v (List.mem_append_left _ (List.mem_reverse.mpr hv)), fun v hv => h v (List.mem_append_right _ hv)⟩
theorem am_roomW {m : MethodId} {lsm : Array Slot} {st : List Value} (h : ∀ v ∈ rest, v.category = 1) (hr : rest.length ≤ 8) : 2 * (F0 m pc lsm st).monitorRoom + ((rest.map (am_cv sa base)).map fun v => v.category).sum ≤ 8 := by
  show 2 * 0 + _ ≤ 8
  rw [am_sum1 rest h]
  omega
theorem am_i_virtual {idx mi n b : Nat} {as : List Value} {J : am_I} {fs : List Value} (hT : am_Tab B nm my cl Ts NW) (hS : am_Sim l B nm my cl Ts NW D DA sa base d) (hd : decode I.2.1 pc = .ok (.invokevirtual idx, 3)) (hb : B.1 I.1 idx = (4, mi, n)) (hn : as.length = n) (hrl : rest.length ≤ 8) (hJ : B.2.1 mi = some J) (hbb : h[b]? = some (.inl (J.1, fs)))
    (ht : am_T B nm d mi (.ref b :: as) h (fun v h' => am_P l B nm cl Ts NW D DA sa base I h0 (d + 1) Q Z (pc + 3, ls, v.toList ++ rest, h'))) : am_P l B nm cl Ts NW D DA sa base I h0 (d + 1) Q Z (pc, ls, as.reverse ++ .ref b :: rest, h) := by
  refine am_gocall hS (fun q => ⟨List.forall_mem_cons.mpr ⟨rfl, (am_rev q).1⟩, am_tl (am_rev q).2⟩) ht (fun v h' J' g1 g2 hJ' hM p e R s m args below meth c H locs lsm cells slots hst hll hC hf hlo hc1 hc2 hR => ?_)
  cases hJ.symm.trans hJ'
  obtain ⟨w1, w2, w3, w4⟩ := hT.2.2.2.1 _ _ _ _ hb
  obtain ⟨m1, m2, m3, m4, m5, m6, m7⟩ := hT.2.1 mi J hJ
  have hG : GoodIn Ts (wsV (nm I.1) idx (my mi).cls (my mi) (Cond.code (my mi) J.2.1 J.2.2.1 J.2.2.2.1 :: Ts)) := by
    intro w hw
    rcases List.mem_append.mp hw with hw | hw
    · have hin : w ∈ Ts := by
        simp only [List.mem_cons, List.not_mem_nil, or_false] at hw
        rcases hw with rfl | rfl | rfl | rfl
        · exact w1
        · exact w2
        · exact w3
        · exact m7
      exact ⟨hin, hT.2.2.2.2.2.2.2.2.2.2.2.2.1 _ hin⟩
    · exact am_good hT m1 w hw
  obtain ⟨r, hr, -, cell, c1, c2, c3, -⟩ := hR.2.1.2 b _ hbb
  have hfc := (hC.2.2.2.2.2.1.1.1 _ r hr).2.1
  rw [(hT.1 _ r hr).1, ← m2] at hfc
  refine ⟨_, va_runV (As := as.map (am_cv sa base)) (b := base + b) (nL := I.2.2.1) ⟨hC.1, hC.2.1, hC.2.2.1, hC.2.2.2.1, hC.2.2.2.2.1⟩ hM (cwV n hC.2.2.2.2.1 hG rfl rfl rfl ⟨rfl, m4.1, m4.2, w4⟩ ⟨hf, ?_⟩) ⟨am_Pc_blind hT, ⟨cell, c1, by rw [c3]; rfl, by rw [c2]; exact hfc⟩, fun U hU hW => ⟨rfl, by rw [hU]; exact hR.2.1, am_K_warm hT hC.2.2.2.2.2.1 hR.2.2.1 hU hW⟩⟩ rfl (by rw [List.length_map]; exact hn) (hR.1.1.trans hll) ?_ (am_roomW (am_tl (am_rev hst).2) hrl) hd ⟨hc1, hc2⟩⟩
  · show 8 + (J.2.2.1 + 11) + 64 * d ≤ _
    omega
  · show (as.reverse ++ .ref b :: rest).map (am_cv sa base) = _
    rw [List.map_append, List.map_reverse]
    rfl
theorem am_i_static {idx mi n : Nat} {as : List Value} (hT : am_Tab B nm my cl Ts NW) (hS : am_Sim l B nm my cl Ts NW D DA sa base d) (hd : decode I.2.1 pc = .ok (.invokestatic idx, 3)) (hb : B.1 I.1 idx = (5, mi, n)) (hn : as.length = n) (hrl : rest.length ≤ 8)
    (ht : am_T B nm d mi as h (fun v h' => am_P l B nm cl Ts NW D DA sa base I h0 (d + 1) Q Z (pc + 3, ls, v.toList ++ rest, h'))) : am_P l B nm cl Ts NW D DA sa base I h0 (d + 1) Q Z (pc, ls, as.reverse ++ rest, h) := by
  refine am_gocall hS (fun q => am_rev q) ht (fun v h' J g1 g2 hJ hM p e R s m args below meth c H locs lsm cells slots hst hll hC hf hlo hc1 hc2 hR => ?_)
  obtain ⟨w1, w2, w4⟩ := hT.2.2.2.2.1 _ _ _ _ hb
  obtain ⟨m1, m2, m3, m4, m5, m6, m7⟩ := hT.2.1 mi J hJ
  have hG : GoodIn Ts (va_wsS (nm I.1) idx (my mi) (Cond.code (my mi) J.2.1 J.2.2.1 J.2.2.2.1 :: Ts)) := by
    intro w hw
    rcases List.mem_append.mp hw with hw | hw
    · have hin : w ∈ Ts := by
        simp only [List.mem_cons, List.not_mem_nil, or_false] at hw
        rcases hw with rfl | rfl | rfl
        · exact w1
        · exact w2
        · exact m7
      exact ⟨hin, hT.2.2.2.2.2.2.2.2.2.2.2.2.1 _ hin⟩
    · exact am_good hT m1 w hw
  refine ⟨_, va_runS (As := as.map (am_cv sa base)) (nL := I.2.2.1) ⟨hC.1, hC.2.1, hC.2.2.1, hC.2.2.2.1, hC.2.2.2.2.1⟩ hM (va_cwS n hC.2.2.2.2.1 hG rfl rfl rfl ⟨m4.1, m4.2, w4⟩ ⟨hf, ?_⟩) ⟨am_Pc_blind hT, fun U hU hW => ⟨rfl, by rw [hU]; exact hR.2.1, am_K_warm hT hC.2.2.2.2.2.1 hR.2.2.1 hU hW⟩⟩ rfl (by rw [List.length_map]; exact hn) (hR.1.1.trans hll) ?_ (am_roomW (am_rev hst).2 hrl) hd ⟨hc1, hc2⟩⟩
  · show 8 + (J.2.2.1 + 11) + 64 * d ≤ _
    omega
  · show (as.reverse ++ rest).map (am_cv sa base) = _
    rw [List.map_append, List.map_reverse]
theorem am_i_special {idx t mi n b : Nat} {as : List Value} (hT : am_Tab B nm my cl Ts NW) (hS : am_Sim l B nm my cl Ts NW D DA sa base d) (hd : decode I.2.1 pc = .ok (.invokespecial idx, 3)) (hb : B.1 I.1 idx = (t, mi, n)) (htt : t = 6 ∨ t = 7) (hn : as.length = n) (hrl : rest.length ≤ 8)
    (ht : am_T B nm d mi (.ref b :: as) h (fun v h' => v = none ∧ am_P l B nm cl Ts NW D DA sa base I h0 (d + 1) Q Z (pc + 3, ls, rest, h'))) : am_P l B nm cl Ts NW D DA sa base I h0 (d + 1) Q Z (pc, ls, as.reverse ++ .ref b :: rest, h) := by
  refine am_gocall hS (fun q => ⟨List.forall_mem_cons.mpr ⟨rfl, (am_rev q).1⟩, am_tl (am_rev q).2⟩) (am_T_mono (fun v h' q => by obtain ⟨rfl, q⟩ := q; exact q) ht) (fun v h' J g1 g2 hJ hM p e R s m args below meth c H locs lsm cells slots hst hll hC hf hlo hc1 hc2 hR => ?_)
  obtain ⟨m1, m2, m3, m4, m5, m6, m7⟩ := hT.2.1 mi J hJ
  have hst' : (as.reverse ++ .ref b :: rest).map (am_cv sa base) = (as.map (am_cv sa base)).reverse ++ .ref (base + b) :: rest.map (am_cv sa base) := by
    rw [List.map_append, List.map_reverse]
    rfl
  have hPS : PreS s H (am_Pc B nm cl NW D DA sa base (.ref b :: as) h) (.ref (base + b) :: as.map (am_cv sa base)) := ⟨am_Pc_blind hT, fun U hU hW => ⟨rfl, by rw [hU]; exact hR.2.1, am_K_warm hT hC.2.2.2.2.2.1 hR.2.2.1 hU hW⟩⟩
  rcases htt with rfl | rfl
  · obtain ⟨w1, w2, w3, w4, w5⟩ := hT.2.2.2.2.2.1 _ _ _ _ hb
    unfold am_Met at hM
    rw [w5 J hJ] at hM m1
    refine ⟨_, va_runI (As := as.map (am_cv sa base)) (b := base + b) (nL := I.2.2.1) ⟨hC.1, hC.2.1, hC.2.2.1, hC.2.2.2.1, hC.2.2.2.2.1⟩ hM (cwI n hC.2.2.2.2.1 (am_good hT m1) rfl rfl rfl (hC.2.2.2.2.1 _ m7) (hC.2.2.2.2.1 _ w1) (hC.2.2.2.2.1 _ w2) w3 ⟨m4.1, m4.2, w4⟩ ⟨hf, ?_⟩) hPS rfl (by rw [List.length_map]; exact hn) (hR.1.1.trans hll) hst' (am_roomW (am_tl (am_rev hst).2) hrl) hd ⟨hc1, hc2⟩⟩
    show 8 + (J.2.2.1 + 11) + 64 * d ≤ _
    omega
  · obtain ⟨⟨host, w1⟩, w2, w3, w4, w5⟩ := hT.2.2.2.2.2.2.1 _ _ _ _ hb
    unfold am_Met at hM
    rw [w5 J hJ] at hM m1
    refine ⟨_, va_runIN (As := as.map (am_cv sa base)) (b := base + b) (nL := I.2.2.1) (host := host) ⟨hC.1, hC.2.1, hC.2.2.1, hC.2.2.2.1, hC.2.2.2.2.1⟩ hM ⟨va_cnB n hC.2.2.2.2.1 (am_good hT m1) rfl rfl rfl (hC.2.2.2.2.2.1.2.1 _ w1) (hC.2.2.2.2.1 _ m7) ⟨m4.1, m4.2, w4⟩ ⟨hf, ?_⟩, w3, hC.2.2.2.2.1 _ w2⟩ hPS rfl (by rw [List.length_map]; exact hn) (hR.1.1.trans hll) hst' (am_roomW (am_tl (am_rev hst).2) hrl) hd ⟨hc1, hc2⟩⟩
    show 8 + (J.2.2.1 + 11) + 64 * d ≤ _
    omega
end AMV
end
section
/-! the small machine's runs are runs of the JVM -/
section AMZ
variable {l : Launch} {B : am_B} {nm : Nat → String} {my : Nat → MethodName} {cl : List vw_C} {Ts NW : List Cond} {D : va_G} {DA : FieldType → ClassId} {sa : Nat → Nat} {base : Nat}
variable {I : am_I} {h0 : am_H} {d : Nat} {Q : Option Value → am_H → Prop} {Z : Option Value → am_H → State → Array Value → List Frame → State → Prop}
set_option maxHeartbeats 4000000 in
theorem am_nx_sim {pc len : Nat} {ls : List (Option Value)} {st : List Value} {h : am_H} {i : Instr} (hT : am_Tab B nm my cl Ts NW) (hB : ∀ i ty vs, B.2.2.2 i = some (ty, vs) → ∀ v ∈ vs, v.category = 1) (hS : am_Sim l B nm my cl Ts NW D DA sa base d) (hd : decode I.2.1 pc = .ok (i, len)) (hl : am_len i len = true)
    (hx : am_nx B nm (am_T B nm d) I (am_P l B nm cl Ts NW D DA sa base I h0 (d + 1) Q Z) pc ls st h i) : am_P l B nm cl Ts NW D DA sa base I h0 (d + 1) Q Z (pc, ls, st, h) := by
  cases i
  case iconst n =>
    obtain rfl : len = 1 := by simpa [am_len] using hl
    exact am_i_iconst hd hx
  case bipush n =>
    obtain rfl : len = 2 := by simpa [am_len] using hl
    exact am_i_bipush hd hx
  case sipush n =>
    obtain rfl : len = 3 := by simpa [am_len] using hl
    exact am_i_sipush hd hx
  case ldc idx =>
    obtain rfl : len = 2 := by simpa [am_len] using hl
    rcases hx with ⟨x, y, h1, h2⟩ | ⟨x, y, h1, h2⟩
    · exact am_i_ldc hT hd h1 h2
    · exact am_i_ldcM hT hd h1 h2
  case aconst_null =>
    obtain rfl : len = 1 := by simpa [am_len] using hl
    exact am_i_null hd hx
  case iload k =>
    obtain rfl : len = 2 := by simpa [am_len] using hl
    obtain ⟨x, h1, h2⟩ := hx
    exact am_i_iload hd h1 h2
  case iload_n k =>
    obtain rfl : len = 1 := by simpa [am_len] using hl
    obtain ⟨x, h1, h2⟩ := hx
    exact am_i_iload_n hd h1 h2
  case aload k =>
    obtain rfl : len = 2 := by simpa [am_len] using hl
    obtain ⟨x, h1, h2, h3⟩ := hx
    exact am_i_aload hd h1 h2 h3
  case aload_n k =>
    obtain rfl : len = 1 := by simpa [am_len] using hl
    obtain ⟨x, h1, h2, h3⟩ := hx
    exact am_i_aload_n hd h1 h2 h3
  case istore k =>
    obtain rfl : len = 2 := by simpa [am_len] using hl
    obtain ⟨x, rest, rfl, h1, h2⟩ := hx
    exact am_i_istore hd h1 h2
  case istore_n k =>
    obtain rfl : len = 1 := by simpa [am_len] using hl
    obtain ⟨x, rest, rfl, h1, h2⟩ := hx
    exact am_i_istore_n hd h1 h2
  case astore k =>
    obtain rfl : len = 2 := by simpa [am_len] using hl
    obtain ⟨x, rest, rfl, h1, h2, h3⟩ := hx
    exact am_i_astore hd h1 h2 h3
  case astore_n k =>
    obtain rfl : len = 1 := by simpa [am_len] using hl
    obtain ⟨x, rest, rfl, h1, h2, h3⟩ := hx
    exact am_i_astore_n hd h1 h2 h3
  case iinc k n =>
    obtain rfl : len = 3 := by simpa [am_len] using hl
    obtain ⟨x, h1, h2⟩ := hx
    exact am_i_iinc hd h1 h2
  case iadd =>
    obtain rfl : len = 1 := by simpa [am_len] using hl
    obtain ⟨x, y, rest, rfl, h1⟩ := hx
    exact am_i_iadd hd h1
  case isub =>
    obtain rfl : len = 1 := by simpa [am_len] using hl
    obtain ⟨x, y, rest, rfl, h1⟩ := hx
    exact am_i_isub hd h1
  case imul =>
    obtain rfl : len = 1 := by simpa [am_len] using hl
    obtain ⟨x, y, rest, rfl, h1⟩ := hx
    exact am_i_imul hd h1
  case iand =>
    obtain rfl : len = 1 := by simpa [am_len] using hl
    obtain ⟨x, y, rest, rfl, h1⟩ := hx
    exact am_i_iand hd h1
  case ishr =>
    obtain rfl : len = 1 := by simpa [am_len] using hl
    obtain ⟨x, y, rest, rfl, h1⟩ := hx
    exact am_i_ishr hd h1
  case iushr =>
    obtain rfl : len = 1 := by simpa [am_len] using hl
    obtain ⟨x, y, rest, rfl, h1⟩ := hx
    exact am_i_iushr hd h1
  case idiv =>
    obtain rfl : len = 1 := by simpa [am_len] using hl
    obtain ⟨x, y, rest, rfl, h1, h2⟩ := hx
    exact am_i_idiv h1 hd h2
  case i2b =>
    obtain rfl : len = 1 := by simpa [am_len] using hl
    obtain ⟨x, rest, rfl, h1⟩ := hx
    exact am_i_i2b hd h1
  case dup =>
    obtain rfl : len = 1 := by simpa [am_len] using hl
    obtain ⟨v, rest, rfl, h1⟩ := hx
    exact am_i_dup hd h1
  case dup_x1 =>
    obtain rfl : len = 1 := by simpa [am_len] using hl
    obtain ⟨v, w, rest, rfl, h1⟩ := hx
    exact am_i_dup_x1 hd h1
  case dup2 =>
    obtain rfl : len = 1 := by simpa [am_len] using hl
    obtain ⟨v, w, rest, rfl, h1⟩ := hx
    exact am_i_dup2 hd h1
  case pop =>
    obtain rfl : len = 1 := by simpa [am_len] using hl
    obtain ⟨v, rest, rfl, h1⟩ := hx
    exact am_i_pop hd h1
  case goto off =>
    obtain rfl : len = 3 := by simpa [am_len] using hl
    obtain ⟨tgt, h1, h2⟩ := hx
    exact am_i_goto hd h1 h2
  case ifCond c off =>
    obtain rfl : len = 3 := by simpa [am_len] using hl
    cases c
    case eq =>
      obtain ⟨x, rest, rfl, tgt, h1, h2, h3⟩ := hx
      exact am_i_c1eq hd h1 h2 h3
    case ne =>
      obtain ⟨x, rest, rfl, tgt, h1, h2, h3⟩ := hx
      exact am_i_c1ne hd h1 h2 h3
    case lt =>
      obtain ⟨x, rest, rfl, tgt, h1, h2, h3⟩ := hx
      exact am_i_c1lt hd h1 h2 h3
    case ge =>
      obtain ⟨x, rest, rfl, tgt, h1, h2, h3⟩ := hx
      exact am_i_c1ge hd h1 h2 h3
    case gt =>
      obtain ⟨x, rest, rfl, tgt, h1, h2, h3⟩ := hx
      exact am_i_c1gt hd h1 h2 h3
    case le =>
      obtain ⟨x, rest, rfl, tgt, h1, h2, h3⟩ := hx
      exact am_i_c1le hd h1 h2 h3
  case if_icmp c off =>
    obtain rfl : len = 3 := by simpa [am_len] using hl
    cases c
    case eq =>
      obtain ⟨x, y, rest, rfl, tgt, h1, h2, h3⟩ := hx
      exact am_i_c2eq hd h1 h2 h3
    case ne =>
      obtain ⟨x, y, rest, rfl, tgt, h1, h2, h3⟩ := hx
      exact am_i_c2ne hd h1 h2 h3
    case lt =>
      obtain ⟨x, y, rest, rfl, tgt, h1, h2, h3⟩ := hx
      exact am_i_c2lt hd h1 h2 h3
    case ge =>
      obtain ⟨x, y, rest, rfl, tgt, h1, h2, h3⟩ := hx
      exact am_i_c2ge hd h1 h2 h3
    case gt =>
      obtain ⟨x, y, rest, rfl, tgt, h1, h2, h3⟩ := hx
      exact am_i_c2gt hd h1 h2 h3
    case le =>
      obtain ⟨x, y, rest, rfl, tgt, h1, h2, h3⟩ := hx
      exact am_i_c2le hd h1 h2 h3
  case if_acmp c off =>
    obtain rfl : len = 3 := by simpa [am_len] using hl
    cases c
    case eq =>
      obtain ⟨v, w, rest, rfl, h0, tgt, h1, h2, h3⟩ := hx
      exact am_i_acmpeq hd h0 h1 h2 h3
    case ne =>
      obtain ⟨v, w, rest, rfl, h0, tgt, h1, h2, h3⟩ := hx
      exact am_i_acmpne hd h0 h1 h2 h3
  case ifnull off =>
    obtain rfl : len = 3 := by simpa [am_len] using hl
    obtain ⟨v, rest, rfl, h0, tgt, h1, h2, h3⟩ := hx
    exact am_i_ifnull hd h0 h1 h2 h3
  case ifnonnull off =>
    obtain rfl : len = 3 := by simpa [am_len] using hl
    obtain ⟨v, rest, rfl, h0, tgt, h1, h2, h3⟩ := hx
    exact am_i_ifnonnull hd h0 h1 h2 h3
  case tableswitch a b c e =>
    obtain ⟨x, rest, rfl, tgt, h1, h2⟩ := hx
    exact am_i_tableswitch hd h1 h2
  case lookupswitch a b =>
    obtain ⟨x, rest, rfl, h1, tgt, h2, h3⟩ := hx
    exact am_i_lookupswitch hd h1 h2 h3
  case getfield idx =>
    obtain rfl : len = 3 := by simpa [am_len] using hl
    obtain ⟨a, rest, t, c, k, v, rfl, h1, h2, h3, h4⟩ := hx
    exact am_i_getfield hT hd h1 h2 h3 h4
  case putfield idx =>
    obtain rfl : len = 3 := by simpa [am_len] using hl
    obtain ⟨a, rest, c, k, v, w, ts, ty, fin, rfl, h1, h2, h3, h4, h5, h6, h7⟩ := hx
    exact am_i_putfield hT hd h1 h2 h3 h4 h5 h6 h7
  case getstatic idx =>
    obtain rfl : len = 3 := by simpa [am_len] using hl
    obtain ⟨j, y, h1, h2⟩ := hx
    exact am_i_getstatic hd h1 h2
  case arraylength =>
    obtain rfl : len = 1 := by simpa [am_len] using hl
    obtain ⟨r, rest, ty, vs, rfl, h1, h2, h3⟩ := hx
    exact am_i_len hd h1 h2 h3
  case iaload =>
    obtain rfl : len = 1 := by simpa [am_len] using hl
    obtain ⟨j, r, rest, ty, vs, v, rfl, h1, h2, h3, h4, h5⟩ := hx
    exact am_i_ald hB hd (Or.inl ⟨rfl, h2⟩) h1 h3 h4 h5
  case baload =>
    obtain rfl : len = 1 := by simpa [am_len] using hl
    obtain ⟨j, r, rest, ty, vs, v, rfl, h1, h2, h3, h4, h5⟩ := hx
    exact am_i_ald hB hd (Or.inr (Or.inl ⟨rfl, h2⟩)) h1 h3 h4 h5
  case aaload =>
    obtain rfl : len = 1 := by simpa [am_len] using hl
    obtain ⟨j, r, rest, ty, vs, v, rfl, h1, h2, h3, h4, h5⟩ := hx
    exact am_i_ald hB hd (Or.inr (Or.inr ⟨rfl, h2⟩)) h1 h3 h4 h5
  case iastore =>
    obtain rfl : len = 1 := by simpa [am_len] using hl
    obtain ⟨w, j, a, rest, ty, vs, v, rfl, h1, ⟨rfl, rfl, x, rfl⟩, h3, h4, h5⟩ := hx
    exact am_i_iast hd h1 h3 h4 h5
  case bastore =>
    obtain rfl : len = 1 := by simpa [am_len] using hl
    obtain ⟨w, j, a, rest, ty, vs, v, rfl, h1, ⟨x, rfl, ⟨rfl, rfl⟩ | ⟨rfl, rfl⟩⟩, h3, h4, h5⟩ := hx
    · exact am_i_bast hd h1 h3 h4 h5
    · exact am_i_zast hd h1 h3 h4 h5
  case aastore =>
    obtain rfl : len = 1 := by simpa [am_len] using hl
    obtain ⟨w, j, a, rest, ty, vs, v, rfl, h1, ⟨rfl, C, h6, rfl, rfl | ⟨b, c, fs, rfl, h7, h8⟩⟩, h3, h4, h5⟩ := hx
    · exact am_i_aastN hd h6 h1 h3 h4 h5
    · exact am_i_aast hT hd h6 h1 h7 h8 h3 h4 h5
  case new idx =>
    obtain rfl : len = 3 := by simpa [am_len] using hl
    obtain ⟨c, y, ts, h1, h2, h3, h4⟩ := hx
    exact am_i_new hT hd h1 h2 h4 h3
  case newarray at_ =>
    obtain rfl : len = 2 := by simpa [am_len] using hl
    obtain ⟨n, rest, ty, rfl, h1, h2, h3, h4, h5⟩ := hx
    exact am_i_newarray hT hd h1 h2 h3 h4 h5
  case anewarray idx =>
    obtain rfl : len = 3 := by simpa [am_len] using hl
    obtain ⟨n, rest, c, y, rfl, h1, h2, h3, h4, h5⟩ := hx
    exact am_i_anewarray hT hd h1 h2 h3 h4 h5
  case checkcast idx =>
    obtain rfl : len = 3 := by simpa [am_len] using hl
    obtain ⟨v, rest, c, y, rfl, h1, h2, h3⟩ := hx
    exact am_i_cast hT hd h1 h2 h3
  case invokevirtual idx =>
    obtain rfl : len = 3 := by simpa [am_len] using hl
    rcases hx with ⟨a, rest, vs, x, y, h1, rfl, h2, h3, h4⟩ | ⟨m, n, as, b, rest, J, fs, h1, h2, rfl, h3, h4, h5, h6⟩
    · exact am_i_getClass hT (Nat.succ_le_succ (Nat.zero_le _)) hd h1 h2 h3 h4
    · exact am_i_virtual hT hS hd h1 h2 h3 h4 h5 h6
  case invokestatic idx =>
    obtain rfl : len = 3 := by simpa [am_len] using hl
    rcases hx with ⟨n, dp, a, sp, b, rest, ty, vs, ws, x, y, h1, rfl, h2, h3, h4, h5, h6, h7, h8, h9, h10, h11⟩ | ⟨a, b, rest, x, y, h1, rfl, h2, h3⟩ | ⟨a, b, rest, x, y, h1, rfl, h2, h3⟩ | ⟨m, n, as, rest, h1, h2, rfl, h3, h4⟩
    · exact am_i_copy hT (Nat.succ_le_succ (Nat.zero_le _)) hd h1 h2 h3 h4 h5 h6 h7 h8 h9 h10 h11
    · exact am_i_mmax hT (Nat.succ_le_succ (Nat.zero_le _)) hd h1 h2 h3
    · exact am_i_mmin hT (Nat.succ_le_succ (Nat.zero_le _)) hd h1 h2 h3
    · exact am_i_static hT hS hd h1 h2 h3 h4
  case invokespecial idx =>
    obtain rfl : len = 3 := by simpa [am_len] using hl
    rcases hx with ⟨a, rest, x, y, h1, rfl, h2, h3⟩ | ⟨t, m, n, as, b, rest, h1, h2, h3, rfl, h4, h5⟩
    · exact am_i_objInit hT (Nat.succ_le_succ (Nat.zero_le _)) hd h1 h2 h3
    · exact am_i_special hT hS hd h1 h2 h3 h4 h5
  all_goals exact False.elim hx
end AMZ
end
section
/-! the small machine's calls are calls of the JVM -/
section AMZ2
variable {l : Launch} {B : am_B} {nm : Nat → String} {my : Nat → MethodName} {cl : List vw_C} {Ts NW : List Cond} {D : va_G} {DA : FieldType → ClassId} {sa : Nat → Nat} {base : Nat}
variable {I : am_I} {h0 : am_H} {d : Nat} {Q : Option Value → am_H → Prop}
def am_Z (cl : List vw_C) (D : va_G) (DA : FieldType → ClassId) (sa : Nat → Nat) (base : Nat) (h0 : am_H) (v : Option Value) (h' : am_H) (s : State) (args : Array Value) (below : List Frame) : State → Prop := MQ below (am_Qc cl D DA sa base v h') args s (h'.length - h0.length) (am_sl h' - am_sl h0) (am_A base)
theorem am_re_sim {pc len : Nat} {ls : List (Option Value)} {st : List Value} {h : am_H} {i : Instr} (hd : decode I.2.1 pc = .ok (i, len)) (hl : am_len i len = true) (hx : am_re Q I st h i) : am_P l B nm cl Ts NW D DA sa base I h0 d Q (am_Z cl D DA sa base h0) (pc, ls, st, h) := by
  obtain ⟨v, rfl, hans, hQ, hk⟩ := hx
  intro hF
  refine ⟨v, h, hQ, Nat.le_refl _, Nat.le_refl _, hF.2.2.1, fun w hw => hF.1 w (by rw [hw]; exact List.mem_cons_self), ?_⟩
  intro p e R s m args below meth c hC hf hlo hc hsl H locs lsm cells slots hR
  have e1 : cells = h.length - h0.length := by have := hR.2.2.2.1; simp only at this; omega
  have e2 : slots = am_sl h - am_sl h0 := by have := hR.2.2.2.2; simp only at this; omega
  have hlocks : meth.locks = false := hC.2.2.2.2.2.2.1
  have hret := hC.2.2.2.2.2.2.2.1
  subst e1 e2
  have hq : ∀ t : State, t.heap = H → s.WarmedH t.vm → am_Qc cl D DA sa base v h args s (.returned (v.map (am_cv sa base))) t := fun t ht _ => ⟨rfl, by rw [ht]; exact hR.2.1, hR.2.2.1.F ht⟩
  rcases hk with ⟨rfl, rfl⟩ | ⟨rfl, x, rfl⟩ | ⟨rfl, r, rfl, hr⟩
  · obtain rfl : len = 1 := by simpa [am_len] using hl
    refine W.vret hC.1 hC.2.1 ?_ hq hR.2.2.1.2.2 hd
    rw [hret]
    revert hans
    cases I.2.2.2.1 with
    | none => intro _; rfl
    | some ty => intro q; cases ty <;> cases q
  · obtain rfl : len = 1 := by simpa [am_len] using hl
    revert hans hret
    cases hI : I.2.2.2.1 with
    | none => intro _ q; cases q
    | some ty =>
      cases ty with
      | int => intro hret _; exact W.iret hC.1 hC.2.1 hret hq hR.2.2.1.2.2 hd
      | boolean =>
        intro hret q
        refine W.zret hC.1 hC.2.1 hret ?_ hq hR.2.2.1.2.2 hd
        simp only [am_ans, Bool.or_eq_true, beq_iff_eq] at q
        rcases q with rfl | rfl <;> rfl
      | _ => intro _ q; cases q
  · obtain rfl : len = 1 := by simpa [am_len] using hl
    have hv : am_cv sa base r = .null ∨ ∃ a, am_cv sa base r = .ref a := by
      rcases hr with rfl | ⟨a, rfl⟩ | ⟨j, rfl⟩
      · exact Or.inl rfl
      · exact Or.inr ⟨_, rfl⟩
      · exact Or.inr ⟨_, rfl⟩
    revert hans hret
    cases hI : I.2.2.2.1 with
    | none => intro _ q; cases q
    | some ty =>
      cases ty with
      | object n => intro hret _; exact W.aret hC.1 hC.2.1 hret (Or.inl ⟨_, rfl⟩) hv hq hR.2.2.1.2.2 hd
      | array n => intro hret _; exact W.aret hC.1 hC.2.1 hret (Or.inr ⟨_, rfl⟩) hv hq hR.2.2.1.2.2 hd
      | _ => intro _ q; rcases hr with rfl | ⟨a, rfl⟩ | ⟨j, rfl⟩ <;> cases q
/-- the locals at a method's entry -/
theorem am_Rl_entry {as : List Value} {n : Nat} (h1 : ∀ v ∈ as, v.category = 1) (hn : as.length ≤ n) : am_Rl sa base (as.map some ++ List.replicate (n - as.length) none) ((as.map (am_cv sa base)).map Slot.val ++ List.replicate (n - (as.map (am_cv sa base)).length) Slot.unset).toArray := by
  refine ⟨by simp, ⟨fun i v hv hc => ?_, fun i hi => ?_⟩, fun i v hv => ?_⟩
  · have hm : Slot.val v ∈ (as.map (am_cv sa base)).map Slot.val ++ List.replicate (n - (as.map (am_cv sa base)).length) Slot.unset := List.mem_of_getElem? (by simpa using hv)
    rcases List.mem_append.mp hm with h | h
    · obtain ⟨w, hw, e⟩ := List.mem_map.mp h
      cases e
      obtain ⟨u, hu, rfl⟩ := List.mem_map.mp hw
      rw [am_cv_cat, h1 u hu] at hc
      cases hc
    · have := List.eq_of_mem_replicate h
      cases this
  · have hm : Slot.second ∈ (as.map (am_cv sa base)).map Slot.val ++ List.replicate (n - (as.map (am_cv sa base)).length) Slot.unset := List.mem_of_getElem? (by simpa using hi)
    rcases List.mem_append.mp hm with h | h
    · obtain ⟨w, hw, e⟩ := List.mem_map.mp h
      cases e
    · have := List.eq_of_mem_replicate h
      cases this
  · by_cases hi : i < as.length
    · rw [List.getElem?_append_left (by simpa using hi), List.getElem?_map] at hv
      cases ha : as[i]? with
      | none => rw [ha] at hv; cases hv
      | some w =>
        rw [ha] at hv
        cases hv
        refine ⟨?_, h1 _ (List.mem_of_getElem? ha)⟩
        rw [List.getElem?_toArray, List.getElem?_append_left (by simpa using hi), List.getElem?_map, List.getElem?_map, ha]
        rfl
    · rw [List.getElem?_append_right (by simpa using hi)] at hv
      have := List.eq_of_mem_replicate (List.mem_of_getElem? hv)
      cases this
theorem am_sim (hT : am_Tab B nm my cl Ts NW) (hB : ∀ i ty vs, B.2.2.2 i = some (ty, vs) → ∀ v ∈ vs, v.category = 1) : ∀ d, am_Sim l B nm my cl Ts NW D DA sa base d := by
  intro d
  induction d with
  | zero => intro mi as h Q ht; exact ht.elim
  | succ d ih =>
    intro mi as h Q ht hv1 has
    obtain ⟨I, hI, hlen, hwp⟩ := ht
    obtain ⟨m1, m2, m3, m4, m5, m6, m7⟩ := hT.2.1 mi I hI
    have hP := hwp (am_P l B nm cl Ts NW D DA sa base I h (d + 1) Q (am_Z cl D DA sa base h)) (fun F hF => by
      obtain ⟨i, len, h1, h2, h3⟩ := hF
      rcases h3 with h3 | h3
      · exact am_nx_sim hT hB ih h1 h2 h3
      · exact am_re_sim h1 h2 h3)
    have hwf : am_wfF I (0, as.map some ++ List.replicate (I.2.2.1 - as.length) none, [], h) := by
      refine ⟨fun v hv => (List.not_mem_nil hv).elim, fun v hv => ?_, hv1, ?_⟩
      · rcases List.mem_append.mp hv with hv | hv
        · obtain ⟨w, hw, e⟩ := List.mem_map.mp hv
          cases e
          exact has _ hw
        · have := List.eq_of_mem_replicate hv
          cases this
      · show (as.map some ++ List.replicate (I.2.2.1 - as.length) none).length = I.2.2.1
        simp
        omega
    obtain ⟨v, h', hQ, g1, g2, g3, g4, g5⟩ := hP hwf
    refine ⟨v, h', I, hQ, g1, g2, g3, g4, hI, ?_⟩
    refine Met.ofW (cc := I.2.1) (maxL := I.2.2.1) (ret := I.2.2.2.1) m3 rfl ?_
    intro p e s m args below meth c s₁ Bd hml hv
    obtain ⟨rfl, hw, hK⟩ := hv
    have hts := atoms_spec (ws := Cond.code (my mi) I.2.1 I.2.2.1 I.2.2.2.1 :: Ts) Bd.pre
    have hfc : s.vm.findClass (nm I.1) = some m.cls := by rw [← m2]; exact findClass_of_methodNamed Bd.named
    have hnme : meth.name = (my mi).name := (name_of_methodNamed Bd.named Bd.method).1
    have hz : s.heap.size = base + h.length := hw.1
    rw [entry_eq m (as.map (am_cv sa base)) (fun v hv => by
      obtain ⟨w, hw, rfl⟩ := List.mem_map.mp hv
      rw [am_cv_cat]; exact has w hw)]
    exact g5 p e _ s m _ below meth c ⟨Bd.exec, Bd.bytes, hml, hfc, fun w hw => hts w (List.mem_cons_of_mem _ hw), hK, Bd.notSynchronized, Bd.returns, fun q => hnme.trans (m5 q), by omega⟩ (Nat.le_refl _) (Nat.le_refl _) (by show _ ≤ h.length + (h'.length - h.length); omega) (by show _ ≤ am_sl h + (am_sl h' - am_sl h); omega)
      s.heap [] _ 0 0 ⟨am_Rl_entry has hlen, hw, va_S.rf, rfl, rfl⟩
end AMZ2
end
section
/-! the tables of this claim, written by program (wip/whole/gen/tables.py) out of the words of the Statement -/
def am_nm : Nat → String := fun n => match n with
  | 0 => "LineFlow$Box"
  | 1 => "LineFlow$Floats"
  | 2 => "LineFlow$Flow"
  | 3 => "LineFlow$Layout"
  | 4 => "LineFlow$Line"
  | 5 => "LineFlow$Node"
  | 6 => "LineFlow$Ruler"
  | 7 => "LineFlow$Word"
  | 8 => "LineFlow"
  | 9 => "LineFlowModel"
  | 10 => "java/util/ArrayList"
  | 11 => "LineFlow$Margins"
  | 12 => "LineFlowLaw"
  | 13 => "java/util/Arrays"
  | 14 => "java/lang/Math"
  | 15 => "jdk/internal/util/ArraysSupport"
  | 16 => "java/util/Objects"
  | 17 => "jdk/internal/util/Preconditions"
  | 18 => "java/util/AbstractList"
  | 19 => "java/util/AbstractCollection"
  | 20 => "java/lang/Object"
  | _ => ""
def am_T0 : u_T := fun k => match k with
  | 0 => ("LineFlow$Box", "x", "I", false)
  | 1 => ("LineFlow$Box", "y", "I", false)
  | 2 => ("LineFlow$Box", "width", "I", false)
  | 3 => ("LineFlow$Box", "height", "I", false)
  | 4 => ("LineFlow$Box", "nextOnLine", "LLineFlow$Box;", false)
  | _ => ("", "", "", false)
def am_T1 : u_T := fun k => match k with
  | 0 => ("LineFlow$Floats", "innerLeft", "I", false)
  | 1 => ("LineFlow$Floats", "innerRight", "I", false)
  | 2 => ("LineFlow$Floats", "first", "LLineFlow$Node;", false)
  | 3 => ("LineFlow$Floats", "last", "LLineFlow$Node;", false)
  | 4 => ("LineFlow$Floats", "lowestTop", "I", false)
  | 5 => ("LineFlow$Floats", "lowestEnd", "I", false)
  | _ => ("", "", "", false)
def am_T2 : u_T := fun k => match k with
  | 0 => ("LineFlow$Flow", "block", "LLineFlow$Node;", false)
  | 1 => ("LineFlow$Flow", "innerX", "I", false)
  | 2 => ("LineFlow$Flow", "innerY", "I", false)
  | 3 => ("LineFlow$Flow", "innerWidth", "I", false)
  | 4 => ("LineFlow$Flow", "y", "I", false)
  | 5 => ("LineFlow$Flow", "below", "I", false)
  | 6 => ("LineFlow$Flow", "blanksAhead", "Z", false)
  | 7 => ("LineFlow$Flow", "firstWaiting", "LLineFlow$Node;", false)
  | 8 => ("LineFlow$Flow", "lastWaiting", "LLineFlow$Node;", false)
  | 9 => ("LineFlow$Flow", "floats", "LLineFlow$Floats;", true)
  | 10 => ("LineFlow$Flow", "line", "LLineFlow$Line;", true)
  | _ => ("", "", "", false)
def am_T3 : u_T := fun k => match k with
  | 0 => ("LineFlow$Layout", "wordPool", "Ljava/util/ArrayList;", true)
  | 1 => ("LineFlow$Layout", "wordCount", "I", false)
  | 2 => ("LineFlow$Layout", "flows", "[LLineFlow$Flow;", true)
  | 3 => ("LineFlow$Layout", "ruler", "LLineFlow$Ruler;", true)
  | _ => ("", "", "", false)
def am_T4 : u_T := fun k => match k with
  | 0 => ("LineFlow$Line", "first", "LLineFlow$Box;", false)
  | 1 => ("LineFlow$Line", "last", "LLineFlow$Box;", false)
  | 2 => ("LineFlow$Line", "right", "I", false)
  | 3 => ("LineFlow$Line", "reached", "I", false)
  | 4 => ("LineFlow$Line", "height", "I", false)
  | _ => ("", "", "", false)
def am_T5 : u_T := fun k => match k with
  | 0 => ("LineFlow$Node", "number", "I", true)
  | 1 => ("LineFlow$Node", "kind", "I", true)
  | 2 => ("LineFlow$Node", "parent", "LLineFlow$Node;", true)
  | 3 => ("LineFlow$Node", "depth", "I", true)
  | 4 => ("LineFlow$Node", "has", "[I", true)
  | 5 => ("LineFlow$Node", "firstChild", "LLineFlow$Node;", false)
  | 6 => ("LineFlow$Node", "lastChild", "LLineFlow$Node;", false)
  | 7 => ("LineFlow$Node", "next", "LLineFlow$Node;", false)
  | 8 => ("LineFlow$Node", "bytes", "[B", false)
  | 9 => ("LineFlow$Node", "role", "I", false)
  | 10 => ("LineFlow$Node", "floating", "Z", false)
  | 11 => ("LineFlow$Node", "boxed", "Z", false)
  | 12 => ("LineFlow$Node", "box", "LLineFlow$Box;", true)
  | 13 => ("LineFlow$Node", "firstWord", "I", false)
  | 14 => ("LineFlow$Node", "wordCount", "I", false)
  | 15 => ("LineFlow$Node", "nextFloat", "LLineFlow$Node;", false)
  | _ => ("", "", "", false)
def am_T6 : u_T := fun k => match k with
  | 0 => ("LineFlow$Ruler", "sum", "I", false)
  | 1 => ("LineFlow$Ruler", "blanksAhead", "Z", false)
  | _ => ("", "", "", false)
def am_T7 : u_T := fun k => match k with
  | 0 => ("LineFlow$Word", "textNumber", "I", false)
  | 1 => ("LineFlow$Word", "firstByte", "I", false)
  | 2 => ("LineFlow$Word", "byteCount", "I", false)
  | 3 => ("LineFlow$Word", "box", "LLineFlow$Box;", true)
  | _ => ("", "", "", false)
def am_T8 : u_T := fun k => match k with
  | 0 => ("LineFlow", "tape", "[B", true)
  | 1 => ("LineFlow", "taped", "I", false)
  | 2 => ("LineFlow", "nodes", "[LLineFlow$Node;", true)
  | 3 => ("LineFlow", "nodeCount", "I", false)
  | 4 => ("LineFlow", "layout", "LLineFlow$Layout;", true)
  | _ => ("", "", "", false)
def am_T9 : u_T := fun k => match k with
  | 0 => ("LineFlowModel", "tape", "[B", true)
  | 1 => ("LineFlowModel", "taped", "I", false)
  | 2 => ("LineFlowModel", "nodes", "I", false)
  | 3 => ("LineFlowModel", "kind", "[I", true)
  | 4 => ("LineFlowModel", "parent", "[I", true)
  | 5 => ("LineFlowModel", "firstKid", "[I", true)
  | 6 => ("LineFlowModel", "lastKid", "[I", true)
  | 7 => ("LineFlowModel", "next", "[I", true)
  | 8 => ("LineFlowModel", "depth", "[I", true)
  | 9 => ("LineFlowModel", "has", "[I", true)
  | 10 => ("LineFlowModel", "bytes", "[B", true)
  | 11 => ("LineFlowModel", "byteCount", "[I", true)
  | 12 => ("LineFlowModel", "mode", "[I", true)
  | 13 => ("LineFlowModel", "floats", "[Z", true)
  | 14 => ("LineFlowModel", "box", "[I", true)
  | 15 => ("LineFlowModel", "x", "[I", true)
  | 16 => ("LineFlowModel", "y", "[I", true)
  | 17 => ("LineFlowModel", "wide", "[I", true)
  | 18 => ("LineFlowModel", "high", "[I", true)
  | 19 => ("LineFlowModel", "top", "[I", true)
  | 20 => ("LineFlowModel", "bottom", "[I", true)
  | 21 => ("LineFlowModel", "treeOrder", "[I", true)
  | 22 => ("LineFlowModel", "ordered", "I", false)
  | 23 => ("LineFlowModel", "had", "[Z", true)
  | 24 => ("LineFlowModel", "hadX", "[I", true)
  | 25 => ("LineFlowModel", "hadY", "[I", true)
  | 26 => ("LineFlowModel", "hadWide", "[I", true)
  | 27 => ("LineFlowModel", "hadHigh", "[I", true)
  | 28 => ("LineFlowModel", "firstWord", "[I", true)
  | 29 => ("LineFlowModel", "words", "I", false)
  | 30 => ("LineFlowModel", "wordText", "[I", true)
  | 31 => ("LineFlowModel", "wordAt", "[I", true)
  | 32 => ("LineFlowModel", "wordSize", "[I", true)
  | 33 => ("LineFlowModel", "wordX", "[I", true)
  | 34 => ("LineFlowModel", "wordY", "[I", true)
  | 35 => ("LineFlowModel", "wordWide", "[I", true)
  | 36 => ("LineFlowModel", "wordHigh", "[I", true)
  | 37 => ("LineFlowModel", "lineY", "I", false)
  | 38 => ("LineFlowModel", "lineLeft", "I", false)
  | 39 => ("LineFlowModel", "lineRight", "I", false)
  | 40 => ("LineFlowModel", "lineEnd", "I", false)
  | 41 => ("LineFlowModel", "lineItems", "I", false)
  | 42 => ("LineFlowModel", "lineHigh", "I", false)
  | 43 => ("LineFlowModel", "lineSort", "I", false)
  | 44 => ("LineFlowModel", "item", "[I", true)
  | 45 => ("LineFlowModel", "itemX", "[I", true)
  | 46 => ("LineFlowModel", "floated", "I", false)
  | 47 => ("LineFlowModel", "floatLeft", "[I", true)
  | 48 => ("LineFlowModel", "floatRight", "[I", true)
  | 49 => ("LineFlowModel", "floatTop", "[I", true)
  | 50 => ("LineFlowModel", "floatEnd", "[I", true)
  | 51 => ("LineFlowModel", "floatSide", "[I", true)
  | 52 => ("LineFlowModel", "waits", "[I", true)
  | 53 => ("LineFlowModel", "waiting", "I", false)
  | 54 => ("LineFlowModel", "blank", "Z", false)
  | 55 => ("LineFlowModel", "blockWide", "I", false)
  | _ => ("", "", "", false)
def am_T10 : u_T := fun k => match k with
  | 0 => ("java/util/AbstractList", "modCount", "I", false)
  | 1 => ("java/util/ArrayList", "elementData", "[Ljava/lang/Object;", false)
  | 2 => ("java/util/ArrayList", "size", "I", false)
  | _ => ("", "", "", false)
abbrev am_cl : List vw_C := [("LineFlow$Box", am_T0, 5), ("LineFlow$Floats", am_T1, 6), ("LineFlow$Flow", am_T2, 11), ("LineFlow$Layout", am_T3, 4), ("LineFlow$Line", am_T4, 5), ("LineFlow$Node", am_T5, 16), ("LineFlow$Ruler", am_T6, 2), ("LineFlow$Word", am_T7, 4), ("LineFlow", am_T8, 5), ("LineFlowModel", am_T9, 56), ("java/util/ArrayList", am_T10, 3)]
def am_fl : Nat → Option (List (FieldType × Bool)) := fun c => match c with
  | 0 => some [(.int, false), (.int, false), (.int, false), (.int, false), (.object "LineFlow$Box", false)]
  | 1 => some [(.int, false), (.int, false), (.object "LineFlow$Node", false), (.object "LineFlow$Node", false), (.int, false), (.int, false)]
  | 2 => some [(.object "LineFlow$Node", false), (.int, false), (.int, false), (.int, false), (.int, false), (.int, false), (.boolean, false), (.object "LineFlow$Node", false), (.object "LineFlow$Node", false), (.object "LineFlow$Floats", true), (.object "LineFlow$Line", true)]
  | 3 => some [(.object "java/util/ArrayList", true), (.int, false), (.array (.object "LineFlow$Flow"), true), (.object "LineFlow$Ruler", true)]
  | 4 => some [(.object "LineFlow$Box", false), (.object "LineFlow$Box", false), (.int, false), (.int, false), (.int, false)]
  | 5 => some [(.int, true), (.int, true), (.object "LineFlow$Node", true), (.int, true), (.array .int, true), (.object "LineFlow$Node", false), (.object "LineFlow$Node", false), (.object "LineFlow$Node", false), (.array .byte, false), (.int, false), (.boolean, false), (.boolean, false), (.object "LineFlow$Box", true), (.int, false), (.int, false), (.object "LineFlow$Node", false)]
  | 6 => some [(.int, false), (.boolean, false)]
  | 7 => some [(.int, false), (.int, false), (.int, false), (.object "LineFlow$Box", true)]
  | 8 => some [(.array .byte, true), (.int, false), (.array (.object "LineFlow$Node"), true), (.int, false), (.object "LineFlow$Layout", true)]
  | 9 => some [(.array .byte, true), (.int, false), (.int, false), (.array .int, true), (.array .int, true), (.array .int, true), (.array .int, true), (.array .int, true), (.array .int, true), (.array .int, true), (.array .byte, true), (.array .int, true), (.array .int, true), (.array .boolean, true), (.array .int, true), (.array .int, true), (.array .int, true), (.array .int, true), (.array .int, true), (.array .int, true), (.array .int, true), (.array .int, true), (.int, false), (.array .boolean, true), (.array .int, true), (.array .int, true), (.array .int, true), (.array .int, true), (.array .int, true), (.int, false), (.array .int, true), (.array .int, true), (.array .int, true), (.array .int, true), (.array .int, true), (.array .int, true), (.array .int, true), (.int, false), (.int, false), (.int, false), (.int, false), (.int, false), (.int, false), (.int, false), (.array .int, true), (.array .int, true), (.int, false), (.array .int, true), (.array .int, true), (.array .int, true), (.array .int, true), (.array .int, true), (.array .int, true), (.int, false), (.boolean, false), (.int, false)]
  | 10 => some [(.int, false), (.array (.object "java/lang/Object"), false), (.int, false)]
  | _ => none
def am_mt0 : List (MethodName × am_I) := [
  (⟨"LineFlow", "<init>", "()V"⟩, 8, prog_1_method_1_code, 1, none, true),
  (⟨"LineFlow$Layout", "<init>", "()V"⟩, 3, prog_5_method_1_code, 2, none, true),
  (⟨"java/util/ArrayList", "<init>", "()V"⟩, 10, prog_20_method_2_code, 1, none, true),
  (⟨"java/util/AbstractList", "<init>", "()V"⟩, 18, prog_19_method_1_code, 1, none, true),
  (⟨"java/util/AbstractCollection", "<init>", "()V"⟩, 19, prog_18_method_1_code, 1, none, true),
  (⟨"LineFlow$Ruler", "<init>", "()V"⟩, 6, prog_9_method_1_code, 1, none, true),
  (⟨"LineFlow$Flow", "<init>", "()V"⟩, 2, prog_4_method_1_code, 1, none, true),
  (⟨"LineFlow$Floats", "<init>", "()V"⟩, 1, prog_3_method_1_code, 1, none, true),
  (⟨"LineFlow$Line", "<init>", "()V"⟩, 4, prog_6_method_1_code, 1, none, true),
  (⟨"LineFlow", "plantRoot", "()V"⟩, 8, prog_1_method_14_code, 2, none, false),
  (⟨"LineFlow$Node", "<init>", "(IILLineFlow$Node;)V"⟩, 5, prog_8_method_1_code, 4, none, true),
  (⟨"LineFlow$Box", "<init>", "()V"⟩, 0, prog_2_method_1_code, 1, none, true),
  (⟨"LineFlow", "feed", "(IIIII)I"⟩, 8, prog_1_method_2_code, 6, some FieldType.int, false),
  (⟨"LineFlow", "putOnTape", "(I)V"⟩, 8, prog_1_method_15_code, 3, none, false),
  (⟨"LineFlow", "end", "(I)I"⟩, 8, prog_1_method_3_code, 2, some FieldType.int, false),
  (⟨"LineFlow", "clear", "()V"⟩, 8, prog_1_method_4_code, 1, none, false),
  (⟨"LineFlow$Layout", "forgetWords", "()V"⟩, 3, prog_5_method_2_code, 1, none, false),
  (⟨"LineFlow", "node", "(II)I"⟩, 8, prog_1_method_5_code, 5, some FieldType.int, false),
  (⟨"LineFlow", "elementAt", "(I)LLineFlow$Node;"⟩, 8, prog_1_method_17_code, 3, some (FieldType.object "LineFlow$Node"), false),
  (⟨"LineFlow", "nodeAt", "(I)LLineFlow$Node;"⟩, 8, prog_1_method_16_code, 2, some (FieldType.object "LineFlow$Node"), false),
  (⟨"LineFlow$Node", "append", "(LLineFlow$Node;)V"⟩, 5, prog_8_method_2_code, 2, none, false),
  (⟨"LineFlow", "text", "(I)I"⟩, 8, prog_1_method_6_code, 3, some FieldType.int, false),
  (⟨"java/util/Arrays", "copyOf", "([BI)[B"⟩, 13, prog_21_method_121_code, 3, some (FieldType.array FieldType.byte), false),
  (⟨"LineFlow", "set", "(III)I"⟩, 8, prog_1_method_7_code, 6, some FieldType.int, false),
  (⟨"LineFlow", "mayHave", "(LLineFlow$Node;II)Z"⟩, 8, prog_1_method_18_code, 3, some FieldType.boolean, false),
  (⟨"LineFlow", "mayDisplay", "(LLineFlow$Node;I)Z"⟩, 8, prog_1_method_19_code, 2, some FieldType.boolean, false),
  (⟨"LineFlow", "within", "(III)Z"⟩, 8, prog_1_method_21_code, 3, some FieldType.boolean, false),
  (⟨"LineFlow", "mayFloat", "(LLineFlow$Node;)Z"⟩, 8, prog_1_method_20_code, 1, some FieldType.boolean, false),
  (⟨"LineFlow", "lay", "(I)I"⟩, 8, prog_1_method_8_code, 3, some FieldType.int, false),
  (⟨"LineFlow$Layout", "layRoot", "(LLineFlow$Node;I)V"⟩, 3, prog_5_method_4_code, 3, none, false),
  (⟨"LineFlow$Layout", "prepare", "(LLineFlow$Node;I)V"⟩, 3, prog_5_method_5_code, 5, none, false),
  (⟨"LineFlow$Layout", "listWords", "(LLineFlow$Node;)V"⟩, 3, prog_5_method_7_code, 5, none, false),
  (⟨"LineFlow$Ruler", "isBlank", "(B)Z"⟩, 6, prog_9_method_2_code, 1, some FieldType.boolean, false),
  (⟨"LineFlow$Ruler", "glyphWidth", "(B)I"⟩, 6, prog_9_method_3_code, 1, some FieldType.int, false),
  (⟨"LineFlow$Layout", "listWord", "(LLineFlow$Node;III)V"⟩, 3, prog_5_method_8_code, 6, none, false),
  (⟨"java/util/ArrayList", "size", "()I"⟩, 10, prog_20_method_8_code, 1, some FieldType.int, false),
  (⟨"LineFlow$Word", "<init>", "()V"⟩, 7, prog_10_method_1_code, 1, none, true),
  (⟨"java/util/ArrayList", "add", "(Ljava/lang/Object;)Z"⟩, 10, prog_20_method_25_code, 2, some FieldType.boolean, false),
  (⟨"java/util/ArrayList", "add", "(Ljava/lang/Object;[Ljava/lang/Object;I)V"⟩, 10, prog_20_method_24_code, 4, none, false),
  (⟨"java/util/ArrayList", "grow", "()[Ljava/lang/Object;"⟩, 10, prog_20_method_7_code, 1, some (FieldType.array (FieldType.object "java/lang/Object")), false)]
def am_mt1 : List (MethodName × am_I) := [
  (⟨"java/util/ArrayList", "grow", "(I)[Ljava/lang/Object;"⟩, 10, prog_20_method_6_code, 4, some (FieldType.array (FieldType.object "java/lang/Object")), false),
  (⟨"jdk/internal/util/ArraysSupport", "newLength", "(III)I"⟩, 15, prog_27_method_27_code, 4, some FieldType.int, false),
  (⟨"jdk/internal/util/ArraysSupport", "hugeLength", "(II)I"⟩, 15, prog_27_method_28_code, 3, some FieldType.int, false),
  (⟨"java/util/Arrays", "copyOf", "([Ljava/lang/Object;I)[Ljava/lang/Object;"⟩, 13, prog_21_method_119_code, 2, some (FieldType.array (FieldType.object "java/lang/Object")), false),
  (⟨"java/util/Arrays", "copyOf", "([Ljava/lang/Object;ILjava/lang/Class;)[Ljava/lang/Object;"⟩, 13, prog_21_method_120_code, 4, some (FieldType.array (FieldType.object "java/lang/Object")), false),
  (⟨"LineFlow$Layout", "wordAt", "(I)LLineFlow$Word;"⟩, 3, prog_5_method_3_code, 2, some (FieldType.object "LineFlow$Word"), false),
  (⟨"java/util/ArrayList", "get", "(I)Ljava/lang/Object;"⟩, 10, prog_20_method_20_code, 2, some (FieldType.object "java/lang/Object"), false),
  (⟨"java/util/Objects", "checkIndex", "(II)I"⟩, 16, prog_24_method_17_code, 2, some FieldType.int, false),
  (⟨"jdk/internal/util/Preconditions", "checkIndex", "(IILjava/util/function/BiFunction;)I"⟩, 17, prog_28_method_11_code, 3, some FieldType.int, false),
  (⟨"java/util/ArrayList", "elementData", "(I)Ljava/lang/Object;"⟩, 10, prog_20_method_18_code, 2, some (FieldType.object "java/lang/Object"), false),
  (⟨"LineFlow$Layout", "roleWithin", "(LLineFlow$Node;I)I"⟩, 3, prog_5_method_6_code, 3, some FieldType.int, false),
  (⟨"LineFlow$Layout", "layElement", "(LLineFlow$Node;III)V"⟩, 3, prog_5_method_9_code, 7, none, false),
  (⟨"LineFlow$Flow", "begin", "(LLineFlow$Node;)V"⟩, 2, prog_4_method_2_code, 2, none, false),
  (⟨"LineFlow$Node", "frame", "()I"⟩, 5, prog_8_method_3_code, 1, some FieldType.int, false),
  (⟨"LineFlow$Floats", "begin", "(III)V"⟩, 1, prog_3_method_2_code, 4, none, false),
  (⟨"LineFlow$Line", "drop", "()V"⟩, 4, prog_6_method_3_code, 1, none, false),
  (⟨"LineFlow$Layout", "layRow", "(LLineFlow$Flow;)I"⟩, 3, prog_5_method_10_code, 7, some FieldType.int, false),
  (⟨"LineFlow$Layout", "measurePiece", "(LLineFlow$Node;I)V"⟩, 3, prog_5_method_18_code, 4, none, false),
  (⟨"LineFlow$Node", "toldWidth", "(II)I"⟩, 5, prog_8_method_4_code, 4, some FieldType.int, false),
  (⟨"LineFlow$Layout", "textWidth", "(LLineFlow$Node;)I"⟩, 3, prog_5_method_16_code, 2, some FieldType.int, false),
  (⟨"LineFlow$Ruler", "oneLine", "(LLineFlow$Node;)I"⟩, 6, prog_9_method_4_code, 2, some FieldType.int, false),
  (⟨"LineFlow$Ruler", "addTexts", "(LLineFlow$Node;)V"⟩, 6, prog_9_method_5_code, 3, none, false),
  (⟨"LineFlow$Ruler", "addBytes", "([B)V"⟩, 6, prog_9_method_6_code, 6, none, false),
  (⟨"LineFlow$Node", "framedWidth", "(II)I"⟩, 5, prog_8_method_5_code, 3, some FieldType.int, false),
  (⟨"LineFlow$Layout", "layDown", "(LLineFlow$Flow;)I"⟩, 3, prog_5_method_11_code, 4, some FieldType.int, false),
  (⟨"LineFlow$Layout", "addFloat", "(LLineFlow$Flow;LLineFlow$Node;)V"⟩, 3, prog_5_method_14_code, 3, none, false),
  (⟨"LineFlow$Flow", "beginLines", "()V"⟩, 2, prog_4_method_3_code, 1, none, false),
  (⟨"LineFlow$Line", "isEmpty", "()Z"⟩, 4, prog_6_method_2_code, 1, some FieldType.boolean, false),
  (⟨"LineFlow$Layout", "putFloat", "(LLineFlow$Flow;LLineFlow$Node;)V"⟩, 3, prog_5_method_15_code, 9, none, false),
  (⟨"LineFlow$Floats", "roomFor", "(II)I"⟩, 1, prog_3_method_6_code, 6, some FieldType.int, false),
  (⟨"LineFlow$Floats", "leastEndAt", "(I)I"⟩, 1, prog_3_method_7_code, 4, some FieldType.int, false),
  (⟨"LineFlow$Floats", "isAt", "(LLineFlow$Node;I)Z"⟩, 1, prog_3_method_8_code, 2, some FieldType.boolean, false),
  (⟨"LineFlow$Floats", "topOf", "(LLineFlow$Node;)I"⟩, 1, prog_3_method_9_code, 1, some FieldType.int, false),
  (⟨"LineFlow$Floats", "endOf", "(LLineFlow$Node;)I"⟩, 1, prog_3_method_10_code, 1, some FieldType.int, false),
  (⟨"LineFlow$Floats", "rightAt", "(I)I"⟩, 1, prog_3_method_5_code, 4, some FieldType.int, false),
  (⟨"LineFlow$Floats", "leftAt", "(I)I"⟩, 1, prog_3_method_4_code, 4, some FieldType.int, false),
  (⟨"LineFlow$Floats", "add", "(LLineFlow$Node;)V"⟩, 1, prog_3_method_3_code, 2, none, false),
  (⟨"LineFlow$Flow", "await", "(LLineFlow$Node;)V"⟩, 2, prog_4_method_4_code, 2, none, false),
  (⟨"LineFlow$Layout", "addInline", "(LLineFlow$Flow;LLineFlow$Node;)V"⟩, 3, prog_5_method_17_code, 3, none, false),
  (⟨"LineFlow$Layout", "addWords", "(LLineFlow$Flow;LLineFlow$Node;)V"⟩, 3, prog_5_method_19_code, 5, none, false)]
def am_mt2 : List (MethodName × am_I) := [
  (⟨"LineFlow$Layout", "addItem", "(LLineFlow$Flow;LLineFlow$Box;I)V"⟩, 3, prog_5_method_21_code, 5, none, false),
  (⟨"LineFlow$Line", "takes", "(I)Z"⟩, 4, prog_6_method_5_code, 2, some FieldType.boolean, false),
  (⟨"LineFlow$Line", "add", "(LLineFlow$Box;I)V"⟩, 4, prog_6_method_6_code, 3, none, false),
  (⟨"LineFlow$Layout", "endLine", "(LLineFlow$Flow;)V"⟩, 3, prog_5_method_22_code, 4, none, false),
  (⟨"LineFlow$Line", "settle", "(II)I"⟩, 4, prog_6_method_7_code, 5, some FieldType.int, false),
  (⟨"LineFlow$Line", "spaceAhead", "(I)I"⟩, 4, prog_6_method_8_code, 3, some FieldType.int, false),
  (⟨"LineFlow$Flow", "releaseWaiting", "()LLineFlow$Node;"⟩, 2, prog_4_method_5_code, 2, some (FieldType.object "LineFlow$Node"), false),
  (⟨"LineFlow$Line", "open", "(II)V"⟩, 4, prog_6_method_4_code, 3, none, false),
  (⟨"LineFlow$Layout", "addBreak", "(LLineFlow$Flow;LLineFlow$Node;)V"⟩, 3, prog_5_method_20_code, 3, none, false),
  (⟨"LineFlow$Layout", "addBlock", "(LLineFlow$Flow;LLineFlow$Node;)V"⟩, 3, prog_5_method_13_code, 8, none, false),
  (⟨"LineFlow$Margins", "joinedThing", "(LLineFlow$Node;Z)LLineFlow$Node;"⟩, 11, prog_7_method_3_code, 3, some (FieldType.object "LineFlow$Node"), false),
  (⟨"LineFlow$Margins", "isOpen", "(LLineFlow$Node;)Z"⟩, 11, prog_7_method_5_code, 1, some FieldType.boolean, false),
  (⟨"LineFlow$Margins", "isBlock", "(LLineFlow$Node;)Z"⟩, 11, prog_7_method_4_code, 2, some FieldType.boolean, false),
  (⟨"LineFlow$Margins", "lastThing", "(LLineFlow$Node;)LLineFlow$Node;"⟩, 11, prog_7_method_7_code, 3, some (FieldType.object "LineFlow$Node"), false),
  (⟨"LineFlow$Margins", "firstThing", "(LLineFlow$Node;)LLineFlow$Node;"⟩, 11, prog_7_method_6_code, 2, some (FieldType.object "LineFlow$Node"), false),
  (⟨"LineFlow$Margins", "outer", "(LLineFlow$Node;Z)I"⟩, 11, prog_7_method_2_code, 4, some FieldType.int, false),
  (⟨"LineFlow$Layout", "following", "(LLineFlow$Node;LLineFlow$Node;)LLineFlow$Node;"⟩, 3, prog_5_method_12_code, 3, some (FieldType.object "LineFlow$Node"), false),
  (⟨"LineFlow$Flow", "contentHeight", "()I"⟩, 2, prog_4_method_6_code, 1, some FieldType.int, false),
  (⟨"LineFlow$Node", "framedHeight", "(I)I"⟩, 5, prog_8_method_6_code, 3, some FieldType.int, false),
  (⟨"LineFlow", "box", "(II)I"⟩, 8, prog_1_method_9_code, 4, some FieldType.int, false),
  (⟨"LineFlow", "words", "()I"⟩, 8, prog_1_method_10_code, 1, some FieldType.int, false),
  (⟨"LineFlow", "word", "(II)I"⟩, 8, prog_1_method_11_code, 4, some FieldType.int, false),
  (⟨"LineFlow", "line", "(I)I"⟩, 8, prog_1_method_12_code, 3, some FieldType.int, false),
  (⟨"LineFlow", "margin", "(IZ)I"⟩, 8, prog_1_method_13_code, 4, some FieldType.int, false),
  (⟨"LineFlowModel", "<init>", "()V"⟩, 9, prog_12_method_1_code, 1, none, true),
  (⟨"LineFlowModel", "clear", "()V"⟩, 9, prog_12_method_6_code, 2, none, false),
  (⟨"LineFlowModel", "fresh", "(III)V"⟩, 9, prog_12_method_5_code, 5, none, false),
  (⟨"LineFlowModel", "feed", "(IIIII)I"⟩, 9, prog_12_method_3_code, 6, some FieldType.int, false),
  (⟨"LineFlowModel", "putFour", "(I)V"⟩, 9, prog_12_method_2_code, 3, none, false),
  (⟨"LineFlowModel", "end", "(I)I"⟩, 9, prog_12_method_4_code, 2, some FieldType.int, false),
  (⟨"LineFlowModel", "node", "(II)I"⟩, 9, prog_12_method_8_code, 3, some FieldType.int, false),
  (⟨"LineFlowModel", "there", "(I)Z"⟩, 9, prog_12_method_7_code, 2, some FieldType.boolean, false),
  (⟨"LineFlowModel", "text", "(I)I"⟩, 9, prog_12_method_9_code, 3, some FieldType.int, false),
  (⟨"LineFlowModel", "set", "(III)I"⟩, 9, prog_12_method_11_code, 5, some FieldType.int, false),
  (⟨"LineFlowModel", "mayBe", "(III)Z"⟩, 9, prog_12_method_10_code, 4, some FieldType.boolean, false),
  (⟨"LineFlowModel", "lay", "(I)I"⟩, 9, prog_12_method_27_code, 4, some FieldType.int, false),
  (⟨"LineFlowModel", "modes", "()V"⟩, 9, prog_12_method_21_code, 2, none, false),
  (⟨"LineFlowModel", "isBox", "(I)Z"⟩, 9, prog_12_method_17_code, 2, some FieldType.boolean, false),
  (⟨"LineFlowModel", "of", "(II)I"⟩, 9, prog_12_method_12_code, 3, some FieldType.int, false),
  (⟨"LineFlowModel", "modeOf", "(I)I"⟩, 9, prog_12_method_20_code, 5, some FieldType.int, false)]
def am_mt3 : List (MethodName × am_I) := [
  (⟨"LineFlowModel", "after", "(II)I"⟩, 9, prog_12_method_14_code, 3, some FieldType.int, false),
  (⟨"LineFlowModel", "behind", "(II)I"⟩, 9, prog_12_method_15_code, 4, some FieldType.int, false),
  (⟨"LineFlowModel", "margins", "(I)V"⟩, 9, prog_12_method_22_code, 5, none, false),
  (⟨"LineFlowModel", "joins", "(I)Z"⟩, 9, prog_12_method_40_code, 2, some FieldType.boolean, false),
  (⟨"LineFlowModel", "isBlock", "(I)Z"⟩, 9, prog_12_method_39_code, 2, some FieldType.boolean, false),
  (⟨"LineFlowModel", "edges", "(I)I"⟩, 9, prog_12_method_18_code, 2, some FieldType.int, false),
  (⟨"LineFlowModel", "more", "(II)I"⟩, 9, prog_12_method_47_code, 2, some FieldType.int, false),
  (⟨"LineFlowModel", "widen", "(I)V"⟩, 9, prog_12_method_25_code, 5, none, false),
  (⟨"LineFlowModel", "inner", "(I)I"⟩, 9, prog_12_method_19_code, 2, some FieldType.int, false),
  (⟨"LineFlowModel", "told", "(II)I"⟩, 9, prog_12_method_24_code, 4, some FieldType.int, false),
  (⟨"LineFlowModel", "oneLine", "(I)I"⟩, 9, prog_12_method_23_code, 9, some FieldType.int, false),
  (⟨"LineFlowModel", "isBlank", "(I)Z"⟩, 9, prog_12_method_13_code, 1, some FieldType.boolean, false),
  (⟨"LineFlowModel", "glyph", "(I)I"⟩, 9, prog_12_method_16_code, 1, some FieldType.int, false),
  (⟨"LineFlowModel", "less", "(II)I"⟩, 9, prog_12_method_48_code, 2, some FieldType.int, false),
  (⟨"LineFlowModel", "split", "(I)V"⟩, 9, prog_12_method_26_code, 5, none, false),
  (⟨"LineFlowModel", "layBlock", "(I)V"⟩, 9, prog_12_method_41_code, 13, none, false),
  (⟨"LineFlowModel", "lineThing", "(I)V"⟩, 9, prog_12_method_38_code, 4, none, false),
  (⟨"LineFlowModel", "putFloat", "(I)V"⟩, 9, prog_12_method_33_code, 7, none, false),
  (⟨"LineFlowModel", "edgesAt", "(I)V"⟩, 9, prog_12_method_31_code, 3, none, false),
  (⟨"LineFlowModel", "isFloatAt", "(II)Z"⟩, 9, prog_12_method_30_code, 3, some FieldType.boolean, false),
  (⟨"LineFlowModel", "leastEnd", "(I)I"⟩, 9, prog_12_method_32_code, 4, some FieldType.int, false),
  (⟨"LineFlowModel", "putItem", "(III)V"⟩, 9, prog_12_method_36_code, 7, none, false),
  (⟨"LineFlowModel", "itemHigh", "(I)I"⟩, 9, prog_12_method_34_code, 2, some FieldType.int, false),
  (⟨"LineFlowModel", "endLine", "()V"⟩, 9, prog_12_method_35_code, 6, none, false),
  (⟨"LineFlowModel", "lineText", "(I)V"⟩, 9, prog_12_method_37_code, 5, none, false),
  (⟨"LineFlowModel", "heightOf", "(II)I"⟩, 9, prog_12_method_29_code, 3, some FieldType.int, false),
  (⟨"LineFlowModel", "layFlex", "(I)V"⟩, 9, prog_12_method_28_code, 6, none, false),
  (⟨"LineFlowModel", "box", "(II)I"⟩, 9, prog_12_method_42_code, 3, some FieldType.int, false),
  (⟨"LineFlowModel", "words", "()I"⟩, 9, prog_12_method_43_code, 1, some FieldType.int, false),
  (⟨"LineFlowModel", "word", "(II)I"⟩, 9, prog_12_method_44_code, 3, some FieldType.int, false),
  (⟨"LineFlowModel", "line", "(I)I"⟩, 9, prog_12_method_45_code, 2, some FieldType.int, false),
  (⟨"LineFlowModel", "margin", "(IZ)I"⟩, 9, prog_12_method_46_code, 3, some FieldType.int, false)]
def am_mt : List (MethodName × am_I) := am_mt0 ++ (am_mt1 ++ (am_mt2 ++ (am_mt3)))
def am_pools : List (List (Nat × Nat × Nat × Nat)) := [
  [(1, 8, 0, 0)],
  [(9, 1, 1, 0), (15, 1, 1, 1), (18, 1, 1, 2), (22, 1, 1, 3), (25, 1, 1, 4), (28, 1, 1, 5), (61, 1, 0, 0), (82, 1, 0, 1), (66, 1, 0, 2), (85, 1, 0, 3), (49, 1, 5, 4), (57, 1, 5, 12), (31, 1, 5, 15), (3, 8, 0, 0), (72, 4, 70, 1), (53, 5, 71, 2), (36, 5, 72, 1), (46, 5, 73, 1), (76, 4, 74, 1), (69, 17, 0, 0), (79, 4, 75, 1), (40, 16, 0, 0)],
  [(88, 1, 1, 5), (23, 1, 2, 0), (43, 1, 2, 1), (49, 1, 2, 2), (61, 1, 2, 3), (64, 1, 2, 4), (65, 1, 2, 5), (68, 1, 2, 6), (72, 1, 2, 7), (75, 1, 2, 8), (10, 1, 2, 9), (19, 1, 2, 10), (33, 1, 0, 0), (46, 1, 0, 1), (52, 1, 0, 2), (27, 1, 5, 12), (85, 1, 5, 15), (1, 8, 0, 0), (39, 4, 53, 0), (55, 16, 0, 0), (78, 4, 54, 3), (82, 4, 55, 0), (9, 7, 7, 0), (18, 7, 8, 0), (7, 9, 1, 0), (16, 9, 4, 0)],
  [(261, 1, 1, 4), (234, 1, 1, 5), (167, 1, 2, 0), (164, 1, 2, 1), (176, 1, 2, 2), (170, 1, 2, 3), (229, 1, 2, 4), (216, 1, 2, 5), (294, 1, 2, 6), (230, 1, 2, 9), (242, 1, 2, 10), (12, 1, 3, 0), (32, 1, 3, 1), (20, 1, 3, 2), (27, 1, 3, 3), (141, 1, 0, 0), (144, 1, 0, 1), (132, 1, 0, 2), (137, 1, 0, 3), (116, 1, 5, 0), (70, 1, 5, 1), (222, 1, 5, 2), (147, 1, 5, 3), (46, 1, 5, 4), (78, 1, 5, 5), (89, 1, 5, 7), (92, 1, 5, 8), (60, 1, 5, 9), (86, 1, 5, 10), (63, 1, 5, 11), (140, 1, 5, 12), (67, 1, 5, 13), (77, 1, 5, 14), (318, 1, 5, 15), (119, 1, 7, 0), (122, 1, 7, 1), (125, 1, 7, 2), (128, 1, 7, 3), (3, 8, 0, 0), (11, 6, 2, 0), (52, 4, 30, 2), (73, 4, 31, 1), (96, 5, 32, 1), (100, 5, 33, 1), (104, 4, 34, 4), (36, 4, 35, 0), (108, 4, 37, 1), (112, 4, 45, 1), (40, 4, 46, 1), (82, 5, 50, 2), (56, 4, 51, 4), (150, 4, 52, 1), (153, 4, 56, 1), (173, 4, 57, 2), (291, 4, 58, 2), (179, 4, 59, 1), (275, 4, 60, 1), (278, 4, 53, 0), (183, 4, 63, 2), (187, 16, 0, 0), (157, 4, 64, 1), (192, 4, 65, 2), (239, 4, 66, 0), (246, 4, 67, 0), (252, 4, 68, 2), (258, 17, 0, 0), (264, 4, 69, 2), (267, 4, 75, 1), (270, 4, 74, 1), (273, 4, 76, 1), (255, 4, 77, 1), (196, 4, 78, 2), (281, 4, 79, 2), (284, 4, 80, 3), (297, 4, 81, 1), (301, 4, 82, 2), (206, 4, 83, 1), (308, 4, 84, 2), (311, 4, 55, 0), (314, 4, 86, 0), (304, 4, 87, 2), (288, 4, 88, 2), (199, 4, 89, 2), (210, 5, 90, 2), (225, 5, 95, 2), (202, 5, 96, 2), (219, 4, 97, 0), (160, 4, 98, 1), (26, 7, 5, 0), (31, 7, 6, 0), (107, 7, 36, 0), (9, 9, 10, 0), (18, 9, 2, 0), (24, 9, 6, 0), (44, 9, 7, 0)],
  [(9, 1, 4, 0), (15, 1, 4, 1), (25, 1, 4, 2), (22, 1, 4, 3), (18, 1, 4, 4), (33, 1, 0, 0), (50, 1, 0, 1), (36, 1, 0, 2), (39, 1, 0, 3), (28, 1, 0, 4), (3, 8, 0, 0), (40, 16, 0, 0), (46, 4, 85, 1)],
  [(33, 1, 5, 0), (36, 1, 5, 1), (39, 1, 5, 2), (43, 1, 5, 3), (9, 1, 5, 4), (49, 1, 5, 5), (46, 1, 5, 6), (52, 1, 5, 7), (19, 1, 5, 8), (22, 1, 5, 9), (29, 1, 5, 12), (15, 3, 1, 0), (3, 8, 0, 0), (55, 4, 58, 2), (59, 4, 53, 0), (63, 16, 0, 0), (28, 7, 11, 0), (26, 9, 0, 0)],
  [(9, 1, 6, 0), (15, 1, 6, 1), (23, 1, 5, 4), (29, 1, 5, 5), (41, 1, 5, 7), (33, 1, 5, 8), (3, 8, 0, 0), (19, 4, 61, 1), (37, 4, 62, 1), (44, 5, 32, 1), (48, 5, 33, 1)],
  [(10, 1, 7, 3), (1, 8, 0, 0), (9, 7, 11, 0), (7, 9, 0, 0)],
  [(97, 1, 0, 0), (100, 1, 0, 1), (103, 1, 0, 2), (88, 1, 0, 3), (60, 1, 5, 1), (135, 1, 5, 2), (47, 1, 5, 3), (76, 1, 5, 4), (69, 1, 5, 8), (93, 1, 5, 11), (84, 1, 5, 12), (9, 1, 8, 0), (29, 1, 8, 1), (15, 1, 8, 2), (44, 1, 8, 3), (22, 1, 8, 4), (113, 1, 7, 0), (119, 1, 7, 1), (122, 1, 7, 2), (118, 1, 7, 3), (106, 2, 3, 1), (125, 2, 3, 3), (1, 8, 0, 0), (21, 6, 1, 0), (26, 4, 9, 0), (50, 6, 10, 3), (33, 4, 13, 1), (37, 4, 16, 0), (40, 4, 18, 1), (57, 4, 19, 1), (53, 4, 20, 1), (63, 5, 22, 2), (72, 5, 24, 3), (149, 5, 25, 2), (156, 5, 26, 3), (153, 5, 27, 1), (80, 4, 29, 2), (109, 4, 45, 1), (129, 4, 60, 1), (139, 5, 92, 1), (145, 5, 95, 2), (13, 9, 5, 0), (19, 9, 3, 0)],
  [(7, 1, 9, 0), (142, 1, 9, 1), (13, 1, 9, 2), (17, 1, 9, 3), (21, 1, 9, 4), (24, 1, 9, 5), (27, 1, 9, 6), (30, 1, 9, 7), (33, 1, 9, 8), (36, 1, 9, 9), (39, 1, 9, 10), (42, 1, 9, 11), (45, 1, 9, 12), (48, 1, 9, 13), (52, 1, 9, 14), (55, 1, 9, 15), (58, 1, 9, 16), (61, 1, 9, 17), (64, 1, 9, 18), (67, 1, 9, 19), (70, 1, 9, 20), (73, 1, 9, 21), (178, 1, 9, 22), (76, 1, 9, 23), (79, 1, 9, 24), (82, 1, 9, 25), (85, 1, 9, 26), (88, 1, 9, 27), (91, 1, 9, 28), (153, 1, 9, 29), (94, 1, 9, 30), (97, 1, 9, 31), (100, 1, 9, 32), (103, 1, 9, 33), (106, 1, 9, 34), (109, 1, 9, 35), (112, 1, 9, 36), (251, 1, 9, 37), (235, 1, 9, 38), (241, 1, 9, 39), (260, 1, 9, 40), (266, 1, 9, 41), (269, 1, 9, 42), (263, 1, 9, 43), (115, 1, 9, 44), (118, 1, 9, 45), (244, 1, 9, 46), (121, 1, 9, 47), (124, 1, 9, 48), (127, 1, 9, 49), (130, 1, 9, 50), (133, 1, 9, 51), (136, 1, 9, 52), (279, 1, 9, 53), (275, 1, 9, 54), (238, 1, 9, 55), (1, 8, 0, 0), (139, 4, 105, 0), (149, 4, 106, 3), (145, 4, 108, 1), (156, 4, 111, 1), (160, 4, 114, 3), (217, 4, 116, 0), (181, 4, 117, 1), (168, 4, 118, 2), (184, 4, 119, 1), (187, 4, 120, 2), (164, 4, 121, 2), (190, 4, 122, 1), (193, 4, 123, 1), (196, 4, 124, 1), (171, 4, 125, 1), (175, 5, 126, 2), (220, 4, 127, 1), (205, 4, 128, 1), (208, 4, 129, 2), (211, 4, 130, 1), (199, 5, 131, 1), (202, 5, 132, 1), (214, 5, 133, 2), (223, 4, 134, 1), (226, 4, 135, 1), (294, 4, 136, 1), (282, 4, 137, 1), (254, 4, 138, 1), (247, 4, 139, 2), (257, 4, 140, 1), (288, 4, 141, 3), (272, 4, 142, 1), (285, 4, 143, 0), (291, 4, 144, 1), (232, 4, 145, 2), (229, 4, 146, 1)],
  [(39, 3, 2, 0), (9, 1, 10, 1), (48, 1, 10, 2), (63, 1, 10, 0), (1, 6, 3, 0), (131, 4, 38, 3), (129, 4, 39, 0), (69, 4, 40, 1), (73, 5, 41, 3), (66, 5, 43, 2), (79, 16, 0, 0), (118, 5, 47, 2), (123, 4, 49, 1), (7, 9, 20, 0)],
  [(45, 1, 5, 1), (53, 1, 5, 2), (15, 1, 5, 4), (57, 1, 5, 5), (60, 1, 5, 7), (31, 5, 91, 1), (42, 5, 92, 1), (49, 4, 53, 0), (35, 5, 93, 1), (39, 5, 94, 1), (9, 5, 90, 2), (21, 5, 95, 2), (25, 16, 0, 0)],
  [(9, 6, 0, 0), (13, 4, 12, 5), (18, 4, 14, 1), (23, 4, 15, 0), (27, 4, 17, 2), (32, 4, 21, 1), (36, 4, 23, 3), (41, 4, 28, 1), (45, 4, 99, 2), (49, 4, 100, 0), (54, 4, 101, 2), (58, 4, 102, 1), (62, 4, 103, 2), (12, 6, 104, 0), (17, 4, 107, 5), (22, 4, 109, 1), (26, 4, 105, 0), (31, 4, 110, 2), (35, 4, 112, 1), (40, 4, 113, 3), (44, 4, 115, 1), (48, 4, 147, 2), (53, 4, 148, 0), (57, 4, 149, 2), (61, 4, 150, 1), (66, 4, 151, 2), (7, 9, 8, 0), (10, 9, 9, 0)],
  [(304, 17, 0, 0), (150, 13, 0, 0), (86, 14, 0, 0), (300, 5, 44, 3), (110, 15, 0, 0), (2, 9, 20, 0)],
  [],
  [(194, 16, 0, 0), (201, 5, 42, 2), (200, 12, 2147483639, 0)],
  [(105, 5, 48, 3)],
  [],
  [(7, 1, 10, 0), (1, 6, 4, 0)],
  [(1, 8, 0, 0)],
  []]
def am_hints : List (List (Nat × Nat × Nat × Nat)) := [
  [(266, 0, 0, 0)],
  [(148, 0, 0, 0), (149, 0, 0, 0), (150, 0, 0, 0), (151, 0, 0, 0), (152, 0, 0, 0), (154, 0, 0, 0), (268, 0, 0, 0), (274, 0, 0, 0), (278, 0, 0, 0), (285, 0, 0, 0), (315, 0, 0, 0), (338, 0, 0, 0), (343, 0, 0, 0), (147, 0, 0, 0), (681, 683, 19, 0), (685, 686, 0, 0), (688, 689, 0, 0), (691, 692, 0, 0), (694, 695, 696, 0), (698, 0, 0, 0), (699, 700, 701, 0), (703, 0, 0, 0)],
  [(155, 0, 0, 0), (192, 0, 0, 0), (194, 0, 0, 0), (196, 0, 0, 0), (198, 0, 0, 0), (200, 0, 0, 0), (202, 0, 0, 0), (204, 0, 0, 0), (206, 0, 0, 0), (207, 0, 0, 0), (208, 0, 0, 0), (210, 0, 0, 0), (267, 0, 0, 0), (272, 0, 0, 0), (277, 0, 0, 0), (337, 0, 0, 0), (344, 0, 0, 0), (141, 0, 0, 0), (604, 605, 606, 0), (608, 0, 0, 0), (609, 610, 611, 0), (613, 614, 615, 0), (144, 145, 0, 0), (172, 173, 0, 0), (142, 0, 0, 0), (170, 0, 0, 0)],
  [(153, 0, 0, 0), (156, 0, 0, 0), (193, 0, 0, 0), (195, 0, 0, 0), (197, 0, 0, 0), (199, 0, 0, 0), (201, 0, 0, 0), (203, 0, 0, 0), (205, 0, 0, 0), (209, 0, 0, 0), (211, 0, 0, 0), (235, 0, 0, 0), (236, 0, 0, 0), (238, 0, 0, 0), (239, 0, 0, 0), (270, 0, 0, 0), (275, 0, 0, 0), (280, 0, 0, 0), (284, 0, 0, 0), (300, 0, 0, 0), (303, 0, 0, 0), (307, 0, 0, 0), (311, 0, 0, 0), (314, 0, 0, 0), (320, 0, 0, 0), (325, 0, 0, 0), (330, 0, 0, 0), (332, 0, 0, 0), (333, 0, 0, 0), (334, 0, 0, 0), (340, 0, 0, 0), (341, 0, 0, 0), (342, 0, 0, 0), (345, 0, 0, 0), (505, 0, 0, 0), (507, 0, 0, 0), (509, 0, 0, 0), (512, 0, 0, 0), (94, 0, 0, 0), (97, 98, 0, 0), (475, 477, 4, 0), (479, 481, 5, 0), (483, 484, 0, 0), (486, 487, 0, 0), (489, 491, 6, 0), (493, 494, 495, 0), (523, 524, 525, 0), (575, 576, 577, 0), (579, 580, 581, 0), (593, 594, 0, 0), (596, 598, 10, 0), (600, 601, 602, 0), (617, 619, 11, 0), (621, 623, 12, 0), (625, 626, 627, 0), (629, 631, 13, 0), (633, 634, 635, 0), (647, 605, 606, 0), (648, 649, 650, 0), (655, 0, 0, 0), (656, 658, 16, 0), (660, 662, 17, 0), (664, 665, 666, 0), (668, 669, 670, 0), (672, 674, 18, 0), (676, 0, 0, 0), (677, 678, 679, 0), (704, 700, 701, 0), (705, 695, 696, 0), (706, 707, 708, 0), (710, 711, 712, 0), (714, 716, 20, 0), (718, 720, 21, 0), (722, 724, 22, 0), (726, 727, 728, 0), (730, 731, 732, 0), (735, 737, 23, 0), (739, 740, 741, 0), (747, 614, 615, 0), (748, 749, 750, 0), (752, 753, 754, 0), (756, 758, 25, 0), (760, 762, 26, 0), (764, 765, 0, 0), (780, 781, 0, 0), (786, 787, 0, 0), (789, 790, 791, 0), (793, 794, 795, 0), (126, 127, 0, 0), (138, 139, 0, 0), (499, 500, 0, 0), (95, 0, 0, 0), (122, 0, 0, 0), (124, 0, 0, 0), (497, 0, 0, 0)],
  [(176, 0, 0, 0), (177, 0, 0, 0), (178, 0, 0, 0), (179, 0, 0, 0), (180, 0, 0, 0), (269, 0, 0, 0), (273, 0, 0, 0), (279, 0, 0, 0), (282, 0, 0, 0), (286, 0, 0, 0), (175, 0, 0, 0), (734, 0, 0, 0), (743, 745, 24, 0)],
  [(299, 0, 0, 0), (301, 0, 0, 0), (305, 0, 0, 0), (309, 0, 0, 0), (312, 0, 0, 0), (318, 0, 0, 0), (322, 0, 0, 0), (323, 0, 0, 0), (327, 0, 0, 0), (331, 0, 0, 0), (336, 0, 0, 0), (259, 0, 0, 0), (258, 0, 0, 0), (652, 626, 627, 0), (653, 605, 606, 0), (654, 0, 0, 0), (263, 264, 0, 0), (261, 0, 0, 0)],
  [(130, 0, 0, 0), (131, 0, 0, 0), (316, 0, 0, 0), (319, 0, 0, 0), (324, 0, 0, 0), (328, 0, 0, 0), (129, 0, 0, 0), (637, 639, 14, 0), (641, 643, 15, 0), (645, 484, 0, 0), (646, 487, 0, 0)],
  [(511, 0, 0, 0), (502, 0, 0, 0), (504, 264, 0, 0), (503, 0, 0, 0)],
  [(271, 0, 0, 0), (276, 0, 0, 0), (281, 0, 0, 0), (283, 0, 0, 0), (304, 0, 0, 0), (308, 0, 0, 0), (310, 0, 0, 0), (317, 0, 0, 0), (329, 0, 0, 0), (335, 0, 0, 0), (339, 0, 0, 0), (379, 0, 0, 0), (380, 0, 0, 0), (381, 0, 0, 0), (382, 0, 0, 0), (383, 0, 0, 0), (506, 0, 0, 0), (508, 0, 0, 0), (510, 0, 0, 0), (513, 0, 0, 0), (237, 0, 0, 0), (240, 0, 0, 0), (84, 0, 0, 0), (91, 92, 0, 0), (250, 252, 0, 0), (255, 256, 0, 0), (399, 401, 1, 0), (411, 412, 413, 0), (419, 421, 2, 0), (423, 425, 3, 0), (427, 428, 429, 0), (435, 436, 0, 0), (455, 456, 0, 0), (458, 459, 0, 0), (461, 462, 0, 0), (464, 465, 0, 0), (471, 472, 473, 0), (809, 576, 577, 0), (814, 634, 635, 0), (819, 771, 0, 0), (820, 781, 0, 0), (87, 0, 0, 0), (89, 0, 0, 0)],
  [(835, 0, 0, 0), (836, 0, 0, 0), (837, 0, 0, 0), (838, 0, 0, 0), (839, 0, 0, 0), (840, 0, 0, 0), (841, 0, 0, 0), (842, 0, 0, 0), (843, 0, 0, 0), (844, 0, 0, 0), (845, 0, 0, 0), (846, 0, 0, 0), (847, 0, 0, 0), (848, 0, 0, 0), (849, 0, 0, 0), (850, 0, 0, 0), (851, 0, 0, 0), (852, 0, 0, 0), (853, 0, 0, 0), (854, 0, 0, 0), (855, 0, 0, 0), (856, 0, 0, 0), (857, 0, 0, 0), (858, 0, 0, 0), (859, 0, 0, 0), (860, 0, 0, 0), (861, 0, 0, 0), (862, 0, 0, 0), (863, 0, 0, 0), (864, 0, 0, 0), (865, 0, 0, 0), (866, 0, 0, 0), (867, 0, 0, 0), (868, 0, 0, 0), (869, 0, 0, 0), (870, 0, 0, 0), (871, 0, 0, 0), (872, 0, 0, 0), (873, 0, 0, 0), (874, 0, 0, 0), (875, 0, 0, 0), (876, 0, 0, 0), (877, 0, 0, 0), (878, 0, 0, 0), (879, 0, 0, 0), (880, 0, 0, 0), (881, 0, 0, 0), (882, 0, 0, 0), (883, 0, 0, 0), (884, 0, 0, 0), (885, 0, 0, 0), (886, 0, 0, 0), (887, 0, 0, 0), (888, 0, 0, 0), (889, 0, 0, 0), (890, 0, 0, 0), (826, 0, 0, 0), (827, 828, 829, 0), (831, 833, 27, 0), (1009, 1011, 28, 0), (1022, 1024, 29, 0), (1034, 1036, 30, 0), (1042, 1044, 31, 0), (1046, 1048, 32, 0), (1050, 1052, 33, 0), (1054, 1056, 34, 0), (1058, 1060, 35, 0), (1062, 1064, 36, 0), (1066, 1068, 37, 0), (1070, 1072, 38, 0), (1074, 1076, 39, 0), (1078, 1080, 40, 0), (1082, 1083, 0, 0), (1085, 1087, 41, 0), (1089, 1091, 42, 0), (1093, 1095, 43, 0), (1097, 1099, 44, 0), (1101, 1102, 0, 0), (1104, 1105, 0, 0), (1107, 1108, 0, 0), (1110, 1112, 45, 0), (1114, 1116, 46, 0), (1118, 1120, 47, 0), (1122, 1124, 48, 0), (1126, 1128, 49, 0), (1130, 1132, 50, 0), (1134, 1136, 51, 0), (1138, 1140, 52, 0), (1142, 1144, 53, 0), (1146, 1148, 54, 0), (1150, 1152, 55, 0), (1154, 1156, 56, 0), (1158, 1160, 57, 0)],
  [(107, 0, 0, 0), (109, 0, 0, 0), (110, 0, 0, 0), (112, 113, 0, 0), (100, 101, 0, 0), (527, 529, 7, 0), (531, 533, 8, 0), (535, 537, 9, 0), (539, 540, 0, 0), (549, 550, 0, 0), (573, 0, 0, 0), (583, 584, 0, 0), (589, 590, 591, 0), (574, 0, 0, 0)],
  [(302, 0, 0, 0), (306, 0, 0, 0), (313, 0, 0, 0), (321, 0, 0, 0), (326, 0, 0, 0), (767, 768, 0, 0), (770, 771, 0, 0), (773, 605, 606, 0), (774, 775, 0, 0), (777, 778, 0, 0), (783, 765, 0, 0), (784, 781, 0, 0), (785, 0, 0, 0)],
  [(81, 82, 0, 0), (395, 396, 397, 0), (403, 404, 405, 0), (407, 408, 409, 0), (415, 416, 417, 0), (431, 432, 433, 0), (451, 452, 453, 0), (467, 468, 469, 0), (797, 798, 799, 0), (801, 802, 803, 0), (805, 806, 807, 0), (810, 811, 812, 0), (815, 816, 817, 0), (823, 824, 0, 0), (1005, 1006, 1007, 0), (1013, 1014, 1015, 0), (1017, 828, 829, 0), (1018, 1019, 1020, 0), (1026, 1027, 1028, 0), (1030, 1031, 1032, 0), (1038, 1039, 1040, 0), (1162, 1163, 1164, 0), (1166, 1167, 1168, 0), (1170, 1171, 1172, 0), (1174, 1175, 1176, 0), (1178, 1179, 1180, 0), (79, 0, 0, 0), (821, 0, 0, 0)],
  [(445, 0, 0, 0), (448, 0, 0, 0), (552, 0, 0, 0), (567, 568, 0, 0), (570, 0, 0, 0), (572, 0, 0, 0)],
  [],
  [(542, 0, 0, 0), (546, 547, 0, 0), (545, 0, 0, 0)],
  [(586, 587, 0, 0)],
  [],
  [(111, 0, 0, 0), (103, 104, 0, 0)],
  [(106, 0, 0, 0)],
  []]
def am_pool (o idx : Nat) : Nat × Nat × Nat := match (am_pools.getD o []).find? (fun e => e.1 == idx) with
  | some e => e.2
  | none => (0, 0, 0)
def am_ct (xs : List Int32) (j : Nat) : Option (FieldType × List Value) := match j with
  | 0 => some (.int, xs.map Value.int)
  | 1 => some (.byte, [])
  | 2 => some (.object "java/lang/Object", [])
  | _ => none
def am_Bx (xs : List Int32) : am_B := (am_pool, fun m => (am_mt[m]?).map (fun q => q.2), am_fl, am_ct xs)
def am_my (m : Nat) : MethodName := ((am_mt[m]?).map (fun q => q.1)).getD ⟨"", "", ""⟩
def am_ts : List Cond := lw_tbl.filter goodWord
def am_nw : List Cond := [.fieldLinkNest "LineFlow" 106 "LineFlow$Layout" "wordCount" "I" "LineFlow", .fieldLinkNest "LineFlow" 125 "LineFlow$Layout" "ruler" "LLineFlow$Ruler;" "LineFlow", .fieldLinkNest "LineFlow$Node" 15 "LineFlow" "NO_BYTES" "[B" "LineFlow", .methodLinkNest "LineFlow$Layout" 26 ⟨"LineFlow$Ruler", "<init>", "()V"⟩ "LineFlow", .methodLinkNest "LineFlow$Layout" 31 ⟨"LineFlow$Flow", "<init>", "()V"⟩ "LineFlow", .methodLinkNest "LineFlow$Flow" 9 ⟨"LineFlow$Floats", "<init>", "()V"⟩ "LineFlow", .methodLinkNest "LineFlow$Flow" 18 ⟨"LineFlow$Line", "<init>", "()V"⟩ "LineFlow", .methodLinkNest "LineFlow$Node" 28 ⟨"LineFlow$Box", "<init>", "()V"⟩ "LineFlow", .methodLinkNest "LineFlow$Layout" 107 ⟨"LineFlow$Word", "<init>", "()V"⟩ "LineFlow", .methodLinkNest "LineFlow$Word" 9 ⟨"LineFlow$Box", "<init>", "()V"⟩ "LineFlow", .castable "LineFlow$Word" "java/lang/Object", .arrayOver (.object "LineFlow$Node"), .arrayOver (.object "LineFlow$Flow"), .arrayOver (.object "java/lang/Object"), .declares am_gcn]
def am_nwp : List Nat := [237, 240, 259, 126, 138, 144, 172, 263, 499, 504, 1195, 88, 123, 571, 1185]
def am_at (i : Nat) (w : Cond) : Bool := decide (lw_tbl[i]? = some w) && goodWord w
theorem am_at_ok {i : Nat} {w : Cond} (h : am_at i w = true) : w ∈ am_ts := by
  simp only [am_at, Bool.and_eq_true, decide_eq_true_eq] at h
  exact List.mem_filter.mpr ⟨List.mem_of_getElem? h.1, h.2⟩
def am_ch : Nat → List Nat := fun c => match c with
  | 0 => [287, 289, 291, 293, 295, 262, 69]
  | 1 => [157, 159, 161, 163, 165, 167, 143, 66]
  | 2 => [212, 214, 216, 218, 220, 222, 224, 226, 228, 230, 232, 137, 65]
  | 3 => [241, 243, 245, 247, 90, 60]
  | 4 => [181, 183, 185, 187, 189, 171, 67]
  | 5 => [346, 348, 350, 352, 354, 356, 358, 360, 362, 364, 366, 368, 370, 372, 374, 376, 254, 68]
  | 6 => [132, 134, 125, 64]
  | 7 => [514, 516, 518, 520, 498, 74]
  | 8 => [384, 386, 388, 390, 392, 80, 59]
  | 9 => [891, 893, 895, 897, 899, 901, 903, 905, 907, 909, 911, 913, 915, 917, 919, 921, 923, 925, 927, 929, 931, 933, 935, 937, 939, 941, 943, 945, 947, 949, 951, 953, 955, 957, 959, 961, 963, 965, 967, 969, 971, 973, 975, 977, 979, 981, 983, 985, 987, 989, 991, 993, 995, 997, 999, 1001, 822, 70]
  | 10 => [118, 114, 116, 96, 63]
  | _ => []
def am_tyD (T : u_T) (k : Nat) : FieldType := (parseFieldDescriptor (T k).2.2.1).getD .int
def am_ckC (c : Nat) : Bool := match am_cl[c]? with
  | none => false
  | some r => r.1 == am_nm c && (List.range r.2.2).all (fun k => am_at ((am_ch c).getD k 0) (u_lay r.1 r.2.1 k)) && am_at ((am_ch c).getD r.2.2 0) (.instantiable r.1 r.2.2) && am_at ((am_ch c).getD (r.2.2 + 1) 0) (.initialized r.1) &&
    (List.range r.2.2).all (fun a => (List.range r.2.2).all (fun b => a == b || (r.2.1 a).2.1 != (r.2.1 b).2.1)) && (List.range r.2.2).all (fun k => decide (parseFieldDescriptor (r.2.1 k).2.2.1 = some (am_tyD r.2.1 k))) &&
    decide (am_fl c = some ((List.range r.2.2).map (fun k => (am_tyD r.2.1 k, (r.2.1 k).2.2.2))))
def am_pm (y : MethodName) (n : Nat) : Bool := decide ((parseMethodDescriptor y.desc).map (fun d => d.parameters.length) = some n)
def am_rt (m : Nat) : Bool := match am_mt[m]? with
  | none => false
  | some q => q.2.2.2.2.1 == none
def am_chk (o : Nat) (e h : Nat × Nat × Nat × Nat) : Bool := match e.2.1 with
  | 1 => match am_cl[e.2.2.1]? with
    | none => false
    | some r => decide (e.2.2.2 < r.2.2) && (!(r.2.1 e.2.2.2).2.2.2 || (r.2.1 e.2.2.2).1 == am_nm e.2.2.1) && if h.2.1 = 0 then am_at h.1 (.fieldLink (am_nm o) e.1 (r.2.1 e.2.2.2).1 (r.2.1 e.2.2.2).2.1 (r.2.1 e.2.2.2).2.2.1) else am_at h.1 (.fieldLink (am_nm o) e.1 "java/util/ArrayList" (r.2.1 e.2.2.2).2.1 (r.2.1 e.2.2.2).2.2.1) && am_at h.2.1 (.sameField "java/util/ArrayList" (r.2.1 e.2.2.2).1 (r.2.1 e.2.2.2).2.1 (r.2.1 e.2.2.2).2.2.1)
  | 2 => match am_cl[e.2.2.1]? with
    | none => false
    | some r => decide (e.2.2.2 < r.2.2) && (!(r.2.1 e.2.2.2).2.2.2 || (r.2.1 e.2.2.2).1 == am_nm e.2.2.1) && decide (Cond.fieldLinkNest (am_nm o) e.1 (r.2.1 e.2.2.2).1 (r.2.1 e.2.2.2).2.1 (r.2.1 e.2.2.2).2.2.1 "LineFlow" ∈ am_nw)
  | 3 => e.2.2.1 == 1 && o == 5 && e.1 == 15 || e.2.2.1 == 2 && o == 10 && e.1 == 39
  | 4 => am_at h.1 (.methodLink (am_nm o) e.1 (am_my e.2.2.1)) && am_at h.2.1 (.instanceMethod (am_my e.2.2.1)) && am_at h.2.2.1 (.selects (am_my e.2.2.1).cls (am_my e.2.2.1) (am_my e.2.2.1)) && am_pm (am_my e.2.2.1) e.2.2.2
  | 5 => am_at h.1 (.methodLink (am_nm o) e.1 (am_my e.2.2.1)) && am_at h.2.1 (.static (am_my e.2.2.1)) && am_pm (am_my e.2.2.1) e.2.2.2
  | 6 => am_at h.1 (.methodLink (am_nm o) e.1 (am_my e.2.2.1)) && am_at h.2.1 (.instanceMethod (am_my e.2.2.1)) && (am_my e.2.2.1).name == "<init>" && am_pm (am_my e.2.2.1) e.2.2.2 && am_rt e.2.2.1
  | 7 => decide (Cond.methodLinkNest (am_nm o) e.1 (am_my e.2.2.1) "LineFlow" ∈ am_nw) && am_at h.2.1 (.instanceMethod (am_my e.2.2.1)) && (am_my e.2.2.1).name == "<init>" && am_pm (am_my e.2.2.1) e.2.2.2 && am_rt e.2.2.1
  | 8 => am_at h.1 (.methodLink (am_nm o) e.1 objectInit)
  | 9 => am_at h.1 (.classLink (am_nm o) e.1 (am_nm e.2.2.1))
  | 12 => am_at h.1 (.constant (am_nm o) e.1 (Int32.ofNat e.2.2.1))
  | 13 => am_at h.1 (.methodLink (am_nm o) e.1 arraycopyName)
  | 14 => am_at h.1 (.methodLink (am_nm o) e.1 am_gcn)
  | 15 => am_at h.1 (.classLink (am_nm o) e.1 "[Ljava/lang/Object;")
  | 16 => am_at h.1 (.methodLink (am_nm o) e.1 Lib.Math.max.name)
  | 17 => am_at h.1 (.methodLink (am_nm o) e.1 Lib.Math.min.name)
  | _ => false
def am_ckP (o : Nat) : Bool := decide ((am_pools.getD o []).length = (am_hints.getD o []).length) && ((am_pools.getD o []).zip (am_hints.getD o [])).all (fun q => am_chk o q.1 q.2)
def am_ckM (q : MethodName × am_I) : Bool := q.1.cls == am_nm q.2.1 && plainName q.1.cls && q.1.cls != "java/lang/invoke/MethodHandle" && q.1.cls != "java/lang/invoke/VarHandle" && (!q.2.2.2.2.2 || q.1.name == "<init>") && decide (q.2.2.2.1 ≤ 40) && (List.range 21).any (fun i => am_at (58 + i) (.initialized q.1.cls))
theorem am_ckC0 : am_ckC 0 = true := by decide +kernel
theorem am_ckC1 : am_ckC 1 = true := by decide +kernel
theorem am_ckC2 : am_ckC 2 = true := by decide +kernel
theorem am_ckC3 : am_ckC 3 = true := by decide +kernel
theorem am_ckC4 : am_ckC 4 = true := by decide +kernel
theorem am_ckC5 : am_ckC 5 = true := by decide +kernel
theorem am_ckC6 : am_ckC 6 = true := by decide +kernel
theorem am_ckC7 : am_ckC 7 = true := by decide +kernel
theorem am_ckC8 : am_ckC 8 = true := by decide +kernel
theorem am_ckC9 : am_ckC 9 = true := by decide +kernel
theorem am_ckC10 : am_ckC 10 = true := by decide +kernel
theorem am_ckP0 : am_ckP 0 = true := by decide +kernel
theorem am_ckP1 : am_ckP 1 = true := by decide +kernel
theorem am_ckP2 : am_ckP 2 = true := by decide +kernel
theorem am_ckP3 : am_ckP 3 = true := by decide +kernel
theorem am_ckP4 : am_ckP 4 = true := by decide +kernel
theorem am_ckP5 : am_ckP 5 = true := by decide +kernel
theorem am_ckP6 : am_ckP 6 = true := by decide +kernel
theorem am_ckP7 : am_ckP 7 = true := by decide +kernel
theorem am_ckP8 : am_ckP 8 = true := by decide +kernel
theorem am_ckP9 : am_ckP 9 = true := by decide +kernel
theorem am_ckP10 : am_ckP 10 = true := by decide +kernel
theorem am_ckP11 : am_ckP 11 = true := by decide +kernel
theorem am_ckP12 : am_ckP 12 = true := by decide +kernel
theorem am_ckP13 : am_ckP 13 = true := by decide +kernel
theorem am_ckP14 : am_ckP 14 = true := by decide +kernel
theorem am_ckP15 : am_ckP 15 = true := by decide +kernel
theorem am_ckP16 : am_ckP 16 = true := by decide +kernel
theorem am_ckP17 : am_ckP 17 = true := by decide +kernel
theorem am_ckP18 : am_ckP 18 = true := by decide +kernel
theorem am_ckP19 : am_ckP 19 = true := by decide +kernel
theorem am_ckP20 : am_ckP 20 = true := by decide +kernel
theorem am_ckM0 : am_mt0.all am_ckM = true := by decide +kernel
theorem am_ckM1 : am_mt1.all am_ckM = true := by decide +kernel
theorem am_ckM2 : am_mt2.all am_ckM = true := by decide +kernel
theorem am_ckM3 : am_mt3.all am_ckM = true := by decide +kernel
end
section
set_option maxRecDepth 100000 in
theorem am_q0 : Cond.code ⟨"LineFlow", "<init>", "()V"⟩ prog_1_method_1_code 1 (none) ∈ am_ts := List.mem_filter.mpr ⟨List.mem_of_getElem? (i := 83) rfl, rfl⟩
set_option maxRecDepth 100000 in
theorem am_q1 : Cond.code ⟨"LineFlow$Layout", "<init>", "()V"⟩ prog_5_method_1_code 2 (none) ∈ am_ts := List.mem_filter.mpr ⟨List.mem_of_getElem? (i := 93) rfl, rfl⟩
set_option maxRecDepth 100000 in
theorem am_q2 : Cond.code ⟨"java/util/ArrayList", "<init>", "()V"⟩ prog_20_method_2_code 1 (none) ∈ am_ts := List.mem_filter.mpr ⟨List.mem_of_getElem? (i := 99) rfl, rfl⟩
set_option maxRecDepth 100000 in
theorem am_q3 : Cond.code ⟨"java/util/AbstractList", "<init>", "()V"⟩ prog_19_method_1_code 1 (none) ∈ am_ts := List.mem_filter.mpr ⟨List.mem_of_getElem? (i := 102) rfl, rfl⟩
set_option maxRecDepth 100000 in
theorem am_q4 : Cond.code ⟨"java/util/AbstractCollection", "<init>", "()V"⟩ prog_18_method_1_code 1 (none) ∈ am_ts := List.mem_filter.mpr ⟨List.mem_of_getElem? (i := 105) rfl, rfl⟩
set_option maxRecDepth 100000 in
theorem am_q5 : Cond.code ⟨"LineFlow$Ruler", "<init>", "()V"⟩ prog_9_method_1_code 1 (none) ∈ am_ts := List.mem_filter.mpr ⟨List.mem_of_getElem? (i := 128) rfl, rfl⟩
set_option maxRecDepth 100000 in
theorem am_q6 : Cond.code ⟨"LineFlow$Flow", "<init>", "()V"⟩ prog_4_method_1_code 1 (none) ∈ am_ts := List.mem_filter.mpr ⟨List.mem_of_getElem? (i := 140) rfl, rfl⟩
set_option maxRecDepth 100000 in
theorem am_q7 : Cond.code ⟨"LineFlow$Floats", "<init>", "()V"⟩ prog_3_method_1_code 1 (none) ∈ am_ts := List.mem_filter.mpr ⟨List.mem_of_getElem? (i := 146) rfl, rfl⟩
set_option maxRecDepth 100000 in
theorem am_q8 : Cond.code ⟨"LineFlow$Line", "<init>", "()V"⟩ prog_6_method_1_code 1 (none) ∈ am_ts := List.mem_filter.mpr ⟨List.mem_of_getElem? (i := 174) rfl, rfl⟩
set_option maxRecDepth 100000 in
theorem am_q9 : Cond.code ⟨"LineFlow", "plantRoot", "()V"⟩ prog_1_method_14_code 2 (none) ∈ am_ts := List.mem_filter.mpr ⟨List.mem_of_getElem? (i := 253) rfl, rfl⟩
set_option maxRecDepth 100000 in
theorem am_q10 : Cond.code ⟨"LineFlow$Node", "<init>", "(IILLineFlow$Node;)V"⟩ prog_8_method_1_code 4 (none) ∈ am_ts := List.mem_filter.mpr ⟨List.mem_of_getElem? (i := 257) rfl, rfl⟩
set_option maxRecDepth 100000 in
theorem am_q11 : Cond.code ⟨"LineFlow$Box", "<init>", "()V"⟩ prog_2_method_1_code 1 (none) ∈ am_ts := List.mem_filter.mpr ⟨List.mem_of_getElem? (i := 265) rfl, rfl⟩
set_option maxRecDepth 100000 in
theorem am_q12 : Cond.code ⟨"LineFlow", "feed", "(IIIII)I"⟩ prog_1_method_2_code 6 (some FieldType.int) ∈ am_ts := List.mem_filter.mpr ⟨List.mem_of_getElem? (i := 398) rfl, rfl⟩
set_option maxRecDepth 100000 in
theorem am_q13 : Cond.code ⟨"LineFlow", "putOnTape", "(I)V"⟩ prog_1_method_15_code 3 (none) ∈ am_ts := List.mem_filter.mpr ⟨List.mem_of_getElem? (i := 402) rfl, rfl⟩
set_option maxRecDepth 100000 in
theorem am_q14 : Cond.code ⟨"LineFlow", "end", "(I)I"⟩ prog_1_method_3_code 2 (some FieldType.int) ∈ am_ts := List.mem_filter.mpr ⟨List.mem_of_getElem? (i := 406) rfl, rfl⟩
set_option maxRecDepth 100000 in
theorem am_q15 : Cond.code ⟨"LineFlow", "clear", "()V"⟩ prog_1_method_4_code 1 (none) ∈ am_ts := List.mem_filter.mpr ⟨List.mem_of_getElem? (i := 410) rfl, rfl⟩
set_option maxRecDepth 100000 in
theorem am_q16 : Cond.code ⟨"LineFlow$Layout", "forgetWords", "()V"⟩ prog_5_method_2_code 1 (none) ∈ am_ts := List.mem_filter.mpr ⟨List.mem_of_getElem? (i := 414) rfl, rfl⟩
set_option maxRecDepth 100000 in
theorem am_q17 : Cond.code ⟨"LineFlow", "node", "(II)I"⟩ prog_1_method_5_code 5 (some FieldType.int) ∈ am_ts := List.mem_filter.mpr ⟨List.mem_of_getElem? (i := 418) rfl, rfl⟩
set_option maxRecDepth 100000 in
theorem am_q18 : Cond.code ⟨"LineFlow", "elementAt", "(I)LLineFlow$Node;"⟩ prog_1_method_17_code 3 (some (FieldType.object "LineFlow$Node")) ∈ am_ts := List.mem_filter.mpr ⟨List.mem_of_getElem? (i := 422) rfl, rfl⟩
set_option maxRecDepth 100000 in
theorem am_q19 : Cond.code ⟨"LineFlow", "nodeAt", "(I)LLineFlow$Node;"⟩ prog_1_method_16_code 2 (some (FieldType.object "LineFlow$Node")) ∈ am_ts := List.mem_filter.mpr ⟨List.mem_of_getElem? (i := 426) rfl, rfl⟩
set_option maxRecDepth 100000 in
theorem am_q20 : Cond.code ⟨"LineFlow$Node", "append", "(LLineFlow$Node;)V"⟩ prog_8_method_2_code 2 (none) ∈ am_ts := List.mem_filter.mpr ⟨List.mem_of_getElem? (i := 430) rfl, rfl⟩
set_option maxRecDepth 100000 in
theorem am_q21 : Cond.code ⟨"LineFlow", "text", "(I)I"⟩ prog_1_method_6_code 3 (some FieldType.int) ∈ am_ts := List.mem_filter.mpr ⟨List.mem_of_getElem? (i := 434) rfl, rfl⟩
set_option maxRecDepth 100000 in
theorem am_q22 : Cond.code ⟨"java/util/Arrays", "copyOf", "([BI)[B"⟩ prog_21_method_121_code 3 (some (FieldType.array FieldType.byte)) ∈ am_ts := List.mem_filter.mpr ⟨List.mem_of_getElem? (i := 437) rfl, rfl⟩
set_option maxRecDepth 100000 in
theorem am_q23 : Cond.code ⟨"LineFlow", "set", "(III)I"⟩ prog_1_method_7_code 6 (some FieldType.int) ∈ am_ts := List.mem_filter.mpr ⟨List.mem_of_getElem? (i := 454) rfl, rfl⟩
set_option maxRecDepth 100000 in
theorem am_q24 : Cond.code ⟨"LineFlow", "mayHave", "(LLineFlow$Node;II)Z"⟩ prog_1_method_18_code 3 (some FieldType.boolean) ∈ am_ts := List.mem_filter.mpr ⟨List.mem_of_getElem? (i := 457) rfl, rfl⟩
set_option maxRecDepth 100000 in
theorem am_q25 : Cond.code ⟨"LineFlow", "mayDisplay", "(LLineFlow$Node;I)Z"⟩ prog_1_method_19_code 2 (some FieldType.boolean) ∈ am_ts := List.mem_filter.mpr ⟨List.mem_of_getElem? (i := 460) rfl, rfl⟩
set_option maxRecDepth 100000 in
theorem am_q26 : Cond.code ⟨"LineFlow", "within", "(III)Z"⟩ prog_1_method_21_code 3 (some FieldType.boolean) ∈ am_ts := List.mem_filter.mpr ⟨List.mem_of_getElem? (i := 463) rfl, rfl⟩
set_option maxRecDepth 100000 in
theorem am_q27 : Cond.code ⟨"LineFlow", "mayFloat", "(LLineFlow$Node;)Z"⟩ prog_1_method_20_code 1 (some FieldType.boolean) ∈ am_ts := List.mem_filter.mpr ⟨List.mem_of_getElem? (i := 466) rfl, rfl⟩
set_option maxRecDepth 100000 in
theorem am_q28 : Cond.code ⟨"LineFlow", "lay", "(I)I"⟩ prog_1_method_8_code 3 (some FieldType.int) ∈ am_ts := List.mem_filter.mpr ⟨List.mem_of_getElem? (i := 470) rfl, rfl⟩
set_option maxRecDepth 100000 in
theorem am_q29 : Cond.code ⟨"LineFlow$Layout", "layRoot", "(LLineFlow$Node;I)V"⟩ prog_5_method_4_code 3 (none) ∈ am_ts := List.mem_filter.mpr ⟨List.mem_of_getElem? (i := 474) rfl, rfl⟩
set_option maxRecDepth 100000 in
theorem am_q30 : Cond.code ⟨"LineFlow$Layout", "prepare", "(LLineFlow$Node;I)V"⟩ prog_5_method_5_code 5 (none) ∈ am_ts := List.mem_filter.mpr ⟨List.mem_of_getElem? (i := 478) rfl, rfl⟩
set_option maxRecDepth 100000 in
theorem am_q31 : Cond.code ⟨"LineFlow$Layout", "listWords", "(LLineFlow$Node;)V"⟩ prog_5_method_7_code 5 (none) ∈ am_ts := List.mem_filter.mpr ⟨List.mem_of_getElem? (i := 482) rfl, rfl⟩
set_option maxRecDepth 100000 in
theorem am_q32 : Cond.code ⟨"LineFlow$Ruler", "isBlank", "(B)Z"⟩ prog_9_method_2_code 1 (some FieldType.boolean) ∈ am_ts := List.mem_filter.mpr ⟨List.mem_of_getElem? (i := 485) rfl, rfl⟩
set_option maxRecDepth 100000 in
theorem am_q33 : Cond.code ⟨"LineFlow$Ruler", "glyphWidth", "(B)I"⟩ prog_9_method_3_code 1 (some FieldType.int) ∈ am_ts := List.mem_filter.mpr ⟨List.mem_of_getElem? (i := 488) rfl, rfl⟩
set_option maxRecDepth 100000 in
theorem am_q34 : Cond.code ⟨"LineFlow$Layout", "listWord", "(LLineFlow$Node;III)V"⟩ prog_5_method_8_code 6 (none) ∈ am_ts := List.mem_filter.mpr ⟨List.mem_of_getElem? (i := 492) rfl, rfl⟩
set_option maxRecDepth 100000 in
theorem am_q35 : Cond.code ⟨"java/util/ArrayList", "size", "()I"⟩ prog_20_method_8_code 1 (some FieldType.int) ∈ am_ts := List.mem_filter.mpr ⟨List.mem_of_getElem? (i := 496) rfl, rfl⟩
set_option maxRecDepth 100000 in
theorem am_q36 : Cond.code ⟨"LineFlow$Word", "<init>", "()V"⟩ prog_10_method_1_code 1 (none) ∈ am_ts := List.mem_filter.mpr ⟨List.mem_of_getElem? (i := 501) rfl, rfl⟩
set_option maxRecDepth 100000 in
theorem am_q37 : Cond.code ⟨"java/util/ArrayList", "add", "(Ljava/lang/Object;)Z"⟩ prog_20_method_25_code 2 (some FieldType.boolean) ∈ am_ts := List.mem_filter.mpr ⟨List.mem_of_getElem? (i := 526) rfl, rfl⟩
set_option maxRecDepth 100000 in
theorem am_q38 : Cond.code ⟨"java/util/ArrayList", "add", "(Ljava/lang/Object;[Ljava/lang/Object;I)V"⟩ prog_20_method_24_code 4 (none) ∈ am_ts := List.mem_filter.mpr ⟨List.mem_of_getElem? (i := 530) rfl, rfl⟩
set_option maxRecDepth 100000 in
theorem am_q39 : Cond.code ⟨"java/util/ArrayList", "grow", "()[Ljava/lang/Object;"⟩ prog_20_method_7_code 1 (some (FieldType.array (FieldType.object "java/lang/Object"))) ∈ am_ts := List.mem_filter.mpr ⟨List.mem_of_getElem? (i := 534) rfl, rfl⟩
theorem am_qs0 : ∀ q ∈ am_mt0, Cond.code q.1 q.2.2.1 q.2.2.2.1 q.2.2.2.2.1 ∈ am_ts := List.forall_mem_cons.mpr ⟨am_q0, List.forall_mem_cons.mpr ⟨am_q1, List.forall_mem_cons.mpr ⟨am_q2, List.forall_mem_cons.mpr ⟨am_q3, List.forall_mem_cons.mpr ⟨am_q4, List.forall_mem_cons.mpr ⟨am_q5, List.forall_mem_cons.mpr ⟨am_q6, List.forall_mem_cons.mpr ⟨am_q7, List.forall_mem_cons.mpr ⟨am_q8, List.forall_mem_cons.mpr ⟨am_q9, List.forall_mem_cons.mpr ⟨am_q10, List.forall_mem_cons.mpr ⟨am_q11, List.forall_mem_cons.mpr ⟨am_q12, List.forall_mem_cons.mpr ⟨am_q13, List.forall_mem_cons.mpr ⟨am_q14, List.forall_mem_cons.mpr ⟨am_q15, List.forall_mem_cons.mpr ⟨am_q16, List.forall_mem_cons.mpr ⟨am_q17, List.forall_mem_cons.mpr ⟨am_q18, List.forall_mem_cons.mpr ⟨am_q19, List.forall_mem_cons.mpr ⟨am_q20, List.forall_mem_cons.mpr ⟨am_q21, List.forall_mem_cons.mpr ⟨am_q22, List.forall_mem_cons.mpr ⟨am_q23, List.forall_mem_cons.mpr ⟨am_q24, List.forall_mem_cons.mpr ⟨am_q25, List.forall_mem_cons.mpr ⟨am_q26, List.forall_mem_cons.mpr ⟨am_q27, List.forall_mem_cons.mpr ⟨am_q28, List.forall_mem_cons.mpr ⟨am_q29, List.forall_mem_cons.mpr ⟨am_q30, List.forall_mem_cons.mpr ⟨am_q31, List.forall_mem_cons.mpr ⟨am_q32, List.forall_mem_cons.mpr ⟨am_q33, List.forall_mem_cons.mpr ⟨am_q34, List.forall_mem_cons.mpr ⟨am_q35, List.forall_mem_cons.mpr ⟨am_q36, List.forall_mem_cons.mpr ⟨am_q37, List.forall_mem_cons.mpr ⟨am_q38, List.forall_mem_cons.mpr ⟨am_q39, (fun _ h => (List.not_mem_nil h).elim)⟩⟩⟩⟩⟩⟩⟩⟩⟩⟩⟩⟩⟩⟩⟩⟩⟩⟩⟩⟩⟩⟩⟩⟩⟩⟩⟩⟩⟩⟩⟩⟩⟩⟩⟩⟩⟩⟩⟩⟩
set_option maxRecDepth 100000 in
theorem am_q40 : Cond.code ⟨"java/util/ArrayList", "grow", "(I)[Ljava/lang/Object;"⟩ prog_20_method_6_code 4 (some (FieldType.array (FieldType.object "java/lang/Object"))) ∈ am_ts := List.mem_filter.mpr ⟨List.mem_of_getElem? (i := 538) rfl, rfl⟩
set_option maxRecDepth 100000 in
theorem am_q41 : Cond.code ⟨"jdk/internal/util/ArraysSupport", "newLength", "(III)I"⟩ prog_27_method_27_code 4 (some FieldType.int) ∈ am_ts := List.mem_filter.mpr ⟨List.mem_of_getElem? (i := 541) rfl, rfl⟩
set_option maxRecDepth 100000 in
theorem am_q42 : Cond.code ⟨"jdk/internal/util/ArraysSupport", "hugeLength", "(II)I"⟩ prog_27_method_28_code 3 (some FieldType.int) ∈ am_ts := List.mem_filter.mpr ⟨List.mem_of_getElem? (i := 548) rfl, rfl⟩
set_option maxRecDepth 100000 in
theorem am_q43 : Cond.code ⟨"java/util/Arrays", "copyOf", "([Ljava/lang/Object;I)[Ljava/lang/Object;"⟩ prog_21_method_119_code 2 (some (FieldType.array (FieldType.object "java/lang/Object"))) ∈ am_ts := List.mem_filter.mpr ⟨List.mem_of_getElem? (i := 551) rfl, rfl⟩
set_option maxRecDepth 100000 in
theorem am_q44 : Cond.code ⟨"java/util/Arrays", "copyOf", "([Ljava/lang/Object;ILjava/lang/Class;)[Ljava/lang/Object;"⟩ prog_21_method_120_code 4 (some (FieldType.array (FieldType.object "java/lang/Object"))) ∈ am_ts := List.mem_filter.mpr ⟨List.mem_of_getElem? (i := 569) rfl, rfl⟩
set_option maxRecDepth 100000 in
theorem am_q45 : Cond.code ⟨"LineFlow$Layout", "wordAt", "(I)LLineFlow$Word;"⟩ prog_5_method_3_code 2 (some (FieldType.object "LineFlow$Word")) ∈ am_ts := List.mem_filter.mpr ⟨List.mem_of_getElem? (i := 578) rfl, rfl⟩
set_option maxRecDepth 100000 in
theorem am_q46 : Cond.code ⟨"java/util/ArrayList", "get", "(I)Ljava/lang/Object;"⟩ prog_20_method_20_code 2 (some (FieldType.object "java/lang/Object")) ∈ am_ts := List.mem_filter.mpr ⟨List.mem_of_getElem? (i := 582) rfl, rfl⟩
set_option maxRecDepth 100000 in
theorem am_q47 : Cond.code ⟨"java/util/Objects", "checkIndex", "(II)I"⟩ prog_24_method_17_code 2 (some FieldType.int) ∈ am_ts := List.mem_filter.mpr ⟨List.mem_of_getElem? (i := 585) rfl, rfl⟩
set_option maxRecDepth 100000 in
theorem am_q48 : Cond.code ⟨"jdk/internal/util/Preconditions", "checkIndex", "(IILjava/util/function/BiFunction;)I"⟩ prog_28_method_11_code 3 (some FieldType.int) ∈ am_ts := List.mem_filter.mpr ⟨List.mem_of_getElem? (i := 588) rfl, rfl⟩
set_option maxRecDepth 100000 in
theorem am_q49 : Cond.code ⟨"java/util/ArrayList", "elementData", "(I)Ljava/lang/Object;"⟩ prog_20_method_18_code 2 (some (FieldType.object "java/lang/Object")) ∈ am_ts := List.mem_filter.mpr ⟨List.mem_of_getElem? (i := 592) rfl, rfl⟩
set_option maxRecDepth 100000 in
theorem am_q50 : Cond.code ⟨"LineFlow$Layout", "roleWithin", "(LLineFlow$Node;I)I"⟩ prog_5_method_6_code 3 (some FieldType.int) ∈ am_ts := List.mem_filter.mpr ⟨List.mem_of_getElem? (i := 595) rfl, rfl⟩
set_option maxRecDepth 100000 in
theorem am_q51 : Cond.code ⟨"LineFlow$Layout", "layElement", "(LLineFlow$Node;III)V"⟩ prog_5_method_9_code 7 (none) ∈ am_ts := List.mem_filter.mpr ⟨List.mem_of_getElem? (i := 599) rfl, rfl⟩
set_option maxRecDepth 100000 in
theorem am_q52 : Cond.code ⟨"LineFlow$Flow", "begin", "(LLineFlow$Node;)V"⟩ prog_4_method_2_code 2 (none) ∈ am_ts := List.mem_filter.mpr ⟨List.mem_of_getElem? (i := 603) rfl, rfl⟩
set_option maxRecDepth 100000 in
theorem am_q53 : Cond.code ⟨"LineFlow$Node", "frame", "()I"⟩ prog_8_method_3_code 1 (some FieldType.int) ∈ am_ts := List.mem_filter.mpr ⟨List.mem_of_getElem? (i := 607) rfl, rfl⟩
set_option maxRecDepth 100000 in
theorem am_q54 : Cond.code ⟨"LineFlow$Floats", "begin", "(III)V"⟩ prog_3_method_2_code 4 (none) ∈ am_ts := List.mem_filter.mpr ⟨List.mem_of_getElem? (i := 612) rfl, rfl⟩
set_option maxRecDepth 100000 in
theorem am_q55 : Cond.code ⟨"LineFlow$Line", "drop", "()V"⟩ prog_6_method_3_code 1 (none) ∈ am_ts := List.mem_filter.mpr ⟨List.mem_of_getElem? (i := 616) rfl, rfl⟩
set_option maxRecDepth 100000 in
theorem am_q56 : Cond.code ⟨"LineFlow$Layout", "layRow", "(LLineFlow$Flow;)I"⟩ prog_5_method_10_code 7 (some FieldType.int) ∈ am_ts := List.mem_filter.mpr ⟨List.mem_of_getElem? (i := 620) rfl, rfl⟩
set_option maxRecDepth 100000 in
theorem am_q57 : Cond.code ⟨"LineFlow$Layout", "measurePiece", "(LLineFlow$Node;I)V"⟩ prog_5_method_18_code 4 (none) ∈ am_ts := List.mem_filter.mpr ⟨List.mem_of_getElem? (i := 624) rfl, rfl⟩
set_option maxRecDepth 100000 in
theorem am_q58 : Cond.code ⟨"LineFlow$Node", "toldWidth", "(II)I"⟩ prog_8_method_4_code 4 (some FieldType.int) ∈ am_ts := List.mem_filter.mpr ⟨List.mem_of_getElem? (i := 628) rfl, rfl⟩
set_option maxRecDepth 100000 in
theorem am_q59 : Cond.code ⟨"LineFlow$Layout", "textWidth", "(LLineFlow$Node;)I"⟩ prog_5_method_16_code 2 (some FieldType.int) ∈ am_ts := List.mem_filter.mpr ⟨List.mem_of_getElem? (i := 632) rfl, rfl⟩
set_option maxRecDepth 100000 in
theorem am_q60 : Cond.code ⟨"LineFlow$Ruler", "oneLine", "(LLineFlow$Node;)I"⟩ prog_9_method_4_code 2 (some FieldType.int) ∈ am_ts := List.mem_filter.mpr ⟨List.mem_of_getElem? (i := 636) rfl, rfl⟩
set_option maxRecDepth 100000 in
theorem am_q61 : Cond.code ⟨"LineFlow$Ruler", "addTexts", "(LLineFlow$Node;)V"⟩ prog_9_method_5_code 3 (none) ∈ am_ts := List.mem_filter.mpr ⟨List.mem_of_getElem? (i := 640) rfl, rfl⟩
set_option maxRecDepth 100000 in
theorem am_q62 : Cond.code ⟨"LineFlow$Ruler", "addBytes", "([B)V"⟩ prog_9_method_6_code 6 (none) ∈ am_ts := List.mem_filter.mpr ⟨List.mem_of_getElem? (i := 644) rfl, rfl⟩
set_option maxRecDepth 100000 in
theorem am_q63 : Cond.code ⟨"LineFlow$Node", "framedWidth", "(II)I"⟩ prog_8_method_5_code 3 (some FieldType.int) ∈ am_ts := List.mem_filter.mpr ⟨List.mem_of_getElem? (i := 651) rfl, rfl⟩
set_option maxRecDepth 100000 in
theorem am_q64 : Cond.code ⟨"LineFlow$Layout", "layDown", "(LLineFlow$Flow;)I"⟩ prog_5_method_11_code 4 (some FieldType.int) ∈ am_ts := List.mem_filter.mpr ⟨List.mem_of_getElem? (i := 659) rfl, rfl⟩
set_option maxRecDepth 100000 in
theorem am_q65 : Cond.code ⟨"LineFlow$Layout", "addFloat", "(LLineFlow$Flow;LLineFlow$Node;)V"⟩ prog_5_method_14_code 3 (none) ∈ am_ts := List.mem_filter.mpr ⟨List.mem_of_getElem? (i := 663) rfl, rfl⟩
set_option maxRecDepth 100000 in
theorem am_q66 : Cond.code ⟨"LineFlow$Flow", "beginLines", "()V"⟩ prog_4_method_3_code 1 (none) ∈ am_ts := List.mem_filter.mpr ⟨List.mem_of_getElem? (i := 667) rfl, rfl⟩
set_option maxRecDepth 100000 in
theorem am_q67 : Cond.code ⟨"LineFlow$Line", "isEmpty", "()Z"⟩ prog_6_method_2_code 1 (some FieldType.boolean) ∈ am_ts := List.mem_filter.mpr ⟨List.mem_of_getElem? (i := 671) rfl, rfl⟩
set_option maxRecDepth 100000 in
theorem am_q68 : Cond.code ⟨"LineFlow$Layout", "putFloat", "(LLineFlow$Flow;LLineFlow$Node;)V"⟩ prog_5_method_15_code 9 (none) ∈ am_ts := List.mem_filter.mpr ⟨List.mem_of_getElem? (i := 675) rfl, rfl⟩
set_option maxRecDepth 100000 in
theorem am_q69 : Cond.code ⟨"LineFlow$Floats", "roomFor", "(II)I"⟩ prog_3_method_6_code 6 (some FieldType.int) ∈ am_ts := List.mem_filter.mpr ⟨List.mem_of_getElem? (i := 680) rfl, rfl⟩
set_option maxRecDepth 100000 in
theorem am_q70 : Cond.code ⟨"LineFlow$Floats", "leastEndAt", "(I)I"⟩ prog_3_method_7_code 4 (some FieldType.int) ∈ am_ts := List.mem_filter.mpr ⟨List.mem_of_getElem? (i := 684) rfl, rfl⟩
set_option maxRecDepth 100000 in
theorem am_q71 : Cond.code ⟨"LineFlow$Floats", "isAt", "(LLineFlow$Node;I)Z"⟩ prog_3_method_8_code 2 (some FieldType.boolean) ∈ am_ts := List.mem_filter.mpr ⟨List.mem_of_getElem? (i := 687) rfl, rfl⟩
set_option maxRecDepth 100000 in
theorem am_q72 : Cond.code ⟨"LineFlow$Floats", "topOf", "(LLineFlow$Node;)I"⟩ prog_3_method_9_code 1 (some FieldType.int) ∈ am_ts := List.mem_filter.mpr ⟨List.mem_of_getElem? (i := 690) rfl, rfl⟩
set_option maxRecDepth 100000 in
theorem am_q73 : Cond.code ⟨"LineFlow$Floats", "endOf", "(LLineFlow$Node;)I"⟩ prog_3_method_10_code 1 (some FieldType.int) ∈ am_ts := List.mem_filter.mpr ⟨List.mem_of_getElem? (i := 693) rfl, rfl⟩
set_option maxRecDepth 100000 in
theorem am_q74 : Cond.code ⟨"LineFlow$Floats", "rightAt", "(I)I"⟩ prog_3_method_5_code 4 (some FieldType.int) ∈ am_ts := List.mem_filter.mpr ⟨List.mem_of_getElem? (i := 697) rfl, rfl⟩
set_option maxRecDepth 100000 in
theorem am_q75 : Cond.code ⟨"LineFlow$Floats", "leftAt", "(I)I"⟩ prog_3_method_4_code 4 (some FieldType.int) ∈ am_ts := List.mem_filter.mpr ⟨List.mem_of_getElem? (i := 702) rfl, rfl⟩
set_option maxRecDepth 100000 in
theorem am_q76 : Cond.code ⟨"LineFlow$Floats", "add", "(LLineFlow$Node;)V"⟩ prog_3_method_3_code 2 (none) ∈ am_ts := List.mem_filter.mpr ⟨List.mem_of_getElem? (i := 709) rfl, rfl⟩
set_option maxRecDepth 100000 in
theorem am_q77 : Cond.code ⟨"LineFlow$Flow", "await", "(LLineFlow$Node;)V"⟩ prog_4_method_4_code 2 (none) ∈ am_ts := List.mem_filter.mpr ⟨List.mem_of_getElem? (i := 713) rfl, rfl⟩
set_option maxRecDepth 100000 in
theorem am_q78 : Cond.code ⟨"LineFlow$Layout", "addInline", "(LLineFlow$Flow;LLineFlow$Node;)V"⟩ prog_5_method_17_code 3 (none) ∈ am_ts := List.mem_filter.mpr ⟨List.mem_of_getElem? (i := 717) rfl, rfl⟩
set_option maxRecDepth 100000 in
theorem am_q79 : Cond.code ⟨"LineFlow$Layout", "addWords", "(LLineFlow$Flow;LLineFlow$Node;)V"⟩ prog_5_method_19_code 5 (none) ∈ am_ts := List.mem_filter.mpr ⟨List.mem_of_getElem? (i := 721) rfl, rfl⟩
theorem am_qs1 : ∀ q ∈ am_mt1, Cond.code q.1 q.2.2.1 q.2.2.2.1 q.2.2.2.2.1 ∈ am_ts := List.forall_mem_cons.mpr ⟨am_q40, List.forall_mem_cons.mpr ⟨am_q41, List.forall_mem_cons.mpr ⟨am_q42, List.forall_mem_cons.mpr ⟨am_q43, List.forall_mem_cons.mpr ⟨am_q44, List.forall_mem_cons.mpr ⟨am_q45, List.forall_mem_cons.mpr ⟨am_q46, List.forall_mem_cons.mpr ⟨am_q47, List.forall_mem_cons.mpr ⟨am_q48, List.forall_mem_cons.mpr ⟨am_q49, List.forall_mem_cons.mpr ⟨am_q50, List.forall_mem_cons.mpr ⟨am_q51, List.forall_mem_cons.mpr ⟨am_q52, List.forall_mem_cons.mpr ⟨am_q53, List.forall_mem_cons.mpr ⟨am_q54, List.forall_mem_cons.mpr ⟨am_q55, List.forall_mem_cons.mpr ⟨am_q56, List.forall_mem_cons.mpr ⟨am_q57, List.forall_mem_cons.mpr ⟨am_q58, List.forall_mem_cons.mpr ⟨am_q59, List.forall_mem_cons.mpr ⟨am_q60, List.forall_mem_cons.mpr ⟨am_q61, List.forall_mem_cons.mpr ⟨am_q62, List.forall_mem_cons.mpr ⟨am_q63, List.forall_mem_cons.mpr ⟨am_q64, List.forall_mem_cons.mpr ⟨am_q65, List.forall_mem_cons.mpr ⟨am_q66, List.forall_mem_cons.mpr ⟨am_q67, List.forall_mem_cons.mpr ⟨am_q68, List.forall_mem_cons.mpr ⟨am_q69, List.forall_mem_cons.mpr ⟨am_q70, List.forall_mem_cons.mpr ⟨am_q71, List.forall_mem_cons.mpr ⟨am_q72, List.forall_mem_cons.mpr ⟨am_q73, List.forall_mem_cons.mpr ⟨am_q74, List.forall_mem_cons.mpr ⟨am_q75, List.forall_mem_cons.mpr ⟨am_q76, List.forall_mem_cons.mpr ⟨am_q77, List.forall_mem_cons.mpr ⟨am_q78, List.forall_mem_cons.mpr ⟨am_q79, (fun _ h => (List.not_mem_nil h).elim)⟩⟩⟩⟩⟩⟩⟩⟩⟩⟩⟩⟩⟩⟩⟩⟩⟩⟩⟩⟩⟩⟩⟩⟩⟩⟩⟩⟩⟩⟩⟩⟩⟩⟩⟩⟩⟩⟩⟩⟩
set_option maxRecDepth 100000 in
theorem am_q80 : Cond.code ⟨"LineFlow$Layout", "addItem", "(LLineFlow$Flow;LLineFlow$Box;I)V"⟩ prog_5_method_21_code 5 (none) ∈ am_ts := List.mem_filter.mpr ⟨List.mem_of_getElem? (i := 725) rfl, rfl⟩
set_option maxRecDepth 100000 in
theorem am_q81 : Cond.code ⟨"LineFlow$Line", "takes", "(I)Z"⟩ prog_6_method_5_code 2 (some FieldType.boolean) ∈ am_ts := List.mem_filter.mpr ⟨List.mem_of_getElem? (i := 729) rfl, rfl⟩
set_option maxRecDepth 100000 in
theorem am_q82 : Cond.code ⟨"LineFlow$Line", "add", "(LLineFlow$Box;I)V"⟩ prog_6_method_6_code 3 (none) ∈ am_ts := List.mem_filter.mpr ⟨List.mem_of_getElem? (i := 733) rfl, rfl⟩
set_option maxRecDepth 100000 in
theorem am_q83 : Cond.code ⟨"LineFlow$Layout", "endLine", "(LLineFlow$Flow;)V"⟩ prog_5_method_22_code 4 (none) ∈ am_ts := List.mem_filter.mpr ⟨List.mem_of_getElem? (i := 738) rfl, rfl⟩
set_option maxRecDepth 100000 in
theorem am_q84 : Cond.code ⟨"LineFlow$Line", "settle", "(II)I"⟩ prog_6_method_7_code 5 (some FieldType.int) ∈ am_ts := List.mem_filter.mpr ⟨List.mem_of_getElem? (i := 742) rfl, rfl⟩
set_option maxRecDepth 100000 in
theorem am_q85 : Cond.code ⟨"LineFlow$Line", "spaceAhead", "(I)I"⟩ prog_6_method_8_code 3 (some FieldType.int) ∈ am_ts := List.mem_filter.mpr ⟨List.mem_of_getElem? (i := 746) rfl, rfl⟩
set_option maxRecDepth 100000 in
theorem am_q86 : Cond.code ⟨"LineFlow$Flow", "releaseWaiting", "()LLineFlow$Node;"⟩ prog_4_method_5_code 2 (some (FieldType.object "LineFlow$Node")) ∈ am_ts := List.mem_filter.mpr ⟨List.mem_of_getElem? (i := 751) rfl, rfl⟩
set_option maxRecDepth 100000 in
theorem am_q87 : Cond.code ⟨"LineFlow$Line", "open", "(II)V"⟩ prog_6_method_4_code 3 (none) ∈ am_ts := List.mem_filter.mpr ⟨List.mem_of_getElem? (i := 755) rfl, rfl⟩
set_option maxRecDepth 100000 in
theorem am_q88 : Cond.code ⟨"LineFlow$Layout", "addBreak", "(LLineFlow$Flow;LLineFlow$Node;)V"⟩ prog_5_method_20_code 3 (none) ∈ am_ts := List.mem_filter.mpr ⟨List.mem_of_getElem? (i := 759) rfl, rfl⟩
set_option maxRecDepth 100000 in
theorem am_q89 : Cond.code ⟨"LineFlow$Layout", "addBlock", "(LLineFlow$Flow;LLineFlow$Node;)V"⟩ prog_5_method_13_code 8 (none) ∈ am_ts := List.mem_filter.mpr ⟨List.mem_of_getElem? (i := 763) rfl, rfl⟩
set_option maxRecDepth 100000 in
theorem am_q90 : Cond.code ⟨"LineFlow$Margins", "joinedThing", "(LLineFlow$Node;Z)LLineFlow$Node;"⟩ prog_7_method_3_code 3 (some (FieldType.object "LineFlow$Node")) ∈ am_ts := List.mem_filter.mpr ⟨List.mem_of_getElem? (i := 766) rfl, rfl⟩
set_option maxRecDepth 100000 in
theorem am_q91 : Cond.code ⟨"LineFlow$Margins", "isOpen", "(LLineFlow$Node;)Z"⟩ prog_7_method_5_code 1 (some FieldType.boolean) ∈ am_ts := List.mem_filter.mpr ⟨List.mem_of_getElem? (i := 769) rfl, rfl⟩
set_option maxRecDepth 100000 in
theorem am_q92 : Cond.code ⟨"LineFlow$Margins", "isBlock", "(LLineFlow$Node;)Z"⟩ prog_7_method_4_code 2 (some FieldType.boolean) ∈ am_ts := List.mem_filter.mpr ⟨List.mem_of_getElem? (i := 772) rfl, rfl⟩
set_option maxRecDepth 100000 in
theorem am_q93 : Cond.code ⟨"LineFlow$Margins", "lastThing", "(LLineFlow$Node;)LLineFlow$Node;"⟩ prog_7_method_7_code 3 (some (FieldType.object "LineFlow$Node")) ∈ am_ts := List.mem_filter.mpr ⟨List.mem_of_getElem? (i := 776) rfl, rfl⟩
set_option maxRecDepth 100000 in
theorem am_q94 : Cond.code ⟨"LineFlow$Margins", "firstThing", "(LLineFlow$Node;)LLineFlow$Node;"⟩ prog_7_method_6_code 2 (some (FieldType.object "LineFlow$Node")) ∈ am_ts := List.mem_filter.mpr ⟨List.mem_of_getElem? (i := 779) rfl, rfl⟩
set_option maxRecDepth 100000 in
theorem am_q95 : Cond.code ⟨"LineFlow$Margins", "outer", "(LLineFlow$Node;Z)I"⟩ prog_7_method_2_code 4 (some FieldType.int) ∈ am_ts := List.mem_filter.mpr ⟨List.mem_of_getElem? (i := 782) rfl, rfl⟩
set_option maxRecDepth 100000 in
theorem am_q96 : Cond.code ⟨"LineFlow$Layout", "following", "(LLineFlow$Node;LLineFlow$Node;)LLineFlow$Node;"⟩ prog_5_method_12_code 3 (some (FieldType.object "LineFlow$Node")) ∈ am_ts := List.mem_filter.mpr ⟨List.mem_of_getElem? (i := 788) rfl, rfl⟩
set_option maxRecDepth 100000 in
theorem am_q97 : Cond.code ⟨"LineFlow$Flow", "contentHeight", "()I"⟩ prog_4_method_6_code 1 (some FieldType.int) ∈ am_ts := List.mem_filter.mpr ⟨List.mem_of_getElem? (i := 792) rfl, rfl⟩
set_option maxRecDepth 100000 in
theorem am_q98 : Cond.code ⟨"LineFlow$Node", "framedHeight", "(I)I"⟩ prog_8_method_6_code 3 (some FieldType.int) ∈ am_ts := List.mem_filter.mpr ⟨List.mem_of_getElem? (i := 796) rfl, rfl⟩
set_option maxRecDepth 100000 in
theorem am_q99 : Cond.code ⟨"LineFlow", "box", "(II)I"⟩ prog_1_method_9_code 4 (some FieldType.int) ∈ am_ts := List.mem_filter.mpr ⟨List.mem_of_getElem? (i := 800) rfl, rfl⟩
set_option maxRecDepth 100000 in
theorem am_q100 : Cond.code ⟨"LineFlow", "words", "()I"⟩ prog_1_method_10_code 1 (some FieldType.int) ∈ am_ts := List.mem_filter.mpr ⟨List.mem_of_getElem? (i := 804) rfl, rfl⟩
set_option maxRecDepth 100000 in
theorem am_q101 : Cond.code ⟨"LineFlow", "word", "(II)I"⟩ prog_1_method_11_code 4 (some FieldType.int) ∈ am_ts := List.mem_filter.mpr ⟨List.mem_of_getElem? (i := 808) rfl, rfl⟩
set_option maxRecDepth 100000 in
theorem am_q102 : Cond.code ⟨"LineFlow", "line", "(I)I"⟩ prog_1_method_12_code 3 (some FieldType.int) ∈ am_ts := List.mem_filter.mpr ⟨List.mem_of_getElem? (i := 813) rfl, rfl⟩
set_option maxRecDepth 100000 in
theorem am_q103 : Cond.code ⟨"LineFlow", "margin", "(IZ)I"⟩ prog_1_method_13_code 4 (some FieldType.int) ∈ am_ts := List.mem_filter.mpr ⟨List.mem_of_getElem? (i := 818) rfl, rfl⟩
set_option maxRecDepth 100000 in
theorem am_q104 : Cond.code ⟨"LineFlowModel", "<init>", "()V"⟩ prog_12_method_1_code 1 (none) ∈ am_ts := List.mem_filter.mpr ⟨List.mem_of_getElem? (i := 825) rfl, rfl⟩
set_option maxRecDepth 100000 in
theorem am_q105 : Cond.code ⟨"LineFlowModel", "clear", "()V"⟩ prog_12_method_6_code 2 (none) ∈ am_ts := List.mem_filter.mpr ⟨List.mem_of_getElem? (i := 830) rfl, rfl⟩
set_option maxRecDepth 100000 in
theorem am_q106 : Cond.code ⟨"LineFlowModel", "fresh", "(III)V"⟩ prog_12_method_5_code 5 (none) ∈ am_ts := List.mem_filter.mpr ⟨List.mem_of_getElem? (i := 834) rfl, rfl⟩
set_option maxRecDepth 100000 in
theorem am_q107 : Cond.code ⟨"LineFlowModel", "feed", "(IIIII)I"⟩ prog_12_method_3_code 6 (some FieldType.int) ∈ am_ts := List.mem_filter.mpr ⟨List.mem_of_getElem? (i := 1008) rfl, rfl⟩
set_option maxRecDepth 100000 in
theorem am_q108 : Cond.code ⟨"LineFlowModel", "putFour", "(I)V"⟩ prog_12_method_2_code 3 (none) ∈ am_ts := List.mem_filter.mpr ⟨List.mem_of_getElem? (i := 1012) rfl, rfl⟩
set_option maxRecDepth 100000 in
theorem am_q109 : Cond.code ⟨"LineFlowModel", "end", "(I)I"⟩ prog_12_method_4_code 2 (some FieldType.int) ∈ am_ts := List.mem_filter.mpr ⟨List.mem_of_getElem? (i := 1016) rfl, rfl⟩
set_option maxRecDepth 100000 in
theorem am_q110 : Cond.code ⟨"LineFlowModel", "node", "(II)I"⟩ prog_12_method_8_code 3 (some FieldType.int) ∈ am_ts := List.mem_filter.mpr ⟨List.mem_of_getElem? (i := 1021) rfl, rfl⟩
set_option maxRecDepth 100000 in
theorem am_q111 : Cond.code ⟨"LineFlowModel", "there", "(I)Z"⟩ prog_12_method_7_code 2 (some FieldType.boolean) ∈ am_ts := List.mem_filter.mpr ⟨List.mem_of_getElem? (i := 1025) rfl, rfl⟩
set_option maxRecDepth 100000 in
theorem am_q112 : Cond.code ⟨"LineFlowModel", "text", "(I)I"⟩ prog_12_method_9_code 3 (some FieldType.int) ∈ am_ts := List.mem_filter.mpr ⟨List.mem_of_getElem? (i := 1029) rfl, rfl⟩
set_option maxRecDepth 100000 in
theorem am_q113 : Cond.code ⟨"LineFlowModel", "set", "(III)I"⟩ prog_12_method_11_code 5 (some FieldType.int) ∈ am_ts := List.mem_filter.mpr ⟨List.mem_of_getElem? (i := 1033) rfl, rfl⟩
set_option maxRecDepth 100000 in
theorem am_q114 : Cond.code ⟨"LineFlowModel", "mayBe", "(III)Z"⟩ prog_12_method_10_code 4 (some FieldType.boolean) ∈ am_ts := List.mem_filter.mpr ⟨List.mem_of_getElem? (i := 1037) rfl, rfl⟩
set_option maxRecDepth 100000 in
theorem am_q115 : Cond.code ⟨"LineFlowModel", "lay", "(I)I"⟩ prog_12_method_27_code 4 (some FieldType.int) ∈ am_ts := List.mem_filter.mpr ⟨List.mem_of_getElem? (i := 1041) rfl, rfl⟩
set_option maxRecDepth 100000 in
theorem am_q116 : Cond.code ⟨"LineFlowModel", "modes", "()V"⟩ prog_12_method_21_code 2 (none) ∈ am_ts := List.mem_filter.mpr ⟨List.mem_of_getElem? (i := 1045) rfl, rfl⟩
set_option maxRecDepth 100000 in
theorem am_q117 : Cond.code ⟨"LineFlowModel", "isBox", "(I)Z"⟩ prog_12_method_17_code 2 (some FieldType.boolean) ∈ am_ts := List.mem_filter.mpr ⟨List.mem_of_getElem? (i := 1049) rfl, rfl⟩
set_option maxRecDepth 100000 in
theorem am_q118 : Cond.code ⟨"LineFlowModel", "of", "(II)I"⟩ prog_12_method_12_code 3 (some FieldType.int) ∈ am_ts := List.mem_filter.mpr ⟨List.mem_of_getElem? (i := 1053) rfl, rfl⟩
set_option maxRecDepth 100000 in
theorem am_q119 : Cond.code ⟨"LineFlowModel", "modeOf", "(I)I"⟩ prog_12_method_20_code 5 (some FieldType.int) ∈ am_ts := List.mem_filter.mpr ⟨List.mem_of_getElem? (i := 1057) rfl, rfl⟩
theorem am_qs2 : ∀ q ∈ am_mt2, Cond.code q.1 q.2.2.1 q.2.2.2.1 q.2.2.2.2.1 ∈ am_ts := List.forall_mem_cons.mpr ⟨am_q80, List.forall_mem_cons.mpr ⟨am_q81, List.forall_mem_cons.mpr ⟨am_q82, List.forall_mem_cons.mpr ⟨am_q83, List.forall_mem_cons.mpr ⟨am_q84, List.forall_mem_cons.mpr ⟨am_q85, List.forall_mem_cons.mpr ⟨am_q86, List.forall_mem_cons.mpr ⟨am_q87, List.forall_mem_cons.mpr ⟨am_q88, List.forall_mem_cons.mpr ⟨am_q89, List.forall_mem_cons.mpr ⟨am_q90, List.forall_mem_cons.mpr ⟨am_q91, List.forall_mem_cons.mpr ⟨am_q92, List.forall_mem_cons.mpr ⟨am_q93, List.forall_mem_cons.mpr ⟨am_q94, List.forall_mem_cons.mpr ⟨am_q95, List.forall_mem_cons.mpr ⟨am_q96, List.forall_mem_cons.mpr ⟨am_q97, List.forall_mem_cons.mpr ⟨am_q98, List.forall_mem_cons.mpr ⟨am_q99, List.forall_mem_cons.mpr ⟨am_q100, List.forall_mem_cons.mpr ⟨am_q101, List.forall_mem_cons.mpr ⟨am_q102, List.forall_mem_cons.mpr ⟨am_q103, List.forall_mem_cons.mpr ⟨am_q104, List.forall_mem_cons.mpr ⟨am_q105, List.forall_mem_cons.mpr ⟨am_q106, List.forall_mem_cons.mpr ⟨am_q107, List.forall_mem_cons.mpr ⟨am_q108, List.forall_mem_cons.mpr ⟨am_q109, List.forall_mem_cons.mpr ⟨am_q110, List.forall_mem_cons.mpr ⟨am_q111, List.forall_mem_cons.mpr ⟨am_q112, List.forall_mem_cons.mpr ⟨am_q113, List.forall_mem_cons.mpr ⟨am_q114, List.forall_mem_cons.mpr ⟨am_q115, List.forall_mem_cons.mpr ⟨am_q116, List.forall_mem_cons.mpr ⟨am_q117, List.forall_mem_cons.mpr ⟨am_q118, List.forall_mem_cons.mpr ⟨am_q119, (fun _ h => (List.not_mem_nil h).elim)⟩⟩⟩⟩⟩⟩⟩⟩⟩⟩⟩⟩⟩⟩⟩⟩⟩⟩⟩⟩⟩⟩⟩⟩⟩⟩⟩⟩⟩⟩⟩⟩⟩⟩⟩⟩⟩⟩⟩⟩
set_option maxRecDepth 100000 in
theorem am_q120 : Cond.code ⟨"LineFlowModel", "after", "(II)I"⟩ prog_12_method_14_code 3 (some FieldType.int) ∈ am_ts := List.mem_filter.mpr ⟨List.mem_of_getElem? (i := 1061) rfl, rfl⟩
set_option maxRecDepth 100000 in
theorem am_q121 : Cond.code ⟨"LineFlowModel", "behind", "(II)I"⟩ prog_12_method_15_code 4 (some FieldType.int) ∈ am_ts := List.mem_filter.mpr ⟨List.mem_of_getElem? (i := 1065) rfl, rfl⟩
set_option maxRecDepth 100000 in
theorem am_q122 : Cond.code ⟨"LineFlowModel", "margins", "(I)V"⟩ prog_12_method_22_code 5 (none) ∈ am_ts := List.mem_filter.mpr ⟨List.mem_of_getElem? (i := 1069) rfl, rfl⟩
set_option maxRecDepth 100000 in
theorem am_q123 : Cond.code ⟨"LineFlowModel", "joins", "(I)Z"⟩ prog_12_method_40_code 2 (some FieldType.boolean) ∈ am_ts := List.mem_filter.mpr ⟨List.mem_of_getElem? (i := 1073) rfl, rfl⟩
set_option maxRecDepth 100000 in
theorem am_q124 : Cond.code ⟨"LineFlowModel", "isBlock", "(I)Z"⟩ prog_12_method_39_code 2 (some FieldType.boolean) ∈ am_ts := List.mem_filter.mpr ⟨List.mem_of_getElem? (i := 1077) rfl, rfl⟩
set_option maxRecDepth 100000 in
theorem am_q125 : Cond.code ⟨"LineFlowModel", "edges", "(I)I"⟩ prog_12_method_18_code 2 (some FieldType.int) ∈ am_ts := List.mem_filter.mpr ⟨List.mem_of_getElem? (i := 1081) rfl, rfl⟩
set_option maxRecDepth 100000 in
theorem am_q126 : Cond.code ⟨"LineFlowModel", "more", "(II)I"⟩ prog_12_method_47_code 2 (some FieldType.int) ∈ am_ts := List.mem_filter.mpr ⟨List.mem_of_getElem? (i := 1084) rfl, rfl⟩
set_option maxRecDepth 100000 in
theorem am_q127 : Cond.code ⟨"LineFlowModel", "widen", "(I)V"⟩ prog_12_method_25_code 5 (none) ∈ am_ts := List.mem_filter.mpr ⟨List.mem_of_getElem? (i := 1088) rfl, rfl⟩
set_option maxRecDepth 100000 in
theorem am_q128 : Cond.code ⟨"LineFlowModel", "inner", "(I)I"⟩ prog_12_method_19_code 2 (some FieldType.int) ∈ am_ts := List.mem_filter.mpr ⟨List.mem_of_getElem? (i := 1092) rfl, rfl⟩
set_option maxRecDepth 100000 in
theorem am_q129 : Cond.code ⟨"LineFlowModel", "told", "(II)I"⟩ prog_12_method_24_code 4 (some FieldType.int) ∈ am_ts := List.mem_filter.mpr ⟨List.mem_of_getElem? (i := 1096) rfl, rfl⟩
set_option maxRecDepth 100000 in
theorem am_q130 : Cond.code ⟨"LineFlowModel", "oneLine", "(I)I"⟩ prog_12_method_23_code 9 (some FieldType.int) ∈ am_ts := List.mem_filter.mpr ⟨List.mem_of_getElem? (i := 1100) rfl, rfl⟩
set_option maxRecDepth 100000 in
theorem am_q131 : Cond.code ⟨"LineFlowModel", "isBlank", "(I)Z"⟩ prog_12_method_13_code 1 (some FieldType.boolean) ∈ am_ts := List.mem_filter.mpr ⟨List.mem_of_getElem? (i := 1103) rfl, rfl⟩
set_option maxRecDepth 100000 in
theorem am_q132 : Cond.code ⟨"LineFlowModel", "glyph", "(I)I"⟩ prog_12_method_16_code 1 (some FieldType.int) ∈ am_ts := List.mem_filter.mpr ⟨List.mem_of_getElem? (i := 1106) rfl, rfl⟩
set_option maxRecDepth 100000 in
theorem am_q133 : Cond.code ⟨"LineFlowModel", "less", "(II)I"⟩ prog_12_method_48_code 2 (some FieldType.int) ∈ am_ts := List.mem_filter.mpr ⟨List.mem_of_getElem? (i := 1109) rfl, rfl⟩
set_option maxRecDepth 100000 in
theorem am_q134 : Cond.code ⟨"LineFlowModel", "split", "(I)V"⟩ prog_12_method_26_code 5 (none) ∈ am_ts := List.mem_filter.mpr ⟨List.mem_of_getElem? (i := 1113) rfl, rfl⟩
set_option maxRecDepth 100000 in
theorem am_q135 : Cond.code ⟨"LineFlowModel", "layBlock", "(I)V"⟩ prog_12_method_41_code 13 (none) ∈ am_ts := List.mem_filter.mpr ⟨List.mem_of_getElem? (i := 1117) rfl, rfl⟩
set_option maxRecDepth 100000 in
theorem am_q136 : Cond.code ⟨"LineFlowModel", "lineThing", "(I)V"⟩ prog_12_method_38_code 4 (none) ∈ am_ts := List.mem_filter.mpr ⟨List.mem_of_getElem? (i := 1121) rfl, rfl⟩
set_option maxRecDepth 100000 in
theorem am_q137 : Cond.code ⟨"LineFlowModel", "putFloat", "(I)V"⟩ prog_12_method_33_code 7 (none) ∈ am_ts := List.mem_filter.mpr ⟨List.mem_of_getElem? (i := 1125) rfl, rfl⟩
set_option maxRecDepth 100000 in
theorem am_q138 : Cond.code ⟨"LineFlowModel", "edgesAt", "(I)V"⟩ prog_12_method_31_code 3 (none) ∈ am_ts := List.mem_filter.mpr ⟨List.mem_of_getElem? (i := 1129) rfl, rfl⟩
set_option maxRecDepth 100000 in
theorem am_q139 : Cond.code ⟨"LineFlowModel", "isFloatAt", "(II)Z"⟩ prog_12_method_30_code 3 (some FieldType.boolean) ∈ am_ts := List.mem_filter.mpr ⟨List.mem_of_getElem? (i := 1133) rfl, rfl⟩
set_option maxRecDepth 100000 in
theorem am_q140 : Cond.code ⟨"LineFlowModel", "leastEnd", "(I)I"⟩ prog_12_method_32_code 4 (some FieldType.int) ∈ am_ts := List.mem_filter.mpr ⟨List.mem_of_getElem? (i := 1137) rfl, rfl⟩
set_option maxRecDepth 100000 in
theorem am_q141 : Cond.code ⟨"LineFlowModel", "putItem", "(III)V"⟩ prog_12_method_36_code 7 (none) ∈ am_ts := List.mem_filter.mpr ⟨List.mem_of_getElem? (i := 1141) rfl, rfl⟩
set_option maxRecDepth 100000 in
theorem am_q142 : Cond.code ⟨"LineFlowModel", "itemHigh", "(I)I"⟩ prog_12_method_34_code 2 (some FieldType.int) ∈ am_ts := List.mem_filter.mpr ⟨List.mem_of_getElem? (i := 1145) rfl, rfl⟩
set_option maxRecDepth 100000 in
theorem am_q143 : Cond.code ⟨"LineFlowModel", "endLine", "()V"⟩ prog_12_method_35_code 6 (none) ∈ am_ts := List.mem_filter.mpr ⟨List.mem_of_getElem? (i := 1149) rfl, rfl⟩
set_option maxRecDepth 100000 in
theorem am_q144 : Cond.code ⟨"LineFlowModel", "lineText", "(I)V"⟩ prog_12_method_37_code 5 (none) ∈ am_ts := List.mem_filter.mpr ⟨List.mem_of_getElem? (i := 1153) rfl, rfl⟩
set_option maxRecDepth 100000 in
theorem am_q145 : Cond.code ⟨"LineFlowModel", "heightOf", "(II)I"⟩ prog_12_method_29_code 3 (some FieldType.int) ∈ am_ts := List.mem_filter.mpr ⟨List.mem_of_getElem? (i := 1157) rfl, rfl⟩
set_option maxRecDepth 100000 in
theorem am_q146 : Cond.code ⟨"LineFlowModel", "layFlex", "(I)V"⟩ prog_12_method_28_code 6 (none) ∈ am_ts := List.mem_filter.mpr ⟨List.mem_of_getElem? (i := 1161) rfl, rfl⟩
set_option maxRecDepth 100000 in
theorem am_q147 : Cond.code ⟨"LineFlowModel", "box", "(II)I"⟩ prog_12_method_42_code 3 (some FieldType.int) ∈ am_ts := List.mem_filter.mpr ⟨List.mem_of_getElem? (i := 1165) rfl, rfl⟩
set_option maxRecDepth 100000 in
theorem am_q148 : Cond.code ⟨"LineFlowModel", "words", "()I"⟩ prog_12_method_43_code 1 (some FieldType.int) ∈ am_ts := List.mem_filter.mpr ⟨List.mem_of_getElem? (i := 1169) rfl, rfl⟩
set_option maxRecDepth 100000 in
theorem am_q149 : Cond.code ⟨"LineFlowModel", "word", "(II)I"⟩ prog_12_method_44_code 3 (some FieldType.int) ∈ am_ts := List.mem_filter.mpr ⟨List.mem_of_getElem? (i := 1173) rfl, rfl⟩
set_option maxRecDepth 100000 in
theorem am_q150 : Cond.code ⟨"LineFlowModel", "line", "(I)I"⟩ prog_12_method_45_code 2 (some FieldType.int) ∈ am_ts := List.mem_filter.mpr ⟨List.mem_of_getElem? (i := 1177) rfl, rfl⟩
set_option maxRecDepth 100000 in
theorem am_q151 : Cond.code ⟨"LineFlowModel", "margin", "(IZ)I"⟩ prog_12_method_46_code 3 (some FieldType.int) ∈ am_ts := List.mem_filter.mpr ⟨List.mem_of_getElem? (i := 1181) rfl, rfl⟩
theorem am_qs3 : ∀ q ∈ am_mt3, Cond.code q.1 q.2.2.1 q.2.2.2.1 q.2.2.2.2.1 ∈ am_ts := List.forall_mem_cons.mpr ⟨am_q120, List.forall_mem_cons.mpr ⟨am_q121, List.forall_mem_cons.mpr ⟨am_q122, List.forall_mem_cons.mpr ⟨am_q123, List.forall_mem_cons.mpr ⟨am_q124, List.forall_mem_cons.mpr ⟨am_q125, List.forall_mem_cons.mpr ⟨am_q126, List.forall_mem_cons.mpr ⟨am_q127, List.forall_mem_cons.mpr ⟨am_q128, List.forall_mem_cons.mpr ⟨am_q129, List.forall_mem_cons.mpr ⟨am_q130, List.forall_mem_cons.mpr ⟨am_q131, List.forall_mem_cons.mpr ⟨am_q132, List.forall_mem_cons.mpr ⟨am_q133, List.forall_mem_cons.mpr ⟨am_q134, List.forall_mem_cons.mpr ⟨am_q135, List.forall_mem_cons.mpr ⟨am_q136, List.forall_mem_cons.mpr ⟨am_q137, List.forall_mem_cons.mpr ⟨am_q138, List.forall_mem_cons.mpr ⟨am_q139, List.forall_mem_cons.mpr ⟨am_q140, List.forall_mem_cons.mpr ⟨am_q141, List.forall_mem_cons.mpr ⟨am_q142, List.forall_mem_cons.mpr ⟨am_q143, List.forall_mem_cons.mpr ⟨am_q144, List.forall_mem_cons.mpr ⟨am_q145, List.forall_mem_cons.mpr ⟨am_q146, List.forall_mem_cons.mpr ⟨am_q147, List.forall_mem_cons.mpr ⟨am_q148, List.forall_mem_cons.mpr ⟨am_q149, List.forall_mem_cons.mpr ⟨am_q150, List.forall_mem_cons.mpr ⟨am_q151, (fun _ h => (List.not_mem_nil h).elim)⟩⟩⟩⟩⟩⟩⟩⟩⟩⟩⟩⟩⟩⟩⟩⟩⟩⟩⟩⟩⟩⟩⟩⟩⟩⟩⟩⟩⟩⟩⟩⟩
theorem am_qs : ∀ q ∈ am_mt, Cond.code q.1 q.2.2.1 q.2.2.2.1 q.2.2.2.2.1 ∈ am_ts := List.forall_mem_append.mpr ⟨am_qs0, List.forall_mem_append.mpr ⟨am_qs1, List.forall_mem_append.mpr ⟨am_qs2, am_qs3⟩⟩⟩
set_option maxRecDepth 100000 in
theorem am_qo : Cond.code objectInit ⟨#[0xb1]⟩ 1 none ∈ am_ts := List.mem_filter.mpr ⟨List.mem_of_getElem? (i := 86) rfl, rfl⟩
set_option maxRecDepth 100000 in
theorem am_qmax : Cond.code Lib.Math.max.name Lib.Math.max.code 2 (some .int) ∈ am_ts := List.mem_filter.mpr ⟨List.mem_of_getElem? (i := 544) rfl, rfl⟩
set_option maxRecDepth 100000 in
theorem am_qmin : Cond.code Lib.Math.min.name Lib.Math.min.code 2 (some .int) ∈ am_ts := List.mem_filter.mpr ⟨List.mem_of_getElem? (i := 447) rfl, rfl⟩
theorem am_w1 : (am_at 85 (.instanceMethod objectInit) && am_at 450 (.native arraycopyName) && am_at 449 (.static arraycopyName) && am_at 73 (.initialized "java/lang/System") && am_at 1184 (.selects "[Ljava/lang/Object;" am_gcn am_gcn) && am_at 553 (.instanceMethod am_gcn) && am_at 566 (.native am_gcn) && am_at 543 (.static Lib.Math.max.name) && am_at 446 (.static Lib.Math.min.name) && am_at 72 (.initialized "java/lang/Math") && am_at 298 (.arrayClass .int) && am_at 121 (.arrayClass .byte) && am_at 1004 (.arrayClass .boolean)) = true := by decide +kernel
theorem am_w2 : (List.range am_nw.length).all (fun k => decide (lw_tbl[am_nwp.getD k 0]? = am_nw[k]?)) = true := by decide +kernel
end
section
/-! the tables are as the small machine asks -/
theorem am_ckC_all : ∀ c, c < 11 → am_ckC c = true := by
  intro c hc
  match c, hc with
  | 0, _ => exact am_ckC0
  | 1, _ => exact am_ckC1
  | 2, _ => exact am_ckC2
  | 3, _ => exact am_ckC3
  | 4, _ => exact am_ckC4
  | 5, _ => exact am_ckC5
  | 6, _ => exact am_ckC6
  | 7, _ => exact am_ckC7
  | 8, _ => exact am_ckC8
  | 9, _ => exact am_ckC9
  | 10, _ => exact am_ckC10
  | c + 11, h => exact absurd h (by omega)
theorem am_ckP_all : ∀ o, am_ckP o = true := by
  intro o
  match o with
  | 0 => exact am_ckP0
  | 1 => exact am_ckP1
  | 2 => exact am_ckP2
  | 3 => exact am_ckP3
  | 4 => exact am_ckP4
  | 5 => exact am_ckP5
  | 6 => exact am_ckP6
  | 7 => exact am_ckP7
  | 8 => exact am_ckP8
  | 9 => exact am_ckP9
  | 10 => exact am_ckP10
  | 11 => exact am_ckP11
  | 12 => exact am_ckP12
  | 13 => exact am_ckP13
  | 14 => exact am_ckP14
  | 15 => exact am_ckP15
  | 16 => exact am_ckP16
  | 17 => exact am_ckP17
  | 18 => exact am_ckP18
  | 19 => exact am_ckP19
  | 20 => exact am_ckP20
  | o + 21 => rfl
theorem am_ckM_all : ∀ q ∈ am_mt, am_ckM q = true := by
  have h : am_mt.all am_ckM = true := by
    show (am_mt0 ++ (am_mt1 ++ (am_mt2 ++ am_mt3))).all am_ckM = true
    rw [List.all_append, List.all_append, List.all_append, am_ckM0, am_ckM1, am_ckM2, am_ckM3]
    rfl
  exact List.all_eq_true.mp h
theorem am_pool_ok {o idx : Nat} {e : Nat × Nat × Nat} (h : am_pool o idx = e) (he : e.1 ≠ 0) : ∃ hh, am_chk o (idx, e) hh = true := by
  unfold am_pool at h
  split at h
  · next q hq =>
    have h1 := List.find?_some hq
    have h2 := List.mem_of_find?_eq_some hq
    have h3 : q.1 = idx := by simpa using h1
    have hc := am_ckP_all o
    simp only [am_ckP, Bool.and_eq_true, decide_eq_true_eq] at hc
    obtain ⟨k, hk⟩ := List.getElem?_of_mem h2
    have hkl := (List.getElem?_eq_some_iff.mp hk).1
    obtain ⟨hh, hhk⟩ : ∃ hh, (am_hints.getD o [])[k]? = some hh := ⟨_, List.getElem?_eq_getElem (by omega)⟩
    have hz : ((am_pools.getD o []).zip (am_hints.getD o []))[k]? = some (q, hh) := by
      rw [List.getElem?_zip_eq_some]
      exact ⟨hk, hhk⟩
    have := List.all_eq_true.mp hc.2 (q, hh) (List.mem_of_getElem? hz)
    refine ⟨hh, ?_⟩
    rw [← h, ← h3]
    exact this
  · exact absurd (by rw [← h]) he
theorem am_tabC (xs : List Int32) : am_TabC (am_Bx xs) am_nm am_cl am_ts := by
  intro c r hr
  have hc : c < 11 := (List.getElem?_eq_some_iff.mp hr).1
  have h := am_ckC_all c hc
  unfold am_ckC at h
  rw [hr] at h
  simp only [Bool.and_eq_true, decide_eq_true_eq, beq_iff_eq] at h
  obtain ⟨⟨⟨⟨⟨⟨h1, h2⟩, h3⟩, h4⟩, h5⟩, h6⟩, h7⟩ := h
  refine ⟨h1, fun w hw => ?_, am_at_ok h3, am_at_ok h4, fun a ha b hb hab => ?_, am_tyD r.2.1, fun k hk => ?_, h7⟩
  · obtain ⟨k, hk, rfl⟩ := List.mem_map.mp hw
    exact am_at_ok (List.all_eq_true.mp h2 k hk)
  · have := List.all_eq_true.mp (List.all_eq_true.mp h5 a (List.mem_range.mpr ha)) b (List.mem_range.mpr hb)
    simp only [Bool.or_eq_true, beq_iff_eq, bne_iff_ne] at this
    rcases this with h | h
    · exact absurd h hab
    · exact h
  · have := List.all_eq_true.mp h6 k (List.mem_range.mpr hk)
    simpa using this
theorem am_tabM (xs : List Int32) : ∀ m I, (am_Bx xs).2.1 m = some I → am_methAt (am_Bx xs) am_nm am_my am_ts m I := by
  intro m I h
  have h' : (am_mt[m]?).map (fun q => q.2) = some I := h
  cases hq : am_mt[m]? with
  | none => rw [hq] at h'; cases h'
  | some q =>
    rw [hq] at h'
    cases h'
    have hmy : am_my m = q.1 := by unfold am_my; rw [hq]; rfl
    have hm := List.mem_of_getElem? hq
    have hc := am_ckM_all q hm
    simp only [am_ckM, Bool.and_eq_true, decide_eq_true_eq, beq_iff_eq, bne_iff_ne, Bool.or_eq_true, Bool.not_eq_true'] at hc
    obtain ⟨⟨⟨⟨⟨⟨h1, h2⟩, h3⟩, h4⟩, h5⟩, h6⟩, h7⟩ := hc
    refine ⟨by rw [hmy]; exact am_qs q hm, by rw [hmy]; exact h1, by rw [hmy]; exact h2, by rw [hmy]; exact ⟨h3, h4⟩, fun hi => ?_, h6, ?_⟩
    · rw [hmy]
      rcases h5 with h5 | h5
      · rw [h5] at hi; cases hi
      · exact h5
    · rw [hmy]
      obtain ⟨i, -, hi⟩ := List.any_eq_true.mp h7
      exact am_at_ok hi
theorem am_rt_ok (xs : List Int32) {m : Nat} (h : am_rt m = true) : ∀ I, (am_Bx xs).2.1 m = some I → I.2.2.2.1 = none := by
  intro I hI
  have h' : (am_mt[m]?).map (fun q => q.2) = some I := hI
  unfold am_rt at h
  cases hq : am_mt[m]? with
  | none => rw [hq] at h'; cases h'
  | some q =>
    rw [hq] at h h'
    cases h'
    simpa using h
theorem am_w3 : ∀ w ∈ am_nw, am_nwk w := by
  intro w hw
  simp only [am_nw, List.mem_cons, List.not_mem_nil, or_false] at hw
  rcases hw with rfl | rfl | rfl | rfl | rfl | rfl | rfl | rfl | rfl | rfl | rfl | rfl | rfl | rfl | rfl
  · exact Or.inl ⟨_, _, _, _, _, _, rfl⟩
  · exact Or.inl ⟨_, _, _, _, _, _, rfl⟩
  · exact Or.inl ⟨_, _, _, _, _, _, rfl⟩
  · exact Or.inr (Or.inl ⟨_, _, _, _, rfl⟩)
  · exact Or.inr (Or.inl ⟨_, _, _, _, rfl⟩)
  · exact Or.inr (Or.inl ⟨_, _, _, _, rfl⟩)
  · exact Or.inr (Or.inl ⟨_, _, _, _, rfl⟩)
  · exact Or.inr (Or.inl ⟨_, _, _, _, rfl⟩)
  · exact Or.inr (Or.inl ⟨_, _, _, _, rfl⟩)
  · exact Or.inr (Or.inl ⟨_, _, _, _, rfl⟩)
  · exact Or.inr (Or.inr (Or.inl ⟨_, _, rfl⟩))
  · exact Or.inr (Or.inr (Or.inr (Or.inl ⟨_, rfl⟩)))
  · exact Or.inr (Or.inr (Or.inr (Or.inl ⟨_, rfl⟩)))
  · exact Or.inr (Or.inr (Or.inr (Or.inl ⟨_, rfl⟩)))
  · exact Or.inr (Or.inr (Or.inr (Or.inr ⟨_, rfl⟩)))
set_option maxHeartbeats 4000000 in
theorem am_tab (xs : List Int32) : am_Tab (am_Bx xs) am_nm am_my am_cl am_ts am_nw := by
  have hw := am_w1
  simp only [Bool.and_eq_true] at hw
  obtain ⟨⟨⟨⟨⟨⟨⟨⟨⟨⟨⟨⟨w1, w2⟩, w3⟩, w4⟩, w5⟩, w6⟩, w7⟩, w8⟩, w9⟩, w10⟩, w11⟩, w12⟩, w13⟩ := hw
  refine ⟨am_tabC xs, am_tabM xs, ?_, ?_, ?_, ?_, ?_, ?_, ?_, ?_, trivial, ?_, ?_, ⟨am_at_ok w11, am_at_ok w12, am_at_ok w13⟩, by decide, by decide, am_w3, ?_, ?_, ?_, ?_, ?_⟩
  · intro o idx t c k hb ht
    obtain ⟨hh, h⟩ := am_pool_ok (e := (t, c, k)) hb (by rcases ht with rfl | rfl <;> simp)
    rcases ht with rfl | rfl
    · simp only [am_chk] at h
      cases hr : am_cl[c]? with
      | none => rw [hr] at h; cases h
      | some r =>
        rw [hr] at h
        simp only [Bool.and_eq_true, decide_eq_true_eq, Bool.or_eq_true, Bool.not_eq_true', beq_iff_eq] at h
        obtain ⟨⟨h1, h2⟩, h3⟩ := h
        refine ⟨r, hr, h1, fun q => ?_, Or.inl ⟨rfl, ?_⟩⟩
        · rcases h2 with h2 | h2
          · rw [h2] at q; cases q
          · exact h2
        · split at h3
          · exact ⟨_, am_at_ok h3, Or.inl rfl⟩
          · simp only [Bool.and_eq_true] at h3
            exact ⟨_, am_at_ok h3.1, Or.inr (am_at_ok h3.2)⟩
    · simp only [am_chk] at h
      cases hr : am_cl[c]? with
      | none => rw [hr] at h; cases h
      | some r =>
        rw [hr] at h
        simp only [Bool.and_eq_true, decide_eq_true_eq, Bool.or_eq_true, Bool.not_eq_true', beq_iff_eq] at h
        obtain ⟨⟨h1, h2⟩, h3⟩ := h
        refine ⟨r, hr, h1, fun q => ?_, Or.inr ⟨rfl, _, h3⟩⟩
        rcases h2 with h2 | h2
        · rw [h2] at q; cases q
        · exact h2
  · intro o idx m n hb
    obtain ⟨hh, h⟩ := am_pool_ok (e := (4, m, n)) hb (by simp)
    simp only [am_chk, am_pm, Bool.and_eq_true, decide_eq_true_eq] at h
    exact ⟨am_at_ok h.1.1.1, am_at_ok h.1.1.2, am_at_ok h.1.2, h.2⟩
  · intro o idx m n hb
    obtain ⟨hh, h⟩ := am_pool_ok (e := (5, m, n)) hb (by simp)
    simp only [am_chk, am_pm, Bool.and_eq_true, decide_eq_true_eq] at h
    exact ⟨am_at_ok h.1.1, am_at_ok h.1.2, h.2⟩
  · intro o idx m n hb
    obtain ⟨hh, h⟩ := am_pool_ok (e := (6, m, n)) hb (by simp)
    simp only [am_chk, am_pm, Bool.and_eq_true, decide_eq_true_eq, beq_iff_eq] at h
    exact ⟨am_at_ok h.1.1.1.1, am_at_ok h.1.1.1.2, h.1.1.2, h.1.2, am_rt_ok xs h.2⟩
  · intro o idx m n hb
    obtain ⟨hh, h⟩ := am_pool_ok (e := (7, m, n)) hb (by simp)
    simp only [am_chk, am_pm, Bool.and_eq_true, decide_eq_true_eq, beq_iff_eq] at h
    exact ⟨⟨_, h.1.1.1.1⟩, am_at_ok h.1.1.1.2, h.1.1.2, h.1.2, am_rt_ok xs h.2⟩
  · intro o idx x y hb
    obtain ⟨hh, h⟩ := am_pool_ok (e := (8, x, y)) hb (by simp)
    simp only [am_chk] at h
    exact ⟨am_at_ok h, am_at_ok w1, am_qo⟩
  · intro o idx x y hb
    obtain ⟨hh, h⟩ := am_pool_ok (e := (9, x, y)) hb (by simp)
    simp only [am_chk] at h
    exact am_at_ok h
  · intro c ts h
    have hc : c < 11 := by
      rcases Nat.lt_or_ge c 11 with q | q
      · exact q
      · obtain ⟨c', rfl⟩ := Nat.exists_eq_add_of_le q
        rw [Nat.add_comm] at h
        cases h
    exact ⟨_, List.getElem?_eq_getElem hc⟩
  · intro o idx x y hb
    obtain ⟨hh, h⟩ := am_pool_ok (e := (12, x, y)) hb (by simp)
    simp only [am_chk] at h
    exact am_at_ok h
  · intro w hw
    exact good_of_word (List.mem_filter.mp hw).2
  · intro o idx x y hb
    obtain ⟨hh, h⟩ := am_pool_ok (e := (13, x, y)) hb (by simp)
    simp only [am_chk] at h
    exact ⟨am_at_ok h, am_at_ok w2, am_at_ok w3, am_at_ok w4⟩
  · intro o idx x y hb
    obtain ⟨hh, h⟩ := am_pool_ok (e := (14, x, y)) hb (by simp)
    simp only [am_chk] at h
    exact ⟨am_at_ok h, by simp [am_nw], am_at_ok w5, am_at_ok w6, am_at_ok w7⟩
  · intro o idx x y hb
    obtain ⟨hh, h⟩ := am_pool_ok (e := (15, x, y)) hb (by simp)
    simp only [am_chk] at h
    exact am_at_ok h
  · intro o idx x y hb
    obtain ⟨hh, h⟩ := am_pool_ok (e := (16, x, y)) hb (by simp)
    simp only [am_chk] at h
    exact ⟨am_at_ok h, am_at_ok w8, am_at_ok w10, am_qmax⟩
  · intro o idx x y hb
    obtain ⟨hh, h⟩ := am_pool_ok (e := (17, x, y)) hb (by simp)
    simp only [am_chk] at h
    exact ⟨am_at_ok h, am_at_ok w9, am_at_ok w10, am_qmin⟩
end
section
/-! THE CLAIM OUT OF ONE WALK OF THE LAW'S BODY. Your part is whole_start (and what it stands on); all else here is the same for every law, but numbers. -/
def R_law : String := "LineFlowLaw"
def lw_P (b : Addr) (xs : List Int32) (args : Array Value) (s : State) : Prop := args = #[.ref b] ∧ s.IntsAt b xs ∧ xs.length ≤ 3072 ∧ (Jvm.Cond.and given_1 narrow_1).before args s = true
def lw_Q (_ : Array Value) (s : State) (o : Outcome) (t : State) : Prop := o = .returned (some (.int 1)) ∧ Framed s o t [] 600000 7302250
def lw_Z (below : List Frame) (a : Array Value) (s : State) : State → Prop := fun t => ∃ o, t.status = .running ∧ Ended t below o ∧ lw_Q a s o t
/-- the law's own end, with 1 on the stack, nothing written that was there before, its room as the claim has it -/
theorem lw_ret {p : Program} {l : Launch} {e : Env} {s : State} {m : MethodId} {below : List Frame} {meth : Method} {c : Code} {b : Nat} (hx : p.tables.exec = Jvm.exec) (hb : c.code = code) (hr : meth.sig.returnType = ret) (hlocks : meth.locks = false) {pc : Nat} {H : Heap} {ls : Array Slot} (hdg : decode code pc = .ok (.ireturn, 1)) : W p l e room_1 s m #[Value.ref b] below meth c H [] 600000 7302250 (lw_Z below #[Value.ref b] s) (F0 m pc ls [.int 1]) := by
  intro T hT X
  obtain ⟨fs, hret, hrun, hended, hW, hframe⟩ := X.leave (v := some (.int 1)) (hlocks := hlocks) (fun h => by rw [hr] at h; cases h)
  have hmeth' : T.vm.method? m = some meth := X.method'
  refine ⟨T.setFrames fs, ?_, .returned (some (.int 1)), hrun, hended, rfl, ⟨_, rfl⟩, hW, hframe⟩
  jvm_step X.here [X.here.top, hx, hb, hdg, hmeth', hr, ret, narrow_b1]
  (try refine ⟨rfl, ?_⟩); (try refine ⟨rfl, ?_⟩)
  first | (intro acts; rw [hret _ acts rfl rfl rfl]) | rw [hret _ _ rfl rfl rfl]
  exact Steps.refl _
/-- what holds at the law's entry: the machine, the code, the tables' words (any of lw_tbl by 'hts w (by decide +kernel)'), the script of L ints xs at the cell b, what the Statement gives of the start (any of its parts by flat_of_before) -/
def lw_At (p : Program) (s : State) (m : MethodId) (meth : Method) (c : Code) (b L : Nat) (xs : Nat → Int32) : Prop :=
  p.tables.exec = Jvm.exec ∧ c.code = code ∧ meth.sig.returnType = ret ∧ c.maxLocals = 4 ∧ s.vm.findClass R_law = some m.cls ∧ (∀ w ∈ lw_tbl, w.before #[Value.ref b] s = true) ∧ va_X b L xs s s.heap ∧ b < s.heap.size ∧ meth.locks = false ∧ (Jvm.Cond.and given_1 narrow_1).before #[Value.ref b] s = true
/-! the law's body over the small machine gives the walk of the law -/
theorem am_lwret {p : Program} {l : Launch} {e : Env} {R : Room} {s : State} {m : MethodId} {below : List Frame} {meth : Method} {c : Code} {b : Nat} (hx : p.tables.exec = Jvm.exec) (hb : c.code = code) (hr : meth.sig.returnType = ret) (hlocks : meth.locks = false) {pc : Nat} {H : Heap} {ls : Array Slot} (hdg : decode code pc = .ok (.ireturn, 1)) : W p l e R s m #[Value.ref b] below meth c H [] 600000 7302250 (lw_Z below #[Value.ref b] s) (F0 m pc ls [.int 1]) := by
  intro T hT X
  obtain ⟨fs, hret, hrun, hended, hW, hframe⟩ := X.leave (v := some (.int 1)) (hlocks := hlocks) (fun h => by rw [hr] at h; cases h)
  have hmeth' : T.vm.method? m = some meth := X.method'
  refine ⟨T.setFrames fs, ?_, .returned (some (.int 1)), hrun, hended, rfl, ⟨_, rfl⟩, hW, hframe⟩
  jvm_step X.here [X.here.top, hx, hb, hdg, hmeth', hr, ret, narrow_b1]
  (try refine ⟨rfl, ?_⟩); (try refine ⟨rfl, ?_⟩)
  first | (intro acts; rw [hret _ acts rfl rfl rfl]) | rw [hret _ _ rfl rfl rfl]
  exact Steps.refl _
def am_Il : am_I := (12, code, 4, ret, false)
def am_Zl (base b : Nat) (_ : Option Value) (_ : am_H) (s : State) (args : Array Value) (below : List Frame) : State → Prop := fun t => args = #[Value.ref b] → base = s.heap.size → lw_Z below args s t
/-- what the law's run must end with -/
def am_Ql (v : Option Value) (h : am_H) : Prop := v = some (.int 1) ∧ h.length ≤ 600000 ∧ am_sl h ≤ 7302250
theorem am_Wmono {p : Program} {l : Launch} {e : Env} {R : Room} {s : State} {m : MethodId} {args : Array Value} {below : List Frame} {meth : Method} {c : Code} {H : Heap} {locs : List Loc} {cells slots : Nat} {Q Q' : State → Prop} {g : JFrame} (hQ : ∀ t, Q t → Q' t) (w : W p l e R s m args below meth c H locs cells slots Q g) : W p l e R s m args below meth c H locs cells slots Q' g := fun T hT X => by
  obtain ⟨t, a, b⟩ := w T hT X
  exact ⟨t, a, hQ t b⟩
theorem am_re_law {l : Launch} {B : am_B} {cl : List vw_C} {Ts NW : List Cond} {D : va_G} {DA : FieldType → ClassId} {sa : Nat → Nat} {base b d : Nat} {nm : Nat → String} {pc len : Nat} {ls : List (Option Value)} {st : List Value} {h : am_H} {i : Instr} (hd : decode am_Il.2.1 pc = .ok (i, len)) (hl : am_len i len = true) (hx : am_re am_Ql am_Il st h i) : am_P l B nm cl Ts NW D DA sa base am_Il [] d am_Ql (am_Zl base b) (pc, ls, st, h) := by
  obtain ⟨v, rfl, hans, hQ, hk⟩ := hx
  intro hF
  obtain ⟨rfl, hQ1, hQ2⟩ := hQ
  refine ⟨_, h, ⟨rfl, hQ1, hQ2⟩, Nat.le_refl _, Nat.le_refl _, hF.2.2.1, fun w hw => by cases hw; rfl, ?_⟩
  intro p e R s m args below meth c hC hf hlo hc hsl H locs lsm cells slots hR
  have e1 : cells = h.length := by have := hR.2.2.2.1; simp at this; exact this
  have e2 : slots = am_sl h := by have := hR.2.2.2.2; simp [am_sl] at this; exact this
  subst e1 e2
  by_cases hab : args = #[Value.ref b] ∧ base = s.heap.size
  · obtain ⟨ha, hbs⟩ := hab
    subst ha
    rcases hk with ⟨rfl, hv⟩ | ⟨rfl, x, hv⟩ | ⟨rfl, r, hv, hr⟩
    · cases hv
    · obtain rfl : len = 1 := by simpa [am_len] using hl
      refine am_Wmono (fun t ht _ _ => ht) ?_
      refine va_forget (fun q hq => by rw [← hbs]; exact hR.2.2.1.2.2 q hq) ?_
      refine W.widen hQ1 hQ2 ?_
      exact am_lwret hC.1 hC.2.1 hC.2.2.2.2.2.2.2.1 hC.2.2.2.2.2.2.1 hd
    · cases hv
      rcases hr with h | ⟨a, h⟩ | ⟨j, h⟩ <;> cases h
  · intro T hT X
    exact ⟨_, Steps.refl _, fun h1 h2 => absurd ⟨h1, h2⟩ hab⟩
end
section
/-! the law's entry: what the small machine wants to know holds there; the walk of the law out of one am_wp -/
theorem am_nw_at {s : State} {args : Array Value} (hts : ∀ w ∈ lw_tbl, w.before args s = true) : ∀ w ∈ am_nw, va_Nw w s := by
  intro w hw
  have hin : w ∈ lw_tbl := by
    obtain ⟨k, hk⟩ := List.getElem?_of_mem hw
    have h := List.all_eq_true.mp am_w2 k (List.mem_range.mpr (List.getElem?_eq_some_iff.mp hk).1)
    simp only [decide_eq_true_eq] at h
    rw [hk] at h
    exact List.mem_of_getElem? h
  have hb := hts w hin
  rcases am_w3 w hw with ⟨a, i, b, n, d, hh, rfl⟩ | ⟨a, i, x, hh, rfl⟩ | ⟨C, T, rfl⟩ | ⟨C, rfl⟩ | ⟨x, rfl⟩
  · exact va_Nw.of rfl hb
  · exact va_Nw.of rfl hb
  · exact va_Nw.of rfl hb
  · exact va_AO.of hb
  · exact va_Nw.of rfl hb
def am_DA (s : State) (ty : FieldType) : ClassId := (s.vm.findClass ("[" ++ ty.toString)).getD 0
theorem am_arrs {s : State} {args : Array Value} (hts : ∀ w ∈ lw_tbl, w.before args s = true) : ∀ ty, am_tyk ty → ArrOfT s (am_DA s ty) ty ∧ va_RA s (am_DA s ty) ty := by
  intro ty hty
  have hT := am_tab []
  have prim : ∀ t, Cond.arrayClass t ∈ am_ts → (∀ C, t ≠ .object C) → ArrOfT s (am_DA s t) t ∧ va_RA s (am_DA s t) t := by
    intro t ht hno
    obtain ⟨c, k, comp, h1, h2, h3⟩ := Cond.arrayClass_spec (hts _ (List.mem_filter.mp ht).1)
    have e : am_DA s t = c := by unfold am_DA; rw [h1]; rfl
    rw [e]
    refine ⟨fun n z => ⟨fun k h => (by cases h), k, h2, comp, h3⟩, ?_⟩
    cases t with
    | object C => exact absurd rfl (hno C)
    | _ => exact h1
  obtain ⟨w1, w2, w3⟩ := hT.2.2.2.2.2.2.2.2.2.2.2.2.2.1
  rcases hty with rfl | rfl | rfl | ⟨C, hC, rfl⟩
  · exact prim _ w1 (fun C h => by cases h)
  · exact prim _ w2 (fun C h => by cases h)
  · exact prim _ w3 (fun C h => by cases h)
  · obtain ⟨comp, c, k, h1, -, h3, h4, h5⟩ := Cond.arrayOver_spec (am_nw_at hts _ (hT.2.2.2.2.2.2.2.2.2.2.2.2.2.2.2.1 C hC))
    have e : am_DA s (.object C) = c := by unfold am_DA; rw [h5]; rfl
    rw [e]
    exact ⟨fun n z => ⟨fun k h => (by cases h), k, h3, comp, h4⟩, k, comp, h3, h4, h1, h5⟩
theorem am_known {s : State} {args : Array Value} (hts : ∀ w ∈ lw_tbl, w.before args s = true) : ∃ D : va_G, va_K D am_cl [] s := by
  have hts' : ∀ w ∈ am_ts, w.before args s = true := fun w hw => hts w (List.mem_filter.mp hw).1
  have h : ∀ c : Nat, ∃ q : ClassId × (Nat → Nat), ∀ r : vw_C, am_cl[c]? = some r → u_Kn s r.1 r.2.1 r.2.2 q.1 q.2 := by
    intro c
    cases hr : am_cl[c]? with
    | none => exact ⟨(0, fun _ => 0), fun r h => by cases h⟩
    | some r =>
      obtain ⟨-, h2, h3, -⟩ := am_tabC [] c r hr
      obtain ⟨cC, iS, hk⟩ := u_known hts' h2 (hts' _ h3)
      exact ⟨(cC, iS), fun r' h => by cases h; exact hk⟩
  obtain ⟨f, hf⟩ := Classical.skolem.mp h
  exact ⟨(fun c => (f c).1, fun c => (f c).2), fun c r hr => hf c r hr, fun k q h => by simp at h⟩
theorem am_law_K {p : Program} {s : State} {m : MethodId} {meth : Method} {c : Code} {b L : Nat} {xs : Nat → Int32} (hL : L ≤ 3072) (C0 : lw_At p s m meth c b L xs) : ∃ (D : va_G) (sa : Nat → Nat), sa 0 = b ∧ am_K (am_Bx ((List.range L).map xs)) am_nm am_cl am_nw D (am_DA s) sa s.heap.size s := by
  obtain ⟨hx, hb, hr, hml, hown, hts, hX, hbl, hlocks, hgv⟩ := C0
  obtain ⟨D, hK⟩ := am_known hts
  have hflat := flat_of_before _ hgv
  have hA : ∀ a : Nat, a < s.heap.size → ¬ am_A s.heap.size a := fun a h q => Nat.lt_irrefl _ (Nat.lt_of_lt_of_le h q)
  have tab : ∀ (C n d : String) (ty : FieldType), (Cond.arrayOf (.static C n d) ty).before #[Value.ref b] s = true → (Cond.eq (.length (.static C n d)) (.int 0)).before #[Value.ref b] s = true → ∃ t : Nat, (Term.static C n d).eval #[Value.ref b] s none [] s = some (.ref t) ∧ t < s.heap.size ∧ va_T ty t 0 (fun _ => .null) (am_A s.heap.size) s s.heap := by
    intro C n d ty h1 h2
    obtain ⟨t, ht, hT⟩ := va_Tof (N := 0) (f := fun _ => .null) (A := am_A s.heap.size) (by decide) h1 (va_eqt h2) (fun j hj => absurd hj (Nat.not_lt_zero _)) hA
    obtain ⟨cell, hc, -⟩ := id hT
    exact ⟨t, ht, (Array.getElem?_eq_some_iff.mp hc).1, hT⟩
  obtain ⟨t1, g1, l1, T1⟩ := tab "LineFlow" "NO_BYTES" "[B" .byte (hflat _ (by decide +kernel)) (hflat _ (by decide +kernel))
  obtain ⟨t2, g2, l2, T2⟩ := tab "java/util/ArrayList" "DEFAULTCAPACITY_EMPTY_ELEMENTDATA" "[Ljava/lang/Object;" (.object "java/lang/Object") (hflat _ (by decide +kernel)) (hflat _ (by decide +kernel))
  obtain ⟨mi, hmi⟩ := va_Mi.of (C := "[Ljava/lang/Object;") (hflat (.isRef (.mirror "[Ljava/lang/Object;")) (by decide +kernel))
  have z1 : va_Z "LineFlow" "NO_BYTES" "[B" (.ref t1) (am_A s.heap.size) s s.heap := va_Zref (hts _ (by decide +kernel)) (hts _ (by decide +kernel)) g1 hA
  have z2 : va_Z "java/util/ArrayList" "DEFAULTCAPACITY_EMPTY_ELEMENTDATA" "[Ljava/lang/Object;" (.ref t2) (am_A s.heap.size) s s.heap := va_Zref (hts _ (by decide +kernel)) (hts _ (by decide +kernel)) g2 hA
  refine ⟨D, (fun j => if j = 0 then b else if j = 1 then t1 else if j = 2 then t2 else mi), rfl, hK, am_nw_at hts, am_arrs hts, ?_, ?_, hmi⟩
  · intro j ty vs hj
    match j, hj with
    | 0, hj =>
      cases hj
      obtain ⟨scr, h1, h2, h3, h4, h5⟩ := hX
      refine ⟨hbl, scr, h1, h2, h3, by simp [h4], by simp [h4], fun i hi => ?_, hA _ hbl⟩
      have hi' : i < L := by simpa using hi
      show scr.slots[i]? = _
      rw [h5 i hi']
      simp [hi', am_cv]
    | 1, hj => cases hj; exact ⟨l1, by obtain ⟨cell, q1, q2, q3, q4, q5, q6, q7⟩ := T1; exact ⟨cell, q1, q2, q3, q4, q5, fun i hi => absurd hi (Nat.not_lt_zero _), q7⟩⟩
    | 2, hj => cases hj; exact ⟨l2, by obtain ⟨cell, q1, q2, q3, q4, q5, q6, q7⟩ := T2; exact ⟨cell, q1, q2, q3, q4, q5, fun i hi => absurd hi (Nat.not_lt_zero _), q7⟩⟩
    | j + 3, hj => cases hj
  · intro o idx j y hb
    obtain ⟨hh, h⟩ := am_pool_ok (e := (3, j, y)) hb (by simp)
    simp only [am_chk, Bool.or_eq_true, Bool.and_eq_true, beq_iff_eq] at h
    rcases h with ⟨⟨rfl, rfl⟩, rfl⟩ | ⟨⟨rfl, rfl⟩, rfl⟩
    · exact ⟨_, _, _, _, z1, rfl, Or.inr ⟨"LineFlow", by decide +kernel⟩⟩
    · exact ⟨_, _, _, _, z2, rfl, Or.inl (va_Nw.of rfl (hts (.fieldLink "java/util/ArrayList" 39 "java/util/ArrayList" "DEFAULTCAPACITY_EMPTY_ELEMENTDATA" "[Ljava/lang/Object;") (by decide +kernel)))⟩
/-- THE WALK OF THE LAW OUT OF THE SMALL MACHINE's -/
theorem am_whole {p : Program} {e : Env} {s : State} {m : MethodId} {below : List Frame} {meth : Method} {c : Code} (l : Launch) {b L : Nat} {xs : Nat → Int32} (hL : L ≤ 3072) (C0 : lw_At p s m meth c b L xs) {d : Nat} (hd : d + 1 ≤ 1300)
    (hw : am_wp (am_Bx ((List.range L).map xs)) am_nm (am_T (am_Bx ((List.range L).map xs)) am_nm d) am_Ql am_Il (0, [some (.retAddr 0), none, none, none], [], [])) :
    W p l e room_1 s m #[Value.ref b] below meth c s.heap [] 0 0 (lw_Z below #[Value.ref b] s) (entryFrame m ([Value.ref b] : List Value).toArray 4) := by
  obtain ⟨D, sa, hsa, hK⟩ := am_law_K hL C0
  obtain ⟨hx, hb, hr, hml, hown, hts, hX, hbl, hlocks, hgv⟩ := C0
  have hT := am_tab ((List.range L).map xs)
  have hB : ∀ i ty vs, (am_Bx ((List.range L).map xs)).2.2.2 i = some (ty, vs) → ∀ v ∈ vs, v.category = 1 := by
    intro i ty vs hi v hv
    match i, hi with
    | 0, hi =>
      cases hi
      obtain ⟨x, -, rfl⟩ := List.mem_map.mp hv
      rfl
    | 1, hi => cases hi; cases hv
    | 2, hi => cases hi; cases hv
    | i + 3, hi => cases hi
  have hP := hw (am_P l (am_Bx ((List.range L).map xs)) am_nm am_cl am_ts am_nw D (am_DA s) sa s.heap.size am_Il [] (d + 1) am_Ql (am_Zl s.heap.size b)) (fun F hF => by
    obtain ⟨i, len, h1, h2, h3⟩ := hF
    rcases h3 with h3 | h3
    · exact am_nx_sim hT hB (am_sim hT hB d) h1 h2 h3
    · exact am_re_law h1 h2 h3)
  have hwf : am_wfF am_Il (0, [some (.retAddr 0), none, none, none], [], []) := by
    refine ⟨fun v hv => (List.not_mem_nil hv).elim, fun v hv => ?_, fun x hx => (List.not_mem_nil hx).elim, rfl⟩
    simp at hv
    rw [hv]
    rfl
  obtain ⟨v, h', ⟨q1, q2, q3⟩, -, -, -, -, hW⟩ := hP hwf
  rw [entry_eq m [Value.ref b] (fun v hv => by rw [List.mem_singleton.mp hv]; rfl)]
  have hRl := am_Rl_entry (sa := sa) (base := s.heap.size) (as := [.retAddr 0]) (n := 4) (fun v hv => by rw [List.mem_singleton.mp hv]; rfl) (by decide)
  have hcv : am_cv sa s.heap.size (.retAddr 0) = .ref b := by rw [← hsa]; rfl
  have := hW p e room_1 s m #[Value.ref b] below meth c ⟨hx, hb, hml, hown, fun w hw => hts w (List.mem_filter.mp hw).1, hK, hlocks, hr, fun h => (Bool.noConfusion h), Nat.le_refl _⟩ (show d + 1 ≤ 2048 by omega) (show 64 * (d + 1) ≤ 84000 by omega) (by show h'.length ≤ 0 + 600000; omega) (by show am_sl h' ≤ am_sl [] + 7302250; omega)
    s.heap [] _ 0 0 ⟨hRl, ⟨rfl, fun i e h => by simp at h⟩, va_S.rf, rfl, rfl⟩
  have this := am_Wmono (Q' := lw_Z below #[Value.ref b] s) (fun t (ht : am_Zl s.heap.size b v h' s #[Value.ref b] below t) => ht rfl rfl) this
  simp only [List.map_cons, List.map_nil, hcv] at this
  exact this
end
section
/-! rules of the small machine: one instruction backward -/
section AMX
variable {B : am_B} {cn : Nat → String} {d : Nat} {I : am_I} {Q : Option Value → am_H → Prop}
set_option maxHeartbeats 4000000 in
theorem am_nx_mono {P P' : am_F → Prop} {pc : Nat} {ls : List (Option Value)} {st : List Value} {h : am_H} {i : Instr} (hP : ∀ F, P F → P' F) (hx : am_nx B cn (am_T B cn d) I P pc ls st h i) : am_nx B cn (am_T B cn d) I P' pc ls st h i := by
  have hbr : ∀ {pc ls st h off C}, am_br P pc ls st h off C → am_br P' pc ls st h off C := fun ⟨t, a, b, c⟩ => ⟨t, a, fun q => hP _ (b q), fun q => hP _ (c q)⟩
  have hc1 : ∀ {pc ls st h off C}, am_c1 P pc ls st h off C → am_c1 P' pc ls st h off C := fun ⟨x, r, a, b⟩ => ⟨x, r, a, hbr b⟩
  have hc2 : ∀ {pc ls st h off C}, am_c2 P pc ls st h off C → am_c2 P' pc ls st h off C := fun ⟨x, y, r, a, b⟩ => ⟨x, y, r, a, hbr b⟩
  have hb2 : ∀ {pc ls st h f}, am_b2 P pc ls st h f → am_b2 P' pc ls st h f := fun ⟨x, y, r, a, b⟩ => ⟨x, y, r, a, hP _ b⟩
  have had : ∀ {pc ls st h ok}, am_ald B P pc ls st h ok → am_ald B P' pc ls st h ok := fun ⟨j, r, q, ty, vs, v, a, b, c, e, f, g⟩ => ⟨j, r, q, ty, vs, v, a, b, c, e, f, hP _ g⟩
  have hat : ∀ {pc ls st h ok}, am_ast P pc ls st h ok → am_ast P' pc ls st h ok := fun ⟨w, j, q, r, ty, vs, v, a, b, c, e, f, g⟩ => ⟨w, j, q, r, ty, vs, v, a, b, c, e, f, hP _ g⟩
  cases i
  case iconst n =>
    exact hP _ hx
  case bipush n =>
    exact hP _ hx
  case sipush n =>
    exact hP _ hx
  case aconst_null =>
    exact hP _ hx
  case ldc idx =>
    rcases hx with ⟨x, y, h1, h2⟩ | ⟨x, y, h1, h2⟩
    · exact Or.inl ⟨x, y, h1, hP _ h2⟩
    · exact Or.inr ⟨x, y, h1, hP _ h2⟩
  case iload k =>
    obtain ⟨x, h1, h2⟩ := hx
    exact ⟨x, h1, hP _ h2⟩
  case iload_n k =>
    obtain ⟨x, h1, h2⟩ := hx
    exact ⟨x, h1, hP _ h2⟩
  case aload k =>
    obtain ⟨x, h1, h2, h3⟩ := hx
    exact ⟨x, h1, h2, hP _ h3⟩
  case aload_n k =>
    obtain ⟨x, h1, h2, h3⟩ := hx
    exact ⟨x, h1, h2, hP _ h3⟩
  case istore k =>
    obtain ⟨x, r, h1, h2, h3⟩ := hx
    exact ⟨x, r, h1, h2, hP _ h3⟩
  case istore_n k =>
    obtain ⟨x, r, h1, h2, h3⟩ := hx
    exact ⟨x, r, h1, h2, hP _ h3⟩
  case astore k =>
    obtain ⟨x, r, h1, h2, h3, h4⟩ := hx
    exact ⟨x, r, h1, h2, h3, hP _ h4⟩
  case astore_n k =>
    obtain ⟨x, r, h1, h2, h3, h4⟩ := hx
    exact ⟨x, r, h1, h2, h3, hP _ h4⟩
  case iinc k n =>
    obtain ⟨x, h1, h2⟩ := hx
    exact ⟨x, h1, hP _ h2⟩
  case iadd =>
    exact hb2 hx
  case isub =>
    exact hb2 hx
  case imul =>
    exact hb2 hx
  case iand =>
    exact hb2 hx
  case ishr =>
    exact hb2 hx
  case iushr =>
    exact hb2 hx
  case idiv =>
    obtain ⟨x, y, r, h1, h2, h3⟩ := hx
    exact ⟨x, y, r, h1, h2, hP _ h3⟩
  case i2b =>
    obtain ⟨x, r, h1, h2⟩ := hx
    exact ⟨x, r, h1, hP _ h2⟩
  case dup =>
    obtain ⟨x, r, h1, h2⟩ := hx
    exact ⟨x, r, h1, hP _ h2⟩
  case pop =>
    obtain ⟨x, r, h1, h2⟩ := hx
    exact ⟨x, r, h1, hP _ h2⟩
  case dup_x1 =>
    obtain ⟨x, y, r, h1, h2⟩ := hx
    exact ⟨x, y, r, h1, hP _ h2⟩
  case dup2 =>
    obtain ⟨x, y, r, h1, h2⟩ := hx
    exact ⟨x, y, r, h1, hP _ h2⟩
  case goto off =>
    obtain ⟨t, h1, h2⟩ := hx
    exact ⟨t, h1, hP _ h2⟩
  case ifCond c off =>
    cases c <;> exact hc1 hx
  case if_icmp c off =>
    cases c <;> exact hc2 hx
  case ifnull off =>
    obtain ⟨v, r, h1, h2, h3⟩ := hx
    exact ⟨v, r, h1, h2, hbr h3⟩
  case ifnonnull off =>
    obtain ⟨v, r, h1, h2, h3⟩ := hx
    exact ⟨v, r, h1, h2, hbr h3⟩
  case if_acmp c off =>
    cases c
    · obtain ⟨v, w, r, h1, h2, h3⟩ := hx
      exact ⟨v, w, r, h1, h2, hbr h3⟩
    · obtain ⟨v, w, r, h1, h2, h3⟩ := hx
      exact ⟨v, w, r, h1, h2, hbr h3⟩
  case tableswitch a b c e =>
    obtain ⟨x, r, h1, t, h2, h3⟩ := hx
    exact ⟨x, r, h1, t, h2, hP _ h3⟩
  case lookupswitch a b =>
    obtain ⟨x, r, h1, h2, t, h3, h4⟩ := hx
    exact ⟨x, r, h1, h2, t, h3, hP _ h4⟩
  case getfield idx =>
    obtain ⟨a, r, t, c, k, v, h1, h2, h3, h4, h5⟩ := hx
    exact ⟨a, r, t, c, k, v, h1, h2, h3, h4, hP _ h5⟩
  case putfield idx =>
    obtain ⟨a, r, c, k, v, w, ts, ty, fin, h1, h2, h3, h4, h5, h6, h7, h8⟩ := hx
    exact ⟨a, r, c, k, v, w, ts, ty, fin, h1, h2, h3, h4, h5, h6, h7, hP _ h8⟩
  case getstatic idx =>
    obtain ⟨j, y, h1, h2⟩ := hx
    exact ⟨j, y, h1, hP _ h2⟩
  case arraylength =>
    obtain ⟨r, q, ty, vs, h1, h2, h3, h4⟩ := hx
    exact ⟨r, q, ty, vs, h1, h2, h3, hP _ h4⟩
  case iaload =>
    exact had hx
  case baload =>
    exact had hx
  case aaload =>
    exact had hx
  case iastore =>
    exact hat hx
  case bastore =>
    exact hat hx
  case aastore =>
    exact hat hx
  case new idx =>
    obtain ⟨c, y, ts, h1, h2, h3, h4⟩ := hx
    exact ⟨c, y, ts, h1, h2, h3, hP _ h4⟩
  case newarray at_ =>
    obtain ⟨n, r, ty, h1, h2, h3, h4, h5, h6⟩ := hx
    exact ⟨n, r, ty, h1, h2, h3, h4, h5, hP _ h6⟩
  case anewarray idx =>
    obtain ⟨n, r, c, y, h1, h2, h3, h4, h5, h6⟩ := hx
    exact ⟨n, r, c, y, h1, h2, h3, h4, h5, hP _ h6⟩
  case checkcast idx =>
    obtain ⟨v, r, c, y, h1, h2, h3, h4⟩ := hx
    exact ⟨v, r, c, y, h1, h2, h3, hP _ h4⟩
  case invokevirtual idx =>
    rcases hx with ⟨a, r, vs, x, y, h1, h2, h3, h4, h5⟩ | ⟨m, n, as, b, r, J, fs, h1, h2, h3, h4, h5, h6, h7⟩
    · exact Or.inl ⟨a, r, vs, x, y, h1, h2, h3, h4, hP _ h5⟩
    · exact Or.inr ⟨m, n, as, b, r, J, fs, h1, h2, h3, h4, h5, h6, am_T_mono (fun v h q => hP _ q) h7⟩
  case invokestatic idx =>
    rcases hx with ⟨n, dp, a, sp, b, r, ty, vs, ws, x, y, h1, h2, h3, h4, h5, h6, h7, h8, h9, h10, h11, h12⟩ | ⟨a, b, r, x, y, h1, h2, h3, h4⟩ | ⟨a, b, r, x, y, h1, h2, h3, h4⟩ | ⟨m, n, as, r, h1, h2, h3, h4, h5⟩
    · exact Or.inl ⟨n, dp, a, sp, b, r, ty, vs, ws, x, y, h1, h2, h3, h4, h5, h6, h7, h8, h9, h10, h11, hP _ h12⟩
    · exact Or.inr (Or.inl ⟨a, b, r, x, y, h1, h2, h3, hP _ h4⟩)
    · exact Or.inr (Or.inr (Or.inl ⟨a, b, r, x, y, h1, h2, h3, hP _ h4⟩))
    · exact Or.inr (Or.inr (Or.inr ⟨m, n, as, r, h1, h2, h3, h4, am_T_mono (fun v h q => hP _ q) h5⟩))
  case invokespecial idx =>
    rcases hx with ⟨a, r, x, y, h1, h2, h3, h4⟩ | ⟨t, m, n, as, b, r, h1, h2, h3, h4, h5, h6⟩
    · exact Or.inl ⟨a, r, x, y, h1, h2, h3, hP _ h4⟩
    · exact Or.inr ⟨t, m, n, as, b, r, h1, h2, h3, h4, h5, am_T_mono (fun v h q => ⟨q.1, hP _ q.2⟩) h6⟩
  all_goals exact False.elim hx
/-- one instruction -/
theorem am_r {pc len : Nat} {ls : List (Option Value)} {st : List Value} {h : am_H} {i : Instr} (hd : decode I.2.1 pc = .ok (i, len)) (hl : am_len i len = true) (hx : am_nx B cn (am_T B cn d) I (am_wp B cn (am_T B cn d) Q I) pc ls st h i) : am_wp B cn (am_T B cn d) Q I (pc, ls, st, h) :=
  fun P hP => hP _ ⟨i, len, hd, hl, Or.inl (am_nx_mono (fun F hF => hF P hP) hx)⟩
/-- the end -/
theorem am_rr {pc len : Nat} {ls : List (Option Value)} {st : List Value} {h : am_H} {i : Instr} (hd : decode I.2.1 pc = .ok (i, len)) (hl : am_len i len = true) (hx : am_re Q I st h i) : am_wp B cn (am_T B cn d) Q I (pc, ls, st, h) :=
  fun P hP => hP _ ⟨i, len, hd, hl, Or.inr hx⟩
end AMX
end
section
/-! THE REFERENCE's STATE: its ints by their field numbers, its arrays by field number and place -/
abbrev md_S : Type := (Nat → Int32) × (Nat → Nat → Int32)
def md_ar : Nat → Option (FieldType × Nat) := fun f => match f with
  | 0 => some (.byte, 400)
  | 3 => some (.int, 60)
  | 4 => some (.int, 60)
  | 5 => some (.int, 60)
  | 6 => some (.int, 60)
  | 7 => some (.int, 60)
  | 8 => some (.int, 60)
  | 9 => some (.int, 540)
  | 10 => some (.byte, 7200)
  | 11 => some (.int, 60)
  | 12 => some (.int, 60)
  | 13 => some (.boolean, 60)
  | 14 => some (.int, 60)
  | 15 => some (.int, 60)
  | 16 => some (.int, 60)
  | 17 => some (.int, 60)
  | 18 => some (.int, 60)
  | 19 => some (.int, 60)
  | 20 => some (.int, 60)
  | 21 => some (.int, 60)
  | 23 => some (.boolean, 60)
  | 24 => some (.int, 60)
  | 25 => some (.int, 60)
  | 26 => some (.int, 60)
  | 27 => some (.int, 60)
  | 28 => some (.int, 60)
  | 30 => some (.int, 3700)
  | 31 => some (.int, 3700)
  | 32 => some (.int, 3700)
  | 33 => some (.int, 3700)
  | 34 => some (.int, 3700)
  | 35 => some (.int, 3700)
  | 36 => some (.int, 3700)
  | 44 => some (.int, 3700)
  | 45 => some (.int, 3700)
  | 47 => some (.int, 60)
  | 48 => some (.int, 60)
  | 49 => some (.int, 60)
  | 50 => some (.int, 60)
  | 51 => some (.int, 60)
  | 52 => some (.int, 60)
  | _ => none
def md_fv (ad : Nat → Nat) (M : md_S) (f : Nat) : Value := match md_ar f with
  | some _ => .ref (ad f)
  | none => .int (M.1 f)
def md_cells (M : md_S) (f n : Nat) : List Value := (List.range n).map (fun i => Value.int (M.2 f i))
def md_R (mo : Nat) (ad : Nat → Nat) (M : md_S) (h : am_H) : Prop :=
  h[mo]? = some (.inl (9, (List.range 56).map (md_fv ad M))) ∧ ∀ f ty n, md_ar f = some (ty, n) → h[ad f]? = some (.inr (ty, md_cells M f n))
/-- the cells lie apart -/
def md_D (mo : Nat) (ad : Nat → Nat) : Prop := (∀ f g, (md_ar f).isSome = true → (md_ar g).isSome = true → ad f = ad g → f = g) ∧ ∀ f, (md_ar f).isSome = true → ad f ≠ mo
/-- what isn't the reference's stays; nothing is made -/
def md_Fr (mo : Nat) (ad : Nat → Nat) (h h' : am_H) : Prop := h'.length = h.length ∧ am_sl h' = am_sl h ∧ ∀ a, a ≠ mo → (∀ f, (md_ar f).isSome = true → a ≠ ad f) → h'[a]? = h[a]?
theorem md_Fr.rf {mo : Nat} {ad : Nat → Nat} {h : am_H} : md_Fr mo ad h h := ⟨rfl, rfl, fun _ _ _ => rfl⟩
theorem md_Fr.tr {mo : Nat} {ad : Nat → Nat} {h h1 h2 : am_H} (a : md_Fr mo ad h h1) (b : md_Fr mo ad h1 h2) : md_Fr mo ad h h2 := ⟨b.1.trans a.1, b.2.1.trans a.2.1, fun q x y => (b.2.2 q x y).trans (a.2.2 q x y)⟩
def md_up1 (M : md_S) (f : Nat) (v : Int32) : md_S := (fun g => if g = f then v else M.1 g, M.2)
def md_up2 (M : md_S) (f i : Nat) (v : Int32) : md_S := (M.1, fun g j => if g = f ∧ j = i then v else M.2 g j)
theorem md_get {mo : Nat} {ad : Nat → Nat} {M : md_S} {h : am_H} (hR : md_R mo ad M h) {f : Nat} (hf : f < 56) : am_get h 9 mo f = some (md_fv ad M f) := by
  unfold am_get
  rw [hR.1]
  simp [hf]
theorem md_arr {B : am_B} {mo : Nat} {ad : Nat → Nat} {M : md_S} {h : am_H} (hR : md_R mo ad M h) {f n : Nat} {ty : FieldType} (hf : md_ar f = some (ty, n)) : am_arr B h (.ref (ad f)) = some (ty, md_cells M f n) := by
  unfold am_arr
  simp [hR.2 f ty n hf]
theorem md_cells_get {M : md_S} {f n i : Nat} (hi : i < n) : (md_cells M f n)[i]? = some (.int (M.2 f i)) := by simp [md_cells, hi]
theorem md_cells_len {M : md_S} {f n : Nat} : (md_cells M f n).length = n := by simp [md_cells]
theorem md_R.up1 {mo : Nat} {ad : Nat → Nat} {M : md_S} {h : am_H} (hD : md_D mo ad) (hR : md_R mo ad M h) {f : Nat} (hf : f < 56) (hn : md_ar f = none) (v : Int32) : md_R mo ad (md_up1 M f v) (am_put h mo f (.int v)) ∧ md_Fr mo ad h (am_put h mo f (.int v)) := by
  have hl : mo < h.length := (List.getElem?_eq_some_iff.mp hR.1).1
  rw [am_put_eq hR.1]
  refine ⟨⟨?_, fun g ty n hg => ?_⟩, by simp, am_sl_set h mo _ _ hR.1 (by simp [am_sz]), fun a h1 h2 => List.getElem?_set_ne (Ne.symm h1)⟩
  · rw [List.getElem?_set_self hl]
    congr 3
    apply List.ext_getElem?
    intro i
    by_cases hi : i = f
    · subst hi
      rw [List.getElem?_set_self (by simpa using hf)]
      simp [hf, md_fv, hn, md_up1]
    · rw [List.getElem?_set_ne (Ne.symm hi), List.getElem?_map, List.getElem?_map]
      by_cases h56 : i < 56
      · rw [List.getElem?_range h56]
        simp [md_fv, md_up1, hi]
      · rw [List.getElem?_eq_none (by simp; omega)]
        rfl
  · rw [List.getElem?_set_ne (fun e => hD.2 g (by rw [hg]; rfl) e.symm), hR.2 g ty n hg]
    rfl
theorem md_cells_set {M : md_S} {f n i : Nat} {v : Int32} (hi : i < n) : (md_cells M f n).set i (.int v) = md_cells (md_up2 M f i v) f n := by
  apply List.ext_getElem?
  intro j
  by_cases hj : j = i
  · subst hj
    rw [List.getElem?_set_self (by rw [md_cells_len]; exact hi), md_cells_get hi]
    simp [md_up2]
  · rw [List.getElem?_set_ne (Ne.symm hj)]
    by_cases hjn : j < n
    · rw [md_cells_get hjn, md_cells_get hjn]
      simp [md_up2, hj]
    · rw [List.getElem?_eq_none (by rw [md_cells_len]; omega), List.getElem?_eq_none (by rw [md_cells_len]; omega)]
theorem md_R.up2 {mo : Nat} {ad : Nat → Nat} {M : md_S} {h : am_H} (hD : md_D mo ad) (hR : md_R mo ad M h) {f n i : Nat} {ty : FieldType} (hf : md_ar f = some (ty, n)) (hi : i < n) (v : Int32) : md_R mo ad (md_up2 M f i v) (h.set (ad f) (.inr (ty, (md_cells M f n).set i (.int v)))) ∧ md_Fr mo ad h (h.set (ad f) (.inr (ty, (md_cells M f n).set i (.int v)))) := by
  have h0 := hR.2 f ty n hf
  have hl : ad f < h.length := (List.getElem?_eq_some_iff.mp h0).1
  have hs : (md_ar f).isSome = true := by rw [hf]; rfl
  refine ⟨⟨?_, fun g ty' n' hg => ?_⟩, by simp, am_sl_set h _ _ _ h0 (by simp [am_sz]), fun a h1 h2 => List.getElem?_set_ne (Ne.symm (h2 f hs))⟩
  · rw [List.getElem?_set_ne (hD.2 f hs), hR.1]
    rfl
  · by_cases hgf : g = f
    · subst hgf
      rw [List.getElem?_set_self hl]
      cases hf.symm.trans hg
      rw [md_cells_set hi]
    · rw [List.getElem?_set_ne (fun e => hgf (hD.1 g f (by rw [hg]; rfl) hs e.symm)), hR.2 g ty' n' hg]
      congr 3
      unfold md_cells
      apply List.map_congr_left
      intro j _
      simp [md_up2, hgf]
section MDW
variable (xs : List Int32) (mo : Nat) (ad : Nat → Nat)
/-- from here the method ends with Q, an answer and the reference's state; all in terms of the state -/
def md_wp (h0 : am_H) (d : Nat) (Q : Option Value → md_S → Prop) (I : am_I) (pc : Nat) (ls : List (Option Value)) (st : List Value) (M : md_S) : Prop :=
  ∀ h, md_R mo ad M h → md_Fr mo ad h0 h → am_wp (am_Bx xs) am_nm (am_T (am_Bx xs) am_nm d) (fun v h' => ∃ M', md_R mo ad M' h' ∧ md_Fr mo ad h0 h' ∧ Q v M') I (pc, ls, st, h)
/-- a call of a method of the reference -/
def md_C (d mi : Nat) (as : List Value) (M : md_S) (Q : Option Value → md_S → Prop) : Prop :=
  ∀ h, md_R mo ad M h → am_T (am_Bx xs) am_nm d mi (.ref mo :: as) h (fun v h' => ∃ M', md_R mo ad M' h' ∧ md_Fr mo ad h h' ∧ Q v M')
/-- a call of a static method that reads no heap -/
def md_Cs (d mi : Nat) (as : List Value) (Q : Option Value → Prop) : Prop :=
  ∀ h, am_T (am_Bx xs) am_nm d mi as h (fun v h' => h' = h ∧ Q v)
variable {xs mo ad}
variable {h0 : am_H} {d : Nat} {Q : Option Value → md_S → Prop} {I : am_I} {pc : Nat} {ls : List (Option Value)} {st rest : List Value} {M : md_S}
theorem md_C.mono {mi : Nat} {as : List Value} {Q' : Option Value → md_S → Prop} (h : md_C xs mo ad d mi as M Q) (hQ : ∀ v M, Q v M → Q' v M) : md_C xs mo ad d mi as M Q' := fun hh hR => am_T_mono (fun v h' ⟨M', a, b, c⟩ => ⟨M', a, b, hQ _ _ c⟩) (h hh hR)
theorem md_intro {mi : Nat} {as : List Value} (hI : (am_Bx xs).2.1 mi = some I) (hl : (Value.ref mo :: as).length ≤ I.2.2.1) (hw : ∀ h0, md_wp xs mo ad h0 d Q I 0 ((Value.ref mo :: as).map some ++ List.replicate (I.2.2.1 - (Value.ref mo :: as).length) none) [] M) : md_C xs mo ad (d + 1) mi as M Q :=
  fun h hR => ⟨I, hI, hl, hw h h hR md_Fr.rf⟩
theorem md_iconst {n : Int} {v : Int32} (hd : decode I.2.1 pc = .ok (.iconst n, 1)) (hv : Int32.ofInt n = v) (k : md_wp xs mo ad h0 d Q I (pc + 1) ls (.int v :: st) M) : md_wp xs mo ad h0 d Q I pc ls (st) M :=
  fun h hR hF => am_r hd rfl (show am_nx _ _ _ _ _ _ _ _ _ _ from by subst hv; exact k h hR hF)
theorem md_bipush {n : Int} {v : Int32} (hd : decode I.2.1 pc = .ok (.bipush n, 2)) (hv : (Int8.ofInt n).toInt32 = v) (k : md_wp xs mo ad h0 d Q I (pc + 2) ls (.int v :: st) M) : md_wp xs mo ad h0 d Q I pc ls (st) M :=
  fun h hR hF => am_r hd rfl (show am_nx _ _ _ _ _ _ _ _ _ _ from by subst hv; exact k h hR hF)
theorem md_sipush {n : Int} {v : Int32} (hd : decode I.2.1 pc = .ok (.sipush n, 3)) (hv : (Int16.ofInt n).toInt32 = v) (k : md_wp xs mo ad h0 d Q I (pc + 3) ls (.int v :: st) M) : md_wp xs mo ad h0 d Q I pc ls (st) M :=
  fun h hR hF => am_r hd rfl (show am_nx _ _ _ _ _ _ _ _ _ _ from by subst hv; exact k h hR hF)
theorem md_iload {i : Nat} {x : Int32} (hd : decode I.2.1 pc = .ok (.iload i, 2)) (hx : ls[i]? = some (some (.int x))) (k : md_wp xs mo ad h0 d Q I (pc + 2) ls (.int x :: st) M) : md_wp xs mo ad h0 d Q I pc ls (st) M :=
  fun h hR hF => am_r hd rfl (show am_nx _ _ _ _ _ _ _ _ _ _ from ⟨x, hx, k h hR hF⟩)
theorem md_iload_n {i : Fin 4} {x : Int32} (hd : decode I.2.1 pc = .ok (.iload_n i, 1)) (hx : ls[i.val]? = some (some (.int x))) (k : md_wp xs mo ad h0 d Q I (pc + 1) ls (.int x :: st) M) : md_wp xs mo ad h0 d Q I pc ls (st) M :=
  fun h hR hF => am_r hd rfl (show am_nx _ _ _ _ _ _ _ _ _ _ from ⟨x, hx, k h hR hF⟩)
theorem md_aload0 {i : Fin 4} {a : Nat} (hd : decode I.2.1 pc = .ok (.aload_n i, 1)) (hx : ls[i.val]? = some (some (.ref a))) (k : md_wp xs mo ad h0 d Q I (pc + 1) ls (.ref a :: st) M) : md_wp xs mo ad h0 d Q I pc ls (st) M :=
  fun h hR hF => am_r hd rfl (show am_nx _ _ _ _ _ _ _ _ _ _ from ⟨_, hx, Or.inr (Or.inl ⟨a, rfl⟩), k h hR hF⟩)
theorem md_istore {i : Nat} {x : Int32} (hd : decode I.2.1 pc = .ok (.istore i, 2)) (hx : i < ls.length) (k : md_wp xs mo ad h0 d Q I (pc + 2) (ls.set i (some (.int x))) (st) M) : md_wp xs mo ad h0 d Q I pc ls (.int x :: st) M :=
  fun h hR hF => am_r hd rfl (show am_nx _ _ _ _ _ _ _ _ _ _ from ⟨x, st, rfl, hx, k h hR hF⟩)
theorem md_istore_n {i : Fin 4} {x : Int32} (hd : decode I.2.1 pc = .ok (.istore_n i, 1)) (hx : i.val < ls.length) (k : md_wp xs mo ad h0 d Q I (pc + 1) (ls.set i.val (some (.int x))) (st) M) : md_wp xs mo ad h0 d Q I pc ls (.int x :: st) M :=
  fun h hR hF => am_r hd rfl (show am_nx _ _ _ _ _ _ _ _ _ _ from ⟨x, st, rfl, hx, k h hR hF⟩)
theorem md_iinc {i : Nat} {n : Int} {x v : Int32} (hd : decode I.2.1 pc = .ok (.iinc i n, 3)) (hx : ls[i]? = some (some (.int x))) (hv : x + Int32.ofInt n = v) (k : md_wp xs mo ad h0 d Q I (pc + 3) (ls.set i (some (.int v))) (st) M) : md_wp xs mo ad h0 d Q I pc ls (st) M :=
  fun h hR hF => am_r hd rfl (show am_nx _ _ _ _ _ _ _ _ _ _ from ⟨x, hx, by subst hv; exact k h hR hF⟩)
theorem md_iadd {x y : Int32} (hd : decode I.2.1 pc = .ok (.iadd, 1))  (k : md_wp xs mo ad h0 d Q I (pc + 1) ls (.int (x + y) :: st) M) : md_wp xs mo ad h0 d Q I pc ls (.int y :: .int x :: st) M :=
  fun h hR hF => am_r hd rfl (show am_nx _ _ _ _ _ _ _ _ _ _ from ⟨x, y, st, rfl, k h hR hF⟩)
theorem md_isub {x y : Int32} (hd : decode I.2.1 pc = .ok (.isub, 1))  (k : md_wp xs mo ad h0 d Q I (pc + 1) ls (.int (x - y) :: st) M) : md_wp xs mo ad h0 d Q I pc ls (.int y :: .int x :: st) M :=
  fun h hR hF => am_r hd rfl (show am_nx _ _ _ _ _ _ _ _ _ _ from ⟨x, y, st, rfl, k h hR hF⟩)
theorem md_imul {x y : Int32} (hd : decode I.2.1 pc = .ok (.imul, 1))  (k : md_wp xs mo ad h0 d Q I (pc + 1) ls (.int (x * y) :: st) M) : md_wp xs mo ad h0 d Q I pc ls (.int y :: .int x :: st) M :=
  fun h hR hF => am_r hd rfl (show am_nx _ _ _ _ _ _ _ _ _ _ from ⟨x, y, st, rfl, k h hR hF⟩)
theorem md_iand {x y : Int32} (hd : decode I.2.1 pc = .ok (.iand, 1))  (k : md_wp xs mo ad h0 d Q I (pc + 1) ls (.int (x &&& y) :: st) M) : md_wp xs mo ad h0 d Q I pc ls (.int y :: .int x :: st) M :=
  fun h hR hF => am_r hd rfl (show am_nx _ _ _ _ _ _ _ _ _ _ from ⟨x, y, st, rfl, k h hR hF⟩)
theorem md_ishr {x y : Int32} (hd : decode I.2.1 pc = .ok (.ishr, 1))  (k : md_wp xs mo ad h0 d Q I (pc + 1) ls (.int (x >>> (y &&& 31)) :: st) M) : md_wp xs mo ad h0 d Q I pc ls (.int y :: .int x :: st) M :=
  fun h hR hF => am_r hd rfl (show am_nx _ _ _ _ _ _ _ _ _ _ from ⟨x, y, st, rfl, k h hR hF⟩)
theorem md_idiv {x y : Int32} (hd : decode I.2.1 pc = .ok (.idiv, 1)) (hy : ¬ y = 0) (k : md_wp xs mo ad h0 d Q I (pc + 1) ls (.int (x / y) :: st) M) : md_wp xs mo ad h0 d Q I pc ls (.int y :: .int x :: st) M :=
  fun h hR hF => am_r hd rfl (show am_nx _ _ _ _ _ _ _ _ _ _ from ⟨x, y, st, rfl, hy, k h hR hF⟩)
theorem md_i2b {x : Int32} (hd : decode I.2.1 pc = .ok (.i2b, 1))  (k : md_wp xs mo ad h0 d Q I (pc + 1) ls (.int x.toInt8.toInt32 :: st) M) : md_wp xs mo ad h0 d Q I pc ls (.int x :: st) M :=
  fun h hR hF => am_r hd rfl (show am_nx _ _ _ _ _ _ _ _ _ _ from ⟨x, st, rfl, k h hR hF⟩)
theorem md_dup {v : Value} (hd : decode I.2.1 pc = .ok (.dup, 1))  (k : md_wp xs mo ad h0 d Q I (pc + 1) ls (v :: v :: st) M) : md_wp xs mo ad h0 d Q I pc ls (v :: st) M :=
  fun h hR hF => am_r hd rfl (show am_nx _ _ _ _ _ _ _ _ _ _ from ⟨v, st, rfl, k h hR hF⟩)
theorem md_dup2 {v w : Value} (hd : decode I.2.1 pc = .ok (.dup2, 1))  (k : md_wp xs mo ad h0 d Q I (pc + 1) ls (v :: w :: v :: w :: st) M) : md_wp xs mo ad h0 d Q I pc ls (v :: w :: st) M :=
  fun h hR hF => am_r hd rfl (show am_nx _ _ _ _ _ _ _ _ _ _ from ⟨v, w, st, rfl, k h hR hF⟩)
theorem md_pop {v : Value} (hd : decode I.2.1 pc = .ok (.pop, 1))  (k : md_wp xs mo ad h0 d Q I (pc + 1) ls (st) M) : md_wp xs mo ad h0 d Q I pc ls (v :: st) M :=
  fun h hR hF => am_r hd rfl (show am_nx _ _ _ _ _ _ _ _ _ _ from ⟨v, st, rfl, k h hR hF⟩)
theorem md_goto {off : Int} {tgt : Nat} (hd : decode I.2.1 pc = .ok (.goto off, 3)) (ht : (pc : Int) + off = (tgt : Int)) (k : md_wp xs mo ad h0 d Q I (tgt) ls (st) M) : md_wp xs mo ad h0 d Q I pc ls (st) M :=
  fun h hR hF => am_r hd rfl (show am_nx _ _ _ _ _ _ _ _ _ _ from ⟨tgt, ht, k h hR hF⟩)
theorem md_if_eq {x : Int32} {off : Int} {tgt : Nat} (hd : decode I.2.1 pc = .ok (.ifCond .eq off, 3)) (ht : (pc : Int) + off = (tgt : Int)) (k1 : x = 0 → md_wp xs mo ad h0 d Q I tgt ls st M) (k2 : ¬ (x = 0) → md_wp xs mo ad h0 d Q I (pc + 3) ls st M) : md_wp xs mo ad h0 d Q I pc ls (.int x :: st) M :=
  fun h hR hF => am_r hd rfl (show am_nx _ _ _ _ _ _ _ _ _ _ from ⟨x, st, rfl, tgt, ht, fun q => k1 q h hR hF, fun q => k2 q h hR hF⟩)
theorem md_icmp_eq {x y : Int32} {off : Int} {tgt : Nat} (hd : decode I.2.1 pc = .ok (.if_icmp .eq off, 3)) (ht : (pc : Int) + off = (tgt : Int)) (k1 : x = y → md_wp xs mo ad h0 d Q I tgt ls st M) (k2 : ¬ (x = y) → md_wp xs mo ad h0 d Q I (pc + 3) ls st M) : md_wp xs mo ad h0 d Q I pc ls (.int y :: .int x :: st) M :=
  fun h hR hF => am_r hd rfl (show am_nx _ _ _ _ _ _ _ _ _ _ from ⟨x, y, st, rfl, tgt, ht, fun q => k1 q h hR hF, fun q => k2 q h hR hF⟩)
theorem md_if_ne {x : Int32} {off : Int} {tgt : Nat} (hd : decode I.2.1 pc = .ok (.ifCond .ne off, 3)) (ht : (pc : Int) + off = (tgt : Int)) (k1 : ¬ x = 0 → md_wp xs mo ad h0 d Q I tgt ls st M) (k2 : ¬ (¬ x = 0) → md_wp xs mo ad h0 d Q I (pc + 3) ls st M) : md_wp xs mo ad h0 d Q I pc ls (.int x :: st) M :=
  fun h hR hF => am_r hd rfl (show am_nx _ _ _ _ _ _ _ _ _ _ from ⟨x, st, rfl, tgt, ht, fun q => k1 q h hR hF, fun q => k2 q h hR hF⟩)
theorem md_icmp_ne {x y : Int32} {off : Int} {tgt : Nat} (hd : decode I.2.1 pc = .ok (.if_icmp .ne off, 3)) (ht : (pc : Int) + off = (tgt : Int)) (k1 : ¬ x = y → md_wp xs mo ad h0 d Q I tgt ls st M) (k2 : ¬ (¬ x = y) → md_wp xs mo ad h0 d Q I (pc + 3) ls st M) : md_wp xs mo ad h0 d Q I pc ls (.int y :: .int x :: st) M :=
  fun h hR hF => am_r hd rfl (show am_nx _ _ _ _ _ _ _ _ _ _ from ⟨x, y, st, rfl, tgt, ht, fun q => k1 q h hR hF, fun q => k2 q h hR hF⟩)
theorem md_if_lt {x : Int32} {off : Int} {tgt : Nat} (hd : decode I.2.1 pc = .ok (.ifCond .lt off, 3)) (ht : (pc : Int) + off = (tgt : Int)) (k1 : x < 0 → md_wp xs mo ad h0 d Q I tgt ls st M) (k2 : ¬ (x < 0) → md_wp xs mo ad h0 d Q I (pc + 3) ls st M) : md_wp xs mo ad h0 d Q I pc ls (.int x :: st) M :=
  fun h hR hF => am_r hd rfl (show am_nx _ _ _ _ _ _ _ _ _ _ from ⟨x, st, rfl, tgt, ht, fun q => k1 q h hR hF, fun q => k2 q h hR hF⟩)
theorem md_icmp_lt {x y : Int32} {off : Int} {tgt : Nat} (hd : decode I.2.1 pc = .ok (.if_icmp .lt off, 3)) (ht : (pc : Int) + off = (tgt : Int)) (k1 : x < y → md_wp xs mo ad h0 d Q I tgt ls st M) (k2 : ¬ (x < y) → md_wp xs mo ad h0 d Q I (pc + 3) ls st M) : md_wp xs mo ad h0 d Q I pc ls (.int y :: .int x :: st) M :=
  fun h hR hF => am_r hd rfl (show am_nx _ _ _ _ _ _ _ _ _ _ from ⟨x, y, st, rfl, tgt, ht, fun q => k1 q h hR hF, fun q => k2 q h hR hF⟩)
theorem md_if_ge {x : Int32} {off : Int} {tgt : Nat} (hd : decode I.2.1 pc = .ok (.ifCond .ge off, 3)) (ht : (pc : Int) + off = (tgt : Int)) (k1 : 0 ≤ x → md_wp xs mo ad h0 d Q I tgt ls st M) (k2 : ¬ (0 ≤ x) → md_wp xs mo ad h0 d Q I (pc + 3) ls st M) : md_wp xs mo ad h0 d Q I pc ls (.int x :: st) M :=
  fun h hR hF => am_r hd rfl (show am_nx _ _ _ _ _ _ _ _ _ _ from ⟨x, st, rfl, tgt, ht, fun q => k1 q h hR hF, fun q => k2 q h hR hF⟩)
theorem md_icmp_ge {x y : Int32} {off : Int} {tgt : Nat} (hd : decode I.2.1 pc = .ok (.if_icmp .ge off, 3)) (ht : (pc : Int) + off = (tgt : Int)) (k1 : y ≤ x → md_wp xs mo ad h0 d Q I tgt ls st M) (k2 : ¬ (y ≤ x) → md_wp xs mo ad h0 d Q I (pc + 3) ls st M) : md_wp xs mo ad h0 d Q I pc ls (.int y :: .int x :: st) M :=
  fun h hR hF => am_r hd rfl (show am_nx _ _ _ _ _ _ _ _ _ _ from ⟨x, y, st, rfl, tgt, ht, fun q => k1 q h hR hF, fun q => k2 q h hR hF⟩)
theorem md_if_gt {x : Int32} {off : Int} {tgt : Nat} (hd : decode I.2.1 pc = .ok (.ifCond .gt off, 3)) (ht : (pc : Int) + off = (tgt : Int)) (k1 : 0 < x → md_wp xs mo ad h0 d Q I tgt ls st M) (k2 : ¬ (0 < x) → md_wp xs mo ad h0 d Q I (pc + 3) ls st M) : md_wp xs mo ad h0 d Q I pc ls (.int x :: st) M :=
  fun h hR hF => am_r hd rfl (show am_nx _ _ _ _ _ _ _ _ _ _ from ⟨x, st, rfl, tgt, ht, fun q => k1 q h hR hF, fun q => k2 q h hR hF⟩)
theorem md_icmp_gt {x y : Int32} {off : Int} {tgt : Nat} (hd : decode I.2.1 pc = .ok (.if_icmp .gt off, 3)) (ht : (pc : Int) + off = (tgt : Int)) (k1 : y < x → md_wp xs mo ad h0 d Q I tgt ls st M) (k2 : ¬ (y < x) → md_wp xs mo ad h0 d Q I (pc + 3) ls st M) : md_wp xs mo ad h0 d Q I pc ls (.int y :: .int x :: st) M :=
  fun h hR hF => am_r hd rfl (show am_nx _ _ _ _ _ _ _ _ _ _ from ⟨x, y, st, rfl, tgt, ht, fun q => k1 q h hR hF, fun q => k2 q h hR hF⟩)
theorem md_if_le {x : Int32} {off : Int} {tgt : Nat} (hd : decode I.2.1 pc = .ok (.ifCond .le off, 3)) (ht : (pc : Int) + off = (tgt : Int)) (k1 : x ≤ 0 → md_wp xs mo ad h0 d Q I tgt ls st M) (k2 : ¬ (x ≤ 0) → md_wp xs mo ad h0 d Q I (pc + 3) ls st M) : md_wp xs mo ad h0 d Q I pc ls (.int x :: st) M :=
  fun h hR hF => am_r hd rfl (show am_nx _ _ _ _ _ _ _ _ _ _ from ⟨x, st, rfl, tgt, ht, fun q => k1 q h hR hF, fun q => k2 q h hR hF⟩)
theorem md_icmp_le {x y : Int32} {off : Int} {tgt : Nat} (hd : decode I.2.1 pc = .ok (.if_icmp .le off, 3)) (ht : (pc : Int) + off = (tgt : Int)) (k1 : x ≤ y → md_wp xs mo ad h0 d Q I tgt ls st M) (k2 : ¬ (x ≤ y) → md_wp xs mo ad h0 d Q I (pc + 3) ls st M) : md_wp xs mo ad h0 d Q I pc ls (.int y :: .int x :: st) M :=
  fun h hR hF => am_r hd rfl (show am_nx _ _ _ _ _ _ _ _ _ _ from ⟨x, y, st, rfl, tgt, ht, fun q => k1 q h hR hF, fun q => k2 q h hR hF⟩)
theorem md_getI {idx f : Nat} (hd : decode I.2.1 pc = .ok (.getfield idx, 3)) (hb : am_pool I.1 idx = (1, 9, f)) (hf : f < 56) (hn : md_ar f = none) (k : md_wp xs mo ad h0 d Q I (pc + 3) ls (.int (M.1 f) :: st) M) : md_wp xs mo ad h0 d Q I pc ls (.ref mo :: st) M :=
  fun h hR hF => am_r hd rfl (show am_nx _ _ _ _ _ _ _ _ _ _ from ⟨mo, st, 1, 9, f, _, rfl, hb, Or.inl rfl, md_get hR hf, by unfold md_fv; rw [hn]; exact k h hR hF⟩)
theorem md_getA {idx f : Nat} {q : FieldType × Nat} (hd : decode I.2.1 pc = .ok (.getfield idx, 3)) (hb : am_pool I.1 idx = (1, 9, f)) (hf : f < 56) (hn : md_ar f = some q) (k : md_wp xs mo ad h0 d Q I (pc + 3) ls (.ref (ad f) :: st) M) : md_wp xs mo ad h0 d Q I pc ls (.ref mo :: st) M :=
  fun h hR hF => am_r hd rfl (show am_nx _ _ _ _ _ _ _ _ _ _ from ⟨mo, st, 1, 9, f, _, rfl, hb, Or.inl rfl, md_get hR hf, by unfold md_fv; rw [hn]; exact k h hR hF⟩)
theorem md_vin {j : Int32} {n : Nat} (h : vp_in j n) : ¬ j < 0 ∧ j.toNatClampNeg < n := ⟨fun q => h (Or.inl q), Nat.not_le.mp fun q => h (Or.inr q)⟩
theorem md_iald {f n : Nat} {j : Int32} (hd : decode I.2.1 pc = .ok (.iaload, 1)) (hn : md_ar f = some (.int, n)) (hj : vp_in j n) (k : md_wp xs mo ad h0 d Q I (pc + 1) ls (.int (M.2 f j.toNatClampNeg) :: st) M) : md_wp xs mo ad h0 d Q I pc ls (.int j :: .ref (ad f) :: st) M :=
  fun h hR hF => am_r hd rfl (show am_nx _ _ _ _ _ _ _ _ _ _ from ⟨j, _, st, .int, _, _, rfl, md_arr hR hn, rfl, (md_vin hj).1, md_cells_get (md_vin hj).2, k h hR hF⟩)
theorem md_bald {f n : Nat} {j : Int32} {ty : FieldType} (hd : decode I.2.1 pc = .ok (.baload, 1)) (hn : md_ar f = some (ty, n)) (hty : ty = .byte ∨ ty = .boolean) (hj : vp_in j n) (k : md_wp xs mo ad h0 d Q I (pc + 1) ls (.int (M.2 f j.toNatClampNeg) :: st) M) : md_wp xs mo ad h0 d Q I pc ls (.int j :: .ref (ad f) :: st) M :=
  fun h hR hF => am_r hd rfl (show am_nx _ _ _ _ _ _ _ _ _ _ from ⟨j, _, st, ty, _, _, rfl, md_arr hR hn, hty, (md_vin hj).1, md_cells_get (md_vin hj).2, k h hR hF⟩)
theorem md_putI {idx f : Nat} {v : Int32} {ty : FieldType} (hD : md_D mo ad) (hd : decode I.2.1 pc = .ok (.putfield idx, 3)) (hb : am_pool I.1 idx = (1, 9, f)) (hf : f < 56) (hn : md_ar f = none) (hty : ((am_fl 9).getD [])[f]? = some (ty, false)) (hfit : am_fit ty (.int v) = true) (k : md_wp xs mo ad h0 d Q I (pc + 3) ls st (md_up1 M f v)) : md_wp xs mo ad h0 d Q I pc ls (.int v :: .ref mo :: st) M :=
  fun h hR hF => am_r hd rfl (show am_nx _ _ _ _ _ _ _ _ _ _ from ⟨mo, st, 9, f, .int v, _, (am_fl 9).getD [], ty, false, rfl, hb, md_get hR hf, rfl, hty, hfit, fun q => (Bool.noConfusion q), k _ (hR.up1 hD hf hn v).1 (hF.tr (hR.up1 hD hf hn v).2)⟩)
theorem md_iast {f n : Nat} {j x : Int32} (hD : md_D mo ad) (hd : decode I.2.1 pc = .ok (.iastore, 1)) (hn : md_ar f = some (.int, n)) (hj : vp_in j n) (k : md_wp xs mo ad h0 d Q I (pc + 1) ls st (md_up2 M f j.toNatClampNeg x)) : md_wp xs mo ad h0 d Q I pc ls (.int x :: .int j :: .ref (ad f) :: st) M :=
  fun h hR hF => am_r hd rfl (show am_nx _ _ _ _ _ _ _ _ _ _ from ⟨.int x, j, ad f, st, .int, _, .int x, rfl, hR.2 f _ _ hn, ⟨rfl, rfl, x, rfl⟩, (md_vin hj).1, by rw [md_cells_len]; exact (md_vin hj).2, k _ (hR.up2 hD hn (md_vin hj).2 x).1 (hF.tr (hR.up2 hD hn (md_vin hj).2 x).2)⟩)
theorem md_bast {f n : Nat} {j x : Int32} (hD : md_D mo ad) (hd : decode I.2.1 pc = .ok (.bastore, 1)) (hn : md_ar f = some (.byte, n)) (hj : vp_in j n) (k : md_wp xs mo ad h0 d Q I (pc + 1) ls st (md_up2 M f j.toNatClampNeg x.toInt8.toInt32)) : md_wp xs mo ad h0 d Q I pc ls (.int x :: .int j :: .ref (ad f) :: st) M :=
  fun h hR hF => am_r hd rfl (show am_nx _ _ _ _ _ _ _ _ _ _ from ⟨.int x, j, ad f, st, .byte, _, .int x.toInt8.toInt32, rfl, hR.2 f _ _ hn, ⟨x, rfl, Or.inl ⟨rfl, rfl⟩⟩, (md_vin hj).1, by rw [md_cells_len]; exact (md_vin hj).2, k _ (hR.up2 hD hn (md_vin hj).2 _).1 (hF.tr (hR.up2 hD hn (md_vin hj).2 _).2)⟩)
theorem md_zast {f n : Nat} {j x : Int32} (hD : md_D mo ad) (hd : decode I.2.1 pc = .ok (.bastore, 1)) (hn : md_ar f = some (.boolean, n)) (hj : vp_in j n) (k : md_wp xs mo ad h0 d Q I (pc + 1) ls st (md_up2 M f j.toNatClampNeg (x &&& 1))) : md_wp xs mo ad h0 d Q I pc ls (.int x :: .int j :: .ref (ad f) :: st) M :=
  fun h hR hF => am_r hd rfl (show am_nx _ _ _ _ _ _ _ _ _ _ from ⟨.int x, j, ad f, st, .boolean, _, .int (x &&& 1), rfl, hR.2 f _ _ hn, ⟨x, rfl, Or.inr ⟨rfl, rfl⟩⟩, (md_vin hj).1, by rw [md_cells_len]; exact (md_vin hj).2, k _ (hR.up2 hD hn (md_vin hj).2 _).1 (hF.tr (hR.up2 hD hn (md_vin hj).2 _).2)⟩)
theorem md_alen {f n : Nat} {ty : FieldType} (hd : decode I.2.1 pc = .ok (.arraylength, 1)) (hn : md_ar f = some (ty, n)) (hty : am_tyk ty) (k : md_wp xs mo ad h0 d Q I (pc + 1) ls (.int (Int32.ofNat n) :: st) M) : md_wp xs mo ad h0 d Q I pc ls (.ref (ad f) :: st) M :=
  fun h hR hF => am_r hd rfl (show am_nx _ _ _ _ _ _ _ _ _ _ from ⟨_, st, ty, _, rfl, md_arr hR hn, hty, by rw [md_cells_len]; exact k h hR hF⟩)
theorem md_tsw {dflt lo hi : Int} {offs : Array Int} {x : Int32} {tgt len : Nat} (hd : decode I.2.1 pc = .ok (.tableswitch dflt lo hi offs, len)) (ht : (x.toInt < lo ∨ hi < x.toInt) ∧ (pc : Int) + dflt = (tgt : Int) ∨ ¬ x.toInt < lo ∧ ¬ hi < x.toInt ∧ ∃ off, offs[(x.toInt - lo).toNat]? = some off ∧ (pc : Int) + off = (tgt : Int)) (k : md_wp xs mo ad h0 d Q I tgt ls st M) : md_wp xs mo ad h0 d Q I pc ls (.int x :: st) M :=
  fun h hR hF => am_r hd rfl (show am_nx _ _ _ _ _ _ _ _ _ _ from ⟨x, st, rfl, tgt, ht, k h hR hF⟩)
theorem md_call {idx mi n : Nat} {as : List Value} {J : am_I} (hd : decode I.2.1 pc = .ok (.invokevirtual idx, 3)) (hb : am_pool I.1 idx = (4, mi, n)) (hn : as.length = n) (hrl : rest.length ≤ 8) (hJ : (am_Bx xs).2.1 mi = some J) (hJ9 : J.1 = 9) (k : md_C xs mo ad d mi as M (fun v M' => md_wp xs mo ad h0 d Q I (pc + 3) ls (v.toList ++ rest) M')) (hst : st = as.reverse ++ .ref mo :: rest) : md_wp xs mo ad h0 d Q I pc ls st M :=
  fun h hR hF => am_r hd rfl (show am_nx _ _ _ _ _ _ _ _ _ _ from Or.inr ⟨mi, n, as, mo, rest, J, _, hb, hn, hst, hrl, hJ, by rw [hJ9]; exact hR.1, am_T_mono (fun v h' ⟨M', a, b, c⟩ => c h' a (hF.tr b)) (k h hR)⟩)
theorem md_calls {idx mi n : Nat} {as : List Value} (hd : decode I.2.1 pc = .ok (.invokestatic idx, 3)) (hb : am_pool I.1 idx = (5, mi, n)) (hn : as.length = n) (hrl : rest.length ≤ 8) (k : md_Cs xs d mi as (fun v => md_wp xs mo ad h0 d Q I (pc + 3) ls (v.toList ++ rest) M)) (hst : st = as.reverse ++ rest) : md_wp xs mo ad h0 d Q I pc ls st M :=
  fun h hR hF => am_r hd rfl (show am_nx _ _ _ _ _ _ _ _ _ _ from Or.inr (Or.inr (Or.inr ⟨mi, n, as, rest, hb, hn, hst, hrl, am_T_mono (fun v h' ⟨a, b⟩ => by subst a; exact b _ hR hF) (k h)⟩)))
theorem md_iret {x : Int32} (hd : decode I.2.1 pc = .ok (.ireturn, 1)) (ha : am_ans I.2.2.2.1 (some (.int x)) = true) (hQ : Q (some (.int x)) M) : md_wp xs mo ad h0 d Q I pc ls [.int x] M :=
  fun h hR hF => am_rr hd rfl ⟨some (.int x), rfl, ha, ⟨M, hR, hF, hQ⟩, Or.inr (Or.inl ⟨rfl, x, rfl⟩)⟩
theorem md_vret (hd : decode I.2.1 pc = .ok (.return_, 1)) (ha : am_ans I.2.2.2.1 none = true) (hQ : Q none M) : md_wp xs mo ad h0 d Q I pc ls [] M :=
  fun h hR hF => am_rr hd rfl ⟨none, rfl, ha, ⟨M, hR, hF, hQ⟩, Or.inl ⟨rfl, rfl⟩⟩
end MDW
end
section
/-! the methods, decoded (written by program: wip/whole/gen/decrows.py) -/
def am_dec (c : ByteArray) (l : List (Nat × Instr × Nat)) : Bool := l.all (fun q => decide (decode c q.1 = .ok q.2))
theorem dd {c : ByteArray} {l : List (Nat × Instr × Nat)} (h : am_dec c l = true) (k : Nat) {pc len : Nat} {i : Instr} (hk : l[k]? = some (pc, i, len)) : decode c pc = .ok (i, len) := by
  have := List.all_eq_true.mp h _ (List.mem_of_getElem? hk)
  simpa using this
/-- LineFlow.<init> ()V -/
def D0 : List (Nat × Instr × Nat) := [(0, .aload_n 0, 1), (1, .invokespecial 1, 3), (4, .aload_n 0, 1), (5, .sipush 400, 3), (8, .newarray .byte, 2), (10, .putfield 9, 3), (13, .aload_n 0, 1), (14, .bipush 60, 2), (16, .anewarray 13, 3), (19, .putfield 15, 3), (22, .aload_n 0, 1), (23, .new 19, 3), (26, .dup, 1), (27, .invokespecial 21, 3), (30, .putfield 22, 3), (33, .aload_n 0, 1), (34, .invokevirtual 26, 3), (37, .return_, 1)]
theorem D0_ok : am_dec prog_1_method_1_code D0 = true := by decide +kernel
abbrev I0 : am_I := (8, prog_1_method_1_code, 1, none, true)
/-- LineFlow$Layout.<init> ()V -/
def D1 : List (Nat × Instr × Nat) := [(0, .aload_n 0, 1), (1, .invokespecial 3, 3), (4, .aload_n 0, 1), (5, .new 9, 3), (8, .dup, 1), (9, .invokespecial 11, 3), (12, .putfield 12, 3), (15, .aload_n 0, 1), (16, .bipush 13, 2), (18, .anewarray 18, 3), (21, .putfield 20, 3), (24, .aload_n 0, 1), (25, .new 24, 3), (28, .dup, 1), (29, .invokespecial 26, 3), (32, .putfield 27, 3), (35, .iconst 0, 1), (36, .istore_n 1, 1), (37, .iload_n 1, 1), (38, .aload_n 0, 1), (39, .getfield 20, 3), (42, .arraylength, 1), (43, .if_icmp .ge 22, 3), (46, .aload_n 0, 1), (47, .getfield 20, 3), (50, .iload_n 1, 1), (51, .new 18, 3), (54, .dup, 1), (55, .invokespecial 31, 3), (58, .aastore, 1), (59, .iinc 1 1, 3), (62, .goto (-25), 3), (65, .return_, 1)]
theorem D1_ok : am_dec prog_5_method_1_code D1 = true := by decide +kernel
abbrev I1 : am_I := (3, prog_5_method_1_code, 2, none, true)
/-- java/util/ArrayList.<init> ()V -/
def D2 : List (Nat × Instr × Nat) := [(0, .aload_n 0, 1), (1, .invokespecial 1, 3), (4, .aload_n 0, 1), (5, .getstatic 39, 3), (8, .putfield 9, 3), (11, .return_, 1)]
theorem D2_ok : am_dec prog_20_method_2_code D2 = true := by decide +kernel
abbrev I2 : am_I := (10, prog_20_method_2_code, 1, none, true)
/-- java/util/AbstractList.<init> ()V -/
def D3 : List (Nat × Instr × Nat) := [(0, .aload_n 0, 1), (1, .invokespecial 1, 3), (4, .aload_n 0, 1), (5, .iconst 0, 1), (6, .putfield 7, 3), (9, .return_, 1)]
theorem D3_ok : am_dec prog_19_method_1_code D3 = true := by decide +kernel
abbrev I3 : am_I := (18, prog_19_method_1_code, 1, none, true)
/-- java/util/AbstractCollection.<init> ()V -/
def D4 : List (Nat × Instr × Nat) := [(0, .aload_n 0, 1), (1, .invokespecial 1, 3), (4, .return_, 1)]
theorem D4_ok : am_dec prog_18_method_1_code D4 = true := by decide +kernel
abbrev I4 : am_I := (19, prog_18_method_1_code, 1, none, true)
/-- LineFlow$Ruler.<init> ()V -/
def D5 : List (Nat × Instr × Nat) := [(0, .aload_n 0, 1), (1, .invokespecial 3, 3), (4, .return_, 1)]
theorem D5_ok : am_dec prog_9_method_1_code D5 = true := by decide +kernel
abbrev I5 : am_I := (6, prog_9_method_1_code, 1, none, true)
/-- LineFlow$Flow.<init> ()V -/
def D6 : List (Nat × Instr × Nat) := [(0, .aload_n 0, 1), (1, .invokespecial 1, 3), (4, .aload_n 0, 1), (5, .new 7, 3), (8, .dup, 1), (9, .invokespecial 9, 3), (12, .putfield 10, 3), (15, .aload_n 0, 1), (16, .new 16, 3), (19, .dup, 1), (20, .invokespecial 18, 3), (23, .putfield 19, 3), (26, .return_, 1)]
theorem D6_ok : am_dec prog_4_method_1_code D6 = true := by decide +kernel
abbrev I6 : am_I := (2, prog_4_method_1_code, 1, none, true)
/-- LineFlow$Floats.<init> ()V -/
def D7 : List (Nat × Instr × Nat) := [(0, .aload_n 0, 1), (1, .invokespecial 3, 3), (4, .return_, 1)]
theorem D7_ok : am_dec prog_3_method_1_code D7 = true := by decide +kernel
abbrev I7 : am_I := (1, prog_3_method_1_code, 1, none, true)
/-- LineFlow$Line.<init> ()V -/
def D8 : List (Nat × Instr × Nat) := [(0, .aload_n 0, 1), (1, .invokespecial 3, 3), (4, .return_, 1)]
theorem D8_ok : am_dec prog_6_method_1_code D8 = true := by decide +kernel
abbrev I8 : am_I := (4, prog_6_method_1_code, 1, none, true)
/-- LineFlow.plantRoot ()V -/
def D9 : List (Nat × Instr × Nat) := [(0, .iconst 0, 1), (1, .istore_n 1, 1), (2, .iload_n 1, 1), (3, .aload_n 0, 1), (4, .getfield 15, 3), (7, .arraylength, 1), (8, .if_icmp .ge 16, 3), (11, .aload_n 0, 1), (12, .getfield 15, 3), (15, .iload_n 1, 1), (16, .aconst_null, 1), (17, .aastore, 1), (18, .iinc 1 1, 3), (21, .goto (-19), 3), (24, .aload_n 0, 1), (25, .getfield 15, 3), (28, .iconst 0, 1), (29, .new 13, 3), (32, .dup, 1), (33, .iconst 0, 1), (34, .iconst 0, 1), (35, .aconst_null, 1), (36, .invokespecial 50, 3), (39, .aastore, 1), (40, .aload_n 0, 1), (41, .iconst 1, 1), (42, .putfield 44, 3), (45, .return_, 1)]
theorem D9_ok : am_dec prog_1_method_14_code D9 = true := by decide +kernel
abbrev I9 : am_I := (8, prog_1_method_14_code, 2, none, false)
/-- LineFlow$Node.<init> (IILLineFlow$Node;)V -/
def D10 : List (Nat × Instr × Nat) := [(0, .aload_n 0, 1), (1, .invokespecial 3, 3), (4, .aload_n 0, 1), (5, .bipush 9, 2), (7, .newarray .int, 2), (9, .dup, 1), (10, .iconst 0, 1), (11, .iconst 0, 1), (12, .iastore, 1), (13, .dup, 1), (14, .iconst 1, 1), (15, .iconst 0, 1), (16, .iastore, 1), (17, .dup, 1), (18, .iconst 2, 1), (19, .iconst (-1), 1), (20, .iastore, 1), (21, .dup, 1), (22, .iconst 3, 1), (23, .iconst (-1), 1), (24, .iastore, 1), (25, .dup, 1), (26, .iconst 4, 1), (27, .iconst 0, 1), (28, .iastore, 1), (29, .dup, 1), (30, .iconst 5, 1), (31, .iconst 0, 1), (32, .iastore, 1), (33, .dup, 1), (34, .bipush 6, 2), (36, .iconst 0, 1), (37, .iastore, 1), (38, .dup, 1), (39, .bipush 7, 2), (41, .iconst 0, 1), (42, .iastore, 1), (43, .dup, 1), (44, .bipush 8, 2), (46, .iconst 1, 1), (47, .iastore, 1), (48, .putfield 9, 3), (51, .aload_n 0, 1), (52, .getstatic 15, 3), (55, .putfield 19, 3), (58, .aload_n 0, 1), (59, .iconst 3, 1), (60, .putfield 22, 3), (63, .aload_n 0, 1), (64, .new 26, 3), (67, .dup, 1), (68, .invokespecial 28, 3), (71, .putfield 29, 3), (74, .aload_n 0, 1), (75, .iload_n 1, 1), (76, .putfield 33, 3), (79, .aload_n 0, 1), (80, .iload_n 2, 1), (81, .putfield 36, 3), (84, .aload_n 0, 1), (85, .aload_n 3, 1), (86, .putfield 39, 3), (89, .aload_n 0, 1), (90, .aload_n 3, 1), (91, .ifnonnull 7, 3), (94, .iconst 0, 1), (95, .goto 9, 3), (98, .aload_n 3, 1), (99, .getfield 43, 3), (102, .iconst 1, 1), (103, .iadd, 1), (104, .putfield 43, 3), (107, .aload_n 0, 1), (108, .getfield 9, 3), (111, .iconst 0, 1), (112, .iload_n 2, 1), (113, .ifCond .ne 7, 3), (116, .iconst 0, 1), (117, .goto 4, 3), (120, .iconst 1, 1), (121, .iastore, 1), (122, .return_, 1)]
theorem D10_ok : am_dec prog_8_method_1_code D10 = true := by decide +kernel
abbrev I10 : am_I := (5, prog_8_method_1_code, 4, none, true)
/-- LineFlow$Box.<init> ()V -/
def D11 : List (Nat × Instr × Nat) := [(0, .aload_n 0, 1), (1, .invokespecial 1, 3), (4, .return_, 1)]
theorem D11_ok : am_dec prog_2_method_1_code D11 = true := by decide +kernel
abbrev I11 : am_I := (0, prog_2_method_1_code, 1, none, true)
/-- LineFlow.feed (IIIII)I -/
def D12 : List (Nat × Instr × Nat) := [(0, .aload_n 0, 1), (1, .getfield 29, 3), (4, .bipush 20, 2), (6, .iadd, 1), (7, .sipush 400, 3), (10, .if_icmp .le 5, 3), (13, .iconst (-1), 1), (14, .ireturn, 1), (15, .aload_n 0, 1), (16, .iload_n 1, 1), (17, .invokevirtual 33, 3), (20, .aload_n 0, 1), (21, .iload_n 2, 1), (22, .invokevirtual 33, 3), (25, .aload_n 0, 1), (26, .iload_n 3, 1), (27, .invokevirtual 33, 3), (30, .aload_n 0, 1), (31, .iload 4, 2), (33, .invokevirtual 33, 3), (36, .aload_n 0, 1), (37, .iload 5, 2), (39, .invokevirtual 33, 3), (42, .aload_n 0, 1), (43, .getfield 29, 3), (46, .ireturn, 1)]
theorem D12_ok : am_dec prog_1_method_2_code D12 = true := by decide +kernel
abbrev I12 : am_I := (8, prog_1_method_2_code, 6, some FieldType.int, false)
/-- LineFlow.putOnTape (I)V -/
def D13 : List (Nat × Instr × Nat) := [(0, .bipush 24, 2), (2, .istore_n 2, 1), (3, .iload_n 2, 1), (4, .ifCond .lt 44, 3), (7, .aload_n 0, 1), (8, .getfield 29, 3), (11, .aload_n 0, 1), (12, .getfield 9, 3), (15, .arraylength, 1), (16, .if_icmp .ge 32, 3), (19, .aload_n 0, 1), (20, .getfield 9, 3), (23, .aload_n 0, 1), (24, .getfield 29, 3), (27, .iload_n 1, 1), (28, .iload_n 2, 1), (29, .iushr, 1), (30, .i2b, 1), (31, .bastore, 1), (32, .aload_n 0, 1), (33, .dup, 1), (34, .getfield 29, 3), (37, .iconst 1, 1), (38, .iadd, 1), (39, .putfield 29, 3), (42, .iinc 2 (-8), 3), (45, .goto (-42), 3), (48, .return_, 1)]
theorem D13_ok : am_dec prog_1_method_15_code D13 = true := by decide +kernel
abbrev I13 : am_I := (8, prog_1_method_15_code, 3, none, false)
/-- LineFlow.end (I)I -/
def D14 : List (Nat × Instr × Nat) := [(0, .iload_n 1, 1), (1, .ifCond .lt 11, 3), (4, .iload_n 1, 1), (5, .aload_n 0, 1), (6, .getfield 29, 3), (9, .if_icmp .le 5, 3), (12, .iconst (-1), 1), (13, .ireturn, 1), (14, .aload_n 0, 1), (15, .iload_n 1, 1), (16, .putfield 29, 3), (19, .iload_n 1, 1), (20, .ireturn, 1)]
theorem D14_ok : am_dec prog_1_method_3_code D14 = true := by decide +kernel
abbrev I14 : am_I := (8, prog_1_method_3_code, 2, some FieldType.int, false)
/-- LineFlow.clear ()V -/
def D15 : List (Nat × Instr × Nat) := [(0, .aload_n 0, 1), (1, .invokevirtual 26, 3), (4, .aload_n 0, 1), (5, .getfield 22, 3), (8, .invokevirtual 37, 3), (11, .return_, 1)]
theorem D15_ok : am_dec prog_1_method_4_code D15 = true := by decide +kernel
abbrev I15 : am_I := (8, prog_1_method_4_code, 1, none, false)
/-- LineFlow$Layout.forgetWords ()V -/
def D16 : List (Nat × Instr × Nat) := [(0, .aload_n 0, 1), (1, .iconst 0, 1), (2, .putfield 32, 3), (5, .return_, 1)]
theorem D16_ok : am_dec prog_5_method_2_code D16 = true := by decide +kernel
abbrev I16 : am_I := (3, prog_5_method_2_code, 1, none, false)
/-- LineFlow.node (II)I -/
def D17 : List (Nat × Instr × Nat) := [(0, .aload_n 0, 1), (1, .iload_n 1, 1), (2, .invokevirtual 40, 3), (5, .astore_n 3, 1), (6, .aload_n 3, 1), (7, .ifnull 12, 3), (10, .iload_n 2, 1), (11, .ifCond .lt 8, 3), (14, .iload_n 2, 1), (15, .iconst 3, 1), (16, .if_icmp .le 5, 3), (19, .iconst (-1), 1), (20, .ireturn, 1), (21, .aload_n 0, 1), (22, .getfield 44, 3), (25, .aload_n 0, 1), (26, .getfield 15, 3), (29, .arraylength, 1), (30, .if_icmp .ge 12, 3), (33, .aload_n 3, 1), (34, .getfield 47, 3), (37, .bipush 12, 2), (39, .if_icmp .lt 5, 3), (42, .iconst (-1), 1), (43, .ireturn, 1), (44, .aload_n 0, 1), (45, .getfield 44, 3), (48, .istore 4, 2), (50, .aload_n 0, 1), (51, .getfield 15, 3), (54, .iload 4, 2), (56, .new 13, 3), (59, .dup, 1), (60, .iload 4, 2), (62, .iload_n 2, 1), (63, .aload_n 3, 1), (64, .invokespecial 50, 3), (67, .aastore, 1), (68, .aload_n 3, 1), (69, .aload_n 0, 1), (70, .getfield 15, 3), (73, .iload 4, 2), (75, .aaload, 1), (76, .invokevirtual 53, 3), (79, .aload_n 0, 1), (80, .dup, 1), (81, .getfield 44, 3), (84, .iconst 1, 1), (85, .iadd, 1), (86, .putfield 44, 3), (89, .iload 4, 2), (91, .ireturn, 1)]
theorem D17_ok : am_dec prog_1_method_5_code D17 = true := by decide +kernel
abbrev I17 : am_I := (8, prog_1_method_5_code, 5, some FieldType.int, false)
/-- LineFlow.elementAt (I)LLineFlow$Node; -/
def D18 : List (Nat × Instr × Nat) := [(0, .aload_n 0, 1), (1, .iload_n 1, 1), (2, .invokevirtual 57, 3), (5, .astore_n 2, 1), (6, .aload_n 2, 1), (7, .ifnull 14, 3), (10, .aload_n 2, 1), (11, .getfield 60, 3), (14, .ifCond .ne 7, 3), (17, .aload_n 2, 1), (18, .goto 4, 3), (21, .aconst_null, 1), (22, .areturn, 1)]
theorem D18_ok : am_dec prog_1_method_17_code D18 = true := by decide +kernel
abbrev I18 : am_I := (8, prog_1_method_17_code, 3, some (FieldType.object "LineFlow$Node"), false)
/-- LineFlow.nodeAt (I)LLineFlow$Node; -/
def D19 : List (Nat × Instr × Nat) := [(0, .iload_n 1, 1), (1, .ifCond .lt 29, 3), (4, .iload_n 1, 1), (5, .aload_n 0, 1), (6, .getfield 44, 3), (9, .if_icmp .ge 21, 3), (12, .iload_n 1, 1), (13, .aload_n 0, 1), (14, .getfield 15, 3), (17, .arraylength, 1), (18, .if_icmp .ge 12, 3), (21, .aload_n 0, 1), (22, .getfield 15, 3), (25, .iload_n 1, 1), (26, .aaload, 1), (27, .goto 4, 3), (30, .aconst_null, 1), (31, .areturn, 1)]
theorem D19_ok : am_dec prog_1_method_16_code D19 = true := by decide +kernel
abbrev I19 : am_I := (8, prog_1_method_16_code, 2, some (FieldType.object "LineFlow$Node"), false)
/-- LineFlow$Node.append (LLineFlow$Node;)V -/
def D20 : List (Nat × Instr × Nat) := [(0, .aload_n 0, 1), (1, .getfield 46, 3), (4, .ifnonnull 11, 3), (7, .aload_n 0, 1), (8, .aload_n 1, 1), (9, .putfield 49, 3), (12, .goto 11, 3), (15, .aload_n 0, 1), (16, .getfield 46, 3), (19, .aload_n 1, 1), (20, .putfield 52, 3), (23, .aload_n 0, 1), (24, .aload_n 1, 1), (25, .putfield 46, 3), (28, .return_, 1)]
theorem D20_ok : am_dec prog_8_method_2_code D20 = true := by decide +kernel
abbrev I20 : am_I := (5, prog_8_method_2_code, 2, none, false)
/-- LineFlow.text (I)I -/
def D21 : List (Nat × Instr × Nat) := [(0, .aload_n 0, 1), (1, .iload_n 1, 1), (2, .invokevirtual 57, 3), (5, .astore_n 2, 1), (6, .aload_n 2, 1), (7, .ifnull 20, 3), (10, .aload_n 2, 1), (11, .getfield 60, 3), (14, .iconst 1, 1), (15, .if_icmp .ne 12, 3), (18, .aload_n 0, 1), (19, .getfield 29, 3), (22, .bipush 120, 2), (24, .if_icmp .le 5, 3), (27, .iconst (-1), 1), (28, .ireturn, 1), (29, .aload_n 2, 1), (30, .aload_n 0, 1), (31, .getfield 9, 3), (34, .aload_n 0, 1), (35, .getfield 29, 3), (38, .invokestatic 63, 3), (41, .putfield 69, 3), (44, .aload_n 0, 1), (45, .iconst 0, 1), (46, .putfield 29, 3), (49, .aload_n 2, 1), (50, .getfield 69, 3), (53, .arraylength, 1), (54, .ireturn, 1)]
theorem D21_ok : am_dec prog_1_method_6_code D21 = true := by decide +kernel
abbrev I21 : am_I := (8, prog_1_method_6_code, 3, some FieldType.int, false)
/-- java/util/Arrays.copyOf ([BI)[B -/
def D22 : List (Nat × Instr × Nat) := [(0, .iload_n 1, 1), (1, .aload_n 0, 1), (2, .arraylength, 1), (3, .if_icmp .ne 11, 3), (6, .aload_n 0, 1), (7, .invokevirtual 310, 3), (10, .checkcast 311, 3), (13, .areturn, 1), (14, .iload_n 1, 1), (15, .newarray .byte, 2), (17, .astore_n 2, 1), (18, .aload_n 0, 1), (19, .iconst 0, 1), (20, .aload_n 2, 1), (21, .iconst 0, 1), (22, .aload_n 0, 1), (23, .arraylength, 1), (24, .iload_n 1, 1), (25, .invokestatic 304, 3), (28, .invokestatic 150, 3), (31, .aload_n 2, 1), (32, .areturn, 1)]
theorem D22_ok : am_dec prog_21_method_121_code D22 = true := by decide +kernel
abbrev I22 : am_I := (13, prog_21_method_121_code, 3, some (FieldType.array FieldType.byte), false)
/-- LineFlow.set (III)I -/
def D23 : List (Nat × Instr × Nat) := [(0, .aload_n 0, 1), (1, .iload_n 1, 1), (2, .invokevirtual 57, 3), (5, .astore 4, 2), (7, .aload 4, 2), (9, .ifnull 27, 3), (12, .aload 4, 2), (14, .iload_n 2, 1), (15, .iload_n 3, 1), (16, .invokestatic 72, 3), (19, .ifCond .eq 17, 3), (22, .iload_n 2, 1), (23, .ifCond .lt 13, 3), (26, .iload_n 2, 1), (27, .aload 4, 2), (29, .getfield 76, 3), (32, .arraylength, 1), (33, .if_icmp .lt 6, 3), (36, .bipush (-2), 2), (38, .ireturn, 1), (39, .aload 4, 2), (41, .getfield 76, 3), (44, .iload_n 2, 1), (45, .iaload, 1), (46, .istore 5, 2), (48, .aload 4, 2), (50, .getfield 76, 3), (53, .iload_n 2, 1), (54, .iload_n 3, 1), (55, .iastore, 1), (56, .iload 5, 2), (58, .ireturn, 1)]
theorem D23_ok : am_dec prog_1_method_7_code D23 = true := by decide +kernel
abbrev I23 : am_I := (8, prog_1_method_7_code, 6, some FieldType.int, false)
/-- LineFlow.mayHave (LLineFlow$Node;II)Z -/
def D24 : List (Nat × Instr × Nat) := [(0, .iload_n 1, 1), (1, .tableswitch 160 0 8 #[51, 57, 83, 113, 122, 130, 138, 146, 153], 51), (52, .aload_n 0, 1), (53, .iload_n 2, 1), (54, .invokestatic 149, 3), (57, .ireturn, 1), (58, .iload_n 2, 1), (59, .ifCond .eq 19, 3), (62, .aload_n 0, 1), (63, .invokestatic 153, 3), (66, .ifCond .eq 16, 3), (69, .iload_n 2, 1), (70, .iconst 1, 1), (71, .iconst 2, 1), (72, .invokestatic 156, 3), (75, .ifCond .eq 7, 3), (78, .iconst 1, 1), (79, .goto 4, 3), (82, .iconst 0, 1), (83, .ireturn, 1), (84, .iload_n 2, 1), (85, .iconst (-1), 1), (86, .sipush 400, 3), (89, .invokestatic 156, 3), (92, .ifCond .ne 16, 3), (95, .iload_n 2, 1), (96, .sipush 1000, 3), (99, .sipush 1100, 3), (102, .invokestatic 156, 3), (105, .ifCond .eq 7, 3), (108, .iconst 1, 1), (109, .goto 4, 3), (112, .iconst 0, 1), (113, .ireturn, 1), (114, .iload_n 2, 1), (115, .iconst (-1), 1), (116, .sipush 400, 3), (119, .invokestatic 156, 3), (122, .ireturn, 1), (123, .iload_n 2, 1), (124, .iconst 0, 1), (125, .bipush 50, 2), (127, .invokestatic 156, 3), (130, .ireturn, 1), (131, .iload_n 2, 1), (132, .iconst 0, 1), (133, .bipush 9, 2), (135, .invokestatic 156, 3), (138, .ireturn, 1), (139, .iload_n 2, 1), (140, .iconst 0, 1), (141, .bipush 50, 2), (143, .invokestatic 156, 3), (146, .ireturn, 1), (147, .iload_n 2, 1), (148, .iconst 0, 1), (149, .iconst 2, 1), (150, .invokestatic 156, 3), (153, .ireturn, 1), (154, .iload_n 2, 1), (155, .iconst 1, 1), (156, .iconst 4, 1), (157, .invokestatic 156, 3), (160, .ireturn, 1), (161, .iconst 0, 1), (162, .ireturn, 1)]
theorem D24_ok : am_dec prog_1_method_18_code D24 = true := by decide +kernel
abbrev I24 : am_I := (8, prog_1_method_18_code, 3, some FieldType.boolean, false)
/-- LineFlow.mayDisplay (LLineFlow$Node;I)Z -/
def D25 : List (Nat × Instr × Nat) := [(0, .aload_n 0, 1), (1, .getfield 60, 3), (4, .iconst 3, 1), (5, .if_icmp .ne 19, 3), (8, .iload_n 1, 1), (9, .iconst 1, 1), (10, .if_icmp .eq 8, 3), (13, .iload_n 1, 1), (14, .iconst 3, 1), (15, .if_icmp .ne 7, 3), (18, .iconst 1, 1), (19, .goto 4, 3), (22, .iconst 0, 1), (23, .ireturn, 1), (24, .aload_n 0, 1), (25, .getfield 60, 3), (28, .ifCond .eq 14, 3), (31, .iload_n 1, 1), (32, .iconst 1, 1), (33, .if_icmp .ne 7, 3), (36, .iconst 1, 1), (37, .goto 4, 3), (40, .iconst 0, 1), (41, .ireturn, 1), (42, .aload_n 0, 1), (43, .getfield 135, 3), (46, .ifnonnull 18, 3), (49, .iload_n 1, 1), (50, .ifCond .eq 8, 3), (53, .iload_n 1, 1), (54, .iconst 2, 1), (55, .if_icmp .ne 7, 3), (58, .iconst 1, 1), (59, .goto 4, 3), (62, .iconst 0, 1), (63, .ireturn, 1), (64, .iload_n 1, 1), (65, .iconst 0, 1), (66, .iconst 3, 1), (67, .invokestatic 156, 3), (70, .ireturn, 1)]
theorem D25_ok : am_dec prog_1_method_19_code D25 = true := by decide +kernel
abbrev I25 : am_I := (8, prog_1_method_19_code, 2, some FieldType.boolean, false)
/-- LineFlow.within (III)Z -/
def D26 : List (Nat × Instr × Nat) := [(0, .iload_n 0, 1), (1, .iload_n 1, 1), (2, .if_icmp .lt 12, 3), (5, .iload_n 0, 1), (6, .iload_n 2, 1), (7, .if_icmp .gt 7, 3), (10, .iconst 1, 1), (11, .goto 4, 3), (14, .iconst 0, 1), (15, .ireturn, 1)]
theorem D26_ok : am_dec prog_1_method_21_code D26 = true := by decide +kernel
abbrev I26 : am_I := (8, prog_1_method_21_code, 3, some FieldType.boolean, false)
/-- LineFlow.mayFloat (LLineFlow$Node;)Z -/
def D27 : List (Nat × Instr × Nat) := [(0, .aload_n 0, 1), (1, .getfield 60, 3), (4, .ifCond .ne 14, 3), (7, .aload_n 0, 1), (8, .getfield 135, 3), (11, .ifnull 7, 3), (14, .iconst 1, 1), (15, .goto 4, 3), (18, .iconst 0, 1), (19, .ireturn, 1)]
theorem D27_ok : am_dec prog_1_method_20_code D27 = true := by decide +kernel
abbrev I27 : am_I := (8, prog_1_method_20_code, 1, some FieldType.boolean, false)
/-- LineFlow.lay (I)I -/
def D28 : List (Nat × Instr × Nat) := [(0, .aload_n 0, 1), (1, .iconst 0, 1), (2, .invokevirtual 57, 3), (5, .astore_n 2, 1), (6, .aload_n 2, 1), (7, .ifnull 16, 3), (10, .iload_n 1, 1), (11, .bipush 20, 2), (13, .if_icmp .lt 10, 3), (16, .iload_n 1, 1), (17, .sipush 400, 3), (20, .if_icmp .le 5, 3), (23, .iconst (-1), 1), (24, .ireturn, 1), (25, .aload_n 0, 1), (26, .getfield 22, 3), (29, .aload_n 2, 1), (30, .iload_n 1, 1), (31, .invokevirtual 80, 3), (34, .aload_n 2, 1), (35, .getfield 84, 3), (38, .getfield 88, 3), (41, .ireturn, 1)]
theorem D28_ok : am_dec prog_1_method_8_code D28 = true := by decide +kernel
abbrev I28 : am_I := (8, prog_1_method_8_code, 3, some FieldType.int, false)
/-- LineFlow$Layout.layRoot (LLineFlow$Node;I)V -/
def D29 : List (Nat × Instr × Nat) := [(0, .aload_n 0, 1), (1, .iconst 0, 1), (2, .putfield 32, 3), (5, .aload_n 0, 1), (6, .aload_n 1, 1), (7, .aload_n 1, 1), (8, .getfield 46, 3), (11, .iconst 0, 1), (12, .iaload, 1), (13, .invokevirtual 52, 3), (16, .aload_n 0, 1), (17, .aload_n 1, 1), (18, .iconst 0, 1), (19, .iconst 0, 1), (20, .iload_n 2, 1), (21, .invokevirtual 56, 3), (24, .return_, 1)]
theorem D29_ok : am_dec prog_5_method_4_code D29 = true := by decide +kernel
abbrev I29 : am_I := (3, prog_5_method_4_code, 3, none, false)
/-- LineFlow$Layout.prepare (LLineFlow$Node;I)V -/
def D30 : List (Nat × Instr × Nat) := [(0, .aload_n 1, 1), (1, .iload_n 2, 1), (2, .putfield 60, 3), (5, .aload_n 1, 1), (6, .iconst 0, 1), (7, .putfield 63, 3), (10, .aload_n 1, 1), (11, .aload_n 0, 1), (12, .getfield 32, 3), (15, .putfield 67, 3), (18, .aload_n 1, 1), (19, .getfield 70, 3), (22, .iconst 1, 1), (23, .if_icmp .ne 13, 3), (26, .iload_n 2, 1), (27, .iconst 3, 1), (28, .if_icmp .eq 8, 3), (31, .aload_n 0, 1), (32, .aload_n 1, 1), (33, .invokevirtual 73, 3), (36, .aload_n 1, 1), (37, .aload_n 0, 1), (38, .getfield 32, 3), (41, .aload_n 1, 1), (42, .getfield 67, 3), (45, .isub, 1), (46, .putfield 77, 3), (49, .aload_n 1, 1), (50, .getfield 78, 3), (53, .astore_n 3, 1), (54, .aload_n 3, 1), (55, .ifnull 53, 3), (58, .aload_n 3, 1), (59, .iload_n 2, 1), (60, .invokestatic 82, 3), (63, .istore 4, 2), (65, .aload_n 3, 1), (66, .iload_n 2, 1), (67, .ifCond .ne 22, 3), (70, .iload 4, 2), (72, .iconst 3, 1), (73, .if_icmp .eq 16, 3), (76, .aload_n 3, 1), (77, .getfield 46, 3), (80, .iconst 1, 1), (81, .iaload, 1), (82, .ifCond .eq 7, 3), (85, .iconst 1, 1), (86, .goto 4, 3), (89, .iconst 0, 1), (90, .putfield 86, 3), (93, .aload_n 0, 1), (94, .aload_n 3, 1), (95, .iload 4, 2), (97, .invokevirtual 52, 3), (100, .aload_n 3, 1), (101, .getfield 89, 3), (104, .astore_n 3, 1), (105, .goto (-51), 3), (108, .return_, 1)]
theorem D30_ok : am_dec prog_5_method_5_code D30 = true := by decide +kernel
abbrev I30 : am_I := (3, prog_5_method_5_code, 5, none, false)
/-- LineFlow$Layout.listWords (LLineFlow$Node;)V -/
def D31 : List (Nat × Instr × Nat) := [(0, .iconst 0, 1), (1, .istore_n 2, 1), (2, .iconst 0, 1), (3, .istore_n 3, 1), (4, .iconst 0, 1), (5, .istore 4, 2), (7, .iload 4, 2), (9, .aload_n 1, 1), (10, .getfield 92, 3), (13, .arraylength, 1), (14, .if_icmp .ge 54, 3), (17, .aload_n 1, 1), (18, .getfield 92, 3), (21, .iload 4, 2), (23, .baload, 1), (24, .invokestatic 96, 3), (27, .ifCond .ne 19, 3), (30, .iload_n 3, 1), (31, .aload_n 1, 1), (32, .getfield 92, 3), (35, .iload 4, 2), (37, .baload, 1), (38, .invokestatic 100, 3), (41, .iadd, 1), (42, .istore_n 3, 1), (43, .goto 19, 3), (46, .aload_n 0, 1), (47, .aload_n 1, 1), (48, .iload_n 2, 1), (49, .iload 4, 2), (51, .iload_n 3, 1), (52, .invokevirtual 104, 3), (55, .iload 4, 2), (57, .iconst 1, 1), (58, .iadd, 1), (59, .istore_n 2, 1), (60, .iconst 0, 1), (61, .istore_n 3, 1), (62, .iinc 4 1, 3), (65, .goto (-58), 3), (68, .aload_n 0, 1), (69, .aload_n 1, 1), (70, .iload_n 2, 1), (71, .aload_n 1, 1), (72, .getfield 92, 3), (75, .arraylength, 1), (76, .iload_n 3, 1), (77, .invokevirtual 104, 3), (80, .return_, 1)]
theorem D31_ok : am_dec prog_5_method_7_code D31 = true := by decide +kernel
abbrev I31 : am_I := (3, prog_5_method_7_code, 5, none, false)
/-- LineFlow$Ruler.isBlank (B)Z -/
def D32 : List (Nat × Instr × Nat) := [(0, .iload_n 0, 1), (1, .bipush 10, 2), (3, .if_icmp .eq 9, 3), (6, .iload_n 0, 1), (7, .bipush 32, 2), (9, .if_icmp .ne 7, 3), (12, .iconst 1, 1), (13, .goto 4, 3), (16, .iconst 0, 1), (17, .ireturn, 1)]
theorem D32_ok : am_dec prog_9_method_2_code D32 = true := by decide +kernel
abbrev I32 : am_I := (6, prog_9_method_2_code, 1, some FieldType.boolean, false)
/-- LineFlow$Ruler.glyphWidth (B)I -/
def D33 : List (Nat × Instr × Nat) := [(0, .iload_n 0, 1), (1, .lookupswitch 135 #[(33, 131), (39, 131), (44, 131), (46, 131), (58, 131), (59, 131), (64, 133), (77, 133), (87, 133), (105, 131), (106, 131), (108, 131), (109, 133), (119, 133), (124, 131)], 131), (132, .iconst 2, 1), (133, .ireturn, 1), (134, .iconst 5, 1), (135, .ireturn, 1), (136, .iconst 4, 1), (137, .ireturn, 1)]
theorem D33_ok : am_dec prog_9_method_3_code D33 = true := by decide +kernel
abbrev I33 : am_I := (6, prog_9_method_3_code, 1, some FieldType.int, false)
/-- LineFlow$Layout.listWord (LLineFlow$Node;III)V -/
def D34 : List (Nat × Instr × Nat) := [(0, .iload_n 2, 1), (1, .iload_n 3, 1), (2, .if_icmp .lt 4, 3), (5, .return_, 1), (6, .aload_n 0, 1), (7, .getfield 32, 3), (10, .aload_n 0, 1), (11, .getfield 12, 3), (14, .invokevirtual 36, 3), (17, .if_icmp .ne 18, 3), (20, .aload_n 0, 1), (21, .getfield 12, 3), (24, .new 44, 3), (27, .dup, 1), (28, .invokespecial 107, 3), (31, .invokevirtual 108, 3), (34, .pop, 1), (35, .aload_n 0, 1), (36, .dup, 1), (37, .getfield 32, 3), (40, .iconst 1, 1), (41, .iadd, 1), (42, .putfield 32, 3), (45, .aload_n 0, 1), (46, .aload_n 0, 1), (47, .getfield 32, 3), (50, .iconst 1, 1), (51, .isub, 1), (52, .invokevirtual 112, 3), (55, .astore 5, 2), (57, .aload 5, 2), (59, .ifnonnull 4, 3), (62, .return_, 1), (63, .aload 5, 2), (65, .aload_n 1, 1), (66, .getfield 116, 3), (69, .putfield 119, 3), (72, .aload 5, 2), (74, .iload_n 2, 1), (75, .putfield 122, 3), (78, .aload 5, 2), (80, .iload_n 3, 1), (81, .iload_n 2, 1), (82, .isub, 1), (83, .putfield 125, 3), (86, .aload 5, 2), (88, .getfield 128, 3), (91, .iload 4, 2), (93, .aload_n 1, 1), (94, .getfield 46, 3), (97, .bipush 8, 2), (99, .iaload, 1), (100, .imul, 1), (101, .putfield 132, 3), (104, .aload 5, 2), (106, .getfield 128, 3), (109, .bipush 7, 2), (111, .aload_n 1, 1), (112, .getfield 46, 3), (115, .bipush 8, 2), (117, .iaload, 1), (118, .imul, 1), (119, .putfield 137, 3), (122, .return_, 1)]
theorem D34_ok : am_dec prog_5_method_8_code D34 = true := by decide +kernel
abbrev I34 : am_I := (3, prog_5_method_8_code, 6, none, false)
/-- java/util/ArrayList.size ()I -/
def D35 : List (Nat × Instr × Nat) := [(0, .aload_n 0, 1), (1, .getfield 48, 3), (4, .ireturn, 1)]
theorem D35_ok : am_dec prog_20_method_8_code D35 = true := by decide +kernel
abbrev I35 : am_I := (10, prog_20_method_8_code, 1, some FieldType.int, false)
/-- LineFlow$Word.<init> ()V -/
def D36 : List (Nat × Instr × Nat) := [(0, .aload_n 0, 1), (1, .invokespecial 1, 3), (4, .aload_n 0, 1), (5, .new 7, 3), (8, .dup, 1), (9, .invokespecial 9, 3), (12, .putfield 10, 3), (15, .return_, 1)]
theorem D36_ok : am_dec prog_10_method_1_code D36 = true := by decide +kernel
abbrev I36 : am_I := (7, prog_10_method_1_code, 1, none, true)
/-- java/util/ArrayList.add (Ljava/lang/Object;)Z -/
def D37 : List (Nat × Instr × Nat) := [(0, .aload_n 0, 1), (1, .dup, 1), (2, .getfield 63, 3), (5, .iconst 1, 1), (6, .iadd, 1), (7, .putfield 63, 3), (10, .aload_n 0, 1), (11, .aload_n 1, 1), (12, .aload_n 0, 1), (13, .getfield 9, 3), (16, .aload_n 0, 1), (17, .getfield 48, 3), (20, .invokevirtual 131, 3), (23, .iconst 1, 1), (24, .ireturn, 1)]
theorem D37_ok : am_dec prog_20_method_25_code D37 = true := by decide +kernel
abbrev I37 : am_I := (10, prog_20_method_25_code, 2, some FieldType.boolean, false)
/-- java/util/ArrayList.add (Ljava/lang/Object;[Ljava/lang/Object;I)V -/
def D38 : List (Nat × Instr × Nat) := [(0, .iload_n 3, 1), (1, .aload_n 2, 1), (2, .arraylength, 1), (3, .if_icmp .ne 8, 3), (6, .aload_n 0, 1), (7, .invokevirtual 129, 3), (10, .astore_n 2, 1), (11, .aload_n 2, 1), (12, .iload_n 3, 1), (13, .aload_n 1, 1), (14, .aastore, 1), (15, .aload_n 0, 1), (16, .iload_n 3, 1), (17, .iconst 1, 1), (18, .iadd, 1), (19, .putfield 48, 3), (22, .return_, 1)]
theorem D38_ok : am_dec prog_20_method_24_code D38 = true := by decide +kernel
abbrev I38 : am_I := (10, prog_20_method_24_code, 4, none, false)
/-- java/util/ArrayList.grow ()[Ljava/lang/Object; -/
def D39 : List (Nat × Instr × Nat) := [(0, .aload_n 0, 1), (1, .aload_n 0, 1), (2, .getfield 48, 3), (5, .iconst 1, 1), (6, .iadd, 1), (7, .invokevirtual 69, 3), (10, .areturn, 1)]
theorem D39_ok : am_dec prog_20_method_7_code D39 = true := by decide +kernel
abbrev I39 : am_I := (10, prog_20_method_7_code, 1, some (FieldType.array (FieldType.object "java/lang/Object")), false)
/-- java/util/ArrayList.grow (I)[Ljava/lang/Object; -/
def D40 : List (Nat × Instr × Nat) := [(0, .aload_n 0, 1), (1, .getfield 9, 3), (4, .arraylength, 1), (5, .istore_n 2, 1), (6, .iload_n 2, 1), (7, .ifCond .gt 13, 3), (10, .aload_n 0, 1), (11, .getfield 9, 3), (14, .getstatic 39, 3), (17, .if_acmp .eq 28, 3), (20, .iload_n 2, 1), (21, .iload_n 1, 1), (22, .iload_n 2, 1), (23, .isub, 1), (24, .iload_n 2, 1), (25, .iconst 1, 1), (26, .ishr, 1), (27, .invokestatic 73, 3), (30, .istore_n 3, 1), (31, .aload_n 0, 1), (32, .aload_n 0, 1), (33, .getfield 9, 3), (36, .iload_n 3, 1), (37, .invokestatic 66, 3), (40, .dup_x1, 1), (41, .putfield 9, 3), (44, .areturn, 1), (45, .aload_n 0, 1), (46, .bipush 10, 2), (48, .iload_n 1, 1), (49, .invokestatic 79, 3), (52, .anewarray 7, 3), (55, .dup_x1, 1), (56, .putfield 9, 3), (59, .areturn, 1)]
theorem D40_ok : am_dec prog_20_method_6_code D40 = true := by decide +kernel
abbrev I40 : am_I := (10, prog_20_method_6_code, 4, some (FieldType.array (FieldType.object "java/lang/Object")), false)
/-- jdk/internal/util/ArraysSupport.newLength (III)I -/
def D41 : List (Nat × Instr × Nat) := [(0, .iload_n 0, 1), (1, .iload_n 1, 1), (2, .iload_n 2, 1), (3, .invokestatic 194, 3), (6, .iadd, 1), (7, .istore_n 3, 1), (8, .iconst 0, 1), (9, .iload_n 3, 1), (10, .if_icmp .ge 11, 3), (13, .iload_n 3, 1), (14, .ldc 200, 2), (16, .if_icmp .gt 5, 3), (19, .iload_n 3, 1), (20, .ireturn, 1), (21, .iload_n 0, 1), (22, .iload_n 1, 1), (23, .invokestatic 201, 3), (26, .ireturn, 1)]
theorem D41_ok : am_dec prog_27_method_27_code D41 = true := by decide +kernel
abbrev I41 : am_I := (15, prog_27_method_27_code, 4, some FieldType.int, false)
/-- jdk/internal/util/ArraysSupport.hugeLength (II)I -/
def D42 : List (Nat × Instr × Nat) := [(0, .iload_n 0, 1), (1, .iload_n 1, 1), (2, .iadd, 1), (3, .istore_n 2, 1), (4, .iload_n 2, 1), (5, .ifCond .ge 44, 3), (8, .new 204, 3), (11, .dup, 1), (12, .new 89, 3), (15, .dup, 1), (16, .invokespecial 91, 3), (19, .ldc 206, 2), (21, .invokevirtual 94, 3), (24, .iload_n 0, 1), (25, .invokevirtual 98, 3), (28, .ldc 208, 2), (30, .invokevirtual 94, 3), (33, .iload_n 1, 1), (34, .invokevirtual 98, 3), (37, .ldc 210, 2), (39, .invokevirtual 94, 3), (42, .invokevirtual 101, 3), (45, .invokespecial 212, 3), (48, .athrow, 1), (49, .iload_n 2, 1), (50, .ldc 200, 2), (52, .if_icmp .gt 6, 3), (55, .ldc 200, 2), (57, .ireturn, 1), (58, .iload_n 2, 1), (59, .ireturn, 1)]
theorem D42_ok : am_dec prog_27_method_28_code D42 = true := by decide +kernel
abbrev I42 : am_I := (15, prog_27_method_28_code, 3, some FieldType.int, false)
/-- java/util/Arrays.copyOf ([Ljava/lang/Object;I)[Ljava/lang/Object; -/
def D43 : List (Nat × Instr × Nat) := [(0, .aload_n 0, 1), (1, .iload_n 1, 1), (2, .aload_n 0, 1), (3, .invokevirtual 86, 3), (6, .invokestatic 300, 3), (9, .areturn, 1)]
theorem D43_ok : am_dec prog_21_method_119_code D43 = true := by decide +kernel
abbrev I43 : am_I := (13, prog_21_method_119_code, 2, some (FieldType.array (FieldType.object "java/lang/Object")), false)
/-- java/util/Arrays.copyOf ([Ljava/lang/Object;ILjava/lang/Class;)[Ljava/lang/Object; -/
def D44 : List (Nat × Instr × Nat) := [(0, .aload_n 2, 1), (1, .ldc 110, 2), (3, .if_acmp .ne 10, 3), (6, .iload_n 1, 1), (7, .anewarray 2, 3), (10, .goto 14, 3), (13, .aload_n 2, 1), (14, .invokevirtual 90, 3), (17, .iload_n 1, 1), (18, .invokestatic 95, 3), (21, .checkcast 110, 3), (24, .astore_n 3, 1), (25, .aload_n 0, 1), (26, .iconst 0, 1), (27, .aload_n 3, 1), (28, .iconst 0, 1), (29, .aload_n 0, 1), (30, .arraylength, 1), (31, .iload_n 1, 1), (32, .invokestatic 304, 3), (35, .invokestatic 150, 3), (38, .aload_n 3, 1), (39, .areturn, 1)]
theorem D44_ok : am_dec prog_21_method_120_code D44 = true := by decide +kernel
abbrev I44 : am_I := (13, prog_21_method_120_code, 4, some (FieldType.array (FieldType.object "java/lang/Object")), false)
/-- LineFlow$Layout.wordAt (I)LLineFlow$Word; -/
def D45 : List (Nat × Instr × Nat) := [(0, .iload_n 1, 1), (1, .ifCond .lt 36, 3), (4, .iload_n 1, 1), (5, .aload_n 0, 1), (6, .getfield 32, 3), (9, .if_icmp .ge 28, 3), (12, .iload_n 1, 1), (13, .aload_n 0, 1), (14, .getfield 12, 3), (17, .invokevirtual 36, 3), (20, .if_icmp .ge 17, 3), (23, .aload_n 0, 1), (24, .getfield 12, 3), (27, .iload_n 1, 1), (28, .invokevirtual 40, 3), (31, .checkcast 44, 3), (34, .goto 4, 3), (37, .aconst_null, 1), (38, .areturn, 1)]
theorem D45_ok : am_dec prog_5_method_3_code D45 = true := by decide +kernel
abbrev I45 : am_I := (3, prog_5_method_3_code, 2, some (FieldType.object "LineFlow$Word"), false)
/-- java/util/ArrayList.get (I)Ljava/lang/Object; -/
def D46 : List (Nat × Instr × Nat) := [(0, .iload_n 1, 1), (1, .aload_n 0, 1), (2, .getfield 48, 3), (5, .invokestatic 118, 3), (8, .pop, 1), (9, .aload_n 0, 1), (10, .iload_n 1, 1), (11, .invokevirtual 123, 3), (14, .areturn, 1)]
theorem D46_ok : am_dec prog_20_method_20_code D46 = true := by decide +kernel
abbrev I46 : am_I := (10, prog_20_method_20_code, 2, some (FieldType.object "java/lang/Object"), false)
/-- java/util/Objects.checkIndex (II)I -/
def D47 : List (Nat × Instr × Nat) := [(0, .iload_n 0, 1), (1, .iload_n 1, 1), (2, .aconst_null, 1), (3, .invokestatic 105, 3), (6, .ireturn, 1)]
theorem D47_ok : am_dec prog_24_method_17_code D47 = true := by decide +kernel
abbrev I47 : am_I := (16, prog_24_method_17_code, 2, some FieldType.int, false)
/-- jdk/internal/util/Preconditions.checkIndex (IILjava/util/function/BiFunction;)I -/
def D48 : List (Nat × Instr × Nat) := [(0, .iload_n 0, 1), (1, .ifCond .lt 8, 3), (4, .iload_n 0, 1), (5, .iload_n 1, 1), (6, .if_icmp .lt 10, 3), (9, .aload_n 2, 1), (10, .iload_n 0, 1), (11, .iload_n 1, 1), (12, .invokestatic 95, 3), (15, .athrow, 1), (16, .iload_n 0, 1), (17, .ireturn, 1)]
theorem D48_ok : am_dec prog_28_method_11_code D48 = true := by decide +kernel
abbrev I48 : am_I := (17, prog_28_method_11_code, 3, some FieldType.int, false)
/-- java/util/ArrayList.elementData (I)Ljava/lang/Object; -/
def D49 : List (Nat × Instr × Nat) := [(0, .aload_n 0, 1), (1, .getfield 9, 3), (4, .iload_n 1, 1), (5, .aaload, 1), (6, .areturn, 1)]
theorem D49_ok : am_dec prog_20_method_18_code D49 = true := by decide +kernel
abbrev I49 : am_I := (10, prog_20_method_18_code, 2, some (FieldType.object "java/lang/Object"), false)
/-- LineFlow$Layout.roleWithin (LLineFlow$Node;I)I -/
def D50 : List (Nat × Instr × Nat) := [(0, .aload_n 0, 1), (1, .getfield 46, 3), (4, .iconst 0, 1), (5, .iaload, 1), (6, .istore_n 2, 1), (7, .iload_n 1, 1), (8, .iconst 3, 1), (9, .if_icmp .eq 8, 3), (12, .iload_n 2, 1), (13, .iconst 3, 1), (14, .if_icmp .ne 5, 3), (17, .iconst 3, 1), (18, .ireturn, 1), (19, .aload_n 0, 1), (20, .getfield 70, 3), (23, .ifCond .eq 22, 3), (26, .iload_n 1, 1), (27, .iconst 2, 1), (28, .if_icmp .ne 15, 3), (31, .aload_n 0, 1), (32, .getfield 70, 3), (35, .iconst 3, 1), (36, .if_icmp .eq 7, 3), (39, .iconst 3, 1), (40, .goto 4, 3), (43, .iconst 1, 1), (44, .ireturn, 1), (45, .iload_n 1, 1), (46, .iconst 1, 1), (47, .if_icmp .ne 5, 3), (50, .iconst 1, 1), (51, .ireturn, 1), (52, .iload_n 2, 1), (53, .iconst 1, 1), (54, .if_icmp .ne 23, 3), (57, .iload_n 1, 1), (58, .iconst 2, 1), (59, .if_icmp .eq 12, 3), (62, .aload_n 0, 1), (63, .getfield 46, 3), (66, .iconst 1, 1), (67, .iaload, 1), (68, .ifCond .eq 7, 3), (71, .iconst 0, 1), (72, .goto 4, 3), (75, .iconst 1, 1), (76, .ireturn, 1), (77, .iload_n 2, 1), (78, .ireturn, 1)]
theorem D50_ok : am_dec prog_5_method_6_code D50 = true := by decide +kernel
abbrev I50 : am_I := (3, prog_5_method_6_code, 3, some FieldType.int, false)
/-- LineFlow$Layout.layElement (LLineFlow$Node;III)V -/
def D51 : List (Nat × Instr × Nat) := [(0, .aload_n 1, 1), (1, .iconst 1, 1), (2, .putfield 63, 3), (5, .aload_n 1, 1), (6, .getfield 140, 3), (9, .iload_n 2, 1), (10, .putfield 141, 3), (13, .aload_n 1, 1), (14, .getfield 140, 3), (17, .iload_n 3, 1), (18, .putfield 144, 3), (21, .aload_n 1, 1), (22, .getfield 140, 3), (25, .iload 4, 2), (27, .putfield 132, 3), (30, .aload_n 1, 1), (31, .getfield 147, 3), (34, .ifCond .lt 15, 3), (37, .aload_n 1, 1), (38, .getfield 147, 3), (41, .aload_n 0, 1), (42, .getfield 20, 3), (45, .arraylength, 1), (46, .if_icmp .lt 4, 3), (49, .return_, 1), (50, .aload_n 0, 1), (51, .getfield 20, 3), (54, .aload_n 1, 1), (55, .getfield 147, 3), (58, .aaload, 1), (59, .astore 5, 2), (61, .aload 5, 2), (63, .aload_n 1, 1), (64, .invokevirtual 150, 3), (67, .aload_n 1, 1), (68, .getfield 60, 3), (71, .iconst 2, 1), (72, .if_icmp .ne 12, 3), (75, .aload_n 0, 1), (76, .aload 5, 2), (78, .invokevirtual 153, 3), (81, .goto 9, 3), (84, .aload_n 0, 1), (85, .aload 5, 2), (87, .invokevirtual 157, 3), (90, .istore 6, 2), (92, .aload_n 1, 1), (93, .getfield 140, 3), (96, .aload_n 1, 1), (97, .iload 6, 2), (99, .invokevirtual 160, 3), (102, .putfield 137, 3), (105, .return_, 1)]
theorem D51_ok : am_dec prog_5_method_9_code D51 = true := by decide +kernel
abbrev I51 : am_I := (3, prog_5_method_9_code, 7, none, false)
/-- LineFlow$Flow.begin (LLineFlow$Node;)V -/
def D52 : List (Nat × Instr × Nat) := [(0, .aload_n 0, 1), (1, .aload_n 1, 1), (2, .putfield 23, 3), (5, .aload_n 0, 1), (6, .aload_n 1, 1), (7, .getfield 27, 3), (10, .getfield 33, 3), (13, .aload_n 1, 1), (14, .invokevirtual 39, 3), (17, .iadd, 1), (18, .putfield 43, 3), (21, .aload_n 0, 1), (22, .aload_n 1, 1), (23, .getfield 27, 3), (26, .getfield 46, 3), (29, .aload_n 1, 1), (30, .invokevirtual 39, 3), (33, .iadd, 1), (34, .putfield 49, 3), (37, .aload_n 0, 1), (38, .iconst 0, 1), (39, .aload_n 1, 1), (40, .getfield 27, 3), (43, .getfield 52, 3), (46, .iconst 2, 1), (47, .aload_n 1, 1), (48, .invokevirtual 39, 3), (51, .imul, 1), (52, .isub, 1), (53, .invokestatic 55, 3), (56, .putfield 61, 3), (59, .aload_n 0, 1), (60, .aload_n 0, 1), (61, .getfield 49, 3), (64, .putfield 64, 3), (67, .aload_n 0, 1), (68, .iconst 0, 1), (69, .putfield 65, 3), (72, .aload_n 0, 1), (73, .iconst 0, 1), (74, .putfield 68, 3), (77, .aload_n 0, 1), (78, .aconst_null, 1), (79, .putfield 72, 3), (82, .aload_n 0, 1), (83, .aconst_null, 1), (84, .putfield 75, 3), (87, .aload_n 0, 1), (88, .getfield 10, 3), (91, .aload_n 0, 1), (92, .getfield 43, 3), (95, .aload_n 0, 1), (96, .getfield 43, 3), (99, .aload_n 0, 1), (100, .getfield 61, 3), (103, .iadd, 1), (104, .aload_n 0, 1), (105, .getfield 49, 3), (108, .invokevirtual 78, 3), (111, .aload_n 0, 1), (112, .getfield 19, 3), (115, .invokevirtual 82, 3), (118, .return_, 1)]
theorem D52_ok : am_dec prog_4_method_2_code D52 = true := by decide +kernel
abbrev I52 : am_I := (2, prog_4_method_2_code, 2, none, false)
/-- LineFlow$Node.frame ()I -/
def D53 : List (Nat × Instr × Nat) := [(0, .aload_n 0, 1), (1, .getfield 9, 3), (4, .iconst 5, 1), (5, .iaload, 1), (6, .aload_n 0, 1), (7, .getfield 9, 3), (10, .bipush 6, 2), (12, .iaload, 1), (13, .iadd, 1), (14, .ireturn, 1)]
theorem D53_ok : am_dec prog_8_method_3_code D53 = true := by decide +kernel
abbrev I53 : am_I := (5, prog_8_method_3_code, 1, some FieldType.int, false)
/-- LineFlow$Floats.begin (III)V -/
def D54 : List (Nat × Instr × Nat) := [(0, .aload_n 0, 1), (1, .iload_n 1, 1), (2, .putfield 9, 3), (5, .aload_n 0, 1), (6, .iload_n 2, 1), (7, .putfield 15, 3), (10, .aload_n 0, 1), (11, .aconst_null, 1), (12, .putfield 18, 3), (15, .aload_n 0, 1), (16, .aconst_null, 1), (17, .putfield 22, 3), (20, .aload_n 0, 1), (21, .iload_n 3, 1), (22, .putfield 25, 3), (25, .aload_n 0, 1), (26, .iload_n 3, 1), (27, .putfield 28, 3), (30, .return_, 1)]
theorem D54_ok : am_dec prog_3_method_2_code D54 = true := by decide +kernel
abbrev I54 : am_I := (1, prog_3_method_2_code, 4, none, false)
/-- LineFlow$Line.drop ()V -/
def D55 : List (Nat × Instr × Nat) := [(0, .aload_n 0, 1), (1, .aconst_null, 1), (2, .putfield 9, 3), (5, .aload_n 0, 1), (6, .aconst_null, 1), (7, .putfield 15, 3), (10, .aload_n 0, 1), (11, .iconst 0, 1), (12, .putfield 18, 3), (15, .return_, 1)]
theorem D55_ok : am_dec prog_6_method_3_code D55 = true := by decide +kernel
abbrev I55 : am_I := (4, prog_6_method_3_code, 1, none, false)
/-- LineFlow$Layout.layRow (LLineFlow$Flow;)I -/
def D56 : List (Nat × Instr × Nat) := [(0, .aload_n 1, 1), (1, .getfield 164, 3), (4, .istore_n 2, 1), (5, .iconst 0, 1), (6, .istore_n 3, 1), (7, .aload_n 1, 1), (8, .getfield 167, 3), (11, .getfield 78, 3), (14, .astore 4, 2), (16, .aload 4, 2), (18, .ifnull 153, 3), (21, .aload 4, 2), (23, .getfield 60, 3), (26, .iconst 3, 1), (27, .if_icmp .ne 6, 3), (30, .goto 131, 3), (33, .aload 4, 2), (35, .getfield 46, 3), (38, .iconst 4, 1), (39, .iaload, 1), (40, .istore 5, 2), (42, .aload 4, 2), (44, .getfield 70, 3), (47, .iconst 3, 1), (48, .if_icmp .ne 43, 3), (51, .aload_n 0, 1), (52, .aload 4, 2), (54, .aload_n 1, 1), (55, .getfield 170, 3), (58, .invokevirtual 173, 3), (61, .aload 4, 2), (63, .getfield 140, 3), (66, .iload_n 2, 1), (67, .iload 5, 2), (69, .iadd, 1), (70, .putfield 141, 3), (73, .aload 4, 2), (75, .getfield 140, 3), (78, .aload_n 1, 1), (79, .getfield 176, 3), (82, .iload 5, 2), (84, .iadd, 1), (85, .putfield 144, 3), (88, .goto 39, 3), (91, .aload 4, 2), (93, .aload_n 1, 1), (94, .getfield 170, 3), (97, .aload_n 0, 1), (98, .aload 4, 2), (100, .invokevirtual 179, 3), (103, .invokevirtual 183, 3), (106, .istore 6, 2), (108, .aload_n 0, 1), (109, .aload 4, 2), (111, .iload_n 2, 1), (112, .iload 5, 2), (114, .iadd, 1), (115, .aload_n 1, 1), (116, .getfield 176, 3), (119, .iload 5, 2), (121, .iadd, 1), (122, .iload 6, 2), (124, .invokevirtual 56, 3), (127, .iload_n 2, 1), (128, .aload 4, 2), (130, .getfield 140, 3), (133, .getfield 132, 3), (136, .iconst 2, 1), (137, .iload 5, 2), (139, .imul, 1), (140, .iadd, 1), (141, .iadd, 1), (142, .istore_n 2, 1), (143, .iload_n 3, 1), (144, .aload 4, 2), (146, .getfield 140, 3), (149, .getfield 137, 3), (152, .iconst 2, 1), (153, .iload 5, 2), (155, .imul, 1), (156, .iadd, 1), (157, .invokestatic 187, 3), (160, .istore_n 3, 1), (161, .aload 4, 2), (163, .getfield 89, 3), (166, .astore 4, 2), (168, .goto (-152), 3), (171, .iload_n 3, 1), (172, .ireturn, 1)]
theorem D56_ok : am_dec prog_5_method_10_code D56 = true := by decide +kernel
abbrev I56 : am_I := (3, prog_5_method_10_code, 7, some FieldType.int, false)
/-- LineFlow$Layout.measurePiece (LLineFlow$Node;I)V -/
def D57 : List (Nat × Instr × Nat) := [(0, .aload_n 1, 1), (1, .getfield 46, 3), (4, .iconst 3, 1), (5, .iaload, 1), (6, .istore_n 3, 1), (7, .aload_n 1, 1), (8, .iconst 1, 1), (9, .putfield 63, 3), (12, .aload_n 1, 1), (13, .getfield 140, 3), (16, .aload_n 1, 1), (17, .iload_n 2, 1), (18, .bipush 8, 2), (20, .invokevirtual 291, 3), (23, .putfield 132, 3), (26, .aload_n 1, 1), (27, .getfield 140, 3), (30, .iload_n 3, 1), (31, .iconst (-1), 1), (32, .if_icmp .ne 8, 3), (35, .bipush 8, 2), (37, .goto 4, 3), (40, .iload_n 3, 1), (41, .putfield 137, 3), (44, .return_, 1)]
theorem D57_ok : am_dec prog_5_method_18_code D57 = true := by decide +kernel
abbrev I57 : am_I := (3, prog_5_method_18_code, 4, none, false)
/-- LineFlow$Node.toldWidth (II)I -/
def D58 : List (Nat × Instr × Nat) := [(0, .aload_n 0, 1), (1, .getfield 9, 3), (4, .iconst 2, 1), (5, .iaload, 1), (6, .istore_n 3, 1), (7, .iload_n 3, 1), (8, .iconst (-1), 1), (9, .if_icmp .ne 5, 3), (12, .iload_n 2, 1), (13, .ireturn, 1), (14, .iload_n 3, 1), (15, .sipush 1000, 3), (18, .if_icmp .ge 7, 3), (21, .iload_n 3, 1), (22, .goto 13, 3), (25, .iload_n 1, 1), (26, .iload_n 3, 1), (27, .sipush 1000, 3), (30, .isub, 1), (31, .imul, 1), (32, .bipush 100, 2), (34, .idiv, 1), (35, .ireturn, 1)]
theorem D58_ok : am_dec prog_8_method_4_code D58 = true := by decide +kernel
abbrev I58 : am_I := (5, prog_8_method_4_code, 4, some FieldType.int, false)
/-- LineFlow$Layout.textWidth (LLineFlow$Node;)I -/
def D59 : List (Nat × Instr × Nat) := [(0, .aload_n 0, 1), (1, .getfield 27, 3), (4, .aload_n 1, 1), (5, .invokevirtual 275, 3), (8, .iconst 2, 1), (9, .aload_n 1, 1), (10, .invokevirtual 278, 3), (13, .imul, 1), (14, .iadd, 1), (15, .ireturn, 1)]
theorem D59_ok : am_dec prog_5_method_16_code D59 = true := by decide +kernel
abbrev I59 : am_I := (3, prog_5_method_16_code, 2, some FieldType.int, false)
/-- LineFlow$Ruler.oneLine (LLineFlow$Node;)I -/
def D60 : List (Nat × Instr × Nat) := [(0, .aload_n 0, 1), (1, .iconst 0, 1), (2, .putfield 9, 3), (5, .aload_n 0, 1), (6, .iconst 0, 1), (7, .putfield 15, 3), (10, .aload_n 0, 1), (11, .aload_n 1, 1), (12, .invokevirtual 19, 3), (15, .aload_n 0, 1), (16, .getfield 9, 3), (19, .aload_n 1, 1), (20, .getfield 23, 3), (23, .bipush 8, 2), (25, .iaload, 1), (26, .imul, 1), (27, .ireturn, 1)]
theorem D60_ok : am_dec prog_9_method_4_code D60 = true := by decide +kernel
abbrev I60 : am_I := (6, prog_9_method_4_code, 2, some FieldType.int, false)
/-- LineFlow$Ruler.addTexts (LLineFlow$Node;)V -/
def D61 : List (Nat × Instr × Nat) := [(0, .aload_n 1, 1), (1, .getfield 29, 3), (4, .astore_n 2, 1), (5, .aload_n 2, 1), (6, .ifnull 24, 3), (9, .aload_n 0, 1), (10, .aload_n 2, 1), (11, .getfield 33, 3), (14, .invokevirtual 37, 3), (17, .aload_n 0, 1), (18, .aload_n 2, 1), (19, .invokevirtual 19, 3), (22, .aload_n 2, 1), (23, .getfield 41, 3), (26, .astore_n 2, 1), (27, .goto (-22), 3), (30, .return_, 1)]
theorem D61_ok : am_dec prog_9_method_5_code D61 = true := by decide +kernel
abbrev I61 : am_I := (6, prog_9_method_5_code, 3, none, false)
/-- LineFlow$Ruler.addBytes ([B)V -/
def D62 : List (Nat × Instr × Nat) := [(0, .aload_n 1, 1), (1, .astore_n 2, 1), (2, .aload_n 2, 1), (3, .arraylength, 1), (4, .istore_n 3, 1), (5, .iconst 0, 1), (6, .istore 4, 2), (8, .iload 4, 2), (10, .iload_n 3, 1), (11, .if_icmp .ge 74, 3), (14, .aload_n 2, 1), (15, .iload 4, 2), (17, .baload, 1), (18, .istore 5, 2), (20, .iload 5, 2), (22, .invokestatic 44, 3), (25, .ifCond .eq 22, 3), (28, .aload_n 0, 1), (29, .aload_n 0, 1), (30, .getfield 9, 3), (33, .ifCond .le 7, 3), (36, .iconst 1, 1), (37, .goto 4, 3), (40, .iconst 0, 1), (41, .putfield 15, 3), (44, .goto 35, 3), (47, .aload_n 0, 1), (48, .dup, 1), (49, .getfield 9, 3), (52, .iload 5, 2), (54, .invokestatic 48, 3), (57, .aload_n 0, 1), (58, .getfield 15, 3), (61, .ifCond .eq 7, 3), (64, .iconst 3, 1), (65, .goto 4, 3), (68, .iconst 0, 1), (69, .iadd, 1), (70, .iadd, 1), (71, .putfield 9, 3), (74, .aload_n 0, 1), (75, .iconst 0, 1), (76, .putfield 15, 3), (79, .iinc 4 1, 3), (82, .goto (-74), 3), (85, .return_, 1)]
theorem D62_ok : am_dec prog_9_method_6_code D62 = true := by decide +kernel
abbrev I62 : am_I := (6, prog_9_method_6_code, 6, none, false)
/-- LineFlow$Node.framedWidth (II)I -/
def D63 : List (Nat × Instr × Nat) := [(0, .aload_n 0, 1), (1, .iload_n 1, 1), (2, .iload_n 2, 1), (3, .invokevirtual 55, 3), (6, .iconst 2, 1), (7, .aload_n 0, 1), (8, .invokevirtual 59, 3), (11, .imul, 1), (12, .invokestatic 63, 3), (15, .ireturn, 1)]
theorem D63_ok : am_dec prog_8_method_5_code D63 = true := by decide +kernel
abbrev I63 : am_I := (5, prog_8_method_5_code, 3, some FieldType.int, false)
/-- LineFlow$Layout.layDown (LLineFlow$Flow;)I -/
def D64 : List (Nat × Instr × Nat) := [(0, .aload_n 1, 1), (1, .getfield 167, 3), (4, .astore_n 2, 1), (5, .aload_n 2, 1), (6, .getfield 78, 3), (9, .astore_n 3, 1), (10, .aload_n 3, 1), (11, .ifnull 62, 3), (14, .aload_n 3, 1), (15, .getfield 60, 3), (18, .iconst 3, 1), (19, .if_icmp .ne 6, 3), (22, .goto 42, 3), (25, .aload_n 3, 1), (26, .getfield 86, 3), (29, .ifCond .eq 12, 3), (32, .aload_n 0, 1), (33, .aload_n 1, 1), (34, .aload_n 3, 1), (35, .invokevirtual 192, 3), (38, .goto 26, 3), (41, .aload_n 3, 1), (42, .getfield 60, 3), (45, .iconst 1, 1), (46, .if_icmp .ne 12, 3), (49, .aload_n 0, 1), (50, .aload_n 1, 1), (51, .aload_n 3, 1), (52, .invokevirtual 196, 3), (55, .goto 9, 3), (58, .aload_n 0, 1), (59, .aload_n 1, 1), (60, .aload_n 3, 1), (61, .invokevirtual 199, 3), (64, .aload_n 3, 1), (65, .aload_n 2, 1), (66, .invokestatic 202, 3), (69, .astore_n 3, 1), (70, .goto (-60), 3), (73, .aload_n 0, 1), (74, .aload_n 1, 1), (75, .invokevirtual 206, 3), (78, .aload_n 2, 1), (79, .iconst 1, 1), (80, .invokestatic 210, 3), (83, .ifnull 8, 3), (86, .aload_n 1, 1), (87, .iconst 0, 1), (88, .putfield 216, 3), (91, .aload_n 1, 1), (92, .invokevirtual 219, 3), (95, .ireturn, 1)]
theorem D64_ok : am_dec prog_5_method_11_code D64 = true := by decide +kernel
abbrev I64 : am_I := (3, prog_5_method_11_code, 4, some FieldType.int, false)
/-- LineFlow$Layout.addFloat (LLineFlow$Flow;LLineFlow$Node;)V -/
def D65 : List (Nat × Instr × Nat) := [(0, .aload_n 1, 1), (1, .invokevirtual 239, 3), (4, .aload_n 1, 1), (5, .getfield 242, 3), (8, .invokevirtual 246, 3), (11, .ifCond .eq 12, 3), (14, .aload_n 0, 1), (15, .aload_n 1, 1), (16, .aload_n 2, 1), (17, .invokevirtual 252, 3), (20, .goto 8, 3), (23, .aload_n 1, 1), (24, .aload_n 2, 1), (25, .invokevirtual 255, 3), (28, .return_, 1)]
theorem D65_ok : am_dec prog_5_method_14_code D65 = true := by decide +kernel
abbrev I65 : am_I := (3, prog_5_method_14_code, 3, none, false)
/-- LineFlow$Flow.beginLines ()V -/
def D66 : List (Nat × Instr × Nat) := [(0, .aload_n 0, 1), (1, .dup, 1), (2, .getfield 64, 3), (5, .aload_n 0, 1), (6, .getfield 65, 3), (9, .iadd, 1), (10, .putfield 64, 3), (13, .aload_n 0, 1), (14, .iconst 0, 1), (15, .putfield 65, 3), (18, .return_, 1)]
theorem D66_ok : am_dec prog_4_method_3_code D66 = true := by decide +kernel
abbrev I66 : am_I := (2, prog_4_method_3_code, 1, none, false)
/-- LineFlow$Line.isEmpty ()Z -/
def D67 : List (Nat × Instr × Nat) := [(0, .aload_n 0, 1), (1, .getfield 9, 3), (4, .ifnonnull 7, 3), (7, .iconst 1, 1), (8, .goto 4, 3), (11, .iconst 0, 1), (12, .ireturn, 1)]
theorem D67_ok : am_dec prog_6_method_2_code D67 = true := by decide +kernel
abbrev I67 : am_I := (4, prog_6_method_2_code, 1, some FieldType.boolean, false)
/-- LineFlow$Layout.putFloat (LLineFlow$Flow;LLineFlow$Node;)V -/
def D68 : List (Nat × Instr × Nat) := [(0, .aload_n 2, 1), (1, .getfield 46, 3), (4, .iconst 4, 1), (5, .iaload, 1), (6, .istore_n 3, 1), (7, .aload_n 0, 1), (8, .aload_n 2, 1), (9, .invokevirtual 179, 3), (12, .aload_n 1, 1), (13, .getfield 170, 3), (16, .iconst 2, 1), (17, .iload_n 3, 1), (18, .imul, 1), (19, .isub, 1), (20, .invokestatic 258, 3), (23, .istore 4, 2), (25, .aload_n 2, 1), (26, .aload_n 1, 1), (27, .getfield 170, 3), (30, .iload 4, 2), (32, .invokevirtual 183, 3), (35, .istore 5, 2), (37, .aload_n 1, 1), (38, .getfield 230, 3), (41, .astore 6, 2), (43, .aload 6, 2), (45, .iload 5, 2), (47, .iconst 2, 1), (48, .iload_n 3, 1), (49, .imul, 1), (50, .iadd, 1), (51, .aload_n 1, 1), (52, .getfield 229, 3), (55, .aload 6, 2), (57, .getfield 261, 3), (60, .invokestatic 187, 3), (63, .invokevirtual 264, 3), (66, .istore 7, 2), (68, .aload_n 2, 1), (69, .getfield 46, 3), (72, .iconst 1, 1), (73, .iaload, 1), (74, .iconst 1, 1), (75, .if_icmp .ne 15, 3), (78, .aload 6, 2), (80, .iload 7, 2), (82, .invokevirtual 267, 3), (85, .iload_n 3, 1), (86, .iadd, 1), (87, .goto 15, 3), (90, .aload 6, 2), (92, .iload 7, 2), (94, .invokevirtual 270, 3), (97, .iload_n 3, 1), (98, .isub, 1), (99, .iload 5, 2), (101, .isub, 1), (102, .istore 8, 2), (104, .aload_n 0, 1), (105, .aload_n 2, 1), (106, .iload 8, 2), (108, .iload 7, 2), (110, .iload_n 3, 1), (111, .iadd, 1), (112, .iload 5, 2), (114, .invokevirtual 56, 3), (117, .aload 6, 2), (119, .aload_n 2, 1), (120, .invokevirtual 273, 3), (123, .return_, 1)]
theorem D68_ok : am_dec prog_5_method_15_code D68 = true := by decide +kernel
abbrev I68 : am_I := (3, prog_5_method_15_code, 9, none, false)
/-- LineFlow$Floats.roomFor (II)I -/
def D69 : List (Nat × Instr × Nat) := [(0, .iload_n 2, 1), (1, .istore_n 3, 1), (2, .iconst 0, 1), (3, .istore 4, 2), (5, .iload 4, 2), (7, .bipush 60, 2), (9, .if_icmp .ge 42, 3), (12, .aload_n 0, 1), (13, .iload_n 3, 1), (14, .invokevirtual 72, 3), (17, .istore 5, 2), (19, .iload 5, 2), (21, .iload_n 3, 1), (22, .if_icmp .eq 18, 3), (25, .iload_n 1, 1), (26, .aload_n 0, 1), (27, .iload_n 3, 1), (28, .invokevirtual 76, 3), (31, .aload_n 0, 1), (32, .iload_n 3, 1), (33, .invokevirtual 79, 3), (36, .isub, 1), (37, .if_icmp .gt 5, 3), (40, .iload_n 3, 1), (41, .ireturn, 1), (42, .iload 5, 2), (44, .istore_n 3, 1), (45, .iinc 4 1, 3), (48, .goto (-43), 3), (51, .iload_n 3, 1), (52, .ireturn, 1)]
theorem D69_ok : am_dec prog_3_method_6_code D69 = true := by decide +kernel
abbrev I69 : am_I := (1, prog_3_method_6_code, 6, some FieldType.int, false)
/-- LineFlow$Floats.leastEndAt (I)I -/
def D70 : List (Nat × Instr × Nat) := [(0, .iload_n 1, 1), (1, .istore_n 2, 1), (2, .aload_n 0, 1), (3, .getfield 18, 3), (6, .astore_n 3, 1), (7, .aload_n 3, 1), (8, .ifnull 37, 3), (11, .aload_n 3, 1), (12, .iload_n 1, 1), (13, .invokestatic 53, 3), (16, .ifCond .eq 21, 3), (19, .iload_n 2, 1), (20, .iload_n 1, 1), (21, .if_icmp .eq 11, 3), (24, .aload_n 3, 1), (25, .invokestatic 46, 3), (28, .iload_n 2, 1), (29, .if_icmp .ge 8, 3), (32, .aload_n 3, 1), (33, .invokestatic 46, 3), (36, .istore_n 2, 1), (37, .aload_n 3, 1), (38, .getfield 31, 3), (41, .astore_n 3, 1), (42, .goto (-35), 3), (45, .iload_n 2, 1), (46, .ireturn, 1)]
theorem D70_ok : am_dec prog_3_method_7_code D70 = true := by decide +kernel
abbrev I70 : am_I := (1, prog_3_method_7_code, 4, some FieldType.int, false)
/-- LineFlow$Floats.isAt (LLineFlow$Node;I)Z -/
def D71 : List (Nat × Instr × Nat) := [(0, .iload_n 1, 1), (1, .aload_n 0, 1), (2, .invokestatic 36, 3), (5, .if_icmp .lt 15, 3), (8, .iload_n 1, 1), (9, .aload_n 0, 1), (10, .invokestatic 46, 3), (13, .if_icmp .ge 7, 3), (16, .iconst 1, 1), (17, .goto 4, 3), (20, .iconst 0, 1), (21, .ireturn, 1)]
theorem D71_ok : am_dec prog_3_method_8_code D71 = true := by decide +kernel
abbrev I71 : am_I := (1, prog_3_method_8_code, 2, some FieldType.boolean, false)
/-- LineFlow$Floats.topOf (LLineFlow$Node;)I -/
def D72 : List (Nat × Instr × Nat) := [(0, .aload_n 0, 1), (1, .getfield 57, 3), (4, .getfield 82, 3), (7, .aload_n 0, 1), (8, .getfield 49, 3), (11, .iconst 4, 1), (12, .iaload, 1), (13, .isub, 1), (14, .ireturn, 1)]
theorem D72_ok : am_dec prog_3_method_9_code D72 = true := by decide +kernel
abbrev I72 : am_I := (1, prog_3_method_9_code, 1, some FieldType.int, false)
/-- LineFlow$Floats.endOf (LLineFlow$Node;)I -/
def D73 : List (Nat × Instr × Nat) := [(0, .aload_n 0, 1), (1, .getfield 57, 3), (4, .getfield 82, 3), (7, .aload_n 0, 1), (8, .getfield 57, 3), (11, .getfield 85, 3), (14, .iadd, 1), (15, .aload_n 0, 1), (16, .getfield 49, 3), (19, .iconst 4, 1), (20, .iaload, 1), (21, .iadd, 1), (22, .ireturn, 1)]
theorem D73_ok : am_dec prog_3_method_10_code D73 = true := by decide +kernel
abbrev I73 : am_I := (1, prog_3_method_10_code, 1, some FieldType.int, false)
/-- LineFlow$Floats.rightAt (I)I -/
def D74 : List (Nat × Instr × Nat) := [(0, .aload_n 0, 1), (1, .getfield 15, 3), (4, .istore_n 2, 1), (5, .aload_n 0, 1), (6, .getfield 18, 3), (9, .astore_n 3, 1), (10, .aload_n 3, 1), (11, .ifnull 48, 3), (14, .aload_n 3, 1), (15, .getfield 49, 3), (18, .iconst 1, 1), (19, .iaload, 1), (20, .iconst 2, 1), (21, .if_icmp .ne 30, 3), (24, .aload_n 3, 1), (25, .iload_n 1, 1), (26, .invokestatic 53, 3), (29, .ifCond .eq 22, 3), (32, .iload_n 2, 1), (33, .aload_n 3, 1), (34, .getfield 57, 3), (37, .getfield 61, 3), (40, .aload_n 3, 1), (41, .getfield 49, 3), (44, .iconst 4, 1), (45, .iaload, 1), (46, .isub, 1), (47, .invokestatic 69, 3), (50, .istore_n 2, 1), (51, .aload_n 3, 1), (52, .getfield 31, 3), (55, .astore_n 3, 1), (56, .goto (-46), 3), (59, .iload_n 2, 1), (60, .ireturn, 1)]
theorem D74_ok : am_dec prog_3_method_5_code D74 = true := by decide +kernel
abbrev I74 : am_I := (1, prog_3_method_5_code, 4, some FieldType.int, false)
/-- LineFlow$Floats.leftAt (I)I -/
def D75 : List (Nat × Instr × Nat) := [(0, .aload_n 0, 1), (1, .getfield 9, 3), (4, .istore_n 2, 1), (5, .aload_n 0, 1), (6, .getfield 18, 3), (9, .astore_n 3, 1), (10, .aload_n 3, 1), (11, .ifnull 56, 3), (14, .aload_n 3, 1), (15, .getfield 49, 3), (18, .iconst 1, 1), (19, .iaload, 1), (20, .iconst 1, 1), (21, .if_icmp .ne 38, 3), (24, .aload_n 3, 1), (25, .iload_n 1, 1), (26, .invokestatic 53, 3), (29, .ifCond .eq 30, 3), (32, .iload_n 2, 1), (33, .aload_n 3, 1), (34, .getfield 57, 3), (37, .getfield 61, 3), (40, .aload_n 3, 1), (41, .getfield 57, 3), (44, .getfield 66, 3), (47, .iadd, 1), (48, .aload_n 3, 1), (49, .getfield 49, 3), (52, .iconst 4, 1), (53, .iaload, 1), (54, .iadd, 1), (55, .invokestatic 40, 3), (58, .istore_n 2, 1), (59, .aload_n 3, 1), (60, .getfield 31, 3), (63, .astore_n 3, 1), (64, .goto (-54), 3), (67, .iload_n 2, 1), (68, .ireturn, 1)]
theorem D75_ok : am_dec prog_3_method_4_code D75 = true := by decide +kernel
abbrev I75 : am_I := (1, prog_3_method_4_code, 4, some FieldType.int, false)
/-- LineFlow$Floats.add (LLineFlow$Node;)V -/
def D76 : List (Nat × Instr × Nat) := [(0, .aload_n 1, 1), (1, .aconst_null, 1), (2, .putfield 31, 3), (5, .aload_n 0, 1), (6, .getfield 22, 3), (9, .ifnonnull 11, 3), (12, .aload_n 0, 1), (13, .aload_n 1, 1), (14, .putfield 18, 3), (17, .goto 11, 3), (20, .aload_n 0, 1), (21, .getfield 22, 3), (24, .aload_n 1, 1), (25, .putfield 31, 3), (28, .aload_n 0, 1), (29, .aload_n 1, 1), (30, .putfield 22, 3), (33, .aload_n 0, 1), (34, .aload_n 0, 1), (35, .getfield 25, 3), (38, .aload_n 1, 1), (39, .invokestatic 36, 3), (42, .invokestatic 40, 3), (45, .putfield 25, 3), (48, .aload_n 0, 1), (49, .aload_n 0, 1), (50, .getfield 28, 3), (53, .aload_n 1, 1), (54, .invokestatic 46, 3), (57, .invokestatic 40, 3), (60, .putfield 28, 3), (63, .return_, 1)]
theorem D76_ok : am_dec prog_3_method_3_code D76 = true := by decide +kernel
abbrev I76 : am_I := (1, prog_3_method_3_code, 2, none, false)
/-- LineFlow$Flow.await (LLineFlow$Node;)V -/
def D77 : List (Nat × Instr × Nat) := [(0, .aload_n 1, 1), (1, .aconst_null, 1), (2, .putfield 85, 3), (5, .aload_n 0, 1), (6, .getfield 75, 3), (9, .ifnonnull 11, 3), (12, .aload_n 0, 1), (13, .aload_n 1, 1), (14, .putfield 72, 3), (17, .goto 11, 3), (20, .aload_n 0, 1), (21, .getfield 75, 3), (24, .aload_n 1, 1), (25, .putfield 85, 3), (28, .aload_n 0, 1), (29, .aload_n 1, 1), (30, .putfield 75, 3), (33, .return_, 1)]
theorem D77_ok : am_dec prog_4_method_4_code D77 = true := by decide +kernel
abbrev I77 : am_I := (2, prog_4_method_4_code, 2, none, false)
/-- LineFlow$Layout.addInline (LLineFlow$Flow;LLineFlow$Node;)V -/
def D78 : List (Nat × Instr × Nat) := [(0, .aload_n 1, 1), (1, .invokevirtual 239, 3), (4, .aload_n 2, 1), (5, .getfield 70, 3), (8, .iconst 1, 1), (9, .if_icmp .ne 12, 3), (12, .aload_n 0, 1), (13, .aload_n 1, 1), (14, .aload_n 2, 1), (15, .invokevirtual 281, 3), (18, .goto 52, 3), (21, .aload_n 2, 1), (22, .getfield 70, 3), (25, .iconst 3, 1), (26, .if_icmp .ne 31, 3), (29, .aload_n 0, 1), (30, .aload_n 2, 1), (31, .aload_n 1, 1), (32, .getfield 170, 3), (35, .invokevirtual 173, 3), (38, .aload_n 0, 1), (39, .aload_n 1, 1), (40, .aload_n 2, 1), (41, .getfield 140, 3), (44, .aload_n 2, 1), (45, .getfield 46, 3), (48, .bipush 8, 2), (50, .iaload, 1), (51, .invokevirtual 284, 3), (54, .goto 16, 3), (57, .aload_n 2, 1), (58, .getfield 70, 3), (61, .ifCond .eq 9, 3), (64, .aload_n 0, 1), (65, .aload_n 1, 1), (66, .aload_n 2, 1), (67, .invokevirtual 288, 3), (70, .return_, 1)]
theorem D78_ok : am_dec prog_5_method_17_code D78 = true := by decide +kernel
abbrev I78 : am_I := (3, prog_5_method_17_code, 3, none, false)
/-- LineFlow$Layout.addWords (LLineFlow$Flow;LLineFlow$Node;)V -/
def D79 : List (Nat × Instr × Nat) := [(0, .iconst 0, 1), (1, .istore_n 3, 1), (2, .iload_n 3, 1), (3, .aload_n 2, 1), (4, .getfield 77, 3), (7, .if_icmp .ge 68, 3), (10, .aload_n 0, 1), (11, .aload_n 2, 1), (12, .getfield 67, 3), (15, .iload_n 3, 1), (16, .iadd, 1), (17, .invokevirtual 112, 3), (20, .astore 4, 2), (22, .aload 4, 2), (24, .ifnonnull 4, 3), (27, .return_, 1), (28, .aload_n 1, 1), (29, .aload_n 1, 1), (30, .getfield 294, 3), (33, .ifCond .ne 11, 3), (36, .aload 4, 2), (38, .getfield 122, 3), (41, .ifCond .le 7, 3), (44, .iconst 1, 1), (45, .goto 4, 3), (48, .iconst 0, 1), (49, .putfield 294, 3), (52, .aload_n 0, 1), (53, .aload_n 1, 1), (54, .aload 4, 2), (56, .getfield 128, 3), (59, .aload_n 2, 1), (60, .getfield 46, 3), (63, .bipush 8, 2), (65, .iaload, 1), (66, .invokevirtual 284, 3), (69, .iinc 3 1, 3), (72, .goto (-70), 3), (75, .aload_n 2, 1), (76, .getfield 92, 3), (79, .arraylength, 1), (80, .istore_n 3, 1), (81, .iload_n 3, 1), (82, .ifCond .le 22, 3), (85, .aload_n 2, 1), (86, .getfield 92, 3), (89, .iload_n 3, 1), (90, .iconst 1, 1), (91, .isub, 1), (92, .baload, 1), (93, .invokestatic 96, 3), (96, .ifCond .eq 8, 3), (99, .aload_n 1, 1), (100, .iconst 1, 1), (101, .putfield 294, 3), (104, .return_, 1)]
theorem D79_ok : am_dec prog_5_method_19_code D79 = true := by decide +kernel
abbrev I79 : am_I := (3, prog_5_method_19_code, 5, none, false)
/-- LineFlow$Layout.addItem (LLineFlow$Flow;LLineFlow$Box;I)V -/
def D80 : List (Nat × Instr × Nat) := [(0, .aload_n 1, 1), (1, .getfield 294, 3), (4, .ifCond .eq 9, 3), (7, .iconst 3, 1), (8, .iload_n 3, 1), (9, .imul, 1), (10, .goto 4, 3), (13, .iconst 0, 1), (14, .istore 4, 2), (16, .aload_n 1, 1), (17, .iconst 0, 1), (18, .putfield 294, 3), (21, .aload_n 1, 1), (22, .getfield 242, 3), (25, .invokevirtual 246, 3), (28, .ifCond .ne 31, 3), (31, .aload_n 1, 1), (32, .getfield 242, 3), (35, .iload 4, 2), (37, .aload_n 2, 1), (38, .getfield 132, 3), (41, .iadd, 1), (42, .invokevirtual 297, 3), (45, .ifCond .eq 14, 3), (48, .aload_n 1, 1), (49, .getfield 242, 3), (52, .aload_n 2, 1), (53, .iload 4, 2), (55, .invokevirtual 301, 3), (58, .return_, 1), (59, .aload_n 0, 1), (60, .aload_n 1, 1), (61, .invokevirtual 206, 3), (64, .aload_n 1, 1), (65, .aload_n 1, 1), (66, .getfield 230, 3), (69, .aload_n 2, 1), (70, .getfield 132, 3), (73, .aload_n 1, 1), (74, .getfield 229, 3), (77, .invokevirtual 264, 3), (80, .putfield 229, 3), (83, .aload_n 1, 1), (84, .getfield 242, 3), (87, .aload_n 1, 1), (88, .getfield 230, 3), (91, .aload_n 1, 1), (92, .getfield 229, 3), (95, .invokevirtual 267, 3), (98, .aload_n 1, 1), (99, .getfield 230, 3), (102, .aload_n 1, 1), (103, .getfield 229, 3), (106, .invokevirtual 270, 3), (109, .invokevirtual 304, 3), (112, .aload_n 1, 1), (113, .getfield 242, 3), (116, .aload_n 2, 1), (117, .iconst 0, 1), (118, .invokevirtual 301, 3), (121, .return_, 1)]
theorem D80_ok : am_dec prog_5_method_21_code D80 = true := by decide +kernel
abbrev I80 : am_I := (3, prog_5_method_21_code, 5, none, false)
/-- LineFlow$Line.takes (I)Z -/
def D81 : List (Nat × Instr × Nat) := [(0, .iload_n 1, 1), (1, .aload_n 0, 1), (2, .getfield 25, 3), (5, .aload_n 0, 1), (6, .getfield 22, 3), (9, .isub, 1), (10, .if_icmp .gt 7, 3), (13, .iconst 1, 1), (14, .goto 4, 3), (17, .iconst 0, 1), (18, .ireturn, 1)]
theorem D81_ok : am_dec prog_6_method_5_code D81 = true := by decide +kernel
abbrev I81 : am_I := (4, prog_6_method_5_code, 2, some FieldType.boolean, false)
/-- LineFlow$Line.add (LLineFlow$Box;I)V -/
def D82 : List (Nat × Instr × Nat) := [(0, .aload_n 1, 1), (1, .aconst_null, 1), (2, .putfield 28, 3), (5, .aload_n 0, 1), (6, .getfield 15, 3), (9, .ifnonnull 11, 3), (12, .aload_n 0, 1), (13, .aload_n 1, 1), (14, .putfield 9, 3), (17, .goto 11, 3), (20, .aload_n 0, 1), (21, .getfield 15, 3), (24, .aload_n 1, 1), (25, .putfield 28, 3), (28, .aload_n 0, 1), (29, .aload_n 1, 1), (30, .putfield 15, 3), (33, .aload_n 1, 1), (34, .aload_n 0, 1), (35, .getfield 22, 3), (38, .iload_n 2, 1), (39, .iadd, 1), (40, .putfield 33, 3), (43, .aload_n 0, 1), (44, .aload_n 1, 1), (45, .getfield 33, 3), (48, .aload_n 1, 1), (49, .getfield 36, 3), (52, .iadd, 1), (53, .putfield 22, 3), (56, .aload_n 0, 1), (57, .aload_n 0, 1), (58, .getfield 18, 3), (61, .aload_n 1, 1), (62, .getfield 39, 3), (65, .invokestatic 40, 3), (68, .putfield 18, 3), (71, .return_, 1)]
theorem D82_ok : am_dec prog_6_method_6_code D82 = true := by decide +kernel
abbrev I82 : am_I := (4, prog_6_method_6_code, 3, none, false)
/-- LineFlow$Layout.endLine (LLineFlow$Flow;)V -/
def D83 : List (Nat × Instr × Nat) := [(0, .aload_n 1, 1), (1, .getfield 242, 3), (4, .invokevirtual 246, 3), (7, .ifCond .eq 4, 3), (10, .return_, 1), (11, .aload_n 1, 1), (12, .dup, 1), (13, .getfield 229, 3), (16, .aload_n 1, 1), (17, .getfield 242, 3), (20, .aload_n 1, 1), (21, .getfield 229, 3), (24, .aload_n 1, 1), (25, .getfield 167, 3), (28, .getfield 46, 3), (31, .bipush 7, 2), (33, .iaload, 1), (34, .invokevirtual 308, 3), (37, .iadd, 1), (38, .putfield 229, 3), (41, .aload_n 1, 1), (42, .getfield 242, 3), (45, .invokevirtual 311, 3), (48, .aload_n 1, 1), (49, .invokevirtual 314, 3), (52, .astore_n 2, 1), (53, .aload_n 2, 1), (54, .ifnull 19, 3), (57, .aload_n 2, 1), (58, .getfield 318, 3), (61, .astore_n 3, 1), (62, .aload_n 0, 1), (63, .aload_n 1, 1), (64, .aload_n 2, 1), (65, .invokevirtual 252, 3), (68, .aload_n 3, 1), (69, .astore_n 2, 1), (70, .goto (-17), 3), (73, .return_, 1)]
theorem D83_ok : am_dec prog_5_method_22_code D83 = true := by decide +kernel
abbrev I83 : am_I := (3, prog_5_method_22_code, 4, none, false)
/-- LineFlow$Line.settle (II)I -/
def D84 : List (Nat × Instr × Nat) := [(0, .aload_n 0, 1), (1, .iload_n 2, 1), (2, .invokevirtual 46, 3), (5, .istore_n 3, 1), (6, .aload_n 0, 1), (7, .getfield 9, 3), (10, .astore 4, 2), (12, .aload 4, 2), (14, .ifnull 41, 3), (17, .aload 4, 2), (19, .dup, 1), (20, .getfield 33, 3), (23, .iload_n 3, 1), (24, .iadd, 1), (25, .putfield 33, 3), (28, .aload 4, 2), (30, .iload_n 1, 1), (31, .aload_n 0, 1), (32, .getfield 18, 3), (35, .iadd, 1), (36, .aload 4, 2), (38, .getfield 39, 3), (41, .isub, 1), (42, .putfield 50, 3), (45, .aload 4, 2), (47, .getfield 28, 3), (50, .astore 4, 2), (52, .goto (-40), 3), (55, .aload_n 0, 1), (56, .getfield 18, 3), (59, .ireturn, 1)]
theorem D84_ok : am_dec prog_6_method_7_code D84 = true := by decide +kernel
abbrev I84 : am_I := (4, prog_6_method_7_code, 5, some FieldType.int, false)
/-- LineFlow$Line.spaceAhead (I)I -/
def D85 : List (Nat × Instr × Nat) := [(0, .iconst 0, 1), (1, .aload_n 0, 1), (2, .getfield 25, 3), (5, .aload_n 0, 1), (6, .getfield 22, 3), (9, .isub, 1), (10, .invokestatic 40, 3), (13, .istore_n 2, 1), (14, .iload_n 1, 1), (15, .iconst 1, 1), (16, .if_icmp .ne 7, 3), (19, .iload_n 2, 1), (20, .iconst 2, 1), (21, .idiv, 1), (22, .ireturn, 1), (23, .iload_n 1, 1), (24, .iconst 2, 1), (25, .if_icmp .ne 7, 3), (28, .iload_n 2, 1), (29, .goto 4, 3), (32, .iconst 0, 1), (33, .ireturn, 1)]
theorem D85_ok : am_dec prog_6_method_8_code D85 = true := by decide +kernel
abbrev I85 : am_I := (4, prog_6_method_8_code, 3, some FieldType.int, false)
/-- LineFlow$Flow.releaseWaiting ()LLineFlow$Node; -/
def D86 : List (Nat × Instr × Nat) := [(0, .aload_n 0, 1), (1, .getfield 72, 3), (4, .astore_n 1, 1), (5, .aload_n 0, 1), (6, .aconst_null, 1), (7, .putfield 72, 3), (10, .aload_n 0, 1), (11, .aconst_null, 1), (12, .putfield 75, 3), (15, .aload_n 1, 1), (16, .areturn, 1)]
theorem D86_ok : am_dec prog_4_method_5_code D86 = true := by decide +kernel
abbrev I86 : am_I := (2, prog_4_method_5_code, 2, some (FieldType.object "LineFlow$Node"), false)
/-- LineFlow$Line.open (II)V -/
def D87 : List (Nat × Instr × Nat) := [(0, .aload_n 0, 1), (1, .iload_n 1, 1), (2, .putfield 22, 3), (5, .aload_n 0, 1), (6, .iload_n 2, 1), (7, .putfield 25, 3), (10, .return_, 1)]
theorem D87_ok : am_dec prog_6_method_4_code D87 = true := by decide +kernel
abbrev I87 : am_I := (4, prog_6_method_4_code, 3, none, false)
/-- LineFlow$Layout.addBreak (LLineFlow$Flow;LLineFlow$Node;)V -/
def D88 : List (Nat × Instr × Nat) := [(0, .aload_n 1, 1), (1, .getfield 242, 3), (4, .invokevirtual 246, 3), (7, .ifCond .eq 25, 3), (10, .aload_n 1, 1), (11, .dup, 1), (12, .getfield 229, 3), (15, .bipush 7, 2), (17, .aload_n 2, 1), (18, .getfield 46, 3), (21, .bipush 8, 2), (23, .iaload, 1), (24, .imul, 1), (25, .iadd, 1), (26, .putfield 229, 3), (29, .goto 8, 3), (32, .aload_n 0, 1), (33, .aload_n 1, 1), (34, .invokevirtual 206, 3), (37, .return_, 1)]
theorem D88_ok : am_dec prog_5_method_20_code D88 = true := by decide +kernel
abbrev I88 : am_I := (3, prog_5_method_20_code, 3, none, false)
/-- LineFlow$Layout.addBlock (LLineFlow$Flow;LLineFlow$Node;)V -/
def D89 : List (Nat × Instr × Nat) := [(0, .aload_n 0, 1), (1, .aload_n 1, 1), (2, .invokevirtual 206, 3), (5, .aload_n 1, 1), (6, .getfield 167, 3), (9, .iconst 0, 1), (10, .invokestatic 210, 3), (13, .aload_n 2, 1), (14, .if_acmp .ne 7, 3), (17, .iconst 1, 1), (18, .goto 4, 3), (21, .iconst 0, 1), (22, .istore_n 3, 1), (23, .iload_n 3, 1), (24, .ifCond .eq 7, 3), (27, .iconst 0, 1), (28, .goto 8, 3), (31, .aload_n 2, 1), (32, .iconst 0, 1), (33, .invokestatic 225, 3), (36, .istore 4, 2), (38, .aload_n 1, 1), (39, .getfield 229, 3), (42, .aload_n 1, 1), (43, .getfield 216, 3), (46, .iload 4, 2), (48, .invokestatic 187, 3), (51, .iadd, 1), (52, .aload_n 1, 1), (53, .getfield 230, 3), (56, .getfield 234, 3), (59, .invokestatic 187, 3), (62, .istore 5, 2), (64, .aload_n 2, 1), (65, .getfield 46, 3), (68, .iconst 4, 1), (69, .iaload, 1), (70, .istore 6, 2), (72, .aload_n 2, 1), (73, .aload_n 1, 1), (74, .getfield 170, 3), (77, .aload_n 1, 1), (78, .getfield 170, 3), (81, .iconst 2, 1), (82, .iload 6, 2), (84, .imul, 1), (85, .isub, 1), (86, .invokevirtual 183, 3), (89, .istore 7, 2), (91, .aload_n 0, 1), (92, .aload_n 2, 1), (93, .aload_n 1, 1), (94, .getfield 164, 3), (97, .iload 6, 2), (99, .iadd, 1), (100, .iload 5, 2), (102, .iload 7, 2), (104, .invokevirtual 56, 3), (107, .aload_n 1, 1), (108, .iload 5, 2), (110, .aload_n 2, 1), (111, .getfield 140, 3), (114, .getfield 137, 3), (117, .iadd, 1), (118, .putfield 229, 3), (121, .aload_n 1, 1), (122, .aload_n 2, 1), (123, .iconst 1, 1), (124, .invokestatic 225, 3), (127, .putfield 216, 3), (130, .return_, 1)]
theorem D89_ok : am_dec prog_5_method_13_code D89 = true := by decide +kernel
abbrev I89 : am_I := (3, prog_5_method_13_code, 8, none, false)
/-- LineFlow$Margins.joinedThing (LLineFlow$Node;Z)LLineFlow$Node; -/
def D90 : List (Nat × Instr × Nat) := [(0, .aload_n 0, 1), (1, .invokestatic 31, 3), (4, .ifCond .eq 17, 3), (7, .iload_n 1, 1), (8, .ifCond .eq 15, 3), (11, .aload_n 0, 1), (12, .getfield 15, 3), (15, .iconst 3, 1), (16, .iaload, 1), (17, .iconst (-1), 1), (18, .if_icmp .eq 5, 3), (21, .aconst_null, 1), (22, .areturn, 1), (23, .iload_n 1, 1), (24, .ifCond .eq 10, 3), (27, .aload_n 0, 1), (28, .invokestatic 35, 3), (31, .goto 7, 3), (34, .aload_n 0, 1), (35, .invokestatic 39, 3), (38, .astore_n 2, 1), (39, .aload_n 2, 1), (40, .ifnull 14, 3), (43, .aload_n 2, 1), (44, .invokestatic 42, 3), (47, .ifCond .eq 7, 3), (50, .aload_n 2, 1), (51, .goto 4, 3), (54, .aconst_null, 1), (55, .areturn, 1)]
theorem D90_ok : am_dec prog_7_method_3_code D90 = true := by decide +kernel
abbrev I90 : am_I := (11, prog_7_method_3_code, 3, some (FieldType.object "LineFlow$Node"), false)
/-- LineFlow$Margins.isOpen (LLineFlow$Node;)Z -/
def D91 : List (Nat × Instr × Nat) := [(0, .aload_n 0, 1), (1, .invokestatic 42, 3), (4, .ifCond .eq 42, 3), (7, .aload_n 0, 1), (8, .getfield 15, 3), (11, .iconst 0, 1), (12, .iaload, 1), (13, .ifCond .ne 33, 3), (16, .aload_n 0, 1), (17, .invokevirtual 49, 3), (20, .ifCond .ne 26, 3), (23, .aload_n 0, 1), (24, .getfield 53, 3), (27, .ifnull 19, 3), (30, .aload_n 0, 1), (31, .getfield 53, 3), (34, .getfield 15, 3), (37, .iconst 0, 1), (38, .iaload, 1), (39, .ifCond .ne 7, 3), (42, .iconst 1, 1), (43, .goto 4, 3), (46, .iconst 0, 1), (47, .ireturn, 1)]
theorem D91_ok : am_dec prog_7_method_5_code D91 = true := by decide +kernel
abbrev I91 : am_I := (11, prog_7_method_5_code, 1, some FieldType.boolean, false)
/-- LineFlow$Margins.isBlock (LLineFlow$Node;)Z -/
def D92 : List (Nat × Instr × Nat) := [(0, .aload_n 0, 1), (1, .getfield 15, 3), (4, .iconst 0, 1), (5, .iaload, 1), (6, .istore_n 1, 1), (7, .aload_n 0, 1), (8, .getfield 45, 3), (11, .ifCond .ne 25, 3), (14, .aload_n 0, 1), (15, .getfield 15, 3), (18, .iconst 1, 1), (19, .iaload, 1), (20, .ifCond .ne 16, 3), (23, .iload_n 1, 1), (24, .ifCond .eq 8, 3), (27, .iload_n 1, 1), (28, .iconst 2, 1), (29, .if_icmp .ne 7, 3), (32, .iconst 1, 1), (33, .goto 4, 3), (36, .iconst 0, 1), (37, .ireturn, 1)]
theorem D92_ok : am_dec prog_7_method_4_code D92 = true := by decide +kernel
abbrev I92 : am_I := (11, prog_7_method_4_code, 2, some FieldType.boolean, false)
/-- LineFlow$Margins.lastThing (LLineFlow$Node;)LLineFlow$Node; -/
def D93 : List (Nat × Instr × Nat) := [(0, .aconst_null, 1), (1, .astore_n 1, 1), (2, .aload_n 0, 1), (3, .getfield 57, 3), (6, .astore_n 2, 1), (7, .aload_n 2, 1), (8, .ifnull 23, 3), (11, .aload_n 2, 1), (12, .getfield 15, 3), (15, .iconst 0, 1), (16, .iaload, 1), (17, .iconst 3, 1), (18, .if_icmp .eq 5, 3), (21, .aload_n 2, 1), (22, .astore_n 1, 1), (23, .aload_n 2, 1), (24, .getfield 60, 3), (27, .astore_n 2, 1), (28, .goto (-21), 3), (31, .aload_n 1, 1), (32, .areturn, 1)]
theorem D93_ok : am_dec prog_7_method_7_code D93 = true := by decide +kernel
abbrev I93 : am_I := (11, prog_7_method_7_code, 3, some (FieldType.object "LineFlow$Node"), false)
/-- LineFlow$Margins.firstThing (LLineFlow$Node;)LLineFlow$Node; -/
def D94 : List (Nat × Instr × Nat) := [(0, .aload_n 0, 1), (1, .getfield 57, 3), (4, .astore_n 1, 1), (5, .aload_n 1, 1), (6, .ifnull 23, 3), (9, .aload_n 1, 1), (10, .getfield 15, 3), (13, .iconst 0, 1), (14, .iaload, 1), (15, .iconst 3, 1), (16, .if_icmp .eq 5, 3), (19, .aload_n 1, 1), (20, .areturn, 1), (21, .aload_n 1, 1), (22, .getfield 60, 3), (25, .astore_n 1, 1), (26, .goto (-21), 3), (29, .aconst_null, 1), (30, .areturn, 1)]
theorem D94_ok : am_dec prog_7_method_6_code D94 = true := by decide +kernel
abbrev I94 : am_I := (11, prog_7_method_6_code, 2, some (FieldType.object "LineFlow$Node"), false)
/-- LineFlow$Margins.outer (LLineFlow$Node;Z)I -/
def D95 : List (Nat × Instr × Nat) := [(0, .aload_n 0, 1), (1, .iload_n 1, 1), (2, .invokestatic 9, 3), (5, .astore_n 2, 1), (6, .aload_n 0, 1), (7, .getfield 15, 3), (10, .iconst 4, 1), (11, .iaload, 1), (12, .istore_n 3, 1), (13, .aload_n 2, 1), (14, .ifnonnull 7, 3), (17, .iload_n 3, 1), (18, .goto 12, 3), (21, .iload_n 3, 1), (22, .aload_n 2, 1), (23, .iload_n 1, 1), (24, .invokestatic 21, 3), (27, .invokestatic 25, 3), (30, .ireturn, 1)]
theorem D95_ok : am_dec prog_7_method_2_code D95 = true := by decide +kernel
abbrev I95 : am_I := (11, prog_7_method_2_code, 4, some FieldType.int, false)
/-- LineFlow$Layout.following (LLineFlow$Node;LLineFlow$Node;)LLineFlow$Node; -/
def D96 : List (Nat × Instr × Nat) := [(0, .aload_n 0, 1), (1, .getfield 60, 3), (4, .iconst 1, 1), (5, .if_icmp .ne 15, 3), (8, .aload_n 0, 1), (9, .getfield 78, 3), (12, .ifnull 8, 3), (15, .aload_n 0, 1), (16, .getfield 78, 3), (19, .areturn, 1), (20, .aload_n 0, 1), (21, .astore_n 2, 1), (22, .aload_n 2, 1), (23, .ifnull 28, 3), (26, .aload_n 2, 1), (27, .aload_n 1, 1), (28, .if_acmp .eq 23, 3), (31, .aload_n 2, 1), (32, .getfield 89, 3), (35, .ifnull 8, 3), (38, .aload_n 2, 1), (39, .getfield 89, 3), (42, .areturn, 1), (43, .aload_n 2, 1), (44, .getfield 222, 3), (47, .astore_n 2, 1), (48, .goto (-26), 3), (51, .aconst_null, 1), (52, .areturn, 1)]
theorem D96_ok : am_dec prog_5_method_12_code D96 = true := by decide +kernel
abbrev I96 : am_I := (3, prog_5_method_12_code, 3, some (FieldType.object "LineFlow$Node"), false)
/-- LineFlow$Flow.contentHeight ()I -/
def D97 : List (Nat × Instr × Nat) := [(0, .aload_n 0, 1), (1, .getfield 64, 3), (4, .aload_n 0, 1), (5, .getfield 65, 3), (8, .iadd, 1), (9, .aload_n 0, 1), (10, .getfield 10, 3), (13, .getfield 88, 3), (16, .invokestatic 55, 3), (19, .aload_n 0, 1), (20, .getfield 49, 3), (23, .isub, 1), (24, .ireturn, 1)]
theorem D97_ok : am_dec prog_4_method_6_code D97 = true := by decide +kernel
abbrev I97 : am_I := (2, prog_4_method_6_code, 1, some FieldType.int, false)
/-- LineFlow$Node.framedHeight (I)I -/
def D98 : List (Nat × Instr × Nat) := [(0, .aload_n 0, 1), (1, .getfield 9, 3), (4, .iconst 3, 1), (5, .iaload, 1), (6, .istore_n 2, 1), (7, .iload_n 2, 1), (8, .iconst (-1), 1), (9, .if_icmp .ne 14, 3), (12, .iload_n 1, 1), (13, .iconst 2, 1), (14, .aload_n 0, 1), (15, .invokevirtual 59, 3), (18, .imul, 1), (19, .iadd, 1), (20, .goto 13, 3), (23, .iload_n 2, 1), (24, .iconst 2, 1), (25, .aload_n 0, 1), (26, .invokevirtual 59, 3), (29, .imul, 1), (30, .invokestatic 63, 3), (33, .ireturn, 1)]
theorem D98_ok : am_dec prog_8_method_6_code D98 = true := by decide +kernel
abbrev I98 : am_I := (5, prog_8_method_6_code, 3, some FieldType.int, false)
/-- LineFlow.box (II)I -/
def D99 : List (Nat × Instr × Nat) := [(0, .aload_n 0, 1), (1, .iload_n 1, 1), (2, .invokevirtual 57, 3), (5, .astore_n 3, 1), (6, .aload_n 3, 1), (7, .ifnull 10, 3), (10, .aload_n 3, 1), (11, .getfield 93, 3), (14, .ifCond .ne 5, 3), (17, .iconst (-1), 1), (18, .ireturn, 1), (19, .iload_n 2, 1), (20, .tableswitch 64 0 3 #[32, 40, 48, 56], 32), (52, .aload_n 3, 1), (53, .getfield 84, 3), (56, .getfield 97, 3), (59, .ireturn, 1), (60, .aload_n 3, 1), (61, .getfield 84, 3), (64, .getfield 100, 3), (67, .ireturn, 1), (68, .aload_n 3, 1), (69, .getfield 84, 3), (72, .getfield 103, 3), (75, .ireturn, 1), (76, .aload_n 3, 1), (77, .getfield 84, 3), (80, .getfield 88, 3), (83, .ireturn, 1), (84, .iconst (-1), 1), (85, .ireturn, 1)]
theorem D99_ok : am_dec prog_1_method_9_code D99 = true := by decide +kernel
abbrev I99 : am_I := (8, prog_1_method_9_code, 4, some FieldType.int, false)
/-- LineFlow.words ()I -/
def D100 : List (Nat × Instr × Nat) := [(0, .aload_n 0, 1), (1, .getfield 22, 3), (4, .getfield 106, 3), (7, .ireturn, 1)]
theorem D100_ok : am_dec prog_1_method_10_code D100 = true := by decide +kernel
abbrev I100 : am_I := (8, prog_1_method_10_code, 1, some FieldType.int, false)
/-- LineFlow.word (II)I -/
def D101 : List (Nat × Instr × Nat) := [(0, .aload_n 0, 1), (1, .getfield 22, 3), (4, .iload_n 1, 1), (5, .invokevirtual 109, 3), (8, .astore_n 3, 1), (9, .aload_n 3, 1), (10, .ifnonnull 5, 3), (13, .iconst (-1), 1), (14, .ireturn, 1), (15, .iload_n 2, 1), (16, .tableswitch 91 0 6 #[44, 49, 57, 65, 73, 81, 86], 44), (60, .aload_n 3, 1), (61, .getfield 113, 3), (64, .ireturn, 1), (65, .aload_n 3, 1), (66, .getfield 118, 3), (69, .getfield 97, 3), (72, .ireturn, 1), (73, .aload_n 3, 1), (74, .getfield 118, 3), (77, .getfield 100, 3), (80, .ireturn, 1), (81, .aload_n 3, 1), (82, .getfield 118, 3), (85, .getfield 103, 3), (88, .ireturn, 1), (89, .aload_n 3, 1), (90, .getfield 118, 3), (93, .getfield 88, 3), (96, .ireturn, 1), (97, .aload_n 3, 1), (98, .getfield 119, 3), (101, .ireturn, 1), (102, .aload_n 3, 1), (103, .getfield 122, 3), (106, .ireturn, 1), (107, .iconst (-1), 1), (108, .ireturn, 1)]
theorem D101_ok : am_dec prog_1_method_11_code D101 = true := by decide +kernel
abbrev I101 : am_I := (8, prog_1_method_11_code, 4, some FieldType.int, false)
/-- LineFlow.line (I)I -/
def D102 : List (Nat × Instr × Nat) := [(0, .aload_n 0, 1), (1, .iload_n 1, 1), (2, .invokevirtual 40, 3), (5, .astore_n 2, 1), (6, .aload_n 2, 1), (7, .ifnonnull 7, 3), (10, .iconst (-1), 1), (11, .goto 14, 3), (14, .aload_n 0, 1), (15, .getfield 22, 3), (18, .getfield 125, 3), (21, .aload_n 2, 1), (22, .invokevirtual 129, 3), (25, .ireturn, 1)]
theorem D102_ok : am_dec prog_1_method_12_code D102 = true := by decide +kernel
abbrev I102 : am_I := (8, prog_1_method_12_code, 3, some FieldType.int, false)
/-- LineFlow.margin (IZ)I -/
def D103 : List (Nat × Instr × Nat) := [(0, .aload_n 0, 1), (1, .iload_n 1, 1), (2, .invokevirtual 40, 3), (5, .astore_n 3, 1), (6, .aload_n 3, 1), (7, .ifnull 17, 3), (10, .aload_n 3, 1), (11, .getfield 135, 3), (14, .ifnull 10, 3), (17, .aload_n 3, 1), (18, .invokestatic 139, 3), (21, .ifCond .ne 5, 3), (24, .iconst (-1), 1), (25, .ireturn, 1), (26, .aload_n 3, 1), (27, .iload_n 2, 1), (28, .invokestatic 145, 3), (31, .ireturn, 1)]
theorem D103_ok : am_dec prog_1_method_13_code D103 = true := by decide +kernel
abbrev I103 : am_I := (8, prog_1_method_13_code, 4, some FieldType.int, false)
/-- LineFlowModel.<init> ()V -/
def D104 : List (Nat × Instr × Nat) := [(0, .aload_n 0, 1), (1, .invokespecial 1, 3), (4, .aload_n 0, 1), (5, .sipush 400, 3), (8, .newarray .byte, 2), (10, .putfield 7, 3), (13, .aload_n 0, 1), (14, .iconst 1, 1), (15, .putfield 13, 3), (18, .aload_n 0, 1), (19, .bipush 60, 2), (21, .newarray .int, 2), (23, .putfield 17, 3), (26, .aload_n 0, 1), (27, .bipush 60, 2), (29, .newarray .int, 2), (31, .putfield 21, 3), (34, .aload_n 0, 1), (35, .bipush 60, 2), (37, .newarray .int, 2), (39, .putfield 24, 3), (42, .aload_n 0, 1), (43, .bipush 60, 2), (45, .newarray .int, 2), (47, .putfield 27, 3), (50, .aload_n 0, 1), (51, .bipush 60, 2), (53, .newarray .int, 2), (55, .putfield 30, 3), (58, .aload_n 0, 1), (59, .bipush 60, 2), (61, .newarray .int, 2), (63, .putfield 33, 3), (66, .aload_n 0, 1), (67, .sipush 540, 3), (70, .newarray .int, 2), (72, .putfield 36, 3), (75, .aload_n 0, 1), (76, .sipush 7200, 3), (79, .newarray .byte, 2), (81, .putfield 39, 3), (84, .aload_n 0, 1), (85, .bipush 60, 2), (87, .newarray .int, 2), (89, .putfield 42, 3), (92, .aload_n 0, 1), (93, .bipush 60, 2), (95, .newarray .int, 2), (97, .putfield 45, 3), (100, .aload_n 0, 1), (101, .bipush 60, 2), (103, .newarray .boolean, 2), (105, .putfield 48, 3), (108, .aload_n 0, 1), (109, .bipush 60, 2), (111, .newarray .int, 2), (113, .putfield 52, 3), (116, .aload_n 0, 1), (117, .bipush 60, 2), (119, .newarray .int, 2), (121, .putfield 55, 3), (124, .aload_n 0, 1), (125, .bipush 60, 2), (127, .newarray .int, 2), (129, .putfield 58, 3), (132, .aload_n 0, 1), (133, .bipush 60, 2), (135, .newarray .int, 2), (137, .putfield 61, 3), (140, .aload_n 0, 1), (141, .bipush 60, 2), (143, .newarray .int, 2), (145, .putfield 64, 3), (148, .aload_n 0, 1), (149, .bipush 60, 2), (151, .newarray .int, 2), (153, .putfield 67, 3), (156, .aload_n 0, 1), (157, .bipush 60, 2), (159, .newarray .int, 2), (161, .putfield 70, 3), (164, .aload_n 0, 1), (165, .bipush 60, 2), (167, .newarray .int, 2), (169, .putfield 73, 3), (172, .aload_n 0, 1), (173, .bipush 60, 2), (175, .newarray .boolean, 2), (177, .putfield 76, 3), (180, .aload_n 0, 1), (181, .bipush 60, 2), (183, .newarray .int, 2), (185, .putfield 79, 3), (188, .aload_n 0, 1), (189, .bipush 60, 2), (191, .newarray .int, 2), (193, .putfield 82, 3), (196, .aload_n 0, 1), (197, .bipush 60, 2), (199, .newarray .int, 2), (201, .putfield 85, 3), (204, .aload_n 0, 1), (205, .bipush 60, 2), (207, .newarray .int, 2), (209, .putfield 88, 3), (212, .aload_n 0, 1), (213, .bipush 60, 2), (215, .newarray .int, 2), (217, .putfield 91, 3), (220, .aload_n 0, 1), (221, .sipush 3700, 3), (224, .newarray .int, 2), (226, .putfield 94, 3), (229, .aload_n 0, 1), (230, .sipush 3700, 3), (233, .newarray .int, 2), (235, .putfield 97, 3), (238, .aload_n 0, 1), (239, .sipush 3700, 3), (242, .newarray .int, 2), (244, .putfield 100, 3), (247, .aload_n 0, 1), (248, .sipush 3700, 3), (251, .newarray .int, 2), (253, .putfield 103, 3), (256, .aload_n 0, 1), (257, .sipush 3700, 3), (260, .newarray .int, 2), (262, .putfield 106, 3), (265, .aload_n 0, 1), (266, .sipush 3700, 3), (269, .newarray .int, 2), (271, .putfield 109, 3), (274, .aload_n 0, 1), (275, .sipush 3700, 3), (278, .newarray .int, 2), (280, .putfield 112, 3), (283, .aload_n 0, 1), (284, .sipush 3700, 3), (287, .newarray .int, 2), (289, .putfield 115, 3), (292, .aload_n 0, 1), (293, .sipush 3700, 3), (296, .newarray .int, 2), (298, .putfield 118, 3), (301, .aload_n 0, 1), (302, .bipush 60, 2), (304, .newarray .int, 2), (306, .putfield 121, 3), (309, .aload_n 0, 1), (310, .bipush 60, 2), (312, .newarray .int, 2), (314, .putfield 124, 3), (317, .aload_n 0, 1), (318, .bipush 60, 2), (320, .newarray .int, 2), (322, .putfield 127, 3), (325, .aload_n 0, 1), (326, .bipush 60, 2), (328, .newarray .int, 2), (330, .putfield 130, 3), (333, .aload_n 0, 1), (334, .bipush 60, 2), (336, .newarray .int, 2), (338, .putfield 133, 3), (341, .aload_n 0, 1), (342, .bipush 60, 2), (344, .newarray .int, 2), (346, .putfield 136, 3), (349, .aload_n 0, 1), (350, .invokevirtual 139, 3), (353, .return_, 1)]
theorem D104_ok : am_dec prog_12_method_1_code D104 = true := by decide +kernel
abbrev I104 : am_I := (9, prog_12_method_1_code, 1, none, true)
/-- LineFlowModel.clear ()V -/
def D105 : List (Nat × Instr × Nat) := [(0, .aload_n 0, 1), (1, .iconst 1, 1), (2, .putfield 13, 3), (5, .aload_n 0, 1), (6, .iconst 0, 1), (7, .iconst (-1), 1), (8, .iconst 0, 1), (9, .invokevirtual 149, 3), (12, .aload_n 0, 1), (13, .iconst 0, 1), (14, .putfield 153, 3), (17, .iconst 0, 1), (18, .istore_n 1, 1), (19, .iload_n 1, 1), (20, .bipush 60, 2), (22, .if_icmp .ge 16, 3), (25, .aload_n 0, 1), (26, .getfield 76, 3), (29, .iload_n 1, 1), (30, .iconst 0, 1), (31, .bastore, 1), (32, .iinc 1 1, 3), (35, .goto (-16), 3), (38, .return_, 1)]
theorem D105_ok : am_dec prog_12_method_6_code D105 = true := by decide +kernel
abbrev I105 : am_I := (9, prog_12_method_6_code, 2, none, false)
/-- LineFlowModel.fresh (III)V -/
def D106 : List (Nat × Instr × Nat) := [(0, .aload_n 0, 1), (1, .getfield 17, 3), (4, .iload_n 1, 1), (5, .iload_n 3, 1), (6, .iastore, 1), (7, .aload_n 0, 1), (8, .getfield 21, 3), (11, .iload_n 1, 1), (12, .iload_n 2, 1), (13, .iastore, 1), (14, .aload_n 0, 1), (15, .getfield 24, 3), (18, .iload_n 1, 1), (19, .iconst (-1), 1), (20, .iastore, 1), (21, .aload_n 0, 1), (22, .getfield 27, 3), (25, .iload_n 1, 1), (26, .iconst (-1), 1), (27, .iastore, 1), (28, .aload_n 0, 1), (29, .getfield 30, 3), (32, .iload_n 1, 1), (33, .iconst (-1), 1), (34, .iastore, 1), (35, .aload_n 0, 1), (36, .getfield 33, 3), (39, .iload_n 1, 1), (40, .iload_n 2, 1), (41, .iconst (-1), 1), (42, .if_icmp .ne 7, 3), (45, .iconst 0, 1), (46, .goto 11, 3), (49, .aload_n 0, 1), (50, .getfield 33, 3), (53, .iload_n 2, 1), (54, .iaload, 1), (55, .iconst 1, 1), (56, .iadd, 1), (57, .iastore, 1), (58, .aload_n 0, 1), (59, .getfield 42, 3), (62, .iload_n 1, 1), (63, .iconst 0, 1), (64, .iastore, 1), (65, .iconst 0, 1), (66, .istore 4, 2), (68, .iload 4, 2), (70, .bipush 9, 2), (72, .if_icmp .ge 22, 3), (75, .aload_n 0, 1), (76, .getfield 36, 3), (79, .bipush 9, 2), (81, .iload_n 1, 1), (82, .imul, 1), (83, .iload 4, 2), (85, .iadd, 1), (86, .iconst 0, 1), (87, .iastore, 1), (88, .iinc 4 1, 3), (91, .goto (-23), 3), (94, .aload_n 0, 1), (95, .getfield 36, 3), (98, .bipush 9, 2), (100, .iload_n 1, 1), (101, .imul, 1), (102, .iload_n 3, 1), (103, .ifCond .ne 7, 3), (106, .iconst 0, 1), (107, .goto 4, 3), (110, .iconst 1, 1), (111, .iastore, 1), (112, .aload_n 0, 1), (113, .getfield 36, 3), (116, .bipush 9, 2), (118, .iload_n 1, 1), (119, .imul, 1), (120, .iconst 2, 1), (121, .iadd, 1), (122, .iconst (-1), 1), (123, .iastore, 1), (124, .aload_n 0, 1), (125, .getfield 36, 3), (128, .bipush 9, 2), (130, .iload_n 1, 1), (131, .imul, 1), (132, .iconst 3, 1), (133, .iadd, 1), (134, .iconst (-1), 1), (135, .iastore, 1), (136, .aload_n 0, 1), (137, .getfield 36, 3), (140, .bipush 9, 2), (142, .iload_n 1, 1), (143, .imul, 1), (144, .bipush 8, 2), (146, .iadd, 1), (147, .iconst 1, 1), (148, .iastore, 1), (149, .iload_n 2, 1), (150, .iconst (-1), 1), (151, .if_icmp .ne 4, 3), (154, .return_, 1), (155, .aload_n 0, 1), (156, .getfield 27, 3), (159, .iload_n 2, 1), (160, .iaload, 1), (161, .iconst (-1), 1), (162, .if_icmp .ne 13, 3), (165, .aload_n 0, 1), (166, .getfield 24, 3), (169, .iload_n 2, 1), (170, .iload_n 1, 1), (171, .iastore, 1), (172, .goto 15, 3), (175, .aload_n 0, 1), (176, .getfield 30, 3), (179, .aload_n 0, 1), (180, .getfield 27, 3), (183, .iload_n 2, 1), (184, .iaload, 1), (185, .iload_n 1, 1), (186, .iastore, 1), (187, .aload_n 0, 1), (188, .getfield 27, 3), (191, .iload_n 2, 1), (192, .iload_n 1, 1), (193, .iastore, 1), (194, .return_, 1)]
theorem D106_ok : am_dec prog_12_method_5_code D106 = true := by decide +kernel
abbrev I106 : am_I := (9, prog_12_method_5_code, 5, none, false)
/-- LineFlowModel.feed (IIIII)I -/
def D107 : List (Nat × Instr × Nat) := [(0, .aload_n 0, 1), (1, .getfield 142, 3), (4, .bipush 20, 2), (6, .iadd, 1), (7, .sipush 400, 3), (10, .if_icmp .le 5, 3), (13, .iconst (-1), 1), (14, .ireturn, 1), (15, .aload_n 0, 1), (16, .iload_n 1, 1), (17, .invokevirtual 145, 3), (20, .aload_n 0, 1), (21, .iload_n 2, 1), (22, .invokevirtual 145, 3), (25, .aload_n 0, 1), (26, .iload_n 3, 1), (27, .invokevirtual 145, 3), (30, .aload_n 0, 1), (31, .iload 4, 2), (33, .invokevirtual 145, 3), (36, .aload_n 0, 1), (37, .iload 5, 2), (39, .invokevirtual 145, 3), (42, .aload_n 0, 1), (43, .getfield 142, 3), (46, .ireturn, 1)]
theorem D107_ok : am_dec prog_12_method_3_code D107 = true := by decide +kernel
abbrev I107 : am_I := (9, prog_12_method_3_code, 6, some FieldType.int, false)
/-- LineFlowModel.putFour (I)V -/
def D108 : List (Nat × Instr × Nat) := [(0, .bipush 24, 2), (2, .istore_n 2, 1), (3, .iload_n 2, 1), (4, .ifCond .lt 32, 3), (7, .aload_n 0, 1), (8, .getfield 7, 3), (11, .aload_n 0, 1), (12, .getfield 142, 3), (15, .iload_n 1, 1), (16, .iload_n 2, 1), (17, .ishr, 1), (18, .i2b, 1), (19, .bastore, 1), (20, .aload_n 0, 1), (21, .dup, 1), (22, .getfield 142, 3), (25, .iconst 1, 1), (26, .iadd, 1), (27, .putfield 142, 3), (30, .iinc 2 (-8), 3), (33, .goto (-30), 3), (36, .return_, 1)]
theorem D108_ok : am_dec prog_12_method_2_code D108 = true := by decide +kernel
abbrev I108 : am_I := (9, prog_12_method_2_code, 3, none, false)
/-- LineFlowModel.end (I)I -/
def D109 : List (Nat × Instr × Nat) := [(0, .iload_n 1, 1), (1, .ifCond .lt 11, 3), (4, .iload_n 1, 1), (5, .aload_n 0, 1), (6, .getfield 142, 3), (9, .if_icmp .le 5, 3), (12, .iconst (-1), 1), (13, .ireturn, 1), (14, .aload_n 0, 1), (15, .iload_n 1, 1), (16, .putfield 142, 3), (19, .iload_n 1, 1), (20, .ireturn, 1)]
theorem D109_ok : am_dec prog_12_method_4_code D109 = true := by decide +kernel
abbrev I109 : am_I := (9, prog_12_method_4_code, 2, some FieldType.int, false)
/-- LineFlowModel.node (II)I -/
def D110 : List (Nat × Instr × Nat) := [(0, .aload_n 0, 1), (1, .iload_n 1, 1), (2, .invokevirtual 156, 3), (5, .ifCond .eq 41, 3), (8, .aload_n 0, 1), (9, .getfield 17, 3), (12, .iload_n 1, 1), (13, .iaload, 1), (14, .ifCond .ne 32, 3), (17, .iload_n 2, 1), (18, .ifCond .lt 28, 3), (21, .iload_n 2, 1), (22, .iconst 3, 1), (23, .if_icmp .gt 23, 3), (26, .aload_n 0, 1), (27, .getfield 13, 3), (30, .bipush 60, 2), (32, .if_icmp .eq 14, 3), (35, .aload_n 0, 1), (36, .getfield 33, 3), (39, .iload_n 1, 1), (40, .iaload, 1), (41, .bipush 12, 2), (43, .if_icmp .ne 5, 3), (46, .iconst (-1), 1), (47, .ireturn, 1), (48, .aload_n 0, 1), (49, .aload_n 0, 1), (50, .getfield 13, 3), (53, .iload_n 1, 1), (54, .iload_n 2, 1), (55, .invokevirtual 149, 3), (58, .aload_n 0, 1), (59, .getfield 76, 3), (62, .aload_n 0, 1), (63, .getfield 13, 3), (66, .iconst 0, 1), (67, .bastore, 1), (68, .aload_n 0, 1), (69, .dup, 1), (70, .getfield 13, 3), (73, .iconst 1, 1), (74, .iadd, 1), (75, .putfield 13, 3), (78, .aload_n 0, 1), (79, .getfield 13, 3), (82, .iconst 1, 1), (83, .isub, 1), (84, .ireturn, 1)]
theorem D110_ok : am_dec prog_12_method_8_code D110 = true := by decide +kernel
abbrev I110 : am_I := (9, prog_12_method_8_code, 3, some FieldType.int, false)
/-- LineFlowModel.there (I)Z -/
def D111 : List (Nat × Instr × Nat) := [(0, .iload_n 1, 1), (1, .ifCond .lt 15, 3), (4, .iload_n 1, 1), (5, .aload_n 0, 1), (6, .getfield 13, 3), (9, .if_icmp .ge 7, 3), (12, .iconst 1, 1), (13, .goto 4, 3), (16, .iconst 0, 1), (17, .ireturn, 1)]
theorem D111_ok : am_dec prog_12_method_7_code D111 = true := by decide +kernel
abbrev I111 : am_I := (9, prog_12_method_7_code, 2, some FieldType.boolean, false)
/-- LineFlowModel.text (I)I -/
def D112 : List (Nat × Instr × Nat) := [(0, .aload_n 0, 1), (1, .iload_n 1, 1), (2, .invokevirtual 156, 3), (5, .ifCond .eq 22, 3), (8, .aload_n 0, 1), (9, .getfield 17, 3), (12, .iload_n 1, 1), (13, .iaload, 1), (14, .iconst 1, 1), (15, .if_icmp .ne 12, 3), (18, .aload_n 0, 1), (19, .getfield 142, 3), (22, .bipush 120, 2), (24, .if_icmp .le 5, 3), (27, .iconst (-1), 1), (28, .ireturn, 1), (29, .iconst 0, 1), (30, .istore_n 2, 1), (31, .iload_n 2, 1), (32, .aload_n 0, 1), (33, .getfield 142, 3), (36, .if_icmp .ge 26, 3), (39, .aload_n 0, 1), (40, .getfield 39, 3), (43, .bipush 120, 2), (45, .iload_n 1, 1), (46, .imul, 1), (47, .iload_n 2, 1), (48, .iadd, 1), (49, .aload_n 0, 1), (50, .getfield 7, 3), (53, .iload_n 2, 1), (54, .baload, 1), (55, .bastore, 1), (56, .iinc 2 1, 3), (59, .goto (-28), 3), (62, .aload_n 0, 1), (63, .getfield 42, 3), (66, .iload_n 1, 1), (67, .aload_n 0, 1), (68, .getfield 142, 3), (71, .iastore, 1), (72, .aload_n 0, 1), (73, .iconst 0, 1), (74, .putfield 142, 3), (77, .aload_n 0, 1), (78, .getfield 42, 3), (81, .iload_n 1, 1), (82, .iaload, 1), (83, .ireturn, 1)]
theorem D112_ok : am_dec prog_12_method_9_code D112 = true := by decide +kernel
abbrev I112 : am_I := (9, prog_12_method_9_code, 3, some FieldType.int, false)
/-- LineFlowModel.set (III)I -/
def D113 : List (Nat × Instr × Nat) := [(0, .aload_n 0, 1), (1, .iload_n 1, 1), (2, .invokevirtual 156, 3), (5, .ifCond .eq 13, 3), (8, .aload_n 0, 1), (9, .iload_n 1, 1), (10, .iload_n 2, 1), (11, .iload_n 3, 1), (12, .invokevirtual 160, 3), (15, .ifCond .ne 6, 3), (18, .bipush (-2), 2), (20, .ireturn, 1), (21, .aload_n 0, 1), (22, .getfield 36, 3), (25, .bipush 9, 2), (27, .iload_n 1, 1), (28, .imul, 1), (29, .iload_n 2, 1), (30, .iadd, 1), (31, .iaload, 1), (32, .istore 4, 2), (34, .aload_n 0, 1), (35, .getfield 36, 3), (38, .bipush 9, 2), (40, .iload_n 1, 1), (41, .imul, 1), (42, .iload_n 2, 1), (43, .iadd, 1), (44, .iload_n 3, 1), (45, .iastore, 1), (46, .iload 4, 2), (48, .ireturn, 1)]
theorem D113_ok : am_dec prog_12_method_11_code D113 = true := by decide +kernel
abbrev I113 : am_I := (9, prog_12_method_11_code, 5, some FieldType.int, false)
/-- LineFlowModel.mayBe (III)Z -/
def D114 : List (Nat × Instr × Nat) := [(0, .iload_n 2, 1), (1, .tableswitch 265 0 8 #[51, 120, 152, 184, 202, 218, 202, 234, 249], 51), (52, .iload_n 1, 1), (53, .ifCond .ne 18, 3), (56, .iload_n 3, 1), (57, .ifCond .eq 8, 3), (60, .iload_n 3, 1), (61, .iconst 2, 1), (62, .if_icmp .ne 7, 3), (65, .iconst 1, 1), (66, .goto 4, 3), (69, .iconst 0, 1), (70, .ireturn, 1), (71, .aload_n 0, 1), (72, .getfield 17, 3), (75, .iload_n 1, 1), (76, .iaload, 1), (77, .ifCond .ne 18, 3), (80, .iload_n 3, 1), (81, .ifCond .lt 12, 3), (84, .iload_n 3, 1), (85, .iconst 3, 1), (86, .if_icmp .gt 7, 3), (89, .iconst 1, 1), (90, .goto 4, 3), (93, .iconst 0, 1), (94, .ireturn, 1), (95, .iload_n 3, 1), (96, .iconst 1, 1), (97, .if_icmp .eq 18, 3), (100, .aload_n 0, 1), (101, .getfield 17, 3), (104, .iload_n 1, 1), (105, .iaload, 1), (106, .iconst 3, 1), (107, .if_icmp .ne 12, 3), (110, .iload_n 3, 1), (111, .iconst 3, 1), (112, .if_icmp .ne 7, 3), (115, .iconst 1, 1), (116, .goto 4, 3), (119, .iconst 0, 1), (120, .ireturn, 1), (121, .iload_n 3, 1), (122, .ifCond .eq 25, 3), (125, .iload_n 1, 1), (126, .ifCond .le 25, 3), (129, .aload_n 0, 1), (130, .getfield 17, 3), (133, .iload_n 1, 1), (134, .iaload, 1), (135, .ifCond .ne 16, 3), (138, .iload_n 3, 1), (139, .ifCond .le 12, 3), (142, .iload_n 3, 1), (143, .iconst 2, 1), (144, .if_icmp .gt 7, 3), (147, .iconst 1, 1), (148, .goto 4, 3), (151, .iconst 0, 1), (152, .ireturn, 1), (153, .iload_n 3, 1), (154, .iconst (-1), 1), (155, .if_icmp .lt 10, 3), (158, .iload_n 3, 1), (159, .sipush 400, 3), (162, .if_icmp .le 17, 3), (165, .iload_n 3, 1), (166, .sipush 1000, 3), (169, .if_icmp .lt 14, 3), (172, .iload_n 3, 1), (173, .sipush 1100, 3), (176, .if_icmp .gt 7, 3), (179, .iconst 1, 1), (180, .goto 4, 3), (183, .iconst 0, 1), (184, .ireturn, 1), (185, .iload_n 3, 1), (186, .iconst (-1), 1), (187, .if_icmp .lt 14, 3), (190, .iload_n 3, 1), (191, .sipush 400, 3), (194, .if_icmp .gt 7, 3), (197, .iconst 1, 1), (198, .goto 4, 3), (201, .iconst 0, 1), (202, .ireturn, 1), (203, .iload_n 3, 1), (204, .ifCond .lt 13, 3), (207, .iload_n 3, 1), (208, .bipush 50, 2), (210, .if_icmp .gt 7, 3), (213, .iconst 1, 1), (214, .goto 4, 3), (217, .iconst 0, 1), (218, .ireturn, 1), (219, .iload_n 3, 1), (220, .ifCond .lt 13, 3), (223, .iload_n 3, 1), (224, .bipush 9, 2), (226, .if_icmp .gt 7, 3), (229, .iconst 1, 1), (230, .goto 4, 3), (233, .iconst 0, 1), (234, .ireturn, 1), (235, .iload_n 3, 1), (236, .ifCond .lt 12, 3), (239, .iload_n 3, 1), (240, .iconst 2, 1), (241, .if_icmp .gt 7, 3), (244, .iconst 1, 1), (245, .goto 4, 3), (248, .iconst 0, 1), (249, .ireturn, 1), (250, .iload_n 3, 1), (251, .iconst 1, 1), (252, .if_icmp .lt 12, 3), (255, .iload_n 3, 1), (256, .iconst 4, 1), (257, .if_icmp .gt 7, 3), (260, .iconst 1, 1), (261, .goto 4, 3), (264, .iconst 0, 1), (265, .ireturn, 1), (266, .iconst 0, 1), (267, .ireturn, 1)]
theorem D114_ok : am_dec prog_12_method_10_code D114 = true := by decide +kernel
abbrev I114 : am_I := (9, prog_12_method_10_code, 4, some FieldType.boolean, false)
/-- LineFlowModel.lay (I)I -/
def D115 : List (Nat × Instr × Nat) := [(0, .iload_n 1, 1), (1, .bipush 20, 2), (3, .if_icmp .lt 10, 3), (6, .iload_n 1, 1), (7, .sipush 400, 3), (10, .if_icmp .le 5, 3), (13, .iconst (-1), 1), (14, .ireturn, 1), (15, .aload_n 0, 1), (16, .invokevirtual 217, 3), (19, .aload_n 0, 1), (20, .iconst 0, 1), (21, .putfield 153, 3), (24, .iconst 0, 1), (25, .istore_n 2, 1), (26, .iload_n 2, 1), (27, .aload_n 0, 1), (28, .getfield 178, 3), (31, .if_icmp .ge 82, 3), (34, .aload_n 0, 1), (35, .getfield 73, 3), (38, .iload_n 2, 1), (39, .iaload, 1), (40, .istore_n 3, 1), (41, .aload_n 0, 1), (42, .getfield 91, 3), (45, .iload_n 3, 1), (46, .aload_n 0, 1), (47, .getfield 153, 3), (50, .iastore, 1), (51, .iload_n 3, 1), (52, .ifCond .ne 13, 3), (55, .aload_n 0, 1), (56, .getfield 61, 3), (59, .iconst 0, 1), (60, .iload_n 1, 1), (61, .iastore, 1), (62, .goto 45, 3), (65, .aload_n 0, 1), (66, .iload_n 3, 1), (67, .invokevirtual 181, 3), (70, .ifCond .ne 13, 3), (73, .aload_n 0, 1), (74, .getfield 45, 3), (77, .iload_n 3, 1), (78, .iaload, 1), (79, .iconst 4, 1), (80, .if_icmp .ne 11, 3), (83, .aload_n 0, 1), (84, .iload_n 3, 1), (85, .invokevirtual 220, 3), (88, .goto 19, 3), (91, .aload_n 0, 1), (92, .getfield 45, 3), (95, .iload_n 3, 1), (96, .iaload, 1), (97, .bipush 6, 2), (99, .if_icmp .ne 8, 3), (102, .aload_n 0, 1), (103, .iload_n 3, 1), (104, .invokevirtual 223, 3), (107, .iinc 2 1, 3), (110, .goto (-84), 3), (113, .aload_n 0, 1), (114, .getfield 178, 3), (117, .iconst 1, 1), (118, .isub, 1), (119, .istore_n 2, 1), (120, .iload_n 2, 1), (121, .ifCond .lt 62, 3), (124, .aload_n 0, 1), (125, .getfield 45, 3), (128, .aload_n 0, 1), (129, .getfield 73, 3), (132, .iload_n 2, 1), (133, .iaload, 1), (134, .iaload, 1), (135, .iconst 1, 1), (136, .if_icmp .ne 16, 3), (139, .aload_n 0, 1), (140, .aload_n 0, 1), (141, .getfield 73, 3), (144, .iload_n 2, 1), (145, .iaload, 1), (146, .invokevirtual 226, 3), (149, .goto 28, 3), (152, .aload_n 0, 1), (153, .getfield 45, 3), (156, .aload_n 0, 1), (157, .getfield 73, 3), (160, .iload_n 2, 1), (161, .iaload, 1), (162, .iaload, 1), (163, .iconst 2, 1), (164, .if_icmp .ne 13, 3), (167, .aload_n 0, 1), (168, .aload_n 0, 1), (169, .getfield 73, 3), (172, .iload_n 2, 1), (173, .iaload, 1), (174, .invokevirtual 229, 3), (177, .iinc 2 (-1), 3), (180, .goto (-60), 3), (183, .aload_n 0, 1), (184, .getfield 55, 3), (187, .iconst 0, 1), (188, .iconst 0, 1), (189, .iastore, 1), (190, .aload_n 0, 1), (191, .getfield 58, 3), (194, .iconst 0, 1), (195, .iconst 0, 1), (196, .iastore, 1), (197, .iconst 0, 1), (198, .istore_n 2, 1), (199, .iload_n 2, 1), (200, .bipush 60, 2), (202, .if_icmp .ge 16, 3), (205, .aload_n 0, 1), (206, .getfield 76, 3), (209, .iload_n 2, 1), (210, .iconst 0, 1), (211, .bastore, 1), (212, .iinc 2 1, 3), (215, .goto (-16), 3), (218, .iconst 0, 1), (219, .istore_n 2, 1), (220, .iload_n 2, 1), (221, .aload_n 0, 1), (222, .getfield 178, 3), (225, .if_icmp .ge 158, 3), (228, .aload_n 0, 1), (229, .getfield 73, 3), (232, .iload_n 2, 1), (233, .iaload, 1), (234, .istore_n 3, 1), (235, .aload_n 0, 1), (236, .iload_n 3, 1), (237, .invokevirtual 181, 3), (240, .ifCond .ne 16, 3), (243, .aload_n 0, 1), (244, .getfield 45, 3), (247, .iload_n 3, 1), (248, .iaload, 1), (249, .iconst 4, 1), (250, .if_icmp .eq 6, 3), (253, .goto 124, 3), (256, .iload_n 3, 1), (257, .ifCond .le 65, 3), (260, .aload_n 0, 1), (261, .getfield 55, 3), (264, .iload_n 3, 1), (265, .dup2, 1), (266, .iaload, 1), (267, .aload_n 0, 1), (268, .getfield 55, 3), (271, .aload_n 0, 1), (272, .getfield 52, 3), (275, .iload_n 3, 1), (276, .iaload, 1), (277, .iaload, 1), (278, .aload_n 0, 1), (279, .aload_n 0, 1), (280, .getfield 52, 3), (283, .iload_n 3, 1), (284, .iaload, 1), (285, .invokevirtual 171, 3), (288, .iadd, 1), (289, .iadd, 1), (290, .iastore, 1), (291, .aload_n 0, 1), (292, .getfield 58, 3), (295, .iload_n 3, 1), (296, .dup2, 1), (297, .iaload, 1), (298, .aload_n 0, 1), (299, .getfield 58, 3), (302, .aload_n 0, 1), (303, .getfield 52, 3), (306, .iload_n 3, 1), (307, .iaload, 1), (308, .iaload, 1), (309, .aload_n 0, 1), (310, .aload_n 0, 1), (311, .getfield 52, 3), (314, .iload_n 3, 1), (315, .iaload, 1), (316, .invokevirtual 171, 3), (319, .iadd, 1), (320, .iadd, 1), (321, .iastore, 1), (322, .aload_n 0, 1), (323, .getfield 76, 3), (326, .iload_n 3, 1), (327, .iconst 1, 1), (328, .bastore, 1), (329, .aload_n 0, 1), (330, .getfield 79, 3), (333, .iload_n 3, 1), (334, .aload_n 0, 1), (335, .getfield 55, 3), (338, .iload_n 3, 1), (339, .iaload, 1), (340, .iastore, 1), (341, .aload_n 0, 1), (342, .getfield 82, 3), (345, .iload_n 3, 1), (346, .aload_n 0, 1), (347, .getfield 58, 3), (350, .iload_n 3, 1), (351, .iaload, 1), (352, .iastore, 1), (353, .aload_n 0, 1), (354, .getfield 85, 3), (357, .iload_n 3, 1), (358, .aload_n 0, 1), (359, .getfield 61, 3), (362, .iload_n 3, 1), (363, .iaload, 1), (364, .iastore, 1), (365, .aload_n 0, 1), (366, .getfield 88, 3), (369, .iload_n 3, 1), (370, .aload_n 0, 1), (371, .getfield 64, 3), (374, .iload_n 3, 1), (375, .iaload, 1), (376, .iastore, 1), (377, .iinc 2 1, 3), (380, .goto (-160), 3), (383, .iconst 0, 1), (384, .istore_n 2, 1), (385, .iload_n 2, 1), (386, .aload_n 0, 1), (387, .getfield 153, 3), (390, .if_icmp .ge 63, 3), (393, .aload_n 0, 1), (394, .getfield 52, 3), (397, .aload_n 0, 1), (398, .getfield 94, 3), (401, .iload_n 2, 1), (402, .iaload, 1), (403, .iaload, 1), (404, .istore_n 3, 1), (405, .aload_n 0, 1), (406, .getfield 103, 3), (409, .iload_n 2, 1), (410, .dup2, 1), (411, .iaload, 1), (412, .aload_n 0, 1), (413, .getfield 55, 3), (416, .iload_n 3, 1), (417, .iaload, 1), (418, .aload_n 0, 1), (419, .iload_n 3, 1), (420, .invokevirtual 171, 3), (423, .iadd, 1), (424, .iadd, 1), (425, .iastore, 1), (426, .aload_n 0, 1), (427, .getfield 106, 3), (430, .iload_n 2, 1), (431, .dup2, 1), (432, .iaload, 1), (433, .aload_n 0, 1), (434, .getfield 58, 3), (437, .iload_n 3, 1), (438, .iaload, 1), (439, .aload_n 0, 1), (440, .iload_n 3, 1), (441, .invokevirtual 171, 3), (444, .iadd, 1), (445, .iadd, 1), (446, .iastore, 1), (447, .iinc 2 1, 3), (450, .goto (-65), 3), (453, .aload_n 0, 1), (454, .getfield 64, 3), (457, .iconst 0, 1), (458, .iaload, 1), (459, .ireturn, 1)]
theorem D115_ok : am_dec prog_12_method_27_code D115 = true := by decide +kernel
abbrev I115 : am_I := (9, prog_12_method_27_code, 4, some FieldType.int, false)
/-- LineFlowModel.modes ()V -/
def D116 : List (Nat × Instr × Nat) := [(0, .aload_n 0, 1), (1, .iconst 0, 1), (2, .putfield 178, 3), (5, .iconst 0, 1), (6, .istore_n 1, 1), (7, .iload_n 1, 1), (8, .iconst (-1), 1), (9, .if_icmp .eq 160, 3), (12, .aload_n 0, 1), (13, .getfield 73, 3), (16, .aload_n 0, 1), (17, .getfield 178, 3), (20, .iload_n 1, 1), (21, .iastore, 1), (22, .aload_n 0, 1), (23, .dup, 1), (24, .getfield 178, 3), (27, .iconst 1, 1), (28, .iadd, 1), (29, .putfield 178, 3), (32, .aload_n 0, 1), (33, .getfield 52, 3), (36, .iload_n 1, 1), (37, .iload_n 1, 1), (38, .ifCond .ne 7, 3), (41, .iconst (-1), 1), (42, .goto 36, 3), (45, .aload_n 0, 1), (46, .aload_n 0, 1), (47, .getfield 21, 3), (50, .iload_n 1, 1), (51, .iaload, 1), (52, .invokevirtual 181, 3), (55, .ifCond .eq 12, 3), (58, .aload_n 0, 1), (59, .getfield 21, 3), (62, .iload_n 1, 1), (63, .iaload, 1), (64, .goto 14, 3), (67, .aload_n 0, 1), (68, .getfield 52, 3), (71, .aload_n 0, 1), (72, .getfield 21, 3), (75, .iload_n 1, 1), (76, .iaload, 1), (77, .iaload, 1), (78, .iastore, 1), (79, .aload_n 0, 1), (80, .getfield 45, 3), (83, .iload_n 1, 1), (84, .iload_n 1, 1), (85, .ifCond .ne 21, 3), (88, .aload_n 0, 1), (89, .iconst 0, 1), (90, .iconst 0, 1), (91, .invokevirtual 168, 3), (94, .iconst 2, 1), (95, .if_icmp .ne 7, 3), (98, .iconst 2, 1), (99, .goto 12, 3), (102, .iconst 1, 1), (103, .goto 8, 3), (106, .aload_n 0, 1), (107, .iload_n 1, 1), (108, .invokevirtual 184, 3), (111, .iastore, 1), (112, .aload_n 0, 1), (113, .getfield 48, 3), (116, .iload_n 1, 1), (117, .iload_n 1, 1), (118, .ifCond .le 39, 3), (121, .aload_n 0, 1), (122, .iload_n 1, 1), (123, .invokevirtual 181, 3), (126, .ifCond .eq 31, 3), (129, .aload_n 0, 1), (130, .getfield 45, 3), (133, .aload_n 0, 1), (134, .getfield 21, 3), (137, .iload_n 1, 1), (138, .iaload, 1), (139, .iaload, 1), (140, .iconst 1, 1), (141, .if_icmp .ne 16, 3), (144, .aload_n 0, 1), (145, .iload_n 1, 1), (146, .iconst 1, 1), (147, .invokevirtual 168, 3), (150, .ifCond .le 7, 3), (153, .iconst 1, 1), (154, .goto 4, 3), (157, .iconst 0, 1), (158, .bastore, 1), (159, .aload_n 0, 1), (160, .iload_n 1, 1), (161, .iconst 0, 1), (162, .invokevirtual 187, 3), (165, .istore_n 1, 1), (166, .goto (-159), 3), (169, .aload_n 0, 1), (170, .getfield 178, 3), (173, .iconst 1, 1), (174, .isub, 1), (175, .istore_n 1, 1), (176, .iload_n 1, 1), (177, .ifCond .lt 33, 3), (180, .aload_n 0, 1), (181, .getfield 17, 3), (184, .aload_n 0, 1), (185, .getfield 73, 3), (188, .iload_n 1, 1), (189, .iaload, 1), (190, .iaload, 1), (191, .ifCond .ne 13, 3), (194, .aload_n 0, 1), (195, .aload_n 0, 1), (196, .getfield 73, 3), (199, .iload_n 1, 1), (200, .iaload, 1), (201, .invokevirtual 190, 3), (204, .iinc 1 (-1), 3), (207, .goto (-31), 3), (210, .return_, 1)]
theorem D116_ok : am_dec prog_12_method_21_code D116 = true := by decide +kernel
abbrev I116 : am_I := (9, prog_12_method_21_code, 2, none, false)
/-- LineFlowModel.isBox (I)Z -/
def D117 : List (Nat × Instr × Nat) := [(0, .aload_n 0, 1), (1, .getfield 45, 3), (4, .iload_n 1, 1), (5, .iaload, 1), (6, .iconst 1, 1), (7, .if_icmp .eq 13, 3), (10, .aload_n 0, 1), (11, .getfield 45, 3), (14, .iload_n 1, 1), (15, .iaload, 1), (16, .iconst 2, 1), (17, .if_icmp .ne 7, 3), (20, .iconst 1, 1), (21, .goto 4, 3), (24, .iconst 0, 1), (25, .ireturn, 1)]
theorem D117_ok : am_dec prog_12_method_17_code D117 = true := by decide +kernel
abbrev I117 : am_I := (9, prog_12_method_17_code, 2, some FieldType.boolean, false)
/-- LineFlowModel.of (II)I -/
def D118 : List (Nat × Instr × Nat) := [(0, .aload_n 0, 1), (1, .getfield 36, 3), (4, .bipush 9, 2), (6, .iload_n 1, 1), (7, .imul, 1), (8, .iload_n 2, 1), (9, .iadd, 1), (10, .iaload, 1), (11, .ireturn, 1)]
theorem D118_ok : am_dec prog_12_method_12_code D118 = true := by decide +kernel
abbrev I118 : am_I := (9, prog_12_method_12_code, 3, some FieldType.int, false)
/-- LineFlowModel.modeOf (I)I -/
def D119 : List (Nat × Instr × Nat) := [(0, .aload_n 0, 1), (1, .getfield 45, 3), (4, .aload_n 0, 1), (5, .getfield 21, 3), (8, .iload_n 1, 1), (9, .iaload, 1), (10, .iaload, 1), (11, .istore_n 2, 1), (12, .aload_n 0, 1), (13, .iload_n 1, 1), (14, .iconst 0, 1), (15, .invokevirtual 168, 3), (18, .istore_n 3, 1), (19, .iload_n 2, 1), (20, .ifCond .eq 8, 3), (23, .iload_n 3, 1), (24, .iconst 3, 1), (25, .if_icmp .ne 5, 3), (28, .iconst 0, 1), (29, .ireturn, 1), (30, .aload_n 0, 1), (31, .getfield 17, 3), (34, .iload_n 1, 1), (35, .iaload, 1), (36, .iconst 1, 1), (37, .if_icmp .ne 15, 3), (40, .iload_n 2, 1), (41, .iconst 2, 1), (42, .if_icmp .ne 7, 3), (45, .iconst 0, 1), (46, .goto 5, 3), (49, .bipush 6, 2), (51, .ireturn, 1), (52, .aload_n 0, 1), (53, .getfield 17, 3), (56, .iload_n 1, 1), (57, .iaload, 1), (58, .iconst 2, 1), (59, .if_icmp .ne 14, 3), (62, .iload_n 2, 1), (63, .iconst 2, 1), (64, .if_icmp .ne 7, 3), (67, .iconst 0, 1), (68, .goto 4, 3), (71, .iconst 5, 1), (72, .ireturn, 1), (73, .aload_n 0, 1), (74, .getfield 17, 3), (77, .iload_n 1, 1), (78, .iaload, 1), (79, .iconst 3, 1), (80, .if_icmp .ne 5, 3), (83, .iconst 4, 1), (84, .ireturn, 1), (85, .iload_n 2, 1), (86, .iconst 3, 1), (87, .if_icmp .ne 5, 3), (90, .iconst 3, 1), (91, .ireturn, 1), (92, .iload_n 2, 1), (93, .iconst 1, 1), (94, .if_icmp .ne 16, 3), (97, .aload_n 0, 1), (98, .iload_n 1, 1), (99, .iconst 1, 1), (100, .invokevirtual 168, 3), (103, .ifCond .le 7, 3), (106, .iconst 1, 1), (107, .goto 4, 3), (110, .iconst 0, 1), (111, .istore 4, 2), (113, .iload_n 2, 1), (114, .iconst 1, 1), (115, .if_icmp .ne 15, 3), (118, .iload 4, 2), (120, .ifCond .ne 10, 3), (123, .iload_n 3, 1), (124, .iconst 1, 1), (125, .if_icmp .ne 5, 3), (128, .iconst 3, 1), (129, .ireturn, 1), (130, .iload_n 3, 1), (131, .iconst 2, 1), (132, .if_icmp .ne 7, 3), (135, .iconst 2, 1), (136, .goto 4, 3), (139, .iconst 1, 1), (140, .ireturn, 1)]
theorem D119_ok : am_dec prog_12_method_20_code D119 = true := by decide +kernel
abbrev I119 : am_I := (9, prog_12_method_20_code, 5, some FieldType.int, false)
/-- LineFlowModel.after (II)I -/
def D120 : List (Nat × Instr × Nat) := [(0, .aload_n 0, 1), (1, .getfield 24, 3), (4, .iload_n 1, 1), (5, .iaload, 1), (6, .iconst (-1), 1), (7, .if_icmp .eq 12, 3), (10, .aload_n 0, 1), (11, .getfield 24, 3), (14, .iload_n 1, 1), (15, .iaload, 1), (16, .goto 9, 3), (19, .aload_n 0, 1), (20, .iload_n 1, 1), (21, .iload_n 2, 1), (22, .invokevirtual 164, 3), (25, .ireturn, 1)]
theorem D120_ok : am_dec prog_12_method_14_code D120 = true := by decide +kernel
abbrev I120 : am_I := (9, prog_12_method_14_code, 3, some FieldType.int, false)
/-- LineFlowModel.behind (II)I -/
def D121 : List (Nat × Instr × Nat) := [(0, .iload_n 1, 1), (1, .istore_n 3, 1), (2, .iload_n 3, 1), (3, .iload_n 2, 1), (4, .if_icmp .eq 23, 3), (7, .aload_n 0, 1), (8, .getfield 30, 3), (11, .iload_n 3, 1), (12, .iaload, 1), (13, .iconst (-1), 1), (14, .if_icmp .ne 13, 3), (17, .aload_n 0, 1), (18, .getfield 21, 3), (21, .iload_n 3, 1), (22, .iaload, 1), (23, .istore_n 3, 1), (24, .goto (-22), 3), (27, .iload_n 3, 1), (28, .iload_n 2, 1), (29, .if_icmp .ne 7, 3), (32, .iconst (-1), 1), (33, .goto 9, 3), (36, .aload_n 0, 1), (37, .getfield 30, 3), (40, .iload_n 3, 1), (41, .iaload, 1), (42, .ireturn, 1)]
theorem D121_ok : am_dec prog_12_method_15_code D121 = true := by decide +kernel
abbrev I121 : am_I := (9, prog_12_method_15_code, 4, some FieldType.int, false)
/-- LineFlowModel.margins (I)V -/
def D122 : List (Nat × Instr × Nat) := [(0, .aload_n 0, 1), (1, .getfield 67, 3), (4, .iload_n 1, 1), (5, .aload_n 0, 1), (6, .iload_n 1, 1), (7, .iconst 4, 1), (8, .invokevirtual 168, 3), (11, .iastore, 1), (12, .aload_n 0, 1), (13, .getfield 70, 3), (16, .iload_n 1, 1), (17, .aload_n 0, 1), (18, .iload_n 1, 1), (19, .iconst 4, 1), (20, .invokevirtual 168, 3), (23, .iastore, 1), (24, .aload_n 0, 1), (25, .iload_n 1, 1), (26, .invokevirtual 193, 3), (29, .ifCond .ne 4, 3), (32, .return_, 1), (33, .iconst (-1), 1), (34, .istore_n 2, 1), (35, .iconst (-1), 1), (36, .istore_n 3, 1), (37, .aload_n 0, 1), (38, .getfield 24, 3), (41, .iload_n 1, 1), (42, .iaload, 1), (43, .istore 4, 2), (45, .iload 4, 2), (47, .iconst (-1), 1), (48, .if_icmp .eq 44, 3), (51, .aload_n 0, 1), (52, .iload 4, 2), (54, .iconst 0, 1), (55, .invokevirtual 168, 3), (58, .iconst 3, 1), (59, .if_icmp .ne 6, 3), (62, .goto 18, 3), (65, .iload_n 2, 1), (66, .iconst (-1), 1), (67, .if_icmp .ne 8, 3), (70, .iload 4, 2), (72, .goto 4, 3), (75, .iload_n 2, 1), (76, .istore_n 2, 1), (77, .iload 4, 2), (79, .istore_n 3, 1), (80, .aload_n 0, 1), (81, .getfield 30, 3), (84, .iload 4, 2), (86, .iaload, 1), (87, .istore 4, 2), (89, .goto (-44), 3), (92, .iload_n 2, 1), (93, .iconst (-1), 1), (94, .if_icmp .ne 4, 3), (97, .return_, 1), (98, .aload_n 0, 1), (99, .iload_n 2, 1), (100, .invokevirtual 196, 3), (103, .ifCond .eq 24, 3), (106, .aload_n 0, 1), (107, .getfield 67, 3), (110, .iload_n 1, 1), (111, .aload_n 0, 1), (112, .getfield 67, 3), (115, .iload_n 1, 1), (116, .iaload, 1), (117, .aload_n 0, 1), (118, .getfield 67, 3), (121, .iload_n 2, 1), (122, .iaload, 1), (123, .invokestatic 175, 3), (126, .iastore, 1), (127, .aload_n 0, 1), (128, .iload_n 3, 1), (129, .invokevirtual 196, 3), (132, .ifCond .eq 34, 3), (135, .aload_n 0, 1), (136, .iload_n 1, 1), (137, .iconst 3, 1), (138, .invokevirtual 168, 3), (141, .iconst (-1), 1), (142, .if_icmp .ne 24, 3), (145, .aload_n 0, 1), (146, .getfield 70, 3), (149, .iload_n 1, 1), (150, .aload_n 0, 1), (151, .getfield 70, 3), (154, .iload_n 1, 1), (155, .iaload, 1), (156, .aload_n 0, 1), (157, .getfield 70, 3), (160, .iload_n 3, 1), (161, .iaload, 1), (162, .invokestatic 175, 3), (165, .iastore, 1), (166, .return_, 1)]
theorem D122_ok : am_dec prog_12_method_22_code D122 = true := by decide +kernel
abbrev I122 : am_I := (9, prog_12_method_22_code, 5, none, false)
/-- LineFlowModel.joins (I)Z -/
def D123 : List (Nat × Instr × Nat) := [(0, .iload_n 1, 1), (1, .ifCond .le 46, 3), (4, .aload_n 0, 1), (5, .iload_n 1, 1), (6, .invokevirtual 196, 3), (9, .ifCond .eq 38, 3), (12, .aload_n 0, 1), (13, .iload_n 1, 1), (14, .iconst 0, 1), (15, .invokevirtual 168, 3), (18, .ifCond .ne 29, 3), (21, .aload_n 0, 1), (22, .iload_n 1, 1), (23, .invokevirtual 171, 3), (26, .ifCond .ne 21, 3), (29, .aload_n 0, 1), (30, .aload_n 0, 1), (31, .getfield 21, 3), (34, .iload_n 1, 1), (35, .iaload, 1), (36, .iconst 0, 1), (37, .invokevirtual 168, 3), (40, .ifCond .ne 7, 3), (43, .iconst 1, 1), (44, .goto 4, 3), (47, .iconst 0, 1), (48, .ireturn, 1)]
theorem D123_ok : am_dec prog_12_method_40_code D123 = true := by decide +kernel
abbrev I123 : am_I := (9, prog_12_method_40_code, 2, some FieldType.boolean, false)
/-- LineFlowModel.isBlock (I)Z -/
def D124 : List (Nat × Instr × Nat) := [(0, .aload_n 0, 1), (1, .getfield 17, 3), (4, .iload_n 1, 1), (5, .iaload, 1), (6, .ifCond .ne 35, 3), (9, .aload_n 0, 1), (10, .iload_n 1, 1), (11, .iconst 1, 1), (12, .invokevirtual 168, 3), (15, .ifCond .ne 26, 3), (18, .aload_n 0, 1), (19, .iload_n 1, 1), (20, .iconst 0, 1), (21, .invokevirtual 168, 3), (24, .ifCond .eq 13, 3), (27, .aload_n 0, 1), (28, .iload_n 1, 1), (29, .iconst 0, 1), (30, .invokevirtual 168, 3), (33, .iconst 2, 1), (34, .if_icmp .ne 7, 3), (37, .iconst 1, 1), (38, .goto 4, 3), (41, .iconst 0, 1), (42, .ireturn, 1)]
theorem D124_ok : am_dec prog_12_method_39_code D124 = true := by decide +kernel
abbrev I124 : am_I := (9, prog_12_method_39_code, 2, some FieldType.boolean, false)
/-- LineFlowModel.edges (I)I -/
def D125 : List (Nat × Instr × Nat) := [(0, .aload_n 0, 1), (1, .iload_n 1, 1), (2, .iconst 5, 1), (3, .invokevirtual 168, 3), (6, .aload_n 0, 1), (7, .iload_n 1, 1), (8, .bipush 6, 2), (10, .invokevirtual 168, 3), (13, .iadd, 1), (14, .ireturn, 1)]
theorem D125_ok : am_dec prog_12_method_18_code D125 = true := by decide +kernel
abbrev I125 : am_I := (9, prog_12_method_18_code, 2, some FieldType.int, false)
/-- LineFlowModel.more (II)I -/
def D126 : List (Nat × Instr × Nat) := [(0, .iload_n 0, 1), (1, .iload_n 1, 1), (2, .if_icmp .le 7, 3), (5, .iload_n 0, 1), (6, .goto 4, 3), (9, .iload_n 1, 1), (10, .ireturn, 1)]
theorem D126_ok : am_dec prog_12_method_47_code D126 = true := by decide +kernel
abbrev I126 : am_I := (9, prog_12_method_47_code, 2, some FieldType.int, false)
/-- LineFlowModel.widen (I)V -/
def D127 : List (Nat × Instr × Nat) := [(0, .aload_n 0, 1), (1, .aload_n 0, 1), (2, .getfield 52, 3), (5, .iload_n 1, 1), (6, .iaload, 1), (7, .invokevirtual 205, 3), (10, .istore_n 2, 1), (11, .aload_n 0, 1), (12, .iload_n 1, 1), (13, .iload_n 2, 1), (14, .invokevirtual 208, 3), (17, .istore_n 3, 1), (18, .aload_n 0, 1), (19, .getfield 45, 3), (22, .iload_n 1, 1), (23, .iaload, 1), (24, .iconst 4, 1), (25, .if_icmp .ne 48, 3), (28, .aload_n 0, 1), (29, .getfield 61, 3), (32, .iload_n 1, 1), (33, .iload_n 3, 1), (34, .iconst (-1), 1), (35, .if_icmp .ne 8, 3), (38, .bipush 8, 2), (40, .goto 4, 3), (43, .iload_n 3, 1), (44, .iastore, 1), (45, .aload_n 0, 1), (46, .getfield 64, 3), (49, .iload_n 1, 1), (50, .aload_n 0, 1), (51, .iload_n 1, 1), (52, .iconst 3, 1), (53, .invokevirtual 168, 3), (56, .iconst (-1), 1), (57, .if_icmp .ne 8, 3), (60, .bipush 8, 2), (62, .goto 9, 3), (65, .aload_n 0, 1), (66, .iload_n 1, 1), (67, .iconst 3, 1), (68, .invokevirtual 168, 3), (71, .iastore, 1), (72, .return_, 1), (73, .iconst 2, 1), (74, .aload_n 0, 1), (75, .iload_n 1, 1), (76, .invokevirtual 171, 3), (79, .imul, 1), (80, .istore 4, 2), (82, .iload_n 3, 1), (83, .iconst (-1), 1), (84, .if_icmp .ne 63, 3), (87, .iload_n 2, 1), (88, .iconst 2, 1), (89, .aload_n 0, 1), (90, .iload_n 1, 1), (91, .iconst 4, 1), (92, .invokevirtual 168, 3), (95, .imul, 1), (96, .isub, 1), (97, .istore_n 3, 1), (98, .aload_n 0, 1), (99, .getfield 48, 3), (102, .iload_n 1, 1), (103, .baload, 1), (104, .ifCond .eq 19, 3), (107, .iload_n 3, 1), (108, .aload_n 0, 1), (109, .iload_n 1, 1), (110, .invokevirtual 211, 3), (113, .iload 4, 2), (115, .iadd, 1), (116, .invokestatic 214, 3), (119, .istore_n 3, 1), (120, .goto 27, 3), (123, .aload_n 0, 1), (124, .getfield 45, 3), (127, .aload_n 0, 1), (128, .getfield 52, 3), (131, .iload_n 1, 1), (132, .iaload, 1), (133, .iaload, 1), (134, .iconst 2, 1), (135, .if_icmp .ne 12, 3), (138, .aload_n 0, 1), (139, .iload_n 1, 1), (140, .invokevirtual 211, 3), (143, .iload 4, 2), (145, .iadd, 1), (146, .istore_n 3, 1), (147, .aload_n 0, 1), (148, .getfield 61, 3), (151, .iload_n 1, 1), (152, .iload_n 3, 1), (153, .iload 4, 2), (155, .invokestatic 175, 3), (158, .iastore, 1), (159, .return_, 1)]
theorem D127_ok : am_dec prog_12_method_25_code D127 = true := by decide +kernel
abbrev I127 : am_I := (9, prog_12_method_25_code, 5, none, false)
/-- LineFlowModel.inner (I)I -/
def D128 : List (Nat × Instr × Nat) := [(0, .iconst 0, 1), (1, .aload_n 0, 1), (2, .getfield 61, 3), (5, .iload_n 1, 1), (6, .iaload, 1), (7, .iconst 2, 1), (8, .aload_n 0, 1), (9, .iload_n 1, 1), (10, .invokevirtual 171, 3), (13, .imul, 1), (14, .isub, 1), (15, .invokestatic 175, 3), (18, .ireturn, 1)]
theorem D128_ok : am_dec prog_12_method_19_code D128 = true := by decide +kernel
abbrev I128 : am_I := (9, prog_12_method_19_code, 2, some FieldType.int, false)
/-- LineFlowModel.told (II)I -/
def D129 : List (Nat × Instr × Nat) := [(0, .aload_n 0, 1), (1, .iload_n 1, 1), (2, .iconst 2, 1), (3, .invokevirtual 168, 3), (6, .istore_n 3, 1), (7, .iload_n 3, 1), (8, .sipush 1000, 3), (11, .if_icmp .lt 16, 3), (14, .iload_n 2, 1), (15, .iload_n 3, 1), (16, .sipush 1000, 3), (19, .isub, 1), (20, .imul, 1), (21, .bipush 100, 2), (23, .idiv, 1), (24, .goto 4, 3), (27, .iload_n 3, 1), (28, .ireturn, 1)]
theorem D129_ok : am_dec prog_12_method_24_code D129 = true := by decide +kernel
abbrev I129 : am_I := (9, prog_12_method_24_code, 4, some FieldType.int, false)
/-- LineFlowModel.oneLine (I)I -/
def D130 : List (Nat × Instr × Nat) := [(0, .iconst 0, 1), (1, .istore_n 2, 1), (2, .iconst 0, 1), (3, .istore_n 3, 1), (4, .iconst 0, 1), (5, .istore 4, 2), (7, .aload_n 0, 1), (8, .iload_n 1, 1), (9, .bipush 8, 2), (11, .invokevirtual 168, 3), (14, .istore 5, 2), (16, .iload_n 1, 1), (17, .istore 6, 2), (19, .iload 6, 2), (21, .iconst (-1), 1), (22, .if_icmp .eq 94, 3), (25, .iconst 0, 1), (26, .istore 7, 2), (28, .iload 7, 2), (30, .aload_n 0, 1), (31, .getfield 42, 3), (34, .iload 6, 2), (36, .iaload, 1), (37, .if_icmp .ge 67, 3), (40, .aload_n 0, 1), (41, .getfield 39, 3), (44, .bipush 120, 2), (46, .iload 6, 2), (48, .imul, 1), (49, .iload 7, 2), (51, .iadd, 1), (52, .baload, 1), (53, .istore 8, 2), (55, .iload 8, 2), (57, .invokestatic 199, 3), (60, .ifCond .eq 20, 3), (63, .iload 4, 2), (65, .ifCond .eq 33, 3), (68, .iload_n 3, 1), (69, .ifCond .ne 29, 3), (72, .iconst 3, 1), (73, .iload 5, 2), (75, .imul, 1), (76, .istore_n 3, 1), (77, .goto 21, 3), (80, .iload_n 2, 1), (81, .iload_n 3, 1), (82, .iload 8, 2), (84, .invokestatic 202, 3), (87, .iload 5, 2), (89, .imul, 1), (90, .iadd, 1), (91, .iadd, 1), (92, .istore_n 2, 1), (93, .iconst 0, 1), (94, .istore_n 3, 1), (95, .iconst 1, 1), (96, .istore 4, 2), (98, .iinc 7 1, 3), (101, .goto (-73), 3), (104, .aload_n 0, 1), (105, .iload 6, 2), (107, .iload_n 1, 1), (108, .invokevirtual 187, 3), (111, .istore 6, 2), (113, .goto (-94), 3), (116, .iload_n 2, 1), (117, .ireturn, 1)]
theorem D130_ok : am_dec prog_12_method_23_code D130 = true := by decide +kernel
abbrev I130 : am_I := (9, prog_12_method_23_code, 9, some FieldType.int, false)
/-- LineFlowModel.isBlank (I)Z -/
def D131 : List (Nat × Instr × Nat) := [(0, .iload_n 0, 1), (1, .bipush 10, 2), (3, .if_icmp .eq 9, 3), (6, .iload_n 0, 1), (7, .bipush 32, 2), (9, .if_icmp .ne 7, 3), (12, .iconst 1, 1), (13, .goto 4, 3), (16, .iconst 0, 1), (17, .ireturn, 1)]
theorem D131_ok : am_dec prog_12_method_13_code D131 = true := by decide +kernel
abbrev I131 : am_I := (9, prog_12_method_13_code, 1, some FieldType.boolean, false)
/-- LineFlowModel.glyph (I)I -/
def D132 : List (Nat × Instr × Nat) := [(0, .iload_n 0, 1), (1, .bipush 105, 2), (3, .if_icmp .eq 57, 3), (6, .iload_n 0, 1), (7, .bipush 108, 2), (9, .if_icmp .eq 51, 3), (12, .iload_n 0, 1), (13, .bipush 106, 2), (15, .if_icmp .eq 45, 3), (18, .iload_n 0, 1), (19, .bipush 46, 2), (21, .if_icmp .eq 39, 3), (24, .iload_n 0, 1), (25, .bipush 44, 2), (27, .if_icmp .eq 33, 3), (30, .iload_n 0, 1), (31, .bipush 39, 2), (33, .if_icmp .eq 27, 3), (36, .iload_n 0, 1), (37, .bipush 58, 2), (39, .if_icmp .eq 21, 3), (42, .iload_n 0, 1), (43, .bipush 59, 2), (45, .if_icmp .eq 15, 3), (48, .iload_n 0, 1), (49, .bipush 33, 2), (51, .if_icmp .eq 9, 3), (54, .iload_n 0, 1), (55, .bipush 124, 2), (57, .if_icmp .ne 5, 3), (60, .iconst 2, 1), (61, .ireturn, 1), (62, .iload_n 0, 1), (63, .bipush 109, 2), (65, .if_icmp .eq 27, 3), (68, .iload_n 0, 1), (69, .bipush 119, 2), (71, .if_icmp .eq 21, 3), (74, .iload_n 0, 1), (75, .bipush 77, 2), (77, .if_icmp .eq 15, 3), (80, .iload_n 0, 1), (81, .bipush 87, 2), (83, .if_icmp .eq 9, 3), (86, .iload_n 0, 1), (87, .bipush 64, 2), (89, .if_icmp .ne 7, 3), (92, .iconst 5, 1), (93, .goto 4, 3), (96, .iconst 4, 1), (97, .ireturn, 1)]
theorem D132_ok : am_dec prog_12_method_16_code D132 = true := by decide +kernel
abbrev I132 : am_I := (9, prog_12_method_16_code, 1, some FieldType.int, false)
/-- LineFlowModel.less (II)I -/
def D133 : List (Nat × Instr × Nat) := [(0, .iload_n 0, 1), (1, .iload_n 1, 1), (2, .if_icmp .ge 7, 3), (5, .iload_n 0, 1), (6, .goto 4, 3), (9, .iload_n 1, 1), (10, .ireturn, 1)]
theorem D133_ok : am_dec prog_12_method_48_code D133 = true := by decide +kernel
abbrev I133 : am_I := (9, prog_12_method_48_code, 2, some FieldType.int, false)
/-- LineFlowModel.split (I)V -/
def D134 : List (Nat × Instr × Nat) := [(0, .aload_n 0, 1), (1, .iload_n 1, 1), (2, .bipush 8, 2), (4, .invokevirtual 168, 3), (7, .istore_n 2, 1), (8, .iconst 0, 1), (9, .istore_n 3, 1), (10, .iload_n 3, 1), (11, .aload_n 0, 1), (12, .getfield 42, 3), (15, .iload_n 1, 1), (16, .iaload, 1), (17, .if_icmp .ge 160, 3), (20, .aload_n 0, 1), (21, .getfield 39, 3), (24, .bipush 120, 2), (26, .iload_n 1, 1), (27, .imul, 1), (28, .iload_n 3, 1), (29, .iadd, 1), (30, .baload, 1), (31, .invokestatic 199, 3), (34, .ifCond .eq 9, 3), (37, .iinc 3 1, 3), (40, .goto (-30), 3), (43, .aload_n 0, 1), (44, .getfield 94, 3), (47, .aload_n 0, 1), (48, .getfield 153, 3), (51, .iload_n 1, 1), (52, .iastore, 1), (53, .aload_n 0, 1), (54, .getfield 97, 3), (57, .aload_n 0, 1), (58, .getfield 153, 3), (61, .iload_n 3, 1), (62, .iastore, 1), (63, .aload_n 0, 1), (64, .getfield 112, 3), (67, .aload_n 0, 1), (68, .getfield 153, 3), (71, .bipush 7, 2), (73, .iload_n 2, 1), (74, .imul, 1), (75, .iastore, 1), (76, .iconst 0, 1), (77, .istore 4, 2), (79, .iload_n 3, 1), (80, .aload_n 0, 1), (81, .getfield 42, 3), (84, .iload_n 1, 1), (85, .iaload, 1), (86, .if_icmp .ge 47, 3), (89, .aload_n 0, 1), (90, .getfield 39, 3), (93, .bipush 120, 2), (95, .iload_n 1, 1), (96, .imul, 1), (97, .iload_n 3, 1), (98, .iadd, 1), (99, .baload, 1), (100, .invokestatic 199, 3), (103, .ifCond .ne 30, 3), (106, .iload 4, 2), (108, .aload_n 0, 1), (109, .getfield 39, 3), (112, .bipush 120, 2), (114, .iload_n 1, 1), (115, .imul, 1), (116, .iload_n 3, 1), (117, .iadd, 1), (118, .baload, 1), (119, .invokestatic 202, 3), (122, .iload_n 2, 1), (123, .imul, 1), (124, .iadd, 1), (125, .istore 4, 2), (127, .iinc 3 1, 3), (130, .goto (-51), 3), (133, .aload_n 0, 1), (134, .getfield 100, 3), (137, .aload_n 0, 1), (138, .getfield 153, 3), (141, .iload_n 3, 1), (142, .aload_n 0, 1), (143, .getfield 97, 3), (146, .aload_n 0, 1), (147, .getfield 153, 3), (150, .iaload, 1), (151, .isub, 1), (152, .iastore, 1), (153, .aload_n 0, 1), (154, .getfield 109, 3), (157, .aload_n 0, 1), (158, .getfield 153, 3), (161, .iload 4, 2), (163, .iastore, 1), (164, .aload_n 0, 1), (165, .dup, 1), (166, .getfield 153, 3), (169, .iconst 1, 1), (170, .iadd, 1), (171, .putfield 153, 3), (174, .goto (-164), 3), (177, .return_, 1)]
theorem D134_ok : am_dec prog_12_method_26_code D134 = true := by decide +kernel
abbrev I134 : am_I := (9, prog_12_method_26_code, 5, none, false)
/-- LineFlowModel.layBlock (I)V -/
def D135 : List (Nat × Instr × Nat) := [(0, .aload_n 0, 1), (1, .aload_n 0, 1), (2, .iload_n 1, 1), (3, .invokevirtual 205, 3), (6, .putfield 238, 3), (9, .aload_n 0, 1), (10, .aload_n 0, 1), (11, .iload_n 1, 1), (12, .bipush 7, 2), (14, .invokevirtual 168, 3), (17, .putfield 263, 3), (20, .aload_n 0, 1), (21, .iconst 0, 1), (22, .putfield 244, 3), (25, .iconst 0, 1), (26, .istore_n 2, 1), (27, .iconst (-1), 1), (28, .istore_n 3, 1), (29, .iconst 0, 1), (30, .istore 4, 2), (32, .iconst (-1), 1), (33, .istore 5, 2), (35, .iconst 1, 1), (36, .istore 6, 2), (38, .iconst 0, 1), (39, .istore 7, 2), (41, .aload_n 0, 1), (42, .getfield 24, 3), (45, .iload_n 1, 1), (46, .iaload, 1), (47, .istore 8, 2), (49, .iload 8, 2), (51, .iconst (-1), 1), (52, .if_icmp .eq 29, 3), (55, .aload_n 0, 1), (56, .getfield 45, 3), (59, .iload 8, 2), (61, .iaload, 1), (62, .ifCond .eq 7, 3), (65, .iload 8, 2), (67, .istore 5, 2), (69, .aload_n 0, 1), (70, .getfield 30, 3), (73, .iload 8, 2), (75, .iaload, 1), (76, .istore 8, 2), (78, .goto (-29), 3), (81, .aload_n 0, 1), (82, .getfield 24, 3), (85, .iload_n 1, 1), (86, .iaload, 1), (87, .istore 8, 2), (89, .iload 8, 2), (91, .iconst (-1), 1), (92, .if_icmp .eq 358, 3), (95, .aload_n 0, 1), (96, .getfield 45, 3), (99, .iload 8, 2), (101, .iaload, 1), (102, .ifCond .ne 15, 3), (105, .aload_n 0, 1), (106, .getfield 30, 3), (109, .iload 8, 2), (111, .iaload, 1), (112, .istore 8, 2), (114, .goto (-25), 3), (117, .aload_n 0, 1), (118, .iload 8, 2), (120, .invokevirtual 181, 3), (123, .ifCond .eq 208, 3), (126, .aload_n 0, 1), (127, .getfield 48, 3), (130, .iload 8, 2), (132, .baload, 1), (133, .ifCond .ne 198, 3), (136, .iload 6, 2), (138, .ifCond .eq 15, 3), (141, .aload_n 0, 1), (142, .iload_n 1, 1), (143, .invokevirtual 193, 3), (146, .ifCond .eq 7, 3), (149, .iconst 1, 1), (150, .goto 4, 3), (153, .iconst 0, 1), (154, .istore 9, 2), (156, .iload 9, 2), (158, .ifCond .eq 7, 3), (161, .iconst 0, 1), (162, .goto 10, 3), (165, .aload_n 0, 1), (166, .getfield 67, 3), (169, .iload 8, 2), (171, .iaload, 1), (172, .istore 10, 2), (174, .iload_n 3, 1), (175, .iconst (-1), 1), (176, .if_icmp .ne 10, 3), (179, .iload_n 2, 1), (180, .iload 10, 2), (182, .iadd, 1), (183, .goto 17, 3), (186, .iload 4, 2), (188, .aload_n 0, 1), (189, .getfield 70, 3), (192, .iload_n 3, 1), (193, .iaload, 1), (194, .iload 10, 2), (196, .invokestatic 175, 3), (199, .iadd, 1), (200, .istore 11, 2), (202, .iconst 0, 1), (203, .istore 12, 2), (205, .iload 12, 2), (207, .aload_n 0, 1), (208, .getfield 244, 3), (211, .if_icmp .ge 23, 3), (214, .iload 11, 2), (216, .aload_n 0, 1), (217, .getfield 130, 3), (220, .iload 12, 2), (222, .iaload, 1), (223, .invokestatic 175, 3), (226, .istore 11, 2), (228, .iinc 12 1, 3), (231, .goto (-26), 3), (234, .aload_n 0, 1), (235, .getfield 55, 3), (238, .iload 8, 2), (240, .aload_n 0, 1), (241, .iload 8, 2), (243, .iconst 4, 1), (244, .invokevirtual 168, 3), (247, .iastore, 1), (248, .aload_n 0, 1), (249, .getfield 58, 3), (252, .iload 8, 2), (254, .iload 11, 2), (256, .iastore, 1), (257, .iload 11, 2), (259, .aload_n 0, 1), (260, .getfield 64, 3), (263, .iload 8, 2), (265, .iaload, 1), (266, .iadd, 1), (267, .istore_n 2, 1), (268, .iload 8, 2), (270, .istore_n 3, 1), (271, .iload_n 2, 1), (272, .istore 4, 2), (274, .iload 7, 2), (276, .iload_n 2, 1), (277, .iload 8, 2), (279, .iload 5, 2), (281, .if_icmp .ne 25, 3), (284, .aload_n 0, 1), (285, .iload_n 1, 1), (286, .invokevirtual 193, 3), (289, .ifCond .eq 17, 3), (292, .aload_n 0, 1), (293, .iload_n 1, 1), (294, .iconst 3, 1), (295, .invokevirtual 168, 3), (298, .iconst (-1), 1), (299, .if_icmp .ne 7, 3), (302, .iconst 0, 1), (303, .goto 10, 3), (306, .aload_n 0, 1), (307, .getfield 70, 3), (310, .iload 8, 2), (312, .iaload, 1), (313, .iadd, 1), (314, .invokestatic 175, 3), (317, .istore 7, 2), (319, .aload_n 0, 1), (320, .getfield 30, 3), (323, .iload 8, 2), (325, .iaload, 1), (326, .istore 8, 2), (328, .goto 116, 3), (331, .aload_n 0, 1), (332, .iload_n 3, 1), (333, .iconst (-1), 1), (334, .if_icmp .ne 7, 3), (337, .iload_n 2, 1), (338, .goto 12, 3), (341, .iload 4, 2), (343, .aload_n 0, 1), (344, .getfield 70, 3), (347, .iload_n 3, 1), (348, .iaload, 1), (349, .iadd, 1), (350, .putfield 251, 3), (353, .aload_n 0, 1), (354, .iconst 0, 1), (355, .putfield 266, 3), (358, .aload_n 0, 1), (359, .iconst 0, 1), (360, .putfield 269, 3), (363, .aload_n 0, 1), (364, .iconst 0, 1), (365, .putfield 279, 3), (368, .aload_n 0, 1), (369, .iconst 0, 1), (370, .putfield 275, 3), (373, .iload 8, 2), (375, .iconst (-1), 1), (376, .if_icmp .eq 50, 3), (379, .aload_n 0, 1), (380, .iload 8, 2), (382, .invokevirtual 181, 3), (385, .ifCond .eq 13, 3), (388, .aload_n 0, 1), (389, .getfield 48, 3), (392, .iload 8, 2), (394, .baload, 1), (395, .ifCond .eq 31, 3), (398, .aload_n 0, 1), (399, .getfield 45, 3), (402, .iload 8, 2), (404, .iaload, 1), (405, .ifCond .eq 9, 3), (408, .aload_n 0, 1), (409, .iload 8, 2), (411, .invokevirtual 294, 3), (414, .aload_n 0, 1), (415, .getfield 30, 3), (418, .iload 8, 2), (420, .iaload, 1), (421, .istore 8, 2), (423, .goto (-50), 3), (426, .aload_n 0, 1), (427, .getfield 266, 3), (430, .ifCond .le 7, 3), (433, .aload_n 0, 1), (434, .invokevirtual 285, 3), (437, .aload_n 0, 1), (438, .getfield 251, 3), (441, .istore_n 2, 1), (442, .iconst (-1), 1), (443, .istore_n 3, 1), (444, .iconst 0, 1), (445, .istore 6, 2), (447, .goto (-358), 3), (450, .iload 7, 2), (452, .iload_n 2, 1), (453, .invokestatic 175, 3), (456, .istore 7, 2), (458, .iconst 0, 1), (459, .istore 9, 2), (461, .iload 9, 2), (463, .aload_n 0, 1), (464, .getfield 244, 3), (467, .if_icmp .ge 23, 3), (470, .iload 7, 2), (472, .aload_n 0, 1), (473, .getfield 130, 3), (476, .iload 9, 2), (478, .iaload, 1), (479, .invokestatic 175, 3), (482, .istore 7, 2), (484, .iinc 9 1, 3), (487, .goto (-26), 3), (490, .aload_n 0, 1), (491, .getfield 64, 3), (494, .iload_n 1, 1), (495, .aload_n 0, 1), (496, .iload_n 1, 1), (497, .iload 7, 2), (499, .invokevirtual 232, 3), (502, .iastore, 1), (503, .return_, 1)]
theorem D135_ok : am_dec prog_12_method_41_code D135 = true := by decide +kernel
abbrev I135 : am_I := (9, prog_12_method_41_code, 13, none, false)
/-- LineFlowModel.lineThing (I)V -/
def D136 : List (Nat × Instr × Nat) := [(0, .iload_n 1, 1), (1, .istore_n 2, 1), (2, .iload_n 2, 1), (3, .iconst (-1), 1), (4, .if_icmp .eq 192, 3), (7, .iconst 1, 1), (8, .istore_n 3, 1), (9, .aload_n 0, 1), (10, .iload_n 2, 1), (11, .invokevirtual 181, 3), (14, .ifCond .eq 41, 3), (17, .aload_n 0, 1), (18, .getfield 266, 3), (21, .ifCond .le 26, 3), (24, .aload_n 0, 1), (25, .getfield 136, 3), (28, .aload_n 0, 1), (29, .getfield 279, 3), (32, .iload_n 2, 1), (33, .iastore, 1), (34, .aload_n 0, 1), (35, .dup, 1), (36, .getfield 279, 3), (39, .iconst 1, 1), (40, .iadd, 1), (41, .putfield 279, 3), (44, .goto 129, 3), (47, .aload_n 0, 1), (48, .iload_n 2, 1), (49, .invokevirtual 282, 3), (52, .goto 121, 3), (55, .aload_n 0, 1), (56, .getfield 45, 3), (59, .iload_n 2, 1), (60, .iaload, 1), (61, .iconst 4, 1), (62, .if_icmp .ne 26, 3), (65, .aload_n 0, 1), (66, .iconst (-1), 1), (67, .iload_n 2, 1), (68, .isub, 1), (69, .aload_n 0, 1), (70, .getfield 61, 3), (73, .iload_n 2, 1), (74, .iaload, 1), (75, .aload_n 0, 1), (76, .iload_n 2, 1), (77, .bipush 8, 2), (79, .invokevirtual 168, 3), (82, .invokevirtual 288, 3), (85, .goto 88, 3), (88, .aload_n 0, 1), (89, .getfield 45, 3), (92, .iload_n 2, 1), (93, .iaload, 1), (94, .iconst 5, 1), (95, .if_icmp .ne 44, 3), (98, .aload_n 0, 1), (99, .getfield 266, 3), (102, .ifCond .le 10, 3), (105, .aload_n 0, 1), (106, .invokevirtual 285, 3), (109, .goto 22, 3), (112, .aload_n 0, 1), (113, .dup, 1), (114, .getfield 251, 3), (117, .bipush 7, 2), (119, .aload_n 0, 1), (120, .iload_n 2, 1), (121, .bipush 8, 2), (123, .invokevirtual 168, 3), (126, .imul, 1), (127, .iadd, 1), (128, .putfield 251, 3), (131, .aload_n 0, 1), (132, .iconst 0, 1), (133, .putfield 275, 3), (136, .goto 37, 3), (139, .aload_n 0, 1), (140, .getfield 45, 3), (143, .iload_n 2, 1), (144, .iaload, 1), (145, .bipush 6, 2), (147, .if_icmp .ne 11, 3), (150, .aload_n 0, 1), (151, .iload_n 2, 1), (152, .invokevirtual 291, 3), (155, .goto 18, 3), (158, .aload_n 0, 1), (159, .getfield 45, 3), (162, .iload_n 2, 1), (163, .iaload, 1), (164, .ifCond .ne 7, 3), (167, .iconst 1, 1), (168, .goto 4, 3), (171, .iconst 0, 1), (172, .istore_n 3, 1), (173, .iload_n 3, 1), (174, .ifCond .eq 12, 3), (177, .aload_n 0, 1), (178, .iload_n 2, 1), (179, .iload_n 1, 1), (180, .invokevirtual 164, 3), (183, .goto 9, 3), (186, .aload_n 0, 1), (187, .iload_n 2, 1), (188, .iload_n 1, 1), (189, .invokevirtual 187, 3), (192, .istore_n 2, 1), (193, .goto (-191), 3), (196, .return_, 1)]
theorem D136_ok : am_dec prog_12_method_38_code D136 = true := by decide +kernel
abbrev I136 : am_I := (9, prog_12_method_38_code, 4, none, false)
/-- LineFlowModel.putFloat (I)V -/
def D137 : List (Nat × Instr × Nat) := [(0, .aload_n 0, 1), (1, .iload_n 1, 1), (2, .iconst 4, 1), (3, .invokevirtual 168, 3), (6, .istore_n 2, 1), (7, .aload_n 0, 1), (8, .getfield 61, 3), (11, .iload_n 1, 1), (12, .iaload, 1), (13, .iconst 2, 1), (14, .iload_n 2, 1), (15, .imul, 1), (16, .iadd, 1), (17, .istore_n 3, 1), (18, .aload_n 0, 1), (19, .getfield 251, 3), (22, .istore 4, 2), (24, .iconst 0, 1), (25, .istore 5, 2), (27, .iload 5, 2), (29, .aload_n 0, 1), (30, .getfield 244, 3), (33, .if_icmp .ge 23, 3), (36, .iload 4, 2), (38, .aload_n 0, 1), (39, .getfield 127, 3), (42, .iload 5, 2), (44, .iaload, 1), (45, .invokestatic 175, 3), (48, .istore 4, 2), (50, .iinc 5 1, 3), (53, .goto (-26), 3), (56, .aload_n 0, 1), (57, .iload 4, 2), (59, .invokevirtual 254, 3), (62, .aload_n 0, 1), (63, .iload 4, 2), (65, .invokevirtual 257, 3), (68, .istore 5, 2), (70, .aload_n 0, 1), (71, .getfield 235, 3), (74, .iload_n 3, 1), (75, .iadd, 1), (76, .aload_n 0, 1), (77, .getfield 241, 3), (80, .if_icmp .le 30, 3), (83, .iload 5, 2), (85, .iconst (-1), 1), (86, .if_icmp .eq 24, 3), (89, .iload 5, 2), (91, .istore 4, 2), (93, .aload_n 0, 1), (94, .iload 4, 2), (96, .invokevirtual 254, 3), (99, .aload_n 0, 1), (100, .iload 4, 2), (102, .invokevirtual 257, 3), (105, .istore 5, 2), (107, .goto (-37), 3), (110, .aload_n 0, 1), (111, .iload_n 1, 1), (112, .iconst 1, 1), (113, .invokevirtual 168, 3), (116, .iconst 1, 1), (117, .if_icmp .ne 10, 3), (120, .aload_n 0, 1), (121, .getfield 235, 3), (124, .goto 9, 3), (127, .aload_n 0, 1), (128, .getfield 241, 3), (131, .iload_n 3, 1), (132, .isub, 1), (133, .istore 6, 2), (135, .aload_n 0, 1), (136, .getfield 121, 3), (139, .aload_n 0, 1), (140, .getfield 244, 3), (143, .iload 6, 2), (145, .iastore, 1), (146, .aload_n 0, 1), (147, .getfield 124, 3), (150, .aload_n 0, 1), (151, .getfield 244, 3), (154, .iload 6, 2), (156, .iload_n 3, 1), (157, .iadd, 1), (158, .iastore, 1), (159, .aload_n 0, 1), (160, .getfield 127, 3), (163, .aload_n 0, 1), (164, .getfield 244, 3), (167, .iload 4, 2), (169, .iastore, 1), (170, .aload_n 0, 1), (171, .getfield 130, 3), (174, .aload_n 0, 1), (175, .getfield 244, 3), (178, .iload 4, 2), (180, .aload_n 0, 1), (181, .getfield 64, 3), (184, .iload_n 1, 1), (185, .iaload, 1), (186, .iadd, 1), (187, .iconst 2, 1), (188, .iload_n 2, 1), (189, .imul, 1), (190, .iadd, 1), (191, .iastore, 1), (192, .aload_n 0, 1), (193, .getfield 133, 3), (196, .aload_n 0, 1), (197, .getfield 244, 3), (200, .aload_n 0, 1), (201, .iload_n 1, 1), (202, .iconst 1, 1), (203, .invokevirtual 168, 3), (206, .iastore, 1), (207, .aload_n 0, 1), (208, .dup, 1), (209, .getfield 244, 3), (212, .iconst 1, 1), (213, .iadd, 1), (214, .putfield 244, 3), (217, .aload_n 0, 1), (218, .getfield 55, 3), (221, .iload_n 1, 1), (222, .iload 6, 2), (224, .iload_n 2, 1), (225, .iadd, 1), (226, .iastore, 1), (227, .aload_n 0, 1), (228, .getfield 58, 3), (231, .iload_n 1, 1), (232, .iload 4, 2), (234, .iload_n 2, 1), (235, .iadd, 1), (236, .iastore, 1), (237, .return_, 1)]
theorem D137_ok : am_dec prog_12_method_33_code D137 = true := by decide +kernel
abbrev I137 : am_I := (9, prog_12_method_33_code, 7, none, false)
/-- LineFlowModel.edgesAt (I)V -/
def D138 : List (Nat × Instr × Nat) := [(0, .aload_n 0, 1), (1, .iconst 0, 1), (2, .putfield 235, 3), (5, .aload_n 0, 1), (6, .aload_n 0, 1), (7, .getfield 238, 3), (10, .putfield 241, 3), (13, .iconst 0, 1), (14, .istore_n 2, 1), (15, .iload_n 2, 1), (16, .aload_n 0, 1), (17, .getfield 244, 3), (20, .if_icmp .ge 68, 3), (23, .aload_n 0, 1), (24, .iload_n 2, 1), (25, .iload_n 1, 1), (26, .invokevirtual 247, 3), (29, .ifCond .ne 6, 3), (32, .goto 50, 3), (35, .aload_n 0, 1), (36, .getfield 133, 3), (39, .iload_n 2, 1), (40, .iaload, 1), (41, .iconst 1, 1), (42, .if_icmp .ne 23, 3), (45, .aload_n 0, 1), (46, .aload_n 0, 1), (47, .getfield 235, 3), (50, .aload_n 0, 1), (51, .getfield 124, 3), (54, .iload_n 2, 1), (55, .iaload, 1), (56, .invokestatic 175, 3), (59, .putfield 235, 3), (62, .goto 20, 3), (65, .aload_n 0, 1), (66, .aload_n 0, 1), (67, .getfield 241, 3), (70, .aload_n 0, 1), (71, .getfield 121, 3), (74, .iload_n 2, 1), (75, .iaload, 1), (76, .invokestatic 214, 3), (79, .putfield 241, 3), (82, .iinc 2 1, 3), (85, .goto (-70), 3), (88, .return_, 1)]
theorem D138_ok : am_dec prog_12_method_31_code D138 = true := by decide +kernel
abbrev I138 : am_I := (9, prog_12_method_31_code, 3, none, false)
/-- LineFlowModel.isFloatAt (II)Z -/
def D139 : List (Nat × Instr × Nat) := [(0, .aload_n 0, 1), (1, .getfield 127, 3), (4, .iload_n 1, 1), (5, .iaload, 1), (6, .iload_n 2, 1), (7, .if_icmp .gt 17, 3), (10, .iload_n 2, 1), (11, .aload_n 0, 1), (12, .getfield 130, 3), (15, .iload_n 1, 1), (16, .iaload, 1), (17, .if_icmp .ge 7, 3), (20, .iconst 1, 1), (21, .goto 4, 3), (24, .iconst 0, 1), (25, .ireturn, 1)]
theorem D139_ok : am_dec prog_12_method_30_code D139 = true := by decide +kernel
abbrev I139 : am_I := (9, prog_12_method_30_code, 3, some FieldType.boolean, false)
/-- LineFlowModel.leastEnd (I)I -/
def D140 : List (Nat × Instr × Nat) := [(0, .iconst (-1), 1), (1, .istore_n 2, 1), (2, .iconst 0, 1), (3, .istore_n 3, 1), (4, .iload_n 3, 1), (5, .aload_n 0, 1), (6, .getfield 244, 3), (9, .if_icmp .ge 40, 3), (12, .aload_n 0, 1), (13, .iload_n 3, 1), (14, .iload_n 1, 1), (15, .invokevirtual 247, 3), (18, .ifCond .eq 25, 3), (21, .iload_n 2, 1), (22, .iconst (-1), 1), (23, .if_icmp .eq 13, 3), (26, .aload_n 0, 1), (27, .getfield 130, 3), (30, .iload_n 3, 1), (31, .iaload, 1), (32, .iload_n 2, 1), (33, .if_icmp .ge 10, 3), (36, .aload_n 0, 1), (37, .getfield 130, 3), (40, .iload_n 3, 1), (41, .iaload, 1), (42, .istore_n 2, 1), (43, .iinc 3 1, 3), (46, .goto (-42), 3), (49, .iload_n 2, 1), (50, .ireturn, 1)]
theorem D140_ok : am_dec prog_12_method_32_code D140 = true := by decide +kernel
abbrev I140 : am_I := (9, prog_12_method_32_code, 4, some FieldType.int, false)
/-- LineFlowModel.putItem (III)V -/
def D141 : List (Nat × Instr × Nat) := [(0, .iconst 0, 1), (1, .istore 4, 2), (3, .iload 4, 2), (5, .ifCond .ne 183, 3), (8, .aload_n 0, 1), (9, .getfield 266, 3), (12, .ifCond .ne 19, 3), (15, .aload_n 0, 1), (16, .aload_n 0, 1), (17, .getfield 251, 3), (20, .invokevirtual 254, 3), (23, .aload_n 0, 1), (24, .aload_n 0, 1), (25, .getfield 235, 3), (28, .putfield 260, 3), (31, .aload_n 0, 1), (32, .getfield 260, 3), (35, .aload_n 0, 1), (36, .getfield 266, 3), (39, .ifCond .le 16, 3), (42, .aload_n 0, 1), (43, .getfield 275, 3), (46, .ifCond .eq 9, 3), (49, .iconst 3, 1), (50, .iload_n 3, 1), (51, .imul, 1), (52, .goto 4, 3), (55, .iconst 0, 1), (56, .iadd, 1), (57, .istore 5, 2), (59, .aload_n 0, 1), (60, .getfield 266, 3), (63, .ifCond .le 7, 3), (66, .iconst (-1), 1), (67, .goto 11, 3), (70, .aload_n 0, 1), (71, .aload_n 0, 1), (72, .getfield 251, 3), (75, .invokevirtual 257, 3), (78, .istore 6, 2), (80, .iload 5, 2), (82, .iload_n 2, 1), (83, .iadd, 1), (84, .aload_n 0, 1), (85, .getfield 241, 3), (88, .if_icmp .le 16, 3), (91, .aload_n 0, 1), (92, .getfield 266, 3), (95, .ifCond .ne 70, 3), (98, .iload 6, 2), (100, .iconst (-1), 1), (101, .if_icmp .ne 64, 3), (104, .aload_n 0, 1), (105, .getfield 115, 3), (108, .aload_n 0, 1), (109, .getfield 266, 3), (112, .iload_n 1, 1), (113, .iastore, 1), (114, .aload_n 0, 1), (115, .getfield 118, 3), (118, .aload_n 0, 1), (119, .getfield 266, 3), (122, .iload 5, 2), (124, .iastore, 1), (125, .aload_n 0, 1), (126, .dup, 1), (127, .getfield 266, 3), (130, .iconst 1, 1), (131, .iadd, 1), (132, .putfield 266, 3), (135, .aload_n 0, 1), (136, .iload 5, 2), (138, .iload_n 2, 1), (139, .iadd, 1), (140, .putfield 260, 3), (143, .aload_n 0, 1), (144, .aload_n 0, 1), (145, .getfield 269, 3), (148, .aload_n 0, 1), (149, .iload_n 1, 1), (150, .invokevirtual 272, 3), (153, .invokestatic 175, 3), (156, .putfield 269, 3), (159, .iconst 1, 1), (160, .istore 4, 2), (162, .goto 23, 3), (165, .aload_n 0, 1), (166, .getfield 266, 3), (169, .ifCond .le 10, 3), (172, .aload_n 0, 1), (173, .invokevirtual 285, 3), (176, .goto 9, 3), (179, .aload_n 0, 1), (180, .iload 6, 2), (182, .putfield 251, 3), (185, .goto (-182), 3), (188, .aload_n 0, 1), (189, .iconst 0, 1), (190, .putfield 275, 3), (193, .return_, 1)]
theorem D141_ok : am_dec prog_12_method_36_code D141 = true := by decide +kernel
abbrev I141 : am_I := (9, prog_12_method_36_code, 7, none, false)
/-- LineFlowModel.itemHigh (I)I -/
def D142 : List (Nat × Instr × Nat) := [(0, .iload_n 1, 1), (1, .ifCond .ge 14, 3), (4, .aload_n 0, 1), (5, .getfield 64, 3), (8, .iconst (-1), 1), (9, .iload_n 1, 1), (10, .isub, 1), (11, .iaload, 1), (12, .goto 18, 3), (15, .bipush 7, 2), (17, .aload_n 0, 1), (18, .aload_n 0, 1), (19, .getfield 94, 3), (22, .iload_n 1, 1), (23, .iaload, 1), (24, .bipush 8, 2), (26, .invokevirtual 168, 3), (29, .imul, 1), (30, .ireturn, 1)]
theorem D142_ok : am_dec prog_12_method_34_code D142 = true := by decide +kernel
abbrev I142 : am_I := (9, prog_12_method_34_code, 2, some FieldType.int, false)
/-- LineFlowModel.endLine ()V -/
def D143 : List (Nat × Instr × Nat) := [(0, .iconst 0, 1), (1, .aload_n 0, 1), (2, .getfield 241, 3), (5, .aload_n 0, 1), (6, .getfield 260, 3), (9, .isub, 1), (10, .invokestatic 175, 3), (13, .istore_n 1, 1), (14, .aload_n 0, 1), (15, .getfield 263, 3), (18, .ifCond .ne 7, 3), (21, .iconst 0, 1), (22, .goto 18, 3), (25, .aload_n 0, 1), (26, .getfield 263, 3), (29, .iconst 1, 1), (30, .if_icmp .ne 9, 3), (33, .iload_n 1, 1), (34, .iconst 2, 1), (35, .idiv, 1), (36, .goto 4, 3), (39, .iload_n 1, 1), (40, .istore_n 2, 1), (41, .iconst 0, 1), (42, .istore_n 3, 1), (43, .iload_n 3, 1), (44, .aload_n 0, 1), (45, .getfield 266, 3), (48, .if_icmp .ge 95, 3), (51, .aload_n 0, 1), (52, .getfield 115, 3), (55, .iload_n 3, 1), (56, .iaload, 1), (57, .istore 4, 2), (59, .aload_n 0, 1), (60, .getfield 251, 3), (63, .aload_n 0, 1), (64, .getfield 269, 3), (67, .iadd, 1), (68, .aload_n 0, 1), (69, .iload 4, 2), (71, .invokevirtual 272, 3), (74, .isub, 1), (75, .istore 5, 2), (77, .iload 4, 2), (79, .ifCond .ge 34, 3), (82, .aload_n 0, 1), (83, .getfield 55, 3), (86, .iconst (-1), 1), (87, .iload 4, 2), (89, .isub, 1), (90, .aload_n 0, 1), (91, .getfield 118, 3), (94, .iload_n 3, 1), (95, .iaload, 1), (96, .iload_n 2, 1), (97, .iadd, 1), (98, .iastore, 1), (99, .aload_n 0, 1), (100, .getfield 58, 3), (103, .iconst (-1), 1), (104, .iload 4, 2), (106, .isub, 1), (107, .iload 5, 2), (109, .iastore, 1), (110, .goto 27, 3), (113, .aload_n 0, 1), (114, .getfield 103, 3), (117, .iload 4, 2), (119, .aload_n 0, 1), (120, .getfield 118, 3), (123, .iload_n 3, 1), (124, .iaload, 1), (125, .iload_n 2, 1), (126, .iadd, 1), (127, .iastore, 1), (128, .aload_n 0, 1), (129, .getfield 106, 3), (132, .iload 4, 2), (134, .iload 5, 2), (136, .iastore, 1), (137, .iinc 3 1, 3), (140, .goto (-97), 3), (143, .aload_n 0, 1), (144, .dup, 1), (145, .getfield 251, 3), (148, .aload_n 0, 1), (149, .getfield 269, 3), (152, .iadd, 1), (153, .putfield 251, 3), (156, .aload_n 0, 1), (157, .iconst 0, 1), (158, .putfield 266, 3), (161, .aload_n 0, 1), (162, .iconst 0, 1), (163, .putfield 269, 3), (166, .aload_n 0, 1), (167, .iconst 0, 1), (168, .putfield 275, 3), (171, .iconst 0, 1), (172, .istore_n 3, 1), (173, .iload_n 3, 1), (174, .aload_n 0, 1), (175, .getfield 279, 3), (178, .if_icmp .ge 19, 3), (181, .aload_n 0, 1), (182, .aload_n 0, 1), (183, .getfield 136, 3), (186, .iload_n 3, 1), (187, .iaload, 1), (188, .invokevirtual 282, 3), (191, .iinc 3 1, 3), (194, .goto (-21), 3), (197, .aload_n 0, 1), (198, .iconst 0, 1), (199, .putfield 279, 3), (202, .return_, 1)]
theorem D143_ok : am_dec prog_12_method_35_code D143 = true := by decide +kernel
abbrev I143 : am_I := (9, prog_12_method_35_code, 6, none, false)
/-- LineFlowModel.lineText (I)V -/
def D144 : List (Nat × Instr × Nat) := [(0, .aload_n 0, 1), (1, .getfield 91, 3), (4, .iload_n 1, 1), (5, .iaload, 1), (6, .istore_n 2, 1), (7, .aload_n 0, 1), (8, .iload_n 1, 1), (9, .bipush 8, 2), (11, .invokevirtual 168, 3), (14, .istore_n 3, 1), (15, .iconst 0, 1), (16, .istore 4, 2), (18, .iload 4, 2), (20, .aload_n 0, 1), (21, .getfield 42, 3), (24, .iload_n 1, 1), (25, .iaload, 1), (26, .if_icmp .ge 65, 3), (29, .aload_n 0, 1), (30, .getfield 39, 3), (33, .bipush 120, 2), (35, .iload_n 1, 1), (36, .imul, 1), (37, .iload 4, 2), (39, .iadd, 1), (40, .baload, 1), (41, .invokestatic 199, 3), (44, .ifCond .eq 14, 3), (47, .aload_n 0, 1), (48, .iconst 1, 1), (49, .putfield 275, 3), (52, .iinc 4 1, 3), (55, .goto (-37), 3), (58, .aload_n 0, 1), (59, .iload_n 2, 1), (60, .aload_n 0, 1), (61, .getfield 109, 3), (64, .iload_n 2, 1), (65, .iaload, 1), (66, .iload_n 3, 1), (67, .invokevirtual 288, 3), (70, .aload_n 0, 1), (71, .getfield 97, 3), (74, .iload_n 2, 1), (75, .iaload, 1), (76, .aload_n 0, 1), (77, .getfield 100, 3), (80, .iload_n 2, 1), (81, .iaload, 1), (82, .iadd, 1), (83, .istore 4, 2), (85, .iinc 2 1, 3), (88, .goto (-70), 3), (91, .return_, 1)]
theorem D144_ok : am_dec prog_12_method_37_code D144 = true := by decide +kernel
abbrev I144 : am_I := (9, prog_12_method_37_code, 5, none, false)
/-- LineFlowModel.heightOf (II)I -/
def D145 : List (Nat × Instr × Nat) := [(0, .aload_n 0, 1), (1, .iload_n 1, 1), (2, .iconst 3, 1), (3, .invokevirtual 168, 3), (6, .iconst (-1), 1), (7, .if_icmp .ne 15, 3), (10, .iload_n 2, 1), (11, .iconst 2, 1), (12, .aload_n 0, 1), (13, .iload_n 1, 1), (14, .invokevirtual 171, 3), (17, .imul, 1), (18, .iadd, 1), (19, .goto 19, 3), (22, .aload_n 0, 1), (23, .iload_n 1, 1), (24, .iconst 3, 1), (25, .invokevirtual 168, 3), (28, .iconst 2, 1), (29, .aload_n 0, 1), (30, .iload_n 1, 1), (31, .invokevirtual 171, 3), (34, .imul, 1), (35, .invokestatic 175, 3), (38, .ireturn, 1)]
theorem D145_ok : am_dec prog_12_method_29_code D145 = true := by decide +kernel
abbrev I145 : am_I := (9, prog_12_method_29_code, 3, some FieldType.int, false)
/-- LineFlowModel.layFlex (I)V -/
def D146 : List (Nat × Instr × Nat) := [(0, .iconst 0, 1), (1, .istore_n 2, 1), (2, .iconst 0, 1), (3, .istore_n 3, 1), (4, .aload_n 0, 1), (5, .getfield 24, 3), (8, .iload_n 1, 1), (9, .iaload, 1), (10, .istore 4, 2), (12, .iload 4, 2), (14, .iconst (-1), 1), (15, .if_icmp .eq 99, 3), (18, .aload_n 0, 1), (19, .iload 4, 2), (21, .invokevirtual 181, 3), (24, .ifCond .ne 17, 3), (27, .aload_n 0, 1), (28, .getfield 45, 3), (31, .iload 4, 2), (33, .iaload, 1), (34, .iconst 4, 1), (35, .if_icmp .eq 6, 3), (38, .goto 64, 3), (41, .aload_n 0, 1), (42, .iload 4, 2), (44, .iconst 4, 1), (45, .invokevirtual 168, 3), (48, .istore 5, 2), (50, .aload_n 0, 1), (51, .getfield 55, 3), (54, .iload 4, 2), (56, .iload_n 2, 1), (57, .iload 5, 2), (59, .iadd, 1), (60, .iastore, 1), (61, .aload_n 0, 1), (62, .getfield 58, 3), (65, .iload 4, 2), (67, .iload 5, 2), (69, .iastore, 1), (70, .iload_n 2, 1), (71, .aload_n 0, 1), (72, .getfield 61, 3), (75, .iload 4, 2), (77, .iaload, 1), (78, .iconst 2, 1), (79, .iload 5, 2), (81, .imul, 1), (82, .iadd, 1), (83, .iadd, 1), (84, .istore_n 2, 1), (85, .iload_n 3, 1), (86, .aload_n 0, 1), (87, .getfield 64, 3), (90, .iload 4, 2), (92, .iaload, 1), (93, .iconst 2, 1), (94, .iload 5, 2), (96, .imul, 1), (97, .iadd, 1), (98, .invokestatic 175, 3), (101, .istore_n 3, 1), (102, .aload_n 0, 1), (103, .getfield 30, 3), (106, .iload 4, 2), (108, .iaload, 1), (109, .istore 4, 2), (111, .goto (-99), 3), (114, .aload_n 0, 1), (115, .getfield 64, 3), (118, .iload_n 1, 1), (119, .aload_n 0, 1), (120, .iload_n 1, 1), (121, .iload_n 3, 1), (122, .invokevirtual 232, 3), (125, .iastore, 1), (126, .return_, 1)]
theorem D146_ok : am_dec prog_12_method_28_code D146 = true := by decide +kernel
abbrev I146 : am_I := (9, prog_12_method_28_code, 6, none, false)
/-- LineFlowModel.box (II)I -/
def D147 : List (Nat × Instr × Nat) := [(0, .aload_n 0, 1), (1, .iload_n 1, 1), (2, .invokevirtual 156, 3), (5, .ifCond .eq 21, 3), (8, .aload_n 0, 1), (9, .getfield 76, 3), (12, .iload_n 1, 1), (13, .baload, 1), (14, .ifCond .eq 12, 3), (17, .iload_n 2, 1), (18, .ifCond .lt 8, 3), (21, .iload_n 2, 1), (22, .iconst 3, 1), (23, .if_icmp .le 5, 3), (26, .iconst (-1), 1), (27, .ireturn, 1), (28, .iload_n 2, 1), (29, .ifCond .ne 12, 3), (32, .aload_n 0, 1), (33, .getfield 79, 3), (36, .iload_n 1, 1), (37, .iaload, 1), (38, .goto 37, 3), (41, .iload_n 2, 1), (42, .iconst 1, 1), (43, .if_icmp .ne 12, 3), (46, .aload_n 0, 1), (47, .getfield 82, 3), (50, .iload_n 1, 1), (51, .iaload, 1), (52, .goto 23, 3), (55, .iload_n 2, 1), (56, .iconst 2, 1), (57, .if_icmp .ne 12, 3), (60, .aload_n 0, 1), (61, .getfield 85, 3), (64, .iload_n 1, 1), (65, .iaload, 1), (66, .goto 9, 3), (69, .aload_n 0, 1), (70, .getfield 88, 3), (73, .iload_n 1, 1), (74, .iaload, 1), (75, .ireturn, 1)]
theorem D147_ok : am_dec prog_12_method_42_code D147 = true := by decide +kernel
abbrev I147 : am_I := (9, prog_12_method_42_code, 3, some FieldType.int, false)
/-- LineFlowModel.words ()I -/
def D148 : List (Nat × Instr × Nat) := [(0, .aload_n 0, 1), (1, .getfield 153, 3), (4, .ireturn, 1)]
theorem D148_ok : am_dec prog_12_method_43_code D148 = true := by decide +kernel
abbrev I148 : am_I := (9, prog_12_method_43_code, 1, some FieldType.int, false)
/-- LineFlowModel.word (II)I -/
def D149 : List (Nat × Instr × Nat) := [(0, .iload_n 1, 1), (1, .ifCond .lt 11, 3), (4, .iload_n 1, 1), (5, .aload_n 0, 1), (6, .getfield 153, 3), (9, .if_icmp .lt 5, 3), (12, .iconst (-1), 1), (13, .ireturn, 1), (14, .iload_n 2, 1), (15, .tableswitch 90 0 6 #[41, 48, 55, 62, 69, 76, 83], 41), (56, .aload_n 0, 1), (57, .getfield 94, 3), (60, .iload_n 1, 1), (61, .iaload, 1), (62, .ireturn, 1), (63, .aload_n 0, 1), (64, .getfield 103, 3), (67, .iload_n 1, 1), (68, .iaload, 1), (69, .ireturn, 1), (70, .aload_n 0, 1), (71, .getfield 106, 3), (74, .iload_n 1, 1), (75, .iaload, 1), (76, .ireturn, 1), (77, .aload_n 0, 1), (78, .getfield 109, 3), (81, .iload_n 1, 1), (82, .iaload, 1), (83, .ireturn, 1), (84, .aload_n 0, 1), (85, .getfield 112, 3), (88, .iload_n 1, 1), (89, .iaload, 1), (90, .ireturn, 1), (91, .aload_n 0, 1), (92, .getfield 97, 3), (95, .iload_n 1, 1), (96, .iaload, 1), (97, .ireturn, 1), (98, .aload_n 0, 1), (99, .getfield 100, 3), (102, .iload_n 1, 1), (103, .iaload, 1), (104, .ireturn, 1), (105, .iconst (-1), 1), (106, .ireturn, 1)]
theorem D149_ok : am_dec prog_12_method_44_code D149 = true := by decide +kernel
abbrev I149 : am_I := (9, prog_12_method_44_code, 3, some FieldType.int, false)
/-- LineFlowModel.line (I)I -/
def D150 : List (Nat × Instr × Nat) := [(0, .aload_n 0, 1), (1, .iload_n 1, 1), (2, .invokevirtual 156, 3), (5, .ifCond .eq 12, 3), (8, .aload_n 0, 1), (9, .getfield 17, 3), (12, .iload_n 1, 1), (13, .iaload, 1), (14, .ifCond .eq 7, 3), (17, .iconst (-1), 1), (18, .goto 8, 3), (21, .aload_n 0, 1), (22, .iload_n 1, 1), (23, .invokevirtual 211, 3), (26, .ireturn, 1)]
theorem D150_ok : am_dec prog_12_method_45_code D150 = true := by decide +kernel
abbrev I150 : am_I := (9, prog_12_method_45_code, 2, some FieldType.int, false)
/-- LineFlowModel.margin (IZ)I -/
def D151 : List (Nat × Instr × Nat) := [(0, .aload_n 0, 1), (1, .iload_n 1, 1), (2, .invokevirtual 156, 3), (5, .ifCond .eq 15, 3), (8, .iload_n 1, 1), (9, .ifCond .eq 11, 3), (12, .aload_n 0, 1), (13, .iload_n 1, 1), (14, .invokevirtual 196, 3), (17, .ifCond .ne 5, 3), (20, .iconst (-1), 1), (21, .ireturn, 1), (22, .aload_n 0, 1), (23, .invokevirtual 217, 3), (26, .iload_n 2, 1), (27, .ifCond .eq 12, 3), (30, .aload_n 0, 1), (31, .getfield 70, 3), (34, .iload_n 1, 1), (35, .iaload, 1), (36, .goto 9, 3), (39, .aload_n 0, 1), (40, .getfield 67, 3), (43, .iload_n 1, 1), (44, .iaload, 1), (45, .ireturn, 1)]
theorem D151_ok : am_dec prog_12_method_46_code D151 = true := by decide +kernel
abbrev I151 : am_I := (9, prog_12_method_46_code, 3, some FieldType.int, false)
def DL : List (Nat × Instr × Nat) := [(0, .new 7, 3), (3, .dup, 1), (4, .invokespecial 9, 3), (7, .astore_n 1, 1), (8, .new 10, 3), (11, .dup, 1), (12, .invokespecial 12, 3), (15, .astore_n 2, 1), (16, .iconst 0, 1), (17, .istore_n 3, 1), (18, .iload_n 3, 1), (19, .aload_n 0, 1), (20, .arraylength, 1), (21, .bipush 6, 2), (23, .isub, 1), (24, .if_icmp .gt 448, 3), (27, .aload_n 0, 1), (28, .iload_n 3, 1), (29, .iaload, 1), (30, .bipush 15, 2), (32, .iand, 1), (33, .tableswitch 433 0 11 #[63, 126, 149, 160, 193, 216, 259, 282, 315, 328, 361, 384], 63), (96, .aload_n 1, 1), (97, .aload_n 0, 1), (98, .iload_n 3, 1), (99, .iconst 1, 1), (100, .iadd, 1), (101, .iaload, 1), (102, .aload_n 0, 1), (103, .iload_n 3, 1), (104, .iconst 2, 1), (105, .iadd, 1), (106, .iaload, 1), (107, .aload_n 0, 1), (108, .iload_n 3, 1), (109, .iconst 3, 1), (110, .iadd, 1), (111, .iaload, 1), (112, .aload_n 0, 1), (113, .iload_n 3, 1), (114, .iconst 4, 1), (115, .iadd, 1), (116, .iaload, 1), (117, .aload_n 0, 1), (118, .iload_n 3, 1), (119, .iconst 5, 1), (120, .iadd, 1), (121, .iaload, 1), (122, .invokevirtual 13, 3), (125, .aload_n 2, 1), (126, .aload_n 0, 1), (127, .iload_n 3, 1), (128, .iconst 1, 1), (129, .iadd, 1), (130, .iaload, 1), (131, .aload_n 0, 1), (132, .iload_n 3, 1), (133, .iconst 2, 1), (134, .iadd, 1), (135, .iaload, 1), (136, .aload_n 0, 1), (137, .iload_n 3, 1), (138, .iconst 3, 1), (139, .iadd, 1), (140, .iaload, 1), (141, .aload_n 0, 1), (142, .iload_n 3, 1), (143, .iconst 4, 1), (144, .iadd, 1), (145, .iaload, 1), (146, .aload_n 0, 1), (147, .iload_n 3, 1), (148, .iconst 5, 1), (149, .iadd, 1), (150, .iaload, 1), (151, .invokevirtual 17, 3), (154, .if_icmp .eq 312, 3), (157, .iconst 0, 1), (158, .ireturn, 1), (159, .aload_n 1, 1), (160, .aload_n 0, 1), (161, .iload_n 3, 1), (162, .iconst 1, 1), (163, .iadd, 1), (164, .iaload, 1), (165, .invokevirtual 18, 3), (168, .aload_n 2, 1), (169, .aload_n 0, 1), (170, .iload_n 3, 1), (171, .iconst 1, 1), (172, .iadd, 1), (173, .iaload, 1), (174, .invokevirtual 22, 3), (177, .if_icmp .eq 289, 3), (180, .iconst 0, 1), (181, .ireturn, 1), (182, .aload_n 1, 1), (183, .invokevirtual 23, 3), (186, .aload_n 2, 1), (187, .invokevirtual 26, 3), (190, .goto 276, 3), (193, .aload_n 1, 1), (194, .aload_n 0, 1), (195, .iload_n 3, 1), (196, .iconst 1, 1), (197, .iadd, 1), (198, .iaload, 1), (199, .aload_n 0, 1), (200, .iload_n 3, 1), (201, .iconst 2, 1), (202, .iadd, 1), (203, .iaload, 1), (204, .invokevirtual 27, 3), (207, .aload_n 2, 1), (208, .aload_n 0, 1), (209, .iload_n 3, 1), (210, .iconst 1, 1), (211, .iadd, 1), (212, .iaload, 1), (213, .aload_n 0, 1), (214, .iload_n 3, 1), (215, .iconst 2, 1), (216, .iadd, 1), (217, .iaload, 1), (218, .invokevirtual 31, 3), (221, .if_icmp .eq 245, 3), (224, .iconst 0, 1), (225, .ireturn, 1), (226, .aload_n 1, 1), (227, .aload_n 0, 1), (228, .iload_n 3, 1), (229, .iconst 1, 1), (230, .iadd, 1), (231, .iaload, 1), (232, .invokevirtual 32, 3), (235, .aload_n 2, 1), (236, .aload_n 0, 1), (237, .iload_n 3, 1), (238, .iconst 1, 1), (239, .iadd, 1), (240, .iaload, 1), (241, .invokevirtual 35, 3), (244, .if_icmp .eq 222, 3), (247, .iconst 0, 1), (248, .ireturn, 1), (249, .aload_n 1, 1), (250, .aload_n 0, 1), (251, .iload_n 3, 1), (252, .iconst 1, 1), (253, .iadd, 1), (254, .iaload, 1), (255, .aload_n 0, 1), (256, .iload_n 3, 1), (257, .iconst 2, 1), (258, .iadd, 1), (259, .iaload, 1), (260, .aload_n 0, 1), (261, .iload_n 3, 1), (262, .iconst 3, 1), (263, .iadd, 1), (264, .iaload, 1), (265, .invokevirtual 36, 3), (268, .aload_n 2, 1), (269, .aload_n 0, 1), (270, .iload_n 3, 1), (271, .iconst 1, 1), (272, .iadd, 1), (273, .iaload, 1), (274, .aload_n 0, 1), (275, .iload_n 3, 1), (276, .iconst 2, 1), (277, .iadd, 1), (278, .iaload, 1), (279, .aload_n 0, 1), (280, .iload_n 3, 1), (281, .iconst 3, 1), (282, .iadd, 1), (283, .iaload, 1), (284, .invokevirtual 40, 3), (287, .if_icmp .eq 179, 3), (290, .iconst 0, 1), (291, .ireturn, 1), (292, .aload_n 1, 1), (293, .aload_n 0, 1), (294, .iload_n 3, 1), (295, .iconst 1, 1), (296, .iadd, 1), (297, .iaload, 1), (298, .invokevirtual 41, 3), (301, .aload_n 2, 1), (302, .aload_n 0, 1), (303, .iload_n 3, 1), (304, .iconst 1, 1), (305, .iadd, 1), (306, .iaload, 1), (307, .invokevirtual 44, 3), (310, .if_icmp .eq 156, 3), (313, .iconst 0, 1), (314, .ireturn, 1), (315, .aload_n 1, 1), (316, .aload_n 0, 1), (317, .iload_n 3, 1), (318, .iconst 1, 1), (319, .iadd, 1), (320, .iaload, 1), (321, .aload_n 0, 1), (322, .iload_n 3, 1), (323, .iconst 2, 1), (324, .iadd, 1), (325, .iaload, 1), (326, .invokevirtual 45, 3), (329, .aload_n 2, 1), (330, .aload_n 0, 1), (331, .iload_n 3, 1), (332, .iconst 1, 1), (333, .iadd, 1), (334, .iaload, 1), (335, .aload_n 0, 1), (336, .iload_n 3, 1), (337, .iconst 2, 1), (338, .iadd, 1), (339, .iaload, 1), (340, .invokevirtual 48, 3), (343, .if_icmp .eq 123, 3), (346, .iconst 0, 1), (347, .ireturn, 1), (348, .aload_n 1, 1), (349, .invokevirtual 49, 3), (352, .aload_n 2, 1), (353, .invokevirtual 53, 3), (356, .if_icmp .eq 110, 3), (359, .iconst 0, 1), (360, .ireturn, 1), (361, .aload_n 1, 1), (362, .aload_n 0, 1), (363, .iload_n 3, 1), (364, .iconst 1, 1), (365, .iadd, 1), (366, .iaload, 1), (367, .aload_n 0, 1), (368, .iload_n 3, 1), (369, .iconst 2, 1), (370, .iadd, 1), (371, .iaload, 1), (372, .invokevirtual 54, 3), (375, .aload_n 2, 1), (376, .aload_n 0, 1), (377, .iload_n 3, 1), (378, .iconst 1, 1), (379, .iadd, 1), (380, .iaload, 1), (381, .aload_n 0, 1), (382, .iload_n 3, 1), (383, .iconst 2, 1), (384, .iadd, 1), (385, .iaload, 1), (386, .invokevirtual 57, 3), (389, .if_icmp .eq 77, 3), (392, .iconst 0, 1), (393, .ireturn, 1), (394, .aload_n 1, 1), (395, .aload_n 0, 1), (396, .iload_n 3, 1), (397, .iconst 1, 1), (398, .iadd, 1), (399, .iaload, 1), (400, .invokevirtual 58, 3), (403, .aload_n 2, 1), (404, .aload_n 0, 1), (405, .iload_n 3, 1), (406, .iconst 1, 1), (407, .iadd, 1), (408, .iaload, 1), (409, .invokevirtual 61, 3), (412, .if_icmp .eq 54, 3), (415, .iconst 0, 1), (416, .ireturn, 1), (417, .aload_n 1, 1), (418, .aload_n 0, 1), (419, .iload_n 3, 1), (420, .iconst 1, 1), (421, .iadd, 1), (422, .iaload, 1), (423, .aload_n 0, 1), (424, .iload_n 3, 1), (425, .iconst 2, 1), (426, .iadd, 1), (427, .iaload, 1), (428, .ifCond .eq 7, 3), (431, .iconst 1, 1), (432, .goto 4, 3), (435, .iconst 0, 1), (436, .invokevirtual 62, 3), (439, .aload_n 2, 1), (440, .aload_n 0, 1), (441, .iload_n 3, 1), (442, .iconst 1, 1), (443, .iadd, 1), (444, .iaload, 1), (445, .aload_n 0, 1), (446, .iload_n 3, 1), (447, .iconst 2, 1), (448, .iadd, 1), (449, .iaload, 1), (450, .ifCond .eq 7, 3), (453, .iconst 1, 1), (454, .goto 4, 3), (457, .iconst 0, 1), (458, .invokevirtual 66, 3), (461, .if_icmp .eq 5, 3), (464, .iconst 0, 1), (465, .ireturn, 1), (466, .iinc 3 6, 3), (469, .goto (-451), 3), (472, .iconst 1, 1), (473, .ireturn, 1)]
theorem DL_ok : am_dec code DL = true := by decide +kernel
end
section
/-! pool entries and methods, row by row (written by program) -/
theorem pl0_1 : am_pool 0 1 = (8, 0, 0) := by decide +kernel
theorem pl1_3 : am_pool 1 3 = (8, 0, 0) := by decide +kernel
theorem pl1_9 : am_pool 1 9 = (1, 1, 0) := by decide +kernel
theorem pl1_15 : am_pool 1 15 = (1, 1, 1) := by decide +kernel
theorem pl1_18 : am_pool 1 18 = (1, 1, 2) := by decide +kernel
theorem pl1_22 : am_pool 1 22 = (1, 1, 3) := by decide +kernel
theorem pl1_25 : am_pool 1 25 = (1, 1, 4) := by decide +kernel
theorem pl1_28 : am_pool 1 28 = (1, 1, 5) := by decide +kernel
theorem pl1_31 : am_pool 1 31 = (1, 5, 15) := by decide +kernel
theorem pl1_36 : am_pool 1 36 = (5, 72, 1) := by decide +kernel
theorem pl1_40 : am_pool 1 40 = (16, 0, 0) := by decide +kernel
theorem pl1_46 : am_pool 1 46 = (5, 73, 1) := by decide +kernel
theorem pl1_49 : am_pool 1 49 = (1, 5, 4) := by decide +kernel
theorem pl1_53 : am_pool 1 53 = (5, 71, 2) := by decide +kernel
theorem pl1_57 : am_pool 1 57 = (1, 5, 12) := by decide +kernel
theorem pl1_61 : am_pool 1 61 = (1, 0, 0) := by decide +kernel
theorem pl1_66 : am_pool 1 66 = (1, 0, 2) := by decide +kernel
theorem pl1_69 : am_pool 1 69 = (17, 0, 0) := by decide +kernel
theorem pl1_72 : am_pool 1 72 = (4, 70, 1) := by decide +kernel
theorem pl1_76 : am_pool 1 76 = (4, 74, 1) := by decide +kernel
theorem pl1_79 : am_pool 1 79 = (4, 75, 1) := by decide +kernel
theorem pl1_82 : am_pool 1 82 = (1, 0, 1) := by decide +kernel
theorem pl1_85 : am_pool 1 85 = (1, 0, 3) := by decide +kernel
theorem pl2_1 : am_pool 2 1 = (8, 0, 0) := by decide +kernel
theorem pl2_7 : am_pool 2 7 = (9, 1, 0) := by decide +kernel
theorem pl2_9 : am_pool 2 9 = (7, 7, 0) := by decide +kernel
theorem pl2_10 : am_pool 2 10 = (1, 2, 9) := by decide +kernel
theorem pl2_16 : am_pool 2 16 = (9, 4, 0) := by decide +kernel
theorem pl2_18 : am_pool 2 18 = (7, 8, 0) := by decide +kernel
theorem pl2_19 : am_pool 2 19 = (1, 2, 10) := by decide +kernel
theorem pl2_23 : am_pool 2 23 = (1, 2, 0) := by decide +kernel
theorem pl2_27 : am_pool 2 27 = (1, 5, 12) := by decide +kernel
theorem pl2_33 : am_pool 2 33 = (1, 0, 0) := by decide +kernel
theorem pl2_39 : am_pool 2 39 = (4, 53, 0) := by decide +kernel
theorem pl2_43 : am_pool 2 43 = (1, 2, 1) := by decide +kernel
theorem pl2_46 : am_pool 2 46 = (1, 0, 1) := by decide +kernel
theorem pl2_49 : am_pool 2 49 = (1, 2, 2) := by decide +kernel
theorem pl2_52 : am_pool 2 52 = (1, 0, 2) := by decide +kernel
theorem pl2_55 : am_pool 2 55 = (16, 0, 0) := by decide +kernel
theorem pl2_61 : am_pool 2 61 = (1, 2, 3) := by decide +kernel
theorem pl2_64 : am_pool 2 64 = (1, 2, 4) := by decide +kernel
theorem pl2_65 : am_pool 2 65 = (1, 2, 5) := by decide +kernel
theorem pl2_68 : am_pool 2 68 = (1, 2, 6) := by decide +kernel
theorem pl2_72 : am_pool 2 72 = (1, 2, 7) := by decide +kernel
theorem pl2_75 : am_pool 2 75 = (1, 2, 8) := by decide +kernel
theorem pl2_78 : am_pool 2 78 = (4, 54, 3) := by decide +kernel
theorem pl2_82 : am_pool 2 82 = (4, 55, 0) := by decide +kernel
theorem pl2_85 : am_pool 2 85 = (1, 5, 15) := by decide +kernel
theorem pl2_88 : am_pool 2 88 = (1, 1, 5) := by decide +kernel
theorem pl3_3 : am_pool 3 3 = (8, 0, 0) := by decide +kernel
theorem pl3_9 : am_pool 3 9 = (9, 10, 0) := by decide +kernel
theorem pl3_11 : am_pool 3 11 = (6, 2, 0) := by decide +kernel
theorem pl3_12 : am_pool 3 12 = (1, 3, 0) := by decide +kernel
theorem pl3_18 : am_pool 3 18 = (9, 2, 0) := by decide +kernel
theorem pl3_20 : am_pool 3 20 = (1, 3, 2) := by decide +kernel
theorem pl3_24 : am_pool 3 24 = (9, 6, 0) := by decide +kernel
theorem pl3_26 : am_pool 3 26 = (7, 5, 0) := by decide +kernel
theorem pl3_27 : am_pool 3 27 = (1, 3, 3) := by decide +kernel
theorem pl3_31 : am_pool 3 31 = (7, 6, 0) := by decide +kernel
theorem pl3_32 : am_pool 3 32 = (1, 3, 1) := by decide +kernel
theorem pl3_36 : am_pool 3 36 = (4, 35, 0) := by decide +kernel
theorem pl3_40 : am_pool 3 40 = (4, 46, 1) := by decide +kernel
theorem pl3_44 : am_pool 3 44 = (9, 7, 0) := by decide +kernel
theorem pl3_46 : am_pool 3 46 = (1, 5, 4) := by decide +kernel
theorem pl3_52 : am_pool 3 52 = (4, 30, 2) := by decide +kernel
theorem pl3_56 : am_pool 3 56 = (4, 51, 4) := by decide +kernel
theorem pl3_60 : am_pool 3 60 = (1, 5, 9) := by decide +kernel
theorem pl3_63 : am_pool 3 63 = (1, 5, 11) := by decide +kernel
theorem pl3_67 : am_pool 3 67 = (1, 5, 13) := by decide +kernel
theorem pl3_70 : am_pool 3 70 = (1, 5, 1) := by decide +kernel
theorem pl3_73 : am_pool 3 73 = (4, 31, 1) := by decide +kernel
theorem pl3_77 : am_pool 3 77 = (1, 5, 14) := by decide +kernel
theorem pl3_78 : am_pool 3 78 = (1, 5, 5) := by decide +kernel
theorem pl3_82 : am_pool 3 82 = (5, 50, 2) := by decide +kernel
theorem pl3_86 : am_pool 3 86 = (1, 5, 10) := by decide +kernel
theorem pl3_89 : am_pool 3 89 = (1, 5, 7) := by decide +kernel
theorem pl3_92 : am_pool 3 92 = (1, 5, 8) := by decide +kernel
theorem pl3_96 : am_pool 3 96 = (5, 32, 1) := by decide +kernel
theorem pl3_100 : am_pool 3 100 = (5, 33, 1) := by decide +kernel
theorem pl3_104 : am_pool 3 104 = (4, 34, 4) := by decide +kernel
theorem pl3_107 : am_pool 3 107 = (7, 36, 0) := by decide +kernel
theorem pl3_108 : am_pool 3 108 = (4, 37, 1) := by decide +kernel
theorem pl3_112 : am_pool 3 112 = (4, 45, 1) := by decide +kernel
theorem pl3_116 : am_pool 3 116 = (1, 5, 0) := by decide +kernel
theorem pl3_119 : am_pool 3 119 = (1, 7, 0) := by decide +kernel
theorem pl3_122 : am_pool 3 122 = (1, 7, 1) := by decide +kernel
theorem pl3_125 : am_pool 3 125 = (1, 7, 2) := by decide +kernel
theorem pl3_128 : am_pool 3 128 = (1, 7, 3) := by decide +kernel
theorem pl3_132 : am_pool 3 132 = (1, 0, 2) := by decide +kernel
theorem pl3_137 : am_pool 3 137 = (1, 0, 3) := by decide +kernel
theorem pl3_140 : am_pool 3 140 = (1, 5, 12) := by decide +kernel
theorem pl3_141 : am_pool 3 141 = (1, 0, 0) := by decide +kernel
theorem pl3_144 : am_pool 3 144 = (1, 0, 1) := by decide +kernel
theorem pl3_147 : am_pool 3 147 = (1, 5, 3) := by decide +kernel
theorem pl3_150 : am_pool 3 150 = (4, 52, 1) := by decide +kernel
theorem pl3_153 : am_pool 3 153 = (4, 56, 1) := by decide +kernel
theorem pl3_157 : am_pool 3 157 = (4, 64, 1) := by decide +kernel
theorem pl3_160 : am_pool 3 160 = (4, 98, 1) := by decide +kernel
theorem pl3_164 : am_pool 3 164 = (1, 2, 1) := by decide +kernel
theorem pl3_167 : am_pool 3 167 = (1, 2, 0) := by decide +kernel
theorem pl3_170 : am_pool 3 170 = (1, 2, 3) := by decide +kernel
theorem pl3_173 : am_pool 3 173 = (4, 57, 2) := by decide +kernel
theorem pl3_176 : am_pool 3 176 = (1, 2, 2) := by decide +kernel
theorem pl3_179 : am_pool 3 179 = (4, 59, 1) := by decide +kernel
theorem pl3_183 : am_pool 3 183 = (4, 63, 2) := by decide +kernel
theorem pl3_187 : am_pool 3 187 = (16, 0, 0) := by decide +kernel
theorem pl3_192 : am_pool 3 192 = (4, 65, 2) := by decide +kernel
theorem pl3_196 : am_pool 3 196 = (4, 78, 2) := by decide +kernel
theorem pl3_199 : am_pool 3 199 = (4, 89, 2) := by decide +kernel
theorem pl3_202 : am_pool 3 202 = (5, 96, 2) := by decide +kernel
theorem pl3_206 : am_pool 3 206 = (4, 83, 1) := by decide +kernel
theorem pl3_210 : am_pool 3 210 = (5, 90, 2) := by decide +kernel
theorem pl3_216 : am_pool 3 216 = (1, 2, 5) := by decide +kernel
theorem pl3_219 : am_pool 3 219 = (4, 97, 0) := by decide +kernel
theorem pl3_222 : am_pool 3 222 = (1, 5, 2) := by decide +kernel
theorem pl3_225 : am_pool 3 225 = (5, 95, 2) := by decide +kernel
theorem pl3_229 : am_pool 3 229 = (1, 2, 4) := by decide +kernel
theorem pl3_230 : am_pool 3 230 = (1, 2, 9) := by decide +kernel
theorem pl3_234 : am_pool 3 234 = (1, 1, 5) := by decide +kernel
theorem pl3_239 : am_pool 3 239 = (4, 66, 0) := by decide +kernel
theorem pl3_242 : am_pool 3 242 = (1, 2, 10) := by decide +kernel
theorem pl3_246 : am_pool 3 246 = (4, 67, 0) := by decide +kernel
theorem pl3_252 : am_pool 3 252 = (4, 68, 2) := by decide +kernel
theorem pl3_255 : am_pool 3 255 = (4, 77, 1) := by decide +kernel
theorem pl3_258 : am_pool 3 258 = (17, 0, 0) := by decide +kernel
theorem pl3_261 : am_pool 3 261 = (1, 1, 4) := by decide +kernel
theorem pl3_264 : am_pool 3 264 = (4, 69, 2) := by decide +kernel
theorem pl3_267 : am_pool 3 267 = (4, 75, 1) := by decide +kernel
theorem pl3_270 : am_pool 3 270 = (4, 74, 1) := by decide +kernel
theorem pl3_273 : am_pool 3 273 = (4, 76, 1) := by decide +kernel
theorem pl3_275 : am_pool 3 275 = (4, 60, 1) := by decide +kernel
theorem pl3_278 : am_pool 3 278 = (4, 53, 0) := by decide +kernel
theorem pl3_281 : am_pool 3 281 = (4, 79, 2) := by decide +kernel
theorem pl3_284 : am_pool 3 284 = (4, 80, 3) := by decide +kernel
theorem pl3_288 : am_pool 3 288 = (4, 88, 2) := by decide +kernel
theorem pl3_291 : am_pool 3 291 = (4, 58, 2) := by decide +kernel
theorem pl3_294 : am_pool 3 294 = (1, 2, 6) := by decide +kernel
theorem pl3_297 : am_pool 3 297 = (4, 81, 1) := by decide +kernel
theorem pl3_301 : am_pool 3 301 = (4, 82, 2) := by decide +kernel
theorem pl3_304 : am_pool 3 304 = (4, 87, 2) := by decide +kernel
theorem pl3_308 : am_pool 3 308 = (4, 84, 2) := by decide +kernel
theorem pl3_311 : am_pool 3 311 = (4, 55, 0) := by decide +kernel
theorem pl3_314 : am_pool 3 314 = (4, 86, 0) := by decide +kernel
theorem pl3_318 : am_pool 3 318 = (1, 5, 15) := by decide +kernel
theorem pl4_3 : am_pool 4 3 = (8, 0, 0) := by decide +kernel
theorem pl4_9 : am_pool 4 9 = (1, 4, 0) := by decide +kernel
theorem pl4_15 : am_pool 4 15 = (1, 4, 1) := by decide +kernel
theorem pl4_18 : am_pool 4 18 = (1, 4, 4) := by decide +kernel
theorem pl4_22 : am_pool 4 22 = (1, 4, 3) := by decide +kernel
theorem pl4_25 : am_pool 4 25 = (1, 4, 2) := by decide +kernel
theorem pl4_28 : am_pool 4 28 = (1, 0, 4) := by decide +kernel
theorem pl4_33 : am_pool 4 33 = (1, 0, 0) := by decide +kernel
theorem pl4_36 : am_pool 4 36 = (1, 0, 2) := by decide +kernel
theorem pl4_39 : am_pool 4 39 = (1, 0, 3) := by decide +kernel
theorem pl4_40 : am_pool 4 40 = (16, 0, 0) := by decide +kernel
theorem pl4_46 : am_pool 4 46 = (4, 85, 1) := by decide +kernel
theorem pl4_50 : am_pool 4 50 = (1, 0, 1) := by decide +kernel
theorem pl5_3 : am_pool 5 3 = (8, 0, 0) := by decide +kernel
theorem pl5_9 : am_pool 5 9 = (1, 5, 4) := by decide +kernel
theorem pl5_15 : am_pool 5 15 = (3, 1, 0) := by decide +kernel
theorem pl5_19 : am_pool 5 19 = (1, 5, 8) := by decide +kernel
theorem pl5_22 : am_pool 5 22 = (1, 5, 9) := by decide +kernel
theorem pl5_26 : am_pool 5 26 = (9, 0, 0) := by decide +kernel
theorem pl5_28 : am_pool 5 28 = (7, 11, 0) := by decide +kernel
theorem pl5_29 : am_pool 5 29 = (1, 5, 12) := by decide +kernel
theorem pl5_33 : am_pool 5 33 = (1, 5, 0) := by decide +kernel
theorem pl5_36 : am_pool 5 36 = (1, 5, 1) := by decide +kernel
theorem pl5_39 : am_pool 5 39 = (1, 5, 2) := by decide +kernel
theorem pl5_43 : am_pool 5 43 = (1, 5, 3) := by decide +kernel
theorem pl5_46 : am_pool 5 46 = (1, 5, 6) := by decide +kernel
theorem pl5_49 : am_pool 5 49 = (1, 5, 5) := by decide +kernel
theorem pl5_52 : am_pool 5 52 = (1, 5, 7) := by decide +kernel
theorem pl5_55 : am_pool 5 55 = (4, 58, 2) := by decide +kernel
theorem pl5_59 : am_pool 5 59 = (4, 53, 0) := by decide +kernel
theorem pl5_63 : am_pool 5 63 = (16, 0, 0) := by decide +kernel
theorem pl6_3 : am_pool 6 3 = (8, 0, 0) := by decide +kernel
theorem pl6_9 : am_pool 6 9 = (1, 6, 0) := by decide +kernel
theorem pl6_15 : am_pool 6 15 = (1, 6, 1) := by decide +kernel
theorem pl6_19 : am_pool 6 19 = (4, 61, 1) := by decide +kernel
theorem pl6_23 : am_pool 6 23 = (1, 5, 4) := by decide +kernel
theorem pl6_29 : am_pool 6 29 = (1, 5, 5) := by decide +kernel
theorem pl6_33 : am_pool 6 33 = (1, 5, 8) := by decide +kernel
theorem pl6_37 : am_pool 6 37 = (4, 62, 1) := by decide +kernel
theorem pl6_41 : am_pool 6 41 = (1, 5, 7) := by decide +kernel
theorem pl6_44 : am_pool 6 44 = (5, 32, 1) := by decide +kernel
theorem pl6_48 : am_pool 6 48 = (5, 33, 1) := by decide +kernel
theorem pl7_1 : am_pool 7 1 = (8, 0, 0) := by decide +kernel
theorem pl7_7 : am_pool 7 7 = (9, 0, 0) := by decide +kernel
theorem pl7_9 : am_pool 7 9 = (7, 11, 0) := by decide +kernel
theorem pl7_10 : am_pool 7 10 = (1, 7, 3) := by decide +kernel
theorem pl8_1 : am_pool 8 1 = (8, 0, 0) := by decide +kernel
theorem pl8_9 : am_pool 8 9 = (1, 8, 0) := by decide +kernel
theorem pl8_13 : am_pool 8 13 = (9, 5, 0) := by decide +kernel
theorem pl8_15 : am_pool 8 15 = (1, 8, 2) := by decide +kernel
theorem pl8_19 : am_pool 8 19 = (9, 3, 0) := by decide +kernel
theorem pl8_21 : am_pool 8 21 = (6, 1, 0) := by decide +kernel
theorem pl8_22 : am_pool 8 22 = (1, 8, 4) := by decide +kernel
theorem pl8_26 : am_pool 8 26 = (4, 9, 0) := by decide +kernel
theorem pl8_29 : am_pool 8 29 = (1, 8, 1) := by decide +kernel
theorem pl8_33 : am_pool 8 33 = (4, 13, 1) := by decide +kernel
theorem pl8_37 : am_pool 8 37 = (4, 16, 0) := by decide +kernel
theorem pl8_40 : am_pool 8 40 = (4, 18, 1) := by decide +kernel
theorem pl8_44 : am_pool 8 44 = (1, 8, 3) := by decide +kernel
theorem pl8_47 : am_pool 8 47 = (1, 5, 3) := by decide +kernel
theorem pl8_50 : am_pool 8 50 = (6, 10, 3) := by decide +kernel
theorem pl8_53 : am_pool 8 53 = (4, 20, 1) := by decide +kernel
theorem pl8_57 : am_pool 8 57 = (4, 19, 1) := by decide +kernel
theorem pl8_60 : am_pool 8 60 = (1, 5, 1) := by decide +kernel
theorem pl8_63 : am_pool 8 63 = (5, 22, 2) := by decide +kernel
theorem pl8_69 : am_pool 8 69 = (1, 5, 8) := by decide +kernel
theorem pl8_72 : am_pool 8 72 = (5, 24, 3) := by decide +kernel
theorem pl8_76 : am_pool 8 76 = (1, 5, 4) := by decide +kernel
theorem pl8_80 : am_pool 8 80 = (4, 29, 2) := by decide +kernel
theorem pl8_84 : am_pool 8 84 = (1, 5, 12) := by decide +kernel
theorem pl8_88 : am_pool 8 88 = (1, 0, 3) := by decide +kernel
theorem pl8_93 : am_pool 8 93 = (1, 5, 11) := by decide +kernel
theorem pl8_97 : am_pool 8 97 = (1, 0, 0) := by decide +kernel
theorem pl8_100 : am_pool 8 100 = (1, 0, 1) := by decide +kernel
theorem pl8_103 : am_pool 8 103 = (1, 0, 2) := by decide +kernel
theorem pl8_106 : am_pool 8 106 = (2, 3, 1) := by decide +kernel
theorem pl8_109 : am_pool 8 109 = (4, 45, 1) := by decide +kernel
theorem pl8_113 : am_pool 8 113 = (1, 7, 0) := by decide +kernel
theorem pl8_118 : am_pool 8 118 = (1, 7, 3) := by decide +kernel
theorem pl8_119 : am_pool 8 119 = (1, 7, 1) := by decide +kernel
theorem pl8_122 : am_pool 8 122 = (1, 7, 2) := by decide +kernel
theorem pl8_125 : am_pool 8 125 = (2, 3, 3) := by decide +kernel
theorem pl8_129 : am_pool 8 129 = (4, 60, 1) := by decide +kernel
theorem pl8_135 : am_pool 8 135 = (1, 5, 2) := by decide +kernel
theorem pl8_139 : am_pool 8 139 = (5, 92, 1) := by decide +kernel
theorem pl8_145 : am_pool 8 145 = (5, 95, 2) := by decide +kernel
theorem pl8_149 : am_pool 8 149 = (5, 25, 2) := by decide +kernel
theorem pl8_153 : am_pool 8 153 = (5, 27, 1) := by decide +kernel
theorem pl8_156 : am_pool 8 156 = (5, 26, 3) := by decide +kernel
theorem pl9_1 : am_pool 9 1 = (8, 0, 0) := by decide +kernel
theorem pl9_7 : am_pool 9 7 = (1, 9, 0) := by decide +kernel
theorem pl9_13 : am_pool 9 13 = (1, 9, 2) := by decide +kernel
theorem pl9_17 : am_pool 9 17 = (1, 9, 3) := by decide +kernel
theorem pl9_21 : am_pool 9 21 = (1, 9, 4) := by decide +kernel
theorem pl9_24 : am_pool 9 24 = (1, 9, 5) := by decide +kernel
theorem pl9_27 : am_pool 9 27 = (1, 9, 6) := by decide +kernel
theorem pl9_30 : am_pool 9 30 = (1, 9, 7) := by decide +kernel
theorem pl9_33 : am_pool 9 33 = (1, 9, 8) := by decide +kernel
theorem pl9_36 : am_pool 9 36 = (1, 9, 9) := by decide +kernel
theorem pl9_39 : am_pool 9 39 = (1, 9, 10) := by decide +kernel
theorem pl9_42 : am_pool 9 42 = (1, 9, 11) := by decide +kernel
theorem pl9_45 : am_pool 9 45 = (1, 9, 12) := by decide +kernel
theorem pl9_48 : am_pool 9 48 = (1, 9, 13) := by decide +kernel
theorem pl9_52 : am_pool 9 52 = (1, 9, 14) := by decide +kernel
theorem pl9_55 : am_pool 9 55 = (1, 9, 15) := by decide +kernel
theorem pl9_58 : am_pool 9 58 = (1, 9, 16) := by decide +kernel
theorem pl9_61 : am_pool 9 61 = (1, 9, 17) := by decide +kernel
theorem pl9_64 : am_pool 9 64 = (1, 9, 18) := by decide +kernel
theorem pl9_67 : am_pool 9 67 = (1, 9, 19) := by decide +kernel
theorem pl9_70 : am_pool 9 70 = (1, 9, 20) := by decide +kernel
theorem pl9_73 : am_pool 9 73 = (1, 9, 21) := by decide +kernel
theorem pl9_76 : am_pool 9 76 = (1, 9, 23) := by decide +kernel
theorem pl9_79 : am_pool 9 79 = (1, 9, 24) := by decide +kernel
theorem pl9_82 : am_pool 9 82 = (1, 9, 25) := by decide +kernel
theorem pl9_85 : am_pool 9 85 = (1, 9, 26) := by decide +kernel
theorem pl9_88 : am_pool 9 88 = (1, 9, 27) := by decide +kernel
theorem pl9_91 : am_pool 9 91 = (1, 9, 28) := by decide +kernel
theorem pl9_94 : am_pool 9 94 = (1, 9, 30) := by decide +kernel
theorem pl9_97 : am_pool 9 97 = (1, 9, 31) := by decide +kernel
theorem pl9_100 : am_pool 9 100 = (1, 9, 32) := by decide +kernel
theorem pl9_103 : am_pool 9 103 = (1, 9, 33) := by decide +kernel
theorem pl9_106 : am_pool 9 106 = (1, 9, 34) := by decide +kernel
theorem pl9_109 : am_pool 9 109 = (1, 9, 35) := by decide +kernel
theorem pl9_112 : am_pool 9 112 = (1, 9, 36) := by decide +kernel
theorem pl9_115 : am_pool 9 115 = (1, 9, 44) := by decide +kernel
theorem pl9_118 : am_pool 9 118 = (1, 9, 45) := by decide +kernel
theorem pl9_121 : am_pool 9 121 = (1, 9, 47) := by decide +kernel
theorem pl9_124 : am_pool 9 124 = (1, 9, 48) := by decide +kernel
theorem pl9_127 : am_pool 9 127 = (1, 9, 49) := by decide +kernel
theorem pl9_130 : am_pool 9 130 = (1, 9, 50) := by decide +kernel
theorem pl9_133 : am_pool 9 133 = (1, 9, 51) := by decide +kernel
theorem pl9_136 : am_pool 9 136 = (1, 9, 52) := by decide +kernel
theorem pl9_139 : am_pool 9 139 = (4, 105, 0) := by decide +kernel
theorem pl9_142 : am_pool 9 142 = (1, 9, 1) := by decide +kernel
theorem pl9_145 : am_pool 9 145 = (4, 108, 1) := by decide +kernel
theorem pl9_149 : am_pool 9 149 = (4, 106, 3) := by decide +kernel
theorem pl9_153 : am_pool 9 153 = (1, 9, 29) := by decide +kernel
theorem pl9_156 : am_pool 9 156 = (4, 111, 1) := by decide +kernel
theorem pl9_160 : am_pool 9 160 = (4, 114, 3) := by decide +kernel
theorem pl9_164 : am_pool 9 164 = (4, 121, 2) := by decide +kernel
theorem pl9_168 : am_pool 9 168 = (4, 118, 2) := by decide +kernel
theorem pl9_171 : am_pool 9 171 = (4, 125, 1) := by decide +kernel
theorem pl9_175 : am_pool 9 175 = (5, 126, 2) := by decide +kernel
theorem pl9_178 : am_pool 9 178 = (1, 9, 22) := by decide +kernel
theorem pl9_181 : am_pool 9 181 = (4, 117, 1) := by decide +kernel
theorem pl9_184 : am_pool 9 184 = (4, 119, 1) := by decide +kernel
theorem pl9_187 : am_pool 9 187 = (4, 120, 2) := by decide +kernel
theorem pl9_190 : am_pool 9 190 = (4, 122, 1) := by decide +kernel
theorem pl9_193 : am_pool 9 193 = (4, 123, 1) := by decide +kernel
theorem pl9_196 : am_pool 9 196 = (4, 124, 1) := by decide +kernel
theorem pl9_199 : am_pool 9 199 = (5, 131, 1) := by decide +kernel
theorem pl9_202 : am_pool 9 202 = (5, 132, 1) := by decide +kernel
theorem pl9_205 : am_pool 9 205 = (4, 128, 1) := by decide +kernel
theorem pl9_208 : am_pool 9 208 = (4, 129, 2) := by decide +kernel
theorem pl9_211 : am_pool 9 211 = (4, 130, 1) := by decide +kernel
theorem pl9_214 : am_pool 9 214 = (5, 133, 2) := by decide +kernel
theorem pl9_217 : am_pool 9 217 = (4, 116, 0) := by decide +kernel
theorem pl9_220 : am_pool 9 220 = (4, 127, 1) := by decide +kernel
theorem pl9_223 : am_pool 9 223 = (4, 134, 1) := by decide +kernel
theorem pl9_226 : am_pool 9 226 = (4, 135, 1) := by decide +kernel
theorem pl9_229 : am_pool 9 229 = (4, 146, 1) := by decide +kernel
theorem pl9_232 : am_pool 9 232 = (4, 145, 2) := by decide +kernel
theorem pl9_235 : am_pool 9 235 = (1, 9, 38) := by decide +kernel
theorem pl9_238 : am_pool 9 238 = (1, 9, 55) := by decide +kernel
theorem pl9_241 : am_pool 9 241 = (1, 9, 39) := by decide +kernel
theorem pl9_244 : am_pool 9 244 = (1, 9, 46) := by decide +kernel
theorem pl9_247 : am_pool 9 247 = (4, 139, 2) := by decide +kernel
theorem pl9_251 : am_pool 9 251 = (1, 9, 37) := by decide +kernel
theorem pl9_254 : am_pool 9 254 = (4, 138, 1) := by decide +kernel
theorem pl9_257 : am_pool 9 257 = (4, 140, 1) := by decide +kernel
theorem pl9_260 : am_pool 9 260 = (1, 9, 40) := by decide +kernel
theorem pl9_263 : am_pool 9 263 = (1, 9, 43) := by decide +kernel
theorem pl9_266 : am_pool 9 266 = (1, 9, 41) := by decide +kernel
theorem pl9_269 : am_pool 9 269 = (1, 9, 42) := by decide +kernel
theorem pl9_272 : am_pool 9 272 = (4, 142, 1) := by decide +kernel
theorem pl9_275 : am_pool 9 275 = (1, 9, 54) := by decide +kernel
theorem pl9_279 : am_pool 9 279 = (1, 9, 53) := by decide +kernel
theorem pl9_282 : am_pool 9 282 = (4, 137, 1) := by decide +kernel
theorem pl9_285 : am_pool 9 285 = (4, 143, 0) := by decide +kernel
theorem pl9_288 : am_pool 9 288 = (4, 141, 3) := by decide +kernel
theorem pl9_291 : am_pool 9 291 = (4, 144, 1) := by decide +kernel
theorem pl9_294 : am_pool 9 294 = (4, 136, 1) := by decide +kernel
theorem pl10_1 : am_pool 10 1 = (6, 3, 0) := by decide +kernel
theorem pl10_7 : am_pool 10 7 = (9, 20, 0) := by decide +kernel
theorem pl10_9 : am_pool 10 9 = (1, 10, 1) := by decide +kernel
theorem pl10_39 : am_pool 10 39 = (3, 2, 0) := by decide +kernel
theorem pl10_48 : am_pool 10 48 = (1, 10, 2) := by decide +kernel
theorem pl10_63 : am_pool 10 63 = (1, 10, 0) := by decide +kernel
theorem pl10_66 : am_pool 10 66 = (5, 43, 2) := by decide +kernel
theorem pl10_69 : am_pool 10 69 = (4, 40, 1) := by decide +kernel
theorem pl10_73 : am_pool 10 73 = (5, 41, 3) := by decide +kernel
theorem pl10_79 : am_pool 10 79 = (16, 0, 0) := by decide +kernel
theorem pl10_118 : am_pool 10 118 = (5, 47, 2) := by decide +kernel
theorem pl10_123 : am_pool 10 123 = (4, 49, 1) := by decide +kernel
theorem pl10_129 : am_pool 10 129 = (4, 39, 0) := by decide +kernel
theorem pl10_131 : am_pool 10 131 = (4, 38, 3) := by decide +kernel
theorem pl11_9 : am_pool 11 9 = (5, 90, 2) := by decide +kernel
theorem pl11_15 : am_pool 11 15 = (1, 5, 4) := by decide +kernel
theorem pl11_21 : am_pool 11 21 = (5, 95, 2) := by decide +kernel
theorem pl11_25 : am_pool 11 25 = (16, 0, 0) := by decide +kernel
theorem pl11_31 : am_pool 11 31 = (5, 91, 1) := by decide +kernel
theorem pl11_35 : am_pool 11 35 = (5, 93, 1) := by decide +kernel
theorem pl11_39 : am_pool 11 39 = (5, 94, 1) := by decide +kernel
theorem pl11_42 : am_pool 11 42 = (5, 92, 1) := by decide +kernel
theorem pl11_45 : am_pool 11 45 = (1, 5, 1) := by decide +kernel
theorem pl11_49 : am_pool 11 49 = (4, 53, 0) := by decide +kernel
theorem pl11_53 : am_pool 11 53 = (1, 5, 2) := by decide +kernel
theorem pl11_57 : am_pool 11 57 = (1, 5, 5) := by decide +kernel
theorem pl11_60 : am_pool 11 60 = (1, 5, 7) := by decide +kernel
theorem pl12_7 : am_pool 12 7 = (9, 8, 0) := by decide +kernel
theorem pl12_9 : am_pool 12 9 = (6, 0, 0) := by decide +kernel
theorem pl12_10 : am_pool 12 10 = (9, 9, 0) := by decide +kernel
theorem pl12_12 : am_pool 12 12 = (6, 104, 0) := by decide +kernel
theorem pl12_13 : am_pool 12 13 = (4, 12, 5) := by decide +kernel
theorem pl12_17 : am_pool 12 17 = (4, 107, 5) := by decide +kernel
theorem pl12_18 : am_pool 12 18 = (4, 14, 1) := by decide +kernel
theorem pl12_22 : am_pool 12 22 = (4, 109, 1) := by decide +kernel
theorem pl12_23 : am_pool 12 23 = (4, 15, 0) := by decide +kernel
theorem pl12_26 : am_pool 12 26 = (4, 105, 0) := by decide +kernel
theorem pl12_27 : am_pool 12 27 = (4, 17, 2) := by decide +kernel
theorem pl12_31 : am_pool 12 31 = (4, 110, 2) := by decide +kernel
theorem pl12_32 : am_pool 12 32 = (4, 21, 1) := by decide +kernel
theorem pl12_35 : am_pool 12 35 = (4, 112, 1) := by decide +kernel
theorem pl12_36 : am_pool 12 36 = (4, 23, 3) := by decide +kernel
theorem pl12_40 : am_pool 12 40 = (4, 113, 3) := by decide +kernel
theorem pl12_41 : am_pool 12 41 = (4, 28, 1) := by decide +kernel
theorem pl12_44 : am_pool 12 44 = (4, 115, 1) := by decide +kernel
theorem pl12_45 : am_pool 12 45 = (4, 99, 2) := by decide +kernel
theorem pl12_48 : am_pool 12 48 = (4, 147, 2) := by decide +kernel
theorem pl12_49 : am_pool 12 49 = (4, 100, 0) := by decide +kernel
theorem pl12_53 : am_pool 12 53 = (4, 148, 0) := by decide +kernel
theorem pl12_54 : am_pool 12 54 = (4, 101, 2) := by decide +kernel
theorem pl12_57 : am_pool 12 57 = (4, 149, 2) := by decide +kernel
theorem pl12_58 : am_pool 12 58 = (4, 102, 1) := by decide +kernel
theorem pl12_61 : am_pool 12 61 = (4, 150, 1) := by decide +kernel
theorem pl12_62 : am_pool 12 62 = (4, 103, 2) := by decide +kernel
theorem pl12_66 : am_pool 12 66 = (4, 151, 2) := by decide +kernel
theorem pl13_2 : am_pool 13 2 = (9, 20, 0) := by decide +kernel
theorem pl13_86 : am_pool 13 86 = (14, 0, 0) := by decide +kernel
theorem pl13_110 : am_pool 13 110 = (15, 0, 0) := by decide +kernel
theorem pl13_150 : am_pool 13 150 = (13, 0, 0) := by decide +kernel
theorem pl13_300 : am_pool 13 300 = (5, 44, 3) := by decide +kernel
theorem pl13_304 : am_pool 13 304 = (17, 0, 0) := by decide +kernel
theorem pl15_194 : am_pool 15 194 = (16, 0, 0) := by decide +kernel
theorem pl15_200 : am_pool 15 200 = (12, 2147483639, 0) := by decide +kernel
theorem pl15_201 : am_pool 15 201 = (5, 42, 2) := by decide +kernel
theorem pl16_105 : am_pool 16 105 = (5, 48, 3) := by decide +kernel
theorem pl18_1 : am_pool 18 1 = (6, 4, 0) := by decide +kernel
theorem pl18_7 : am_pool 18 7 = (1, 10, 0) := by decide +kernel
theorem pl19_1 : am_pool 19 1 = (8, 0, 0) := by decide +kernel
theorem ms0 (xs : List Int32) : (am_Bx xs).2.1 0 = some I0 := rfl
theorem ms1 (xs : List Int32) : (am_Bx xs).2.1 1 = some I1 := rfl
theorem ms2 (xs : List Int32) : (am_Bx xs).2.1 2 = some I2 := rfl
theorem ms3 (xs : List Int32) : (am_Bx xs).2.1 3 = some I3 := rfl
theorem ms4 (xs : List Int32) : (am_Bx xs).2.1 4 = some I4 := rfl
theorem ms5 (xs : List Int32) : (am_Bx xs).2.1 5 = some I5 := rfl
theorem ms6 (xs : List Int32) : (am_Bx xs).2.1 6 = some I6 := rfl
theorem ms7 (xs : List Int32) : (am_Bx xs).2.1 7 = some I7 := rfl
theorem ms8 (xs : List Int32) : (am_Bx xs).2.1 8 = some I8 := rfl
theorem ms9 (xs : List Int32) : (am_Bx xs).2.1 9 = some I9 := rfl
theorem ms10 (xs : List Int32) : (am_Bx xs).2.1 10 = some I10 := rfl
theorem ms11 (xs : List Int32) : (am_Bx xs).2.1 11 = some I11 := rfl
theorem ms12 (xs : List Int32) : (am_Bx xs).2.1 12 = some I12 := rfl
theorem ms13 (xs : List Int32) : (am_Bx xs).2.1 13 = some I13 := rfl
theorem ms14 (xs : List Int32) : (am_Bx xs).2.1 14 = some I14 := rfl
theorem ms15 (xs : List Int32) : (am_Bx xs).2.1 15 = some I15 := rfl
theorem ms16 (xs : List Int32) : (am_Bx xs).2.1 16 = some I16 := rfl
theorem ms17 (xs : List Int32) : (am_Bx xs).2.1 17 = some I17 := rfl
theorem ms18 (xs : List Int32) : (am_Bx xs).2.1 18 = some I18 := rfl
theorem ms19 (xs : List Int32) : (am_Bx xs).2.1 19 = some I19 := rfl
theorem ms20 (xs : List Int32) : (am_Bx xs).2.1 20 = some I20 := rfl
theorem ms21 (xs : List Int32) : (am_Bx xs).2.1 21 = some I21 := rfl
theorem ms22 (xs : List Int32) : (am_Bx xs).2.1 22 = some I22 := rfl
theorem ms23 (xs : List Int32) : (am_Bx xs).2.1 23 = some I23 := rfl
theorem ms24 (xs : List Int32) : (am_Bx xs).2.1 24 = some I24 := rfl
theorem ms25 (xs : List Int32) : (am_Bx xs).2.1 25 = some I25 := rfl
theorem ms26 (xs : List Int32) : (am_Bx xs).2.1 26 = some I26 := rfl
theorem ms27 (xs : List Int32) : (am_Bx xs).2.1 27 = some I27 := rfl
theorem ms28 (xs : List Int32) : (am_Bx xs).2.1 28 = some I28 := rfl
theorem ms29 (xs : List Int32) : (am_Bx xs).2.1 29 = some I29 := rfl
theorem ms30 (xs : List Int32) : (am_Bx xs).2.1 30 = some I30 := rfl
theorem ms31 (xs : List Int32) : (am_Bx xs).2.1 31 = some I31 := rfl
theorem ms32 (xs : List Int32) : (am_Bx xs).2.1 32 = some I32 := rfl
theorem ms33 (xs : List Int32) : (am_Bx xs).2.1 33 = some I33 := rfl
theorem ms34 (xs : List Int32) : (am_Bx xs).2.1 34 = some I34 := rfl
theorem ms35 (xs : List Int32) : (am_Bx xs).2.1 35 = some I35 := rfl
theorem ms36 (xs : List Int32) : (am_Bx xs).2.1 36 = some I36 := rfl
theorem ms37 (xs : List Int32) : (am_Bx xs).2.1 37 = some I37 := rfl
theorem ms38 (xs : List Int32) : (am_Bx xs).2.1 38 = some I38 := rfl
theorem ms39 (xs : List Int32) : (am_Bx xs).2.1 39 = some I39 := rfl
theorem ms40 (xs : List Int32) : (am_Bx xs).2.1 40 = some I40 := rfl
theorem ms41 (xs : List Int32) : (am_Bx xs).2.1 41 = some I41 := rfl
theorem ms42 (xs : List Int32) : (am_Bx xs).2.1 42 = some I42 := rfl
theorem ms43 (xs : List Int32) : (am_Bx xs).2.1 43 = some I43 := rfl
theorem ms44 (xs : List Int32) : (am_Bx xs).2.1 44 = some I44 := rfl
theorem ms45 (xs : List Int32) : (am_Bx xs).2.1 45 = some I45 := rfl
theorem ms46 (xs : List Int32) : (am_Bx xs).2.1 46 = some I46 := rfl
theorem ms47 (xs : List Int32) : (am_Bx xs).2.1 47 = some I47 := rfl
theorem ms48 (xs : List Int32) : (am_Bx xs).2.1 48 = some I48 := rfl
theorem ms49 (xs : List Int32) : (am_Bx xs).2.1 49 = some I49 := rfl
theorem ms50 (xs : List Int32) : (am_Bx xs).2.1 50 = some I50 := rfl
theorem ms51 (xs : List Int32) : (am_Bx xs).2.1 51 = some I51 := rfl
theorem ms52 (xs : List Int32) : (am_Bx xs).2.1 52 = some I52 := rfl
theorem ms53 (xs : List Int32) : (am_Bx xs).2.1 53 = some I53 := rfl
theorem ms54 (xs : List Int32) : (am_Bx xs).2.1 54 = some I54 := rfl
theorem ms55 (xs : List Int32) : (am_Bx xs).2.1 55 = some I55 := rfl
theorem ms56 (xs : List Int32) : (am_Bx xs).2.1 56 = some I56 := rfl
theorem ms57 (xs : List Int32) : (am_Bx xs).2.1 57 = some I57 := rfl
theorem ms58 (xs : List Int32) : (am_Bx xs).2.1 58 = some I58 := rfl
theorem ms59 (xs : List Int32) : (am_Bx xs).2.1 59 = some I59 := rfl
theorem ms60 (xs : List Int32) : (am_Bx xs).2.1 60 = some I60 := rfl
theorem ms61 (xs : List Int32) : (am_Bx xs).2.1 61 = some I61 := rfl
theorem ms62 (xs : List Int32) : (am_Bx xs).2.1 62 = some I62 := rfl
theorem ms63 (xs : List Int32) : (am_Bx xs).2.1 63 = some I63 := rfl
theorem ms64 (xs : List Int32) : (am_Bx xs).2.1 64 = some I64 := rfl
theorem ms65 (xs : List Int32) : (am_Bx xs).2.1 65 = some I65 := rfl
theorem ms66 (xs : List Int32) : (am_Bx xs).2.1 66 = some I66 := rfl
theorem ms67 (xs : List Int32) : (am_Bx xs).2.1 67 = some I67 := rfl
theorem ms68 (xs : List Int32) : (am_Bx xs).2.1 68 = some I68 := rfl
theorem ms69 (xs : List Int32) : (am_Bx xs).2.1 69 = some I69 := rfl
theorem ms70 (xs : List Int32) : (am_Bx xs).2.1 70 = some I70 := rfl
theorem ms71 (xs : List Int32) : (am_Bx xs).2.1 71 = some I71 := rfl
theorem ms72 (xs : List Int32) : (am_Bx xs).2.1 72 = some I72 := rfl
theorem ms73 (xs : List Int32) : (am_Bx xs).2.1 73 = some I73 := rfl
theorem ms74 (xs : List Int32) : (am_Bx xs).2.1 74 = some I74 := rfl
theorem ms75 (xs : List Int32) : (am_Bx xs).2.1 75 = some I75 := rfl
theorem ms76 (xs : List Int32) : (am_Bx xs).2.1 76 = some I76 := rfl
theorem ms77 (xs : List Int32) : (am_Bx xs).2.1 77 = some I77 := rfl
theorem ms78 (xs : List Int32) : (am_Bx xs).2.1 78 = some I78 := rfl
theorem ms79 (xs : List Int32) : (am_Bx xs).2.1 79 = some I79 := rfl
theorem ms80 (xs : List Int32) : (am_Bx xs).2.1 80 = some I80 := rfl
theorem ms81 (xs : List Int32) : (am_Bx xs).2.1 81 = some I81 := rfl
theorem ms82 (xs : List Int32) : (am_Bx xs).2.1 82 = some I82 := rfl
theorem ms83 (xs : List Int32) : (am_Bx xs).2.1 83 = some I83 := rfl
theorem ms84 (xs : List Int32) : (am_Bx xs).2.1 84 = some I84 := rfl
theorem ms85 (xs : List Int32) : (am_Bx xs).2.1 85 = some I85 := rfl
theorem ms86 (xs : List Int32) : (am_Bx xs).2.1 86 = some I86 := rfl
theorem ms87 (xs : List Int32) : (am_Bx xs).2.1 87 = some I87 := rfl
theorem ms88 (xs : List Int32) : (am_Bx xs).2.1 88 = some I88 := rfl
theorem ms89 (xs : List Int32) : (am_Bx xs).2.1 89 = some I89 := rfl
theorem ms90 (xs : List Int32) : (am_Bx xs).2.1 90 = some I90 := rfl
theorem ms91 (xs : List Int32) : (am_Bx xs).2.1 91 = some I91 := rfl
theorem ms92 (xs : List Int32) : (am_Bx xs).2.1 92 = some I92 := rfl
theorem ms93 (xs : List Int32) : (am_Bx xs).2.1 93 = some I93 := rfl
theorem ms94 (xs : List Int32) : (am_Bx xs).2.1 94 = some I94 := rfl
theorem ms95 (xs : List Int32) : (am_Bx xs).2.1 95 = some I95 := rfl
theorem ms96 (xs : List Int32) : (am_Bx xs).2.1 96 = some I96 := rfl
theorem ms97 (xs : List Int32) : (am_Bx xs).2.1 97 = some I97 := rfl
theorem ms98 (xs : List Int32) : (am_Bx xs).2.1 98 = some I98 := rfl
theorem ms99 (xs : List Int32) : (am_Bx xs).2.1 99 = some I99 := rfl
theorem ms100 (xs : List Int32) : (am_Bx xs).2.1 100 = some I100 := rfl
theorem ms101 (xs : List Int32) : (am_Bx xs).2.1 101 = some I101 := rfl
theorem ms102 (xs : List Int32) : (am_Bx xs).2.1 102 = some I102 := rfl
theorem ms103 (xs : List Int32) : (am_Bx xs).2.1 103 = some I103 := rfl
theorem ms104 (xs : List Int32) : (am_Bx xs).2.1 104 = some I104 := rfl
theorem ms105 (xs : List Int32) : (am_Bx xs).2.1 105 = some I105 := rfl
theorem ms106 (xs : List Int32) : (am_Bx xs).2.1 106 = some I106 := rfl
theorem ms107 (xs : List Int32) : (am_Bx xs).2.1 107 = some I107 := rfl
theorem ms108 (xs : List Int32) : (am_Bx xs).2.1 108 = some I108 := rfl
theorem ms109 (xs : List Int32) : (am_Bx xs).2.1 109 = some I109 := rfl
theorem ms110 (xs : List Int32) : (am_Bx xs).2.1 110 = some I110 := rfl
theorem ms111 (xs : List Int32) : (am_Bx xs).2.1 111 = some I111 := rfl
theorem ms112 (xs : List Int32) : (am_Bx xs).2.1 112 = some I112 := rfl
theorem ms113 (xs : List Int32) : (am_Bx xs).2.1 113 = some I113 := rfl
theorem ms114 (xs : List Int32) : (am_Bx xs).2.1 114 = some I114 := rfl
theorem ms115 (xs : List Int32) : (am_Bx xs).2.1 115 = some I115 := rfl
theorem ms116 (xs : List Int32) : (am_Bx xs).2.1 116 = some I116 := rfl
theorem ms117 (xs : List Int32) : (am_Bx xs).2.1 117 = some I117 := rfl
theorem ms118 (xs : List Int32) : (am_Bx xs).2.1 118 = some I118 := rfl
theorem ms119 (xs : List Int32) : (am_Bx xs).2.1 119 = some I119 := rfl
theorem ms120 (xs : List Int32) : (am_Bx xs).2.1 120 = some I120 := rfl
theorem ms121 (xs : List Int32) : (am_Bx xs).2.1 121 = some I121 := rfl
theorem ms122 (xs : List Int32) : (am_Bx xs).2.1 122 = some I122 := rfl
theorem ms123 (xs : List Int32) : (am_Bx xs).2.1 123 = some I123 := rfl
theorem ms124 (xs : List Int32) : (am_Bx xs).2.1 124 = some I124 := rfl
theorem ms125 (xs : List Int32) : (am_Bx xs).2.1 125 = some I125 := rfl
theorem ms126 (xs : List Int32) : (am_Bx xs).2.1 126 = some I126 := rfl
theorem ms127 (xs : List Int32) : (am_Bx xs).2.1 127 = some I127 := rfl
theorem ms128 (xs : List Int32) : (am_Bx xs).2.1 128 = some I128 := rfl
theorem ms129 (xs : List Int32) : (am_Bx xs).2.1 129 = some I129 := rfl
theorem ms130 (xs : List Int32) : (am_Bx xs).2.1 130 = some I130 := rfl
theorem ms131 (xs : List Int32) : (am_Bx xs).2.1 131 = some I131 := rfl
theorem ms132 (xs : List Int32) : (am_Bx xs).2.1 132 = some I132 := rfl
theorem ms133 (xs : List Int32) : (am_Bx xs).2.1 133 = some I133 := rfl
theorem ms134 (xs : List Int32) : (am_Bx xs).2.1 134 = some I134 := rfl
theorem ms135 (xs : List Int32) : (am_Bx xs).2.1 135 = some I135 := rfl
theorem ms136 (xs : List Int32) : (am_Bx xs).2.1 136 = some I136 := rfl
theorem ms137 (xs : List Int32) : (am_Bx xs).2.1 137 = some I137 := rfl
theorem ms138 (xs : List Int32) : (am_Bx xs).2.1 138 = some I138 := rfl
theorem ms139 (xs : List Int32) : (am_Bx xs).2.1 139 = some I139 := rfl
theorem ms140 (xs : List Int32) : (am_Bx xs).2.1 140 = some I140 := rfl
theorem ms141 (xs : List Int32) : (am_Bx xs).2.1 141 = some I141 := rfl
theorem ms142 (xs : List Int32) : (am_Bx xs).2.1 142 = some I142 := rfl
theorem ms143 (xs : List Int32) : (am_Bx xs).2.1 143 = some I143 := rfl
theorem ms144 (xs : List Int32) : (am_Bx xs).2.1 144 = some I144 := rfl
theorem ms145 (xs : List Int32) : (am_Bx xs).2.1 145 = some I145 := rfl
theorem ms146 (xs : List Int32) : (am_Bx xs).2.1 146 = some I146 := rfl
theorem ms147 (xs : List Int32) : (am_Bx xs).2.1 147 = some I147 := rfl
theorem ms148 (xs : List Int32) : (am_Bx xs).2.1 148 = some I148 := rfl
theorem ms149 (xs : List Int32) : (am_Bx xs).2.1 149 = some I149 := rfl
theorem ms150 (xs : List Int32) : (am_Bx xs).2.1 150 = some I150 := rfl
theorem ms151 (xs : List Int32) : (am_Bx xs).2.1 151 = some I151 := rfl
section MDX
variable {xs : List Int32} {mo : Nat} {ad : Nat → Nat} {h0 : am_H} {d : Nat} {Q : Option Value → md_S → Prop} {I : am_I} {pc : Nat} {ls : List (Option Value)} {st rest : List Value} {M M2 : md_S}
theorem md_nm (k : ∀ M1, M1 = M → md_wp xs mo ad h0 d Q I pc ls st M1) : md_wp xs mo ad h0 d Q I pc ls st M := k M rfl
theorem md_callI {idx mi n : Nat} {as : List Value} {v : Int32} {J : am_I} (hd : decode I.2.1 pc = .ok (.invokevirtual idx, 3)) (hb : am_pool I.1 idx = (4, mi, n)) (hn : as.length = n) (hrl : rest.length ≤ 8) (hJ : (am_Bx xs).2.1 mi = some J) (hJ9 : J.1 = 9) (hc : ∀ Q', Q' (some (.int v)) M → md_C xs mo ad d mi as M Q') (hst : st = as.reverse ++ .ref mo :: rest) (k : md_wp xs mo ad h0 d Q I (pc + 3) ls (.int v :: rest) M) : md_wp xs mo ad h0 d Q I pc ls st M :=
  md_call hd hb hn hrl hJ hJ9 (hc _ k) hst
theorem md_callV {idx mi n : Nat} {as : List Value} {J : am_I} (hd : decode I.2.1 pc = .ok (.invokevirtual idx, 3)) (hb : am_pool I.1 idx = (4, mi, n)) (hn : as.length = n) (hrl : rest.length ≤ 8) (hJ : (am_Bx xs).2.1 mi = some J) (hJ9 : J.1 = 9) (hc : ∀ Q', Q' none M2 → md_C xs mo ad d mi as M Q') (hst : st = as.reverse ++ .ref mo :: rest) (k : md_wp xs mo ad h0 d Q I (pc + 3) ls rest M2) : md_wp xs mo ad h0 d Q I pc ls st M :=
  md_call hd hb hn hrl hJ hJ9 (hc _ k) hst
theorem md_callS {idx mi n : Nat} {as : List Value} {v : Int32} (hd : decode I.2.1 pc = .ok (.invokestatic idx, 3)) (hb : am_pool I.1 idx = (5, mi, n)) (hn : as.length = n) (hrl : rest.length ≤ 8) (hc : ∀ Q', Q' (some (.int v)) → md_Cs xs d mi as Q') (hst : st = as.reverse ++ rest) (k : md_wp xs mo ad h0 d Q I (pc + 3) ls (.int v :: rest) M) : md_wp xs mo ad h0 d Q I pc ls st M :=
  md_calls hd hb hn hrl (hc _ k) hst
theorem md_callIM {idx mi n : Nat} {as : List Value} {v : Int32} {J : am_I} (hd : decode I.2.1 pc = .ok (.invokevirtual idx, 3)) (hb : am_pool I.1 idx = (4, mi, n)) (hn : as.length = n) (hrl : rest.length ≤ 8) (hJ : (am_Bx xs).2.1 mi = some J) (hJ9 : J.1 = 9) (hc : ∀ Q', Q' (some (.int v)) M2 → md_C xs mo ad d mi as M Q') (hst : st = as.reverse ++ .ref mo :: rest) (k : md_wp xs mo ad h0 d Q I (pc + 3) ls (.int v :: rest) M2) : md_wp xs mo ad h0 d Q I pc ls st M :=
  md_call hd hb hn hrl hJ hJ9 (hc _ k) hst
end MDX
end
section
/-! the same rules over the heap itself -/
section AXR
variable {xs : List Int32} {d : Nat} {Q : Option Value → am_H → Prop} {I : am_I} {pc : Nat} {ls : List (Option Value)} {st rest : List Value} {h : am_H}
theorem ax_iconst {n : Int} {v : Int32} (hd : decode I.2.1 pc = .ok (.iconst n, 1)) (hv : Int32.ofInt n = v) (k : am_wp (am_Bx xs) am_nm (am_T (am_Bx xs) am_nm d) Q I (pc + 1, ls, .int v :: st, h)) : am_wp (am_Bx xs) am_nm (am_T (am_Bx xs) am_nm d) Q I (pc, ls, st, h) :=
  am_r hd rfl (show am_nx _ _ _ _ _ _ _ _ _ _ from by subst hv; exact k)
theorem ax_bipush {n : Int} {v : Int32} (hd : decode I.2.1 pc = .ok (.bipush n, 2)) (hv : (Int8.ofInt n).toInt32 = v) (k : am_wp (am_Bx xs) am_nm (am_T (am_Bx xs) am_nm d) Q I (pc + 2, ls, .int v :: st, h)) : am_wp (am_Bx xs) am_nm (am_T (am_Bx xs) am_nm d) Q I (pc, ls, st, h) :=
  am_r hd rfl (show am_nx _ _ _ _ _ _ _ _ _ _ from by subst hv; exact k)
theorem ax_sipush {n : Int} {v : Int32} (hd : decode I.2.1 pc = .ok (.sipush n, 3)) (hv : (Int16.ofInt n).toInt32 = v) (k : am_wp (am_Bx xs) am_nm (am_T (am_Bx xs) am_nm d) Q I (pc + 3, ls, .int v :: st, h)) : am_wp (am_Bx xs) am_nm (am_T (am_Bx xs) am_nm d) Q I (pc, ls, st, h) :=
  am_r hd rfl (show am_nx _ _ _ _ _ _ _ _ _ _ from by subst hv; exact k)
theorem ax_null  (hd : decode I.2.1 pc = .ok (.aconst_null, 1))  (k : am_wp (am_Bx xs) am_nm (am_T (am_Bx xs) am_nm d) Q I (pc + 1, ls, .null :: st, h)) : am_wp (am_Bx xs) am_nm (am_T (am_Bx xs) am_nm d) Q I (pc, ls, st, h) :=
  am_r hd rfl (show am_nx _ _ _ _ _ _ _ _ _ _ from k)
theorem ax_iload {i : Nat} {x : Int32} (hd : decode I.2.1 pc = .ok (.iload i, 2)) (hx : ls[i]? = some (some (.int x))) (k : am_wp (am_Bx xs) am_nm (am_T (am_Bx xs) am_nm d) Q I (pc + 2, ls, .int x :: st, h)) : am_wp (am_Bx xs) am_nm (am_T (am_Bx xs) am_nm d) Q I (pc, ls, st, h) :=
  am_r hd rfl (show am_nx _ _ _ _ _ _ _ _ _ _ from ⟨x, hx, k⟩)
theorem ax_iload_n {i : Fin 4} {x : Int32} (hd : decode I.2.1 pc = .ok (.iload_n i, 1)) (hx : ls[i.val]? = some (some (.int x))) (k : am_wp (am_Bx xs) am_nm (am_T (am_Bx xs) am_nm d) Q I (pc + 1, ls, .int x :: st, h)) : am_wp (am_Bx xs) am_nm (am_T (am_Bx xs) am_nm d) Q I (pc, ls, st, h) :=
  am_r hd rfl (show am_nx _ _ _ _ _ _ _ _ _ _ from ⟨x, hx, k⟩)
theorem ax_aload {i : Nat} {v : Value} (hd : decode I.2.1 pc = .ok (.aload i, 2)) (hx : ls[i]? = some (some v)) (hv : am_isR v) (k : am_wp (am_Bx xs) am_nm (am_T (am_Bx xs) am_nm d) Q I (pc + 2, ls, v :: st, h)) : am_wp (am_Bx xs) am_nm (am_T (am_Bx xs) am_nm d) Q I (pc, ls, st, h) :=
  am_r hd rfl (show am_nx _ _ _ _ _ _ _ _ _ _ from ⟨_, hx, hv, k⟩)
theorem ax_aload_n {i : Fin 4} {v : Value} (hd : decode I.2.1 pc = .ok (.aload_n i, 1)) (hx : ls[i.val]? = some (some v)) (hv : am_isR v) (k : am_wp (am_Bx xs) am_nm (am_T (am_Bx xs) am_nm d) Q I (pc + 1, ls, v :: st, h)) : am_wp (am_Bx xs) am_nm (am_T (am_Bx xs) am_nm d) Q I (pc, ls, st, h) :=
  am_r hd rfl (show am_nx _ _ _ _ _ _ _ _ _ _ from ⟨_, hx, hv, k⟩)
theorem ax_istore {i : Nat} {x : Int32} (hd : decode I.2.1 pc = .ok (.istore i, 2)) (hx : i < ls.length) (k : am_wp (am_Bx xs) am_nm (am_T (am_Bx xs) am_nm d) Q I (pc + 2, (ls.set i (some (.int x))), st, h)) : am_wp (am_Bx xs) am_nm (am_T (am_Bx xs) am_nm d) Q I (pc, ls, .int x :: st, h) :=
  am_r hd rfl (show am_nx _ _ _ _ _ _ _ _ _ _ from ⟨x, st, rfl, hx, k⟩)
theorem ax_istore_n {i : Fin 4} {x : Int32} (hd : decode I.2.1 pc = .ok (.istore_n i, 1)) (hx : i.val < ls.length) (k : am_wp (am_Bx xs) am_nm (am_T (am_Bx xs) am_nm d) Q I (pc + 1, (ls.set i.val (some (.int x))), st, h)) : am_wp (am_Bx xs) am_nm (am_T (am_Bx xs) am_nm d) Q I (pc, ls, .int x :: st, h) :=
  am_r hd rfl (show am_nx _ _ _ _ _ _ _ _ _ _ from ⟨x, st, rfl, hx, k⟩)
theorem ax_astore {i : Nat} {v : Value} (hd : decode I.2.1 pc = .ok (.astore i, 2)) (hx : i < ls.length) (hv : am_isR v) (k : am_wp (am_Bx xs) am_nm (am_T (am_Bx xs) am_nm d) Q I (pc + 2, (ls.set i (some v)), st, h)) : am_wp (am_Bx xs) am_nm (am_T (am_Bx xs) am_nm d) Q I (pc, ls, v :: st, h) :=
  am_r hd rfl (show am_nx _ _ _ _ _ _ _ _ _ _ from ⟨v, st, rfl, hv, hx, k⟩)
theorem ax_astore_n {i : Fin 4} {v : Value} (hd : decode I.2.1 pc = .ok (.astore_n i, 1)) (hx : i.val < ls.length) (hv : am_isR v) (k : am_wp (am_Bx xs) am_nm (am_T (am_Bx xs) am_nm d) Q I (pc + 1, (ls.set i.val (some v)), st, h)) : am_wp (am_Bx xs) am_nm (am_T (am_Bx xs) am_nm d) Q I (pc, ls, v :: st, h) :=
  am_r hd rfl (show am_nx _ _ _ _ _ _ _ _ _ _ from ⟨v, st, rfl, hv, hx, k⟩)
theorem ax_iinc {i : Nat} {n : Int} {x v : Int32} (hd : decode I.2.1 pc = .ok (.iinc i n, 3)) (hx : ls[i]? = some (some (.int x))) (hv : x + Int32.ofInt n = v) (k : am_wp (am_Bx xs) am_nm (am_T (am_Bx xs) am_nm d) Q I (pc + 3, (ls.set i (some (.int v))), st, h)) : am_wp (am_Bx xs) am_nm (am_T (am_Bx xs) am_nm d) Q I (pc, ls, st, h) :=
  am_r hd rfl (show am_nx _ _ _ _ _ _ _ _ _ _ from ⟨x, hx, by subst hv; exact k⟩)
theorem ax_iadd {x y : Int32} (hd : decode I.2.1 pc = .ok (.iadd, 1))  (k : am_wp (am_Bx xs) am_nm (am_T (am_Bx xs) am_nm d) Q I (pc + 1, ls, .int (x + y) :: st, h)) : am_wp (am_Bx xs) am_nm (am_T (am_Bx xs) am_nm d) Q I (pc, ls, .int y :: .int x :: st, h) :=
  am_r hd rfl (show am_nx _ _ _ _ _ _ _ _ _ _ from ⟨x, y, st, rfl, k⟩)
theorem ax_isub {x y : Int32} (hd : decode I.2.1 pc = .ok (.isub, 1))  (k : am_wp (am_Bx xs) am_nm (am_T (am_Bx xs) am_nm d) Q I (pc + 1, ls, .int (x - y) :: st, h)) : am_wp (am_Bx xs) am_nm (am_T (am_Bx xs) am_nm d) Q I (pc, ls, .int y :: .int x :: st, h) :=
  am_r hd rfl (show am_nx _ _ _ _ _ _ _ _ _ _ from ⟨x, y, st, rfl, k⟩)
theorem ax_imul {x y : Int32} (hd : decode I.2.1 pc = .ok (.imul, 1))  (k : am_wp (am_Bx xs) am_nm (am_T (am_Bx xs) am_nm d) Q I (pc + 1, ls, .int (x * y) :: st, h)) : am_wp (am_Bx xs) am_nm (am_T (am_Bx xs) am_nm d) Q I (pc, ls, .int y :: .int x :: st, h) :=
  am_r hd rfl (show am_nx _ _ _ _ _ _ _ _ _ _ from ⟨x, y, st, rfl, k⟩)
theorem ax_iand {x y : Int32} (hd : decode I.2.1 pc = .ok (.iand, 1))  (k : am_wp (am_Bx xs) am_nm (am_T (am_Bx xs) am_nm d) Q I (pc + 1, ls, .int (x &&& y) :: st, h)) : am_wp (am_Bx xs) am_nm (am_T (am_Bx xs) am_nm d) Q I (pc, ls, .int y :: .int x :: st, h) :=
  am_r hd rfl (show am_nx _ _ _ _ _ _ _ _ _ _ from ⟨x, y, st, rfl, k⟩)
theorem ax_ishr {x y : Int32} (hd : decode I.2.1 pc = .ok (.ishr, 1))  (k : am_wp (am_Bx xs) am_nm (am_T (am_Bx xs) am_nm d) Q I (pc + 1, ls, .int (x >>> (y &&& 31)) :: st, h)) : am_wp (am_Bx xs) am_nm (am_T (am_Bx xs) am_nm d) Q I (pc, ls, .int y :: .int x :: st, h) :=
  am_r hd rfl (show am_nx _ _ _ _ _ _ _ _ _ _ from ⟨x, y, st, rfl, k⟩)
theorem ax_iushr {x y : Int32} (hd : decode I.2.1 pc = .ok (.iushr, 1))  (k : am_wp (am_Bx xs) am_nm (am_T (am_Bx xs) am_nm d) Q I (pc + 1, ls, .int ((x.toUInt32 >>> (y.toUInt32 &&& Int32.toUInt32 31)).toInt32) :: st, h)) : am_wp (am_Bx xs) am_nm (am_T (am_Bx xs) am_nm d) Q I (pc, ls, .int y :: .int x :: st, h) :=
  am_r hd rfl (show am_nx _ _ _ _ _ _ _ _ _ _ from ⟨x, y, st, rfl, k⟩)
theorem ax_idiv {x y : Int32} (hd : decode I.2.1 pc = .ok (.idiv, 1)) (hy : ¬ y = 0) (k : am_wp (am_Bx xs) am_nm (am_T (am_Bx xs) am_nm d) Q I (pc + 1, ls, .int (x / y) :: st, h)) : am_wp (am_Bx xs) am_nm (am_T (am_Bx xs) am_nm d) Q I (pc, ls, .int y :: .int x :: st, h) :=
  am_r hd rfl (show am_nx _ _ _ _ _ _ _ _ _ _ from ⟨x, y, st, rfl, hy, k⟩)
theorem ax_i2b {x : Int32} (hd : decode I.2.1 pc = .ok (.i2b, 1))  (k : am_wp (am_Bx xs) am_nm (am_T (am_Bx xs) am_nm d) Q I (pc + 1, ls, .int x.toInt8.toInt32 :: st, h)) : am_wp (am_Bx xs) am_nm (am_T (am_Bx xs) am_nm d) Q I (pc, ls, .int x :: st, h) :=
  am_r hd rfl (show am_nx _ _ _ _ _ _ _ _ _ _ from ⟨x, st, rfl, k⟩)
theorem ax_dup {v : Value} (hd : decode I.2.1 pc = .ok (.dup, 1))  (k : am_wp (am_Bx xs) am_nm (am_T (am_Bx xs) am_nm d) Q I (pc + 1, ls, v :: v :: st, h)) : am_wp (am_Bx xs) am_nm (am_T (am_Bx xs) am_nm d) Q I (pc, ls, v :: st, h) :=
  am_r hd rfl (show am_nx _ _ _ _ _ _ _ _ _ _ from ⟨v, st, rfl, k⟩)
theorem ax_dup_x1 {v w : Value} (hd : decode I.2.1 pc = .ok (.dup_x1, 1))  (k : am_wp (am_Bx xs) am_nm (am_T (am_Bx xs) am_nm d) Q I (pc + 1, ls, v :: w :: v :: st, h)) : am_wp (am_Bx xs) am_nm (am_T (am_Bx xs) am_nm d) Q I (pc, ls, v :: w :: st, h) :=
  am_r hd rfl (show am_nx _ _ _ _ _ _ _ _ _ _ from ⟨v, w, st, rfl, k⟩)
theorem ax_dup2 {v w : Value} (hd : decode I.2.1 pc = .ok (.dup2, 1))  (k : am_wp (am_Bx xs) am_nm (am_T (am_Bx xs) am_nm d) Q I (pc + 1, ls, v :: w :: v :: w :: st, h)) : am_wp (am_Bx xs) am_nm (am_T (am_Bx xs) am_nm d) Q I (pc, ls, v :: w :: st, h) :=
  am_r hd rfl (show am_nx _ _ _ _ _ _ _ _ _ _ from ⟨v, w, st, rfl, k⟩)
theorem ax_pop {v : Value} (hd : decode I.2.1 pc = .ok (.pop, 1))  (k : am_wp (am_Bx xs) am_nm (am_T (am_Bx xs) am_nm d) Q I (pc + 1, ls, st, h)) : am_wp (am_Bx xs) am_nm (am_T (am_Bx xs) am_nm d) Q I (pc, ls, v :: st, h) :=
  am_r hd rfl (show am_nx _ _ _ _ _ _ _ _ _ _ from ⟨v, st, rfl, k⟩)
theorem ax_goto {off : Int} {tgt : Nat} (hd : decode I.2.1 pc = .ok (.goto off, 3)) (ht : (pc : Int) + off = (tgt : Int)) (k : am_wp (am_Bx xs) am_nm (am_T (am_Bx xs) am_nm d) Q I (tgt, ls, st, h)) : am_wp (am_Bx xs) am_nm (am_T (am_Bx xs) am_nm d) Q I (pc, ls, st, h) :=
  am_r hd rfl (show am_nx _ _ _ _ _ _ _ _ _ _ from ⟨tgt, ht, k⟩)
theorem ax_if_eq {x : Int32} {off : Int} {tgt : Nat} (hd : decode I.2.1 pc = .ok (.ifCond .eq off, 3)) (ht : (pc : Int) + off = (tgt : Int)) (k1 : x = 0 → am_wp (am_Bx xs) am_nm (am_T (am_Bx xs) am_nm d) Q I (tgt, ls, st, h)) (k2 : ¬ (x = 0) → am_wp (am_Bx xs) am_nm (am_T (am_Bx xs) am_nm d) Q I (pc + 3, ls, st, h)) : am_wp (am_Bx xs) am_nm (am_T (am_Bx xs) am_nm d) Q I (pc, ls, .int x :: st, h) :=
  am_r hd rfl (show am_nx _ _ _ _ _ _ _ _ _ _ from ⟨x, st, rfl, tgt, ht, k1, k2⟩)
theorem ax_icmp_eq {x y : Int32} {off : Int} {tgt : Nat} (hd : decode I.2.1 pc = .ok (.if_icmp .eq off, 3)) (ht : (pc : Int) + off = (tgt : Int)) (k1 : x = y → am_wp (am_Bx xs) am_nm (am_T (am_Bx xs) am_nm d) Q I (tgt, ls, st, h)) (k2 : ¬ (x = y) → am_wp (am_Bx xs) am_nm (am_T (am_Bx xs) am_nm d) Q I (pc + 3, ls, st, h)) : am_wp (am_Bx xs) am_nm (am_T (am_Bx xs) am_nm d) Q I (pc, ls, .int y :: .int x :: st, h) :=
  am_r hd rfl (show am_nx _ _ _ _ _ _ _ _ _ _ from ⟨x, y, st, rfl, tgt, ht, k1, k2⟩)
theorem ax_if_ne {x : Int32} {off : Int} {tgt : Nat} (hd : decode I.2.1 pc = .ok (.ifCond .ne off, 3)) (ht : (pc : Int) + off = (tgt : Int)) (k1 : ¬ x = 0 → am_wp (am_Bx xs) am_nm (am_T (am_Bx xs) am_nm d) Q I (tgt, ls, st, h)) (k2 : ¬ (¬ x = 0) → am_wp (am_Bx xs) am_nm (am_T (am_Bx xs) am_nm d) Q I (pc + 3, ls, st, h)) : am_wp (am_Bx xs) am_nm (am_T (am_Bx xs) am_nm d) Q I (pc, ls, .int x :: st, h) :=
  am_r hd rfl (show am_nx _ _ _ _ _ _ _ _ _ _ from ⟨x, st, rfl, tgt, ht, k1, k2⟩)
theorem ax_icmp_ne {x y : Int32} {off : Int} {tgt : Nat} (hd : decode I.2.1 pc = .ok (.if_icmp .ne off, 3)) (ht : (pc : Int) + off = (tgt : Int)) (k1 : ¬ x = y → am_wp (am_Bx xs) am_nm (am_T (am_Bx xs) am_nm d) Q I (tgt, ls, st, h)) (k2 : ¬ (¬ x = y) → am_wp (am_Bx xs) am_nm (am_T (am_Bx xs) am_nm d) Q I (pc + 3, ls, st, h)) : am_wp (am_Bx xs) am_nm (am_T (am_Bx xs) am_nm d) Q I (pc, ls, .int y :: .int x :: st, h) :=
  am_r hd rfl (show am_nx _ _ _ _ _ _ _ _ _ _ from ⟨x, y, st, rfl, tgt, ht, k1, k2⟩)
theorem ax_if_lt {x : Int32} {off : Int} {tgt : Nat} (hd : decode I.2.1 pc = .ok (.ifCond .lt off, 3)) (ht : (pc : Int) + off = (tgt : Int)) (k1 : x < 0 → am_wp (am_Bx xs) am_nm (am_T (am_Bx xs) am_nm d) Q I (tgt, ls, st, h)) (k2 : ¬ (x < 0) → am_wp (am_Bx xs) am_nm (am_T (am_Bx xs) am_nm d) Q I (pc + 3, ls, st, h)) : am_wp (am_Bx xs) am_nm (am_T (am_Bx xs) am_nm d) Q I (pc, ls, .int x :: st, h) :=
  am_r hd rfl (show am_nx _ _ _ _ _ _ _ _ _ _ from ⟨x, st, rfl, tgt, ht, k1, k2⟩)
theorem ax_icmp_lt {x y : Int32} {off : Int} {tgt : Nat} (hd : decode I.2.1 pc = .ok (.if_icmp .lt off, 3)) (ht : (pc : Int) + off = (tgt : Int)) (k1 : x < y → am_wp (am_Bx xs) am_nm (am_T (am_Bx xs) am_nm d) Q I (tgt, ls, st, h)) (k2 : ¬ (x < y) → am_wp (am_Bx xs) am_nm (am_T (am_Bx xs) am_nm d) Q I (pc + 3, ls, st, h)) : am_wp (am_Bx xs) am_nm (am_T (am_Bx xs) am_nm d) Q I (pc, ls, .int y :: .int x :: st, h) :=
  am_r hd rfl (show am_nx _ _ _ _ _ _ _ _ _ _ from ⟨x, y, st, rfl, tgt, ht, k1, k2⟩)
theorem ax_if_ge {x : Int32} {off : Int} {tgt : Nat} (hd : decode I.2.1 pc = .ok (.ifCond .ge off, 3)) (ht : (pc : Int) + off = (tgt : Int)) (k1 : 0 ≤ x → am_wp (am_Bx xs) am_nm (am_T (am_Bx xs) am_nm d) Q I (tgt, ls, st, h)) (k2 : ¬ (0 ≤ x) → am_wp (am_Bx xs) am_nm (am_T (am_Bx xs) am_nm d) Q I (pc + 3, ls, st, h)) : am_wp (am_Bx xs) am_nm (am_T (am_Bx xs) am_nm d) Q I (pc, ls, .int x :: st, h) :=
  am_r hd rfl (show am_nx _ _ _ _ _ _ _ _ _ _ from ⟨x, st, rfl, tgt, ht, k1, k2⟩)
theorem ax_icmp_ge {x y : Int32} {off : Int} {tgt : Nat} (hd : decode I.2.1 pc = .ok (.if_icmp .ge off, 3)) (ht : (pc : Int) + off = (tgt : Int)) (k1 : y ≤ x → am_wp (am_Bx xs) am_nm (am_T (am_Bx xs) am_nm d) Q I (tgt, ls, st, h)) (k2 : ¬ (y ≤ x) → am_wp (am_Bx xs) am_nm (am_T (am_Bx xs) am_nm d) Q I (pc + 3, ls, st, h)) : am_wp (am_Bx xs) am_nm (am_T (am_Bx xs) am_nm d) Q I (pc, ls, .int y :: .int x :: st, h) :=
  am_r hd rfl (show am_nx _ _ _ _ _ _ _ _ _ _ from ⟨x, y, st, rfl, tgt, ht, k1, k2⟩)
theorem ax_if_gt {x : Int32} {off : Int} {tgt : Nat} (hd : decode I.2.1 pc = .ok (.ifCond .gt off, 3)) (ht : (pc : Int) + off = (tgt : Int)) (k1 : 0 < x → am_wp (am_Bx xs) am_nm (am_T (am_Bx xs) am_nm d) Q I (tgt, ls, st, h)) (k2 : ¬ (0 < x) → am_wp (am_Bx xs) am_nm (am_T (am_Bx xs) am_nm d) Q I (pc + 3, ls, st, h)) : am_wp (am_Bx xs) am_nm (am_T (am_Bx xs) am_nm d) Q I (pc, ls, .int x :: st, h) :=
  am_r hd rfl (show am_nx _ _ _ _ _ _ _ _ _ _ from ⟨x, st, rfl, tgt, ht, k1, k2⟩)
theorem ax_icmp_gt {x y : Int32} {off : Int} {tgt : Nat} (hd : decode I.2.1 pc = .ok (.if_icmp .gt off, 3)) (ht : (pc : Int) + off = (tgt : Int)) (k1 : y < x → am_wp (am_Bx xs) am_nm (am_T (am_Bx xs) am_nm d) Q I (tgt, ls, st, h)) (k2 : ¬ (y < x) → am_wp (am_Bx xs) am_nm (am_T (am_Bx xs) am_nm d) Q I (pc + 3, ls, st, h)) : am_wp (am_Bx xs) am_nm (am_T (am_Bx xs) am_nm d) Q I (pc, ls, .int y :: .int x :: st, h) :=
  am_r hd rfl (show am_nx _ _ _ _ _ _ _ _ _ _ from ⟨x, y, st, rfl, tgt, ht, k1, k2⟩)
theorem ax_if_le {x : Int32} {off : Int} {tgt : Nat} (hd : decode I.2.1 pc = .ok (.ifCond .le off, 3)) (ht : (pc : Int) + off = (tgt : Int)) (k1 : x ≤ 0 → am_wp (am_Bx xs) am_nm (am_T (am_Bx xs) am_nm d) Q I (tgt, ls, st, h)) (k2 : ¬ (x ≤ 0) → am_wp (am_Bx xs) am_nm (am_T (am_Bx xs) am_nm d) Q I (pc + 3, ls, st, h)) : am_wp (am_Bx xs) am_nm (am_T (am_Bx xs) am_nm d) Q I (pc, ls, .int x :: st, h) :=
  am_r hd rfl (show am_nx _ _ _ _ _ _ _ _ _ _ from ⟨x, st, rfl, tgt, ht, k1, k2⟩)
theorem ax_icmp_le {x y : Int32} {off : Int} {tgt : Nat} (hd : decode I.2.1 pc = .ok (.if_icmp .le off, 3)) (ht : (pc : Int) + off = (tgt : Int)) (k1 : x ≤ y → am_wp (am_Bx xs) am_nm (am_T (am_Bx xs) am_nm d) Q I (tgt, ls, st, h)) (k2 : ¬ (x ≤ y) → am_wp (am_Bx xs) am_nm (am_T (am_Bx xs) am_nm d) Q I (pc + 3, ls, st, h)) : am_wp (am_Bx xs) am_nm (am_T (am_Bx xs) am_nm d) Q I (pc, ls, .int y :: .int x :: st, h) :=
  am_r hd rfl (show am_nx _ _ _ _ _ _ _ _ _ _ from ⟨x, y, st, rfl, tgt, ht, k1, k2⟩)
theorem ax_ifnull {v : Value} {off : Int} {tgt : Nat} (hd : decode I.2.1 pc = .ok (.ifnull off, 3)) (hv : am_isR v) (ht : (pc : Int) + off = (tgt : Int)) (k1 : v = .null → am_wp (am_Bx xs) am_nm (am_T (am_Bx xs) am_nm d) Q I (tgt, ls, st, h)) (k2 : ¬ v = .null → am_wp (am_Bx xs) am_nm (am_T (am_Bx xs) am_nm d) Q I (pc + 3, ls, st, h)) : am_wp (am_Bx xs) am_nm (am_T (am_Bx xs) am_nm d) Q I (pc, ls, v :: st, h) :=
  am_r hd rfl (show am_nx _ _ _ _ _ _ _ _ _ _ from ⟨v, st, rfl, hv, tgt, ht, k1, k2⟩)
theorem ax_ifnonnull {v : Value} {off : Int} {tgt : Nat} (hd : decode I.2.1 pc = .ok (.ifnonnull off, 3)) (hv : am_isR v) (ht : (pc : Int) + off = (tgt : Int)) (k1 : ¬ v = .null → am_wp (am_Bx xs) am_nm (am_T (am_Bx xs) am_nm d) Q I (tgt, ls, st, h)) (k2 : ¬ ¬ v = .null → am_wp (am_Bx xs) am_nm (am_T (am_Bx xs) am_nm d) Q I (pc + 3, ls, st, h)) : am_wp (am_Bx xs) am_nm (am_T (am_Bx xs) am_nm d) Q I (pc, ls, v :: st, h) :=
  am_r hd rfl (show am_nx _ _ _ _ _ _ _ _ _ _ from ⟨v, st, rfl, hv, tgt, ht, k1, k2⟩)
theorem ax_getf {idx a t c k : Nat} {v : Value} (hd : decode I.2.1 pc = .ok (.getfield idx, 3)) (hb : am_pool I.1 idx = (t, c, k)) (ht : t = 1 ∨ t = 2) (hg : am_get h c a k = some v) (kk : am_wp (am_Bx xs) am_nm (am_T (am_Bx xs) am_nm d) Q I (pc + 3, ls, v :: st, h)) : am_wp (am_Bx xs) am_nm (am_T (am_Bx xs) am_nm d) Q I (pc, ls, .ref a :: st, h) :=
  am_r hd rfl (show am_nx _ _ _ _ _ _ _ _ _ _ from ⟨a, st, t, c, k, v, rfl, hb, ht, hg, kk⟩)
theorem ax_putf {idx a c k : Nat} {v w : Value} {ts : List (FieldType × Bool)} {ty : FieldType} {fin : Bool} (hd : decode I.2.1 pc = .ok (.putfield idx, 3)) (hb : am_pool I.1 idx = (1, c, k)) (hg : am_get h c a k = some w) (hts : am_fl c = some ts) (hty : ts[k]? = some (ty, fin)) (hfit : am_fit ty v = true) (hfin : fin = true → I.2.2.2.2 = true ∧ c = I.1) (kk : am_wp (am_Bx xs) am_nm (am_T (am_Bx xs) am_nm d) Q I (pc + 3, ls, st, am_put h a k v)) : am_wp (am_Bx xs) am_nm (am_T (am_Bx xs) am_nm d) Q I (pc, ls, v :: .ref a :: st, h) :=
  am_r hd rfl (show am_nx _ _ _ _ _ _ _ _ _ _ from ⟨a, st, c, k, v, w, ts, ty, fin, rfl, hb, hg, hts, hty, hfit, hfin, kk⟩)
theorem ax_ret {v : Option Value} {i : Instr} (hd : decode I.2.1 pc = .ok (i, 1)) (hl : am_len i 1 = true) (ha : am_ans I.2.2.2.1 v = true) (hi : i = .return_ ∧ v = none ∨ (i = .ireturn ∧ ∃ x, v = some (.int x)) ∨ i = .areturn ∧ ∃ r, v = some r ∧ am_isR r) (hQ : Q v h) : am_wp (am_Bx xs) am_nm (am_T (am_Bx xs) am_nm d) Q I (pc, ls, v.toList, h) :=
  am_rr hd hl ⟨v, rfl, ha, hQ, hi⟩
theorem ax_iret {x : Int32} (hd : decode I.2.1 pc = .ok (.ireturn, 1)) (ha : am_ans I.2.2.2.1 (some (.int x)) = true) (hQ : Q (some (.int x)) h) : am_wp (am_Bx xs) am_nm (am_T (am_Bx xs) am_nm d) Q I (pc, ls, [.int x], h) :=
  am_rr hd rfl ⟨some (.int x), rfl, ha, hQ, Or.inr (Or.inl ⟨rfl, x, rfl⟩)⟩
theorem ax_vret (hd : decode I.2.1 pc = .ok (.return_, 1)) (ha : am_ans I.2.2.2.1 none = true) (hQ : Q none h) : am_wp (am_Bx xs) am_nm (am_T (am_Bx xs) am_nm d) Q I (pc, ls, [], h) :=
  am_rr hd rfl ⟨none, rfl, ha, hQ, Or.inl ⟨rfl, rfl⟩⟩
theorem ax_intro {mi : Nat} {as : List Value} {J : am_I} (hI : (am_Bx xs).2.1 mi = some J) (hl : as.length ≤ J.2.2.1) (hw : am_wp (am_Bx xs) am_nm (am_T (am_Bx xs) am_nm d) Q J (0, as.map some ++ List.replicate (J.2.2.1 - as.length) none, [], h)) : am_T (am_Bx xs) am_nm (d + 1) mi as h Q :=
  ⟨J, hI, hl, hw⟩
end AXR
end
section
/-! the reference's small methods (by program: wip/whole/gen/m1.py) -/
theorem md_vl {j : Int32} {n : Nat} (h : ¬ (j < 0 ∨ n ≤ j.toNatClampNeg)) : vp_in j n := h
theorem md_has {n p : Int32} (hn : vp_in n 60) (hp : vp_in p 9) : vp_in (9 * n + p) 540 := by
  obtain ⟨a, ha, rfl⟩ := vp_in_of hn (by decide)
  obtain ⟨b, hb, rfl⟩ := vp_in_of hp (by decide)
  have e : (9 : Int32) * nI a + nI b = nI (9 * a + b) := by rw [show (9 : Int32) = nI 9 from rfl, pk_mul, nI_add]
  rw [e]
  exact vp_in_nI (by omega) (by decide)
/-- more -/
def f_more (a b : Int32) : Int32 := if a ≤ b then b else a
set_option maxHeartbeats 1000000 in
theorem vc126_0 {xs : List Int32} {d : Nat} {Q : Option Value → am_H → Prop} {h : am_H} {a : Int32} {b : Int32}
    (k1 : (a ≤ b) → Q (some (.int b)) h)
    (k2 : ¬ (a ≤ b) → Q (some (.int a)) h) :
    am_wp (am_Bx xs) am_nm (am_T (am_Bx xs) am_nm d) Q I126 (0, [some (.int a), some (.int b)], [], h) := by
  refine ax_iload_n (dd D126_ok 0 rfl) rfl ?_
  refine ax_iload_n (dd D126_ok 1 rfl) rfl ?_
  refine ax_icmp_le (tgt := 9) (dd D126_ok 2 rfl) (by decide) (fun c1 => ?_) (fun c1 => ?_)
  · refine ax_iload_n (dd D126_ok 5 rfl) rfl ?_
    exact ax_iret (dd D126_ok 6 rfl) rfl (k1 c1)
  · refine ax_iload_n (dd D126_ok 3 rfl) rfl ?_
    refine ax_goto (tgt := 10) (dd D126_ok 4 rfl) (by decide) ?_
    exact ax_iret (dd D126_ok 6 rfl) rfl (k2 c1)
theorem c_f_more {xs : List Int32} {d : Nat} {a b : Int32} : ∀ Q', Q' (some (.int (f_more a b))) → md_Cs xs (d + 1) 126 [.int a, .int b] Q' :=
  fun Q' hQ h => ax_intro (ms126 xs) (Nat.le_of_ble_eq_true rfl) (vc126_0 (fun q0 => ⟨rfl, by rw [f_more, if_pos q0] at hQ; exact hQ⟩) (fun q0 => ⟨rfl, by rw [f_more, if_neg q0] at hQ; exact hQ⟩))
/-- less -/
def f_less (a b : Int32) : Int32 := if b ≤ a then b else a
set_option maxHeartbeats 1000000 in
theorem vc133_0 {xs : List Int32} {d : Nat} {Q : Option Value → am_H → Prop} {h : am_H} {a : Int32} {b : Int32}
    (k1 : (b ≤ a) → Q (some (.int b)) h)
    (k2 : ¬ (b ≤ a) → Q (some (.int a)) h) :
    am_wp (am_Bx xs) am_nm (am_T (am_Bx xs) am_nm d) Q I133 (0, [some (.int a), some (.int b)], [], h) := by
  refine ax_iload_n (dd D133_ok 0 rfl) rfl ?_
  refine ax_iload_n (dd D133_ok 1 rfl) rfl ?_
  refine ax_icmp_ge (tgt := 9) (dd D133_ok 2 rfl) (by decide) (fun c1 => ?_) (fun c1 => ?_)
  · refine ax_iload_n (dd D133_ok 5 rfl) rfl ?_
    exact ax_iret (dd D133_ok 6 rfl) rfl (k1 c1)
  · refine ax_iload_n (dd D133_ok 3 rfl) rfl ?_
    refine ax_goto (tgt := 10) (dd D133_ok 4 rfl) (by decide) ?_
    exact ax_iret (dd D133_ok 6 rfl) rfl (k2 c1)
theorem c_f_less {xs : List Int32} {d : Nat} {a b : Int32} : ∀ Q', Q' (some (.int (f_less a b))) → md_Cs xs (d + 1) 133 [.int a, .int b] Q' :=
  fun Q' hQ h => ax_intro (ms133 xs) (Nat.le_of_ble_eq_true rfl) (vc133_0 (fun q0 => ⟨rfl, by rw [f_less, if_pos q0] at hQ; exact hQ⟩) (fun q0 => ⟨rfl, by rw [f_less, if_neg q0] at hQ; exact hQ⟩))
/-- isBlank -/
def f_blank (a : Int32) : Int32 := if a = 10 then 1 else (if ¬ a = 32 then 0 else 1)
set_option maxHeartbeats 1000000 in
theorem vc131_0 {xs : List Int32} {d : Nat} {Q : Option Value → am_H → Prop} {h : am_H} {a : Int32}
    (k1 : (a = 10) → Q (some (.int 1)) h)
    (k2 : ¬ (a = 10) → ¬ a = 32 → Q (some (.int 0)) h)
    (k3 : ¬ (a = 10) → ¬ (¬ a = 32) → Q (some (.int 1)) h) :
    am_wp (am_Bx xs) am_nm (am_T (am_Bx xs) am_nm d) Q I131 (0, [some (.int a)], [], h) := by
  refine ax_iload_n (dd D131_ok 0 rfl) rfl ?_
  refine ax_bipush (v := 10) (dd D131_ok 1 rfl) (by decide) ?_
  refine ax_icmp_eq (tgt := 12) (dd D131_ok 2 rfl) (by decide) (fun c1 => ?_) (fun c1 => ?_)
  · refine ax_iconst (v := 1) (dd D131_ok 6 rfl) (by decide) ?_
    refine ax_goto (tgt := 17) (dd D131_ok 7 rfl) (by decide) ?_
    exact ax_iret (dd D131_ok 9 rfl) rfl (k1 c1)
  · refine ax_iload_n (dd D131_ok 3 rfl) rfl ?_
    refine ax_bipush (v := 32) (dd D131_ok 4 rfl) (by decide) ?_
    refine ax_icmp_ne (tgt := 16) (dd D131_ok 5 rfl) (by decide) (fun c2 => ?_) (fun c2 => ?_)
    · refine ax_iconst (v := 0) (dd D131_ok 8 rfl) (by decide) ?_
      exact ax_iret (dd D131_ok 9 rfl) rfl (k2 c1 c2)
    · refine ax_iconst (v := 1) (dd D131_ok 6 rfl) (by decide) ?_
      refine ax_goto (tgt := 17) (dd D131_ok 7 rfl) (by decide) ?_
      exact ax_iret (dd D131_ok 9 rfl) rfl (k3 c1 c2)
theorem c_f_blank {xs : List Int32} {d : Nat} {a : Int32} : ∀ Q', Q' (some (.int (f_blank a))) → md_Cs xs (d + 1) 131 [.int a] Q' :=
  fun Q' hQ h => ax_intro (ms131 xs) (Nat.le_of_ble_eq_true rfl) (vc131_0 (fun q0 => ⟨rfl, by rw [f_blank, if_pos q0] at hQ; exact hQ⟩) (fun q0 q1 => ⟨rfl, by rw [f_blank, if_neg q0, if_pos q1] at hQ; exact hQ⟩) (fun q0 q1 => ⟨rfl, by rw [f_blank, if_neg q0, if_neg q1] at hQ; exact hQ⟩))
/-- glyph -/
def f_glyph (a : Int32) : Int32 := if a = 105 then 2 else (if a = 108 then 2 else (if a = 106 then 2 else (if a = 46 then 2 else (if a = 44 then 2 else (if a = 39 then 2 else (if a = 58 then 2 else (if a = 59 then 2 else (if a = 33 then 2 else (if ¬ a = 124 then (if a = 109 then 5 else (if a = 119 then 5 else (if a = 77 then 5 else (if a = 87 then 5 else (if ¬ a = 64 then 4 else 5))))) else 2)))))))))
set_option maxHeartbeats 1000000 in
theorem vc132_0 {xs : List Int32} {d : Nat} {Q : Option Value → am_H → Prop} {h : am_H} {a : Int32}
    (k1 : (a = 105) → Q (some (.int 2)) h)
    (k2 : ¬ (a = 105) → (a = 108) → Q (some (.int 2)) h)
    (k3 : ¬ (a = 105) → ¬ (a = 108) → (a = 106) → Q (some (.int 2)) h)
    (k4 : ¬ (a = 105) → ¬ (a = 108) → ¬ (a = 106) → (a = 46) → Q (some (.int 2)) h)
    (k5 : ¬ (a = 105) → ¬ (a = 108) → ¬ (a = 106) → ¬ (a = 46) → (a = 44) → Q (some (.int 2)) h)
    (k6 : ¬ (a = 105) → ¬ (a = 108) → ¬ (a = 106) → ¬ (a = 46) → ¬ (a = 44) → (a = 39) → Q (some (.int 2)) h)
    (k7 : ¬ (a = 105) → ¬ (a = 108) → ¬ (a = 106) → ¬ (a = 46) → ¬ (a = 44) → ¬ (a = 39) → (a = 58) → Q (some (.int 2)) h)
    (k8 : ¬ (a = 105) → ¬ (a = 108) → ¬ (a = 106) → ¬ (a = 46) → ¬ (a = 44) → ¬ (a = 39) → ¬ (a = 58) → (a = 59) → Q (some (.int 2)) h)
    (k9 : ¬ (a = 105) → ¬ (a = 108) → ¬ (a = 106) → ¬ (a = 46) → ¬ (a = 44) → ¬ (a = 39) → ¬ (a = 58) → ¬ (a = 59) → (a = 33) → Q (some (.int 2)) h)
    (k10 : ¬ (a = 105) → ¬ (a = 108) → ¬ (a = 106) → ¬ (a = 46) → ¬ (a = 44) → ¬ (a = 39) → ¬ (a = 58) → ¬ (a = 59) → ¬ (a = 33) → ¬ a = 124 → (a = 109) → Q (some (.int 5)) h)
    (k11 : ¬ (a = 105) → ¬ (a = 108) → ¬ (a = 106) → ¬ (a = 46) → ¬ (a = 44) → ¬ (a = 39) → ¬ (a = 58) → ¬ (a = 59) → ¬ (a = 33) → ¬ a = 124 → ¬ (a = 109) → (a = 119) → Q (some (.int 5)) h)
    (k12 : ¬ (a = 105) → ¬ (a = 108) → ¬ (a = 106) → ¬ (a = 46) → ¬ (a = 44) → ¬ (a = 39) → ¬ (a = 58) → ¬ (a = 59) → ¬ (a = 33) → ¬ a = 124 → ¬ (a = 109) → ¬ (a = 119) → (a = 77) → Q (some (.int 5)) h)
    (k13 : ¬ (a = 105) → ¬ (a = 108) → ¬ (a = 106) → ¬ (a = 46) → ¬ (a = 44) → ¬ (a = 39) → ¬ (a = 58) → ¬ (a = 59) → ¬ (a = 33) → ¬ a = 124 → ¬ (a = 109) → ¬ (a = 119) → ¬ (a = 77) → (a = 87) → Q (some (.int 5)) h)
    (k14 : ¬ (a = 105) → ¬ (a = 108) → ¬ (a = 106) → ¬ (a = 46) → ¬ (a = 44) → ¬ (a = 39) → ¬ (a = 58) → ¬ (a = 59) → ¬ (a = 33) → ¬ a = 124 → ¬ (a = 109) → ¬ (a = 119) → ¬ (a = 77) → ¬ (a = 87) → ¬ a = 64 → Q (some (.int 4)) h)
    (k15 : ¬ (a = 105) → ¬ (a = 108) → ¬ (a = 106) → ¬ (a = 46) → ¬ (a = 44) → ¬ (a = 39) → ¬ (a = 58) → ¬ (a = 59) → ¬ (a = 33) → ¬ a = 124 → ¬ (a = 109) → ¬ (a = 119) → ¬ (a = 77) → ¬ (a = 87) → ¬ (¬ a = 64) → Q (some (.int 5)) h)
    (k16 : ¬ (a = 105) → ¬ (a = 108) → ¬ (a = 106) → ¬ (a = 46) → ¬ (a = 44) → ¬ (a = 39) → ¬ (a = 58) → ¬ (a = 59) → ¬ (a = 33) → ¬ (¬ a = 124) → Q (some (.int 2)) h) :
    am_wp (am_Bx xs) am_nm (am_T (am_Bx xs) am_nm d) Q I132 (0, [some (.int a)], [], h) := by
  refine ax_iload_n (dd D132_ok 0 rfl) rfl ?_
  refine ax_bipush (v := 105) (dd D132_ok 1 rfl) (by decide) ?_
  refine ax_icmp_eq (tgt := 60) (dd D132_ok 2 rfl) (by decide) (fun c1 => ?_) (fun c1 => ?_)
  · refine ax_iconst (v := 2) (dd D132_ok 30 rfl) (by decide) ?_
    exact ax_iret (dd D132_ok 31 rfl) rfl (k1 c1)
  · refine ax_iload_n (dd D132_ok 3 rfl) rfl ?_
    refine ax_bipush (v := 108) (dd D132_ok 4 rfl) (by decide) ?_
    refine ax_icmp_eq (tgt := 60) (dd D132_ok 5 rfl) (by decide) (fun c2 => ?_) (fun c2 => ?_)
    · refine ax_iconst (v := 2) (dd D132_ok 30 rfl) (by decide) ?_
      exact ax_iret (dd D132_ok 31 rfl) rfl (k2 c1 c2)
    · refine ax_iload_n (dd D132_ok 6 rfl) rfl ?_
      refine ax_bipush (v := 106) (dd D132_ok 7 rfl) (by decide) ?_
      refine ax_icmp_eq (tgt := 60) (dd D132_ok 8 rfl) (by decide) (fun c3 => ?_) (fun c3 => ?_)
      · refine ax_iconst (v := 2) (dd D132_ok 30 rfl) (by decide) ?_
        exact ax_iret (dd D132_ok 31 rfl) rfl (k3 c1 c2 c3)
      · refine ax_iload_n (dd D132_ok 9 rfl) rfl ?_
        refine ax_bipush (v := 46) (dd D132_ok 10 rfl) (by decide) ?_
        refine ax_icmp_eq (tgt := 60) (dd D132_ok 11 rfl) (by decide) (fun c4 => ?_) (fun c4 => ?_)
        · refine ax_iconst (v := 2) (dd D132_ok 30 rfl) (by decide) ?_
          exact ax_iret (dd D132_ok 31 rfl) rfl (k4 c1 c2 c3 c4)
        · refine ax_iload_n (dd D132_ok 12 rfl) rfl ?_
          refine ax_bipush (v := 44) (dd D132_ok 13 rfl) (by decide) ?_
          refine ax_icmp_eq (tgt := 60) (dd D132_ok 14 rfl) (by decide) (fun c5 => ?_) (fun c5 => ?_)
          · refine ax_iconst (v := 2) (dd D132_ok 30 rfl) (by decide) ?_
            exact ax_iret (dd D132_ok 31 rfl) rfl (k5 c1 c2 c3 c4 c5)
          · refine ax_iload_n (dd D132_ok 15 rfl) rfl ?_
            refine ax_bipush (v := 39) (dd D132_ok 16 rfl) (by decide) ?_
            refine ax_icmp_eq (tgt := 60) (dd D132_ok 17 rfl) (by decide) (fun c6 => ?_) (fun c6 => ?_)
            · refine ax_iconst (v := 2) (dd D132_ok 30 rfl) (by decide) ?_
              exact ax_iret (dd D132_ok 31 rfl) rfl (k6 c1 c2 c3 c4 c5 c6)
            · refine ax_iload_n (dd D132_ok 18 rfl) rfl ?_
              refine ax_bipush (v := 58) (dd D132_ok 19 rfl) (by decide) ?_
              refine ax_icmp_eq (tgt := 60) (dd D132_ok 20 rfl) (by decide) (fun c7 => ?_) (fun c7 => ?_)
              · refine ax_iconst (v := 2) (dd D132_ok 30 rfl) (by decide) ?_
                exact ax_iret (dd D132_ok 31 rfl) rfl (k7 c1 c2 c3 c4 c5 c6 c7)
              · refine ax_iload_n (dd D132_ok 21 rfl) rfl ?_
                refine ax_bipush (v := 59) (dd D132_ok 22 rfl) (by decide) ?_
                refine ax_icmp_eq (tgt := 60) (dd D132_ok 23 rfl) (by decide) (fun c8 => ?_) (fun c8 => ?_)
                · refine ax_iconst (v := 2) (dd D132_ok 30 rfl) (by decide) ?_
                  exact ax_iret (dd D132_ok 31 rfl) rfl (k8 c1 c2 c3 c4 c5 c6 c7 c8)
                · refine ax_iload_n (dd D132_ok 24 rfl) rfl ?_
                  refine ax_bipush (v := 33) (dd D132_ok 25 rfl) (by decide) ?_
                  refine ax_icmp_eq (tgt := 60) (dd D132_ok 26 rfl) (by decide) (fun c9 => ?_) (fun c9 => ?_)
                  · refine ax_iconst (v := 2) (dd D132_ok 30 rfl) (by decide) ?_
                    exact ax_iret (dd D132_ok 31 rfl) rfl (k9 c1 c2 c3 c4 c5 c6 c7 c8 c9)
                  · refine ax_iload_n (dd D132_ok 27 rfl) rfl ?_
                    refine ax_bipush (v := 124) (dd D132_ok 28 rfl) (by decide) ?_
                    refine ax_icmp_ne (tgt := 62) (dd D132_ok 29 rfl) (by decide) (fun c10 => ?_) (fun c10 => ?_)
                    · refine ax_iload_n (dd D132_ok 32 rfl) rfl ?_
                      refine ax_bipush (v := 109) (dd D132_ok 33 rfl) (by decide) ?_
                      refine ax_icmp_eq (tgt := 92) (dd D132_ok 34 rfl) (by decide) (fun c11 => ?_) (fun c11 => ?_)
                      · refine ax_iconst (v := 5) (dd D132_ok 47 rfl) (by decide) ?_
                        refine ax_goto (tgt := 97) (dd D132_ok 48 rfl) (by decide) ?_
                        exact ax_iret (dd D132_ok 50 rfl) rfl (k10 c1 c2 c3 c4 c5 c6 c7 c8 c9 c10 c11)
                      · refine ax_iload_n (dd D132_ok 35 rfl) rfl ?_
                        refine ax_bipush (v := 119) (dd D132_ok 36 rfl) (by decide) ?_
                        refine ax_icmp_eq (tgt := 92) (dd D132_ok 37 rfl) (by decide) (fun c12 => ?_) (fun c12 => ?_)
                        · refine ax_iconst (v := 5) (dd D132_ok 47 rfl) (by decide) ?_
                          refine ax_goto (tgt := 97) (dd D132_ok 48 rfl) (by decide) ?_
                          exact ax_iret (dd D132_ok 50 rfl) rfl (k11 c1 c2 c3 c4 c5 c6 c7 c8 c9 c10 c11 c12)
                        · refine ax_iload_n (dd D132_ok 38 rfl) rfl ?_
                          refine ax_bipush (v := 77) (dd D132_ok 39 rfl) (by decide) ?_
                          refine ax_icmp_eq (tgt := 92) (dd D132_ok 40 rfl) (by decide) (fun c13 => ?_) (fun c13 => ?_)
                          · refine ax_iconst (v := 5) (dd D132_ok 47 rfl) (by decide) ?_
                            refine ax_goto (tgt := 97) (dd D132_ok 48 rfl) (by decide) ?_
                            exact ax_iret (dd D132_ok 50 rfl) rfl (k12 c1 c2 c3 c4 c5 c6 c7 c8 c9 c10 c11 c12 c13)
                          · refine ax_iload_n (dd D132_ok 41 rfl) rfl ?_
                            refine ax_bipush (v := 87) (dd D132_ok 42 rfl) (by decide) ?_
                            refine ax_icmp_eq (tgt := 92) (dd D132_ok 43 rfl) (by decide) (fun c14 => ?_) (fun c14 => ?_)
                            · refine ax_iconst (v := 5) (dd D132_ok 47 rfl) (by decide) ?_
                              refine ax_goto (tgt := 97) (dd D132_ok 48 rfl) (by decide) ?_
                              exact ax_iret (dd D132_ok 50 rfl) rfl (k13 c1 c2 c3 c4 c5 c6 c7 c8 c9 c10 c11 c12 c13 c14)
                            · refine ax_iload_n (dd D132_ok 44 rfl) rfl ?_
                              refine ax_bipush (v := 64) (dd D132_ok 45 rfl) (by decide) ?_
                              refine ax_icmp_ne (tgt := 96) (dd D132_ok 46 rfl) (by decide) (fun c15 => ?_) (fun c15 => ?_)
                              · refine ax_iconst (v := 4) (dd D132_ok 49 rfl) (by decide) ?_
                                exact ax_iret (dd D132_ok 50 rfl) rfl (k14 c1 c2 c3 c4 c5 c6 c7 c8 c9 c10 c11 c12 c13 c14 c15)
                              · refine ax_iconst (v := 5) (dd D132_ok 47 rfl) (by decide) ?_
                                refine ax_goto (tgt := 97) (dd D132_ok 48 rfl) (by decide) ?_
                                exact ax_iret (dd D132_ok 50 rfl) rfl (k15 c1 c2 c3 c4 c5 c6 c7 c8 c9 c10 c11 c12 c13 c14 c15)
                    · refine ax_iconst (v := 2) (dd D132_ok 30 rfl) (by decide) ?_
                      exact ax_iret (dd D132_ok 31 rfl) rfl (k16 c1 c2 c3 c4 c5 c6 c7 c8 c9 c10)
theorem c_f_glyph {xs : List Int32} {d : Nat} {a : Int32} : ∀ Q', Q' (some (.int (f_glyph a))) → md_Cs xs (d + 1) 132 [.int a] Q' :=
  fun Q' hQ h => ax_intro (ms132 xs) (Nat.le_of_ble_eq_true rfl) (vc132_0 (fun q0 => ⟨rfl, by rw [f_glyph, if_pos q0] at hQ; exact hQ⟩) (fun q0 q1 => ⟨rfl, by rw [f_glyph, if_neg q0, if_pos q1] at hQ; exact hQ⟩) (fun q0 q1 q2 => ⟨rfl, by rw [f_glyph, if_neg q0, if_neg q1, if_pos q2] at hQ; exact hQ⟩) (fun q0 q1 q2 q3 => ⟨rfl, by rw [f_glyph, if_neg q0, if_neg q1, if_neg q2, if_pos q3] at hQ; exact hQ⟩) (fun q0 q1 q2 q3 q4 => ⟨rfl, by rw [f_glyph, if_neg q0, if_neg q1, if_neg q2, if_neg q3, if_pos q4] at hQ; exact hQ⟩) (fun q0 q1 q2 q3 q4 q5 => ⟨rfl, by rw [f_glyph, if_neg q0, if_neg q1, if_neg q2, if_neg q3, if_neg q4, if_pos q5] at hQ; exact hQ⟩) (fun q0 q1 q2 q3 q4 q5 q6 => ⟨rfl, by rw [f_glyph, if_neg q0, if_neg q1, if_neg q2, if_neg q3, if_neg q4, if_neg q5, if_pos q6] at hQ; exact hQ⟩) (fun q0 q1 q2 q3 q4 q5 q6 q7 => ⟨rfl, by rw [f_glyph, if_neg q0, if_neg q1, if_neg q2, if_neg q3, if_neg q4, if_neg q5, if_neg q6, if_pos q7] at hQ; exact hQ⟩) (fun q0 q1 q2 q3 q4 q5 q6 q7 q8 => ⟨rfl, by rw [f_glyph, if_neg q0, if_neg q1, if_neg q2, if_neg q3, if_neg q4, if_neg q5, if_neg q6, if_neg q7, if_pos q8] at hQ; exact hQ⟩) (fun q0 q1 q2 q3 q4 q5 q6 q7 q8 q9 q10 => ⟨rfl, by rw [f_glyph, if_neg q0, if_neg q1, if_neg q2, if_neg q3, if_neg q4, if_neg q5, if_neg q6, if_neg q7, if_neg q8, if_pos q9, if_pos q10] at hQ; exact hQ⟩) (fun q0 q1 q2 q3 q4 q5 q6 q7 q8 q9 q10 q11 => ⟨rfl, by rw [f_glyph, if_neg q0, if_neg q1, if_neg q2, if_neg q3, if_neg q4, if_neg q5, if_neg q6, if_neg q7, if_neg q8, if_pos q9, if_neg q10, if_pos q11] at hQ; exact hQ⟩) (fun q0 q1 q2 q3 q4 q5 q6 q7 q8 q9 q10 q11 q12 => ⟨rfl, by rw [f_glyph, if_neg q0, if_neg q1, if_neg q2, if_neg q3, if_neg q4, if_neg q5, if_neg q6, if_neg q7, if_neg q8, if_pos q9, if_neg q10, if_neg q11, if_pos q12] at hQ; exact hQ⟩) (fun q0 q1 q2 q3 q4 q5 q6 q7 q8 q9 q10 q11 q12 q13 => ⟨rfl, by rw [f_glyph, if_neg q0, if_neg q1, if_neg q2, if_neg q3, if_neg q4, if_neg q5, if_neg q6, if_neg q7, if_neg q8, if_pos q9, if_neg q10, if_neg q11, if_neg q12, if_pos q13] at hQ; exact hQ⟩) (fun q0 q1 q2 q3 q4 q5 q6 q7 q8 q9 q10 q11 q12 q13 q14 => ⟨rfl, by rw [f_glyph, if_neg q0, if_neg q1, if_neg q2, if_neg q3, if_neg q4, if_neg q5, if_neg q6, if_neg q7, if_neg q8, if_pos q9, if_neg q10, if_neg q11, if_neg q12, if_neg q13, if_pos q14] at hQ; exact hQ⟩) (fun q0 q1 q2 q3 q4 q5 q6 q7 q8 q9 q10 q11 q12 q13 q14 => ⟨rfl, by rw [f_glyph, if_neg q0, if_neg q1, if_neg q2, if_neg q3, if_neg q4, if_neg q5, if_neg q6, if_neg q7, if_neg q8, if_pos q9, if_neg q10, if_neg q11, if_neg q12, if_neg q13, if_neg q14] at hQ; exact hQ⟩) (fun q0 q1 q2 q3 q4 q5 q6 q7 q8 q9 => ⟨rfl, by rw [f_glyph, if_neg q0, if_neg q1, if_neg q2, if_neg q3, if_neg q4, if_neg q5, if_neg q6, if_neg q7, if_neg q8, if_neg q9] at hQ; exact hQ⟩))
/-- there -/
def f_there (M : md_S) (a : Int32) : Int32 := if a < 0 then 0 else (if (M.1 2) ≤ a then 0 else 1)
set_option maxHeartbeats 1000000 in
theorem vc111_0 {xs : List Int32} {mo : Nat} {ad : Nat → Nat} (hD : md_D mo ad) {h0 : am_H} {d : Nat} {Q : Option Value → md_S → Prop} {M : md_S} {a : Int32}
    (k1 : (a < 0) → Q (some (.int 0)) M)
    (k2 : ¬ (a < 0) → ((M.1 2) ≤ a) → Q (some (.int 0)) M)
    (k3 : ¬ (a < 0) → ¬ ((M.1 2) ≤ a) → Q (some (.int 1)) M) :
    md_wp xs mo ad h0 d Q I111 0 [some (.ref mo), some (.int a)] [] M := by
  refine md_iload_n (dd D111_ok 0 rfl) rfl ?_
  refine md_if_lt (tgt := 16) (dd D111_ok 1 rfl) (by decide) (fun c1 => ?_) (fun c1 => ?_)
  · refine md_iconst (v := 0) (dd D111_ok 8 rfl) (by decide) ?_
    exact md_iret (dd D111_ok 9 rfl) rfl (k1 c1)
  · refine md_iload_n (dd D111_ok 2 rfl) rfl ?_
    refine md_aload0 (dd D111_ok 3 rfl) rfl ?_
    refine md_getI (dd D111_ok 4 rfl) pl9_13 (by decide) rfl ?_
    refine md_icmp_ge (tgt := 16) (dd D111_ok 5 rfl) (by decide) (fun c2 => ?_) (fun c2 => ?_)
    · refine md_iconst (v := 0) (dd D111_ok 8 rfl) (by decide) ?_
      exact md_iret (dd D111_ok 9 rfl) rfl (k2 c1 c2)
    · refine md_iconst (v := 1) (dd D111_ok 6 rfl) (by decide) ?_
      refine md_goto (tgt := 17) (dd D111_ok 7 rfl) (by decide) ?_
      exact md_iret (dd D111_ok 9 rfl) rfl (k3 c1 c2)
theorem c_f_there {xs : List Int32} {mo : Nat} {ad : Nat → Nat} {d : Nat} {M : md_S} {a : Int32} (hD : md_D mo ad)  : ∀ Q', Q' (some (.int (f_there M a))) M → md_C xs mo ad (d + 1) 111 [.int a] M Q' :=
  fun Q' hQ => md_intro (ms111 xs) (Nat.le_of_ble_eq_true rfl) (fun h0 => vc111_0 hD (fun q0 => by rw [f_there, if_pos q0] at hQ; exact hQ) (fun q0 q1 => by rw [f_there, if_neg q0, if_pos q1] at hQ; exact hQ) (fun q0 q1 => by rw [f_there, if_neg q0, if_neg q1] at hQ; exact hQ))
/-- of -/
def f_of (M : md_S) (a b : Int32) : Int32 := M.2 9 ((9 * a) + b).toNatClampNeg
set_option maxHeartbeats 1000000 in
theorem vc118_0 {xs : List Int32} {mo : Nat} {ad : Nat → Nat} (hD : md_D mo ad) {h0 : am_H} {d : Nat} {Q : Option Value → md_S → Prop} {M : md_S} {a : Int32} {b : Int32}
    (b1 : vp_in ((9 * a) + b) 540)
    (k2 : Q (some (.int (M.2 9 ((9 * a) + b).toNatClampNeg))) M) :
    md_wp xs mo ad h0 d Q I118 0 [some (.ref mo), some (.int a), some (.int b)] [] M := by
  refine md_aload0 (dd D118_ok 0 rfl) rfl ?_
  refine md_getA (dd D118_ok 1 rfl) pl9_36 (by decide) rfl ?_
  refine md_bipush (v := 9) (dd D118_ok 2 rfl) (by decide) ?_
  refine md_iload_n (dd D118_ok 3 rfl) rfl ?_
  refine md_imul (dd D118_ok 4 rfl) ?_
  refine md_iload_n (dd D118_ok 5 rfl) rfl ?_
  refine md_iadd (dd D118_ok 6 rfl) ?_
  refine md_iald (f := 9) (dd D118_ok 7 rfl) rfl b1 ?_
  exact md_iret (dd D118_ok 8 rfl) rfl k2
theorem c_f_of {xs : List Int32} {mo : Nat} {ad : Nat → Nat} {d : Nat} {M : md_S} {a b : Int32} (hD : md_D mo ad) (hn : vp_in a 60) (hp : vp_in b 9) : ∀ Q', Q' (some (.int (f_of M a b))) M → md_C xs mo ad (d + 1) 118 [.int a, .int b] M Q' :=
  fun Q' hQ => md_intro (ms118 xs) (Nat.le_of_ble_eq_true rfl) (fun h0 => vc118_0 hD (by intros; exact md_has hn hp) (hQ))
/-- isBox -/
def f_isBox (M : md_S) (a : Int32) : Int32 := if (M.2 12 a.toNatClampNeg) = 1 then 1 else (if ¬ (M.2 12 a.toNatClampNeg) = 2 then 0 else 1)
set_option maxHeartbeats 1000000 in
theorem vc117_0 {xs : List Int32} {mo : Nat} {ad : Nat → Nat} (hD : md_D mo ad) {h0 : am_H} {d : Nat} {Q : Option Value → md_S → Prop} {M : md_S} {a : Int32}
    (b1 : vp_in a 60)
    (k2 : ((M.2 12 a.toNatClampNeg) = 1) → Q (some (.int 1)) M)
    (k3 : ¬ ((M.2 12 a.toNatClampNeg) = 1) → ¬ (M.2 12 a.toNatClampNeg) = 2 → Q (some (.int 0)) M)
    (k4 : ¬ ((M.2 12 a.toNatClampNeg) = 1) → ¬ (¬ (M.2 12 a.toNatClampNeg) = 2) → Q (some (.int 1)) M) :
    md_wp xs mo ad h0 d Q I117 0 [some (.ref mo), some (.int a)] [] M := by
  refine md_aload0 (dd D117_ok 0 rfl) rfl ?_
  refine md_getA (dd D117_ok 1 rfl) pl9_45 (by decide) rfl ?_
  refine md_iload_n (dd D117_ok 2 rfl) rfl ?_
  refine md_iald (f := 12) (dd D117_ok 3 rfl) rfl b1 ?_
  refine md_iconst (v := 1) (dd D117_ok 4 rfl) (by decide) ?_
  refine md_icmp_eq (tgt := 20) (dd D117_ok 5 rfl) (by decide) (fun c1 => ?_) (fun c1 => ?_)
  · refine md_iconst (v := 1) (dd D117_ok 12 rfl) (by decide) ?_
    refine md_goto (tgt := 25) (dd D117_ok 13 rfl) (by decide) ?_
    exact md_iret (dd D117_ok 15 rfl) rfl (k2 c1)
  · refine md_aload0 (dd D117_ok 6 rfl) rfl ?_
    refine md_getA (dd D117_ok 7 rfl) pl9_45 (by decide) rfl ?_
    refine md_iload_n (dd D117_ok 8 rfl) rfl ?_
    refine md_iald (f := 12) (dd D117_ok 9 rfl) rfl b1 ?_
    refine md_iconst (v := 2) (dd D117_ok 10 rfl) (by decide) ?_
    refine md_icmp_ne (tgt := 24) (dd D117_ok 11 rfl) (by decide) (fun c2 => ?_) (fun c2 => ?_)
    · refine md_iconst (v := 0) (dd D117_ok 14 rfl) (by decide) ?_
      exact md_iret (dd D117_ok 15 rfl) rfl (k3 c1 c2)
    · refine md_iconst (v := 1) (dd D117_ok 12 rfl) (by decide) ?_
      refine md_goto (tgt := 25) (dd D117_ok 13 rfl) (by decide) ?_
      exact md_iret (dd D117_ok 15 rfl) rfl (k4 c1 c2)
theorem c_f_isBox {xs : List Int32} {mo : Nat} {ad : Nat → Nat} {d : Nat} {M : md_S} {a : Int32} (hD : md_D mo ad) (hn : vp_in a 60) : ∀ Q', Q' (some (.int (f_isBox M a))) M → md_C xs mo ad (d + 1) 117 [.int a] M Q' :=
  fun Q' hQ => md_intro (ms117 xs) (Nat.le_of_ble_eq_true rfl) (fun h0 => vc117_0 hD (by intros; assumption) (fun q0 => by rw [f_isBox, if_pos q0] at hQ; exact hQ) (fun q0 q1 => by rw [f_isBox, if_neg q0, if_pos q1] at hQ; exact hQ) (fun q0 q1 => by rw [f_isBox, if_neg q0, if_neg q1] at hQ; exact hQ))
/-- edges -/
def f_edges (M : md_S) (a : Int32) : Int32 := (f_of M a 5) + (f_of M a 6)
set_option maxHeartbeats 1000000 in
theorem vc125_0 {xs : List Int32} {mo : Nat} {ad : Nat → Nat} (hD : md_D mo ad) {h0 : am_H} {d : Nat} {Q : Option Value → md_S → Prop} {M : md_S} {a : Int32}
    (b1 : vp_in a 60)
    (k2 : Q (some (.int ((f_of M a 5) + (f_of M a 6)))) M) :
    md_wp xs mo ad h0 (d + 1) Q I125 0 [some (.ref mo), some (.int a)] [] M := by
  refine md_aload0 (dd D125_ok 0 rfl) rfl ?_
  refine md_iload_n (dd D125_ok 1 rfl) rfl ?_
  refine md_iconst (v := 5) (dd D125_ok 2 rfl) (by decide) ?_
  refine md_callI (as := [.int a, .int 5]) (rest := []) (dd D125_ok 3 rfl) pl9_168 rfl (Nat.le_of_ble_eq_true rfl) (ms118 xs) rfl (c_f_of hD b1 (md_vl (by decide))) rfl ?_
  refine md_aload0 (dd D125_ok 4 rfl) rfl ?_
  refine md_iload_n (dd D125_ok 5 rfl) rfl ?_
  refine md_bipush (v := 6) (dd D125_ok 6 rfl) (by decide) ?_
  refine md_callI (as := [.int a, .int 6]) (rest := [.int (f_of M a 5)]) (dd D125_ok 7 rfl) pl9_168 rfl (Nat.le_of_ble_eq_true rfl) (ms118 xs) rfl (c_f_of hD b1 (md_vl (by decide))) rfl ?_
  refine md_iadd (dd D125_ok 8 rfl) ?_
  exact md_iret (dd D125_ok 9 rfl) rfl k2
theorem c_f_edges {xs : List Int32} {mo : Nat} {ad : Nat → Nat} {d : Nat} {M : md_S} {a : Int32} (hD : md_D mo ad) (hn : vp_in a 60) : ∀ Q', Q' (some (.int (f_edges M a))) M → md_C xs mo ad (d + 2) 125 [.int a] M Q' :=
  fun Q' hQ => md_intro (ms125 xs) (Nat.le_of_ble_eq_true rfl) (fun h0 => vc125_0 hD (by intros; assumption) (hQ))
/-- inner -/
def f_inner (M : md_S) (a : Int32) : Int32 := f_more 0 ((M.2 17 a.toNatClampNeg) - (2 * (f_edges M a)))
set_option maxHeartbeats 1000000 in
theorem vc128_0 {xs : List Int32} {mo : Nat} {ad : Nat → Nat} (hD : md_D mo ad) {h0 : am_H} {d : Nat} {Q : Option Value → md_S → Prop} {M : md_S} {a : Int32}
    (b1 : vp_in a 60)
    (k2 : Q (some (.int (f_more 0 ((M.2 17 a.toNatClampNeg) - (2 * (f_edges M a)))))) M) :
    md_wp xs mo ad h0 (d + 2) Q I128 0 [some (.ref mo), some (.int a)] [] M := by
  refine md_iconst (v := 0) (dd D128_ok 0 rfl) (by decide) ?_
  refine md_aload0 (dd D128_ok 1 rfl) rfl ?_
  refine md_getA (dd D128_ok 2 rfl) pl9_61 (by decide) rfl ?_
  refine md_iload_n (dd D128_ok 3 rfl) rfl ?_
  refine md_iald (f := 17) (dd D128_ok 4 rfl) rfl b1 ?_
  refine md_iconst (v := 2) (dd D128_ok 5 rfl) (by decide) ?_
  refine md_aload0 (dd D128_ok 6 rfl) rfl ?_
  refine md_iload_n (dd D128_ok 7 rfl) rfl ?_
  refine md_callI (as := [.int a]) (rest := [.int 2, .int (M.2 17 a.toNatClampNeg), .int 0]) (dd D128_ok 8 rfl) pl9_171 rfl (Nat.le_of_ble_eq_true rfl) (ms125 xs) rfl (c_f_edges hD b1) rfl ?_
  refine md_imul (dd D128_ok 9 rfl) ?_
  refine md_isub (dd D128_ok 10 rfl) ?_
  refine md_callS (as := [.int 0, .int ((M.2 17 a.toNatClampNeg) - (2 * (f_edges M a)))]) (rest := []) (dd D128_ok 11 rfl) pl9_175 rfl (Nat.le_of_ble_eq_true rfl) (c_f_more ) rfl ?_
  exact md_iret (dd D128_ok 12 rfl) rfl k2
theorem c_f_inner {xs : List Int32} {mo : Nat} {ad : Nat → Nat} {d : Nat} {M : md_S} {a : Int32} (hD : md_D mo ad) (hn : vp_in a 60) : ∀ Q', Q' (some (.int (f_inner M a))) M → md_C xs mo ad (d + 3) 128 [.int a] M Q' :=
  fun Q' hQ => md_intro (ms128 xs) (Nat.le_of_ble_eq_true rfl) (fun h0 => vc128_0 hD (by intros; assumption) (hQ))
/-- told -/
def f_told (M : md_S) (a b : Int32) : Int32 := if (f_of M a 2) < 1000 then (f_of M a 2) else ((b * ((f_of M a 2) - 1000)) / 100)
set_option maxHeartbeats 1000000 in
theorem vc129_0 {xs : List Int32} {mo : Nat} {ad : Nat → Nat} (hD : md_D mo ad) {h0 : am_H} {d : Nat} {Q : Option Value → md_S → Prop} {M : md_S} {a : Int32} {b : Int32}
    (b1 : vp_in a 60)
    (k2 : ((f_of M a 2) < 1000) → Q (some (.int (f_of M a 2))) M)
    (k3 : ¬ ((f_of M a 2) < 1000) → Q (some (.int ((b * ((f_of M a 2) - 1000)) / 100))) M) :
    md_wp xs mo ad h0 (d + 1) Q I129 0 [some (.ref mo), some (.int a), some (.int b), none] [] M := by
  refine md_aload0 (dd D129_ok 0 rfl) rfl ?_
  refine md_iload_n (dd D129_ok 1 rfl) rfl ?_
  refine md_iconst (v := 2) (dd D129_ok 2 rfl) (by decide) ?_
  refine md_callI (as := [.int a, .int 2]) (rest := []) (dd D129_ok 3 rfl) pl9_168 rfl (Nat.le_of_ble_eq_true rfl) (ms118 xs) rfl (c_f_of hD b1 (md_vl (by decide))) rfl ?_
  refine md_istore_n (dd D129_ok 4 rfl) (Nat.le_of_ble_eq_true rfl) ?_
  refine md_iload_n (dd D129_ok 5 rfl) rfl ?_
  refine md_sipush (v := 1000) (dd D129_ok 6 rfl) (by decide) ?_
  refine md_icmp_lt (tgt := 27) (dd D129_ok 7 rfl) (by decide) (fun c1 => ?_) (fun c1 => ?_)
  · refine md_iload_n (dd D129_ok 16 rfl) rfl ?_
    exact md_iret (dd D129_ok 17 rfl) rfl (k2 c1)
  · refine md_iload_n (dd D129_ok 8 rfl) rfl ?_
    refine md_iload_n (dd D129_ok 9 rfl) rfl ?_
    refine md_sipush (v := 1000) (dd D129_ok 10 rfl) (by decide) ?_
    refine md_isub (dd D129_ok 11 rfl) ?_
    refine md_imul (dd D129_ok 12 rfl) ?_
    refine md_bipush (v := 100) (dd D129_ok 13 rfl) (by decide) ?_
    refine md_idiv (dd D129_ok 14 rfl) (by decide) ?_
    refine md_goto (tgt := 28) (dd D129_ok 15 rfl) (by decide) ?_
    exact md_iret (dd D129_ok 17 rfl) rfl (k3 c1)
theorem c_f_told {xs : List Int32} {mo : Nat} {ad : Nat → Nat} {d : Nat} {M : md_S} {a b : Int32} (hD : md_D mo ad) (hn : vp_in a 60) : ∀ Q', Q' (some (.int (f_told M a b))) M → md_C xs mo ad (d + 2) 129 [.int a, .int b] M Q' :=
  fun Q' hQ => md_intro (ms129 xs) (Nat.le_of_ble_eq_true rfl) (fun h0 => vc129_0 hD (by intros; assumption) (fun q0 => by rw [f_told, if_pos q0] at hQ; exact hQ) (fun q0 => by rw [f_told, if_neg q0] at hQ; exact hQ))
/-- heightOf -/
def f_heightOf (M : md_S) (a b : Int32) : Int32 := if ¬ (f_of M a 3) = (-1) then (f_more (f_of M a 3) (2 * (f_edges M a))) else (b + (2 * (f_edges M a)))
set_option maxHeartbeats 1000000 in
theorem vc145_0 {xs : List Int32} {mo : Nat} {ad : Nat → Nat} (hD : md_D mo ad) {h0 : am_H} {d : Nat} {Q : Option Value → md_S → Prop} {M : md_S} {a : Int32} {b : Int32}
    (b1 : vp_in a 60)
    (k2 : ¬ (f_of M a 3) = (-1) → Q (some (.int (f_more (f_of M a 3) (2 * (f_edges M a))))) M)
    (k3 : ¬ (¬ (f_of M a 3) = (-1)) → Q (some (.int (b + (2 * (f_edges M a))))) M) :
    md_wp xs mo ad h0 (d + 2) Q I145 0 [some (.ref mo), some (.int a), some (.int b)] [] M := by
  refine md_aload0 (dd D145_ok 0 rfl) rfl ?_
  refine md_iload_n (dd D145_ok 1 rfl) rfl ?_
  refine md_iconst (v := 3) (dd D145_ok 2 rfl) (by decide) ?_
  refine md_callI (as := [.int a, .int 3]) (rest := []) (dd D145_ok 3 rfl) pl9_168 rfl (Nat.le_of_ble_eq_true rfl) (ms118 xs) rfl (c_f_of hD b1 (md_vl (by decide))) rfl ?_
  refine md_iconst (v := (-1)) (dd D145_ok 4 rfl) (by decide) ?_
  refine md_icmp_ne (tgt := 22) (dd D145_ok 5 rfl) (by decide) (fun c1 => ?_) (fun c1 => ?_)
  · refine md_aload0 (dd D145_ok 14 rfl) rfl ?_
    refine md_iload_n (dd D145_ok 15 rfl) rfl ?_
    refine md_iconst (v := 3) (dd D145_ok 16 rfl) (by decide) ?_
    refine md_callI (as := [.int a, .int 3]) (rest := []) (dd D145_ok 17 rfl) pl9_168 rfl (Nat.le_of_ble_eq_true rfl) (ms118 xs) rfl (c_f_of hD b1 (md_vl (by decide))) rfl ?_
    refine md_iconst (v := 2) (dd D145_ok 18 rfl) (by decide) ?_
    refine md_aload0 (dd D145_ok 19 rfl) rfl ?_
    refine md_iload_n (dd D145_ok 20 rfl) rfl ?_
    refine md_callI (as := [.int a]) (rest := [.int 2, .int (f_of M a 3)]) (dd D145_ok 21 rfl) pl9_171 rfl (Nat.le_of_ble_eq_true rfl) (ms125 xs) rfl (c_f_edges hD b1) rfl ?_
    refine md_imul (dd D145_ok 22 rfl) ?_
    refine md_callS (as := [.int (f_of M a 3), .int (2 * (f_edges M a))]) (rest := []) (dd D145_ok 23 rfl) pl9_175 rfl (Nat.le_of_ble_eq_true rfl) (c_f_more ) rfl ?_
    exact md_iret (dd D145_ok 24 rfl) rfl (k2 c1)
  · refine md_iload_n (dd D145_ok 6 rfl) rfl ?_
    refine md_iconst (v := 2) (dd D145_ok 7 rfl) (by decide) ?_
    refine md_aload0 (dd D145_ok 8 rfl) rfl ?_
    refine md_iload_n (dd D145_ok 9 rfl) rfl ?_
    refine md_callI (as := [.int a]) (rest := [.int 2, .int b]) (dd D145_ok 10 rfl) pl9_171 rfl (Nat.le_of_ble_eq_true rfl) (ms125 xs) rfl (c_f_edges hD b1) rfl ?_
    refine md_imul (dd D145_ok 11 rfl) ?_
    refine md_iadd (dd D145_ok 12 rfl) ?_
    refine md_goto (tgt := 38) (dd D145_ok 13 rfl) (by decide) ?_
    exact md_iret (dd D145_ok 24 rfl) rfl (k3 c1)
theorem c_f_heightOf {xs : List Int32} {mo : Nat} {ad : Nat → Nat} {d : Nat} {M : md_S} {a b : Int32} (hD : md_D mo ad) (hn : vp_in a 60) : ∀ Q', Q' (some (.int (f_heightOf M a b))) M → md_C xs mo ad (d + 3) 145 [.int a, .int b] M Q' :=
  fun Q' hQ => md_intro (ms145 xs) (Nat.le_of_ble_eq_true rfl) (fun h0 => vc145_0 hD (by intros; assumption) (fun q0 => by rw [f_heightOf, if_pos q0] at hQ; exact hQ) (fun q0 => by rw [f_heightOf, if_neg q0] at hQ; exact hQ))
/-- isBlock -/
def f_isBlock (M : md_S) (a : Int32) : Int32 := if ¬ (M.2 3 a.toNatClampNeg) = 0 then 0 else (if ¬ (f_of M a 1) = 0 then 0 else (if (f_of M a 0) = 0 then 1 else (if ¬ (f_of M a 0) = 2 then 0 else 1)))
set_option maxHeartbeats 1000000 in
theorem vc124_0 {xs : List Int32} {mo : Nat} {ad : Nat → Nat} (hD : md_D mo ad) {h0 : am_H} {d : Nat} {Q : Option Value → md_S → Prop} {M : md_S} {a : Int32}
    (b1 : vp_in a 60)
    (k2 : ¬ (M.2 3 a.toNatClampNeg) = 0 → Q (some (.int 0)) M)
    (k3 : ¬ (¬ (M.2 3 a.toNatClampNeg) = 0) → ¬ (f_of M a 1) = 0 → Q (some (.int 0)) M)
    (k4 : ¬ (¬ (M.2 3 a.toNatClampNeg) = 0) → ¬ (¬ (f_of M a 1) = 0) → ((f_of M a 0) = 0) → Q (some (.int 1)) M)
    (k5 : ¬ (¬ (M.2 3 a.toNatClampNeg) = 0) → ¬ (¬ (f_of M a 1) = 0) → ¬ ((f_of M a 0) = 0) → ¬ (f_of M a 0) = 2 → Q (some (.int 0)) M)
    (k6 : ¬ (¬ (M.2 3 a.toNatClampNeg) = 0) → ¬ (¬ (f_of M a 1) = 0) → ¬ ((f_of M a 0) = 0) → ¬ (¬ (f_of M a 0) = 2) → Q (some (.int 1)) M) :
    md_wp xs mo ad h0 (d + 1) Q I124 0 [some (.ref mo), some (.int a)] [] M := by
  refine md_aload0 (dd D124_ok 0 rfl) rfl ?_
  refine md_getA (dd D124_ok 1 rfl) pl9_17 (by decide) rfl ?_
  refine md_iload_n (dd D124_ok 2 rfl) rfl ?_
  refine md_iald (f := 3) (dd D124_ok 3 rfl) rfl b1 ?_
  refine md_if_ne (tgt := 41) (dd D124_ok 4 rfl) (by decide) (fun c1 => ?_) (fun c1 => ?_)
  · refine md_iconst (v := 0) (dd D124_ok 23 rfl) (by decide) ?_
    exact md_iret (dd D124_ok 24 rfl) rfl (k2 c1)
  · refine md_aload0 (dd D124_ok 5 rfl) rfl ?_
    refine md_iload_n (dd D124_ok 6 rfl) rfl ?_
    refine md_iconst (v := 1) (dd D124_ok 7 rfl) (by decide) ?_
    refine md_callI (as := [.int a, .int 1]) (rest := []) (dd D124_ok 8 rfl) pl9_168 rfl (Nat.le_of_ble_eq_true rfl) (ms118 xs) rfl (c_f_of hD b1 (md_vl (by decide))) rfl ?_
    refine md_if_ne (tgt := 41) (dd D124_ok 9 rfl) (by decide) (fun c2 => ?_) (fun c2 => ?_)
    · refine md_iconst (v := 0) (dd D124_ok 23 rfl) (by decide) ?_
      exact md_iret (dd D124_ok 24 rfl) rfl (k3 c1 c2)
    · refine md_aload0 (dd D124_ok 10 rfl) rfl ?_
      refine md_iload_n (dd D124_ok 11 rfl) rfl ?_
      refine md_iconst (v := 0) (dd D124_ok 12 rfl) (by decide) ?_
      refine md_callI (as := [.int a, .int 0]) (rest := []) (dd D124_ok 13 rfl) pl9_168 rfl (Nat.le_of_ble_eq_true rfl) (ms118 xs) rfl (c_f_of hD b1 (md_vl (by decide))) rfl ?_
      refine md_if_eq (tgt := 37) (dd D124_ok 14 rfl) (by decide) (fun c3 => ?_) (fun c3 => ?_)
      · refine md_iconst (v := 1) (dd D124_ok 21 rfl) (by decide) ?_
        refine md_goto (tgt := 42) (dd D124_ok 22 rfl) (by decide) ?_
        exact md_iret (dd D124_ok 24 rfl) rfl (k4 c1 c2 c3)
      · refine md_aload0 (dd D124_ok 15 rfl) rfl ?_
        refine md_iload_n (dd D124_ok 16 rfl) rfl ?_
        refine md_iconst (v := 0) (dd D124_ok 17 rfl) (by decide) ?_
        refine md_callI (as := [.int a, .int 0]) (rest := []) (dd D124_ok 18 rfl) pl9_168 rfl (Nat.le_of_ble_eq_true rfl) (ms118 xs) rfl (c_f_of hD b1 (md_vl (by decide))) rfl ?_
        refine md_iconst (v := 2) (dd D124_ok 19 rfl) (by decide) ?_
        refine md_icmp_ne (tgt := 41) (dd D124_ok 20 rfl) (by decide) (fun c4 => ?_) (fun c4 => ?_)
        · refine md_iconst (v := 0) (dd D124_ok 23 rfl) (by decide) ?_
          exact md_iret (dd D124_ok 24 rfl) rfl (k5 c1 c2 c3 c4)
        · refine md_iconst (v := 1) (dd D124_ok 21 rfl) (by decide) ?_
          refine md_goto (tgt := 42) (dd D124_ok 22 rfl) (by decide) ?_
          exact md_iret (dd D124_ok 24 rfl) rfl (k6 c1 c2 c3 c4)
theorem c_f_isBlock {xs : List Int32} {mo : Nat} {ad : Nat → Nat} {d : Nat} {M : md_S} {a : Int32} (hD : md_D mo ad) (hn : vp_in a 60) : ∀ Q', Q' (some (.int (f_isBlock M a))) M → md_C xs mo ad (d + 2) 124 [.int a] M Q' :=
  fun Q' hQ => md_intro (ms124 xs) (Nat.le_of_ble_eq_true rfl) (fun h0 => vc124_0 hD (by intros; assumption) (fun q0 => by rw [f_isBlock, if_pos q0] at hQ; exact hQ) (fun q0 q1 => by rw [f_isBlock, if_neg q0, if_pos q1] at hQ; exact hQ) (fun q0 q1 q2 => by rw [f_isBlock, if_neg q0, if_neg q1, if_pos q2] at hQ; exact hQ) (fun q0 q1 q2 q3 => by rw [f_isBlock, if_neg q0, if_neg q1, if_neg q2, if_pos q3] at hQ; exact hQ) (fun q0 q1 q2 q3 => by rw [f_isBlock, if_neg q0, if_neg q1, if_neg q2, if_neg q3] at hQ; exact hQ))
/-- isFloatAt -/
def f_isFloatAt (M : md_S) (a b : Int32) : Int32 := if b < (M.2 49 a.toNatClampNeg) then 0 else (if (M.2 50 a.toNatClampNeg) ≤ b then 0 else 1)
set_option maxHeartbeats 1000000 in
theorem vc139_0 {xs : List Int32} {mo : Nat} {ad : Nat → Nat} (hD : md_D mo ad) {h0 : am_H} {d : Nat} {Q : Option Value → md_S → Prop} {M : md_S} {a : Int32} {b : Int32}
    (b1 : vp_in a 60)
    (k2 : (b < (M.2 49 a.toNatClampNeg)) → Q (some (.int 0)) M)
    (k3 : ¬ (b < (M.2 49 a.toNatClampNeg)) → ((M.2 50 a.toNatClampNeg) ≤ b) → Q (some (.int 0)) M)
    (k4 : ¬ (b < (M.2 49 a.toNatClampNeg)) → ¬ ((M.2 50 a.toNatClampNeg) ≤ b) → Q (some (.int 1)) M) :
    md_wp xs mo ad h0 d Q I139 0 [some (.ref mo), some (.int a), some (.int b)] [] M := by
  refine md_aload0 (dd D139_ok 0 rfl) rfl ?_
  refine md_getA (dd D139_ok 1 rfl) pl9_127 (by decide) rfl ?_
  refine md_iload_n (dd D139_ok 2 rfl) rfl ?_
  refine md_iald (f := 49) (dd D139_ok 3 rfl) rfl b1 ?_
  refine md_iload_n (dd D139_ok 4 rfl) rfl ?_
  refine md_icmp_gt (tgt := 24) (dd D139_ok 5 rfl) (by decide) (fun c1 => ?_) (fun c1 => ?_)
  · refine md_iconst (v := 0) (dd D139_ok 14 rfl) (by decide) ?_
    exact md_iret (dd D139_ok 15 rfl) rfl (k2 c1)
  · refine md_iload_n (dd D139_ok 6 rfl) rfl ?_
    refine md_aload0 (dd D139_ok 7 rfl) rfl ?_
    refine md_getA (dd D139_ok 8 rfl) pl9_130 (by decide) rfl ?_
    refine md_iload_n (dd D139_ok 9 rfl) rfl ?_
    refine md_iald (f := 50) (dd D139_ok 10 rfl) rfl b1 ?_
    refine md_icmp_ge (tgt := 24) (dd D139_ok 11 rfl) (by decide) (fun c2 => ?_) (fun c2 => ?_)
    · refine md_iconst (v := 0) (dd D139_ok 14 rfl) (by decide) ?_
      exact md_iret (dd D139_ok 15 rfl) rfl (k3 c1 c2)
    · refine md_iconst (v := 1) (dd D139_ok 12 rfl) (by decide) ?_
      refine md_goto (tgt := 25) (dd D139_ok 13 rfl) (by decide) ?_
      exact md_iret (dd D139_ok 15 rfl) rfl (k4 c1 c2)
theorem c_f_isFloatAt {xs : List Int32} {mo : Nat} {ad : Nat → Nat} {d : Nat} {M : md_S} {a b : Int32} (hD : md_D mo ad) (hn : vp_in a 60) : ∀ Q', Q' (some (.int (f_isFloatAt M a b))) M → md_C xs mo ad (d + 1) 139 [.int a, .int b] M Q' :=
  fun Q' hQ => md_intro (ms139 xs) (Nat.le_of_ble_eq_true rfl) (fun h0 => vc139_0 hD (by intros; assumption) (fun q0 => by rw [f_isFloatAt, if_pos q0] at hQ; exact hQ) (fun q0 q1 => by rw [f_isFloatAt, if_neg q0, if_pos q1] at hQ; exact hQ) (fun q0 q1 => by rw [f_isFloatAt, if_neg q0, if_neg q1] at hQ; exact hQ))
end
section
/-! the reference's methods, on (by program: wip/whole/gen/m3.py) -/
/-- joins -/
def f_joins (M : md_S) (a : Int32) : Int32 := if a ≤ 0 then 0 else (if (f_isBlock M a) = 0 then 0 else (if ¬ (f_of M a 0) = 0 then 0 else (if ¬ (f_edges M a) = 0 then 0 else (if ¬ (f_of M (M.2 4 a.toNatClampNeg) 0) = 0 then 0 else 1))))
set_option maxHeartbeats 1000000 in
theorem vc123_0 {xs : List Int32} {mo : Nat} {ad : Nat → Nat} (hD : md_D mo ad) {h0 : am_H} {d : Nat} {Q : Option Value → md_S → Prop} {M : md_S} {a : Int32}
    (k1 : (a ≤ 0) → Q (some (.int 0)) M)
    (b2 : ¬ (a ≤ 0) → vp_in a 60)
    (k3 : ¬ (a ≤ 0) → ((f_isBlock M a) = 0) → Q (some (.int 0)) M)
    (k4 : ¬ (a ≤ 0) → ¬ ((f_isBlock M a) = 0) → ¬ (f_of M a 0) = 0 → Q (some (.int 0)) M)
    (k5 : ¬ (a ≤ 0) → ¬ ((f_isBlock M a) = 0) → ¬ (¬ (f_of M a 0) = 0) → ¬ (f_edges M a) = 0 → Q (some (.int 0)) M)
    (b6 : ¬ (a ≤ 0) → ¬ ((f_isBlock M a) = 0) → ¬ (¬ (f_of M a 0) = 0) → ¬ (¬ (f_edges M a) = 0) → vp_in (M.2 4 a.toNatClampNeg) 60)
    (k7 : ¬ (a ≤ 0) → ¬ ((f_isBlock M a) = 0) → ¬ (¬ (f_of M a 0) = 0) → ¬ (¬ (f_edges M a) = 0) → ¬ (f_of M (M.2 4 a.toNatClampNeg) 0) = 0 → Q (some (.int 0)) M)
    (k8 : ¬ (a ≤ 0) → ¬ ((f_isBlock M a) = 0) → ¬ (¬ (f_of M a 0) = 0) → ¬ (¬ (f_edges M a) = 0) → ¬ (¬ (f_of M (M.2 4 a.toNatClampNeg) 0) = 0) → Q (some (.int 1)) M) :
    md_wp xs mo ad h0 (d + 3) Q I123 0 [some (.ref mo), some (.int a)] [] M := by
  refine md_iload_n (dd D123_ok 0 rfl) rfl ?_
  refine md_if_le (tgt := 47) (dd D123_ok 1 rfl) (by decide) (fun c1 => ?_) (fun c1 => ?_)
  · refine md_iconst (v := 0) (dd D123_ok 25 rfl) (by decide) ?_
    exact md_iret (dd D123_ok 26 rfl) rfl (k1 c1)
  · refine md_aload0 (dd D123_ok 2 rfl) rfl ?_
    refine md_iload_n (dd D123_ok 3 rfl) rfl ?_
    refine md_callI (as := [.int a]) (rest := []) (dd D123_ok 4 rfl) pl9_196 rfl (Nat.le_of_ble_eq_true rfl) (ms124 xs) rfl (c_f_isBlock hD (b2 c1)) rfl ?_
    refine md_if_eq (tgt := 47) (dd D123_ok 5 rfl) (by decide) (fun c2 => ?_) (fun c2 => ?_)
    · refine md_iconst (v := 0) (dd D123_ok 25 rfl) (by decide) ?_
      exact md_iret (dd D123_ok 26 rfl) rfl (k3 c1 c2)
    · refine md_aload0 (dd D123_ok 6 rfl) rfl ?_
      refine md_iload_n (dd D123_ok 7 rfl) rfl ?_
      refine md_iconst (v := 0) (dd D123_ok 8 rfl) (by decide) ?_
      refine md_callI (as := [.int a, .int 0]) (rest := []) (dd D123_ok 9 rfl) pl9_168 rfl (Nat.le_of_ble_eq_true rfl) (ms118 xs) rfl (c_f_of hD (b2 c1) (md_vl (by decide))) rfl ?_
      refine md_if_ne (tgt := 47) (dd D123_ok 10 rfl) (by decide) (fun c3 => ?_) (fun c3 => ?_)
      · refine md_iconst (v := 0) (dd D123_ok 25 rfl) (by decide) ?_
        exact md_iret (dd D123_ok 26 rfl) rfl (k4 c1 c2 c3)
      · refine md_aload0 (dd D123_ok 11 rfl) rfl ?_
        refine md_iload_n (dd D123_ok 12 rfl) rfl ?_
        refine md_callI (as := [.int a]) (rest := []) (dd D123_ok 13 rfl) pl9_171 rfl (Nat.le_of_ble_eq_true rfl) (ms125 xs) rfl (c_f_edges hD (b2 c1)) rfl ?_
        refine md_if_ne (tgt := 47) (dd D123_ok 14 rfl) (by decide) (fun c4 => ?_) (fun c4 => ?_)
        · refine md_iconst (v := 0) (dd D123_ok 25 rfl) (by decide) ?_
          exact md_iret (dd D123_ok 26 rfl) rfl (k5 c1 c2 c3 c4)
        · refine md_aload0 (dd D123_ok 15 rfl) rfl ?_
          refine md_aload0 (dd D123_ok 16 rfl) rfl ?_
          refine md_getA (dd D123_ok 17 rfl) pl9_21 (by decide) rfl ?_
          refine md_iload_n (dd D123_ok 18 rfl) rfl ?_
          refine md_iald (f := 4) (dd D123_ok 19 rfl) rfl (b2 c1) ?_
          refine md_iconst (v := 0) (dd D123_ok 20 rfl) (by decide) ?_
          refine md_callI (as := [.int (M.2 4 a.toNatClampNeg), .int 0]) (rest := []) (dd D123_ok 21 rfl) pl9_168 rfl (Nat.le_of_ble_eq_true rfl) (ms118 xs) rfl (c_f_of hD (b6 c1 c2 c3 c4) (md_vl (by decide))) rfl ?_
          refine md_if_ne (tgt := 47) (dd D123_ok 22 rfl) (by decide) (fun c5 => ?_) (fun c5 => ?_)
          · refine md_iconst (v := 0) (dd D123_ok 25 rfl) (by decide) ?_
            exact md_iret (dd D123_ok 26 rfl) rfl (k7 c1 c2 c3 c4 c5)
          · refine md_iconst (v := 1) (dd D123_ok 23 rfl) (by decide) ?_
            refine md_goto (tgt := 48) (dd D123_ok 24 rfl) (by decide) ?_
            exact md_iret (dd D123_ok 26 rfl) rfl (k8 c1 c2 c3 c4 c5)
theorem c_f_joins {xs : List Int32} {mo : Nat} {ad : Nat → Nat} {d : Nat} {M : md_S} {a : Int32} (hD : md_D mo ad) (hn : vp_in a 60) (hq : ¬ (a ≤ 0) → vp_in (M.2 4 a.toNatClampNeg) 60) : ∀ Q', Q' (some (.int (f_joins M a))) M → md_C xs mo ad (d + 4) 123 [.int a] M Q' :=
  fun Q' hQ => md_intro (ms123 xs) (Nat.le_of_ble_eq_true rfl) (fun h0 => vc123_0 hD (fun q0 => by rw [f_joins, if_pos q0] at hQ; exact hQ) (by intros; assumption) (fun q0 q1 => by rw [f_joins, if_neg q0, if_pos q1] at hQ; exact hQ) (fun q0 q1 q2 => by rw [f_joins, if_neg q0, if_neg q1, if_pos q2] at hQ; exact hQ) (fun q0 q1 q2 q3 => by rw [f_joins, if_neg q0, if_neg q1, if_neg q2, if_pos q3] at hQ; exact hQ) (by intros; exact hq (by assumption)) (fun q0 q1 q2 q3 q4 => by rw [f_joins, if_neg q0, if_neg q1, if_neg q2, if_neg q3, if_pos q4] at hQ; exact hQ) (fun q0 q1 q2 q3 q4 => by rw [f_joins, if_neg q0, if_neg q1, if_neg q2, if_neg q3, if_neg q4] at hQ; exact hQ))
/-- itemHigh -/
def f_itemHigh (M : md_S) (a : Int32) : Int32 := if 0 ≤ a then (7 * (f_of M (M.2 30 a.toNatClampNeg) 8)) else (M.2 18 ((-1) - a).toNatClampNeg)
set_option maxHeartbeats 1000000 in
theorem vc142_0 {xs : List Int32} {mo : Nat} {ad : Nat → Nat} (hD : md_D mo ad) {h0 : am_H} {d : Nat} {Q : Option Value → md_S → Prop} {M : md_S} {a : Int32}
    (b1 : (0 ≤ a) → vp_in a 3700)
    (b2 : (0 ≤ a) → vp_in (M.2 30 a.toNatClampNeg) 60)
    (k3 : (0 ≤ a) → Q (some (.int (7 * (f_of M (M.2 30 a.toNatClampNeg) 8)))) M)
    (b4 : ¬ (0 ≤ a) → vp_in ((-1) - a) 60)
    (k5 : ¬ (0 ≤ a) → Q (some (.int (M.2 18 ((-1) - a).toNatClampNeg))) M) :
    md_wp xs mo ad h0 (d + 1) Q I142 0 [some (.ref mo), some (.int a)] [] M := by
  refine md_iload_n (dd D142_ok 0 rfl) rfl ?_
  refine md_if_ge (tgt := 15) (dd D142_ok 1 rfl) (by decide) (fun c1 => ?_) (fun c1 => ?_)
  · refine md_bipush (v := 7) (dd D142_ok 9 rfl) (by decide) ?_
    refine md_aload0 (dd D142_ok 10 rfl) rfl ?_
    refine md_aload0 (dd D142_ok 11 rfl) rfl ?_
    refine md_getA (dd D142_ok 12 rfl) pl9_94 (by decide) rfl ?_
    refine md_iload_n (dd D142_ok 13 rfl) rfl ?_
    refine md_iald (f := 30) (dd D142_ok 14 rfl) rfl (b1 c1) ?_
    refine md_bipush (v := 8) (dd D142_ok 15 rfl) (by decide) ?_
    refine md_callI (as := [.int (M.2 30 a.toNatClampNeg), .int 8]) (rest := [.int 7]) (dd D142_ok 16 rfl) pl9_168 rfl (Nat.le_of_ble_eq_true rfl) (ms118 xs) rfl (c_f_of hD (b2 c1) (md_vl (by decide))) rfl ?_
    refine md_imul (dd D142_ok 17 rfl) ?_
    exact md_iret (dd D142_ok 18 rfl) rfl (k3 c1)
  · refine md_aload0 (dd D142_ok 2 rfl) rfl ?_
    refine md_getA (dd D142_ok 3 rfl) pl9_64 (by decide) rfl ?_
    refine md_iconst (v := (-1)) (dd D142_ok 4 rfl) (by decide) ?_
    refine md_iload_n (dd D142_ok 5 rfl) rfl ?_
    refine md_isub (dd D142_ok 6 rfl) ?_
    refine md_iald (f := 18) (dd D142_ok 7 rfl) rfl (b4 c1) ?_
    refine md_goto (tgt := 30) (dd D142_ok 8 rfl) (by decide) ?_
    exact md_iret (dd D142_ok 18 rfl) rfl (k5 c1)
theorem c_f_itemHigh {xs : List Int32} {mo : Nat} {ad : Nat → Nat} {d : Nat} {M : md_S} {a : Int32} (hD : md_D mo ad) (h1 : ¬ (0 ≤ a) → vp_in ((-1) - a) 60) (h2 : (0 ≤ a) → vp_in a 3700) (h3 : (0 ≤ a) → vp_in (M.2 30 a.toNatClampNeg) 60) : ∀ Q', Q' (some (.int (f_itemHigh M a))) M → md_C xs mo ad (d + 2) 142 [.int a] M Q' :=
  fun Q' hQ => md_intro (ms142 xs) (Nat.le_of_ble_eq_true rfl) (fun h0 => vc142_0 hD (h2) (h3) (fun q0 => by rw [f_itemHigh, if_pos q0] at hQ; exact hQ) (h1) (fun q0 => by rw [f_itemHigh, if_neg q0] at hQ; exact hQ))
/-- modeOf -/
def f_modeOf (M : md_S) (a : Int32) : Int32 := if (M.2 12 (M.2 4 a.toNatClampNeg).toNatClampNeg) = 0 then 0 else (if ¬ (f_of M a 0) = 3 then (if ¬ (M.2 3 a.toNatClampNeg) = 1 then (if ¬ (M.2 3 a.toNatClampNeg) = 2 then (if ¬ (M.2 3 a.toNatClampNeg) = 3 then (if ¬ (M.2 12 (M.2 4 a.toNatClampNeg).toNatClampNeg) = 3 then (if ¬ (M.2 12 (M.2 4 a.toNatClampNeg).toNatClampNeg) = 1 then (if ¬ (M.2 12 (M.2 4 a.toNatClampNeg).toNatClampNeg) = 1 then (if ¬ (f_of M a 0) = 2 then 1 else 2) else (if ¬ (f_of M a 0) = 1 then (if ¬ (f_of M a 0) = 2 then 1 else 2) else 3)) else (if (f_of M a 1) ≤ 0 then (if ¬ (M.2 12 (M.2 4 a.toNatClampNeg).toNatClampNeg) = 1 then (if ¬ (f_of M a 0) = 2 then 1 else 2) else (if ¬ (f_of M a 0) = 1 then (if ¬ (f_of M a 0) = 2 then 1 else 2) else 3)) else (if ¬ (M.2 12 (M.2 4 a.toNatClampNeg).toNatClampNeg) = 1 then (if ¬ (f_of M a 0) = 2 then 1 else 2) else (if ¬ (f_of M a 0) = 2 then 1 else 2)))) else 3) else 4) else (if ¬ (M.2 12 (M.2 4 a.toNatClampNeg).toNatClampNeg) = 2 then 5 else 0)) else (if ¬ (M.2 12 (M.2 4 a.toNatClampNeg).toNatClampNeg) = 2 then 6 else 0)) else 0)
set_option maxHeartbeats 1000000 in
theorem vc119_0 {xs : List Int32} {mo : Nat} {ad : Nat → Nat} (hD : md_D mo ad) {h0 : am_H} {d : Nat} {Q : Option Value → md_S → Prop} {M : md_S} {a : Int32}
    (b1 : vp_in a 60)
    (b2 : vp_in (M.2 4 a.toNatClampNeg) 60)
    (k3 : ((M.2 12 (M.2 4 a.toNatClampNeg).toNatClampNeg) = 0) → Q (some (.int 0)) M)
    (k4 : ¬ ((M.2 12 (M.2 4 a.toNatClampNeg).toNatClampNeg) = 0) → ¬ (f_of M a 0) = 3 → ¬ (M.2 3 a.toNatClampNeg) = 1 → ¬ (M.2 3 a.toNatClampNeg) = 2 → ¬ (M.2 3 a.toNatClampNeg) = 3 → ¬ (M.2 12 (M.2 4 a.toNatClampNeg).toNatClampNeg) = 3 → ¬ (M.2 12 (M.2 4 a.toNatClampNeg).toNatClampNeg) = 1 → ¬ (M.2 12 (M.2 4 a.toNatClampNeg).toNatClampNeg) = 1 → ¬ (f_of M a 0) = 2 → Q (some (.int 1)) M)
    (k5 : ¬ ((M.2 12 (M.2 4 a.toNatClampNeg).toNatClampNeg) = 0) → ¬ (f_of M a 0) = 3 → ¬ (M.2 3 a.toNatClampNeg) = 1 → ¬ (M.2 3 a.toNatClampNeg) = 2 → ¬ (M.2 3 a.toNatClampNeg) = 3 → ¬ (M.2 12 (M.2 4 a.toNatClampNeg).toNatClampNeg) = 3 → ¬ (M.2 12 (M.2 4 a.toNatClampNeg).toNatClampNeg) = 1 → ¬ (M.2 12 (M.2 4 a.toNatClampNeg).toNatClampNeg) = 1 → ¬ (¬ (f_of M a 0) = 2) → Q (some (.int 2)) M)
    (k6 : ¬ ((M.2 12 (M.2 4 a.toNatClampNeg).toNatClampNeg) = 0) → ¬ (f_of M a 0) = 3 → ¬ (M.2 3 a.toNatClampNeg) = 1 → ¬ (M.2 3 a.toNatClampNeg) = 2 → ¬ (M.2 3 a.toNatClampNeg) = 3 → ¬ (M.2 12 (M.2 4 a.toNatClampNeg).toNatClampNeg) = 3 → ¬ (M.2 12 (M.2 4 a.toNatClampNeg).toNatClampNeg) = 1 → ¬ (¬ (M.2 12 (M.2 4 a.toNatClampNeg).toNatClampNeg) = 1) → ¬ (f_of M a 0) = 1 → ¬ (f_of M a 0) = 2 → Q (some (.int 1)) M)
    (k7 : ¬ ((M.2 12 (M.2 4 a.toNatClampNeg).toNatClampNeg) = 0) → ¬ (f_of M a 0) = 3 → ¬ (M.2 3 a.toNatClampNeg) = 1 → ¬ (M.2 3 a.toNatClampNeg) = 2 → ¬ (M.2 3 a.toNatClampNeg) = 3 → ¬ (M.2 12 (M.2 4 a.toNatClampNeg).toNatClampNeg) = 3 → ¬ (M.2 12 (M.2 4 a.toNatClampNeg).toNatClampNeg) = 1 → ¬ (¬ (M.2 12 (M.2 4 a.toNatClampNeg).toNatClampNeg) = 1) → ¬ (f_of M a 0) = 1 → ¬ (¬ (f_of M a 0) = 2) → Q (some (.int 2)) M)
    (k8 : ¬ ((M.2 12 (M.2 4 a.toNatClampNeg).toNatClampNeg) = 0) → ¬ (f_of M a 0) = 3 → ¬ (M.2 3 a.toNatClampNeg) = 1 → ¬ (M.2 3 a.toNatClampNeg) = 2 → ¬ (M.2 3 a.toNatClampNeg) = 3 → ¬ (M.2 12 (M.2 4 a.toNatClampNeg).toNatClampNeg) = 3 → ¬ (M.2 12 (M.2 4 a.toNatClampNeg).toNatClampNeg) = 1 → ¬ (¬ (M.2 12 (M.2 4 a.toNatClampNeg).toNatClampNeg) = 1) → ¬ (¬ (f_of M a 0) = 1) → Q (some (.int 3)) M)
    (k9 : ¬ ((M.2 12 (M.2 4 a.toNatClampNeg).toNatClampNeg) = 0) → ¬ (f_of M a 0) = 3 → ¬ (M.2 3 a.toNatClampNeg) = 1 → ¬ (M.2 3 a.toNatClampNeg) = 2 → ¬ (M.2 3 a.toNatClampNeg) = 3 → ¬ (M.2 12 (M.2 4 a.toNatClampNeg).toNatClampNeg) = 3 → ¬ (¬ (M.2 12 (M.2 4 a.toNatClampNeg).toNatClampNeg) = 1) → ((f_of M a 1) ≤ 0) → ¬ (M.2 12 (M.2 4 a.toNatClampNeg).toNatClampNeg) = 1 → ¬ (f_of M a 0) = 2 → Q (some (.int 1)) M)
    (k10 : ¬ ((M.2 12 (M.2 4 a.toNatClampNeg).toNatClampNeg) = 0) → ¬ (f_of M a 0) = 3 → ¬ (M.2 3 a.toNatClampNeg) = 1 → ¬ (M.2 3 a.toNatClampNeg) = 2 → ¬ (M.2 3 a.toNatClampNeg) = 3 → ¬ (M.2 12 (M.2 4 a.toNatClampNeg).toNatClampNeg) = 3 → ¬ (¬ (M.2 12 (M.2 4 a.toNatClampNeg).toNatClampNeg) = 1) → ((f_of M a 1) ≤ 0) → ¬ (M.2 12 (M.2 4 a.toNatClampNeg).toNatClampNeg) = 1 → ¬ (¬ (f_of M a 0) = 2) → Q (some (.int 2)) M)
    (k11 : ¬ ((M.2 12 (M.2 4 a.toNatClampNeg).toNatClampNeg) = 0) → ¬ (f_of M a 0) = 3 → ¬ (M.2 3 a.toNatClampNeg) = 1 → ¬ (M.2 3 a.toNatClampNeg) = 2 → ¬ (M.2 3 a.toNatClampNeg) = 3 → ¬ (M.2 12 (M.2 4 a.toNatClampNeg).toNatClampNeg) = 3 → ¬ (¬ (M.2 12 (M.2 4 a.toNatClampNeg).toNatClampNeg) = 1) → ((f_of M a 1) ≤ 0) → ¬ (¬ (M.2 12 (M.2 4 a.toNatClampNeg).toNatClampNeg) = 1) → ¬ (f_of M a 0) = 1 → ¬ (f_of M a 0) = 2 → Q (some (.int 1)) M)
    (k12 : ¬ ((M.2 12 (M.2 4 a.toNatClampNeg).toNatClampNeg) = 0) → ¬ (f_of M a 0) = 3 → ¬ (M.2 3 a.toNatClampNeg) = 1 → ¬ (M.2 3 a.toNatClampNeg) = 2 → ¬ (M.2 3 a.toNatClampNeg) = 3 → ¬ (M.2 12 (M.2 4 a.toNatClampNeg).toNatClampNeg) = 3 → ¬ (¬ (M.2 12 (M.2 4 a.toNatClampNeg).toNatClampNeg) = 1) → ((f_of M a 1) ≤ 0) → ¬ (¬ (M.2 12 (M.2 4 a.toNatClampNeg).toNatClampNeg) = 1) → ¬ (f_of M a 0) = 1 → ¬ (¬ (f_of M a 0) = 2) → Q (some (.int 2)) M)
    (k13 : ¬ ((M.2 12 (M.2 4 a.toNatClampNeg).toNatClampNeg) = 0) → ¬ (f_of M a 0) = 3 → ¬ (M.2 3 a.toNatClampNeg) = 1 → ¬ (M.2 3 a.toNatClampNeg) = 2 → ¬ (M.2 3 a.toNatClampNeg) = 3 → ¬ (M.2 12 (M.2 4 a.toNatClampNeg).toNatClampNeg) = 3 → ¬ (¬ (M.2 12 (M.2 4 a.toNatClampNeg).toNatClampNeg) = 1) → ((f_of M a 1) ≤ 0) → ¬ (¬ (M.2 12 (M.2 4 a.toNatClampNeg).toNatClampNeg) = 1) → ¬ (¬ (f_of M a 0) = 1) → Q (some (.int 3)) M)
    (k14 : ¬ ((M.2 12 (M.2 4 a.toNatClampNeg).toNatClampNeg) = 0) → ¬ (f_of M a 0) = 3 → ¬ (M.2 3 a.toNatClampNeg) = 1 → ¬ (M.2 3 a.toNatClampNeg) = 2 → ¬ (M.2 3 a.toNatClampNeg) = 3 → ¬ (M.2 12 (M.2 4 a.toNatClampNeg).toNatClampNeg) = 3 → ¬ (¬ (M.2 12 (M.2 4 a.toNatClampNeg).toNatClampNeg) = 1) → ¬ ((f_of M a 1) ≤ 0) → ¬ (M.2 12 (M.2 4 a.toNatClampNeg).toNatClampNeg) = 1 → ¬ (f_of M a 0) = 2 → Q (some (.int 1)) M)
    (k15 : ¬ ((M.2 12 (M.2 4 a.toNatClampNeg).toNatClampNeg) = 0) → ¬ (f_of M a 0) = 3 → ¬ (M.2 3 a.toNatClampNeg) = 1 → ¬ (M.2 3 a.toNatClampNeg) = 2 → ¬ (M.2 3 a.toNatClampNeg) = 3 → ¬ (M.2 12 (M.2 4 a.toNatClampNeg).toNatClampNeg) = 3 → ¬ (¬ (M.2 12 (M.2 4 a.toNatClampNeg).toNatClampNeg) = 1) → ¬ ((f_of M a 1) ≤ 0) → ¬ (M.2 12 (M.2 4 a.toNatClampNeg).toNatClampNeg) = 1 → ¬ (¬ (f_of M a 0) = 2) → Q (some (.int 2)) M)
    (k16 : ¬ ((M.2 12 (M.2 4 a.toNatClampNeg).toNatClampNeg) = 0) → ¬ (f_of M a 0) = 3 → ¬ (M.2 3 a.toNatClampNeg) = 1 → ¬ (M.2 3 a.toNatClampNeg) = 2 → ¬ (M.2 3 a.toNatClampNeg) = 3 → ¬ (M.2 12 (M.2 4 a.toNatClampNeg).toNatClampNeg) = 3 → ¬ (¬ (M.2 12 (M.2 4 a.toNatClampNeg).toNatClampNeg) = 1) → ¬ ((f_of M a 1) ≤ 0) → ¬ (¬ (M.2 12 (M.2 4 a.toNatClampNeg).toNatClampNeg) = 1) → ¬ (f_of M a 0) = 2 → Q (some (.int 1)) M)
    (k17 : ¬ ((M.2 12 (M.2 4 a.toNatClampNeg).toNatClampNeg) = 0) → ¬ (f_of M a 0) = 3 → ¬ (M.2 3 a.toNatClampNeg) = 1 → ¬ (M.2 3 a.toNatClampNeg) = 2 → ¬ (M.2 3 a.toNatClampNeg) = 3 → ¬ (M.2 12 (M.2 4 a.toNatClampNeg).toNatClampNeg) = 3 → ¬ (¬ (M.2 12 (M.2 4 a.toNatClampNeg).toNatClampNeg) = 1) → ¬ ((f_of M a 1) ≤ 0) → ¬ (¬ (M.2 12 (M.2 4 a.toNatClampNeg).toNatClampNeg) = 1) → ¬ (¬ (f_of M a 0) = 2) → Q (some (.int 2)) M)
    (k18 : ¬ ((M.2 12 (M.2 4 a.toNatClampNeg).toNatClampNeg) = 0) → ¬ (f_of M a 0) = 3 → ¬ (M.2 3 a.toNatClampNeg) = 1 → ¬ (M.2 3 a.toNatClampNeg) = 2 → ¬ (M.2 3 a.toNatClampNeg) = 3 → ¬ (¬ (M.2 12 (M.2 4 a.toNatClampNeg).toNatClampNeg) = 3) → Q (some (.int 3)) M)
    (k19 : ¬ ((M.2 12 (M.2 4 a.toNatClampNeg).toNatClampNeg) = 0) → ¬ (f_of M a 0) = 3 → ¬ (M.2 3 a.toNatClampNeg) = 1 → ¬ (M.2 3 a.toNatClampNeg) = 2 → ¬ (¬ (M.2 3 a.toNatClampNeg) = 3) → Q (some (.int 4)) M)
    (k20 : ¬ ((M.2 12 (M.2 4 a.toNatClampNeg).toNatClampNeg) = 0) → ¬ (f_of M a 0) = 3 → ¬ (M.2 3 a.toNatClampNeg) = 1 → ¬ (¬ (M.2 3 a.toNatClampNeg) = 2) → ¬ (M.2 12 (M.2 4 a.toNatClampNeg).toNatClampNeg) = 2 → Q (some (.int 5)) M)
    (k21 : ¬ ((M.2 12 (M.2 4 a.toNatClampNeg).toNatClampNeg) = 0) → ¬ (f_of M a 0) = 3 → ¬ (M.2 3 a.toNatClampNeg) = 1 → ¬ (¬ (M.2 3 a.toNatClampNeg) = 2) → ¬ (¬ (M.2 12 (M.2 4 a.toNatClampNeg).toNatClampNeg) = 2) → Q (some (.int 0)) M)
    (k22 : ¬ ((M.2 12 (M.2 4 a.toNatClampNeg).toNatClampNeg) = 0) → ¬ (f_of M a 0) = 3 → ¬ (¬ (M.2 3 a.toNatClampNeg) = 1) → ¬ (M.2 12 (M.2 4 a.toNatClampNeg).toNatClampNeg) = 2 → Q (some (.int 6)) M)
    (k23 : ¬ ((M.2 12 (M.2 4 a.toNatClampNeg).toNatClampNeg) = 0) → ¬ (f_of M a 0) = 3 → ¬ (¬ (M.2 3 a.toNatClampNeg) = 1) → ¬ (¬ (M.2 12 (M.2 4 a.toNatClampNeg).toNatClampNeg) = 2) → Q (some (.int 0)) M)
    (k24 : ¬ ((M.2 12 (M.2 4 a.toNatClampNeg).toNatClampNeg) = 0) → ¬ (¬ (f_of M a 0) = 3) → Q (some (.int 0)) M) :
    md_wp xs mo ad h0 (d + 1) Q I119 0 [some (.ref mo), some (.int a), none, none, none] [] M := by
  refine md_aload0 (dd D119_ok 0 rfl) rfl ?_
  refine md_getA (dd D119_ok 1 rfl) pl9_45 (by decide) rfl ?_
  refine md_aload0 (dd D119_ok 2 rfl) rfl ?_
  refine md_getA (dd D119_ok 3 rfl) pl9_21 (by decide) rfl ?_
  refine md_iload_n (dd D119_ok 4 rfl) rfl ?_
  refine md_iald (f := 4) (dd D119_ok 5 rfl) rfl b1 ?_
  refine md_iald (f := 12) (dd D119_ok 6 rfl) rfl b2 ?_
  refine md_istore_n (dd D119_ok 7 rfl) (Nat.le_of_ble_eq_true rfl) ?_
  refine md_aload0 (dd D119_ok 8 rfl) rfl ?_
  refine md_iload_n (dd D119_ok 9 rfl) rfl ?_
  refine md_iconst (v := 0) (dd D119_ok 10 rfl) (by decide) ?_
  refine md_callI (as := [.int a, .int 0]) (rest := []) (dd D119_ok 11 rfl) pl9_168 rfl (Nat.le_of_ble_eq_true rfl) (ms118 xs) rfl (c_f_of hD b1 (md_vl (by decide))) rfl ?_
  refine md_istore_n (dd D119_ok 12 rfl) (Nat.le_of_ble_eq_true rfl) ?_
  refine md_iload_n (dd D119_ok 13 rfl) rfl ?_
  refine md_if_eq (tgt := 28) (dd D119_ok 14 rfl) (by decide) (fun c1 => ?_) (fun c1 => ?_)
  · refine md_iconst (v := 0) (dd D119_ok 18 rfl) (by decide) ?_
    exact md_iret (dd D119_ok 19 rfl) rfl (k3 c1)
  · refine md_iload_n (dd D119_ok 15 rfl) rfl ?_
    refine md_iconst (v := 3) (dd D119_ok 16 rfl) (by decide) ?_
    refine md_icmp_ne (tgt := 30) (dd D119_ok 17 rfl) (by decide) (fun c2 => ?_) (fun c2 => ?_)
    · refine md_aload0 (dd D119_ok 20 rfl) rfl ?_
      refine md_getA (dd D119_ok 21 rfl) pl9_17 (by decide) rfl ?_
      refine md_iload_n (dd D119_ok 22 rfl) rfl ?_
      refine md_iald (f := 3) (dd D119_ok 23 rfl) rfl b1 ?_
      refine md_iconst (v := 1) (dd D119_ok 24 rfl) (by decide) ?_
      refine md_icmp_ne (tgt := 52) (dd D119_ok 25 rfl) (by decide) (fun c3 => ?_) (fun c3 => ?_)
      · refine md_aload0 (dd D119_ok 33 rfl) rfl ?_
        refine md_getA (dd D119_ok 34 rfl) pl9_17 (by decide) rfl ?_
        refine md_iload_n (dd D119_ok 35 rfl) rfl ?_
        refine md_iald (f := 3) (dd D119_ok 36 rfl) rfl b1 ?_
        refine md_iconst (v := 2) (dd D119_ok 37 rfl) (by decide) ?_
        refine md_icmp_ne (tgt := 73) (dd D119_ok 38 rfl) (by decide) (fun c4 => ?_) (fun c4 => ?_)
        · refine md_aload0 (dd D119_ok 46 rfl) rfl ?_
          refine md_getA (dd D119_ok 47 rfl) pl9_17 (by decide) rfl ?_
          refine md_iload_n (dd D119_ok 48 rfl) rfl ?_
          refine md_iald (f := 3) (dd D119_ok 49 rfl) rfl b1 ?_
          refine md_iconst (v := 3) (dd D119_ok 50 rfl) (by decide) ?_
          refine md_icmp_ne (tgt := 85) (dd D119_ok 51 rfl) (by decide) (fun c5 => ?_) (fun c5 => ?_)
          · refine md_iload_n (dd D119_ok 54 rfl) rfl ?_
            refine md_iconst (v := 3) (dd D119_ok 55 rfl) (by decide) ?_
            refine md_icmp_ne (tgt := 92) (dd D119_ok 56 rfl) (by decide) (fun c6 => ?_) (fun c6 => ?_)
            · refine md_iload_n (dd D119_ok 59 rfl) rfl ?_
              refine md_iconst (v := 1) (dd D119_ok 60 rfl) (by decide) ?_
              refine md_icmp_ne (tgt := 110) (dd D119_ok 61 rfl) (by decide) (fun c7 => ?_) (fun c7 => ?_)
              · refine md_iconst (v := 0) (dd D119_ok 69 rfl) (by decide) ?_
                refine md_istore (dd D119_ok 70 rfl) (Nat.le_of_ble_eq_true rfl) ?_
                refine md_iload_n (dd D119_ok 71 rfl) rfl ?_
                refine md_iconst (v := 1) (dd D119_ok 72 rfl) (by decide) ?_
                refine md_icmp_ne (tgt := 130) (dd D119_ok 73 rfl) (by decide) (fun c8 => ?_) (fun c8 => ?_)
                · refine md_iload_n (dd D119_ok 81 rfl) rfl ?_
                  refine md_iconst (v := 2) (dd D119_ok 82 rfl) (by decide) ?_
                  refine md_icmp_ne (tgt := 139) (dd D119_ok 83 rfl) (by decide) (fun c9 => ?_) (fun c9 => ?_)
                  · refine md_iconst (v := 1) (dd D119_ok 86 rfl) (by decide) ?_
                    exact md_iret (dd D119_ok 87 rfl) rfl (k4 c1 c2 c3 c4 c5 c6 c7 c8 c9)
                  · refine md_iconst (v := 2) (dd D119_ok 84 rfl) (by decide) ?_
                    refine md_goto (tgt := 140) (dd D119_ok 85 rfl) (by decide) ?_
                    exact md_iret (dd D119_ok 87 rfl) rfl (k5 c1 c2 c3 c4 c5 c6 c7 c8 c9)
                · refine md_iload (dd D119_ok 74 rfl) rfl ?_
                  refine md_if_ne (tgt := 130) (dd D119_ok 75 rfl) (by decide) (fun c10 => absurd c10 (by decide)) (fun _ => ?_)
                  refine md_iload_n (dd D119_ok 76 rfl) rfl ?_
                  refine md_iconst (v := 1) (dd D119_ok 77 rfl) (by decide) ?_
                  refine md_icmp_ne (tgt := 130) (dd D119_ok 78 rfl) (by decide) (fun c11 => ?_) (fun c11 => ?_)
                  · refine md_iload_n (dd D119_ok 81 rfl) rfl ?_
                    refine md_iconst (v := 2) (dd D119_ok 82 rfl) (by decide) ?_
                    refine md_icmp_ne (tgt := 139) (dd D119_ok 83 rfl) (by decide) (fun c12 => ?_) (fun c12 => ?_)
                    · refine md_iconst (v := 1) (dd D119_ok 86 rfl) (by decide) ?_
                      exact md_iret (dd D119_ok 87 rfl) rfl (k6 c1 c2 c3 c4 c5 c6 c7 c8 c11 c12)
                    · refine md_iconst (v := 2) (dd D119_ok 84 rfl) (by decide) ?_
                      refine md_goto (tgt := 140) (dd D119_ok 85 rfl) (by decide) ?_
                      exact md_iret (dd D119_ok 87 rfl) rfl (k7 c1 c2 c3 c4 c5 c6 c7 c8 c11 c12)
                  · refine md_iconst (v := 3) (dd D119_ok 79 rfl) (by decide) ?_
                    exact md_iret (dd D119_ok 80 rfl) rfl (k8 c1 c2 c3 c4 c5 c6 c7 c8 c11)
              · refine md_aload0 (dd D119_ok 62 rfl) rfl ?_
                refine md_iload_n (dd D119_ok 63 rfl) rfl ?_
                refine md_iconst (v := 1) (dd D119_ok 64 rfl) (by decide) ?_
                refine md_callI (as := [.int a, .int 1]) (rest := []) (dd D119_ok 65 rfl) pl9_168 rfl (Nat.le_of_ble_eq_true rfl) (ms118 xs) rfl (c_f_of hD b1 (md_vl (by decide))) rfl ?_
                refine md_if_le (tgt := 110) (dd D119_ok 66 rfl) (by decide) (fun c13 => ?_) (fun c13 => ?_)
                · refine md_iconst (v := 0) (dd D119_ok 69 rfl) (by decide) ?_
                  refine md_istore (dd D119_ok 70 rfl) (Nat.le_of_ble_eq_true rfl) ?_
                  refine md_iload_n (dd D119_ok 71 rfl) rfl ?_
                  refine md_iconst (v := 1) (dd D119_ok 72 rfl) (by decide) ?_
                  refine md_icmp_ne (tgt := 130) (dd D119_ok 73 rfl) (by decide) (fun c14 => ?_) (fun c14 => ?_)
                  · refine md_iload_n (dd D119_ok 81 rfl) rfl ?_
                    refine md_iconst (v := 2) (dd D119_ok 82 rfl) (by decide) ?_
                    refine md_icmp_ne (tgt := 139) (dd D119_ok 83 rfl) (by decide) (fun c15 => ?_) (fun c15 => ?_)
                    · refine md_iconst (v := 1) (dd D119_ok 86 rfl) (by decide) ?_
                      exact md_iret (dd D119_ok 87 rfl) rfl (k9 c1 c2 c3 c4 c5 c6 c7 c13 c14 c15)
                    · refine md_iconst (v := 2) (dd D119_ok 84 rfl) (by decide) ?_
                      refine md_goto (tgt := 140) (dd D119_ok 85 rfl) (by decide) ?_
                      exact md_iret (dd D119_ok 87 rfl) rfl (k10 c1 c2 c3 c4 c5 c6 c7 c13 c14 c15)
                  · refine md_iload (dd D119_ok 74 rfl) rfl ?_
                    refine md_if_ne (tgt := 130) (dd D119_ok 75 rfl) (by decide) (fun c16 => absurd c16 (by decide)) (fun _ => ?_)
                    refine md_iload_n (dd D119_ok 76 rfl) rfl ?_
                    refine md_iconst (v := 1) (dd D119_ok 77 rfl) (by decide) ?_
                    refine md_icmp_ne (tgt := 130) (dd D119_ok 78 rfl) (by decide) (fun c17 => ?_) (fun c17 => ?_)
                    · refine md_iload_n (dd D119_ok 81 rfl) rfl ?_
                      refine md_iconst (v := 2) (dd D119_ok 82 rfl) (by decide) ?_
                      refine md_icmp_ne (tgt := 139) (dd D119_ok 83 rfl) (by decide) (fun c18 => ?_) (fun c18 => ?_)
                      · refine md_iconst (v := 1) (dd D119_ok 86 rfl) (by decide) ?_
                        exact md_iret (dd D119_ok 87 rfl) rfl (k11 c1 c2 c3 c4 c5 c6 c7 c13 c14 c17 c18)
                      · refine md_iconst (v := 2) (dd D119_ok 84 rfl) (by decide) ?_
                        refine md_goto (tgt := 140) (dd D119_ok 85 rfl) (by decide) ?_
                        exact md_iret (dd D119_ok 87 rfl) rfl (k12 c1 c2 c3 c4 c5 c6 c7 c13 c14 c17 c18)
                    · refine md_iconst (v := 3) (dd D119_ok 79 rfl) (by decide) ?_
                      exact md_iret (dd D119_ok 80 rfl) rfl (k13 c1 c2 c3 c4 c5 c6 c7 c13 c14 c17)
                · refine md_iconst (v := 1) (dd D119_ok 67 rfl) (by decide) ?_
                  refine md_goto (tgt := 111) (dd D119_ok 68 rfl) (by decide) ?_
                  refine md_istore (dd D119_ok 70 rfl) (Nat.le_of_ble_eq_true rfl) ?_
                  refine md_iload_n (dd D119_ok 71 rfl) rfl ?_
                  refine md_iconst (v := 1) (dd D119_ok 72 rfl) (by decide) ?_
                  refine md_icmp_ne (tgt := 130) (dd D119_ok 73 rfl) (by decide) (fun c19 => ?_) (fun c19 => ?_)
                  · refine md_iload_n (dd D119_ok 81 rfl) rfl ?_
                    refine md_iconst (v := 2) (dd D119_ok 82 rfl) (by decide) ?_
                    refine md_icmp_ne (tgt := 139) (dd D119_ok 83 rfl) (by decide) (fun c20 => ?_) (fun c20 => ?_)
                    · refine md_iconst (v := 1) (dd D119_ok 86 rfl) (by decide) ?_
                      exact md_iret (dd D119_ok 87 rfl) rfl (k14 c1 c2 c3 c4 c5 c6 c7 c13 c19 c20)
                    · refine md_iconst (v := 2) (dd D119_ok 84 rfl) (by decide) ?_
                      refine md_goto (tgt := 140) (dd D119_ok 85 rfl) (by decide) ?_
                      exact md_iret (dd D119_ok 87 rfl) rfl (k15 c1 c2 c3 c4 c5 c6 c7 c13 c19 c20)
                  · refine md_iload (dd D119_ok 74 rfl) rfl ?_
                    refine md_if_ne (tgt := 130) (dd D119_ok 75 rfl) (by decide) (fun _ => ?_) (fun c21 => absurd (by decide) c21)
                    refine md_iload_n (dd D119_ok 81 rfl) rfl ?_
                    refine md_iconst (v := 2) (dd D119_ok 82 rfl) (by decide) ?_
                    refine md_icmp_ne (tgt := 139) (dd D119_ok 83 rfl) (by decide) (fun c22 => ?_) (fun c22 => ?_)
                    · refine md_iconst (v := 1) (dd D119_ok 86 rfl) (by decide) ?_
                      exact md_iret (dd D119_ok 87 rfl) rfl (k16 c1 c2 c3 c4 c5 c6 c7 c13 c19 c22)
                    · refine md_iconst (v := 2) (dd D119_ok 84 rfl) (by decide) ?_
                      refine md_goto (tgt := 140) (dd D119_ok 85 rfl) (by decide) ?_
                      exact md_iret (dd D119_ok 87 rfl) rfl (k17 c1 c2 c3 c4 c5 c6 c7 c13 c19 c22)
            · refine md_iconst (v := 3) (dd D119_ok 57 rfl) (by decide) ?_
              exact md_iret (dd D119_ok 58 rfl) rfl (k18 c1 c2 c3 c4 c5 c6)
          · refine md_iconst (v := 4) (dd D119_ok 52 rfl) (by decide) ?_
            exact md_iret (dd D119_ok 53 rfl) rfl (k19 c1 c2 c3 c4 c5)
        · refine md_iload_n (dd D119_ok 39 rfl) rfl ?_
          refine md_iconst (v := 2) (dd D119_ok 40 rfl) (by decide) ?_
          refine md_icmp_ne (tgt := 71) (dd D119_ok 41 rfl) (by decide) (fun c23 => ?_) (fun c23 => ?_)
          · refine md_iconst (v := 5) (dd D119_ok 44 rfl) (by decide) ?_
            exact md_iret (dd D119_ok 45 rfl) rfl (k20 c1 c2 c3 c4 c23)
          · refine md_iconst (v := 0) (dd D119_ok 42 rfl) (by decide) ?_
            refine md_goto (tgt := 72) (dd D119_ok 43 rfl) (by decide) ?_
            exact md_iret (dd D119_ok 45 rfl) rfl (k21 c1 c2 c3 c4 c23)
      · refine md_iload_n (dd D119_ok 26 rfl) rfl ?_
        refine md_iconst (v := 2) (dd D119_ok 27 rfl) (by decide) ?_
        refine md_icmp_ne (tgt := 49) (dd D119_ok 28 rfl) (by decide) (fun c24 => ?_) (fun c24 => ?_)
        · refine md_bipush (v := 6) (dd D119_ok 31 rfl) (by decide) ?_
          exact md_iret (dd D119_ok 32 rfl) rfl (k22 c1 c2 c3 c24)
        · refine md_iconst (v := 0) (dd D119_ok 29 rfl) (by decide) ?_
          refine md_goto (tgt := 51) (dd D119_ok 30 rfl) (by decide) ?_
          exact md_iret (dd D119_ok 32 rfl) rfl (k23 c1 c2 c3 c24)
    · refine md_iconst (v := 0) (dd D119_ok 18 rfl) (by decide) ?_
      exact md_iret (dd D119_ok 19 rfl) rfl (k24 c1 c2)
theorem c_f_modeOf {xs : List Int32} {mo : Nat} {ad : Nat → Nat} {d : Nat} {M : md_S} {a : Int32} (hD : md_D mo ad) (hn : vp_in a 60) (hp : vp_in (M.2 4 a.toNatClampNeg) 60) : ∀ Q', Q' (some (.int (f_modeOf M a))) M → md_C xs mo ad (d + 2) 119 [.int a] M Q' :=
  fun Q' hQ => md_intro (ms119 xs) (Nat.le_of_ble_eq_true rfl) (fun h0 => vc119_0 hD (by intros; assumption) (by intros; assumption) (fun q0 => by rw [f_modeOf, if_pos q0] at hQ; exact hQ) (fun q0 q1 q2 q3 q4 q5 q6 q7 q8 => by rw [f_modeOf, if_neg q0, if_pos q1, if_pos q2, if_pos q3, if_pos q4, if_pos q5, if_pos q6, if_pos q7, if_pos q8] at hQ; exact hQ) (fun q0 q1 q2 q3 q4 q5 q6 q7 q8 => by rw [f_modeOf, if_neg q0, if_pos q1, if_pos q2, if_pos q3, if_pos q4, if_pos q5, if_pos q6, if_pos q7, if_neg q8] at hQ; exact hQ) (fun q0 q1 q2 q3 q4 q5 q6 q7 q8 q9 => by rw [f_modeOf, if_neg q0, if_pos q1, if_pos q2, if_pos q3, if_pos q4, if_pos q5, if_pos q6, if_neg q7, if_pos q8, if_pos q9] at hQ; exact hQ) (fun q0 q1 q2 q3 q4 q5 q6 q7 q8 q9 => by rw [f_modeOf, if_neg q0, if_pos q1, if_pos q2, if_pos q3, if_pos q4, if_pos q5, if_pos q6, if_neg q7, if_pos q8, if_neg q9] at hQ; exact hQ) (fun q0 q1 q2 q3 q4 q5 q6 q7 q8 => by rw [f_modeOf, if_neg q0, if_pos q1, if_pos q2, if_pos q3, if_pos q4, if_pos q5, if_pos q6, if_neg q7, if_neg q8] at hQ; exact hQ) (fun q0 q1 q2 q3 q4 q5 q6 q7 q8 q9 => by rw [f_modeOf, if_neg q0, if_pos q1, if_pos q2, if_pos q3, if_pos q4, if_pos q5, if_neg q6, if_pos q7, if_pos q8, if_pos q9] at hQ; exact hQ) (fun q0 q1 q2 q3 q4 q5 q6 q7 q8 q9 => by rw [f_modeOf, if_neg q0, if_pos q1, if_pos q2, if_pos q3, if_pos q4, if_pos q5, if_neg q6, if_pos q7, if_pos q8, if_neg q9] at hQ; exact hQ) (fun q0 q1 q2 q3 q4 q5 q6 q7 q8 q9 q10 => by rw [f_modeOf, if_neg q0, if_pos q1, if_pos q2, if_pos q3, if_pos q4, if_pos q5, if_neg q6, if_pos q7, if_neg q8, if_pos q9, if_pos q10] at hQ; exact hQ) (fun q0 q1 q2 q3 q4 q5 q6 q7 q8 q9 q10 => by rw [f_modeOf, if_neg q0, if_pos q1, if_pos q2, if_pos q3, if_pos q4, if_pos q5, if_neg q6, if_pos q7, if_neg q8, if_pos q9, if_neg q10] at hQ; exact hQ) (fun q0 q1 q2 q3 q4 q5 q6 q7 q8 q9 => by rw [f_modeOf, if_neg q0, if_pos q1, if_pos q2, if_pos q3, if_pos q4, if_pos q5, if_neg q6, if_pos q7, if_neg q8, if_neg q9] at hQ; exact hQ) (fun q0 q1 q2 q3 q4 q5 q6 q7 q8 q9 => by rw [f_modeOf, if_neg q0, if_pos q1, if_pos q2, if_pos q3, if_pos q4, if_pos q5, if_neg q6, if_neg q7, if_pos q8, if_pos q9] at hQ; exact hQ) (fun q0 q1 q2 q3 q4 q5 q6 q7 q8 q9 => by rw [f_modeOf, if_neg q0, if_pos q1, if_pos q2, if_pos q3, if_pos q4, if_pos q5, if_neg q6, if_neg q7, if_pos q8, if_neg q9] at hQ; exact hQ) (fun q0 q1 q2 q3 q4 q5 q6 q7 q8 q9 => by rw [f_modeOf, if_neg q0, if_pos q1, if_pos q2, if_pos q3, if_pos q4, if_pos q5, if_neg q6, if_neg q7, if_neg q8, if_pos q9] at hQ; exact hQ) (fun q0 q1 q2 q3 q4 q5 q6 q7 q8 q9 => by rw [f_modeOf, if_neg q0, if_pos q1, if_pos q2, if_pos q3, if_pos q4, if_pos q5, if_neg q6, if_neg q7, if_neg q8, if_neg q9] at hQ; exact hQ) (fun q0 q1 q2 q3 q4 q5 => by rw [f_modeOf, if_neg q0, if_pos q1, if_pos q2, if_pos q3, if_pos q4, if_neg q5] at hQ; exact hQ) (fun q0 q1 q2 q3 q4 => by rw [f_modeOf, if_neg q0, if_pos q1, if_pos q2, if_pos q3, if_neg q4] at hQ; exact hQ) (fun q0 q1 q2 q3 q4 => by rw [f_modeOf, if_neg q0, if_pos q1, if_pos q2, if_neg q3, if_pos q4] at hQ; exact hQ) (fun q0 q1 q2 q3 q4 => by rw [f_modeOf, if_neg q0, if_pos q1, if_pos q2, if_neg q3, if_neg q4] at hQ; exact hQ) (fun q0 q1 q2 q3 => by rw [f_modeOf, if_neg q0, if_pos q1, if_neg q2, if_pos q3] at hQ; exact hQ) (fun q0 q1 q2 q3 => by rw [f_modeOf, if_neg q0, if_pos q1, if_neg q2, if_neg q3] at hQ; exact hQ) (fun q0 q1 => by rw [f_modeOf, if_neg q0, if_neg q1] at hQ; exact hQ))
/-- end: the state behind it -/
def f_end_M (M : md_S) (a : Int32) : md_S := if a < 0 then M else (if a ≤ (M.1 1) then (md_up1 M 1 a) else M)
/-- end: the answer -/
def f_end (M : md_S) (a : Int32) : Int32 := if a < 0 then (-1) else (if a ≤ (M.1 1) then a else (-1))
set_option maxHeartbeats 1000000 in
theorem vc109_0 {xs : List Int32} {mo : Nat} {ad : Nat → Nat} (hD : md_D mo ad) {h0 : am_H} {d : Nat} {Q : Option Value → md_S → Prop} {M : md_S} {a : Int32}
    (k1 : (a < 0) → Q (some (.int (-1))) M)
    (k2 : ¬ (a < 0) → (a ≤ (M.1 1)) → Q (some (.int a)) (md_up1 M 1 a))
    (k3 : ¬ (a < 0) → ¬ (a ≤ (M.1 1)) → Q (some (.int (-1))) M) :
    md_wp xs mo ad h0 d Q I109 0 [some (.ref mo), some (.int a)] [] M := by
  refine md_iload_n (dd D109_ok 0 rfl) rfl ?_
  refine md_if_lt (tgt := 12) (dd D109_ok 1 rfl) (by decide) (fun c1 => ?_) (fun c1 => ?_)
  · refine md_iconst (v := (-1)) (dd D109_ok 6 rfl) (by decide) ?_
    exact md_iret (dd D109_ok 7 rfl) rfl (k1 c1)
  · refine md_iload_n (dd D109_ok 2 rfl) rfl ?_
    refine md_aload0 (dd D109_ok 3 rfl) rfl ?_
    refine md_getI (dd D109_ok 4 rfl) pl9_142 (by decide) rfl ?_
    refine md_icmp_le (tgt := 14) (dd D109_ok 5 rfl) (by decide) (fun c2 => ?_) (fun c2 => ?_)
    · refine md_aload0 (dd D109_ok 8 rfl) rfl ?_
      refine md_iload_n (dd D109_ok 9 rfl) rfl ?_
      refine md_putI hD (dd D109_ok 10 rfl) pl9_142 (by decide) rfl rfl rfl ?_
      refine md_iload_n (dd D109_ok 11 rfl) rfl ?_
      exact md_iret (dd D109_ok 12 rfl) rfl (k2 c1 c2)
    · refine md_iconst (v := (-1)) (dd D109_ok 6 rfl) (by decide) ?_
      exact md_iret (dd D109_ok 7 rfl) rfl (k3 c1 c2)
theorem c_f_end {xs : List Int32} {mo : Nat} {ad : Nat → Nat} {d : Nat} {M : md_S} {a : Int32} (hD : md_D mo ad)  : ∀ Q', Q' (some (.int (f_end M a))) (f_end_M M a) → md_C xs mo ad (d + 1) 109 [.int a] M Q' :=
  fun Q' hQ => md_intro (ms109 xs) (Nat.le_of_ble_eq_true rfl) (fun h0 => vc109_0 hD (fun q0 => by rw [f_end, if_pos q0, f_end_M, if_pos q0] at hQ; exact hQ) (fun q0 q1 => by rw [f_end, if_neg q0, if_pos q1, f_end_M, if_neg q0, if_pos q1] at hQ; exact hQ) (fun q0 q1 => by rw [f_end, if_neg q0, if_neg q1, f_end_M, if_neg q0, if_neg q1] at hQ; exact hQ))
/-- words: the answer -/
def f_words (M : md_S) : Int32 := M.1 29
set_option maxHeartbeats 1000000 in
theorem vc148_0 {xs : List Int32} {mo : Nat} {ad : Nat → Nat} (hD : md_D mo ad) {h0 : am_H} {d : Nat} {Q : Option Value → md_S → Prop} {M : md_S} 
    (k1 : Q (some (.int (M.1 29))) M) :
    md_wp xs mo ad h0 d Q I148 0 [some (.ref mo)] [] M := by
  refine md_aload0 (dd D148_ok 0 rfl) rfl ?_
  refine md_getI (dd D148_ok 1 rfl) pl9_153 (by decide) rfl ?_
  exact md_iret (dd D148_ok 2 rfl) rfl k1
theorem c_f_words {xs : List Int32} {mo : Nat} {ad : Nat → Nat} {d : Nat} {M : md_S} (hD : md_D mo ad)  : ∀ Q', Q' (some (.int (f_words M ))) M → md_C xs mo ad (d + 1) 148 [] M Q' :=
  fun Q' hQ => md_intro (ms148 xs) (Nat.le_of_ble_eq_true rfl) (fun h0 => vc148_0 hD (hQ))
end
section
/-! the reference: what floats leave of a line (by program and hand: wip/whole/gen/m5.py) -/
set_option maxHeartbeats 1000000 in
theorem vc138_0 {xs : List Int32} {mo : Nat} {ad : Nat → Nat} (hD : md_D mo ad) {h0 : am_H} {d : Nat} {Q : Option Value → md_S → Prop} {M : md_S} {x1 : Int32}
    (k1 : md_wp xs mo ad h0 (d + 1) Q I138 15 [some (.ref mo), some (.int x1), some (.int 0)] [] (md_up1 (md_up1 M 38 0) 39 ((md_up1 M 38 0).1 55))) :
    md_wp xs mo ad h0 (d + 1) Q I138 0 [some (.ref mo), some (.int x1), none] [] M := by
  refine md_aload0 (dd D138_ok 0 rfl) rfl ?_
  refine md_iconst (v := 0) (dd D138_ok 1 rfl) (by decide) ?_
  refine md_putI hD (dd D138_ok 2 rfl) pl9_235 (by decide) rfl rfl rfl ?_
  refine md_aload0 (dd D138_ok 3 rfl) rfl ?_
  refine md_aload0 (dd D138_ok 4 rfl) rfl ?_
  refine md_getI (dd D138_ok 5 rfl) pl9_238 (by decide) rfl ?_
  refine md_putI hD (dd D138_ok 6 rfl) pl9_241 (by decide) rfl rfl rfl ?_
  refine md_iconst (v := 0) (dd D138_ok 7 rfl) (by decide) ?_
  refine md_istore_n (dd D138_ok 8 rfl) (Nat.le_of_ble_eq_true rfl) ?_
  exact k1
set_option maxHeartbeats 1000000 in
theorem vc138_15 {xs : List Int32} {mo : Nat} {ad : Nat → Nat} (hD : md_D mo ad) {h0 : am_H} {d : Nat} {Q : Option Value → md_S → Prop} {M : md_S} {x1 : Int32} {x2 : Int32}
    (k1 : ((M.1 46) ≤ x2) → Q none M)
    (b2 : ¬ ((M.1 46) ≤ x2) → vp_in x2 60)
    (k3 : ¬ ((M.1 46) ≤ x2) → ¬ (f_isFloatAt M x2 x1) = 0 → ¬ (M.2 51 x2.toNatClampNeg) = 1 → md_wp xs mo ad h0 (d + 1) Q I138 15 [some (.ref mo), some (.int x1), some (.int (x2 + 1))] [] (md_up1 M 39 (f_less (M.1 39) (M.2 47 x2.toNatClampNeg))))
    (k4 : ¬ ((M.1 46) ≤ x2) → ¬ (f_isFloatAt M x2 x1) = 0 → ¬ (¬ (M.2 51 x2.toNatClampNeg) = 1) → md_wp xs mo ad h0 (d + 1) Q I138 15 [some (.ref mo), some (.int x1), some (.int (x2 + 1))] [] (md_up1 M 38 (f_more (M.1 38) (M.2 48 x2.toNatClampNeg))))
    (k5 : ¬ ((M.1 46) ≤ x2) → ¬ (¬ (f_isFloatAt M x2 x1) = 0) → md_wp xs mo ad h0 (d + 1) Q I138 15 [some (.ref mo), some (.int x1), some (.int (x2 + 1))] [] M) :
    md_wp xs mo ad h0 (d + 1) Q I138 15 [some (.ref mo), some (.int x1), some (.int x2)] [] M := by
  refine md_iload_n (dd D138_ok 9 rfl) rfl ?_
  refine md_aload0 (dd D138_ok 10 rfl) rfl ?_
  refine md_getI (dd D138_ok 11 rfl) pl9_244 (by decide) rfl ?_
  refine md_icmp_ge (tgt := 88) (dd D138_ok 12 rfl) (by decide) (fun c1 => ?_) (fun c1 => ?_)
  · exact md_vret (dd D138_ok 46 rfl) rfl (k1 c1)
  · refine md_aload0 (dd D138_ok 13 rfl) rfl ?_
    refine md_iload_n (dd D138_ok 14 rfl) rfl ?_
    refine md_iload_n (dd D138_ok 15 rfl) rfl ?_
    refine md_callI (as := [.int x2, .int x1]) (rest := []) (dd D138_ok 16 rfl) pl9_247 rfl (Nat.le_of_ble_eq_true rfl) (ms139 xs) rfl (c_f_isFloatAt hD (b2 c1)) rfl ?_
    refine md_if_ne (tgt := 35) (dd D138_ok 17 rfl) (by decide) (fun c2 => ?_) (fun c2 => ?_)
    · refine md_aload0 (dd D138_ok 19 rfl) rfl ?_
      refine md_getA (dd D138_ok 20 rfl) pl9_133 (by decide) rfl ?_
      refine md_iload_n (dd D138_ok 21 rfl) rfl ?_
      refine md_iald (f := 51) (dd D138_ok 22 rfl) rfl (b2 c1) ?_
      refine md_iconst (v := 1) (dd D138_ok 23 rfl) (by decide) ?_
      refine md_icmp_ne (tgt := 65) (dd D138_ok 24 rfl) (by decide) (fun c3 => ?_) (fun c3 => ?_)
      · refine md_aload0 (dd D138_ok 35 rfl) rfl ?_
        refine md_aload0 (dd D138_ok 36 rfl) rfl ?_
        refine md_getI (dd D138_ok 37 rfl) pl9_241 (by decide) rfl ?_
        refine md_aload0 (dd D138_ok 38 rfl) rfl ?_
        refine md_getA (dd D138_ok 39 rfl) pl9_121 (by decide) rfl ?_
        refine md_iload_n (dd D138_ok 40 rfl) rfl ?_
        refine md_iald (f := 47) (dd D138_ok 41 rfl) rfl (b2 c1) ?_
        refine md_callS (as := [.int (M.1 39), .int (M.2 47 x2.toNatClampNeg)]) (rest := [.ref mo]) (dd D138_ok 42 rfl) pl9_214 rfl (Nat.le_of_ble_eq_true rfl) (c_f_less ) rfl ?_
        refine md_putI hD (dd D138_ok 43 rfl) pl9_241 (by decide) rfl rfl rfl ?_
        refine md_iinc (v := x2 + 1) (dd D138_ok 44 rfl) rfl rfl ?_
        refine md_goto (tgt := 15) (dd D138_ok 45 rfl) (by decide) ?_
        exact (k3 c1 c2 c3)
      · refine md_aload0 (dd D138_ok 25 rfl) rfl ?_
        refine md_aload0 (dd D138_ok 26 rfl) rfl ?_
        refine md_getI (dd D138_ok 27 rfl) pl9_235 (by decide) rfl ?_
        refine md_aload0 (dd D138_ok 28 rfl) rfl ?_
        refine md_getA (dd D138_ok 29 rfl) pl9_124 (by decide) rfl ?_
        refine md_iload_n (dd D138_ok 30 rfl) rfl ?_
        refine md_iald (f := 48) (dd D138_ok 31 rfl) rfl (b2 c1) ?_
        refine md_callS (as := [.int (M.1 38), .int (M.2 48 x2.toNatClampNeg)]) (rest := [.ref mo]) (dd D138_ok 32 rfl) pl9_175 rfl (Nat.le_of_ble_eq_true rfl) (c_f_more ) rfl ?_
        refine md_putI hD (dd D138_ok 33 rfl) pl9_235 (by decide) rfl rfl rfl ?_
        refine md_goto (tgt := 82) (dd D138_ok 34 rfl) (by decide) ?_
        refine md_iinc (v := x2 + 1) (dd D138_ok 44 rfl) rfl rfl ?_
        refine md_goto (tgt := 15) (dd D138_ok 45 rfl) (by decide) ?_
        exact (k4 c1 c2 c3)
    · refine md_goto (tgt := 82) (dd D138_ok 18 rfl) (by decide) ?_
      refine md_iinc (v := x2 + 1) (dd D138_ok 44 rfl) rfl rfl ?_
      refine md_goto (tgt := 15) (dd D138_ok 45 rfl) (by decide) ?_
      exact (k5 c1 c2)
set_option maxHeartbeats 1000000 in
theorem vc140_0 {xs : List Int32} {mo : Nat} {ad : Nat → Nat} (hD : md_D mo ad) {h0 : am_H} {d : Nat} {Q : Option Value → md_S → Prop} {M : md_S} {x1 : Int32}
    (k1 : md_wp xs mo ad h0 (d + 1) Q I140 4 [some (.ref mo), some (.int x1), some (.int (-1)), some (.int 0)] [] M) :
    md_wp xs mo ad h0 (d + 1) Q I140 0 [some (.ref mo), some (.int x1), none, none] [] M := by
  refine md_iconst (v := (-1)) (dd D140_ok 0 rfl) (by decide) ?_
  refine md_istore_n (dd D140_ok 1 rfl) (Nat.le_of_ble_eq_true rfl) ?_
  refine md_iconst (v := 0) (dd D140_ok 2 rfl) (by decide) ?_
  refine md_istore_n (dd D140_ok 3 rfl) (Nat.le_of_ble_eq_true rfl) ?_
  exact k1
set_option maxHeartbeats 1000000 in
theorem vc140_4 {xs : List Int32} {mo : Nat} {ad : Nat → Nat} (hD : md_D mo ad) {h0 : am_H} {d : Nat} {Q : Option Value → md_S → Prop} {M : md_S} {x1 : Int32} {x2 : Int32} {x3 : Int32}
    (k1 : ((M.1 46) ≤ x3) → Q (some (.int x2)) M)
    (b2 : ¬ ((M.1 46) ≤ x3) → vp_in x3 60)
    (k3 : ¬ ((M.1 46) ≤ x3) → ((f_isFloatAt M x3 x1) = 0) → md_wp xs mo ad h0 (d + 1) Q I140 4 [some (.ref mo), some (.int x1), some (.int x2), some (.int (x3 + 1))] [] M)
    (k4 : ¬ ((M.1 46) ≤ x3) → ¬ ((f_isFloatAt M x3 x1) = 0) → (x2 = (-1)) → md_wp xs mo ad h0 (d + 1) Q I140 4 [some (.ref mo), some (.int x1), some (.int (M.2 50 x3.toNatClampNeg)), some (.int (x3 + 1))] [] M)
    (k5 : ¬ ((M.1 46) ≤ x3) → ¬ ((f_isFloatAt M x3 x1) = 0) → ¬ (x2 = (-1)) → (x2 ≤ (M.2 50 x3.toNatClampNeg)) → md_wp xs mo ad h0 (d + 1) Q I140 4 [some (.ref mo), some (.int x1), some (.int x2), some (.int (x3 + 1))] [] M)
    (k6 : ¬ ((M.1 46) ≤ x3) → ¬ ((f_isFloatAt M x3 x1) = 0) → ¬ (x2 = (-1)) → ¬ (x2 ≤ (M.2 50 x3.toNatClampNeg)) → md_wp xs mo ad h0 (d + 1) Q I140 4 [some (.ref mo), some (.int x1), some (.int (M.2 50 x3.toNatClampNeg)), some (.int (x3 + 1))] [] M) :
    md_wp xs mo ad h0 (d + 1) Q I140 4 [some (.ref mo), some (.int x1), some (.int x2), some (.int x3)] [] M := by
  refine md_iload_n (dd D140_ok 4 rfl) rfl ?_
  refine md_aload0 (dd D140_ok 5 rfl) rfl ?_
  refine md_getI (dd D140_ok 6 rfl) pl9_244 (by decide) rfl ?_
  refine md_icmp_ge (tgt := 49) (dd D140_ok 7 rfl) (by decide) (fun c1 => ?_) (fun c1 => ?_)
  · refine md_iload_n (dd D140_ok 29 rfl) rfl ?_
    exact md_iret (dd D140_ok 30 rfl) rfl (k1 c1)
  · refine md_aload0 (dd D140_ok 8 rfl) rfl ?_
    refine md_iload_n (dd D140_ok 9 rfl) rfl ?_
    refine md_iload_n (dd D140_ok 10 rfl) rfl ?_
    refine md_callI (as := [.int x3, .int x1]) (rest := []) (dd D140_ok 11 rfl) pl9_247 rfl (Nat.le_of_ble_eq_true rfl) (ms139 xs) rfl (c_f_isFloatAt hD (b2 c1)) rfl ?_
    refine md_if_eq (tgt := 43) (dd D140_ok 12 rfl) (by decide) (fun c2 => ?_) (fun c2 => ?_)
    · refine md_iinc (v := x3 + 1) (dd D140_ok 27 rfl) rfl rfl ?_
      refine md_goto (tgt := 4) (dd D140_ok 28 rfl) (by decide) ?_
      exact (k3 c1 c2)
    · refine md_iload_n (dd D140_ok 13 rfl) rfl ?_
      refine md_iconst (v := (-1)) (dd D140_ok 14 rfl) (by decide) ?_
      refine md_icmp_eq (tgt := 36) (dd D140_ok 15 rfl) (by decide) (fun c3 => ?_) (fun c3 => ?_)
      · refine md_aload0 (dd D140_ok 22 rfl) rfl ?_
        refine md_getA (dd D140_ok 23 rfl) pl9_130 (by decide) rfl ?_
        refine md_iload_n (dd D140_ok 24 rfl) rfl ?_
        refine md_iald (f := 50) (dd D140_ok 25 rfl) rfl (b2 c1) ?_
        refine md_istore_n (dd D140_ok 26 rfl) (Nat.le_of_ble_eq_true rfl) ?_
        refine md_iinc (v := x3 + 1) (dd D140_ok 27 rfl) rfl rfl ?_
        refine md_goto (tgt := 4) (dd D140_ok 28 rfl) (by decide) ?_
        exact (k4 c1 c2 c3)
      · refine md_aload0 (dd D140_ok 16 rfl) rfl ?_
        refine md_getA (dd D140_ok 17 rfl) pl9_130 (by decide) rfl ?_
        refine md_iload_n (dd D140_ok 18 rfl) rfl ?_
        refine md_iald (f := 50) (dd D140_ok 19 rfl) rfl (b2 c1) ?_
        refine md_iload_n (dd D140_ok 20 rfl) rfl ?_
        refine md_icmp_ge (tgt := 43) (dd D140_ok 21 rfl) (by decide) (fun c4 => ?_) (fun c4 => ?_)
        · refine md_iinc (v := x3 + 1) (dd D140_ok 27 rfl) rfl rfl ?_
          refine md_goto (tgt := 4) (dd D140_ok 28 rfl) (by decide) ?_
          exact (k5 c1 c2 c3 c4)
        · refine md_aload0 (dd D140_ok 22 rfl) rfl ?_
          refine md_getA (dd D140_ok 23 rfl) pl9_130 (by decide) rfl ?_
          refine md_iload_n (dd D140_ok 24 rfl) rfl ?_
          refine md_iald (f := 50) (dd D140_ok 25 rfl) rfl (b2 c1) ?_
          refine md_istore_n (dd D140_ok 26 rfl) (Nat.le_of_ble_eq_true rfl) ?_
          refine md_iinc (v := x3 + 1) (dd D140_ok 27 rfl) rfl rfl ?_
          refine md_goto (tgt := 4) (dd D140_ok 28 rfl) (by decide) ?_
          exact (k6 c1 c2 c3 c4)

theorem md_up1_same (M : md_S) (f : Nat) (a b : Int32) : md_up1 (md_up1 M f a) f b = md_up1 M f b := by
  unfold md_up1
  congr 1
  funext g
  by_cases h : g = f <;> simp [h]
theorem md_up1_comm (M : md_S) {f g : Nat} (hfg : f ≠ g) (a b : Int32) : md_up1 (md_up1 M f a) g b = md_up1 (md_up1 M g b) f a := by
  unfold md_up1
  congr 1
  funext k
  by_cases h1 : k = f
  · subst h1
    simp [hfg]
  · by_cases h2 : k = g
    · subst h2
      simp [Ne.symm hfg]
    · simp [h1, h2]
theorem md_up1_at (M : md_S) (f : Nat) (a : Int32) : (md_up1 M f a).1 f = a := by simp [md_up1]
theorem md_up1_ne (M : md_S) {f g : Nat} (h : g ≠ f) (a : Int32) : (md_up1 M f a).1 g = M.1 g := by simp [md_up1, h]
theorem md_up1_2 (M : md_S) (f : Nat) (a : Int32) : (md_up1 M f a).2 = M.2 := rfl
/-- a float of the block: left, right, top, end, side -/
abbrev sp_fl : Type := Int32 × Int32 × Int32 × Int32 × Int32
def sp_at (f : sp_fl) (y : Int32) : Prop := ¬ y < f.2.2.1 ∧ ¬ f.2.2.2.1 ≤ y
def sp_edge1 (y : Int32) (e : Int32 × Int32) (f : sp_fl) : Int32 × Int32 := if y < f.2.2.1 then e else if f.2.2.2.1 ≤ y then e else if ¬ f.2.2.2.2 = 1 then (e.1, f_less e.2 f.1) else (f_more e.1 f.2.1, e.2)
/-- the edges that are left at y -/
def sp_edges (w y : Int32) (fs : List sp_fl) : Int32 × Int32 := fs.foldl (sp_edge1 y) (0, w)
def sp_least1 (y : Int32) (l : Int32) (f : sp_fl) : Int32 := if y < f.2.2.1 then l else if f.2.2.2.1 ≤ y then l else if l = (-1) then f.2.2.2.1 else if l ≤ f.2.2.2.1 then l else f.2.2.2.1
/-- the least end of those at y, -1 if there is none -/
def sp_least (y : Int32) (fs : List sp_fl) : Int32 := fs.foldl (sp_least1 y) (-1)
def md_flt (M : md_S) (i : Nat) : sp_fl := (M.2 47 i, M.2 48 i, M.2 49 i, M.2 50 i, M.2 51 i)
def md_flts (M : md_S) (n : Nat) : List sp_fl := (List.range n).map (md_flt M)
theorem md_flts_drop {M : md_S} {n i : Nat} (h : i < n) : (md_flts M n).drop i = md_flt M i :: (md_flts M n).drop (i + 1) := by
  rw [List.drop_eq_getElem_cons (by simpa [md_flts] using h)]
  simp [md_flts]
theorem md_flts_end {M : md_S} {n i : Nat} (h : n ≤ i) : (md_flts M n).drop i = [] := by
  apply List.drop_eq_nil_of_le
  simpa [md_flts] using h
/-- edgesAt's loop, from float i on -/
theorem md_edgesAt_loop {xs : List Int32} {mo : Nat} {ad : Nat → Nat} (hD : md_D mo ad) {h0 : am_H} {d : Nat} {Q : Option Value → md_S → Prop} {M : md_S} {y : Int32} {n : Nat} (hn : n ≤ 60) (hf : M.1 46 = nI n) :
    ∀ (k i : Nat) (e : Int32 × Int32), n ≤ i + k → i ≤ n → Q none (md_up1 (md_up1 M 38 (((md_flts M n).drop i).foldl (sp_edge1 y) e).1) 39 (((md_flts M n).drop i).foldl (sp_edge1 y) e).2) →
      md_wp xs mo ad h0 (d + 1) Q I138 15 [some (.ref mo), some (.int y), some (.int (nI i))] [] (md_up1 (md_up1 M 38 e.1) 39 e.2) := by
  intro k
  induction k with
  | zero =>
    intro i e h1 h2 hQ
    rw [md_flts_end (by omega)] at hQ
    have hi : ∀ x, (md_up1 (md_up1 M 38 e.1) 39 e.2).1 46 ≤ nI i ∨ x := fun x => Or.inl (by rw [md_up1_ne _ (by decide), md_up1_ne _ (by decide), hf]; exact nI_le (by omega) (by omega))
    have hc : (md_up1 (md_up1 M 38 e.1) 39 e.2).1 46 ≤ nI i := (hi False).resolve_right id
    exact vc138_15 hD (fun _ => hQ) (fun q => absurd hc q) (fun q => absurd hc q) (fun q => absurd hc q) (fun q => absurd hc q)
  | succ k ih =>
    intro i e h1 h2 hQ
    have h46 : (md_up1 (md_up1 M 38 e.1) 39 e.2).1 46 = nI n := by rw [md_up1_ne _ (by decide), md_up1_ne _ (by decide), hf]
    rcases Nat.lt_or_ge i n with hi | hi
    · have hcl : (nI i).toNatClampNeg = i := nI_clamp (by omega)
      have hnc : ¬ (md_up1 (md_up1 M 38 e.1) 39 e.2).1 46 ≤ nI i := by rw [h46]; exact nI_ge hi (by omega)
      have hstep := fun e' => ih (i + 1) e' (by omega) (by omega)
      rw [md_flts_drop hi, List.foldl_cons] at hQ
      have ef : f_isFloatAt (md_up1 (md_up1 M 38 e.1) 39 e.2) (nI i) y = if y < M.2 49 i then 0 else if M.2 50 i ≤ y then 0 else 1 := by
        unfold f_isFloatAt
        rw [hcl]
        rfl
      refine vc138_15 hD (fun q => absurd q hnc) (fun _ => vp_in_nI (by omega) (by decide)) (fun _ q1 q2 => ?_) (fun _ q1 q2 => ?_) (fun _ q1 => ?_)
      · rw [nI_1, md_up1_same]
        rw [ef] at q1
        rw [hcl] at q2
        have q2 : ¬ M.2 51 i = 1 := q2
        have := hstep (e.1, f_less e.2 (M.2 47 i)) (by
          have : sp_edge1 y e (md_flt M i) = (e.1, f_less e.2 (M.2 47 i)) := by
            unfold sp_edge1 md_flt
            split at q1
            · exact absurd rfl q1
            · next z1 =>
              split at q1
              · exact absurd rfl q1
              · next z2 => rw [if_neg z1, if_neg z2, if_pos q2]
          rw [this] at hQ
          exact hQ)
        rw [md_up1_at, hcl]
        exact this
      · rw [nI_1, md_up1_comm _ (by decide) , md_up1_same]
        rw [ef] at q1
        rw [hcl] at q2
        have q2 : ¬ ¬ M.2 51 i = 1 := q2
        have := hstep (f_more e.1 (M.2 48 i), e.2) (by
          have : sp_edge1 y e (md_flt M i) = (f_more e.1 (M.2 48 i), e.2) := by
            unfold sp_edge1 md_flt
            split at q1
            · exact absurd rfl q1
            · next z1 =>
              split at q1
              · exact absurd rfl q1
              · next z2 => rw [if_neg z1, if_neg z2, if_neg q2]
          rw [this] at hQ
          exact hQ)
        rw [md_up1_ne _ (by decide), md_up1_at, hcl]
        exact this
      · rw [nI_1]
        rw [ef] at q1
        refine hstep e ?_
        have : sp_edge1 y e (md_flt M i) = e := by
          unfold sp_edge1 md_flt
          by_cases z1 : y < M.2 49 i
          · rw [if_pos z1]
          · by_cases z2 : M.2 50 i ≤ y
            · rw [if_neg z1, if_pos z2]
            · rw [if_neg z1, if_neg z2] at q1
              exact absurd (by decide) q1
        rw [this] at hQ
        exact hQ
    · have hi' : i = n := by omega
      subst hi'
      rw [md_flts_end (Nat.le_refl _)] at hQ
      have hc : (md_up1 (md_up1 M 38 e.1) 39 e.2).1 46 ≤ nI i := by rw [h46]; exact nI_le (Nat.le_refl _) (by omega)
      exact vc138_15 hD (fun _ => hQ) (fun q => absurd hc q) (fun q => absurd hc q) (fun q => absurd hc q) (fun q => absurd hc q)
def f_edgesAt_M (M : md_S) (y : Int32) : md_S := md_up1 (md_up1 M 38 (sp_edges (M.1 55) y (md_flts M (M.1 46).toNatClampNeg)).1) 39 (sp_edges (M.1 55) y (md_flts M (M.1 46).toNatClampNeg)).2
theorem c_f_edgesAt {xs : List Int32} {mo : Nat} {ad : Nat → Nat} {d : Nat} {M : md_S} {a : Int32} (hD : md_D mo ad) (hn : vp_in (M.1 46) 61) : ∀ Q', Q' none (f_edgesAt_M M a) → md_C xs mo ad (d + 2) 138 [.int a] M Q' := by
  intro Q' hQ
  obtain ⟨n, h1, h2⟩ := vp_in_of hn (by decide)
  refine md_intro (ms138 xs) (Nat.le_of_ble_eq_true rfl) (fun h0 => vc138_0 hD ?_)
  rw [md_up1_ne _ (by decide)]
  refine md_edgesAt_loop hD (by omega) h2 n 0 (0, M.1 55) (by omega) (Nat.zero_le _) ?_
  unfold f_edgesAt_M sp_edges at hQ
  rw [h2, nI_clamp (by omega)] at hQ
  exact hQ
/-- leastEnd's loop, from float i on -/
theorem md_least_loop {xs : List Int32} {mo : Nat} {ad : Nat → Nat} (hD : md_D mo ad) {h0 : am_H} {d : Nat} {Q : Option Value → md_S → Prop} {M : md_S} {y : Int32} {n : Nat} (hn : n ≤ 60) (hf : M.1 46 = nI n) :
    ∀ (k i : Nat) (e : Int32), n ≤ i + k → i ≤ n → Q (some (.int (((md_flts M n).drop i).foldl (sp_least1 y) e))) M →
      md_wp xs mo ad h0 (d + 1) Q I140 4 [some (.ref mo), some (.int y), some (.int e), some (.int (nI i))] [] M := by
  intro k
  induction k with
  | zero =>
    intro i e h1 h2 hQ
    rw [md_flts_end (by omega)] at hQ
    have hc : M.1 46 ≤ nI i := by rw [hf]; exact nI_le (by omega) (by omega)
    exact vc140_4 hD (fun _ => hQ) (fun q => absurd hc q) (fun q => absurd hc q) (fun q => absurd hc q) (fun q => absurd hc q) (fun q => absurd hc q)
  | succ k ih =>
    intro i e h1 h2 hQ
    rcases Nat.lt_or_ge i n with hi | hi
    · have hcl : (nI i).toNatClampNeg = i := nI_clamp (by omega)
      have hnc : ¬ M.1 46 ≤ nI i := by rw [hf]; exact nI_ge hi (by omega)
      have hstep := fun e' => ih (i + 1) e' (by omega) (by omega)
      rw [md_flts_drop hi, List.foldl_cons] at hQ
      have ef : f_isFloatAt M (nI i) y = if y < M.2 49 i then 0 else if M.2 50 i ≤ y then 0 else 1 := by
        unfold f_isFloatAt
        rw [hcl]
      have key : ¬ f_isFloatAt M (nI i) y = 0 → ¬ y < M.2 49 i ∧ ¬ M.2 50 i ≤ y := by
        intro q
        rw [ef] at q
        by_cases z1 : y < M.2 49 i
        · rw [if_pos z1] at q; exact absurd rfl q
        · by_cases z2 : M.2 50 i ≤ y
          · rw [if_neg z1, if_pos z2] at q; exact absurd rfl q
          · exact ⟨z1, z2⟩
      refine vc140_4 hD (fun q => absurd q hnc) (fun _ => vp_in_nI (by omega) (by decide)) (fun _ q1 => ?_) (fun _ q1 q2 => ?_) (fun _ q1 q2 q3 => ?_) (fun _ q1 q2 q3 => ?_)
      · rw [nI_1]
        refine hstep e ?_
        have : sp_least1 y e (md_flt M i) = e := by
          unfold sp_least1 md_flt
          rw [ef] at q1
          by_cases z1 : y < M.2 49 i
          · rw [if_pos z1]
          · by_cases z2 : M.2 50 i ≤ y
            · rw [if_neg z1, if_pos z2]
            · rw [if_neg z1, if_neg z2] at q1
              exact absurd q1 (by decide)
        rw [this] at hQ
        exact hQ
      · rw [nI_1, hcl]
        refine hstep _ ?_
        have : sp_least1 y e (md_flt M i) = M.2 50 i := by
          obtain ⟨z1, z2⟩ := key q1
          unfold sp_least1 md_flt
          rw [if_neg z1, if_neg z2, if_pos q2]
        rw [this] at hQ
        exact hQ
      · rw [nI_1]
        refine hstep _ ?_
        rw [hcl] at q3
        have : sp_least1 y e (md_flt M i) = e := by
          obtain ⟨z1, z2⟩ := key q1
          unfold sp_least1 md_flt
          rw [if_neg z1, if_neg z2, if_neg q2, if_pos q3]
        rw [this] at hQ
        exact hQ
      · rw [nI_1, hcl]
        refine hstep _ ?_
        rw [hcl] at q3
        have : sp_least1 y e (md_flt M i) = M.2 50 i := by
          obtain ⟨z1, z2⟩ := key q1
          unfold sp_least1 md_flt
          rw [if_neg z1, if_neg z2, if_neg q2, if_neg q3]
        rw [this] at hQ
        exact hQ
    · have hi' : i = n := by omega
      subst hi'
      rw [md_flts_end (Nat.le_refl _)] at hQ
      have hc : M.1 46 ≤ nI i := by rw [hf]; exact nI_le (Nat.le_refl _) (by omega)
      exact vc140_4 hD (fun _ => hQ) (fun q => absurd hc q) (fun q => absurd hc q) (fun q => absurd hc q) (fun q => absurd hc q) (fun q => absurd hc q)
def f_leastEnd (M : md_S) (y : Int32) : Int32 := sp_least y (md_flts M (M.1 46).toNatClampNeg)
theorem c_f_leastEnd {xs : List Int32} {mo : Nat} {ad : Nat → Nat} {d : Nat} {M : md_S} {a : Int32} (hD : md_D mo ad) (hn : vp_in (M.1 46) 61) : ∀ Q', Q' (some (.int (f_leastEnd M a))) M → md_C xs mo ad (d + 2) 140 [.int a] M Q' := by
  intro Q' hQ
  obtain ⟨n, h1, h2⟩ := vp_in_of hn (by decide)
  refine md_intro (ms140 xs) (Nat.le_of_ble_eq_true rfl) (fun h0 => vc140_0 hD ?_)
  refine md_least_loop hD (by omega) h2 n 0 (-1) (by omega) (Nat.zero_le _) ?_
  unfold f_leastEnd sp_least at hQ
  rw [h2, nI_clamp (by omega)] at hQ
  exact hQ
end
section
/-! the reference: the tree's links; behind, after (by program and hand: wip/whole/gen/m6.py) -/
theorem md_up2_ne (M : md_S) {f g : Nat} (h : g ≠ f) (i : Nat) (v : Int32) : (md_up2 M f i v).2 g = M.2 g := by
  funext j
  simp [md_up2, h]
theorem md_up2_1 (M : md_S) (f i : Nat) (v : Int32) : (md_up2 M f i v).1 = M.1 := rfl
theorem md_up2_at (M : md_S) (f i : Nat) (v : Int32) : (md_up2 M f i v).2 f i = v := by simp [md_up2]
theorem md_up2_off (M : md_S) (f : Nat) {i j : Nat} (h : j ≠ i) (v : Int32) : (md_up2 M f i v).2 f j = M.2 f j := by simp [md_up2, h]
theorem vp_nI {n N : Nat} (h : n < N) (hN : N ≤ 10000) : vp_in (nI n) N := vp_in_nI h (by omega)
theorem nI_ne_m1 {n : Nat} (h : n < 2 ^ 31) : ¬ nI n = -1 := by
  intro e
  have := congrArg Int32.toInt e
  rw [nI_toInt h] at this
  have e2 : (-1 : Int32).toInt = -1 := by decide
  rw [e2] at this
  omega
/-! a forest by first child and next sibling: .branch i kids siblings -/
abbrev bt : Type := Lean.RArray Unit
def bt_hd (b : Int32) : bt → Int32
  | .leaf _ => b
  | .branch i _ _ => nI i
def bt_pre : bt → List Nat
  | .leaf _ => []
  | .branch i k s => i :: (bt_pre k ++ bt_pre s)
/-- the links pa, fk, nx hold this forest below p -/
def bt_R (pa fk nx : Nat → Int32) (p : Int32) : bt → Prop
  | .leaf _ => True
  | .branch i k s => i < 60 ∧ pa i = p ∧ fk i = bt_hd (-1) k ∧ nx i = bt_hd (-1) s ∧ bt_R pa fk nx (nI i) k ∧ bt_R pa fk nx p s
theorem bt_R_mem {pa fk nx : Nat → Int32} : ∀ {t : bt} {p : Int32}, bt_R pa fk nx p t → ∀ i ∈ bt_pre t, i < 60 := by
  intro t
  induction t with
  | leaf u =>
    intro p _ i hi
    cases hi
  | branch j k s ihk ihs =>
    intro p h i hi
    obtain ⟨h1, _, _, _, h5, h6⟩ := h
    simp only [bt_pre, List.mem_cons, List.mem_append] at hi
    rcases hi with rfl | hi | hi
    · exact h1
    · exact ihk h5 i hi
    · exact ihs h6 i hi
theorem bt_hd_m1 {pa fk nx : Nat → Int32} {t : bt} {p : Int32} (h : bt_R pa fk nx p t) {b : Int32} : bt_hd b t = if bt_hd (-1) t = -1 then b else bt_hd (-1) t := by
  cases t with
  | leaf u => rw [if_pos (show bt_hd (-1) (.leaf u) = -1 from rfl)]; rfl
  | branch i k s =>
    have : i < 60 := h.1
    rw [if_neg (show ¬ bt_hd (-1) (.branch i k s) = -1 from nI_ne_m1 (by omega))]
    rfl
/-- climbing from k, the way behind it: r -/
def bh (pa nx : Nat → Int32) (tp : Int32) (k r : Int32) : Prop :=
  ∀ P : Int32 → Int32 → Prop, P tp (-1) → (∀ i, i < 60 → ¬ nI i = tp → ¬ nx i = -1 → P (nI i) (nx i)) → (∀ i r, i < 60 → ¬ nI i = tp → nx i = -1 → P (pa i) r → P (nI i) r) → P k r
theorem bh_top {pa nx : Nat → Int32} {tp : Int32} : bh pa nx tp tp (-1) := fun _ h _ _ => h
theorem bh_nx {pa nx : Nat → Int32} {tp : Int32} {i : Nat} (h1 : i < 60) (h2 : ¬ nI i = tp) (h3 : ¬ nx i = -1) : bh pa nx tp (nI i) (nx i) := fun _ _ h _ => h i h1 h2 h3
theorem bh_up {pa nx : Nat → Int32} {tp r : Int32} {i : Nat} (h1 : i < 60) (h2 : ¬ nI i = tp) (h3 : nx i = -1) (h4 : bh pa nx tp (pa i) r) : bh pa nx tp (nI i) r := fun P a b c => c i r h1 h2 h3 (h4 P a b c)
/-- in a forest with b behind it: what is behind its first -/
theorem bh_sib {pa fk nx : Nat → Int32} {tp b p : Int32} {i : Nat} {k s : bt} (hR : bt_R pa fk nx p (.branch i k s)) (hi : ¬ nI i = tp) (hb : bh pa nx tp p b) : bh pa nx tp (nI i) (bt_hd b s) := by
  obtain ⟨h1, h2, _, h4, _, h6⟩ := hR
  rw [bt_hd_m1 h6]
  by_cases hs : bt_hd (-1) s = -1
  · rw [if_pos hs]
    exact bh_up h1 hi (h4.trans hs) (by rw [h2]; exact hb)
  · rw [if_neg hs, ← h4]
    exact bh_nx h1 hi (by rw [h4]; exact hs)
set_option maxHeartbeats 1000000 in
theorem vc121_0 {xs : List Int32} {mo : Nat} {ad : Nat → Nat} (hD : md_D mo ad) {h0 : am_H} {d : Nat} {Q : Option Value → md_S → Prop} {M : md_S} {x1 : Int32} {x2 : Int32}
    (k : md_wp xs mo ad h0 d Q I121 2 [some (.ref mo), some (.int x1), some (.int x2), some (.int x1)] [] M) :
    md_wp xs mo ad h0 d Q I121 0 [some (.ref mo), some (.int x1), some (.int x2), none] [] M := by
  refine md_iload_n (dd D121_ok 0 rfl) rfl ?_
  refine md_istore_n (dd D121_ok 1 rfl) (Nat.le_of_ble_eq_true rfl) ?_
  exact k
set_option maxHeartbeats 1000000 in
theorem vc121_2 {xs : List Int32} {mo : Nat} {ad : Nat → Nat} (hD : md_D mo ad) {h0 : am_H} {d : Nat} {Q : Option Value → md_S → Prop} {M : md_S} {x1 : Int32} {x2 : Int32} {x3 : Int32}
    (k : ((x3 = x2) → ((¬ x3 = x2) → (vp_in x3 60) ∧ (Q (some (.int (M.2 7 x3.toNatClampNeg))) M)) ∧ (¬ (¬ x3 = x2) → Q (some (.int (-1))) M)) ∧ (¬ (x3 = x2) → (vp_in x3 60) ∧ (((¬ (M.2 7 x3.toNatClampNeg) = (-1)) → ((¬ x3 = x2) → Q (some (.int (M.2 7 x3.toNatClampNeg))) M) ∧ (¬ (¬ x3 = x2) → Q (some (.int (-1))) M)) ∧ (¬ (¬ (M.2 7 x3.toNatClampNeg) = (-1)) → md_wp xs mo ad h0 d Q I121 2 [some (.ref mo), some (.int x1), some (.int x2), some (.int (M.2 4 x3.toNatClampNeg))] [] M)))) :
    md_wp xs mo ad h0 d Q I121 2 [some (.ref mo), some (.int x1), some (.int x2), some (.int x3)] [] M := by
  refine md_iload_n (dd D121_ok 2 rfl) rfl ?_
  refine md_iload_n (dd D121_ok 3 rfl) rfl ?_
  refine md_icmp_eq (tgt := 27) (dd D121_ok 4 rfl) (by decide) (fun c1 => ?_) (fun c1 => ?_)
  · refine md_iload_n (dd D121_ok 17 rfl) rfl ?_
    refine md_iload_n (dd D121_ok 18 rfl) rfl ?_
    refine md_icmp_ne (tgt := 36) (dd D121_ok 19 rfl) (by decide) (fun c2 => ?_) (fun c2 => ?_)
    · refine md_aload0 (dd D121_ok 22 rfl) rfl ?_
      refine md_getA (dd D121_ok 23 rfl) pl9_30 (by decide) rfl ?_
      refine md_iload_n (dd D121_ok 24 rfl) rfl ?_
      refine md_iald (f := 7) (dd D121_ok 25 rfl) rfl ((k.1 c1).1 c2).1 ?_
      exact md_iret (dd D121_ok 26 rfl) rfl ((k.1 c1).1 c2).2
    · refine md_iconst (v := (-1)) (dd D121_ok 20 rfl) (by decide) ?_
      refine md_goto (tgt := 42) (dd D121_ok 21 rfl) (by decide) ?_
      exact md_iret (dd D121_ok 26 rfl) rfl ((k.1 c1).2 c2)
  · refine md_aload0 (dd D121_ok 5 rfl) rfl ?_
    refine md_getA (dd D121_ok 6 rfl) pl9_30 (by decide) rfl ?_
    refine md_iload_n (dd D121_ok 7 rfl) rfl ?_
    refine md_iald (f := 7) (dd D121_ok 8 rfl) rfl (k.2 c1).1 ?_
    refine md_iconst (v := (-1)) (dd D121_ok 9 rfl) (by decide) ?_
    refine md_icmp_ne (tgt := 27) (dd D121_ok 10 rfl) (by decide) (fun c3 => ?_) (fun c3 => ?_)
    · refine md_iload_n (dd D121_ok 17 rfl) rfl ?_
      refine md_iload_n (dd D121_ok 18 rfl) rfl ?_
      refine md_icmp_ne (tgt := 36) (dd D121_ok 19 rfl) (by decide) (fun c4 => ?_) (fun c4 => ?_)
      · refine md_aload0 (dd D121_ok 22 rfl) rfl ?_
        refine md_getA (dd D121_ok 23 rfl) pl9_30 (by decide) rfl ?_
        refine md_iload_n (dd D121_ok 24 rfl) rfl ?_
        refine md_iald (f := 7) (dd D121_ok 25 rfl) rfl (k.2 c1).1 ?_
        exact md_iret (dd D121_ok 26 rfl) rfl (((k.2 c1).2.1 c3).1 c4)
      · refine md_iconst (v := (-1)) (dd D121_ok 20 rfl) (by decide) ?_
        refine md_goto (tgt := 42) (dd D121_ok 21 rfl) (by decide) ?_
        exact md_iret (dd D121_ok 26 rfl) rfl (((k.2 c1).2.1 c3).2 c4)
    · refine md_aload0 (dd D121_ok 11 rfl) rfl ?_
      refine md_getA (dd D121_ok 12 rfl) pl9_21 (by decide) rfl ?_
      refine md_iload_n (dd D121_ok 13 rfl) rfl ?_
      refine md_iald (f := 4) (dd D121_ok 14 rfl) rfl (k.2 c1).1 ?_
      refine md_istore_n (dd D121_ok 15 rfl) (Nat.le_of_ble_eq_true rfl) ?_
      refine md_goto (tgt := 2) (dd D121_ok 16 rfl) (by decide) ?_
      exact ((k.2 c1).2.2 c3)
theorem c_behind {xs : List Int32} {mo : Nat} {ad : Nat → Nat} {d : Nat} {M : md_S} {k tp r : Int32} (hD : md_D mo ad) (hb : bh (M.2 4) (M.2 7) tp k r) : ∀ Q', Q' (some (.int r)) M → md_C xs mo ad (d + 1) 121 [.int k, .int tp] M Q' := by
  intro Q' hQ
  refine md_intro (ms121 xs) (Nat.le_of_ble_eq_true rfl) (fun h0 => vc121_0 hD ?_)
  refine hb (fun k r => ∀ x0 : Int32, Q' (some (.int r)) M → md_wp xs mo ad h0 d Q' I121 2 [some (.ref mo), some (.int x0), some (.int tp), some (.int k)] [] M) ?_ ?_ ?_ k hQ
  · intro x0 hQ
    exact vc121_2 hD ⟨fun _ => ⟨fun q => absurd rfl q, fun _ => hQ⟩, fun q => absurd rfl q⟩
  · intro i hi ht hn x0 hQ
    refine vc121_2 hD ⟨fun q => absurd q ht, fun _ => ⟨vp_nI hi (by decide), ?_⟩⟩
    rw [nI_clamp (by omega)]
    exact ⟨fun _ => ⟨fun _ => hQ, fun q => absurd ht q⟩, fun q => absurd hn q⟩
  · intro i r hi ht hn ih x0 hQ
    refine vc121_2 hD ⟨fun q => absurd q ht, fun _ => ⟨vp_nI hi (by decide), ?_⟩⟩
    rw [nI_clamp (by omega)]
    exact ⟨fun q => absurd hn q, fun _ => ih x0 hQ⟩
set_option maxHeartbeats 1000000 in
theorem vc120_0 {xs : List Int32} {mo : Nat} {ad : Nat → Nat} (hD : md_D mo ad) {h0 : am_H} {d : Nat} {Q : Option Value → md_S → Prop} {M : md_S} {x1 : Int32} {x2 : Int32}
    (k : (vp_in x1 60) ∧ ((((M.2 5 x1.toNatClampNeg) = (-1)) → md_C xs mo ad (d + 1) 121 [.int x1, .int x2] M (fun v N1 => ∃ y1, v = some (.int y1) ∧ (Q (some (.int y1)) N1))) ∧ (¬ ((M.2 5 x1.toNatClampNeg) = (-1)) → Q (some (.int (M.2 5 x1.toNatClampNeg))) M))) :
    md_wp xs mo ad h0 (d + 1) Q I120 0 [some (.ref mo), some (.int x1), some (.int x2)] [] M := by
  refine md_aload0 (dd D120_ok 0 rfl) rfl ?_
  refine md_getA (dd D120_ok 1 rfl) pl9_24 (by decide) rfl ?_
  refine md_iload_n (dd D120_ok 2 rfl) rfl ?_
  refine md_iald (f := 5) (dd D120_ok 3 rfl) rfl k.1 ?_
  refine md_iconst (v := (-1)) (dd D120_ok 4 rfl) (by decide) ?_
  refine md_icmp_eq (tgt := 19) (dd D120_ok 5 rfl) (by decide) (fun c1 => ?_) (fun c1 => ?_)
  · refine md_aload0 (dd D120_ok 11 rfl) rfl ?_
    refine md_iload_n (dd D120_ok 12 rfl) rfl ?_
    refine md_iload_n (dd D120_ok 13 rfl) rfl ?_
    refine md_call (as := [.int x1, .int x2]) (rest := []) (dd D120_ok 14 rfl) pl9_164 rfl (Nat.le_of_ble_eq_true rfl) (ms121 xs) rfl (((k.2.1 c1)).mono ?_) rfl
    rintro v N1 ⟨y1, rfl, w1⟩
    exact md_iret (dd D120_ok 15 rfl) rfl w1
  · refine md_aload0 (dd D120_ok 6 rfl) rfl ?_
    refine md_getA (dd D120_ok 7 rfl) pl9_24 (by decide) rfl ?_
    refine md_iload_n (dd D120_ok 8 rfl) rfl ?_
    refine md_iald (f := 5) (dd D120_ok 9 rfl) rfl k.1 ?_
    refine md_goto (tgt := 25) (dd D120_ok 10 rfl) (by decide) ?_
    exact md_iret (dd D120_ok 15 rfl) rfl (k.2.2 c1)
/-- after a node of the forest: into its children, or behind it -/
theorem c_after {xs : List Int32} {mo : Nat} {ad : Nat → Nat} {d : Nat} {M : md_S} {p b tp : Int32} {i : Nat} {k s : bt} (hD : md_D mo ad) (hR : bt_R (M.2 4) (M.2 5) (M.2 7) p (.branch i k s)) (hb : bh (M.2 4) (M.2 7) tp (nI i) b) : ∀ Q', Q' (some (.int (bt_hd b k))) M → md_C xs mo ad (d + 2) 120 [.int (nI i), .int tp] M Q' := by
  intro Q' hQ
  refine md_intro (ms120 xs) (Nat.le_of_ble_eq_true rfl) (fun h0 => vc120_0 hD ?_)
  obtain ⟨h1, _, h3, _, h5, _⟩ := hR
  refine ⟨vp_nI h1 (by decide), ?_⟩
  rw [nI_clamp (by omega), h3]
  rw [bt_hd_m1 h5] at hQ
  refine ⟨fun q => ?_, fun q => ?_⟩
  · rw [if_pos q] at hQ
    exact c_behind hD hb _ ⟨b, rfl, hQ⟩
  · rw [if_neg q] at hQ
    exact hQ
end
section
/-! the reference: feed, node, clear, text, set, box, word (by program and hand: wip/whole/gen/m7.py) -/
set_option maxHeartbeats 1000000 in
theorem vc108_0 {xs : List Int32} {mo : Nat} {ad : Nat → Nat} (hD : md_D mo ad) {h0 : am_H} {d : Nat} {Q : Option Value → md_S → Prop} {M : md_S} {x1 : Int32}
    (k : md_wp xs mo ad h0 d Q I108 3 [some (.ref mo), some (.int x1), some (.int 24)] [] M) :
    md_wp xs mo ad h0 d Q I108 0 [some (.ref mo), some (.int x1), none] [] M := by
  refine md_bipush (v := 24) (dd D108_ok 0 rfl) (by decide) ?_
  refine md_istore_n (dd D108_ok 1 rfl) (Nat.le_of_ble_eq_true rfl) ?_
  exact k
set_option maxHeartbeats 1000000 in
theorem vc108_3 {xs : List Int32} {mo : Nat} {ad : Nat → Nat} (hD : md_D mo ad) {h0 : am_H} {d : Nat} {Q : Option Value → md_S → Prop} {M : md_S} {x1 : Int32} {x2 : Int32}
    (k : ((x2 < 0) → Q none M) ∧ (¬ (x2 < 0) → (vp_in (M.1 1) 400) ∧ (md_wp xs mo ad h0 d Q I108 3 [some (.ref mo), some (.int x1), some (.int (x2 + (-8)))] [] (md_up1 (md_up2 M 0 (M.1 1).toNatClampNeg ((x1 >>> (x2 &&& 31)).toInt8.toInt32).toInt8.toInt32) 1 (((md_up2 M 0 (M.1 1).toNatClampNeg ((x1 >>> (x2 &&& 31)).toInt8.toInt32).toInt8.toInt32).1 1) + 1))))) :
    md_wp xs mo ad h0 d Q I108 3 [some (.ref mo), some (.int x1), some (.int x2)] [] M := by
  refine md_iload_n (dd D108_ok 2 rfl) rfl ?_
  refine md_if_lt (tgt := 36) (dd D108_ok 3 rfl) (by decide) (fun c1 => ?_) (fun c1 => ?_)
  · exact md_vret (dd D108_ok 21 rfl) rfl (k.1 c1)
  · refine md_aload0 (dd D108_ok 4 rfl) rfl ?_
    refine md_getA (dd D108_ok 5 rfl) pl9_7 (by decide) rfl ?_
    refine md_aload0 (dd D108_ok 6 rfl) rfl ?_
    refine md_getI (dd D108_ok 7 rfl) pl9_142 (by decide) rfl ?_
    refine md_iload_n (dd D108_ok 8 rfl) rfl ?_
    refine md_iload_n (dd D108_ok 9 rfl) rfl ?_
    refine md_ishr (dd D108_ok 10 rfl) ?_
    refine md_i2b (dd D108_ok 11 rfl) ?_
    refine md_bast (f := 0) hD (dd D108_ok 12 rfl) rfl (k.2 c1).1 ?_
    refine md_aload0 (dd D108_ok 13 rfl) rfl ?_
    refine md_dup (dd D108_ok 14 rfl) ?_
    refine md_getI (dd D108_ok 15 rfl) pl9_142 (by decide) rfl ?_
    refine md_iconst (v := 1) (dd D108_ok 16 rfl) (by decide) ?_
    refine md_iadd (dd D108_ok 17 rfl) ?_
    refine md_putI hD (dd D108_ok 18 rfl) pl9_142 (by decide) rfl rfl rfl ?_
    refine md_iinc (v := x2 + (-8)) (dd D108_ok 19 rfl) rfl rfl ?_
    refine md_goto (tgt := 3) (dd D108_ok 20 rfl) (by decide) ?_
    exact (k.2 c1).2
/-- one of four bytes -/
def f_byte (v k : Int32) : Int32 := ((v >>> (k &&& 31)).toInt8.toInt32).toInt8.toInt32
def f_pf1 (M : md_S) (t : Nat) (b : Int32) : md_S := md_up1 (md_up2 M 0 t b) 1 (nI (t + 1))
def f_pf (M : md_S) (t : Nat) (v : Int32) : md_S := f_pf1 (f_pf1 (f_pf1 (f_pf1 M t (f_byte v 24)) (t + 1) (f_byte v 16)) (t + 2) (f_byte v 8)) (t + 3) (f_byte v 0)
theorem c_pf1 {xs : List Int32} {mo : Nat} {ad : Nat → Nat} (hD : md_D mo ad) {h0 : am_H} {d : Nat} {Q : Option Value → md_S → Prop} {M : md_S} {v k k' : Int32} {t : Nat} (ht : M.1 1 = nI t) (h4 : t < 400) (hk : ¬ k < 0) (hk' : k + (-8) = k')
    (hn : (f_pf1 M t (f_byte v k)).1 1 = nI (t + 1) → md_wp xs mo ad h0 d Q I108 3 [some (.ref mo), some (.int v), some (.int k')] [] (f_pf1 M t (f_byte v k))) : md_wp xs mo ad h0 d Q I108 3 [some (.ref mo), some (.int v), some (.int k)] [] M := by
  have hn := hn (md_up1_at _ _ _)
  subst hk'
  refine vc108_3 hD ⟨fun q => absurd q hk, fun _ => ⟨by rw [ht]; exact vp_nI h4 (by decide), ?_⟩⟩
  rw [md_up2_1, ht, nI_clamp (by omega), nI_1]
  exact hn
theorem c_putFour {xs : List Int32} {mo : Nat} {ad : Nat → Nat} {d : Nat} {M : md_S} {v : Int32} {t : Nat} (hD : md_D mo ad) (ht : M.1 1 = nI t) (h4 : t + 4 ≤ 400) : ∀ Q', Q' none (f_pf M t v) → md_C xs mo ad (d + 1) 108 [.int v] M Q' := by
  intro Q' hQ
  refine md_intro (ms108 xs) (Nat.le_of_ble_eq_true rfl) (fun h0 => vc108_0 hD ?_)
  refine c_pf1 hD ht (by omega) (by decide) (show (24 : Int32) + (-8) = 16 by decide) (fun e => ?_)
  refine c_pf1 hD e (by omega) (by decide) (show (16 : Int32) + (-8) = 8 by decide) (fun e => ?_)
  refine c_pf1 hD e (by omega) (by decide) (show (8 : Int32) + (-8) = 0 by decide) (fun e => ?_)
  refine c_pf1 hD e (by omega) (by decide) (show (0 : Int32) + (-8) = -8 by decide) (fun e => ?_)
  exact vc108_3 hD ⟨fun _ => hQ, fun q => absurd (by decide) q⟩
theorem f_pf_t (M : md_S) (t : Nat) (v : Int32) : (f_pf M t v).1 1 = nI (t + 4) := md_up1_at _ _ _
set_option maxHeartbeats 1000000 in
theorem vc107_0 {xs : List Int32} {mo : Nat} {ad : Nat → Nat} (hD : md_D mo ad) {h0 : am_H} {d : Nat} {Q : Option Value → md_S → Prop} {M : md_S} {x1 : Int32} {x2 : Int32} {x3 : Int32} {x4 : Int32} {x5 : Int32}
    (k : ((((M.1 1) + 20) ≤ 400) → md_C xs mo ad (d + 1) 108 [.int x1] M (fun v N1 => v = none ∧ (md_C xs mo ad (d + 1) 108 [.int x2] N1 (fun v N2 => v = none ∧ (md_C xs mo ad (d + 1) 108 [.int x3] N2 (fun v N3 => v = none ∧ (md_C xs mo ad (d + 1) 108 [.int x4] N3 (fun v N4 => v = none ∧ (md_C xs mo ad (d + 1) 108 [.int x5] N4 (fun v N5 => v = none ∧ (Q (some (.int (N5.1 1))) N5))))))))))) ∧ (¬ (((M.1 1) + 20) ≤ 400) → Q (some (.int (-1))) M)) :
    md_wp xs mo ad h0 (d + 1) Q I107 0 [some (.ref mo), some (.int x1), some (.int x2), some (.int x3), some (.int x4), some (.int x5)] [] M := by
  refine md_aload0 (dd D107_ok 0 rfl) rfl ?_
  refine md_getI (dd D107_ok 1 rfl) pl9_142 (by decide) rfl ?_
  refine md_bipush (v := 20) (dd D107_ok 2 rfl) (by decide) ?_
  refine md_iadd (dd D107_ok 3 rfl) ?_
  refine md_sipush (v := 400) (dd D107_ok 4 rfl) (by decide) ?_
  refine md_icmp_le (tgt := 15) (dd D107_ok 5 rfl) (by decide) (fun c1 => ?_) (fun c1 => ?_)
  · refine md_aload0 (dd D107_ok 8 rfl) rfl ?_
    refine md_iload_n (dd D107_ok 9 rfl) rfl ?_
    refine md_call (as := [.int x1]) (rest := []) (dd D107_ok 10 rfl) pl9_145 rfl (Nat.le_of_ble_eq_true rfl) (ms108 xs) rfl (((k.1 c1)).mono ?_) rfl
    rintro v N1 ⟨rfl, w1⟩
    refine md_aload0 (dd D107_ok 11 rfl) rfl ?_
    refine md_iload_n (dd D107_ok 12 rfl) rfl ?_
    refine md_call (as := [.int x2]) (rest := []) (dd D107_ok 13 rfl) pl9_145 rfl (Nat.le_of_ble_eq_true rfl) (ms108 xs) rfl ((w1).mono ?_) rfl
    rintro v N2 ⟨rfl, w2⟩
    refine md_aload0 (dd D107_ok 14 rfl) rfl ?_
    refine md_iload_n (dd D107_ok 15 rfl) rfl ?_
    refine md_call (as := [.int x3]) (rest := []) (dd D107_ok 16 rfl) pl9_145 rfl (Nat.le_of_ble_eq_true rfl) (ms108 xs) rfl ((w2).mono ?_) rfl
    rintro v N3 ⟨rfl, w3⟩
    refine md_aload0 (dd D107_ok 17 rfl) rfl ?_
    refine md_iload (dd D107_ok 18 rfl) rfl ?_
    refine md_call (as := [.int x4]) (rest := []) (dd D107_ok 19 rfl) pl9_145 rfl (Nat.le_of_ble_eq_true rfl) (ms108 xs) rfl ((w3).mono ?_) rfl
    rintro v N4 ⟨rfl, w4⟩
    refine md_aload0 (dd D107_ok 20 rfl) rfl ?_
    refine md_iload (dd D107_ok 21 rfl) rfl ?_
    refine md_call (as := [.int x5]) (rest := []) (dd D107_ok 22 rfl) pl9_145 rfl (Nat.le_of_ble_eq_true rfl) (ms108 xs) rfl ((w4).mono ?_) rfl
    rintro v N5 ⟨rfl, w5⟩
    refine md_aload0 (dd D107_ok 23 rfl) rfl ?_
    refine md_getI (dd D107_ok 24 rfl) pl9_142 (by decide) rfl ?_
    exact md_iret (dd D107_ok 25 rfl) rfl w5
  · refine md_iconst (v := (-1)) (dd D107_ok 6 rfl) (by decide) ?_
    exact md_iret (dd D107_ok 7 rfl) rfl (k.2 c1)
def f_feed_M (M : md_S) (t : Nat) (a b c e f : Int32) : md_S := f_pf (f_pf (f_pf (f_pf (f_pf M t a) (t + 4) b) (t + 8) c) (t + 12) e) (t + 16) f
theorem c_feed {xs : List Int32} {mo : Nat} {ad : Nat → Nat} {d : Nat} {M : md_S} {a b c e f : Int32} {t : Nat} (hD : md_D mo ad) (ht : M.1 1 = nI t) (h4 : t ≤ 400) : ∀ Q', Q' (some (.int (if t ≤ 380 then nI (t + 20) else -1))) (if t ≤ 380 then f_feed_M M t a b c e f else M) → md_C xs mo ad (d + 2) 107 [.int a, .int b, .int c, .int e, .int f] M Q' := by
  intro Q' hQ
  refine md_intro (ms107 xs) (Nat.le_of_ble_eq_true rfl) (fun h0 => vc107_0 hD ?_)
  have hc : M.1 1 + 20 ≤ 400 ↔ t ≤ 380 := by
    rw [ht, show (20 : Int32) = nI 20 from rfl, show (400 : Int32) = nI 400 from rfl, nI_add, nI_leI (by omega) (by omega)]
    omega
  rw [hc]
  refine ⟨fun q => ?_, fun q => ?_⟩
  · rw [if_pos q, if_pos q] at hQ
    refine c_putFour hD ht (by omega) _ ⟨rfl, ?_⟩
    refine c_putFour hD (f_pf_t _ _ _) (by omega) _ ⟨rfl, ?_⟩
    refine c_putFour hD (f_pf_t _ _ _) (by omega) _ ⟨rfl, ?_⟩
    refine c_putFour hD (f_pf_t _ _ _) (by omega) _ ⟨rfl, ?_⟩
    refine c_putFour hD (f_pf_t _ _ _) (by omega) _ ⟨rfl, ?_⟩
    rw [f_pf_t]
    exact hQ
  · rw [if_neg q, if_neg q] at hQ
    exact hQ
set_option maxHeartbeats 1000000 in
theorem vc106_0 {xs : List Int32} {mo : Nat} {ad : Nat → Nat} (hD : md_D mo ad) {h0 : am_H} {d : Nat} {Q : Option Value → md_S → Prop} {M : md_S} {x1 : Int32} {x2 : Int32} {x3 : Int32}
    (k : (vp_in x1 60) ∧ (∀ M1 : md_S, M1 = md_up2 M 3 x1.toNatClampNeg x3 → (∀ M2 : md_S, M2 = md_up2 M1 4 x1.toNatClampNeg x2 → (∀ M3 : md_S, M3 = md_up2 M2 5 x1.toNatClampNeg (-1) → (∀ M4 : md_S, M4 = md_up2 M3 6 x1.toNatClampNeg (-1) → (∀ M5 : md_S, M5 = md_up2 M4 7 x1.toNatClampNeg (-1) → (((¬ x2 = (-1)) → (vp_in x2 60) ∧ (∀ M6 : md_S, M6 = md_up2 M5 8 x1.toNatClampNeg ((M5.2 8 x2.toNatClampNeg) + 1) → (∀ M7 : md_S, M7 = md_up2 M6 11 x1.toNatClampNeg 0 → (md_wp xs mo ad h0 d Q I106 68 [some (.ref mo), some (.int x1), some (.int x2), some (.int x3), some (.int 0)] [] M7)))) ∧ (¬ (¬ x2 = (-1)) → ∀ M8 : md_S, M8 = md_up2 M5 8 x1.toNatClampNeg 0 → (∀ M9 : md_S, M9 = md_up2 M8 11 x1.toNatClampNeg 0 → (md_wp xs mo ad h0 d Q I106 68 [some (.ref mo), some (.int x1), some (.int x2), some (.int x3), some (.int 0)] [] M9)))))))))) :
    md_wp xs mo ad h0 d Q I106 0 [some (.ref mo), some (.int x1), some (.int x2), some (.int x3), none] [] M := by
  refine md_aload0 (dd D106_ok 0 rfl) rfl ?_
  refine md_getA (dd D106_ok 1 rfl) pl9_17 (by decide) rfl ?_
  refine md_iload_n (dd D106_ok 2 rfl) rfl ?_
  refine md_iload_n (dd D106_ok 3 rfl) rfl ?_
  refine md_iast (f := 3) hD (dd D106_ok 4 rfl) rfl k.1 ?_
  refine md_nm (fun M1 e1 => ?_)
  refine md_aload0 (dd D106_ok 5 rfl) rfl ?_
  refine md_getA (dd D106_ok 6 rfl) pl9_21 (by decide) rfl ?_
  refine md_iload_n (dd D106_ok 7 rfl) rfl ?_
  refine md_iload_n (dd D106_ok 8 rfl) rfl ?_
  refine md_iast (f := 4) hD (dd D106_ok 9 rfl) rfl k.1 ?_
  refine md_nm (fun M2 e2 => ?_)
  refine md_aload0 (dd D106_ok 10 rfl) rfl ?_
  refine md_getA (dd D106_ok 11 rfl) pl9_24 (by decide) rfl ?_
  refine md_iload_n (dd D106_ok 12 rfl) rfl ?_
  refine md_iconst (v := (-1)) (dd D106_ok 13 rfl) (by decide) ?_
  refine md_iast (f := 5) hD (dd D106_ok 14 rfl) rfl k.1 ?_
  refine md_nm (fun M3 e3 => ?_)
  refine md_aload0 (dd D106_ok 15 rfl) rfl ?_
  refine md_getA (dd D106_ok 16 rfl) pl9_27 (by decide) rfl ?_
  refine md_iload_n (dd D106_ok 17 rfl) rfl ?_
  refine md_iconst (v := (-1)) (dd D106_ok 18 rfl) (by decide) ?_
  refine md_iast (f := 6) hD (dd D106_ok 19 rfl) rfl k.1 ?_
  refine md_nm (fun M4 e4 => ?_)
  refine md_aload0 (dd D106_ok 20 rfl) rfl ?_
  refine md_getA (dd D106_ok 21 rfl) pl9_30 (by decide) rfl ?_
  refine md_iload_n (dd D106_ok 22 rfl) rfl ?_
  refine md_iconst (v := (-1)) (dd D106_ok 23 rfl) (by decide) ?_
  refine md_iast (f := 7) hD (dd D106_ok 24 rfl) rfl k.1 ?_
  refine md_nm (fun M5 e5 => ?_)
  refine md_aload0 (dd D106_ok 25 rfl) rfl ?_
  refine md_getA (dd D106_ok 26 rfl) pl9_33 (by decide) rfl ?_
  refine md_iload_n (dd D106_ok 27 rfl) rfl ?_
  refine md_iload_n (dd D106_ok 28 rfl) rfl ?_
  refine md_iconst (v := (-1)) (dd D106_ok 29 rfl) (by decide) ?_
  refine md_icmp_ne (tgt := 49) (dd D106_ok 30 rfl) (by decide) (fun c1 => ?_) (fun c1 => ?_)
  · refine md_aload0 (dd D106_ok 33 rfl) rfl ?_
    refine md_getA (dd D106_ok 34 rfl) pl9_33 (by decide) rfl ?_
    refine md_iload_n (dd D106_ok 35 rfl) rfl ?_
    refine md_iald (f := 8) (dd D106_ok 36 rfl) rfl ((((((k.2 M1 e1) M2 e2) M3 e3) M4 e4) M5 e5).1 c1).1 ?_
    refine md_iconst (v := 1) (dd D106_ok 37 rfl) (by decide) ?_
    refine md_iadd (dd D106_ok 38 rfl) ?_
    refine md_iast (f := 8) hD (dd D106_ok 39 rfl) rfl k.1 ?_
    refine md_nm (fun M6 e6 => ?_)
    refine md_aload0 (dd D106_ok 40 rfl) rfl ?_
    refine md_getA (dd D106_ok 41 rfl) pl9_42 (by decide) rfl ?_
    refine md_iload_n (dd D106_ok 42 rfl) rfl ?_
    refine md_iconst (v := 0) (dd D106_ok 43 rfl) (by decide) ?_
    refine md_iast (f := 11) hD (dd D106_ok 44 rfl) rfl k.1 ?_
    refine md_nm (fun M7 e7 => ?_)
    refine md_iconst (v := 0) (dd D106_ok 45 rfl) (by decide) ?_
    refine md_istore (dd D106_ok 46 rfl) (Nat.le_of_ble_eq_true rfl) ?_
    exact ((((((((k.2 M1 e1) M2 e2) M3 e3) M4 e4) M5 e5).1 c1).2 M6 e6) M7 e7)
  · refine md_iconst (v := 0) (dd D106_ok 31 rfl) (by decide) ?_
    refine md_goto (tgt := 57) (dd D106_ok 32 rfl) (by decide) ?_
    refine md_iast (f := 8) hD (dd D106_ok 39 rfl) rfl k.1 ?_
    refine md_nm (fun M8 e8 => ?_)
    refine md_aload0 (dd D106_ok 40 rfl) rfl ?_
    refine md_getA (dd D106_ok 41 rfl) pl9_42 (by decide) rfl ?_
    refine md_iload_n (dd D106_ok 42 rfl) rfl ?_
    refine md_iconst (v := 0) (dd D106_ok 43 rfl) (by decide) ?_
    refine md_iast (f := 11) hD (dd D106_ok 44 rfl) rfl k.1 ?_
    refine md_nm (fun M9 e9 => ?_)
    refine md_iconst (v := 0) (dd D106_ok 45 rfl) (by decide) ?_
    refine md_istore (dd D106_ok 46 rfl) (Nat.le_of_ble_eq_true rfl) ?_
    exact ((((((((k.2 M1 e1) M2 e2) M3 e3) M4 e4) M5 e5).2 c1) M8 e8) M9 e9)
set_option maxHeartbeats 1000000 in
theorem vc106_68 {xs : List Int32} {mo : Nat} {ad : Nat → Nat} (hD : md_D mo ad) {h0 : am_H} {d : Nat} {Q : Option Value → md_S → Prop} {M : md_S} {x1 : Int32} {x2 : Int32} {x3 : Int32} {x4 : Int32}
    (k : ((9 ≤ x4) → ((¬ x3 = 0) → (vp_in (9 * x1) 540) ∧ (∀ M1 : md_S, M1 = md_up2 M 9 (9 * x1).toNatClampNeg 1 → ((vp_in ((9 * x1) + 2) 540) ∧ (∀ M2 : md_S, M2 = md_up2 M1 9 ((9 * x1) + 2).toNatClampNeg (-1) → ((vp_in ((9 * x1) + 3) 540) ∧ (∀ M3 : md_S, M3 = md_up2 M2 9 ((9 * x1) + 3).toNatClampNeg (-1) → ((vp_in ((9 * x1) + 8) 540) ∧ (∀ M4 : md_S, M4 = md_up2 M3 9 ((9 * x1) + 8).toNatClampNeg 1 → (((¬ x2 = (-1)) → (vp_in x2 60) ∧ (((¬ (M4.2 6 x2.toNatClampNeg) = (-1)) → (vp_in (M4.2 6 x2.toNatClampNeg) 60) ∧ (∀ M5 : md_S, M5 = md_up2 M4 7 (M4.2 6 x2.toNatClampNeg).toNatClampNeg x1 → (∀ M6 : md_S, M6 = md_up2 M5 6 x2.toNatClampNeg x1 → (Q none M6)))) ∧ (¬ (¬ (M4.2 6 x2.toNatClampNeg) = (-1)) → ∀ M7 : md_S, M7 = md_up2 M4 5 x2.toNatClampNeg x1 → (∀ M8 : md_S, M8 = md_up2 M7 6 x2.toNatClampNeg x1 → (Q none M8))))) ∧ (¬ (¬ x2 = (-1)) → Q none M4)))))))))) ∧ (¬ (¬ x3 = 0) → (vp_in (9 * x1) 540) ∧ (∀ M9 : md_S, M9 = md_up2 M 9 (9 * x1).toNatClampNeg 0 → ((vp_in ((9 * x1) + 2) 540) ∧ (∀ M10 : md_S, M10 = md_up2 M9 9 ((9 * x1) + 2).toNatClampNeg (-1) → ((vp_in ((9 * x1) + 3) 540) ∧ (∀ M11 : md_S, M11 = md_up2 M10 9 ((9 * x1) + 3).toNatClampNeg (-1) → ((vp_in ((9 * x1) + 8) 540) ∧ (∀ M12 : md_S, M12 = md_up2 M11 9 ((9 * x1) + 8).toNatClampNeg 1 → (((¬ x2 = (-1)) → (vp_in x2 60) ∧ (((¬ (M12.2 6 x2.toNatClampNeg) = (-1)) → (vp_in (M12.2 6 x2.toNatClampNeg) 60) ∧ (∀ M13 : md_S, M13 = md_up2 M12 7 (M12.2 6 x2.toNatClampNeg).toNatClampNeg x1 → (∀ M14 : md_S, M14 = md_up2 M13 6 x2.toNatClampNeg x1 → (Q none M14)))) ∧ (¬ (¬ (M12.2 6 x2.toNatClampNeg) = (-1)) → ∀ M15 : md_S, M15 = md_up2 M12 5 x2.toNatClampNeg x1 → (∀ M16 : md_S, M16 = md_up2 M15 6 x2.toNatClampNeg x1 → (Q none M16))))) ∧ (¬ (¬ x2 = (-1)) → Q none M12))))))))))) ∧ (¬ (9 ≤ x4) → (vp_in ((9 * x1) + x4) 540) ∧ (∀ M17 : md_S, M17 = md_up2 M 9 ((9 * x1) + x4).toNatClampNeg 0 → (md_wp xs mo ad h0 d Q I106 68 [some (.ref mo), some (.int x1), some (.int x2), some (.int x3), some (.int (x4 + 1))] [] M17)))) :
    md_wp xs mo ad h0 d Q I106 68 [some (.ref mo), some (.int x1), some (.int x2), some (.int x3), some (.int x4)] [] M := by
  refine md_iload (dd D106_ok 47 rfl) rfl ?_
  refine md_bipush (v := 9) (dd D106_ok 48 rfl) (by decide) ?_
  refine md_icmp_ge (tgt := 94) (dd D106_ok 49 rfl) (by decide) (fun c1 => ?_) (fun c1 => ?_)
  · refine md_aload0 (dd D106_ok 61 rfl) rfl ?_
    refine md_getA (dd D106_ok 62 rfl) pl9_36 (by decide) rfl ?_
    refine md_bipush (v := 9) (dd D106_ok 63 rfl) (by decide) ?_
    refine md_iload_n (dd D106_ok 64 rfl) rfl ?_
    refine md_imul (dd D106_ok 65 rfl) ?_
    refine md_iload_n (dd D106_ok 66 rfl) rfl ?_
    refine md_if_ne (tgt := 110) (dd D106_ok 67 rfl) (by decide) (fun c2 => ?_) (fun c2 => ?_)
    · refine md_iconst (v := 1) (dd D106_ok 70 rfl) (by decide) ?_
      refine md_iast (f := 9) hD (dd D106_ok 71 rfl) rfl ((k.1 c1).1 c2).1 ?_
      refine md_nm (fun M1 e1 => ?_)
      refine md_aload0 (dd D106_ok 72 rfl) rfl ?_
      refine md_getA (dd D106_ok 73 rfl) pl9_36 (by decide) rfl ?_
      refine md_bipush (v := 9) (dd D106_ok 74 rfl) (by decide) ?_
      refine md_iload_n (dd D106_ok 75 rfl) rfl ?_
      refine md_imul (dd D106_ok 76 rfl) ?_
      refine md_iconst (v := 2) (dd D106_ok 77 rfl) (by decide) ?_
      refine md_iadd (dd D106_ok 78 rfl) ?_
      refine md_iconst (v := (-1)) (dd D106_ok 79 rfl) (by decide) ?_
      refine md_iast (f := 9) hD (dd D106_ok 80 rfl) rfl (((k.1 c1).1 c2).2 M1 e1).1 ?_
      refine md_nm (fun M2 e2 => ?_)
      refine md_aload0 (dd D106_ok 81 rfl) rfl ?_
      refine md_getA (dd D106_ok 82 rfl) pl9_36 (by decide) rfl ?_
      refine md_bipush (v := 9) (dd D106_ok 83 rfl) (by decide) ?_
      refine md_iload_n (dd D106_ok 84 rfl) rfl ?_
      refine md_imul (dd D106_ok 85 rfl) ?_
      refine md_iconst (v := 3) (dd D106_ok 86 rfl) (by decide) ?_
      refine md_iadd (dd D106_ok 87 rfl) ?_
      refine md_iconst (v := (-1)) (dd D106_ok 88 rfl) (by decide) ?_
      refine md_iast (f := 9) hD (dd D106_ok 89 rfl) rfl ((((k.1 c1).1 c2).2 M1 e1).2 M2 e2).1 ?_
      refine md_nm (fun M3 e3 => ?_)
      refine md_aload0 (dd D106_ok 90 rfl) rfl ?_
      refine md_getA (dd D106_ok 91 rfl) pl9_36 (by decide) rfl ?_
      refine md_bipush (v := 9) (dd D106_ok 92 rfl) (by decide) ?_
      refine md_iload_n (dd D106_ok 93 rfl) rfl ?_
      refine md_imul (dd D106_ok 94 rfl) ?_
      refine md_bipush (v := 8) (dd D106_ok 95 rfl) (by decide) ?_
      refine md_iadd (dd D106_ok 96 rfl) ?_
      refine md_iconst (v := 1) (dd D106_ok 97 rfl) (by decide) ?_
      refine md_iast (f := 9) hD (dd D106_ok 98 rfl) rfl (((((k.1 c1).1 c2).2 M1 e1).2 M2 e2).2 M3 e3).1 ?_
      refine md_nm (fun M4 e4 => ?_)
      refine md_iload_n (dd D106_ok 99 rfl) rfl ?_
      refine md_iconst (v := (-1)) (dd D106_ok 100 rfl) (by decide) ?_
      refine md_icmp_ne (tgt := 155) (dd D106_ok 101 rfl) (by decide) (fun c3 => ?_) (fun c3 => ?_)
      · refine md_aload0 (dd D106_ok 103 rfl) rfl ?_
        refine md_getA (dd D106_ok 104 rfl) pl9_27 (by decide) rfl ?_
        refine md_iload_n (dd D106_ok 105 rfl) rfl ?_
        refine md_iald (f := 6) (dd D106_ok 106 rfl) rfl (((((((k.1 c1).1 c2).2 M1 e1).2 M2 e2).2 M3 e3).2 M4 e4).1 c3).1 ?_
        refine md_iconst (v := (-1)) (dd D106_ok 107 rfl) (by decide) ?_
        refine md_icmp_ne (tgt := 175) (dd D106_ok 108 rfl) (by decide) (fun c4 => ?_) (fun c4 => ?_)
        · refine md_aload0 (dd D106_ok 115 rfl) rfl ?_
          refine md_getA (dd D106_ok 116 rfl) pl9_30 (by decide) rfl ?_
          refine md_aload0 (dd D106_ok 117 rfl) rfl ?_
          refine md_getA (dd D106_ok 118 rfl) pl9_27 (by decide) rfl ?_
          refine md_iload_n (dd D106_ok 119 rfl) rfl ?_
          refine md_iald (f := 6) (dd D106_ok 120 rfl) rfl (((((((k.1 c1).1 c2).2 M1 e1).2 M2 e2).2 M3 e3).2 M4 e4).1 c3).1 ?_
          refine md_iload_n (dd D106_ok 121 rfl) rfl ?_
          refine md_iast (f := 7) hD (dd D106_ok 122 rfl) rfl ((((((((k.1 c1).1 c2).2 M1 e1).2 M2 e2).2 M3 e3).2 M4 e4).1 c3).2.1 c4).1 ?_
          refine md_nm (fun M5 e5 => ?_)
          refine md_aload0 (dd D106_ok 123 rfl) rfl ?_
          refine md_getA (dd D106_ok 124 rfl) pl9_27 (by decide) rfl ?_
          refine md_iload_n (dd D106_ok 125 rfl) rfl ?_
          refine md_iload_n (dd D106_ok 126 rfl) rfl ?_
          refine md_iast (f := 6) hD (dd D106_ok 127 rfl) rfl (((((((k.1 c1).1 c2).2 M1 e1).2 M2 e2).2 M3 e3).2 M4 e4).1 c3).1 ?_
          refine md_nm (fun M6 e6 => ?_)
          exact md_vret (dd D106_ok 128 rfl) rfl ((((((((((k.1 c1).1 c2).2 M1 e1).2 M2 e2).2 M3 e3).2 M4 e4).1 c3).2.1 c4).2 M5 e5) M6 e6)
        · refine md_aload0 (dd D106_ok 109 rfl) rfl ?_
          refine md_getA (dd D106_ok 110 rfl) pl9_24 (by decide) rfl ?_
          refine md_iload_n (dd D106_ok 111 rfl) rfl ?_
          refine md_iload_n (dd D106_ok 112 rfl) rfl ?_
          refine md_iast (f := 5) hD (dd D106_ok 113 rfl) rfl (((((((k.1 c1).1 c2).2 M1 e1).2 M2 e2).2 M3 e3).2 M4 e4).1 c3).1 ?_
          refine md_nm (fun M7 e7 => ?_)
          refine md_goto (tgt := 187) (dd D106_ok 114 rfl) (by decide) ?_
          refine md_aload0 (dd D106_ok 123 rfl) rfl ?_
          refine md_getA (dd D106_ok 124 rfl) pl9_27 (by decide) rfl ?_
          refine md_iload_n (dd D106_ok 125 rfl) rfl ?_
          refine md_iload_n (dd D106_ok 126 rfl) rfl ?_
          refine md_iast (f := 6) hD (dd D106_ok 127 rfl) rfl (((((((k.1 c1).1 c2).2 M1 e1).2 M2 e2).2 M3 e3).2 M4 e4).1 c3).1 ?_
          refine md_nm (fun M8 e8 => ?_)
          exact md_vret (dd D106_ok 128 rfl) rfl ((((((((((k.1 c1).1 c2).2 M1 e1).2 M2 e2).2 M3 e3).2 M4 e4).1 c3).2.2 c4) M7 e7) M8 e8)
      · exact md_vret (dd D106_ok 102 rfl) rfl (((((((k.1 c1).1 c2).2 M1 e1).2 M2 e2).2 M3 e3).2 M4 e4).2 c3)
    · refine md_iconst (v := 0) (dd D106_ok 68 rfl) (by decide) ?_
      refine md_goto (tgt := 111) (dd D106_ok 69 rfl) (by decide) ?_
      refine md_iast (f := 9) hD (dd D106_ok 71 rfl) rfl ((k.1 c1).2 c2).1 ?_
      refine md_nm (fun M9 e9 => ?_)
      refine md_aload0 (dd D106_ok 72 rfl) rfl ?_
      refine md_getA (dd D106_ok 73 rfl) pl9_36 (by decide) rfl ?_
      refine md_bipush (v := 9) (dd D106_ok 74 rfl) (by decide) ?_
      refine md_iload_n (dd D106_ok 75 rfl) rfl ?_
      refine md_imul (dd D106_ok 76 rfl) ?_
      refine md_iconst (v := 2) (dd D106_ok 77 rfl) (by decide) ?_
      refine md_iadd (dd D106_ok 78 rfl) ?_
      refine md_iconst (v := (-1)) (dd D106_ok 79 rfl) (by decide) ?_
      refine md_iast (f := 9) hD (dd D106_ok 80 rfl) rfl (((k.1 c1).2 c2).2 M9 e9).1 ?_
      refine md_nm (fun M10 e10 => ?_)
      refine md_aload0 (dd D106_ok 81 rfl) rfl ?_
      refine md_getA (dd D106_ok 82 rfl) pl9_36 (by decide) rfl ?_
      refine md_bipush (v := 9) (dd D106_ok 83 rfl) (by decide) ?_
      refine md_iload_n (dd D106_ok 84 rfl) rfl ?_
      refine md_imul (dd D106_ok 85 rfl) ?_
      refine md_iconst (v := 3) (dd D106_ok 86 rfl) (by decide) ?_
      refine md_iadd (dd D106_ok 87 rfl) ?_
      refine md_iconst (v := (-1)) (dd D106_ok 88 rfl) (by decide) ?_
      refine md_iast (f := 9) hD (dd D106_ok 89 rfl) rfl ((((k.1 c1).2 c2).2 M9 e9).2 M10 e10).1 ?_
      refine md_nm (fun M11 e11 => ?_)
      refine md_aload0 (dd D106_ok 90 rfl) rfl ?_
      refine md_getA (dd D106_ok 91 rfl) pl9_36 (by decide) rfl ?_
      refine md_bipush (v := 9) (dd D106_ok 92 rfl) (by decide) ?_
      refine md_iload_n (dd D106_ok 93 rfl) rfl ?_
      refine md_imul (dd D106_ok 94 rfl) ?_
      refine md_bipush (v := 8) (dd D106_ok 95 rfl) (by decide) ?_
      refine md_iadd (dd D106_ok 96 rfl) ?_
      refine md_iconst (v := 1) (dd D106_ok 97 rfl) (by decide) ?_
      refine md_iast (f := 9) hD (dd D106_ok 98 rfl) rfl (((((k.1 c1).2 c2).2 M9 e9).2 M10 e10).2 M11 e11).1 ?_
      refine md_nm (fun M12 e12 => ?_)
      refine md_iload_n (dd D106_ok 99 rfl) rfl ?_
      refine md_iconst (v := (-1)) (dd D106_ok 100 rfl) (by decide) ?_
      refine md_icmp_ne (tgt := 155) (dd D106_ok 101 rfl) (by decide) (fun c5 => ?_) (fun c5 => ?_)
      · refine md_aload0 (dd D106_ok 103 rfl) rfl ?_
        refine md_getA (dd D106_ok 104 rfl) pl9_27 (by decide) rfl ?_
        refine md_iload_n (dd D106_ok 105 rfl) rfl ?_
        refine md_iald (f := 6) (dd D106_ok 106 rfl) rfl (((((((k.1 c1).2 c2).2 M9 e9).2 M10 e10).2 M11 e11).2 M12 e12).1 c5).1 ?_
        refine md_iconst (v := (-1)) (dd D106_ok 107 rfl) (by decide) ?_
        refine md_icmp_ne (tgt := 175) (dd D106_ok 108 rfl) (by decide) (fun c6 => ?_) (fun c6 => ?_)
        · refine md_aload0 (dd D106_ok 115 rfl) rfl ?_
          refine md_getA (dd D106_ok 116 rfl) pl9_30 (by decide) rfl ?_
          refine md_aload0 (dd D106_ok 117 rfl) rfl ?_
          refine md_getA (dd D106_ok 118 rfl) pl9_27 (by decide) rfl ?_
          refine md_iload_n (dd D106_ok 119 rfl) rfl ?_
          refine md_iald (f := 6) (dd D106_ok 120 rfl) rfl (((((((k.1 c1).2 c2).2 M9 e9).2 M10 e10).2 M11 e11).2 M12 e12).1 c5).1 ?_
          refine md_iload_n (dd D106_ok 121 rfl) rfl ?_
          refine md_iast (f := 7) hD (dd D106_ok 122 rfl) rfl ((((((((k.1 c1).2 c2).2 M9 e9).2 M10 e10).2 M11 e11).2 M12 e12).1 c5).2.1 c6).1 ?_
          refine md_nm (fun M13 e13 => ?_)
          refine md_aload0 (dd D106_ok 123 rfl) rfl ?_
          refine md_getA (dd D106_ok 124 rfl) pl9_27 (by decide) rfl ?_
          refine md_iload_n (dd D106_ok 125 rfl) rfl ?_
          refine md_iload_n (dd D106_ok 126 rfl) rfl ?_
          refine md_iast (f := 6) hD (dd D106_ok 127 rfl) rfl (((((((k.1 c1).2 c2).2 M9 e9).2 M10 e10).2 M11 e11).2 M12 e12).1 c5).1 ?_
          refine md_nm (fun M14 e14 => ?_)
          exact md_vret (dd D106_ok 128 rfl) rfl ((((((((((k.1 c1).2 c2).2 M9 e9).2 M10 e10).2 M11 e11).2 M12 e12).1 c5).2.1 c6).2 M13 e13) M14 e14)
        · refine md_aload0 (dd D106_ok 109 rfl) rfl ?_
          refine md_getA (dd D106_ok 110 rfl) pl9_24 (by decide) rfl ?_
          refine md_iload_n (dd D106_ok 111 rfl) rfl ?_
          refine md_iload_n (dd D106_ok 112 rfl) rfl ?_
          refine md_iast (f := 5) hD (dd D106_ok 113 rfl) rfl (((((((k.1 c1).2 c2).2 M9 e9).2 M10 e10).2 M11 e11).2 M12 e12).1 c5).1 ?_
          refine md_nm (fun M15 e15 => ?_)
          refine md_goto (tgt := 187) (dd D106_ok 114 rfl) (by decide) ?_
          refine md_aload0 (dd D106_ok 123 rfl) rfl ?_
          refine md_getA (dd D106_ok 124 rfl) pl9_27 (by decide) rfl ?_
          refine md_iload_n (dd D106_ok 125 rfl) rfl ?_
          refine md_iload_n (dd D106_ok 126 rfl) rfl ?_
          refine md_iast (f := 6) hD (dd D106_ok 127 rfl) rfl (((((((k.1 c1).2 c2).2 M9 e9).2 M10 e10).2 M11 e11).2 M12 e12).1 c5).1 ?_
          refine md_nm (fun M16 e16 => ?_)
          exact md_vret (dd D106_ok 128 rfl) rfl ((((((((((k.1 c1).2 c2).2 M9 e9).2 M10 e10).2 M11 e11).2 M12 e12).1 c5).2.2 c6) M15 e15) M16 e16)
      · exact md_vret (dd D106_ok 102 rfl) rfl (((((((k.1 c1).2 c2).2 M9 e9).2 M10 e10).2 M11 e11).2 M12 e12).2 c5)
  · refine md_aload0 (dd D106_ok 50 rfl) rfl ?_
    refine md_getA (dd D106_ok 51 rfl) pl9_36 (by decide) rfl ?_
    refine md_bipush (v := 9) (dd D106_ok 52 rfl) (by decide) ?_
    refine md_iload_n (dd D106_ok 53 rfl) rfl ?_
    refine md_imul (dd D106_ok 54 rfl) ?_
    refine md_iload (dd D106_ok 55 rfl) rfl ?_
    refine md_iadd (dd D106_ok 56 rfl) ?_
    refine md_iconst (v := 0) (dd D106_ok 57 rfl) (by decide) ?_
    refine md_iast (f := 9) hD (dd D106_ok 58 rfl) rfl (k.2 c1).1 ?_
    refine md_nm (fun M17 e17 => ?_)
    refine md_iinc (v := x4 + 1) (dd D106_ok 59 rfl) rfl rfl ?_
    refine md_goto (tgt := 68) (dd D106_ok 60 rfl) (by decide) ?_
    exact ((k.2 c1).2 M17 e17)
def md_z (M : md_S) (n j : Nat) : md_S := (M.1, fun f i => if f = 9 ∧ 9 * n ≤ i ∧ i < 9 * n + j then 0 else M.2 f i)
theorem md_z_0 (M : md_S) (n : Nat) : md_z M n 0 = M := by
  unfold md_z
  congr 1
  funext f i
  rw [if_neg (by omega)]
theorem md_z_succ (M : md_S) (n j : Nat) : md_up2 (md_z M n j) 9 (9 * n + j) 0 = md_z M n (j + 1) := by
  unfold md_z md_up2
  congr 1
  funext f i
  by_cases h : f = 9 ∧ i = 9 * n + j
  · rw [if_pos h, if_pos (by omega)]
  · rw [if_neg h]
    show (if f = 9 ∧ 9 * n ≤ i ∧ i < 9 * n + j then 0 else M.2 f i) = _
    by_cases h2 : f = 9 ∧ 9 * n ≤ i ∧ i < 9 * n + j
    · rw [if_pos h2, if_pos (by omega)]
    · rw [if_neg h2, if_neg (by omega)]
def f_fr1 (M : md_S) (n : Nat) (q k : Int32) : md_S := md_up2 (md_up2 (md_up2 (md_up2 (md_up2 (md_up2 (md_up2 M 3 n k) 4 n q) 5 n (-1)) 6 n (-1)) 7 n (-1)) 8 n (if q = -1 then 0 else M.2 8 q.toNatClampNeg + 1)) 11 n 0
def f_fr2 (M : md_S) (n : Nat) (k : Int32) : md_S := md_up2 (md_up2 (md_up2 (md_up2 (md_z M n 9) 9 (9 * n) (if k = 0 then 0 else 1)) 9 (9 * n + 2) (-1)) 9 (9 * n + 3) (-1)) 9 (9 * n + 8) 1
def f_fr3 (M : md_S) (n : Nat) (q : Int32) : md_S := if q = -1 then M else if M.2 6 q.toNatClampNeg = -1 then md_up2 (md_up2 M 5 q.toNatClampNeg (nI n)) 6 q.toNatClampNeg (nI n) else md_up2 (md_up2 M 7 (M.2 6 q.toNatClampNeg).toNatClampNeg (nI n)) 6 q.toNatClampNeg (nI n)
def f_fresh_M (M : md_S) (n : Nat) (q k : Int32) : md_S := f_fr3 (f_fr2 (f_fr1 M n q k) n k) n q
theorem nI_9 (n j : Nat) : (9 : Int32) * nI n + nI j = nI (9 * n + j) := by rw [show (9 : Int32) = nI 9 from rfl, pk_mul, nI_add]
theorem c_fresh_end {xs : List Int32} {mo : Nat} {ad : Nat → Nat} (hD : md_D mo ad) {h0 : am_H} {d : Nat} {Q : Option Value → md_S → Prop} {M : md_S} {n : Nat} {q k : Int32} (hn : n < 60) (hq : ¬ q = -1 → vp_in q 60 ∧ (¬ (f_fr2 M n k).2 6 q.toNatClampNeg = -1 → vp_in ((f_fr2 M n k).2 6 q.toNatClampNeg) 60)) (hQ : Q none (f_fr3 (f_fr2 M n k) n q)) : md_wp xs mo ad h0 d Q I106 68 [some (.ref mo), some (.int (nI n)), some (.int q), some (.int k), some (.int 9)] [] (md_z M n 9) := by
  have e0 : (9 : Int32) * nI n = nI (9 * n) := by rw [show (9 : Int32) = nI 9 from rfl, pk_mul]
  have e2 : (9 : Int32) * nI n + 2 = nI (9 * n + 2) := nI_9 n 2
  have e3 : (9 : Int32) * nI n + 3 = nI (9 * n + 3) := nI_9 n 3
  have e8 : (9 : Int32) * nI n + 8 = nI (9 * n + 8) := nI_9 n 8
  refine vc106_68 hD ⟨fun _ => ?_, fun q => absurd (by decide) q⟩
  rw [e8, e3, e2, e0, nI_clamp (by omega), nI_clamp (by omega), nI_clamp (by omega), nI_clamp (by omega)]
  have v0 : vp_in (nI (9 * n)) 540 := vp_nI (by omega) (by decide)
  have v2 : vp_in (nI (9 * n + 2)) 540 := vp_nI (by omega) (by decide)
  have v3 : vp_in (nI (9 * n + 3)) 540 := vp_nI (by omega) (by decide)
  have v8 : vp_in (nI (9 * n + 8)) 540 := vp_nI (by omega) (by decide)
  unfold f_fr3 at hQ
  refine ⟨fun hk => ?_, fun hk => ?_⟩
  all_goals
    refine ⟨v0, fun M1 e1 => ⟨v2, fun M2 e2 => ⟨v3, fun M3 e3 => ⟨v8, fun M4 e4 => ?_⟩⟩⟩⟩
    have e : M4 = f_fr2 M n k := by
      unfold f_fr2
      first
        | rw [if_neg hk, e4, e3, e2, e1]
        | rw [if_pos (Classical.not_not.mp hk), e4, e3, e2, e1]
    clear e1 e2 e3 e4
    subst e
    refine ⟨fun h1 => ⟨(hq h1).1, fun h2 => ⟨(hq h1).2 h2, ?_⟩, fun h2 => ?_⟩, fun h1 => ?_⟩
    · rw [if_neg h1, if_neg h2] at hQ
      rintro _ rfl _ rfl
      exact hQ
    · rw [if_neg h1, if_pos (Classical.not_not.mp h2)] at hQ
      rintro _ rfl _ rfl
      exact hQ
    · rw [if_pos (Classical.not_not.mp h1)] at hQ
      exact hQ
theorem c_fresh_loop {xs : List Int32} {mo : Nat} {ad : Nat → Nat} (hD : md_D mo ad) {h0 : am_H} {d : Nat} {Q : Option Value → md_S → Prop} {M : md_S} {n : Nat} {q k : Int32} (hn : n < 60) (hw : md_wp xs mo ad h0 d Q I106 68 [some (.ref mo), some (.int (nI n)), some (.int q), some (.int k), some (.int 9)] [] (md_z M n 9)) : ∀ r j, j + r = 9 → md_wp xs mo ad h0 d Q I106 68 [some (.ref mo), some (.int (nI n)), some (.int q), some (.int k), some (.int (nI j))] [] (md_z M n j) := by
  intro r
  induction r with
  | zero =>
    intro j hj
    obtain rfl : j = 9 := by omega
    exact hw
  | succ r ih =>
    intro j hj
    have hj9 : ¬ (9 : Int32) ≤ nI j := nI_ge (a := j) (b := 9) (by omega) (by decide)
    refine vc106_68 hD ⟨fun q => absurd q hj9, fun _ => ?_⟩
    rw [nI_9, nI_clamp (by omega)]
    refine ⟨vp_nI (by omega) (by decide), ?_⟩
    rintro _ rfl
    rw [md_z_succ, nI_1]
    exact ih (j + 1) (by omega)
theorem c_fresh {xs : List Int32} {mo : Nat} {ad : Nat → Nat} {d : Nat} {M : md_S} {n : Nat} {q k : Int32} (hD : md_D mo ad) (hn : n < 60) (hq : ¬ q = -1 → vp_in q 60 ∧ (¬ (f_fr2 (f_fr1 M n q k) n k).2 6 q.toNatClampNeg = -1 → vp_in ((f_fr2 (f_fr1 M n q k) n k).2 6 q.toNatClampNeg) 60)) : ∀ Q', Q' none (f_fresh_M M n q k) → md_C xs mo ad (d + 1) 106 [.int (nI n), .int q, .int k] M Q' := by
  intro Q' hQ
  refine md_intro (ms106 xs) (Nat.le_of_ble_eq_true rfl) (fun h0 => vc106_0 hD ?_)
  have hw := c_fresh_loop hD hn (c_fresh_end (xs := xs) (mo := mo) (ad := ad) (h0 := h0) (d := d) hD hn hq hQ) 9 0 rfl
  rw [md_z_0] at hw
  rw [nI_clamp (by omega)]
  refine ⟨vp_nI hn (by decide), ?_⟩
  rintro _ rfl _ rfl _ rfl _ rfl _ rfl
  refine ⟨fun h1 => ⟨(hq h1).1, ?_⟩, fun h1 => ?_⟩
  · rintro _ rfl _ rfl
    unfold f_fr1 at hw
    rw [if_neg h1] at hw
    exact hw
  · rintro _ rfl _ rfl
    unfold f_fr1 at hw
    rw [if_pos (Classical.not_not.mp h1)] at hw
    exact hw
theorem md_out9_0 {x : Int32} (h0 : ¬ x = 0) (h1 : ¬ x = 1) (h2 : ¬ x = 2) (h3 : ¬ x = 3) (h4 : ¬ x = 4) (h5 : ¬ x = 5) (h6 : ¬ x = 6) (h7 : ¬ x = 7) (h8 : ¬ x = 8) : x.toInt < 0 ∨ 8 < x.toInt := by
  rcases Int.lt_or_le x.toInt 0 with q | q
  · exact Or.inl q
  · rcases Int.lt_or_le 8 x.toInt with r | r
    · exact Or.inr r
    · exfalso
      obtain ⟨j, hj, rfl⟩ := nI_of (x := x) (by rw [Int32.lt_iff_toInt_lt]; exact Int.not_lt.mpr q)
      rw [nI_toInt hj] at r
      have : j = 0 ∨ j = 1 ∨ j = 2 ∨ j = 3 ∨ j = 4 ∨ j = 5 ∨ j = 6 ∨ j = 7 ∨ j = 8 := by omega
      rcases this with rfl | rfl | rfl | rfl | rfl | rfl | rfl | rfl | rfl
      · exact h0 rfl
      · exact h1 rfl
      · exact h2 rfl
      · exact h3 rfl
      · exact h4 rfl
      · exact h5 rfl
      · exact h6 rfl
      · exact h7 rfl
      · exact h8 rfl
theorem md_out7_0 {x : Int32} (h0 : ¬ x = 0) (h1 : ¬ x = 1) (h2 : ¬ x = 2) (h3 : ¬ x = 3) (h4 : ¬ x = 4) (h5 : ¬ x = 5) (h6 : ¬ x = 6) : x.toInt < 0 ∨ 6 < x.toInt := by
  by_cases h7 : x = 7
  · subst h7
    exact Or.inr (by decide)
  · by_cases h8 : x = 8
    · subst h8
      exact Or.inr (by decide)
    · rcases md_out9_0 h0 h1 h2 h3 h4 h5 h6 h7 h8 with q | q
      · exact Or.inl q
      · exact Or.inr (by omega)
/-- mayBe -/
def f_mayBe (M : md_S) (x1 x2 x3 : Int32) : Int32 := if x2 = 0 then (if ¬ x1 = 0 then (if ¬ (M.2 3 x1.toNatClampNeg) = 0 then (if x3 = 1 then 1 else (if ¬ (M.2 3 x1.toNatClampNeg) = 3 then 0 else (if ¬ x3 = 3 then 0 else 1))) else (if x3 < 0 then 0 else (if 3 < x3 then 0 else 1))) else (if x3 = 0 then 1 else (if ¬ x3 = 2 then 0 else 1))) else (if x2 = 1 then (if x3 = 0 then 1 else (if x1 ≤ 0 then 0 else (if ¬ (M.2 3 x1.toNatClampNeg) = 0 then 0 else (if x3 ≤ 0 then 0 else (if 2 < x3 then 0 else 1))))) else (if x2 = 2 then (if x3 < (-1) then (if x3 < 1000 then 0 else (if 1100 < x3 then 0 else 1)) else (if x3 ≤ 400 then 1 else (if x3 < 1000 then 0 else (if 1100 < x3 then 0 else 1)))) else (if x2 = 3 then (if x3 < (-1) then 0 else (if 400 < x3 then 0 else 1)) else (if x2 = 4 then (if x3 < 0 then 0 else (if 50 < x3 then 0 else 1)) else (if x2 = 5 then (if x3 < 0 then 0 else (if 9 < x3 then 0 else 1)) else (if x2 = 6 then (if x3 < 0 then 0 else (if 50 < x3 then 0 else 1)) else (if x2 = 7 then (if x3 < 0 then 0 else (if 2 < x3 then 0 else 1)) else (if x2 = 8 then (if x3 < 1 then 0 else (if 4 < x3 then 0 else 1)) else 0))))))))
set_option maxHeartbeats 1000000 in
theorem vc114_0 {xs : List Int32} {mo : Nat} {ad : Nat → Nat} (hD : md_D mo ad) {h0 : am_H} {d : Nat} {Q : Option Value → md_S → Prop} {M : md_S} {x1 : Int32} {x2 : Int32} {x3 : Int32}
    (k : ((x2 = 0) → ((¬ x1 = 0) → (vp_in x1 60) ∧ (((¬ (M.2 3 x1.toNatClampNeg) = 0) → ((x3 = 1) → Q (some (.int 1)) M) ∧ (¬ (x3 = 1) → ((¬ (M.2 3 x1.toNatClampNeg) = 3) → Q (some (.int 0)) M) ∧ (¬ (¬ (M.2 3 x1.toNatClampNeg) = 3) → ((¬ x3 = 3) → Q (some (.int 0)) M) ∧ (¬ (¬ x3 = 3) → Q (some (.int 1)) M)))) ∧ (¬ (¬ (M.2 3 x1.toNatClampNeg) = 0) → ((x3 < 0) → Q (some (.int 0)) M) ∧ (¬ (x3 < 0) → ((3 < x3) → Q (some (.int 0)) M) ∧ (¬ (3 < x3) → Q (some (.int 1)) M))))) ∧ (¬ (¬ x1 = 0) → ((x3 = 0) → Q (some (.int 1)) M) ∧ (¬ (x3 = 0) → ((¬ x3 = 2) → Q (some (.int 0)) M) ∧ (¬ (¬ x3 = 2) → Q (some (.int 1)) M)))) ∧ (¬ (x2 = 0) → ((x2 = 1) → ((x3 = 0) → Q (some (.int 1)) M) ∧ (¬ (x3 = 0) → ((x1 ≤ 0) → Q (some (.int 0)) M) ∧ (¬ (x1 ≤ 0) → (vp_in x1 60) ∧ (((¬ (M.2 3 x1.toNatClampNeg) = 0) → Q (some (.int 0)) M) ∧ (¬ (¬ (M.2 3 x1.toNatClampNeg) = 0) → ((x3 ≤ 0) → Q (some (.int 0)) M) ∧ (¬ (x3 ≤ 0) → ((2 < x3) → Q (some (.int 0)) M) ∧ (¬ (2 < x3) → Q (some (.int 1)) M))))))) ∧ (¬ (x2 = 1) → ((x2 = 2) → ((x3 < (-1)) → ((x3 < 1000) → Q (some (.int 0)) M) ∧ (¬ (x3 < 1000) → ((1100 < x3) → Q (some (.int 0)) M) ∧ (¬ (1100 < x3) → Q (some (.int 1)) M))) ∧ (¬ (x3 < (-1)) → ((x3 ≤ 400) → Q (some (.int 1)) M) ∧ (¬ (x3 ≤ 400) → ((x3 < 1000) → Q (some (.int 0)) M) ∧ (¬ (x3 < 1000) → ((1100 < x3) → Q (some (.int 0)) M) ∧ (¬ (1100 < x3) → Q (some (.int 1)) M))))) ∧ (¬ (x2 = 2) → ((x2 = 3) → ((x3 < (-1)) → Q (some (.int 0)) M) ∧ (¬ (x3 < (-1)) → ((400 < x3) → Q (some (.int 0)) M) ∧ (¬ (400 < x3) → Q (some (.int 1)) M))) ∧ (¬ (x2 = 3) → ((x2 = 4) → ((x3 < 0) → Q (some (.int 0)) M) ∧ (¬ (x3 < 0) → ((50 < x3) → Q (some (.int 0)) M) ∧ (¬ (50 < x3) → Q (some (.int 1)) M))) ∧ (¬ (x2 = 4) → ((x2 = 5) → ((x3 < 0) → Q (some (.int 0)) M) ∧ (¬ (x3 < 0) → ((9 < x3) → Q (some (.int 0)) M) ∧ (¬ (9 < x3) → Q (some (.int 1)) M))) ∧ (¬ (x2 = 5) → ((x2 = 6) → ((x3 < 0) → Q (some (.int 0)) M) ∧ (¬ (x3 < 0) → ((50 < x3) → Q (some (.int 0)) M) ∧ (¬ (50 < x3) → Q (some (.int 1)) M))) ∧ (¬ (x2 = 6) → ((x2 = 7) → ((x3 < 0) → Q (some (.int 0)) M) ∧ (¬ (x3 < 0) → ((2 < x3) → Q (some (.int 0)) M) ∧ (¬ (2 < x3) → Q (some (.int 1)) M))) ∧ (¬ (x2 = 7) → ((x2 = 8) → ((x3 < 1) → Q (some (.int 0)) M) ∧ (¬ (x3 < 1) → ((4 < x3) → Q (some (.int 0)) M) ∧ (¬ (4 < x3) → Q (some (.int 1)) M))) ∧ (¬ (x2 = 8) → Q (some (.int 0)) M)))))))))) :
    md_wp xs mo ad h0 d Q I114 0 [some (.ref mo), some (.int x1), some (.int x2), some (.int x3)] [] M := by
  refine md_iload_n (dd D114_ok 0 rfl) rfl ?_
  by_cases c1 : x2 = 0
  · refine md_tsw (tgt := 52) (dd D114_ok 1 rfl) (Or.inr ⟨by rw [c1]; decide, by rw [c1]; decide, _, by rw [c1]; rfl, by decide⟩) ?_
    refine md_iload_n (dd D114_ok 2 rfl) rfl ?_
    refine md_if_ne (tgt := 71) (dd D114_ok 3 rfl) (by decide) (fun c2 => ?_) (fun c2 => ?_)
    · refine md_aload0 (dd D114_ok 13 rfl) rfl ?_
      refine md_getA (dd D114_ok 14 rfl) pl9_17 (by decide) rfl ?_
      refine md_iload_n (dd D114_ok 15 rfl) rfl ?_
      refine md_iald (f := 3) (dd D114_ok 16 rfl) rfl ((k.1 c1).1 c2).1 ?_
      refine md_if_ne (tgt := 95) (dd D114_ok 17 rfl) (by decide) (fun c3 => ?_) (fun c3 => ?_)
      · refine md_iload_n (dd D114_ok 27 rfl) rfl ?_
        refine md_iconst (v := 1) (dd D114_ok 28 rfl) (by decide) ?_
        refine md_icmp_eq (tgt := 115) (dd D114_ok 29 rfl) (by decide) (fun c4 => ?_) (fun c4 => ?_)
        · refine md_iconst (v := 1) (dd D114_ok 39 rfl) (by decide) ?_
          refine md_goto (tgt := 120) (dd D114_ok 40 rfl) (by decide) ?_
          exact md_iret (dd D114_ok 42 rfl) rfl ((((k.1 c1).1 c2).2.1 c3).1 c4)
        · refine md_aload0 (dd D114_ok 30 rfl) rfl ?_
          refine md_getA (dd D114_ok 31 rfl) pl9_17 (by decide) rfl ?_
          refine md_iload_n (dd D114_ok 32 rfl) rfl ?_
          refine md_iald (f := 3) (dd D114_ok 33 rfl) rfl ((k.1 c1).1 c2).1 ?_
          refine md_iconst (v := 3) (dd D114_ok 34 rfl) (by decide) ?_
          refine md_icmp_ne (tgt := 119) (dd D114_ok 35 rfl) (by decide) (fun c5 => ?_) (fun c5 => ?_)
          · refine md_iconst (v := 0) (dd D114_ok 41 rfl) (by decide) ?_
            exact md_iret (dd D114_ok 42 rfl) rfl (((((k.1 c1).1 c2).2.1 c3).2 c4).1 c5)
          · refine md_iload_n (dd D114_ok 36 rfl) rfl ?_
            refine md_iconst (v := 3) (dd D114_ok 37 rfl) (by decide) ?_
            refine md_icmp_ne (tgt := 119) (dd D114_ok 38 rfl) (by decide) (fun c6 => ?_) (fun c6 => ?_)
            · refine md_iconst (v := 0) (dd D114_ok 41 rfl) (by decide) ?_
              exact md_iret (dd D114_ok 42 rfl) rfl ((((((k.1 c1).1 c2).2.1 c3).2 c4).2 c5).1 c6)
            · refine md_iconst (v := 1) (dd D114_ok 39 rfl) (by decide) ?_
              refine md_goto (tgt := 120) (dd D114_ok 40 rfl) (by decide) ?_
              exact md_iret (dd D114_ok 42 rfl) rfl ((((((k.1 c1).1 c2).2.1 c3).2 c4).2 c5).2 c6)
      · refine md_iload_n (dd D114_ok 18 rfl) rfl ?_
        refine md_if_lt (tgt := 93) (dd D114_ok 19 rfl) (by decide) (fun c7 => ?_) (fun c7 => ?_)
        · refine md_iconst (v := 0) (dd D114_ok 25 rfl) (by decide) ?_
          exact md_iret (dd D114_ok 26 rfl) rfl ((((k.1 c1).1 c2).2.2 c3).1 c7)
        · refine md_iload_n (dd D114_ok 20 rfl) rfl ?_
          refine md_iconst (v := 3) (dd D114_ok 21 rfl) (by decide) ?_
          refine md_icmp_gt (tgt := 93) (dd D114_ok 22 rfl) (by decide) (fun c8 => ?_) (fun c8 => ?_)
          · refine md_iconst (v := 0) (dd D114_ok 25 rfl) (by decide) ?_
            exact md_iret (dd D114_ok 26 rfl) rfl (((((k.1 c1).1 c2).2.2 c3).2 c7).1 c8)
          · refine md_iconst (v := 1) (dd D114_ok 23 rfl) (by decide) ?_
            refine md_goto (tgt := 94) (dd D114_ok 24 rfl) (by decide) ?_
            exact md_iret (dd D114_ok 26 rfl) rfl (((((k.1 c1).1 c2).2.2 c3).2 c7).2 c8)
    · refine md_iload_n (dd D114_ok 4 rfl) rfl ?_
      refine md_if_eq (tgt := 65) (dd D114_ok 5 rfl) (by decide) (fun c9 => ?_) (fun c9 => ?_)
      · refine md_iconst (v := 1) (dd D114_ok 9 rfl) (by decide) ?_
        refine md_goto (tgt := 70) (dd D114_ok 10 rfl) (by decide) ?_
        exact md_iret (dd D114_ok 12 rfl) rfl (((k.1 c1).2 c2).1 c9)
      · refine md_iload_n (dd D114_ok 6 rfl) rfl ?_
        refine md_iconst (v := 2) (dd D114_ok 7 rfl) (by decide) ?_
        refine md_icmp_ne (tgt := 69) (dd D114_ok 8 rfl) (by decide) (fun c10 => ?_) (fun c10 => ?_)
        · refine md_iconst (v := 0) (dd D114_ok 11 rfl) (by decide) ?_
          exact md_iret (dd D114_ok 12 rfl) rfl ((((k.1 c1).2 c2).2 c9).1 c10)
        · refine md_iconst (v := 1) (dd D114_ok 9 rfl) (by decide) ?_
          refine md_goto (tgt := 70) (dd D114_ok 10 rfl) (by decide) ?_
          exact md_iret (dd D114_ok 12 rfl) rfl ((((k.1 c1).2 c2).2 c9).2 c10)
  by_cases c11 : x2 = 1
  · refine md_tsw (tgt := 121) (dd D114_ok 1 rfl) (Or.inr ⟨by rw [c11]; decide, by rw [c11]; decide, _, by rw [c11]; rfl, by decide⟩) ?_
    refine md_iload_n (dd D114_ok 43 rfl) rfl ?_
    refine md_if_eq (tgt := 147) (dd D114_ok 44 rfl) (by decide) (fun c12 => ?_) (fun c12 => ?_)
    · refine md_iconst (v := 1) (dd D114_ok 57 rfl) (by decide) ?_
      refine md_goto (tgt := 152) (dd D114_ok 58 rfl) (by decide) ?_
      exact md_iret (dd D114_ok 60 rfl) rfl (((k.2 c1).1 c11).1 c12)
    · refine md_iload_n (dd D114_ok 45 rfl) rfl ?_
      refine md_if_le (tgt := 151) (dd D114_ok 46 rfl) (by decide) (fun c13 => ?_) (fun c13 => ?_)
      · refine md_iconst (v := 0) (dd D114_ok 59 rfl) (by decide) ?_
        exact md_iret (dd D114_ok 60 rfl) rfl ((((k.2 c1).1 c11).2 c12).1 c13)
      · refine md_aload0 (dd D114_ok 47 rfl) rfl ?_
        refine md_getA (dd D114_ok 48 rfl) pl9_17 (by decide) rfl ?_
        refine md_iload_n (dd D114_ok 49 rfl) rfl ?_
        refine md_iald (f := 3) (dd D114_ok 50 rfl) rfl ((((k.2 c1).1 c11).2 c12).2 c13).1 ?_
        refine md_if_ne (tgt := 151) (dd D114_ok 51 rfl) (by decide) (fun c14 => ?_) (fun c14 => ?_)
        · refine md_iconst (v := 0) (dd D114_ok 59 rfl) (by decide) ?_
          exact md_iret (dd D114_ok 60 rfl) rfl (((((k.2 c1).1 c11).2 c12).2 c13).2.1 c14)
        · refine md_iload_n (dd D114_ok 52 rfl) rfl ?_
          refine md_if_le (tgt := 151) (dd D114_ok 53 rfl) (by decide) (fun c15 => ?_) (fun c15 => ?_)
          · refine md_iconst (v := 0) (dd D114_ok 59 rfl) (by decide) ?_
            exact md_iret (dd D114_ok 60 rfl) rfl ((((((k.2 c1).1 c11).2 c12).2 c13).2.2 c14).1 c15)
          · refine md_iload_n (dd D114_ok 54 rfl) rfl ?_
            refine md_iconst (v := 2) (dd D114_ok 55 rfl) (by decide) ?_
            refine md_icmp_gt (tgt := 151) (dd D114_ok 56 rfl) (by decide) (fun c16 => ?_) (fun c16 => ?_)
            · refine md_iconst (v := 0) (dd D114_ok 59 rfl) (by decide) ?_
              exact md_iret (dd D114_ok 60 rfl) rfl (((((((k.2 c1).1 c11).2 c12).2 c13).2.2 c14).2 c15).1 c16)
            · refine md_iconst (v := 1) (dd D114_ok 57 rfl) (by decide) ?_
              refine md_goto (tgt := 152) (dd D114_ok 58 rfl) (by decide) ?_
              exact md_iret (dd D114_ok 60 rfl) rfl (((((((k.2 c1).1 c11).2 c12).2 c13).2.2 c14).2 c15).2 c16)
  by_cases c17 : x2 = 2
  · refine md_tsw (tgt := 153) (dd D114_ok 1 rfl) (Or.inr ⟨by rw [c17]; decide, by rw [c17]; decide, _, by rw [c17]; rfl, by decide⟩) ?_
    refine md_iload_n (dd D114_ok 61 rfl) rfl ?_
    refine md_iconst (v := (-1)) (dd D114_ok 62 rfl) (by decide) ?_
    refine md_icmp_lt (tgt := 165) (dd D114_ok 63 rfl) (by decide) (fun c18 => ?_) (fun c18 => ?_)
    · refine md_iload_n (dd D114_ok 67 rfl) rfl ?_
      refine md_sipush (v := 1000) (dd D114_ok 68 rfl) (by decide) ?_
      refine md_icmp_lt (tgt := 183) (dd D114_ok 69 rfl) (by decide) (fun c19 => ?_) (fun c19 => ?_)
      · refine md_iconst (v := 0) (dd D114_ok 75 rfl) (by decide) ?_
        exact md_iret (dd D114_ok 76 rfl) rfl (((((k.2 c1).2 c11).1 c17).1 c18).1 c19)
      · refine md_iload_n (dd D114_ok 70 rfl) rfl ?_
        refine md_sipush (v := 1100) (dd D114_ok 71 rfl) (by decide) ?_
        refine md_icmp_gt (tgt := 183) (dd D114_ok 72 rfl) (by decide) (fun c20 => ?_) (fun c20 => ?_)
        · refine md_iconst (v := 0) (dd D114_ok 75 rfl) (by decide) ?_
          exact md_iret (dd D114_ok 76 rfl) rfl ((((((k.2 c1).2 c11).1 c17).1 c18).2 c19).1 c20)
        · refine md_iconst (v := 1) (dd D114_ok 73 rfl) (by decide) ?_
          refine md_goto (tgt := 184) (dd D114_ok 74 rfl) (by decide) ?_
          exact md_iret (dd D114_ok 76 rfl) rfl ((((((k.2 c1).2 c11).1 c17).1 c18).2 c19).2 c20)
    · refine md_iload_n (dd D114_ok 64 rfl) rfl ?_
      refine md_sipush (v := 400) (dd D114_ok 65 rfl) (by decide) ?_
      refine md_icmp_le (tgt := 179) (dd D114_ok 66 rfl) (by decide) (fun c21 => ?_) (fun c21 => ?_)
      · refine md_iconst (v := 1) (dd D114_ok 73 rfl) (by decide) ?_
        refine md_goto (tgt := 184) (dd D114_ok 74 rfl) (by decide) ?_
        exact md_iret (dd D114_ok 76 rfl) rfl (((((k.2 c1).2 c11).1 c17).2 c18).1 c21)
      · refine md_iload_n (dd D114_ok 67 rfl) rfl ?_
        refine md_sipush (v := 1000) (dd D114_ok 68 rfl) (by decide) ?_
        refine md_icmp_lt (tgt := 183) (dd D114_ok 69 rfl) (by decide) (fun c22 => ?_) (fun c22 => ?_)
        · refine md_iconst (v := 0) (dd D114_ok 75 rfl) (by decide) ?_
          exact md_iret (dd D114_ok 76 rfl) rfl ((((((k.2 c1).2 c11).1 c17).2 c18).2 c21).1 c22)
        · refine md_iload_n (dd D114_ok 70 rfl) rfl ?_
          refine md_sipush (v := 1100) (dd D114_ok 71 rfl) (by decide) ?_
          refine md_icmp_gt (tgt := 183) (dd D114_ok 72 rfl) (by decide) (fun c23 => ?_) (fun c23 => ?_)
          · refine md_iconst (v := 0) (dd D114_ok 75 rfl) (by decide) ?_
            exact md_iret (dd D114_ok 76 rfl) rfl (((((((k.2 c1).2 c11).1 c17).2 c18).2 c21).2 c22).1 c23)
          · refine md_iconst (v := 1) (dd D114_ok 73 rfl) (by decide) ?_
            refine md_goto (tgt := 184) (dd D114_ok 74 rfl) (by decide) ?_
            exact md_iret (dd D114_ok 76 rfl) rfl (((((((k.2 c1).2 c11).1 c17).2 c18).2 c21).2 c22).2 c23)
  by_cases c24 : x2 = 3
  · refine md_tsw (tgt := 185) (dd D114_ok 1 rfl) (Or.inr ⟨by rw [c24]; decide, by rw [c24]; decide, _, by rw [c24]; rfl, by decide⟩) ?_
    refine md_iload_n (dd D114_ok 77 rfl) rfl ?_
    refine md_iconst (v := (-1)) (dd D114_ok 78 rfl) (by decide) ?_
    refine md_icmp_lt (tgt := 201) (dd D114_ok 79 rfl) (by decide) (fun c25 => ?_) (fun c25 => ?_)
    · refine md_iconst (v := 0) (dd D114_ok 85 rfl) (by decide) ?_
      exact md_iret (dd D114_ok 86 rfl) rfl (((((k.2 c1).2 c11).2 c17).1 c24).1 c25)
    · refine md_iload_n (dd D114_ok 80 rfl) rfl ?_
      refine md_sipush (v := 400) (dd D114_ok 81 rfl) (by decide) ?_
      refine md_icmp_gt (tgt := 201) (dd D114_ok 82 rfl) (by decide) (fun c26 => ?_) (fun c26 => ?_)
      · refine md_iconst (v := 0) (dd D114_ok 85 rfl) (by decide) ?_
        exact md_iret (dd D114_ok 86 rfl) rfl ((((((k.2 c1).2 c11).2 c17).1 c24).2 c25).1 c26)
      · refine md_iconst (v := 1) (dd D114_ok 83 rfl) (by decide) ?_
        refine md_goto (tgt := 202) (dd D114_ok 84 rfl) (by decide) ?_
        exact md_iret (dd D114_ok 86 rfl) rfl ((((((k.2 c1).2 c11).2 c17).1 c24).2 c25).2 c26)
  by_cases c27 : x2 = 4
  · refine md_tsw (tgt := 203) (dd D114_ok 1 rfl) (Or.inr ⟨by rw [c27]; decide, by rw [c27]; decide, _, by rw [c27]; rfl, by decide⟩) ?_
    refine md_iload_n (dd D114_ok 87 rfl) rfl ?_
    refine md_if_lt (tgt := 217) (dd D114_ok 88 rfl) (by decide) (fun c28 => ?_) (fun c28 => ?_)
    · refine md_iconst (v := 0) (dd D114_ok 94 rfl) (by decide) ?_
      exact md_iret (dd D114_ok 95 rfl) rfl ((((((k.2 c1).2 c11).2 c17).2 c24).1 c27).1 c28)
    · refine md_iload_n (dd D114_ok 89 rfl) rfl ?_
      refine md_bipush (v := 50) (dd D114_ok 90 rfl) (by decide) ?_
      refine md_icmp_gt (tgt := 217) (dd D114_ok 91 rfl) (by decide) (fun c29 => ?_) (fun c29 => ?_)
      · refine md_iconst (v := 0) (dd D114_ok 94 rfl) (by decide) ?_
        exact md_iret (dd D114_ok 95 rfl) rfl (((((((k.2 c1).2 c11).2 c17).2 c24).1 c27).2 c28).1 c29)
      · refine md_iconst (v := 1) (dd D114_ok 92 rfl) (by decide) ?_
        refine md_goto (tgt := 218) (dd D114_ok 93 rfl) (by decide) ?_
        exact md_iret (dd D114_ok 95 rfl) rfl (((((((k.2 c1).2 c11).2 c17).2 c24).1 c27).2 c28).2 c29)
  by_cases c30 : x2 = 5
  · refine md_tsw (tgt := 219) (dd D114_ok 1 rfl) (Or.inr ⟨by rw [c30]; decide, by rw [c30]; decide, _, by rw [c30]; rfl, by decide⟩) ?_
    refine md_iload_n (dd D114_ok 96 rfl) rfl ?_
    refine md_if_lt (tgt := 233) (dd D114_ok 97 rfl) (by decide) (fun c31 => ?_) (fun c31 => ?_)
    · refine md_iconst (v := 0) (dd D114_ok 103 rfl) (by decide) ?_
      exact md_iret (dd D114_ok 104 rfl) rfl (((((((k.2 c1).2 c11).2 c17).2 c24).2 c27).1 c30).1 c31)
    · refine md_iload_n (dd D114_ok 98 rfl) rfl ?_
      refine md_bipush (v := 9) (dd D114_ok 99 rfl) (by decide) ?_
      refine md_icmp_gt (tgt := 233) (dd D114_ok 100 rfl) (by decide) (fun c32 => ?_) (fun c32 => ?_)
      · refine md_iconst (v := 0) (dd D114_ok 103 rfl) (by decide) ?_
        exact md_iret (dd D114_ok 104 rfl) rfl ((((((((k.2 c1).2 c11).2 c17).2 c24).2 c27).1 c30).2 c31).1 c32)
      · refine md_iconst (v := 1) (dd D114_ok 101 rfl) (by decide) ?_
        refine md_goto (tgt := 234) (dd D114_ok 102 rfl) (by decide) ?_
        exact md_iret (dd D114_ok 104 rfl) rfl ((((((((k.2 c1).2 c11).2 c17).2 c24).2 c27).1 c30).2 c31).2 c32)
  by_cases c33 : x2 = 6
  · refine md_tsw (tgt := 203) (dd D114_ok 1 rfl) (Or.inr ⟨by rw [c33]; decide, by rw [c33]; decide, _, by rw [c33]; rfl, by decide⟩) ?_
    refine md_iload_n (dd D114_ok 87 rfl) rfl ?_
    refine md_if_lt (tgt := 217) (dd D114_ok 88 rfl) (by decide) (fun c34 => ?_) (fun c34 => ?_)
    · refine md_iconst (v := 0) (dd D114_ok 94 rfl) (by decide) ?_
      exact md_iret (dd D114_ok 95 rfl) rfl ((((((((k.2 c1).2 c11).2 c17).2 c24).2 c27).2 c30).1 c33).1 c34)
    · refine md_iload_n (dd D114_ok 89 rfl) rfl ?_
      refine md_bipush (v := 50) (dd D114_ok 90 rfl) (by decide) ?_
      refine md_icmp_gt (tgt := 217) (dd D114_ok 91 rfl) (by decide) (fun c35 => ?_) (fun c35 => ?_)
      · refine md_iconst (v := 0) (dd D114_ok 94 rfl) (by decide) ?_
        exact md_iret (dd D114_ok 95 rfl) rfl (((((((((k.2 c1).2 c11).2 c17).2 c24).2 c27).2 c30).1 c33).2 c34).1 c35)
      · refine md_iconst (v := 1) (dd D114_ok 92 rfl) (by decide) ?_
        refine md_goto (tgt := 218) (dd D114_ok 93 rfl) (by decide) ?_
        exact md_iret (dd D114_ok 95 rfl) rfl (((((((((k.2 c1).2 c11).2 c17).2 c24).2 c27).2 c30).1 c33).2 c34).2 c35)
  by_cases c36 : x2 = 7
  · refine md_tsw (tgt := 235) (dd D114_ok 1 rfl) (Or.inr ⟨by rw [c36]; decide, by rw [c36]; decide, _, by rw [c36]; rfl, by decide⟩) ?_
    refine md_iload_n (dd D114_ok 105 rfl) rfl ?_
    refine md_if_lt (tgt := 248) (dd D114_ok 106 rfl) (by decide) (fun c37 => ?_) (fun c37 => ?_)
    · refine md_iconst (v := 0) (dd D114_ok 112 rfl) (by decide) ?_
      exact md_iret (dd D114_ok 113 rfl) rfl (((((((((k.2 c1).2 c11).2 c17).2 c24).2 c27).2 c30).2 c33).1 c36).1 c37)
    · refine md_iload_n (dd D114_ok 107 rfl) rfl ?_
      refine md_iconst (v := 2) (dd D114_ok 108 rfl) (by decide) ?_
      refine md_icmp_gt (tgt := 248) (dd D114_ok 109 rfl) (by decide) (fun c38 => ?_) (fun c38 => ?_)
      · refine md_iconst (v := 0) (dd D114_ok 112 rfl) (by decide) ?_
        exact md_iret (dd D114_ok 113 rfl) rfl ((((((((((k.2 c1).2 c11).2 c17).2 c24).2 c27).2 c30).2 c33).1 c36).2 c37).1 c38)
      · refine md_iconst (v := 1) (dd D114_ok 110 rfl) (by decide) ?_
        refine md_goto (tgt := 249) (dd D114_ok 111 rfl) (by decide) ?_
        exact md_iret (dd D114_ok 113 rfl) rfl ((((((((((k.2 c1).2 c11).2 c17).2 c24).2 c27).2 c30).2 c33).1 c36).2 c37).2 c38)
  by_cases c39 : x2 = 8
  · refine md_tsw (tgt := 250) (dd D114_ok 1 rfl) (Or.inr ⟨by rw [c39]; decide, by rw [c39]; decide, _, by rw [c39]; rfl, by decide⟩) ?_
    refine md_iload_n (dd D114_ok 114 rfl) rfl ?_
    refine md_iconst (v := 1) (dd D114_ok 115 rfl) (by decide) ?_
    refine md_icmp_lt (tgt := 264) (dd D114_ok 116 rfl) (by decide) (fun c40 => ?_) (fun c40 => ?_)
    · refine md_iconst (v := 0) (dd D114_ok 122 rfl) (by decide) ?_
      exact md_iret (dd D114_ok 123 rfl) rfl ((((((((((k.2 c1).2 c11).2 c17).2 c24).2 c27).2 c30).2 c33).2 c36).1 c39).1 c40)
    · refine md_iload_n (dd D114_ok 117 rfl) rfl ?_
      refine md_iconst (v := 4) (dd D114_ok 118 rfl) (by decide) ?_
      refine md_icmp_gt (tgt := 264) (dd D114_ok 119 rfl) (by decide) (fun c41 => ?_) (fun c41 => ?_)
      · refine md_iconst (v := 0) (dd D114_ok 122 rfl) (by decide) ?_
        exact md_iret (dd D114_ok 123 rfl) rfl (((((((((((k.2 c1).2 c11).2 c17).2 c24).2 c27).2 c30).2 c33).2 c36).1 c39).2 c40).1 c41)
      · refine md_iconst (v := 1) (dd D114_ok 120 rfl) (by decide) ?_
        refine md_goto (tgt := 265) (dd D114_ok 121 rfl) (by decide) ?_
        exact md_iret (dd D114_ok 123 rfl) rfl (((((((((((k.2 c1).2 c11).2 c17).2 c24).2 c27).2 c30).2 c33).2 c36).1 c39).2 c40).2 c41)
  refine md_tsw (tgt := 266) (dd D114_ok 1 rfl) (Or.inl ⟨md_out9_0 c1 c11 c17 c24 c27 c30 c33 c36 c39, by decide⟩) ?_
  refine md_iconst (v := 0) (dd D114_ok 124 rfl) (by decide) ?_
  exact md_iret (dd D114_ok 125 rfl) rfl (((((((((k.2 c1).2 c11).2 c17).2 c24).2 c27).2 c30).2 c33).2 c36).2 c39)
theorem c_f_mayBe {xs : List Int32} {mo : Nat} {ad : Nat → Nat} {d : Nat} {M : md_S} {x1 x2 x3 : Int32} (hD : md_D mo ad) (hx : vp_in x1 60) : ∀ Q', Q' (some (.int (f_mayBe M x1 x2 x3))) M → md_C xs mo ad (d + 1) 114 [.int x1, .int x2, .int x3] M Q' := by
  intro Q' hQ
  refine md_intro (ms114 xs) (Nat.le_of_ble_eq_true rfl) (fun h0 => vc114_0 hD ?_)
  unfold f_mayBe at hQ
  refine ⟨fun c1 => ?_, fun c1 => ?_⟩
  · rw [if_pos c1] at hQ
    refine ⟨fun c2 => ?_, fun c2 => ?_⟩
    · rw [if_pos c2] at hQ
      refine ⟨by first | assumption | exact md_vl (by decide), ?_⟩
      refine ⟨fun c3 => ?_, fun c3 => ?_⟩
      · rw [if_pos c3] at hQ
        refine ⟨fun c4 => ?_, fun c4 => ?_⟩
        · rw [if_pos c4] at hQ
          exact hQ
        · rw [if_neg c4] at hQ
          refine ⟨fun c5 => ?_, fun c5 => ?_⟩
          · rw [if_pos c5] at hQ
            exact hQ
          · rw [if_neg c5] at hQ
            refine ⟨fun c6 => ?_, fun c6 => ?_⟩
            · rw [if_pos c6] at hQ
              exact hQ
            · rw [if_neg c6] at hQ
              exact hQ
      · rw [if_neg c3] at hQ
        refine ⟨fun c7 => ?_, fun c7 => ?_⟩
        · rw [if_pos c7] at hQ
          exact hQ
        · rw [if_neg c7] at hQ
          refine ⟨fun c8 => ?_, fun c8 => ?_⟩
          · rw [if_pos c8] at hQ
            exact hQ
          · rw [if_neg c8] at hQ
            exact hQ
    · rw [if_neg c2] at hQ
      refine ⟨fun c9 => ?_, fun c9 => ?_⟩
      · rw [if_pos c9] at hQ
        exact hQ
      · rw [if_neg c9] at hQ
        refine ⟨fun c10 => ?_, fun c10 => ?_⟩
        · rw [if_pos c10] at hQ
          exact hQ
        · rw [if_neg c10] at hQ
          exact hQ
  · rw [if_neg c1] at hQ
    refine ⟨fun c11 => ?_, fun c11 => ?_⟩
    · rw [if_pos c11] at hQ
      refine ⟨fun c12 => ?_, fun c12 => ?_⟩
      · rw [if_pos c12] at hQ
        exact hQ
      · rw [if_neg c12] at hQ
        refine ⟨fun c13 => ?_, fun c13 => ?_⟩
        · rw [if_pos c13] at hQ
          exact hQ
        · rw [if_neg c13] at hQ
          refine ⟨by first | assumption | exact md_vl (by decide), ?_⟩
          refine ⟨fun c14 => ?_, fun c14 => ?_⟩
          · rw [if_pos c14] at hQ
            exact hQ
          · rw [if_neg c14] at hQ
            refine ⟨fun c15 => ?_, fun c15 => ?_⟩
            · rw [if_pos c15] at hQ
              exact hQ
            · rw [if_neg c15] at hQ
              refine ⟨fun c16 => ?_, fun c16 => ?_⟩
              · rw [if_pos c16] at hQ
                exact hQ
              · rw [if_neg c16] at hQ
                exact hQ
    · rw [if_neg c11] at hQ
      refine ⟨fun c17 => ?_, fun c17 => ?_⟩
      · rw [if_pos c17] at hQ
        refine ⟨fun c18 => ?_, fun c18 => ?_⟩
        · rw [if_pos c18] at hQ
          refine ⟨fun c19 => ?_, fun c19 => ?_⟩
          · rw [if_pos c19] at hQ
            exact hQ
          · rw [if_neg c19] at hQ
            refine ⟨fun c20 => ?_, fun c20 => ?_⟩
            · rw [if_pos c20] at hQ
              exact hQ
            · rw [if_neg c20] at hQ
              exact hQ
        · rw [if_neg c18] at hQ
          refine ⟨fun c21 => ?_, fun c21 => ?_⟩
          · rw [if_pos c21] at hQ
            exact hQ
          · rw [if_neg c21] at hQ
            refine ⟨fun c22 => ?_, fun c22 => ?_⟩
            · rw [if_pos c22] at hQ
              exact hQ
            · rw [if_neg c22] at hQ
              refine ⟨fun c23 => ?_, fun c23 => ?_⟩
              · rw [if_pos c23] at hQ
                exact hQ
              · rw [if_neg c23] at hQ
                exact hQ
      · rw [if_neg c17] at hQ
        refine ⟨fun c24 => ?_, fun c24 => ?_⟩
        · rw [if_pos c24] at hQ
          refine ⟨fun c25 => ?_, fun c25 => ?_⟩
          · rw [if_pos c25] at hQ
            exact hQ
          · rw [if_neg c25] at hQ
            refine ⟨fun c26 => ?_, fun c26 => ?_⟩
            · rw [if_pos c26] at hQ
              exact hQ
            · rw [if_neg c26] at hQ
              exact hQ
        · rw [if_neg c24] at hQ
          refine ⟨fun c27 => ?_, fun c27 => ?_⟩
          · rw [if_pos c27] at hQ
            refine ⟨fun c28 => ?_, fun c28 => ?_⟩
            · rw [if_pos c28] at hQ
              exact hQ
            · rw [if_neg c28] at hQ
              refine ⟨fun c29 => ?_, fun c29 => ?_⟩
              · rw [if_pos c29] at hQ
                exact hQ
              · rw [if_neg c29] at hQ
                exact hQ
          · rw [if_neg c27] at hQ
            refine ⟨fun c30 => ?_, fun c30 => ?_⟩
            · rw [if_pos c30] at hQ
              refine ⟨fun c31 => ?_, fun c31 => ?_⟩
              · rw [if_pos c31] at hQ
                exact hQ
              · rw [if_neg c31] at hQ
                refine ⟨fun c32 => ?_, fun c32 => ?_⟩
                · rw [if_pos c32] at hQ
                  exact hQ
                · rw [if_neg c32] at hQ
                  exact hQ
            · rw [if_neg c30] at hQ
              refine ⟨fun c33 => ?_, fun c33 => ?_⟩
              · rw [if_pos c33] at hQ
                refine ⟨fun c34 => ?_, fun c34 => ?_⟩
                · rw [if_pos c34] at hQ
                  exact hQ
                · rw [if_neg c34] at hQ
                  refine ⟨fun c35 => ?_, fun c35 => ?_⟩
                  · rw [if_pos c35] at hQ
                    exact hQ
                  · rw [if_neg c35] at hQ
                    exact hQ
              · rw [if_neg c33] at hQ
                refine ⟨fun c36 => ?_, fun c36 => ?_⟩
                · rw [if_pos c36] at hQ
                  refine ⟨fun c37 => ?_, fun c37 => ?_⟩
                  · rw [if_pos c37] at hQ
                    exact hQ
                  · rw [if_neg c37] at hQ
                    refine ⟨fun c38 => ?_, fun c38 => ?_⟩
                    · rw [if_pos c38] at hQ
                      exact hQ
                    · rw [if_neg c38] at hQ
                      exact hQ
                · rw [if_neg c36] at hQ
                  refine ⟨fun c39 => ?_, fun c39 => ?_⟩
                  · rw [if_pos c39] at hQ
                    refine ⟨fun c40 => ?_, fun c40 => ?_⟩
                    · rw [if_pos c40] at hQ
                      exact hQ
                    · rw [if_neg c40] at hQ
                      refine ⟨fun c41 => ?_, fun c41 => ?_⟩
                      · rw [if_pos c41] at hQ
                        exact hQ
                      · rw [if_neg c41] at hQ
                        exact hQ
                  · rw [if_neg c39] at hQ
                    exact hQ
/-- box -/
def f_box (M : md_S) (x1 x2 : Int32) : Int32 := if (f_there M x1) = 0 then (-1) else (if (M.2 23 x1.toNatClampNeg) = 0 then (-1) else (if x2 < 0 then (-1) else (if x2 ≤ 3 then (if ¬ x2 = 0 then (if ¬ x2 = 1 then (if ¬ x2 = 2 then (M.2 27 x1.toNatClampNeg) else (M.2 26 x1.toNatClampNeg)) else (M.2 25 x1.toNatClampNeg)) else (M.2 24 x1.toNatClampNeg)) else (-1))))
set_option maxHeartbeats 1000000 in
theorem vc147_0 {xs : List Int32} {mo : Nat} {ad : Nat → Nat} (hD : md_D mo ad) {h0 : am_H} {d : Nat} {Q : Option Value → md_S → Prop} {M : md_S} {x1 : Int32} {x2 : Int32}
    (k : (((f_there M x1) = 0) → Q (some (.int (-1))) M) ∧ (¬ ((f_there M x1) = 0) → (vp_in x1 60) ∧ ((((M.2 23 x1.toNatClampNeg) = 0) → Q (some (.int (-1))) M) ∧ (¬ ((M.2 23 x1.toNatClampNeg) = 0) → ((x2 < 0) → Q (some (.int (-1))) M) ∧ (¬ (x2 < 0) → ((x2 ≤ 3) → ((¬ x2 = 0) → ((¬ x2 = 1) → ((¬ x2 = 2) → Q (some (.int (M.2 27 x1.toNatClampNeg))) M) ∧ (¬ (¬ x2 = 2) → Q (some (.int (M.2 26 x1.toNatClampNeg))) M)) ∧ (¬ (¬ x2 = 1) → Q (some (.int (M.2 25 x1.toNatClampNeg))) M)) ∧ (¬ (¬ x2 = 0) → Q (some (.int (M.2 24 x1.toNatClampNeg))) M)) ∧ (¬ (x2 ≤ 3) → Q (some (.int (-1))) M)))))) :
    md_wp xs mo ad h0 (d + 1) Q I147 0 [some (.ref mo), some (.int x1), some (.int x2)] [] M := by
  refine md_aload0 (dd D147_ok 0 rfl) rfl ?_
  refine md_iload_n (dd D147_ok 1 rfl) rfl ?_
  refine md_callI (as := [.int x1]) (rest := []) (dd D147_ok 2 rfl) pl9_156 rfl (Nat.le_of_ble_eq_true rfl) (ms111 xs) rfl (c_f_there hD ) rfl ?_
  refine md_if_eq (tgt := 26) (dd D147_ok 3 rfl) (by decide) (fun c1 => ?_) (fun c1 => ?_)
  · refine md_iconst (v := (-1)) (dd D147_ok 14 rfl) (by decide) ?_
    exact md_iret (dd D147_ok 15 rfl) rfl (k.1 c1)
  · refine md_aload0 (dd D147_ok 4 rfl) rfl ?_
    refine md_getA (dd D147_ok 5 rfl) pl9_76 (by decide) rfl ?_
    refine md_iload_n (dd D147_ok 6 rfl) rfl ?_
    refine md_bald (f := 23) (dd D147_ok 7 rfl) rfl (Or.inr rfl) (k.2 c1).1 ?_
    refine md_if_eq (tgt := 26) (dd D147_ok 8 rfl) (by decide) (fun c2 => ?_) (fun c2 => ?_)
    · refine md_iconst (v := (-1)) (dd D147_ok 14 rfl) (by decide) ?_
      exact md_iret (dd D147_ok 15 rfl) rfl ((k.2 c1).2.1 c2)
    · refine md_iload_n (dd D147_ok 9 rfl) rfl ?_
      refine md_if_lt (tgt := 26) (dd D147_ok 10 rfl) (by decide) (fun c3 => ?_) (fun c3 => ?_)
      · refine md_iconst (v := (-1)) (dd D147_ok 14 rfl) (by decide) ?_
        exact md_iret (dd D147_ok 15 rfl) rfl (((k.2 c1).2.2 c2).1 c3)
      · refine md_iload_n (dd D147_ok 11 rfl) rfl ?_
        refine md_iconst (v := 3) (dd D147_ok 12 rfl) (by decide) ?_
        refine md_icmp_le (tgt := 28) (dd D147_ok 13 rfl) (by decide) (fun c4 => ?_) (fun c4 => ?_)
        · refine md_iload_n (dd D147_ok 16 rfl) rfl ?_
          refine md_if_ne (tgt := 41) (dd D147_ok 17 rfl) (by decide) (fun c5 => ?_) (fun c5 => ?_)
          · refine md_iload_n (dd D147_ok 23 rfl) rfl ?_
            refine md_iconst (v := 1) (dd D147_ok 24 rfl) (by decide) ?_
            refine md_icmp_ne (tgt := 55) (dd D147_ok 25 rfl) (by decide) (fun c6 => ?_) (fun c6 => ?_)
            · refine md_iload_n (dd D147_ok 31 rfl) rfl ?_
              refine md_iconst (v := 2) (dd D147_ok 32 rfl) (by decide) ?_
              refine md_icmp_ne (tgt := 69) (dd D147_ok 33 rfl) (by decide) (fun c7 => ?_) (fun c7 => ?_)
              · refine md_aload0 (dd D147_ok 39 rfl) rfl ?_
                refine md_getA (dd D147_ok 40 rfl) pl9_88 (by decide) rfl ?_
                refine md_iload_n (dd D147_ok 41 rfl) rfl ?_
                refine md_iald (f := 27) (dd D147_ok 42 rfl) rfl (k.2 c1).1 ?_
                exact md_iret (dd D147_ok 43 rfl) rfl (((((((k.2 c1).2.2 c2).2 c3).1 c4).1 c5).1 c6).1 c7)
              · refine md_aload0 (dd D147_ok 34 rfl) rfl ?_
                refine md_getA (dd D147_ok 35 rfl) pl9_85 (by decide) rfl ?_
                refine md_iload_n (dd D147_ok 36 rfl) rfl ?_
                refine md_iald (f := 26) (dd D147_ok 37 rfl) rfl (k.2 c1).1 ?_
                refine md_goto (tgt := 75) (dd D147_ok 38 rfl) (by decide) ?_
                exact md_iret (dd D147_ok 43 rfl) rfl (((((((k.2 c1).2.2 c2).2 c3).1 c4).1 c5).1 c6).2 c7)
            · refine md_aload0 (dd D147_ok 26 rfl) rfl ?_
              refine md_getA (dd D147_ok 27 rfl) pl9_82 (by decide) rfl ?_
              refine md_iload_n (dd D147_ok 28 rfl) rfl ?_
              refine md_iald (f := 25) (dd D147_ok 29 rfl) rfl (k.2 c1).1 ?_
              refine md_goto (tgt := 75) (dd D147_ok 30 rfl) (by decide) ?_
              exact md_iret (dd D147_ok 43 rfl) rfl ((((((k.2 c1).2.2 c2).2 c3).1 c4).1 c5).2 c6)
          · refine md_aload0 (dd D147_ok 18 rfl) rfl ?_
            refine md_getA (dd D147_ok 19 rfl) pl9_79 (by decide) rfl ?_
            refine md_iload_n (dd D147_ok 20 rfl) rfl ?_
            refine md_iald (f := 24) (dd D147_ok 21 rfl) rfl (k.2 c1).1 ?_
            refine md_goto (tgt := 75) (dd D147_ok 22 rfl) (by decide) ?_
            exact md_iret (dd D147_ok 43 rfl) rfl (((((k.2 c1).2.2 c2).2 c3).1 c4).2 c5)
        · refine md_iconst (v := (-1)) (dd D147_ok 14 rfl) (by decide) ?_
          exact md_iret (dd D147_ok 15 rfl) rfl ((((k.2 c1).2.2 c2).2 c3).2 c4)
theorem c_f_box {xs : List Int32} {mo : Nat} {ad : Nat → Nat} {d : Nat} {M : md_S} {x1 x2 : Int32} (hD : md_D mo ad) (hx : ¬ ((f_there M x1) = 0) → vp_in x1 60) : ∀ Q', Q' (some (.int (f_box M x1 x2))) M → md_C xs mo ad (d + 2) 147 [.int x1, .int x2] M Q' := by
  intro Q' hQ
  refine md_intro (ms147 xs) (Nat.le_of_ble_eq_true rfl) (fun h0 => vc147_0 hD ?_)
  unfold f_box at hQ
  refine ⟨fun c1 => ?_, fun c1 => ?_⟩
  · rw [if_pos c1] at hQ
    exact hQ
  · rw [if_neg c1] at hQ
    refine ⟨hx c1, ?_⟩
    refine ⟨fun c2 => ?_, fun c2 => ?_⟩
    · rw [if_pos c2] at hQ
      exact hQ
    · rw [if_neg c2] at hQ
      refine ⟨fun c3 => ?_, fun c3 => ?_⟩
      · rw [if_pos c3] at hQ
        exact hQ
      · rw [if_neg c3] at hQ
        refine ⟨fun c4 => ?_, fun c4 => ?_⟩
        · rw [if_pos c4] at hQ
          refine ⟨fun c5 => ?_, fun c5 => ?_⟩
          · rw [if_pos c5] at hQ
            refine ⟨fun c6 => ?_, fun c6 => ?_⟩
            · rw [if_pos c6] at hQ
              refine ⟨fun c7 => ?_, fun c7 => ?_⟩
              · rw [if_pos c7] at hQ
                exact hQ
              · rw [if_neg c7] at hQ
                exact hQ
            · rw [if_neg c6] at hQ
              exact hQ
          · rw [if_neg c5] at hQ
            exact hQ
        · rw [if_neg c4] at hQ
          exact hQ
/-- word -/
def f_word (M : md_S) (x1 x2 : Int32) : Int32 := if x1 < 0 then (-1) else (if x1 < (M.1 29) then (if x2 = 0 then (M.2 30 x1.toNatClampNeg) else (if x2 = 1 then (M.2 33 x1.toNatClampNeg) else (if x2 = 2 then (M.2 34 x1.toNatClampNeg) else (if x2 = 3 then (M.2 35 x1.toNatClampNeg) else (if x2 = 4 then (M.2 36 x1.toNatClampNeg) else (if x2 = 5 then (M.2 31 x1.toNatClampNeg) else (if x2 = 6 then (M.2 32 x1.toNatClampNeg) else (-1)))))))) else (-1))
set_option maxHeartbeats 1000000 in
theorem vc149_0 {xs : List Int32} {mo : Nat} {ad : Nat → Nat} (hD : md_D mo ad) {h0 : am_H} {d : Nat} {Q : Option Value → md_S → Prop} {M : md_S} {x1 : Int32} {x2 : Int32}
    (k : ((x1 < 0) → Q (some (.int (-1))) M) ∧ (¬ (x1 < 0) → ((x1 < (M.1 29)) → ((x2 = 0) → (vp_in x1 3700) ∧ (Q (some (.int (M.2 30 x1.toNatClampNeg))) M)) ∧ (¬ (x2 = 0) → ((x2 = 1) → (vp_in x1 3700) ∧ (Q (some (.int (M.2 33 x1.toNatClampNeg))) M)) ∧ (¬ (x2 = 1) → ((x2 = 2) → (vp_in x1 3700) ∧ (Q (some (.int (M.2 34 x1.toNatClampNeg))) M)) ∧ (¬ (x2 = 2) → ((x2 = 3) → (vp_in x1 3700) ∧ (Q (some (.int (M.2 35 x1.toNatClampNeg))) M)) ∧ (¬ (x2 = 3) → ((x2 = 4) → (vp_in x1 3700) ∧ (Q (some (.int (M.2 36 x1.toNatClampNeg))) M)) ∧ (¬ (x2 = 4) → ((x2 = 5) → (vp_in x1 3700) ∧ (Q (some (.int (M.2 31 x1.toNatClampNeg))) M)) ∧ (¬ (x2 = 5) → ((x2 = 6) → (vp_in x1 3700) ∧ (Q (some (.int (M.2 32 x1.toNatClampNeg))) M)) ∧ (¬ (x2 = 6) → Q (some (.int (-1))) M)))))))) ∧ (¬ (x1 < (M.1 29)) → Q (some (.int (-1))) M))) :
    md_wp xs mo ad h0 d Q I149 0 [some (.ref mo), some (.int x1), some (.int x2)] [] M := by
  refine md_iload_n (dd D149_ok 0 rfl) rfl ?_
  refine md_if_lt (tgt := 12) (dd D149_ok 1 rfl) (by decide) (fun c1 => ?_) (fun c1 => ?_)
  · refine md_iconst (v := (-1)) (dd D149_ok 6 rfl) (by decide) ?_
    exact md_iret (dd D149_ok 7 rfl) rfl (k.1 c1)
  · refine md_iload_n (dd D149_ok 2 rfl) rfl ?_
    refine md_aload0 (dd D149_ok 3 rfl) rfl ?_
    refine md_getI (dd D149_ok 4 rfl) pl9_153 (by decide) rfl ?_
    refine md_icmp_lt (tgt := 14) (dd D149_ok 5 rfl) (by decide) (fun c2 => ?_) (fun c2 => ?_)
    · refine md_iload_n (dd D149_ok 8 rfl) rfl ?_
      by_cases c3 : x2 = 0
      · refine md_tsw (tgt := 56) (dd D149_ok 9 rfl) (Or.inr ⟨by rw [c3]; decide, by rw [c3]; decide, _, by rw [c3]; rfl, by decide⟩) ?_
        refine md_aload0 (dd D149_ok 10 rfl) rfl ?_
        refine md_getA (dd D149_ok 11 rfl) pl9_94 (by decide) rfl ?_
        refine md_iload_n (dd D149_ok 12 rfl) rfl ?_
        refine md_iald (f := 30) (dd D149_ok 13 rfl) rfl (((k.2 c1).1 c2).1 c3).1 ?_
        exact md_iret (dd D149_ok 14 rfl) rfl (((k.2 c1).1 c2).1 c3).2
      by_cases c4 : x2 = 1
      · refine md_tsw (tgt := 63) (dd D149_ok 9 rfl) (Or.inr ⟨by rw [c4]; decide, by rw [c4]; decide, _, by rw [c4]; rfl, by decide⟩) ?_
        refine md_aload0 (dd D149_ok 15 rfl) rfl ?_
        refine md_getA (dd D149_ok 16 rfl) pl9_103 (by decide) rfl ?_
        refine md_iload_n (dd D149_ok 17 rfl) rfl ?_
        refine md_iald (f := 33) (dd D149_ok 18 rfl) rfl ((((k.2 c1).1 c2).2 c3).1 c4).1 ?_
        exact md_iret (dd D149_ok 19 rfl) rfl ((((k.2 c1).1 c2).2 c3).1 c4).2
      by_cases c5 : x2 = 2
      · refine md_tsw (tgt := 70) (dd D149_ok 9 rfl) (Or.inr ⟨by rw [c5]; decide, by rw [c5]; decide, _, by rw [c5]; rfl, by decide⟩) ?_
        refine md_aload0 (dd D149_ok 20 rfl) rfl ?_
        refine md_getA (dd D149_ok 21 rfl) pl9_106 (by decide) rfl ?_
        refine md_iload_n (dd D149_ok 22 rfl) rfl ?_
        refine md_iald (f := 34) (dd D149_ok 23 rfl) rfl (((((k.2 c1).1 c2).2 c3).2 c4).1 c5).1 ?_
        exact md_iret (dd D149_ok 24 rfl) rfl (((((k.2 c1).1 c2).2 c3).2 c4).1 c5).2
      by_cases c6 : x2 = 3
      · refine md_tsw (tgt := 77) (dd D149_ok 9 rfl) (Or.inr ⟨by rw [c6]; decide, by rw [c6]; decide, _, by rw [c6]; rfl, by decide⟩) ?_
        refine md_aload0 (dd D149_ok 25 rfl) rfl ?_
        refine md_getA (dd D149_ok 26 rfl) pl9_109 (by decide) rfl ?_
        refine md_iload_n (dd D149_ok 27 rfl) rfl ?_
        refine md_iald (f := 35) (dd D149_ok 28 rfl) rfl ((((((k.2 c1).1 c2).2 c3).2 c4).2 c5).1 c6).1 ?_
        exact md_iret (dd D149_ok 29 rfl) rfl ((((((k.2 c1).1 c2).2 c3).2 c4).2 c5).1 c6).2
      by_cases c7 : x2 = 4
      · refine md_tsw (tgt := 84) (dd D149_ok 9 rfl) (Or.inr ⟨by rw [c7]; decide, by rw [c7]; decide, _, by rw [c7]; rfl, by decide⟩) ?_
        refine md_aload0 (dd D149_ok 30 rfl) rfl ?_
        refine md_getA (dd D149_ok 31 rfl) pl9_112 (by decide) rfl ?_
        refine md_iload_n (dd D149_ok 32 rfl) rfl ?_
        refine md_iald (f := 36) (dd D149_ok 33 rfl) rfl (((((((k.2 c1).1 c2).2 c3).2 c4).2 c5).2 c6).1 c7).1 ?_
        exact md_iret (dd D149_ok 34 rfl) rfl (((((((k.2 c1).1 c2).2 c3).2 c4).2 c5).2 c6).1 c7).2
      by_cases c8 : x2 = 5
      · refine md_tsw (tgt := 91) (dd D149_ok 9 rfl) (Or.inr ⟨by rw [c8]; decide, by rw [c8]; decide, _, by rw [c8]; rfl, by decide⟩) ?_
        refine md_aload0 (dd D149_ok 35 rfl) rfl ?_
        refine md_getA (dd D149_ok 36 rfl) pl9_97 (by decide) rfl ?_
        refine md_iload_n (dd D149_ok 37 rfl) rfl ?_
        refine md_iald (f := 31) (dd D149_ok 38 rfl) rfl ((((((((k.2 c1).1 c2).2 c3).2 c4).2 c5).2 c6).2 c7).1 c8).1 ?_
        exact md_iret (dd D149_ok 39 rfl) rfl ((((((((k.2 c1).1 c2).2 c3).2 c4).2 c5).2 c6).2 c7).1 c8).2
      by_cases c9 : x2 = 6
      · refine md_tsw (tgt := 98) (dd D149_ok 9 rfl) (Or.inr ⟨by rw [c9]; decide, by rw [c9]; decide, _, by rw [c9]; rfl, by decide⟩) ?_
        refine md_aload0 (dd D149_ok 40 rfl) rfl ?_
        refine md_getA (dd D149_ok 41 rfl) pl9_100 (by decide) rfl ?_
        refine md_iload_n (dd D149_ok 42 rfl) rfl ?_
        refine md_iald (f := 32) (dd D149_ok 43 rfl) rfl (((((((((k.2 c1).1 c2).2 c3).2 c4).2 c5).2 c6).2 c7).2 c8).1 c9).1 ?_
        exact md_iret (dd D149_ok 44 rfl) rfl (((((((((k.2 c1).1 c2).2 c3).2 c4).2 c5).2 c6).2 c7).2 c8).1 c9).2
      refine md_tsw (tgt := 105) (dd D149_ok 9 rfl) (Or.inl ⟨md_out7_0 c3 c4 c5 c6 c7 c8 c9, by decide⟩) ?_
      refine md_iconst (v := (-1)) (dd D149_ok 45 rfl) (by decide) ?_
      exact md_iret (dd D149_ok 46 rfl) rfl (((((((((k.2 c1).1 c2).2 c3).2 c4).2 c5).2 c6).2 c7).2 c8).2 c9)
    · refine md_iconst (v := (-1)) (dd D149_ok 6 rfl) (by decide) ?_
      exact md_iret (dd D149_ok 7 rfl) rfl ((k.2 c1).2 c2)
theorem c_f_word {xs : List Int32} {mo : Nat} {ad : Nat → Nat} {d : Nat} {M : md_S} {x1 x2 : Int32} (hD : md_D mo ad) (hx : ¬ (x1 < 0) → x1 < (M.1 29) → vp_in x1 3700) : ∀ Q', Q' (some (.int (f_word M x1 x2))) M → md_C xs mo ad (d + 1) 149 [.int x1, .int x2] M Q' := by
  intro Q' hQ
  refine md_intro (ms149 xs) (Nat.le_of_ble_eq_true rfl) (fun h0 => vc149_0 hD ?_)
  unfold f_word at hQ
  refine ⟨fun c1 => ?_, fun c1 => ?_⟩
  · rw [if_pos c1] at hQ
    exact hQ
  · rw [if_neg c1] at hQ
    refine ⟨fun c2 => ?_, fun c2 => ?_⟩
    · rw [if_pos c2] at hQ
      refine ⟨fun c3 => ?_, fun c3 => ?_⟩
      · rw [if_pos c3] at hQ
        refine ⟨hx c1 c2, ?_⟩
        exact hQ
      · rw [if_neg c3] at hQ
        refine ⟨fun c4 => ?_, fun c4 => ?_⟩
        · rw [if_pos c4] at hQ
          refine ⟨hx c1 c2, ?_⟩
          exact hQ
        · rw [if_neg c4] at hQ
          refine ⟨fun c5 => ?_, fun c5 => ?_⟩
          · rw [if_pos c5] at hQ
            refine ⟨hx c1 c2, ?_⟩
            exact hQ
          · rw [if_neg c5] at hQ
            refine ⟨fun c6 => ?_, fun c6 => ?_⟩
            · rw [if_pos c6] at hQ
              refine ⟨hx c1 c2, ?_⟩
              exact hQ
            · rw [if_neg c6] at hQ
              refine ⟨fun c7 => ?_, fun c7 => ?_⟩
              · rw [if_pos c7] at hQ
                refine ⟨hx c1 c2, ?_⟩
                exact hQ
              · rw [if_neg c7] at hQ
                refine ⟨fun c8 => ?_, fun c8 => ?_⟩
                · rw [if_pos c8] at hQ
                  refine ⟨hx c1 c2, ?_⟩
                  exact hQ
                · rw [if_neg c8] at hQ
                  refine ⟨fun c9 => ?_, fun c9 => ?_⟩
                  · rw [if_pos c9] at hQ
                    refine ⟨hx c1 c2, ?_⟩
                    exact hQ
                  · rw [if_neg c9] at hQ
                    exact hQ
    · rw [if_neg c2] at hQ
      exact hQ
set_option maxHeartbeats 1000000 in
theorem vc105_0 {xs : List Int32} {mo : Nat} {ad : Nat → Nat} (hD : md_D mo ad) {h0 : am_H} {d : Nat} {Q : Option Value → md_S → Prop} {M : md_S} 
    (k : md_C xs mo ad (d + 3) 106 [.int 0, .int (-1), .int 0] (md_up1 M 2 1) (fun v N1 => v = none ∧ (md_wp xs mo ad h0 (d + 3) Q I105 19 [some (.ref mo), some (.int 0)] [] (md_up1 N1 29 0)))) :
    md_wp xs mo ad h0 (d + 3) Q I105 0 [some (.ref mo), none] [] M := by
  refine md_aload0 (dd D105_ok 0 rfl) rfl ?_
  refine md_iconst (v := 1) (dd D105_ok 1 rfl) (by decide) ?_
  refine md_putI hD (dd D105_ok 2 rfl) pl9_13 (by decide) rfl rfl rfl ?_
  refine md_aload0 (dd D105_ok 3 rfl) rfl ?_
  refine md_iconst (v := 0) (dd D105_ok 4 rfl) (by decide) ?_
  refine md_iconst (v := (-1)) (dd D105_ok 5 rfl) (by decide) ?_
  refine md_iconst (v := 0) (dd D105_ok 6 rfl) (by decide) ?_
  refine md_call (as := [.int 0, .int (-1), .int 0]) (rest := []) (dd D105_ok 7 rfl) pl9_149 rfl (Nat.le_of_ble_eq_true rfl) (ms106 xs) rfl ((k).mono ?_) rfl
  rintro v N1 ⟨rfl, w1⟩
  refine md_aload0 (dd D105_ok 8 rfl) rfl ?_
  refine md_iconst (v := 0) (dd D105_ok 9 rfl) (by decide) ?_
  refine md_putI hD (dd D105_ok 10 rfl) pl9_153 (by decide) rfl rfl rfl ?_
  refine md_iconst (v := 0) (dd D105_ok 11 rfl) (by decide) ?_
  refine md_istore_n (dd D105_ok 12 rfl) (Nat.le_of_ble_eq_true rfl) ?_
  exact w1
set_option maxHeartbeats 1000000 in
theorem vc105_19 {xs : List Int32} {mo : Nat} {ad : Nat → Nat} (hD : md_D mo ad) {h0 : am_H} {d : Nat} {Q : Option Value → md_S → Prop} {M : md_S} {x1 : Int32}
    (k : ((60 ≤ x1) → Q none M) ∧ (¬ (60 ≤ x1) → (vp_in x1 60) ∧ (md_wp xs mo ad h0 (d + 3) Q I105 19 [some (.ref mo), some (.int (x1 + 1))] [] (md_up2 M 23 x1.toNatClampNeg (0 &&& 1))))) :
    md_wp xs mo ad h0 (d + 3) Q I105 19 [some (.ref mo), some (.int x1)] [] M := by
  refine md_iload_n (dd D105_ok 13 rfl) rfl ?_
  refine md_bipush (v := 60) (dd D105_ok 14 rfl) (by decide) ?_
  refine md_icmp_ge (tgt := 38) (dd D105_ok 15 rfl) (by decide) (fun c1 => ?_) (fun c1 => ?_)
  · exact md_vret (dd D105_ok 23 rfl) rfl (k.1 c1)
  · refine md_aload0 (dd D105_ok 16 rfl) rfl ?_
    refine md_getA (dd D105_ok 17 rfl) pl9_76 (by decide) rfl ?_
    refine md_iload_n (dd D105_ok 18 rfl) rfl ?_
    refine md_iconst (v := 0) (dd D105_ok 19 rfl) (by decide) ?_
    refine md_zast (f := 23) hD (dd D105_ok 20 rfl) rfl (k.2 c1).1 ?_
    refine md_iinc (v := x1 + 1) (dd D105_ok 21 rfl) rfl rfl ?_
    refine md_goto (tgt := 19) (dd D105_ok 22 rfl) (by decide) ?_
    exact (k.2 c1).2
/-- no boxes -/
def md_nohad (M : md_S) (j : Nat) : md_S := (M.1, fun f i => if f = 23 ∧ i < j then 0 else M.2 f i)
theorem md_nohad_0 (M : md_S) : md_nohad M 0 = M := by
  unfold md_nohad
  congr 1
  funext f i
  rw [if_neg (by omega)]
theorem md_nohad_succ (M : md_S) (j : Nat) : md_up2 (md_nohad M j) 23 j 0 = md_nohad M (j + 1) := by
  unfold md_nohad md_up2
  congr 1
  funext f i
  by_cases h : f = 23 ∧ i = j
  · rw [if_pos h, if_pos (by omega)]
  · rw [if_neg h]
    show (if f = 23 ∧ i < j then 0 else M.2 f i) = _
    by_cases h2 : f = 23 ∧ i < j
    · rw [if_pos h2, if_pos (by omega)]
    · rw [if_neg h2, if_neg (by omega)]
theorem c_clear_loop {xs : List Int32} {mo : Nat} {ad : Nat → Nat} (hD : md_D mo ad) {h0 : am_H} {d : Nat} {Q : Option Value → md_S → Prop} {M : md_S} (hQ : Q none (md_nohad M 60)) : ∀ r j, j + r = 60 → md_wp xs mo ad h0 (d + 3) Q I105 19 [some (.ref mo), some (.int (nI j))] [] (md_nohad M j) := by
  intro r
  induction r with
  | zero =>
    intro j hj
    obtain rfl : j = 60 := by omega
    exact vc105_19 hD ⟨fun _ => hQ, fun q => absurd (by decide) q⟩
  | succ r ih =>
    intro j hj
    have hj9 : ¬ (60 : Int32) ≤ nI j := nI_ge (a := j) (b := 60) (by omega) (by decide)
    refine vc105_19 hD ⟨fun q => absurd q hj9, fun _ => ⟨vp_nI (by omega) (by decide), ?_⟩⟩
    rw [nI_clamp (by omega), show ((0 : Int32) &&& 1) = 0 by decide, md_nohad_succ, nI_1]
    exact ih (j + 1) (by omega)
def f_clear_M (M : md_S) : md_S := md_nohad (md_up1 (f_fresh_M (md_up1 M 2 1) 0 (-1) 0) 29 0) 60
theorem c_clear {xs : List Int32} {mo : Nat} {ad : Nat → Nat} {d : Nat} {M : md_S} (hD : md_D mo ad) : ∀ Q', Q' none (f_clear_M M) → md_C xs mo ad (d + 4) 105 [] M Q' := by
  intro Q' hQ
  refine md_intro (ms105 xs) (Nat.le_of_ble_eq_true rfl) (fun h0 => vc105_0 hD ?_)
  refine c_fresh (n := 0) hD (by decide) (fun q => absurd rfl q) _ ⟨rfl, ?_⟩
  have := c_clear_loop (xs := xs) (mo := mo) (ad := ad) (h0 := h0) (d := d) (M := md_up1 (f_fresh_M (md_up1 M 2 1) 0 (-1) 0) 29 0) hD hQ 60 0 rfl
  rw [md_nohad_0] at this
  exact this
set_option maxHeartbeats 1000000 in
theorem vc110_0 {xs : List Int32} {mo : Nat} {ad : Nat → Nat} (hD : md_D mo ad) {h0 : am_H} {d : Nat} {Q : Option Value → md_S → Prop} {M : md_S} {x1 : Int32} {x2 : Int32}
    (k : (((f_there M x1) = 0) → Q (some (.int (-1))) M) ∧ (¬ ((f_there M x1) = 0) → (vp_in x1 60) ∧ (((¬ (M.2 3 x1.toNatClampNeg) = 0) → Q (some (.int (-1))) M) ∧ (¬ (¬ (M.2 3 x1.toNatClampNeg) = 0) → ((x2 < 0) → Q (some (.int (-1))) M) ∧ (¬ (x2 < 0) → ((3 < x2) → Q (some (.int (-1))) M) ∧ (¬ (3 < x2) → (((M.1 2) = 60) → Q (some (.int (-1))) M) ∧ (¬ ((M.1 2) = 60) → ((¬ (M.2 8 x1.toNatClampNeg) = 12) → md_C xs mo ad (d + 3) 106 [.int (M.1 2), .int x1, .int x2] M (fun v N1 => v = none ∧ ((vp_in (N1.1 2) 60) ∧ (Q (some (.int (((md_up1 (md_up2 N1 23 (N1.1 2).toNatClampNeg (0 &&& 1)) 2 (((md_up2 N1 23 (N1.1 2).toNatClampNeg (0 &&& 1)).1 2) + 1)).1 2) - 1))) (md_up1 (md_up2 N1 23 (N1.1 2).toNatClampNeg (0 &&& 1)) 2 (((md_up2 N1 23 (N1.1 2).toNatClampNeg (0 &&& 1)).1 2) + 1)))))) ∧ (¬ (¬ (M.2 8 x1.toNatClampNeg) = 12) → Q (some (.int (-1))) M)))))))) :
    md_wp xs mo ad h0 (d + 3) Q I110 0 [some (.ref mo), some (.int x1), some (.int x2)] [] M := by
  refine md_aload0 (dd D110_ok 0 rfl) rfl ?_
  refine md_iload_n (dd D110_ok 1 rfl) rfl ?_
  refine md_callI (as := [.int x1]) (rest := []) (dd D110_ok 2 rfl) pl9_156 rfl (Nat.le_of_ble_eq_true rfl) (ms111 xs) rfl (c_f_there hD ) rfl ?_
  refine md_if_eq (tgt := 46) (dd D110_ok 3 rfl) (by decide) (fun c1 => ?_) (fun c1 => ?_)
  · refine md_iconst (v := (-1)) (dd D110_ok 24 rfl) (by decide) ?_
    exact md_iret (dd D110_ok 25 rfl) rfl (k.1 c1)
  · refine md_aload0 (dd D110_ok 4 rfl) rfl ?_
    refine md_getA (dd D110_ok 5 rfl) pl9_17 (by decide) rfl ?_
    refine md_iload_n (dd D110_ok 6 rfl) rfl ?_
    refine md_iald (f := 3) (dd D110_ok 7 rfl) rfl (k.2 c1).1 ?_
    refine md_if_ne (tgt := 46) (dd D110_ok 8 rfl) (by decide) (fun c2 => ?_) (fun c2 => ?_)
    · refine md_iconst (v := (-1)) (dd D110_ok 24 rfl) (by decide) ?_
      exact md_iret (dd D110_ok 25 rfl) rfl ((k.2 c1).2.1 c2)
    · refine md_iload_n (dd D110_ok 9 rfl) rfl ?_
      refine md_if_lt (tgt := 46) (dd D110_ok 10 rfl) (by decide) (fun c3 => ?_) (fun c3 => ?_)
      · refine md_iconst (v := (-1)) (dd D110_ok 24 rfl) (by decide) ?_
        exact md_iret (dd D110_ok 25 rfl) rfl (((k.2 c1).2.2 c2).1 c3)
      · refine md_iload_n (dd D110_ok 11 rfl) rfl ?_
        refine md_iconst (v := 3) (dd D110_ok 12 rfl) (by decide) ?_
        refine md_icmp_gt (tgt := 46) (dd D110_ok 13 rfl) (by decide) (fun c4 => ?_) (fun c4 => ?_)
        · refine md_iconst (v := (-1)) (dd D110_ok 24 rfl) (by decide) ?_
          exact md_iret (dd D110_ok 25 rfl) rfl ((((k.2 c1).2.2 c2).2 c3).1 c4)
        · refine md_aload0 (dd D110_ok 14 rfl) rfl ?_
          refine md_getI (dd D110_ok 15 rfl) pl9_13 (by decide) rfl ?_
          refine md_bipush (v := 60) (dd D110_ok 16 rfl) (by decide) ?_
          refine md_icmp_eq (tgt := 46) (dd D110_ok 17 rfl) (by decide) (fun c5 => ?_) (fun c5 => ?_)
          · refine md_iconst (v := (-1)) (dd D110_ok 24 rfl) (by decide) ?_
            exact md_iret (dd D110_ok 25 rfl) rfl (((((k.2 c1).2.2 c2).2 c3).2 c4).1 c5)
          · refine md_aload0 (dd D110_ok 18 rfl) rfl ?_
            refine md_getA (dd D110_ok 19 rfl) pl9_33 (by decide) rfl ?_
            refine md_iload_n (dd D110_ok 20 rfl) rfl ?_
            refine md_iald (f := 8) (dd D110_ok 21 rfl) rfl (k.2 c1).1 ?_
            refine md_bipush (v := 12) (dd D110_ok 22 rfl) (by decide) ?_
            refine md_icmp_ne (tgt := 48) (dd D110_ok 23 rfl) (by decide) (fun c6 => ?_) (fun c6 => ?_)
            · refine md_aload0 (dd D110_ok 26 rfl) rfl ?_
              refine md_aload0 (dd D110_ok 27 rfl) rfl ?_
              refine md_getI (dd D110_ok 28 rfl) pl9_13 (by decide) rfl ?_
              refine md_iload_n (dd D110_ok 29 rfl) rfl ?_
              refine md_iload_n (dd D110_ok 30 rfl) rfl ?_
              refine md_call (as := [.int (M.1 2), .int x1, .int x2]) (rest := []) (dd D110_ok 31 rfl) pl9_149 rfl (Nat.le_of_ble_eq_true rfl) (ms106 xs) rfl ((((((((k.2 c1).2.2 c2).2 c3).2 c4).2 c5).1 c6)).mono ?_) rfl
              rintro v N1 ⟨rfl, w1⟩
              refine md_aload0 (dd D110_ok 32 rfl) rfl ?_
              refine md_getA (dd D110_ok 33 rfl) pl9_76 (by decide) rfl ?_
              refine md_aload0 (dd D110_ok 34 rfl) rfl ?_
              refine md_getI (dd D110_ok 35 rfl) pl9_13 (by decide) rfl ?_
              refine md_iconst (v := 0) (dd D110_ok 36 rfl) (by decide) ?_
              refine md_zast (f := 23) hD (dd D110_ok 37 rfl) rfl w1.1 ?_
              refine md_aload0 (dd D110_ok 38 rfl) rfl ?_
              refine md_dup (dd D110_ok 39 rfl) ?_
              refine md_getI (dd D110_ok 40 rfl) pl9_13 (by decide) rfl ?_
              refine md_iconst (v := 1) (dd D110_ok 41 rfl) (by decide) ?_
              refine md_iadd (dd D110_ok 42 rfl) ?_
              refine md_putI hD (dd D110_ok 43 rfl) pl9_13 (by decide) rfl rfl rfl ?_
              refine md_aload0 (dd D110_ok 44 rfl) rfl ?_
              refine md_getI (dd D110_ok 45 rfl) pl9_13 (by decide) rfl ?_
              refine md_iconst (v := 1) (dd D110_ok 46 rfl) (by decide) ?_
              refine md_isub (dd D110_ok 47 rfl) ?_
              exact md_iret (dd D110_ok 48 rfl) rfl w1.2
            · refine md_iconst (v := (-1)) (dd D110_ok 24 rfl) (by decide) ?_
              exact md_iret (dd D110_ok 25 rfl) rfl ((((((k.2 c1).2.2 c2).2 c3).2 c4).2 c5).2 c6)
theorem f_there_nI {M : md_S} {nn i : Nat} (hn : M.1 2 = nI nn) (h6 : nn ≤ 60) (hi : i < nn) : f_there M (nI i) = 1 := by
  unfold f_there
  rw [hn, if_neg (nI_pos (by omega)), if_neg (nI_ge hi (by omega))]
theorem f_there_of {M : md_S} {nn : Nat} {a : Int32} (hn : M.1 2 = nI nn) (h6 : nn ≤ 60) (h : ¬ f_there M a = 0) : ∃ i, i < nn ∧ a = nI i := by
  unfold f_there at h
  by_cases h1 : a < 0
  · rw [if_pos h1] at h
    exact absurd rfl h
  · rw [if_neg h1] at h
    obtain ⟨j, hj, rfl⟩ := nI_of h1
    by_cases h2 : M.1 2 ≤ nI j
    · rw [if_pos h2] at h
      exact absurd rfl h
    · rw [hn, nI_leI (by omega) hj] at h2
      exact ⟨j, by omega, rfl⟩
end
