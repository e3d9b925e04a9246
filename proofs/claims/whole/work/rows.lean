section
-- ===== PART A: goes FIRST, ahead of the names: the tables' words, and 'selects' of the private methods out of them =====
/-- a private method of a class that the tables say can be made, by its rows of tables_1 -/
def lw_okq (q : MethodName × Nat) : Prop := (q.1.cls ≠ "java/lang/invoke/MethodHandle" ∧ q.1.cls ≠ "java/lang/invoke/VarHandle") ∧ Cond.instantiable q.1.cls q.2 ∈ tables_1 ∧ Cond.privateMethod q.1 ∈ tables_1 ∧ Cond.instanceMethod q.1 ∈ tables_1
theorem lw_p0 : lw_okq (⟨"LineFlow", "plantRoot", "()V"⟩, 5) := ⟨⟨by decide +kernel, by decide +kernel⟩, List.mem_of_getElem? (i := 22) (by decide +kernel), List.mem_of_getElem? (i := 193) (by decide +kernel), List.mem_of_getElem? (i := 194) (by decide +kernel)⟩
theorem lw_p1 : lw_okq (⟨"LineFlow", "putOnTape", "(I)V"⟩, 5) := ⟨⟨by decide +kernel, by decide +kernel⟩, List.mem_of_getElem? (i := 22) (by decide +kernel), List.mem_of_getElem? (i := 342) (by decide +kernel), List.mem_of_getElem? (i := 343) (by decide +kernel)⟩
theorem lw_p2 : lw_okq (⟨"LineFlow", "elementAt", "(I)LLineFlow$Node;"⟩, 5) := ⟨⟨by decide +kernel, by decide +kernel⟩, List.mem_of_getElem? (i := 22) (by decide +kernel), List.mem_of_getElem? (i := 362) (by decide +kernel), List.mem_of_getElem? (i := 363) (by decide +kernel)⟩
theorem lw_p3 : lw_okq (⟨"LineFlow", "nodeAt", "(I)LLineFlow$Node;"⟩, 5) := ⟨⟨by decide +kernel, by decide +kernel⟩, List.mem_of_getElem? (i := 22) (by decide +kernel), List.mem_of_getElem? (i := 366) (by decide +kernel), List.mem_of_getElem? (i := 367) (by decide +kernel)⟩
theorem lw_p4 : lw_okq (⟨"LineFlow$Layout", "prepare", "(LLineFlow$Node;I)V"⟩, 4) := ⟨⟨by decide +kernel, by decide +kernel⟩, List.mem_of_getElem? (i := 32) (by decide +kernel), List.mem_of_getElem? (i := 418) (by decide +kernel), List.mem_of_getElem? (i := 419) (by decide +kernel)⟩
theorem lw_p5 : lw_okq (⟨"LineFlow$Layout", "listWords", "(LLineFlow$Node;)V"⟩, 4) := ⟨⟨by decide +kernel, by decide +kernel⟩, List.mem_of_getElem? (i := 32) (by decide +kernel), List.mem_of_getElem? (i := 422) (by decide +kernel), List.mem_of_getElem? (i := 423) (by decide +kernel)⟩
theorem lw_p6 : lw_okq (⟨"LineFlow$Layout", "listWord", "(LLineFlow$Node;III)V"⟩, 4) := ⟨⟨by decide +kernel, by decide +kernel⟩, List.mem_of_getElem? (i := 32) (by decide +kernel), List.mem_of_getElem? (i := 432) (by decide +kernel), List.mem_of_getElem? (i := 433) (by decide +kernel)⟩
theorem lw_p7 : lw_okq (⟨"java/util/ArrayList", "add", "(Ljava/lang/Object;[Ljava/lang/Object;I)V"⟩, 3) := ⟨⟨by decide +kernel, by decide +kernel⟩, List.mem_of_getElem? (i := 38) (by decide +kernel), List.mem_of_getElem? (i := 470) (by decide +kernel), List.mem_of_getElem? (i := 471) (by decide +kernel)⟩
theorem lw_p8 : lw_okq (⟨"java/util/ArrayList", "grow", "()[Ljava/lang/Object;"⟩, 3) := ⟨⟨by decide +kernel, by decide +kernel⟩, List.mem_of_getElem? (i := 38) (by decide +kernel), List.mem_of_getElem? (i := 474) (by decide +kernel), List.mem_of_getElem? (i := 475) (by decide +kernel)⟩
theorem lw_p9 : lw_okq (⟨"java/util/ArrayList", "grow", "(I)[Ljava/lang/Object;"⟩, 3) := ⟨⟨by decide +kernel, by decide +kernel⟩, List.mem_of_getElem? (i := 38) (by decide +kernel), List.mem_of_getElem? (i := 478) (by decide +kernel), List.mem_of_getElem? (i := 479) (by decide +kernel)⟩
theorem lw_p10 : lw_okq (⟨"LineFlow$Layout", "layElement", "(LLineFlow$Node;III)V"⟩, 4) := ⟨⟨by decide +kernel, by decide +kernel⟩, List.mem_of_getElem? (i := 32) (by decide +kernel), List.mem_of_getElem? (i := 539) (by decide +kernel), List.mem_of_getElem? (i := 540) (by decide +kernel)⟩
theorem lw_p11 : lw_okq (⟨"LineFlow$Layout", "layRow", "(LLineFlow$Flow;)I"⟩, 4) := ⟨⟨by decide +kernel, by decide +kernel⟩, List.mem_of_getElem? (i := 32) (by decide +kernel), List.mem_of_getElem? (i := 560) (by decide +kernel), List.mem_of_getElem? (i := 561) (by decide +kernel)⟩
theorem lw_p12 : lw_okq (⟨"LineFlow$Layout", "measurePiece", "(LLineFlow$Node;I)V"⟩, 4) := ⟨⟨by decide +kernel, by decide +kernel⟩, List.mem_of_getElem? (i := 32) (by decide +kernel), List.mem_of_getElem? (i := 564) (by decide +kernel), List.mem_of_getElem? (i := 565) (by decide +kernel)⟩
theorem lw_p13 : lw_okq (⟨"LineFlow$Layout", "textWidth", "(LLineFlow$Node;)I"⟩, 4) := ⟨⟨by decide +kernel, by decide +kernel⟩, List.mem_of_getElem? (i := 32) (by decide +kernel), List.mem_of_getElem? (i := 572) (by decide +kernel), List.mem_of_getElem? (i := 573) (by decide +kernel)⟩
theorem lw_p14 : lw_okq (⟨"LineFlow$Ruler", "addTexts", "(LLineFlow$Node;)V"⟩, 2) := ⟨⟨by decide +kernel, by decide +kernel⟩, List.mem_of_getElem? (i := 67) (by decide +kernel), List.mem_of_getElem? (i := 580) (by decide +kernel), List.mem_of_getElem? (i := 581) (by decide +kernel)⟩
theorem lw_p15 : lw_okq (⟨"LineFlow$Ruler", "addBytes", "([B)V"⟩, 2) := ⟨⟨by decide +kernel, by decide +kernel⟩, List.mem_of_getElem? (i := 67) (by decide +kernel), List.mem_of_getElem? (i := 584) (by decide +kernel), List.mem_of_getElem? (i := 585) (by decide +kernel)⟩
def lw_privs_1 : List (MethodName × Nat) := [(⟨"LineFlow", "plantRoot", "()V"⟩, 5), (⟨"LineFlow", "putOnTape", "(I)V"⟩, 5), (⟨"LineFlow", "elementAt", "(I)LLineFlow$Node;"⟩, 5), (⟨"LineFlow", "nodeAt", "(I)LLineFlow$Node;"⟩, 5), (⟨"LineFlow$Layout", "prepare", "(LLineFlow$Node;I)V"⟩, 4), (⟨"LineFlow$Layout", "listWords", "(LLineFlow$Node;)V"⟩, 4), (⟨"LineFlow$Layout", "listWord", "(LLineFlow$Node;III)V"⟩, 4), (⟨"java/util/ArrayList", "add", "(Ljava/lang/Object;[Ljava/lang/Object;I)V"⟩, 3), (⟨"java/util/ArrayList", "grow", "()[Ljava/lang/Object;"⟩, 3), (⟨"java/util/ArrayList", "grow", "(I)[Ljava/lang/Object;"⟩, 3), (⟨"LineFlow$Layout", "layElement", "(LLineFlow$Node;III)V"⟩, 4), (⟨"LineFlow$Layout", "layRow", "(LLineFlow$Flow;)I"⟩, 4), (⟨"LineFlow$Layout", "measurePiece", "(LLineFlow$Node;I)V"⟩, 4), (⟨"LineFlow$Layout", "textWidth", "(LLineFlow$Node;)I"⟩, 4), (⟨"LineFlow$Ruler", "addTexts", "(LLineFlow$Node;)V"⟩, 2), (⟨"LineFlow$Ruler", "addBytes", "([B)V"⟩, 2)]
theorem lw_r1 : ∀ q ∈ lw_privs_1, lw_okq q := List.forall_mem_cons.mpr ⟨lw_p0, List.forall_mem_cons.mpr ⟨lw_p1, List.forall_mem_cons.mpr ⟨lw_p2, List.forall_mem_cons.mpr ⟨lw_p3, List.forall_mem_cons.mpr ⟨lw_p4, List.forall_mem_cons.mpr ⟨lw_p5, List.forall_mem_cons.mpr ⟨lw_p6, List.forall_mem_cons.mpr ⟨lw_p7, List.forall_mem_cons.mpr ⟨lw_p8, List.forall_mem_cons.mpr ⟨lw_p9, List.forall_mem_cons.mpr ⟨lw_p10, List.forall_mem_cons.mpr ⟨lw_p11, List.forall_mem_cons.mpr ⟨lw_p12, List.forall_mem_cons.mpr ⟨lw_p13, List.forall_mem_cons.mpr ⟨lw_p14, List.forall_mem_cons.mpr ⟨lw_p15, fun _ h => absurd h List.not_mem_nil⟩⟩⟩⟩⟩⟩⟩⟩⟩⟩⟩⟩⟩⟩⟩⟩
theorem lw_p16 : lw_okq (⟨"LineFlow$Layout", "layDown", "(LLineFlow$Flow;)I"⟩, 4) := ⟨⟨by decide +kernel, by decide +kernel⟩, List.mem_of_getElem? (i := 32) (by decide +kernel), List.mem_of_getElem? (i := 599) (by decide +kernel), List.mem_of_getElem? (i := 600) (by decide +kernel)⟩
theorem lw_p17 : lw_okq (⟨"LineFlow$Layout", "addFloat", "(LLineFlow$Flow;LLineFlow$Node;)V"⟩, 4) := ⟨⟨by decide +kernel, by decide +kernel⟩, List.mem_of_getElem? (i := 32) (by decide +kernel), List.mem_of_getElem? (i := 603) (by decide +kernel), List.mem_of_getElem? (i := 604) (by decide +kernel)⟩
theorem lw_p18 : lw_okq (⟨"LineFlow$Layout", "putFloat", "(LLineFlow$Flow;LLineFlow$Node;)V"⟩, 4) := ⟨⟨by decide +kernel, by decide +kernel⟩, List.mem_of_getElem? (i := 32) (by decide +kernel), List.mem_of_getElem? (i := 615) (by decide +kernel), List.mem_of_getElem? (i := 616) (by decide +kernel)⟩
theorem lw_p19 : lw_okq (⟨"LineFlow$Floats", "leastEndAt", "(I)I"⟩, 6) := ⟨⟨by decide +kernel, by decide +kernel⟩, List.mem_of_getElem? (i := 85) (by decide +kernel), List.mem_of_getElem? (i := 624) (by decide +kernel), List.mem_of_getElem? (i := 625) (by decide +kernel)⟩
theorem lw_p20 : lw_okq (⟨"LineFlow$Layout", "addInline", "(LLineFlow$Flow;LLineFlow$Node;)V"⟩, 4) := ⟨⟨by decide +kernel, by decide +kernel⟩, List.mem_of_getElem? (i := 32) (by decide +kernel), List.mem_of_getElem? (i := 657) (by decide +kernel), List.mem_of_getElem? (i := 658) (by decide +kernel)⟩
theorem lw_p21 : lw_okq (⟨"LineFlow$Layout", "addWords", "(LLineFlow$Flow;LLineFlow$Node;)V"⟩, 4) := ⟨⟨by decide +kernel, by decide +kernel⟩, List.mem_of_getElem? (i := 32) (by decide +kernel), List.mem_of_getElem? (i := 661) (by decide +kernel), List.mem_of_getElem? (i := 662) (by decide +kernel)⟩
theorem lw_p22 : lw_okq (⟨"LineFlow$Layout", "addItem", "(LLineFlow$Flow;LLineFlow$Box;I)V"⟩, 4) := ⟨⟨by decide +kernel, by decide +kernel⟩, List.mem_of_getElem? (i := 32) (by decide +kernel), List.mem_of_getElem? (i := 665) (by decide +kernel), List.mem_of_getElem? (i := 666) (by decide +kernel)⟩
theorem lw_p23 : lw_okq (⟨"LineFlow$Layout", "endLine", "(LLineFlow$Flow;)V"⟩, 4) := ⟨⟨by decide +kernel, by decide +kernel⟩, List.mem_of_getElem? (i := 32) (by decide +kernel), List.mem_of_getElem? (i := 678) (by decide +kernel), List.mem_of_getElem? (i := 679) (by decide +kernel)⟩
theorem lw_p24 : lw_okq (⟨"LineFlow$Line", "spaceAhead", "(I)I"⟩, 5) := ⟨⟨by decide +kernel, by decide +kernel⟩, List.mem_of_getElem? (i := 113) (by decide +kernel), List.mem_of_getElem? (i := 686) (by decide +kernel), List.mem_of_getElem? (i := 687) (by decide +kernel)⟩
theorem lw_p25 : lw_okq (⟨"LineFlow$Layout", "addBreak", "(LLineFlow$Flow;LLineFlow$Node;)V"⟩, 4) := ⟨⟨by decide +kernel, by decide +kernel⟩, List.mem_of_getElem? (i := 32) (by decide +kernel), List.mem_of_getElem? (i := 699) (by decide +kernel), List.mem_of_getElem? (i := 700) (by decide +kernel)⟩
theorem lw_p26 : lw_okq (⟨"LineFlow$Layout", "addBlock", "(LLineFlow$Flow;LLineFlow$Node;)V"⟩, 4) := ⟨⟨by decide +kernel, by decide +kernel⟩, List.mem_of_getElem? (i := 32) (by decide +kernel), List.mem_of_getElem? (i := 703) (by decide +kernel), List.mem_of_getElem? (i := 704) (by decide +kernel)⟩
theorem lw_p27 : lw_okq (⟨"LineFlowModel", "fresh", "(III)V"⟩, 56) := ⟨⟨by decide +kernel, by decide +kernel⟩, List.mem_of_getElem? (i := 764) (by decide +kernel), List.mem_of_getElem? (i := 774) (by decide +kernel), List.mem_of_getElem? (i := 775) (by decide +kernel)⟩
theorem lw_p28 : lw_okq (⟨"LineFlowModel", "putFour", "(I)V"⟩, 56) := ⟨⟨by decide +kernel, by decide +kernel⟩, List.mem_of_getElem? (i := 764) (by decide +kernel), List.mem_of_getElem? (i := 952) (by decide +kernel), List.mem_of_getElem? (i := 953) (by decide +kernel)⟩
theorem lw_p29 : lw_okq (⟨"LineFlowModel", "there", "(I)Z"⟩, 56) := ⟨⟨by decide +kernel, by decide +kernel⟩, List.mem_of_getElem? (i := 764) (by decide +kernel), List.mem_of_getElem? (i := 965) (by decide +kernel), List.mem_of_getElem? (i := 966) (by decide +kernel)⟩
theorem lw_p30 : lw_okq (⟨"LineFlowModel", "mayBe", "(III)Z"⟩, 56) := ⟨⟨by decide +kernel, by decide +kernel⟩, List.mem_of_getElem? (i := 764) (by decide +kernel), List.mem_of_getElem? (i := 977) (by decide +kernel), List.mem_of_getElem? (i := 978) (by decide +kernel)⟩
theorem lw_p31 : lw_okq (⟨"LineFlowModel", "modes", "()V"⟩, 56) := ⟨⟨by decide +kernel, by decide +kernel⟩, List.mem_of_getElem? (i := 764) (by decide +kernel), List.mem_of_getElem? (i := 985) (by decide +kernel), List.mem_of_getElem? (i := 986) (by decide +kernel)⟩
def lw_privs_2 : List (MethodName × Nat) := [(⟨"LineFlow$Layout", "layDown", "(LLineFlow$Flow;)I"⟩, 4), (⟨"LineFlow$Layout", "addFloat", "(LLineFlow$Flow;LLineFlow$Node;)V"⟩, 4), (⟨"LineFlow$Layout", "putFloat", "(LLineFlow$Flow;LLineFlow$Node;)V"⟩, 4), (⟨"LineFlow$Floats", "leastEndAt", "(I)I"⟩, 6), (⟨"LineFlow$Layout", "addInline", "(LLineFlow$Flow;LLineFlow$Node;)V"⟩, 4), (⟨"LineFlow$Layout", "addWords", "(LLineFlow$Flow;LLineFlow$Node;)V"⟩, 4), (⟨"LineFlow$Layout", "addItem", "(LLineFlow$Flow;LLineFlow$Box;I)V"⟩, 4), (⟨"LineFlow$Layout", "endLine", "(LLineFlow$Flow;)V"⟩, 4), (⟨"LineFlow$Line", "spaceAhead", "(I)I"⟩, 5), (⟨"LineFlow$Layout", "addBreak", "(LLineFlow$Flow;LLineFlow$Node;)V"⟩, 4), (⟨"LineFlow$Layout", "addBlock", "(LLineFlow$Flow;LLineFlow$Node;)V"⟩, 4), (⟨"LineFlowModel", "fresh", "(III)V"⟩, 56), (⟨"LineFlowModel", "putFour", "(I)V"⟩, 56), (⟨"LineFlowModel", "there", "(I)Z"⟩, 56), (⟨"LineFlowModel", "mayBe", "(III)Z"⟩, 56), (⟨"LineFlowModel", "modes", "()V"⟩, 56)]
theorem lw_r2 : ∀ q ∈ lw_privs_2, lw_okq q := List.forall_mem_cons.mpr ⟨lw_p16, List.forall_mem_cons.mpr ⟨lw_p17, List.forall_mem_cons.mpr ⟨lw_p18, List.forall_mem_cons.mpr ⟨lw_p19, List.forall_mem_cons.mpr ⟨lw_p20, List.forall_mem_cons.mpr ⟨lw_p21, List.forall_mem_cons.mpr ⟨lw_p22, List.forall_mem_cons.mpr ⟨lw_p23, List.forall_mem_cons.mpr ⟨lw_p24, List.forall_mem_cons.mpr ⟨lw_p25, List.forall_mem_cons.mpr ⟨lw_p26, List.forall_mem_cons.mpr ⟨lw_p27, List.forall_mem_cons.mpr ⟨lw_p28, List.forall_mem_cons.mpr ⟨lw_p29, List.forall_mem_cons.mpr ⟨lw_p30, List.forall_mem_cons.mpr ⟨lw_p31, fun _ h => absurd h List.not_mem_nil⟩⟩⟩⟩⟩⟩⟩⟩⟩⟩⟩⟩⟩⟩⟩⟩
theorem lw_p32 : lw_okq (⟨"LineFlowModel", "isBox", "(I)Z"⟩, 56) := ⟨⟨by decide +kernel, by decide +kernel⟩, List.mem_of_getElem? (i := 764) (by decide +kernel), List.mem_of_getElem? (i := 989) (by decide +kernel), List.mem_of_getElem? (i := 990) (by decide +kernel)⟩
theorem lw_p33 : lw_okq (⟨"LineFlowModel", "of", "(II)I"⟩, 56) := ⟨⟨by decide +kernel, by decide +kernel⟩, List.mem_of_getElem? (i := 764) (by decide +kernel), List.mem_of_getElem? (i := 993) (by decide +kernel), List.mem_of_getElem? (i := 994) (by decide +kernel)⟩
theorem lw_p34 : lw_okq (⟨"LineFlowModel", "modeOf", "(I)I"⟩, 56) := ⟨⟨by decide +kernel, by decide +kernel⟩, List.mem_of_getElem? (i := 764) (by decide +kernel), List.mem_of_getElem? (i := 997) (by decide +kernel), List.mem_of_getElem? (i := 998) (by decide +kernel)⟩
theorem lw_p35 : lw_okq (⟨"LineFlowModel", "after", "(II)I"⟩, 56) := ⟨⟨by decide +kernel, by decide +kernel⟩, List.mem_of_getElem? (i := 764) (by decide +kernel), List.mem_of_getElem? (i := 1001) (by decide +kernel), List.mem_of_getElem? (i := 1002) (by decide +kernel)⟩
theorem lw_p36 : lw_okq (⟨"LineFlowModel", "behind", "(II)I"⟩, 56) := ⟨⟨by decide +kernel, by decide +kernel⟩, List.mem_of_getElem? (i := 764) (by decide +kernel), List.mem_of_getElem? (i := 1005) (by decide +kernel), List.mem_of_getElem? (i := 1006) (by decide +kernel)⟩
theorem lw_p37 : lw_okq (⟨"LineFlowModel", "margins", "(I)V"⟩, 56) := ⟨⟨by decide +kernel, by decide +kernel⟩, List.mem_of_getElem? (i := 764) (by decide +kernel), List.mem_of_getElem? (i := 1009) (by decide +kernel), List.mem_of_getElem? (i := 1010) (by decide +kernel)⟩
theorem lw_p38 : lw_okq (⟨"LineFlowModel", "joins", "(I)Z"⟩, 56) := ⟨⟨by decide +kernel, by decide +kernel⟩, List.mem_of_getElem? (i := 764) (by decide +kernel), List.mem_of_getElem? (i := 1013) (by decide +kernel), List.mem_of_getElem? (i := 1014) (by decide +kernel)⟩
theorem lw_p39 : lw_okq (⟨"LineFlowModel", "isBlock", "(I)Z"⟩, 56) := ⟨⟨by decide +kernel, by decide +kernel⟩, List.mem_of_getElem? (i := 764) (by decide +kernel), List.mem_of_getElem? (i := 1017) (by decide +kernel), List.mem_of_getElem? (i := 1018) (by decide +kernel)⟩
theorem lw_p40 : lw_okq (⟨"LineFlowModel", "edges", "(I)I"⟩, 56) := ⟨⟨by decide +kernel, by decide +kernel⟩, List.mem_of_getElem? (i := 764) (by decide +kernel), List.mem_of_getElem? (i := 1021) (by decide +kernel), List.mem_of_getElem? (i := 1022) (by decide +kernel)⟩
theorem lw_p41 : lw_okq (⟨"LineFlowModel", "widen", "(I)V"⟩, 56) := ⟨⟨by decide +kernel, by decide +kernel⟩, List.mem_of_getElem? (i := 764) (by decide +kernel), List.mem_of_getElem? (i := 1028) (by decide +kernel), List.mem_of_getElem? (i := 1029) (by decide +kernel)⟩
theorem lw_p42 : lw_okq (⟨"LineFlowModel", "inner", "(I)I"⟩, 56) := ⟨⟨by decide +kernel, by decide +kernel⟩, List.mem_of_getElem? (i := 764) (by decide +kernel), List.mem_of_getElem? (i := 1032) (by decide +kernel), List.mem_of_getElem? (i := 1033) (by decide +kernel)⟩
theorem lw_p43 : lw_okq (⟨"LineFlowModel", "told", "(II)I"⟩, 56) := ⟨⟨by decide +kernel, by decide +kernel⟩, List.mem_of_getElem? (i := 764) (by decide +kernel), List.mem_of_getElem? (i := 1036) (by decide +kernel), List.mem_of_getElem? (i := 1037) (by decide +kernel)⟩
theorem lw_p44 : lw_okq (⟨"LineFlowModel", "oneLine", "(I)I"⟩, 56) := ⟨⟨by decide +kernel, by decide +kernel⟩, List.mem_of_getElem? (i := 764) (by decide +kernel), List.mem_of_getElem? (i := 1040) (by decide +kernel), List.mem_of_getElem? (i := 1041) (by decide +kernel)⟩
theorem lw_p45 : lw_okq (⟨"LineFlowModel", "split", "(I)V"⟩, 56) := ⟨⟨by decide +kernel, by decide +kernel⟩, List.mem_of_getElem? (i := 764) (by decide +kernel), List.mem_of_getElem? (i := 1053) (by decide +kernel), List.mem_of_getElem? (i := 1054) (by decide +kernel)⟩
theorem lw_p46 : lw_okq (⟨"LineFlowModel", "layBlock", "(I)V"⟩, 56) := ⟨⟨by decide +kernel, by decide +kernel⟩, List.mem_of_getElem? (i := 764) (by decide +kernel), List.mem_of_getElem? (i := 1057) (by decide +kernel), List.mem_of_getElem? (i := 1058) (by decide +kernel)⟩
theorem lw_p47 : lw_okq (⟨"LineFlowModel", "lineThing", "(I)V"⟩, 56) := ⟨⟨by decide +kernel, by decide +kernel⟩, List.mem_of_getElem? (i := 764) (by decide +kernel), List.mem_of_getElem? (i := 1061) (by decide +kernel), List.mem_of_getElem? (i := 1062) (by decide +kernel)⟩
def lw_privs_3 : List (MethodName × Nat) := [(⟨"LineFlowModel", "isBox", "(I)Z"⟩, 56), (⟨"LineFlowModel", "of", "(II)I"⟩, 56), (⟨"LineFlowModel", "modeOf", "(I)I"⟩, 56), (⟨"LineFlowModel", "after", "(II)I"⟩, 56), (⟨"LineFlowModel", "behind", "(II)I"⟩, 56), (⟨"LineFlowModel", "margins", "(I)V"⟩, 56), (⟨"LineFlowModel", "joins", "(I)Z"⟩, 56), (⟨"LineFlowModel", "isBlock", "(I)Z"⟩, 56), (⟨"LineFlowModel", "edges", "(I)I"⟩, 56), (⟨"LineFlowModel", "widen", "(I)V"⟩, 56), (⟨"LineFlowModel", "inner", "(I)I"⟩, 56), (⟨"LineFlowModel", "told", "(II)I"⟩, 56), (⟨"LineFlowModel", "oneLine", "(I)I"⟩, 56), (⟨"LineFlowModel", "split", "(I)V"⟩, 56), (⟨"LineFlowModel", "layBlock", "(I)V"⟩, 56), (⟨"LineFlowModel", "lineThing", "(I)V"⟩, 56)]
theorem lw_r3 : ∀ q ∈ lw_privs_3, lw_okq q := List.forall_mem_cons.mpr ⟨lw_p32, List.forall_mem_cons.mpr ⟨lw_p33, List.forall_mem_cons.mpr ⟨lw_p34, List.forall_mem_cons.mpr ⟨lw_p35, List.forall_mem_cons.mpr ⟨lw_p36, List.forall_mem_cons.mpr ⟨lw_p37, List.forall_mem_cons.mpr ⟨lw_p38, List.forall_mem_cons.mpr ⟨lw_p39, List.forall_mem_cons.mpr ⟨lw_p40, List.forall_mem_cons.mpr ⟨lw_p41, List.forall_mem_cons.mpr ⟨lw_p42, List.forall_mem_cons.mpr ⟨lw_p43, List.forall_mem_cons.mpr ⟨lw_p44, List.forall_mem_cons.mpr ⟨lw_p45, List.forall_mem_cons.mpr ⟨lw_p46, List.forall_mem_cons.mpr ⟨lw_p47, fun _ h => absurd h List.not_mem_nil⟩⟩⟩⟩⟩⟩⟩⟩⟩⟩⟩⟩⟩⟩⟩⟩
theorem lw_p48 : lw_okq (⟨"LineFlowModel", "putFloat", "(I)V"⟩, 56) := ⟨⟨by decide +kernel, by decide +kernel⟩, List.mem_of_getElem? (i := 764) (by decide +kernel), List.mem_of_getElem? (i := 1065) (by decide +kernel), List.mem_of_getElem? (i := 1066) (by decide +kernel)⟩
theorem lw_p49 : lw_okq (⟨"LineFlowModel", "edgesAt", "(I)V"⟩, 56) := ⟨⟨by decide +kernel, by decide +kernel⟩, List.mem_of_getElem? (i := 764) (by decide +kernel), List.mem_of_getElem? (i := 1069) (by decide +kernel), List.mem_of_getElem? (i := 1070) (by decide +kernel)⟩
theorem lw_p50 : lw_okq (⟨"LineFlowModel", "isFloatAt", "(II)Z"⟩, 56) := ⟨⟨by decide +kernel, by decide +kernel⟩, List.mem_of_getElem? (i := 764) (by decide +kernel), List.mem_of_getElem? (i := 1073) (by decide +kernel), List.mem_of_getElem? (i := 1074) (by decide +kernel)⟩
theorem lw_p51 : lw_okq (⟨"LineFlowModel", "leastEnd", "(I)I"⟩, 56) := ⟨⟨by decide +kernel, by decide +kernel⟩, List.mem_of_getElem? (i := 764) (by decide +kernel), List.mem_of_getElem? (i := 1077) (by decide +kernel), List.mem_of_getElem? (i := 1078) (by decide +kernel)⟩
theorem lw_p52 : lw_okq (⟨"LineFlowModel", "putItem", "(III)V"⟩, 56) := ⟨⟨by decide +kernel, by decide +kernel⟩, List.mem_of_getElem? (i := 764) (by decide +kernel), List.mem_of_getElem? (i := 1081) (by decide +kernel), List.mem_of_getElem? (i := 1082) (by decide +kernel)⟩
theorem lw_p53 : lw_okq (⟨"LineFlowModel", "itemHigh", "(I)I"⟩, 56) := ⟨⟨by decide +kernel, by decide +kernel⟩, List.mem_of_getElem? (i := 764) (by decide +kernel), List.mem_of_getElem? (i := 1085) (by decide +kernel), List.mem_of_getElem? (i := 1086) (by decide +kernel)⟩
theorem lw_p54 : lw_okq (⟨"LineFlowModel", "endLine", "()V"⟩, 56) := ⟨⟨by decide +kernel, by decide +kernel⟩, List.mem_of_getElem? (i := 764) (by decide +kernel), List.mem_of_getElem? (i := 1089) (by decide +kernel), List.mem_of_getElem? (i := 1090) (by decide +kernel)⟩
theorem lw_p55 : lw_okq (⟨"LineFlowModel", "lineText", "(I)V"⟩, 56) := ⟨⟨by decide +kernel, by decide +kernel⟩, List.mem_of_getElem? (i := 764) (by decide +kernel), List.mem_of_getElem? (i := 1093) (by decide +kernel), List.mem_of_getElem? (i := 1094) (by decide +kernel)⟩
theorem lw_p56 : lw_okq (⟨"LineFlowModel", "heightOf", "(II)I"⟩, 56) := ⟨⟨by decide +kernel, by decide +kernel⟩, List.mem_of_getElem? (i := 764) (by decide +kernel), List.mem_of_getElem? (i := 1097) (by decide +kernel), List.mem_of_getElem? (i := 1098) (by decide +kernel)⟩
theorem lw_p57 : lw_okq (⟨"LineFlowModel", "layFlex", "(I)V"⟩, 56) := ⟨⟨by decide +kernel, by decide +kernel⟩, List.mem_of_getElem? (i := 764) (by decide +kernel), List.mem_of_getElem? (i := 1101) (by decide +kernel), List.mem_of_getElem? (i := 1102) (by decide +kernel)⟩
def lw_privs_4 : List (MethodName × Nat) := [(⟨"LineFlowModel", "putFloat", "(I)V"⟩, 56), (⟨"LineFlowModel", "edgesAt", "(I)V"⟩, 56), (⟨"LineFlowModel", "isFloatAt", "(II)Z"⟩, 56), (⟨"LineFlowModel", "leastEnd", "(I)I"⟩, 56), (⟨"LineFlowModel", "putItem", "(III)V"⟩, 56), (⟨"LineFlowModel", "itemHigh", "(I)I"⟩, 56), (⟨"LineFlowModel", "endLine", "()V"⟩, 56), (⟨"LineFlowModel", "lineText", "(I)V"⟩, 56), (⟨"LineFlowModel", "heightOf", "(II)I"⟩, 56), (⟨"LineFlowModel", "layFlex", "(I)V"⟩, 56)]
theorem lw_r4 : ∀ q ∈ lw_privs_4, lw_okq q := List.forall_mem_cons.mpr ⟨lw_p48, List.forall_mem_cons.mpr ⟨lw_p49, List.forall_mem_cons.mpr ⟨lw_p50, List.forall_mem_cons.mpr ⟨lw_p51, List.forall_mem_cons.mpr ⟨lw_p52, List.forall_mem_cons.mpr ⟨lw_p53, List.forall_mem_cons.mpr ⟨lw_p54, List.forall_mem_cons.mpr ⟨lw_p55, List.forall_mem_cons.mpr ⟨lw_p56, List.forall_mem_cons.mpr ⟨lw_p57, fun _ h => absurd h List.not_mem_nil⟩⟩⟩⟩⟩⟩⟩⟩⟩⟩
def lw_privs : List (MethodName × Nat) := lw_privs_1 ++ (lw_privs_2 ++ (lw_privs_3 ++ (lw_privs_4)))
def lw_tbl : List Cond := k2_sels lw_privs ++ tables_1
theorem lw_privs_ok : ∀ q ∈ lw_privs, lw_okq q := by
  show ∀ q ∈ lw_privs_1 ++ (lw_privs_2 ++ (lw_privs_3 ++ (lw_privs_4))), lw_okq q
  exact List.forall_mem_append.mpr ⟨lw_r1, List.forall_mem_append.mpr ⟨lw_r2, List.forall_mem_append.mpr ⟨lw_r3, lw_r4⟩⟩⟩
end
section
/-! THE SMALL MACHINE: a machine over lists, the JVM's instructions as predicate transformers. What is shown of it (am_T) holds of the JVM (am_sim). -/
/-- a cell: an object (its class's number, its fields), or an array (its components' type, the components). Value.ref i is the i-th cell of the list, Value.retAddr j the j-th constant (an array that nobody writes) -/
abbrev am_E : Type := (Nat × List Value) ⊕ (FieldType × List Value)
abbrev am_H : Type := List am_E
/-- program counter, locals, operands, heap -/
abbrev am_F : Type := Nat × List (Option Value) × List Value × am_H
/-- a method: its class's number, its code, how many locals, what it returns, whether it is a constructor -/
abbrev am_I : Type := Nat × ByteArray × Nat × Option FieldType × Bool
/-- the tables: what a pool entry of a class is; the methods; the fields of the classes (type, final); the constants -/
abbrev am_B : Type := (Nat → Nat → Nat × Nat × Nat) × (Nat → Option am_I) × (Nat → Option (List (FieldType × Bool))) × (Nat → Option (FieldType × List Value))
abbrev am_C : Type := Nat → List Value → am_H → (Option Value → am_H → Prop) → Prop
def am_isR (v : Value) : Prop := v = .null ∨ (∃ a, v = .ref a) ∨ ∃ j, v = .retAddr j
def am_cmpR (B : am_B) (v w : Value) : Prop := am_isR v ∧ am_isR w ∧ (v = w ∨ (¬ ∃ i j, v = .retAddr i ∧ w = .retAddr j) ∧ ∀ j, v = .retAddr j ∨ w = .retAddr j → (B.2.2.2 j).isSome = true)
def am_get (h : am_H) (c a k : Nat) : Option Value := match h[a]? with
  | some (.inl (c', fs)) => if c' = c then fs[k]? else none
  | _ => none
def am_put (h : am_H) (a k : Nat) (v : Value) : am_H := match h[a]? with
  | some (.inl (c', fs)) => h.set a (.inl (c', fs.set k v))
  | _ => h
/-- an array that can be read -/
def am_arr (B : am_B) (h : am_H) : Value → Option (FieldType × List Value)
  | .ref a => match h[a]? with
    | some (.inr x) => some x
    | _ => none
  | .retAddr j => B.2.2.2 j
  | _ => none
def am_fit : FieldType → Value → Bool
  | .int, .int _ => true
  | .boolean, .int x => x == 0 || x == 1
  | .object _, .null | .object _, .ref _ | .object _, .retAddr _ => true
  | .array _, .null | .array _, .ref _ | .array _, .retAddr _ => true
  | _, _ => false
/-- what a method may answer -/
def am_ans : Option FieldType → Option Value → Bool
  | none, none => true
  | some .int, some (.int _) => true
  | some .boolean, some (.int x) => x == 0 || x == 1
  | some (.object _), some .null | some (.object _), some (.ref _) | some (.object _), some (.retAddr _) => true
  | some (.array _), some .null | some (.array _), some (.ref _) | some (.array _), some (.retAddr _) => true
  | _, _ => false
def am_br (P : am_F → Prop) (pc : Nat) (ls : List (Option Value)) (st : List Value) (h : am_H) (off : Int) (C : Prop) : Prop :=
  ∃ tgt : Nat, (pc : Int) + off = (tgt : Int) ∧ (C → P (tgt, ls, st, h)) ∧ (¬ C → P (pc + 3, ls, st, h))
def am_c1 (P : am_F → Prop) (pc : Nat) (ls : List (Option Value)) (st : List Value) (h : am_H) (off : Int) (C : Int32 → Prop) : Prop :=
  ∃ x rest, st = .int x :: rest ∧ am_br P pc ls rest h off (C x)
def am_c2 (P : am_F → Prop) (pc : Nat) (ls : List (Option Value)) (st : List Value) (h : am_H) (off : Int) (C : Int32 → Int32 → Prop) : Prop :=
  ∃ x y rest, st = .int y :: .int x :: rest ∧ am_br P pc ls rest h off (C x y)
def am_b2 (P : am_F → Prop) (pc : Nat) (ls : List (Option Value)) (st : List Value) (h : am_H) (f : Int32 → Int32 → Int32) : Prop :=
  ∃ x y rest, st = .int y :: .int x :: rest ∧ P (pc + 1, ls, .int (f x y) :: rest, h)
def am_ald (B : am_B) (P : am_F → Prop) (pc : Nat) (ls : List (Option Value)) (st : List Value) (h : am_H) (ok : FieldType → Prop) : Prop :=
  ∃ j r rest ty vs v, st = .int j :: r :: rest ∧ am_arr B h r = some (ty, vs) ∧ ok ty ∧ ¬ j < 0 ∧ vs[j.toNatClampNeg]? = some v ∧ P (pc + 1, ls, v :: rest, h)
def am_ast (P : am_F → Prop) (pc : Nat) (ls : List (Option Value)) (st : List Value) (h : am_H) (ok : FieldType → Value → Value → Prop) : Prop :=
  ∃ w j a rest ty vs v, st = w :: .int j :: .ref a :: rest ∧ h[a]? = some (.inr (ty, vs)) ∧ ok ty w v ∧ ¬ j < 0 ∧ j.toNatClampNeg < vs.length ∧ P (pc + 1, ls, rest, h.set a (.inr (ty, vs.set j.toNatClampNeg v)))
/-- the component kinds of the arrays of references -/
def am_refs : List String := ["LineFlow$Node", "LineFlow$Flow", "java/lang/Object"]
def am_tyk (ty : FieldType) : Prop := ty = .int ∨ ty = .byte ∨ ty = .boolean ∨ ∃ C, C ∈ am_refs ∧ ty = .object C
/-- what may stand in an array of references -/
def am_into (cn : Nat → String) (h : am_H) (ty : FieldType) (w v : Value) : Prop := v = w ∧ ∃ C, C ∈ am_refs ∧ ty = .object C ∧ (w = .null ∨ ∃ b c fs, w = .ref b ∧ h[b]? = some (.inl (c, fs)) ∧ (cn c = C ∨ C = "java/lang/Object" ∧ c = 7))
def am_cpy (vs ws : List Value) (sp dp n : Nat) : List Value := (List.range ws.length).map (va_cpy (fun j => vs.getD j .null) (fun j => ws.getD j .null) sp dp n)
/-- one instruction that stays in the method; T: what calls do; cn: the names of the numbered object kinds -/
def am_nx (B : am_B) (cn : Nat → String) (T : am_C) (I : am_I) (P : am_F → Prop) (pc : Nat) (ls : List (Option Value)) (st : List Value) (h : am_H) (i : Instr) : Prop := match i with
  | .iconst n => P (pc + 1, ls, .int (Int32.ofInt n) :: st, h)
  | .bipush n => P (pc + 2, ls, .int (Int8.ofInt n).toInt32 :: st, h)
  | .sipush n => P (pc + 3, ls, .int (Int16.ofInt n).toInt32 :: st, h)
  | .ldc idx => (∃ x y, B.1 I.1 idx = (12, x, y) ∧ P (pc + 2, ls, .int (Int32.ofNat x) :: st, h)) ∨ ∃ x y, B.1 I.1 idx = (15, x, y) ∧ P (pc + 2, ls, .retAddr 3 :: st, h)
  | .aconst_null => P (pc + 1, ls, .null :: st, h)
  | .iload k => ∃ x, ls[k]? = some (some (.int x)) ∧ P (pc + 2, ls, .int x :: st, h)
  | .iload_n k => ∃ x, ls[k.val]? = some (some (.int x)) ∧ P (pc + 1, ls, .int x :: st, h)
  | .aload k => ∃ v, ls[k]? = some (some v) ∧ am_isR v ∧ P (pc + 2, ls, v :: st, h)
  | .aload_n k => ∃ v, ls[k.val]? = some (some v) ∧ am_isR v ∧ P (pc + 1, ls, v :: st, h)
  | .istore k => ∃ x rest, st = .int x :: rest ∧ k < ls.length ∧ P (pc + 2, ls.set k (some (.int x)), rest, h)
  | .istore_n k => ∃ x rest, st = .int x :: rest ∧ k.val < ls.length ∧ P (pc + 1, ls.set k.val (some (.int x)), rest, h)
  | .astore k => ∃ v rest, st = v :: rest ∧ am_isR v ∧ k < ls.length ∧ P (pc + 2, ls.set k (some v), rest, h)
  | .astore_n k => ∃ v rest, st = v :: rest ∧ am_isR v ∧ k.val < ls.length ∧ P (pc + 1, ls.set k.val (some v), rest, h)
  | .iinc k n => ∃ x, ls[k]? = some (some (.int x)) ∧ P (pc + 3, ls.set k (some (.int (x + Int32.ofInt n))), st, h)
  | .iadd => am_b2 P pc ls st h (fun x y => x + y)
  | .isub => am_b2 P pc ls st h (fun x y => x - y)
  | .imul => am_b2 P pc ls st h (fun x y => x * y)
  | .iand => am_b2 P pc ls st h (fun x y => x &&& y)
  | .idiv => ∃ x y rest, st = .int y :: .int x :: rest ∧ ¬ y = 0 ∧ P (pc + 1, ls, .int (x / y) :: rest, h)
  | .ishr => am_b2 P pc ls st h (fun x y => x >>> (y &&& 31))
  | .iushr => am_b2 P pc ls st h (fun x y => (x.toUInt32 >>> (y.toUInt32 &&& Int32.toUInt32 31)).toInt32)
  | .i2b => ∃ x rest, st = .int x :: rest ∧ P (pc + 1, ls, .int x.toInt8.toInt32 :: rest, h)
  | .dup => ∃ v rest, st = v :: rest ∧ P (pc + 1, ls, v :: v :: rest, h)
  | .dup_x1 => ∃ v w rest, st = v :: w :: rest ∧ P (pc + 1, ls, v :: w :: v :: rest, h)
  | .dup2 => ∃ v w rest, st = v :: w :: rest ∧ P (pc + 1, ls, v :: w :: v :: w :: rest, h)
  | .pop => ∃ v rest, st = v :: rest ∧ P (pc + 1, ls, rest, h)
  | .goto off => ∃ tgt : Nat, (pc : Int) + off = (tgt : Int) ∧ P (tgt, ls, st, h)
  | .ifCond .eq off => am_c1 P pc ls st h off (fun x => x = 0)
  | .ifCond .ne off => am_c1 P pc ls st h off (fun x => ¬ x = 0)
  | .ifCond .lt off => am_c1 P pc ls st h off (fun x => x < 0)
  | .ifCond .ge off => am_c1 P pc ls st h off (fun x => 0 ≤ x)
  | .ifCond .gt off => am_c1 P pc ls st h off (fun x => 0 < x)
  | .ifCond .le off => am_c1 P pc ls st h off (fun x => x ≤ 0)
  | .if_icmp .eq off => am_c2 P pc ls st h off (fun x y => x = y)
  | .if_icmp .ne off => am_c2 P pc ls st h off (fun x y => ¬ x = y)
  | .if_icmp .lt off => am_c2 P pc ls st h off (fun x y => x < y)
  | .if_icmp .ge off => am_c2 P pc ls st h off (fun x y => y ≤ x)
  | .if_icmp .gt off => am_c2 P pc ls st h off (fun x y => y < x)
  | .if_icmp .le off => am_c2 P pc ls st h off (fun x y => x ≤ y)
  | .ifnull off => ∃ v rest, st = v :: rest ∧ am_isR v ∧ am_br P pc ls rest h off (v = .null)
  | .ifnonnull off => ∃ v rest, st = v :: rest ∧ am_isR v ∧ am_br P pc ls rest h off (¬ v = .null)
  | .if_acmp .eq off => ∃ v w rest, st = w :: v :: rest ∧ am_cmpR B v w ∧ am_br P pc ls rest h off (v = w)
  | .if_acmp .ne off => ∃ v w rest, st = w :: v :: rest ∧ am_cmpR B v w ∧ am_br P pc ls rest h off (¬ v = w)
  | .tableswitch dflt lo hi offs => ∃ x rest, st = .int x :: rest ∧ ∃ tgt : Nat, ((x.toInt < lo ∨ hi < x.toInt) ∧ (pc : Int) + dflt = (tgt : Int) ∨ ¬ x.toInt < lo ∧ ¬ hi < x.toInt ∧ ∃ off, offs[(x.toInt - lo).toNat]? = some off ∧ (pc : Int) + off = (tgt : Int)) ∧ P (tgt, ls, rest, h)
  | .lookupswitch dflt ps => ∃ x rest, st = .int x :: rest ∧ (ps.toList.zip (ps.toList.drop 1)).all (fun (a, next) => a.1 < next.1) = true ∧ ∃ tgt : Nat, (pc : Int) + Op.lookupswitch.offset ps.toList dflt x.toInt = (tgt : Int) ∧ P (tgt, ls, rest, h)
  | .getfield idx => ∃ a rest t c k v, st = .ref a :: rest ∧ B.1 I.1 idx = (t, c, k) ∧ (t = 1 ∨ t = 2) ∧ am_get h c a k = some v ∧ P (pc + 3, ls, v :: rest, h)
  | .putfield idx => ∃ a rest c k v w ts ty fin, st = v :: .ref a :: rest ∧ B.1 I.1 idx = (1, c, k) ∧ am_get h c a k = some w ∧ B.2.2.1 c = some ts ∧ ts[k]? = some (ty, fin) ∧ am_fit ty v = true ∧ (fin = true → I.2.2.2.2 = true ∧ c = I.1) ∧ P (pc + 3, ls, rest, am_put h a k v)
  | .getstatic idx => ∃ j y, B.1 I.1 idx = (3, j, y) ∧ P (pc + 3, ls, .retAddr j :: st, h)
  | .arraylength => ∃ r rest ty vs, st = r :: rest ∧ am_arr B h r = some (ty, vs) ∧ am_tyk ty ∧ P (pc + 1, ls, .int (Int32.ofNat vs.length) :: rest, h)
  | .iaload => am_ald B P pc ls st h (fun ty => ty = .int)
  | .baload => am_ald B P pc ls st h (fun ty => ty = .byte ∨ ty = .boolean)
  | .aaload => am_ald B P pc ls st h (fun ty => ∃ C, C ∈ am_refs ∧ ty = .object C)
  | .iastore => am_ast P pc ls st h (fun ty w v => ty = .int ∧ v = w ∧ ∃ x, w = .int x)
  | .bastore => am_ast P pc ls st h (fun ty w v => ∃ x, w = .int x ∧ (ty = .byte ∧ v = .int x.toInt8.toInt32 ∨ ty = .boolean ∧ v = .int (x &&& 1)))
  | .aastore => am_ast P pc ls st h (am_into cn h)
  | .new idx => ∃ c y ts, B.1 I.1 idx = (9, c, y) ∧ B.2.2.1 c = some ts ∧ (∀ q ∈ ts, (defaultValue q.1).category = 1) ∧ P (pc + 3, ls, .ref h.length :: st, h ++ [.inl (c, ts.map (fun q => defaultValue q.1))])
  | .newarray at_ => ∃ n rest ty, st = .int n :: rest ∧ newarray.typeOf at_ = ty ∧ (ty = .int ∨ ty = .byte ∨ ty = .boolean) ∧ ¬ n < 0 ∧ n.toNatClampNeg ≤ 100000 ∧ P (pc + 2, ls, .ref h.length :: rest, h ++ [.inr (ty, List.replicate n.toNatClampNeg (.int 0))])
  | .anewarray idx => ∃ n rest c y, st = .int n :: rest ∧ B.1 I.1 idx = (10, c, y) ∧ cn c ∈ am_refs ∧ ¬ n < 0 ∧ n.toNatClampNeg ≤ 100000 ∧ P (pc + 3, ls, .ref h.length :: rest, h ++ [.inr (.object (cn c), List.replicate n.toNatClampNeg .null)])
  | .checkcast idx => ∃ v rest c y, st = v :: rest ∧ B.1 I.1 idx = (11, c, y) ∧ (v = .null ∨ ∃ a fs, v = .ref a ∧ h[a]? = some (.inl (c, fs))) ∧ P (pc + 3, ls, v :: rest, h)
  | .invokevirtual idx => (∃ a rest vs x y, B.1 I.1 idx = (14, x, y) ∧ st = .ref a :: rest ∧ rest.length ≤ 8 ∧ h[a]? = some (.inr (.object "java/lang/Object", vs)) ∧ P (pc + 3, ls, .retAddr 3 :: rest, h)) ∨ ∃ m n as b rest J fs, B.1 I.1 idx = (4, m, n) ∧ as.length = n ∧ st = as.reverse ++ .ref b :: rest ∧ rest.length ≤ 8 ∧ B.2.1 m = some J ∧ h[b]? = some (.inl (J.1, fs)) ∧ T m (.ref b :: as) h (fun v h' => P (pc + 3, ls, v.toList ++ rest, h'))
  | .invokestatic idx => (∃ n dp a sp b rest ty vs ws x y, B.1 I.1 idx = (13, x, y) ∧ st = .int n :: .int dp :: .ref a :: .int sp :: .ref b :: rest ∧ rest.length ≤ 8 ∧ h[b]? = some (.inr (ty, vs)) ∧ h[a]? = some (.inr (ty, ws)) ∧ (ty = .byte ∧ (∀ v ∈ vs, fits .byte v = true) ∨ ty = .object "java/lang/Object" ∧ ∀ v ∈ vs, v = .null ∨ ∃ q fs, v = .ref q ∧ h[q]? = some (.inl (7, fs))) ∧
      ¬ sp < 0 ∧ ¬ dp < 0 ∧ ¬ n < 0 ∧ sp.toNatClampNeg + n.toNatClampNeg ≤ vs.length ∧ dp.toNatClampNeg + n.toNatClampNeg ≤ ws.length ∧ P (pc + 3, ls, rest, h.set a (.inr (ty, am_cpy vs ws sp.toNatClampNeg dp.toNatClampNeg n.toNatClampNeg)))) ∨ ∃ m n as rest, B.1 I.1 idx = (5, m, n) ∧ as.length = n ∧ st = as.reverse ++ rest ∧ rest.length ≤ 8 ∧ T m as h (fun v h' => P (pc + 3, ls, v.toList ++ rest, h'))
  | .invokespecial idx => (∃ a rest x y, B.1 I.1 idx = (8, x, y) ∧ st = .ref a :: rest ∧ rest.length ≤ 8 ∧ P (pc + 3, ls, rest, h)) ∨
      ∃ t m n as b rest, B.1 I.1 idx = (t, m, n) ∧ (t = 6 ∨ t = 7) ∧ as.length = n ∧ st = as.reverse ++ .ref b :: rest ∧ rest.length ≤ 8 ∧ T m (.ref b :: as) h (fun v h' => v = none ∧ P (pc + 3, ls, rest, h'))
  | _ => False
/-- one instruction that ends the method -/
def am_re (Q : Option Value → am_H → Prop) (I : am_I) (st : List Value) (h : am_H) (i : Instr) : Prop :=
  ∃ v : Option Value, st = v.toList ∧ am_ans I.2.2.2.1 v = true ∧ Q v h ∧ (i = .return_ ∧ v = none ∨ (i = .ireturn ∧ ∃ x, v = some (.int x)) ∨ i = .areturn ∧ ∃ r, v = some r ∧ am_isR r)
def am_len : Instr → Nat → Bool
  | .bipush _, n | .iload _, n | .aload _, n | .istore _, n | .astore _, n | .ldc _, n | .newarray _, n => n == 2
  | .sipush _, n | .iinc _ _, n | .goto _, n | .ifCond _ _, n | .if_icmp _ _, n | .if_acmp _ _, n | .ifnull _, n | .ifnonnull _, n => n == 3
  | .getfield _, n | .putfield _, n | .getstatic _, n | .new _, n | .anewarray _, n | .checkcast _, n | .invokevirtual _, n | .invokestatic _, n | .invokespecial _, n => n == 3
  | .tableswitch _ _ _ _, _ | .lookupswitch _ _, _ => true
  | _, n => n == 1
def am_ok (B : am_B) (cn : Nat → String) (T : am_C) (Q : Option Value → am_H → Prop) (I : am_I) (P : am_F → Prop) (F : am_F) : Prop :=
  ∃ (i : Instr) (len : Nat), decode I.2.1 F.1 = .ok (i, len) ∧ am_len i len = true ∧ (am_nx B cn T I P F.1 F.2.1 F.2.2.1 F.2.2.2 i ∨ am_re Q I F.2.2.1 F.2.2.2 i)
/-- from here the method ends with Q: the least predicate that is closed under the instructions -/
def am_wp (B : am_B) (cn : Nat → String) (T : am_C) (Q : Option Value → am_H → Prop) (I : am_I) (F : am_F) : Prop :=
  ∀ P : am_F → Prop, (∀ F, am_ok B cn T Q I P F → P F) → P F
/-- a call of method m, at most d deep, ends with Q -/
def am_T (B : am_B) (cn : Nat → String) : Nat → am_C
  | 0 => fun _ _ _ _ => False
  | d + 1 => fun m as h Q => ∃ I : am_I, B.2.1 m = some I ∧ as.length ≤ I.2.2.1 ∧ am_wp B cn (am_T B cn d) Q I (0, as.map some ++ List.replicate (I.2.2.1 - as.length) none, [], h)
theorem am_re_mono {Q Q' : Option Value → am_H → Prop} {I : am_I} {st : List Value} {h : am_H} {i : Instr} (hQ : ∀ v h, Q v h → Q' v h) (hr : am_re Q I st h i) : am_re Q' I st h i := by
  obtain ⟨v, h1, h2, h3, h4⟩ := hr
  exact ⟨v, h1, h2, hQ _ _ h3, h4⟩
theorem am_wp_mono {B : am_B} {cn : Nat → String} {T : am_C} {Q Q' : Option Value → am_H → Prop} {I : am_I} {F : am_F} (hQ : ∀ v h, Q v h → Q' v h) (hw : am_wp B cn T Q I F) : am_wp B cn T Q' I F := by
  intro P hP
  refine hw P (fun F' hF => hP F' ?_)
  obtain ⟨i, len, hd, hl, h⟩ := hF
  exact ⟨i, len, hd, hl, h.imp id (am_re_mono hQ)⟩
theorem am_T_mono {B : am_B} {cn : Nat → String} {d m : Nat} {as : List Value} {h : am_H} {Q Q' : Option Value → am_H → Prop} (hQ : ∀ v h, Q v h → Q' v h) (ht : am_T B cn d m as h Q) : am_T B cn d m as h Q' := by
  cases d with
  | zero => exact ht
  | succ d =>
    obtain ⟨I, h1, h2, h3⟩ := ht
    exact ⟨I, h1, h2, am_wp_mono hQ h3⟩
end
section
/-! THE SMALL MACHINE's RUNS ARE RUNS OF THE JVM: worlds, places, one instruction. -/
def am_cv (sa : Nat → Nat) (base : Nat) : Value → Value
  | .ref i => .ref (base + i)
  | .retAddr j => .ref (sa j)
  | v => v
theorem am_cv_cat (sa : Nat → Nat) (base : Nat) (v : Value) : (am_cv sa base v).category = v.category := by cases v <;> rfl
def am_sz : am_E → Nat
  | .inl x => x.2.length
  | .inr x => x.2.length
def am_sl (h : am_H) : Nat := (h.map am_sz).sum
def am_e1 : am_E → Prop
  | .inl x => ∀ v ∈ x.2, v.category = 1
  | .inr x => ∀ v ∈ x.2, v.category = 1
def am_v1 (h : am_H) : Prop := ∀ e ∈ h, am_e1 e
def am_cell (D : va_G) (DA : FieldType → ClassId) (sa : Nat → Nat) (base : Nat) (cl : List vw_C) (a : Nat) (e : am_E) (H : Heap) : Prop := match e with
  | .inl x => ∃ r : vw_C, cl[x.1]? = some r ∧ x.2.length = r.2.2 ∧ t_OB a (D.1 x.1) r.2.2 (D.2 x.1) H (fun k => am_cv sa base (x.2.getD k .null))
  | .inr x => H[a]? = some (arrV (DA x.1) x.2.length (fun j => am_cv sa base (x.2.getD j .null)))
def am_Wd (D : va_G) (DA : FieldType → ClassId) (sa : Nat → Nat) (base : Nat) (cl : List vw_C) (h : am_H) (H : Heap) : Prop :=
  H.size = base + h.length ∧ ∀ (i : Nat) (e : am_E), h[i]? = some e → am_cell D DA sa base cl (base + i) e H
theorem am_cell.kept {D : va_G} {DA : FieldType → ClassId} {sa : Nat → Nat} {base : Nat} {cl : List vw_C} {a : Nat} {e : am_E} {H H1 : Heap} (h : am_cell D DA sa base cl a e H) (h1 : H1[a]? = H[a]?) : am_cell D DA sa base cl a e H1 := by
  cases e with
  | inl x =>
    obtain ⟨r, h2, h3, h4⟩ := h
    exact ⟨r, h2, h3, h4.kept h1⟩
  | inr x => exact h1.trans h
theorem am_Wd.set {D : va_G} {DA : FieldType → ClassId} {sa : Nat → Nat} {base : Nat} {cl : List vw_C} {h : am_H} {H H1 : Heap} {a : Nat} {e : am_E} (w : am_Wd D DA sa base cl h H) (z : H1.size = H.size) (oq : ∀ q : Nat, q ≠ base + a → H1[q]? = H[q]?) (he : am_cell D DA sa base cl (base + a) e H1) : am_Wd D DA sa base cl (h.set a e) H1 := by
  refine ⟨by rw [z, w.1, List.length_set], fun i x hx => ?_⟩
  by_cases hia : i = a
  · subst hia
    have hl : i < h.length := by
      have := (List.getElem?_eq_some_iff.mp hx).1
      simpa using this
    rw [List.getElem?_set_self hl] at hx
    cases hx
    exact he
  · rw [List.getElem?_set_ne (Ne.symm hia)] at hx
    exact (w.2 i x hx).kept (oq _ (by omega))
theorem am_Wd.push {D : va_G} {DA : FieldType → ClassId} {sa : Nat → Nat} {base : Nat} {cl : List vw_C} {h : am_H} {H H1 : Heap} {e : am_E} (w : am_Wd D DA sa base cl h H) (z : H1.size = H.size + 1) (oq : ∀ q : Nat, q < H.size → H1[q]? = H[q]?) (he : am_cell D DA sa base cl (base + h.length) e H1) : am_Wd D DA sa base cl (h ++ [e]) H1 := by
  refine ⟨by rw [z, w.1, List.length_append]; simp; omega, fun i x hx => ?_⟩
  by_cases hia : i < h.length
  · rw [List.getElem?_append_left hia] at hx
    exact (w.2 i x hx).kept (oq _ (by rw [w.1]; omega))
  · rw [List.getElem?_append_right (by omega)] at hx
    have hz : i - h.length < 1 := (List.getElem?_eq_some_iff.mp hx).1
    have hi : i = h.length := by omega
    subst hi
    rw [Nat.sub_self] at hx
    cases hx
    exact he
theorem am_sl_push (h : am_H) (e : am_E) : am_sl (h ++ [e]) = am_sl h + am_sz e := by simp [am_sl]
theorem am_sl_set (h : am_H) (a : Nat) (e e0 : am_E) (h0 : h[a]? = some e0) (hz : am_sz e = am_sz e0) : am_sl (h.set a e) = am_sl h := by
  unfold am_sl
  rw [List.map_set]
  congr 1
  have : (h.map am_sz)[a]? = some (am_sz e) := by rw [List.getElem?_map, h0, hz]; rfl
  apply List.ext_getElem?
  intro i
  by_cases hi : a = i
  · subst hi
    rw [List.getElem?_set_self (List.getElem?_eq_some_iff.mp this).1, this]
  · rw [List.getElem?_set_ne hi]
theorem am_v1_set {h : am_H} {a : Nat} {e : am_E} (h1 : am_v1 h) (he : am_e1 e) : am_v1 (h.set a e) := by
  intro x hx
  rcases List.mem_or_eq_of_mem_set hx with h2 | h2
  · exact h1 x h2
  · rw [h2]; exact he
theorem am_v1_push {h : am_H} {e : am_E} (h1 : am_v1 h) (he : am_e1 e) : am_v1 (h ++ [e]) := by
  intro x hx
  rcases List.mem_append.mp hx with h2 | h2
  · exact h1 x h2
  · rw [List.mem_singleton.mp h2]; exact he
/-- the locals -/
def am_Rl (sa : Nat → Nat) (base : Nat) (ls : List (Option Value)) (lsm : Array Slot) : Prop :=
  lsm.size = ls.length ∧ lv_wf lsm ∧ ∀ (i : Nat) (v : Value), ls[i]? = some (some v) → lsm[i]? = some (.val (am_cv sa base v)) ∧ v.category = 1
def am_lv (sa : Nat → Nat) (base : Nat) (ls : List (Option Value)) : List (Nat × Value) := (List.range ls.length).filterMap (fun i => match ls[i]? with
  | some (some v) => some (i, am_cv sa base v)
  | _ => none)
theorem am_lv_mem {sa : Nat → Nat} {base : Nat} {ls : List (Option Value)} {q : Nat × Value} : q ∈ am_lv sa base ls ↔ ∃ v, ls[q.1]? = some (some v) ∧ q.2 = am_cv sa base v := by
  unfold am_lv
  rw [List.mem_filterMap]
  constructor
  · rintro ⟨i, hi, h⟩
    split at h
    · next v hv =>
      cases h
      exact ⟨v, hv, rfl⟩
    · cases h
  · rintro ⟨v, h1, h2⟩
    refine ⟨q.1, List.mem_range.mpr (List.getElem?_eq_some_iff.mp h1).1, ?_⟩
    rw [h1]
    show some (q.1, am_cv sa base v) = some q
    rw [← h2]
theorem am_Rl.has {sa : Nat → Nat} {base : Nat} {ls : List (Option Value)} {lsm : Array Slot} (h : am_Rl sa base ls lsm) : lv_has lsm ls.length (am_lv sa base ls) := by
  refine ⟨h.1, h.2.1, fun q hq => ?_⟩
  obtain ⟨v, h1, h2⟩ := am_lv_mem.mp hq
  rw [h2]
  exact (h.2.2 _ _ h1).1
theorem am_Rl.store {sa : Nat → Nat} {base : Nat} {ls : List (Option Value)} {lsm lsm' : Array Slot} {k : Nat} {v : Value} (h : am_Rl sa base ls lsm) (hv : v.category = 1) (hk : k < ls.length)
    (h' : lv_has lsm' ls.length ((k, am_cv sa base v) :: (am_lv sa base ls).filter (fun q => !(q.1 == k) && !(q.1 + 1 == k && q.2.category == 2)))) : am_Rl sa base (ls.set k (some v)) lsm' := by
  refine ⟨by rw [h'.1, List.length_set], h'.2.1, fun i w hw => ?_⟩
  by_cases hik : i = k
  · subst hik
    rw [List.getElem?_set_self hk] at hw
    cases hw
    exact ⟨h'.2.2 (i, am_cv sa base v) List.mem_cons_self, hv⟩
  · rw [List.getElem?_set_ne (Ne.symm hik)] at hw
    have hc := (h.2.2 i w hw).2
    refine ⟨h'.2.2 (i, am_cv sa base w) (List.mem_cons_of_mem _ (List.mem_filter.mpr ⟨am_lv_mem.mpr ⟨w, hw, rfl⟩, ?_⟩)), hc⟩
    simp [hik, am_cv_cat, hc]
/-- what the tables say of the numbers: object kinds, methods, pool entries -/
def am_TabC (B : am_B) (nm : Nat → String) (cl : List vw_C) (Ts : List Cond) : Prop := ∀ (c : Nat) (r : vw_C), cl[c]? = some r → r.1 = nm c ∧ (∀ w ∈ u_ws r.1 r.2.1 r.2.2, w ∈ Ts) ∧ Cond.instantiable r.1 r.2.2 ∈ Ts ∧ Cond.initialized r.1 ∈ Ts ∧ (∀ a, a < r.2.2 → ∀ b, b < r.2.2 → a ≠ b → (r.2.1 a).2.1 ≠ (r.2.1 b).2.1) ∧
  ∃ ty : Nat → FieldType, (∀ k, k < r.2.2 → parseFieldDescriptor (r.2.1 k).2.2.1 = some (ty k)) ∧ B.2.2.1 c = some ((List.range r.2.2).map (fun k => (ty k, (r.2.1 k).2.2.2)))
def am_fieldAt (nm : Nat → String) (cl : List vw_C) (Ts NW : List Cond) (o idx t c k : Nat) : Prop := ∃ r : vw_C, cl[c]? = some r ∧ k < r.2.2 ∧ ((r.2.1 k).2.2.2 = true → (r.2.1 k).1 = nm c) ∧ ((t = 1 ∧ ∃ ref, Cond.fieldLink (nm o) idx ref (r.2.1 k).2.1 (r.2.1 k).2.2.1 ∈ Ts ∧ (ref = (r.2.1 k).1 ∨ Cond.sameField ref (r.2.1 k).1 (r.2.1 k).2.1 (r.2.1 k).2.2.1 ∈ Ts)) ∨
  (t = 2 ∧ ∃ host, Cond.fieldLinkNest (nm o) idx (r.2.1 k).1 (r.2.1 k).2.1 (r.2.1 k).2.2.1 host ∈ NW))
def am_methAt (B : am_B) (nm : Nat → String) (my : Nat → MethodName) (Ts : List Cond) (m : Nat) (I : am_I) : Prop :=
  Cond.code (my m) I.2.1 I.2.2.1 I.2.2.2.1 ∈ Ts ∧ (my m).cls = nm I.1 ∧ plainName (my m).cls = true ∧ ((my m).cls ≠ "java/lang/invoke/MethodHandle" ∧ (my m).cls ≠ "java/lang/invoke/VarHandle") ∧ (I.2.2.2.2 = true → (my m).name = "<init>") ∧ I.2.2.1 ≤ 40 ∧ Cond.initialized (my m).cls ∈ Ts
def am_parms (y : MethodName) (n : Nat) : Prop := (parseMethodDescriptor y.desc).map (fun d => d.parameters.length) = some n
def am_gcn : MethodName := ⟨"java/lang/Object", "getClass", "()Ljava/lang/Class;"⟩
/-- the words that are carried beside the others -/
def am_nwk (w : Cond) : Prop := (∃ a i b n d h, w = .fieldLinkNest a i b n d h) ∨ (∃ a i x h, w = .methodLinkNest a i x h) ∨ (∃ C T, w = .castable C T) ∨ (∃ C, w = .arrayOver (.object C)) ∨ ∃ x, w = .declares x
def am_Tab (B : am_B) (nm : Nat → String) (my : Nat → MethodName) (cl : List vw_C) (Ts NW : List Cond) : Prop :=
  am_TabC B nm cl Ts ∧ (∀ m I, B.2.1 m = some I → am_methAt B nm my Ts m I) ∧
  (∀ o idx t c k, B.1 o idx = (t, c, k) → (t = 1 ∨ t = 2) → am_fieldAt nm cl Ts NW o idx t c k) ∧
  (∀ o idx m n, B.1 o idx = (4, m, n) → Cond.methodLink (nm o) idx (my m) ∈ Ts ∧ Cond.instanceMethod (my m) ∈ Ts ∧ Cond.selects (my m).cls (my m) (my m) ∈ Ts ∧ am_parms (my m) n) ∧
  (∀ o idx m n, B.1 o idx = (5, m, n) → Cond.methodLink (nm o) idx (my m) ∈ Ts ∧ Cond.static (my m) ∈ Ts ∧ am_parms (my m) n) ∧
  (∀ o idx m n, B.1 o idx = (6, m, n) → Cond.methodLink (nm o) idx (my m) ∈ Ts ∧ Cond.instanceMethod (my m) ∈ Ts ∧ (my m).name = "<init>" ∧ am_parms (my m) n ∧ ∀ I, B.2.1 m = some I → I.2.2.2.1 = none) ∧
  (∀ o idx m n, B.1 o idx = (7, m, n) → (∃ host, Cond.methodLinkNest (nm o) idx (my m) host ∈ NW) ∧ Cond.instanceMethod (my m) ∈ Ts ∧ (my m).name = "<init>" ∧ am_parms (my m) n ∧ ∀ I, B.2.1 m = some I → I.2.2.2.1 = none) ∧
  (∀ o idx x y, B.1 o idx = (8, x, y) → Cond.methodLink (nm o) idx objectInit ∈ Ts ∧ Cond.instanceMethod objectInit ∈ Ts ∧ Cond.code objectInit ⟨#[0xb1]⟩ 1 none ∈ Ts) ∧
  (∀ o idx c y, B.1 o idx = (9, c, y) → Cond.classLink (nm o) idx (nm c) ∈ Ts ∧ ∃ r : vw_C, cl[c]? = some r) ∧
  (∀ o idx c y, B.1 o idx = (10, c, y) → Cond.classLink (nm o) idx (nm c) ∈ Ts) ∧
  (∀ o idx c y, B.1 o idx = (11, c, y) → Cond.classLink (nm o) idx (nm c) ∈ Ts ∧ ∃ r : vw_C, cl[c]? = some r) ∧
  (∀ o idx x y, B.1 o idx = (12, x, y) → Cond.constant (nm o) idx (Int32.ofNat x) ∈ Ts) ∧
  (∀ w ∈ Ts, (w.onTables && w.keeps) = true ∨ ∃ ty, w = .arrayClass ty) ∧
  (Cond.arrayClass .int ∈ Ts ∧ Cond.arrayClass .byte ∈ Ts ∧ Cond.arrayClass .boolean ∈ Ts) ∧ Cond.castable (nm 7) "java/lang/Object" ∈ NW ∧ (∀ C ∈ am_refs, Cond.arrayOver (.object C) ∈ NW) ∧ (∀ w ∈ NW, am_nwk w) ∧
  (∀ o idx x y, B.1 o idx = (13, x, y) → Cond.methodLink (nm o) idx arraycopyName ∈ Ts ∧ Cond.native arraycopyName ∈ Ts ∧ Cond.static arraycopyName ∈ Ts ∧ Cond.initialized "java/lang/System" ∈ Ts) ∧
  (∀ o idx x y, B.1 o idx = (14, x, y) → Cond.methodLink (nm o) idx am_gcn ∈ Ts ∧ Cond.declares am_gcn ∈ NW ∧ Cond.selects "[Ljava/lang/Object;" am_gcn am_gcn ∈ Ts ∧ Cond.instanceMethod am_gcn ∈ Ts ∧ Cond.native am_gcn ∈ Ts) ∧
  (∀ o idx x y, B.1 o idx = (15, x, y) → Cond.classLink (nm o) idx "[Ljava/lang/Object;" ∈ Ts)
end
section
/-- the addresses that the small machine's cells have -/
def am_A (base : Nat) : Nat → Prop := fun q => base ≤ q
/-- what is known of the tables and of the constants at a method's start -/
def am_K (B : am_B) (nm : Nat → String) (cl : List vw_C) (NW : List Cond) (D : va_G) (DA : FieldType → ClassId) (sa : Nat → Nat) (base : Nat) (U : State) : Prop :=
  va_K D cl [] U ∧ (∀ w ∈ NW, va_Nw w U) ∧ (∀ ty, am_tyk ty → ArrOfT U (DA ty) ty ∧ va_RA U (DA ty) ty) ∧
  (∀ j ty vs, B.2.2.2 j = some (ty, vs) → sa j < base ∧ va_T ty (sa j) vs.length (fun i => am_cv sa base (vs.getD i .null)) (am_A base) U U.heap) ∧
  (∀ o idx j y, B.1 o idx = (3, j, y) → ∃ C n d ref, va_Z C n d (.ref (sa j)) (am_A base) U U.heap ∧ (ref = C) ∧ (va_Nw (.fieldLink (nm o) idx ref n d) U ∨ ∃ host, Cond.fieldLinkNest (nm o) idx ref n d host ∈ NW)) ∧ va_Mi "[Ljava/lang/Object;" (sa 3) U
def am_wfF (I : am_I) (F : am_F) : Prop := (∀ v ∈ F.2.2.1, v.category = 1) ∧ (∀ v, some v ∈ F.2.1 → v.category = 1) ∧ am_v1 F.2.2.2 ∧ F.2.1.length = I.2.2.1
section AMS
variable (l : Launch) (B : am_B) (nm : Nat → String) (my : Nat → MethodName) (cl : List vw_C) (Ts NW : List Cond) (D : va_G) (DA : FieldType → ClassId) (sa : Nat → Nat) (base : Nat)
def am_Ctx (I : am_I) (p : Program) (s : State) (m : MethodId) (args : Array Value) (meth : Method) (c : Code) : Prop :=
  p.tables.exec = Jvm.exec ∧ c.code = I.2.1 ∧ c.maxLocals = I.2.2.1 ∧ s.vm.findClass (nm I.1) = some m.cls ∧ (∀ w ∈ Ts, w.before args s = true) ∧ am_K B nm cl NW D DA sa base s ∧ meth.locks = false ∧ meth.sig.returnType = I.2.2.2.1 ∧ (I.2.2.2.2 = true → meth.name = "<init>") ∧ base ≤ s.heap.size
def am_Rel (h0 : am_H) (F : am_F) (s : State) (H : Heap) (locs : List Loc) (lsm : Array Slot) (cells slots : Nat) : Prop :=
  am_Rl sa base F.2.1 lsm ∧ am_Wd D DA sa base cl F.2.2.2 H ∧ va_S (am_A base) s.heap H locs ∧ h0.length + cells = F.2.2.2.length ∧ am_sl h0 + slots = am_sl F.2.2.2
def am_P (I : am_I) (h0 : am_H) (d : Nat) (Q : Option Value → am_H → Prop) (Z : Option Value → am_H → State → Array Value → List Frame → State → Prop) (F : am_F) : Prop :=
  am_wfF I F → ∃ v h', Q v h' ∧ F.2.2.2.length ≤ h'.length ∧ am_sl F.2.2.2 ≤ am_sl h' ∧ am_v1 h' ∧ (∀ w, v = some w → w.category = 1) ∧
    ∀ (p : Program) (e : Env) (R : Room) (s : State) (m : MethodId) (args : Array Value) (below : List Frame) (meth : Method) (c : Code), am_Ctx B nm cl Ts NW D DA sa base I p s m args meth c → d ≤ R.frames → 64 * d ≤ R.locals → h'.length ≤ h0.length + R.cells → am_sl h' ≤ am_sl h0 + R.slots →
      ∀ (H : Heap) (locs : List Loc) (lsm : Array Slot) (cells slots : Nat), am_Rel cl D DA sa base h0 F s H locs lsm cells slots → W p l e R s m args below meth c H locs cells slots (Z v h' s args below) (F0 m F.1 lsm (F.2.2.1.map (am_cv sa base)))
variable {l B nm my cl Ts NW D DA sa base}
theorem am_go {I : am_I} {h0 : am_H} {d : Nat} {Q : Option Value → am_H → Prop} {Z : Option Value → am_H → State → Array Value → List Frame → State → Prop} {F F' : am_F} (hw : am_wfF I F → am_wfF I F') (hl : F.2.2.2.length ≤ F'.2.2.2.length) (hs : am_sl F.2.2.2 ≤ am_sl F'.2.2.2)
    (hstep : am_wfF I F → ∀ (p : Program) (e : Env) (R : Room) (s : State) (m : MethodId) (args : Array Value) (below : List Frame) (meth : Method) (c : Code) (Qm : State → Prop), am_Ctx B nm cl Ts NW D DA sa base I p s m args meth c → d ≤ R.frames → 64 * d ≤ R.locals → F'.2.2.2.length ≤ h0.length + R.cells → am_sl F'.2.2.2 ≤ am_sl h0 + R.slots →
      (∀ (H : Heap) (locs : List Loc) (lsm : Array Slot) (cells slots : Nat), am_Rel cl D DA sa base h0 F' s H locs lsm cells slots → W p l e R s m args below meth c H locs cells slots Qm (F0 m F'.1 lsm (F'.2.2.1.map (am_cv sa base)))) →
      ∀ (H : Heap) (locs : List Loc) (lsm : Array Slot) (cells slots : Nat), am_Rel cl D DA sa base h0 F s H locs lsm cells slots → W p l e R s m args below meth c H locs cells slots Qm (F0 m F.1 lsm (F.2.2.1.map (am_cv sa base))))
    (hP : am_P l B nm cl Ts NW D DA sa base I h0 d Q Z F') : am_P l B nm cl Ts NW D DA sa base I h0 d Q Z F := by
  intro hF
  obtain ⟨v, h', hQ, h1, h2, h3, h4, h5⟩ := hP (hw hF)
  refine ⟨v, h', hQ, Nat.le_trans hl h1, Nat.le_trans hs h2, h3, h4, ?_⟩
  intro p e R s m args below meth c hC hf hlo hc hsl
  exact hstep hF p e R s m args below meth c _ hC hf hlo (Nat.le_trans h1 hc) (Nat.le_trans h2 hsl) (h5 p e R s m args below meth c hC hf hlo hc hsl)
/-- an instruction that moves operands alone -/
theorem am_gost {I : am_I} {h0 : am_H} {d : Nat} {Q : Option Value → am_H → Prop} {Z : Option Value → am_H → State → Array Value → List Frame → State → Prop} {pc pc' : Nat} {ls : List (Option Value)} {st st' : List Value} {h : am_H} (hst : (∀ v ∈ st, v.category = 1) → ∀ v ∈ st', v.category = 1)
    (hstep : ∀ (p : Program) (e : Env) (R : Room) (s : State) (m : MethodId) (args : Array Value) (below : List Frame) (meth : Method) (c : Code) (Qm : State → Prop) (H : Heap) (locs : List Loc) (lsm : Array Slot) (cells slots : Nat), am_Ctx B nm cl Ts NW D DA sa base I p s m args meth c → (∀ v ∈ st, v.category = 1) → am_Rel cl D DA sa base h0 (pc, ls, st, h) s H locs lsm cells slots →
      W p l e R s m args below meth c H locs cells slots Qm (F0 m pc' lsm (st'.map (am_cv sa base))) → W p l e R s m args below meth c H locs cells slots Qm (F0 m pc lsm (st.map (am_cv sa base))))
    (hP : am_P l B nm cl Ts NW D DA sa base I h0 d Q Z (pc', ls, st', h)) : am_P l B nm cl Ts NW D DA sa base I h0 d Q Z (pc, ls, st, h) :=
  am_go (F' := (pc', ls, st', h)) (fun ⟨a, b, c, e⟩ => ⟨hst a, b, c, e⟩) (Nat.le_refl _) (Nat.le_refl _)
    (fun hF p e R s m args below meth c Qm hC _ _ _ _ k H locs lsm cells slots hR => hstep p e R s m args below meth c Qm H locs lsm cells slots hC hF.1 hR (k H locs lsm cells slots hR)) hP
/-- a store into a place -/
theorem am_golv {I : am_I} {h0 : am_H} {d : Nat} {Q : Option Value → am_H → Prop} {Z : Option Value → am_H → State → Array Value → List Frame → State → Prop} {pc pc' k : Nat} {ls : List (Option Value)} {st st' : List Value} {h : am_H} {v : Value} (hst : (∀ v ∈ st, v.category = 1) → (∀ v ∈ st', v.category = 1)) (hv : (∀ v ∈ st, v.category = 1) → v.category = 1) (hk : k < ls.length)
    (hstep : ∀ (p : Program) (e : Env) (R : Room) (s : State) (m : MethodId) (args : Array Value) (below : List Frame) (meth : Method) (c : Code) (Qm : State → Prop) (H : Heap) (locs : List Loc) (lsm : Array Slot) (cells slots : Nat), am_Ctx B nm cl Ts NW D DA sa base I p s m args meth c → am_Rl sa base ls lsm → 
      (∀ lsm' : Array Slot, lv_has lsm' ls.length ((k, am_cv sa base v) :: (am_lv sa base ls).filter (fun q => !(q.1 == k) && !(q.1 + 1 == k && q.2.category == 2))) → W p l e R s m args below meth c H locs cells slots Qm (F0 m pc' lsm' (st'.map (am_cv sa base)))) → W p l e R s m args below meth c H locs cells slots Qm (F0 m pc lsm (st.map (am_cv sa base))))
    (hP : am_P l B nm cl Ts NW D DA sa base I h0 d Q Z (pc', ls.set k (some v), st', h)) : am_P l B nm cl Ts NW D DA sa base I h0 d Q Z (pc, ls, st, h) :=
  am_go (F' := (pc', ls.set k (some v), st', h)) (fun ⟨a, b, c, e⟩ => ⟨hst a, fun w hw => by
      rcases List.mem_or_eq_of_mem_set hw with h2 | h2
      · exact b w h2
      · cases h2; exact hv a, c, by
      show (ls.set k (some v)).length = _
      rw [List.length_set]; exact e⟩) (Nat.le_refl _) (Nat.le_refl _)
    (fun hF p e R s m args below meth c Qm hC _ _ _ _ kk H locs lsm cells slots hR => hstep p e R s m args below meth c Qm H locs lsm cells slots hC hR.1 (fun lsm' h' => kk H locs lsm' cells slots ⟨hR.1.store (hv hF.1) hk h', hR.2⟩)) hP
end AMS
end
section
/-! one instruction: operands, places, numbers, branches -/
section AMI
variable {l : Launch} {B : am_B} {nm : Nat → String} {my : Nat → MethodName} {cl : List vw_C} {Ts NW : List Cond} {D : va_G} {DA : FieldType → ClassId} {sa : Nat → Nat} {base : Nat}
variable {I : am_I} {h0 : am_H} {d : Nat} {Q : Option Value → am_H → Prop} {Z : Option Value → am_H → State → Array Value → List Frame → State → Prop} {pc : Nat} {ls : List (Option Value)} {st : List Value} {h : am_H}
theorem am_i_iconst {n : Int} (hd : decode I.2.1 pc = .ok (.iconst n, 1)) (hP : am_P l B nm cl Ts NW D DA sa base I h0 d Q Z (pc + 1, ls, .int (Int32.ofInt n) :: st, h)) : am_P l B nm cl Ts NW D DA sa base I h0 d Q Z (pc, ls, st, h) :=
  am_gost (fun a => List.forall_mem_cons.mpr ⟨rfl, a⟩) (fun p e R s m args below meth c Qm H locs lsm cells slots hC _ hR k => lv_iconst hC.1 hC.2.1 hd rfl k) hP
theorem am_i_bipush {n : Int} (hd : decode I.2.1 pc = .ok (.bipush n, 2)) (hP : am_P l B nm cl Ts NW D DA sa base I h0 d Q Z (pc + 2, ls, .int (Int8.ofInt n).toInt32 :: st, h)) : am_P l B nm cl Ts NW D DA sa base I h0 d Q Z (pc, ls, st, h) :=
  am_gost (fun a => List.forall_mem_cons.mpr ⟨rfl, a⟩) (fun p e R s m args below meth c Qm H locs lsm cells slots hC _ hR k => lv_bipush hC.1 hC.2.1 hd rfl k) hP
theorem am_i_sipush {n : Int} (hd : decode I.2.1 pc = .ok (.sipush n, 3)) (hP : am_P l B nm cl Ts NW D DA sa base I h0 d Q Z (pc + 3, ls, .int (Int16.ofInt n).toInt32 :: st, h)) : am_P l B nm cl Ts NW D DA sa base I h0 d Q Z (pc, ls, st, h) :=
  am_gost (fun a => List.forall_mem_cons.mpr ⟨rfl, a⟩) (fun p e R s m args below meth c Qm H locs lsm cells slots hC _ hR k => lv_sipush hC.1 hC.2.1 hd rfl k) hP
theorem am_i_null (hd : decode I.2.1 pc = .ok (.aconst_null, 1)) (hP : am_P l B nm cl Ts NW D DA sa base I h0 d Q Z (pc + 1, ls, .null :: st, h)) : am_P l B nm cl Ts NW D DA sa base I h0 d Q Z (pc, ls, st, h) :=
  am_gost (fun a => List.forall_mem_cons.mpr ⟨rfl, a⟩) (fun p e R s m args below meth c Qm H locs lsm cells slots hC _ hR k => lv_null hC.1 hC.2.1 hd k) hP
theorem am_i_iload {k : Nat} {x : Int32} (hd : decode I.2.1 pc = .ok (.iload k, 2)) (hx : ls[k]? = some (some (.int x))) (hP : am_P l B nm cl Ts NW D DA sa base I h0 d Q Z (pc + 2, ls, .int x :: st, h)) : am_P l B nm cl Ts NW D DA sa base I h0 d Q Z (pc, ls, st, h) :=
  am_gost (fun a => List.forall_mem_cons.mpr ⟨rfl, a⟩) (fun p e R s m args below meth c Qm H locs lsm cells slots hC _ hR kk => lv_iload hC.1 hC.2.1 hd (hR.1.2.2 _ _ hx).1 kk) hP
theorem am_i_iload_n {k : Fin 4} {x : Int32} (hd : decode I.2.1 pc = .ok (.iload_n k, 1)) (hx : ls[k.val]? = some (some (.int x))) (hP : am_P l B nm cl Ts NW D DA sa base I h0 d Q Z (pc + 1, ls, .int x :: st, h)) : am_P l B nm cl Ts NW D DA sa base I h0 d Q Z (pc, ls, st, h) :=
  am_gost (fun a => List.forall_mem_cons.mpr ⟨rfl, a⟩) (fun p e R s m args below meth c Qm H locs lsm cells slots hC _ hR kk => lv_iload_n hC.1 hC.2.1 hd rfl (hR.1.2.2 _ _ hx).1 kk) hP
theorem am_isR_cat {v : Value} (h : am_isR v) : v.category = 1 := by
  rcases h with rfl | ⟨a, rfl⟩ | ⟨j, rfl⟩ <;> rfl
theorem am_i_aload {k : Nat} {v : Value} (hd : decode I.2.1 pc = .ok (.aload k, 2)) (hx : ls[k]? = some (some v)) (hv : am_isR v) (hP : am_P l B nm cl Ts NW D DA sa base I h0 d Q Z (pc + 2, ls, v :: st, h)) : am_P l B nm cl Ts NW D DA sa base I h0 d Q Z (pc, ls, st, h) := by
  refine am_gost (fun a => List.forall_mem_cons.mpr ⟨am_isR_cat hv, a⟩) (fun p e R s m args below meth c Qm H locs lsm cells slots hC _ hR kk => ?_) hP
  have h1 := (hR.1.2.2 _ _ hx).1
  rcases hv with rfl | ⟨a, rfl⟩ | ⟨j, rfl⟩
  · exact lv_aloadN hC.1 hC.2.1 hd h1 kk
  · exact lv_aload hC.1 hC.2.1 hd h1 kk
  · exact lv_aload hC.1 hC.2.1 hd h1 kk
theorem am_i_aload_n {k : Fin 4} {v : Value} (hd : decode I.2.1 pc = .ok (.aload_n k, 1)) (hx : ls[k.val]? = some (some v)) (hv : am_isR v) (hP : am_P l B nm cl Ts NW D DA sa base I h0 d Q Z (pc + 1, ls, v :: st, h)) : am_P l B nm cl Ts NW D DA sa base I h0 d Q Z (pc, ls, st, h) := by
  refine am_gost (fun a => List.forall_mem_cons.mpr ⟨am_isR_cat hv, a⟩) (fun p e R s m args below meth c Qm H locs lsm cells slots hC _ hR kk => ?_) hP
  have h1 := (hR.1.2.2 _ _ hx).1
  rcases hv with rfl | ⟨a, rfl⟩ | ⟨j, rfl⟩
  · exact lv_aload_nN hC.1 hC.2.1 hd rfl h1 kk
  · exact lv_aload_n hC.1 hC.2.1 hd rfl h1 kk
  · exact lv_aload_n hC.1 hC.2.1 hd rfl h1 kk
theorem am_tl {P : Value → Prop} {v : Value} {st : List Value} (h : ∀ w ∈ v :: st, P w) : ∀ w ∈ st, P w := fun w hw => h w (List.mem_cons_of_mem _ hw)
theorem am_hd {P : Value → Prop} {v : Value} {st : List Value} (h : ∀ w ∈ v :: st, P w) : P v := h v List.mem_cons_self
theorem am_i_istore {k : Nat} {x : Int32} {rest : List Value} (hd : decode I.2.1 pc = .ok (.istore k, 2)) (hk : k < ls.length) (hP : am_P l B nm cl Ts NW D DA sa base I h0 d Q Z (pc + 2, ls.set k (some (.int x)), rest, h)) : am_P l B nm cl Ts NW D DA sa base I h0 d Q Z (pc, ls, .int x :: rest, h) :=
  am_golv (v := .int x) am_tl (fun _ => rfl) hk (fun p e R s m args below meth c Qm H locs lsm cells slots hC hR kk => lv_istore hC.1 hC.2.1 hd hR.has hk rfl kk) hP
theorem am_i_istore_n {k : Fin 4} {x : Int32} {rest : List Value} (hd : decode I.2.1 pc = .ok (.istore_n k, 1)) (hk : k.val < ls.length) (hP : am_P l B nm cl Ts NW D DA sa base I h0 d Q Z (pc + 1, ls.set k.val (some (.int x)), rest, h)) : am_P l B nm cl Ts NW D DA sa base I h0 d Q Z (pc, ls, .int x :: rest, h) :=
  am_golv (v := .int x) am_tl (fun _ => rfl) hk (fun p e R s m args below meth c Qm H locs lsm cells slots hC hR kk => lv_istore_n hC.1 hC.2.1 hd rfl hR.has hk rfl kk) hP
theorem am_i_astore {k : Nat} {v : Value} {rest : List Value} (hd : decode I.2.1 pc = .ok (.astore k, 2)) (hv : am_isR v) (hk : k < ls.length) (hP : am_P l B nm cl Ts NW D DA sa base I h0 d Q Z (pc + 2, ls.set k (some v), rest, h)) : am_P l B nm cl Ts NW D DA sa base I h0 d Q Z (pc, ls, v :: rest, h) := by
  refine am_golv (v := v) am_tl (fun _ => am_isR_cat hv) hk (fun p e R s m args below meth c Qm H locs lsm cells slots hC hR kk => ?_) hP
  rcases hv with rfl | ⟨a, rfl⟩ | ⟨j, rfl⟩
  · exact lv_astoreN hC.1 hC.2.1 hd hR.has hk rfl kk
  · exact lv_astore hC.1 hC.2.1 hd hR.has hk rfl kk
  · exact lv_astore hC.1 hC.2.1 hd hR.has hk rfl kk
theorem am_i_astore_n {k : Fin 4} {v : Value} {rest : List Value} (hd : decode I.2.1 pc = .ok (.astore_n k, 1)) (hv : am_isR v) (hk : k.val < ls.length) (hP : am_P l B nm cl Ts NW D DA sa base I h0 d Q Z (pc + 1, ls.set k.val (some v), rest, h)) : am_P l B nm cl Ts NW D DA sa base I h0 d Q Z (pc, ls, v :: rest, h) := by
  refine am_golv (v := v) am_tl (fun _ => am_isR_cat hv) hk (fun p e R s m args below meth c Qm H locs lsm cells slots hC hR kk => ?_) hP
  rcases hv with rfl | ⟨a, rfl⟩ | ⟨j, rfl⟩
  · exact lv_astore_nN hC.1 hC.2.1 hd rfl hR.has hk rfl kk
  · exact lv_astore_n hC.1 hC.2.1 hd rfl hR.has hk rfl kk
  · exact lv_astore_n hC.1 hC.2.1 hd rfl hR.has hk rfl kk
theorem am_i_iinc {k : Nat} {n : Int} {x : Int32} (hd : decode I.2.1 pc = .ok (.iinc k n, 3)) (hx : ls[k]? = some (some (.int x))) (hP : am_P l B nm cl Ts NW D DA sa base I h0 d Q Z (pc + 3, ls.set k (some (.int (x + Int32.ofInt n))), st, h)) : am_P l B nm cl Ts NW D DA sa base I h0 d Q Z (pc, ls, st, h) := by
  have hk : k < ls.length := (List.getElem?_eq_some_iff.mp hx).1
  refine am_golv (v := .int (x + Int32.ofInt n)) id (fun _ => rfl) hk (fun p e R s m args below meth c Qm H locs lsm cells slots hC hR kk => ?_) hP
  obtain ⟨q, hq⟩ := List.getElem?_of_mem (am_lv_mem.mpr ⟨.int x, hx, rfl⟩ : (k, am_cv sa base (.int x)) ∈ am_lv sa base ls)
  exact lv_iinc (k := q) hC.1 hC.2.1 hd hR.has hq rfl hk rfl kk
end AMI
end
section
/-! one instruction: numbers, operands, branches -/
section AMJ
variable {l : Launch} {B : am_B} {nm : Nat → String} {my : Nat → MethodName} {cl : List vw_C} {Ts NW : List Cond} {D : va_G} {DA : FieldType → ClassId} {sa : Nat → Nat} {base : Nat}
variable {I : am_I} {h0 : am_H} {d : Nat} {Q : Option Value → am_H → Prop} {Z : Option Value → am_H → State → Array Value → List Frame → State → Prop} {pc : Nat} {ls : List (Option Value)} {st rest : List Value} {h : am_H}
theorem am_i_iadd {x y : Int32} (hd : decode I.2.1 pc = .ok (.iadd, 1)) (hP : am_P l B nm cl Ts NW D DA sa base I h0 d Q Z (pc + 1, ls, .int (x + y) :: rest, h)) : am_P l B nm cl Ts NW D DA sa base I h0 d Q Z (pc, ls, .int y :: .int x :: rest, h) :=
  am_gost (fun a => List.forall_mem_cons.mpr ⟨rfl, am_tl (am_tl a)⟩) (fun p e R s m args below meth c Qm H locs lsm cells slots hC hst hR k => lv_iadd hC.1 hC.2.1 hd k) hP
theorem am_i_isub {x y : Int32} (hd : decode I.2.1 pc = .ok (.isub, 1)) (hP : am_P l B nm cl Ts NW D DA sa base I h0 d Q Z (pc + 1, ls, .int (x - y) :: rest, h)) : am_P l B nm cl Ts NW D DA sa base I h0 d Q Z (pc, ls, .int y :: .int x :: rest, h) :=
  am_gost (fun a => List.forall_mem_cons.mpr ⟨rfl, am_tl (am_tl a)⟩) (fun p e R s m args below meth c Qm H locs lsm cells slots hC hst hR k => lv_isub hC.1 hC.2.1 hd k) hP
theorem am_i_imul {x y : Int32} (hd : decode I.2.1 pc = .ok (.imul, 1)) (hP : am_P l B nm cl Ts NW D DA sa base I h0 d Q Z (pc + 1, ls, .int (x * y) :: rest, h)) : am_P l B nm cl Ts NW D DA sa base I h0 d Q Z (pc, ls, .int y :: .int x :: rest, h) :=
  am_gost (fun a => List.forall_mem_cons.mpr ⟨rfl, am_tl (am_tl a)⟩) (fun p e R s m args below meth c Qm H locs lsm cells slots hC hst hR k => lv_imul hC.1 hC.2.1 hd k) hP
theorem am_i_iand {x y : Int32} (hd : decode I.2.1 pc = .ok (.iand, 1)) (hP : am_P l B nm cl Ts NW D DA sa base I h0 d Q Z (pc + 1, ls, .int (x &&& y) :: rest, h)) : am_P l B nm cl Ts NW D DA sa base I h0 d Q Z (pc, ls, .int y :: .int x :: rest, h) :=
  am_gost (fun a => List.forall_mem_cons.mpr ⟨rfl, am_tl (am_tl a)⟩) (fun p e R s m args below meth c Qm H locs lsm cells slots hC hst hR k => lv_iand hC.1 hC.2.1 hd k) hP
theorem am_i_ishr {x y : Int32} (hd : decode I.2.1 pc = .ok (.ishr, 1)) (hP : am_P l B nm cl Ts NW D DA sa base I h0 d Q Z (pc + 1, ls, .int (x >>> (y &&& 31)) :: rest, h)) : am_P l B nm cl Ts NW D DA sa base I h0 d Q Z (pc, ls, .int y :: .int x :: rest, h) :=
  am_gost (fun a => List.forall_mem_cons.mpr ⟨rfl, am_tl (am_tl a)⟩) (fun p e R s m args below meth c Qm H locs lsm cells slots hC hst hR k => lv_ishr hC.1 hC.2.1 hd k) hP
theorem am_i_iushr {x y : Int32} (hd : decode I.2.1 pc = .ok (.iushr, 1)) (hP : am_P l B nm cl Ts NW D DA sa base I h0 d Q Z (pc + 1, ls, .int ((x.toUInt32 >>> (y.toUInt32 &&& Int32.toUInt32 31)).toInt32) :: rest, h)) : am_P l B nm cl Ts NW D DA sa base I h0 d Q Z (pc, ls, .int y :: .int x :: rest, h) :=
  am_gost (fun a => List.forall_mem_cons.mpr ⟨rfl, am_tl (am_tl a)⟩) (fun p e R s m args below meth c Qm H locs lsm cells slots hC hst hR k => lv_iushr hC.1 hC.2.1 hd rfl k) hP
theorem am_i_idiv {x y : Int32} (hne : ¬ y = 0) (hd : decode I.2.1 pc = .ok (.idiv, 1)) (hP : am_P l B nm cl Ts NW D DA sa base I h0 d Q Z (pc + 1, ls, .int (x / y) :: rest, h)) : am_P l B nm cl Ts NW D DA sa base I h0 d Q Z (pc, ls, .int y :: .int x :: rest, h) :=
  am_gost (fun a => List.forall_mem_cons.mpr ⟨rfl, am_tl (am_tl a)⟩) (fun p e R s m args below meth c Qm H locs lsm cells slots hC hst hR k => lv_idiv hC.1 hC.2.1 hd hne k) hP
theorem am_i_i2b {x : Int32} (hd : decode I.2.1 pc = .ok (.i2b, 1)) (hP : am_P l B nm cl Ts NW D DA sa base I h0 d Q Z (pc + 1, ls, .int x.toInt8.toInt32 :: rest, h)) : am_P l B nm cl Ts NW D DA sa base I h0 d Q Z (pc, ls, .int x :: rest, h) :=
  am_gost (fun a => List.forall_mem_cons.mpr ⟨rfl, am_tl a⟩) (fun p e R s m args below meth c Qm H locs lsm cells slots hC hst hR k => lv_i2b hC.1 hC.2.1 hd rfl k) hP
theorem am_cc {st : List Value} {v : Value} (hst : ∀ w ∈ v :: st, w.category = 1) : (am_cv sa base v).category = 1 := by rw [am_cv_cat]; exact am_hd hst
theorem am_i_dup {v : Value} (hd : decode I.2.1 pc = .ok (.dup, 1)) (hP : am_P l B nm cl Ts NW D DA sa base I h0 d Q Z (pc + 1, ls, v :: v :: rest, h)) : am_P l B nm cl Ts NW D DA sa base I h0 d Q Z (pc, ls, v :: rest, h) :=
  am_gost (fun a => List.forall_mem_cons.mpr ⟨am_hd a, a⟩) (fun p e R s m args below meth c Qm H locs lsm cells slots hC hst hR k => lv_dup hC.1 hC.2.1 hd (am_cc hst) k) hP
theorem am_i_dup_x1 {v w : Value} (hd : decode I.2.1 pc = .ok (.dup_x1, 1)) (hP : am_P l B nm cl Ts NW D DA sa base I h0 d Q Z (pc + 1, ls, v :: w :: v :: rest, h)) : am_P l B nm cl Ts NW D DA sa base I h0 d Q Z (pc, ls, v :: w :: rest, h) :=
  am_gost (fun a => List.forall_mem_cons.mpr ⟨am_hd a, List.forall_mem_cons.mpr ⟨am_hd (am_tl a), List.forall_mem_cons.mpr ⟨am_hd a, am_tl (am_tl a)⟩⟩⟩) (fun p e R s m args below meth c Qm H locs lsm cells slots hC hst hR k => lv_dup_x1 hC.1 hC.2.1 hd (am_cc hst) (am_cc (am_tl hst)) k) hP
theorem am_i_dup2 {v w : Value} (hd : decode I.2.1 pc = .ok (.dup2, 1)) (hP : am_P l B nm cl Ts NW D DA sa base I h0 d Q Z (pc + 1, ls, v :: w :: v :: w :: rest, h)) : am_P l B nm cl Ts NW D DA sa base I h0 d Q Z (pc, ls, v :: w :: rest, h) :=
  am_gost (fun a => List.forall_mem_cons.mpr ⟨am_hd a, List.forall_mem_cons.mpr ⟨am_hd (am_tl a), a⟩⟩) (fun p e R s m args below meth c Qm H locs lsm cells slots hC hst hR k => lv_dup2_11 hC.1 hC.2.1 hd (am_cc hst) (am_cc (am_tl hst)) k) hP
theorem am_i_pop {v : Value} (hd : decode I.2.1 pc = .ok (.pop, 1)) (hP : am_P l B nm cl Ts NW D DA sa base I h0 d Q Z (pc + 1, ls, rest, h)) : am_P l B nm cl Ts NW D DA sa base I h0 d Q Z (pc, ls, v :: rest, h) :=
  am_gost am_tl (fun p e R s m args below meth c Qm H locs lsm cells slots hC hst hR k => lv_pop hC.1 hC.2.1 hd (am_cc hst) k) hP
theorem am_i_goto {off : Int} {tgt : Nat} (hd : decode I.2.1 pc = .ok (.goto off, 3)) (ht : (pc : Int) + off = (tgt : Int)) (hP : am_P l B nm cl Ts NW D DA sa base I h0 d Q Z (tgt, ls, st, h)) : am_P l B nm cl Ts NW D DA sa base I h0 d Q Z (pc, ls, st, h) :=
  am_gost id (fun p e R s m args below meth c Qm H locs lsm cells slots hC hst hR k => lv_goto hC.1 hC.2.1 hd ht k) hP
theorem am_i_c1eq {x : Int32} {off : Int} {tgt : Nat} (hd : decode I.2.1 pc = .ok (.ifCond .eq off, 3)) (ht : (pc : Int) + off = (tgt : Int)) (h1 : x = 0 → am_P l B nm cl Ts NW D DA sa base I h0 d Q Z (tgt, ls, rest, h)) (h2 : ¬ (x = 0) → am_P l B nm cl Ts NW D DA sa base I h0 d Q Z (pc + 3, ls, rest, h)) : am_P l B nm cl Ts NW D DA sa base I h0 d Q Z (pc, ls, .int x :: rest, h) := by
  by_cases hc : x = 0
  · exact am_gost am_tl (fun p e R s m args below meth c Qm H locs lsm cells slots hC hst hR k => lv_if_eq hC.1 hC.2.1 hd ht (fun _ => k) (fun hn => absurd hc hn)) (h1 hc)
  · exact am_gost am_tl (fun p e R s m args below meth c Qm H locs lsm cells slots hC hst hR k => lv_if_eq hC.1 hC.2.1 hd ht (fun hn => absurd hn hc) (fun _ => k)) (h2 hc)
theorem am_i_c2eq {x y : Int32} {off : Int} {tgt : Nat} (hd : decode I.2.1 pc = .ok (.if_icmp .eq off, 3)) (ht : (pc : Int) + off = (tgt : Int)) (h1 : x = y → am_P l B nm cl Ts NW D DA sa base I h0 d Q Z (tgt, ls, rest, h)) (h2 : ¬ (x = y) → am_P l B nm cl Ts NW D DA sa base I h0 d Q Z (pc + 3, ls, rest, h)) : am_P l B nm cl Ts NW D DA sa base I h0 d Q Z (pc, ls, .int y :: .int x :: rest, h) := by
  by_cases hc : x = y
  · exact am_gost (fun a => am_tl (am_tl a)) (fun p e R s m args below meth c Qm H locs lsm cells slots hC hst hR k => lv_icmp_eq hC.1 hC.2.1 hd ht (fun _ => k) (fun hn => absurd hc hn)) (h1 hc)
  · exact am_gost (fun a => am_tl (am_tl a)) (fun p e R s m args below meth c Qm H locs lsm cells slots hC hst hR k => lv_icmp_eq hC.1 hC.2.1 hd ht (fun hn => absurd hn hc) (fun _ => k)) (h2 hc)
theorem am_i_c1ne {x : Int32} {off : Int} {tgt : Nat} (hd : decode I.2.1 pc = .ok (.ifCond .ne off, 3)) (ht : (pc : Int) + off = (tgt : Int)) (h1 : ¬ x = 0 → am_P l B nm cl Ts NW D DA sa base I h0 d Q Z (tgt, ls, rest, h)) (h2 : ¬ (¬ x = 0) → am_P l B nm cl Ts NW D DA sa base I h0 d Q Z (pc + 3, ls, rest, h)) : am_P l B nm cl Ts NW D DA sa base I h0 d Q Z (pc, ls, .int x :: rest, h) := by
  by_cases hc : ¬ x = 0
  · exact am_gost am_tl (fun p e R s m args below meth c Qm H locs lsm cells slots hC hst hR k => lv_if_ne hC.1 hC.2.1 hd ht (fun _ => k) (fun hn => absurd hn hc)) (h1 hc)
  · exact am_gost am_tl (fun p e R s m args below meth c Qm H locs lsm cells slots hC hst hR k => lv_if_ne hC.1 hC.2.1 hd ht (fun hn => absurd hn hc) (fun _ => k)) (h2 hc)
theorem am_i_c2ne {x y : Int32} {off : Int} {tgt : Nat} (hd : decode I.2.1 pc = .ok (.if_icmp .ne off, 3)) (ht : (pc : Int) + off = (tgt : Int)) (h1 : ¬ x = y → am_P l B nm cl Ts NW D DA sa base I h0 d Q Z (tgt, ls, rest, h)) (h2 : ¬ (¬ x = y) → am_P l B nm cl Ts NW D DA sa base I h0 d Q Z (pc + 3, ls, rest, h)) : am_P l B nm cl Ts NW D DA sa base I h0 d Q Z (pc, ls, .int y :: .int x :: rest, h) := by
  by_cases hc : ¬ x = y
  · exact am_gost (fun a => am_tl (am_tl a)) (fun p e R s m args below meth c Qm H locs lsm cells slots hC hst hR k => lv_icmp_ne hC.1 hC.2.1 hd ht (fun _ => k) (fun hn => absurd hn hc)) (h1 hc)
  · exact am_gost (fun a => am_tl (am_tl a)) (fun p e R s m args below meth c Qm H locs lsm cells slots hC hst hR k => lv_icmp_ne hC.1 hC.2.1 hd ht (fun hn => absurd hn hc) (fun _ => k)) (h2 hc)
theorem am_i_c1lt {x : Int32} {off : Int} {tgt : Nat} (hd : decode I.2.1 pc = .ok (.ifCond .lt off, 3)) (ht : (pc : Int) + off = (tgt : Int)) (h1 : x < 0 → am_P l B nm cl Ts NW D DA sa base I h0 d Q Z (tgt, ls, rest, h)) (h2 : ¬ (x < 0) → am_P l B nm cl Ts NW D DA sa base I h0 d Q Z (pc + 3, ls, rest, h)) : am_P l B nm cl Ts NW D DA sa base I h0 d Q Z (pc, ls, .int x :: rest, h) := by
  by_cases hc : x < 0
  · exact am_gost am_tl (fun p e R s m args below meth c Qm H locs lsm cells slots hC hst hR k => lv_if_lt hC.1 hC.2.1 hd ht (fun _ => k) (fun hn => absurd hc hn)) (h1 hc)
  · exact am_gost am_tl (fun p e R s m args below meth c Qm H locs lsm cells slots hC hst hR k => lv_if_lt hC.1 hC.2.1 hd ht (fun hn => absurd hn hc) (fun _ => k)) (h2 hc)
theorem am_i_c2lt {x y : Int32} {off : Int} {tgt : Nat} (hd : decode I.2.1 pc = .ok (.if_icmp .lt off, 3)) (ht : (pc : Int) + off = (tgt : Int)) (h1 : x < y → am_P l B nm cl Ts NW D DA sa base I h0 d Q Z (tgt, ls, rest, h)) (h2 : ¬ (x < y) → am_P l B nm cl Ts NW D DA sa base I h0 d Q Z (pc + 3, ls, rest, h)) : am_P l B nm cl Ts NW D DA sa base I h0 d Q Z (pc, ls, .int y :: .int x :: rest, h) := by
  by_cases hc : x < y
  · exact am_gost (fun a => am_tl (am_tl a)) (fun p e R s m args below meth c Qm H locs lsm cells slots hC hst hR k => lv_icmp_lt hC.1 hC.2.1 hd ht (fun _ => k) (fun hn => absurd hc hn)) (h1 hc)
  · exact am_gost (fun a => am_tl (am_tl a)) (fun p e R s m args below meth c Qm H locs lsm cells slots hC hst hR k => lv_icmp_lt hC.1 hC.2.1 hd ht (fun hn => absurd hn hc) (fun _ => k)) (h2 hc)
theorem am_i_c1ge {x : Int32} {off : Int} {tgt : Nat} (hd : decode I.2.1 pc = .ok (.ifCond .ge off, 3)) (ht : (pc : Int) + off = (tgt : Int)) (h1 : 0 ≤ x → am_P l B nm cl Ts NW D DA sa base I h0 d Q Z (tgt, ls, rest, h)) (h2 : ¬ (0 ≤ x) → am_P l B nm cl Ts NW D DA sa base I h0 d Q Z (pc + 3, ls, rest, h)) : am_P l B nm cl Ts NW D DA sa base I h0 d Q Z (pc, ls, .int x :: rest, h) := by
  by_cases hc : 0 ≤ x
  · exact am_gost am_tl (fun p e R s m args below meth c Qm H locs lsm cells slots hC hst hR k => lv_if_ge hC.1 hC.2.1 hd ht (fun _ => k) (fun hn => absurd hc hn)) (h1 hc)
  · exact am_gost am_tl (fun p e R s m args below meth c Qm H locs lsm cells slots hC hst hR k => lv_if_ge hC.1 hC.2.1 hd ht (fun hn => absurd hn hc) (fun _ => k)) (h2 hc)
theorem am_i_c2ge {x y : Int32} {off : Int} {tgt : Nat} (hd : decode I.2.1 pc = .ok (.if_icmp .ge off, 3)) (ht : (pc : Int) + off = (tgt : Int)) (h1 : y ≤ x → am_P l B nm cl Ts NW D DA sa base I h0 d Q Z (tgt, ls, rest, h)) (h2 : ¬ (y ≤ x) → am_P l B nm cl Ts NW D DA sa base I h0 d Q Z (pc + 3, ls, rest, h)) : am_P l B nm cl Ts NW D DA sa base I h0 d Q Z (pc, ls, .int y :: .int x :: rest, h) := by
  by_cases hc : y ≤ x
  · exact am_gost (fun a => am_tl (am_tl a)) (fun p e R s m args below meth c Qm H locs lsm cells slots hC hst hR k => lv_icmp_ge hC.1 hC.2.1 hd ht (fun _ => k) (fun hn => absurd hc hn)) (h1 hc)
  · exact am_gost (fun a => am_tl (am_tl a)) (fun p e R s m args below meth c Qm H locs lsm cells slots hC hst hR k => lv_icmp_ge hC.1 hC.2.1 hd ht (fun hn => absurd hn hc) (fun _ => k)) (h2 hc)
theorem am_i_c1gt {x : Int32} {off : Int} {tgt : Nat} (hd : decode I.2.1 pc = .ok (.ifCond .gt off, 3)) (ht : (pc : Int) + off = (tgt : Int)) (h1 : 0 < x → am_P l B nm cl Ts NW D DA sa base I h0 d Q Z (tgt, ls, rest, h)) (h2 : ¬ (0 < x) → am_P l B nm cl Ts NW D DA sa base I h0 d Q Z (pc + 3, ls, rest, h)) : am_P l B nm cl Ts NW D DA sa base I h0 d Q Z (pc, ls, .int x :: rest, h) := by
  by_cases hc : 0 < x
  · exact am_gost am_tl (fun p e R s m args below meth c Qm H locs lsm cells slots hC hst hR k => lv_if_gt hC.1 hC.2.1 hd ht (fun _ => k) (fun hn => absurd hc hn)) (h1 hc)
  · exact am_gost am_tl (fun p e R s m args below meth c Qm H locs lsm cells slots hC hst hR k => lv_if_gt hC.1 hC.2.1 hd ht (fun hn => absurd hn hc) (fun _ => k)) (h2 hc)
theorem am_i_c2gt {x y : Int32} {off : Int} {tgt : Nat} (hd : decode I.2.1 pc = .ok (.if_icmp .gt off, 3)) (ht : (pc : Int) + off = (tgt : Int)) (h1 : y < x → am_P l B nm cl Ts NW D DA sa base I h0 d Q Z (tgt, ls, rest, h)) (h2 : ¬ (y < x) → am_P l B nm cl Ts NW D DA sa base I h0 d Q Z (pc + 3, ls, rest, h)) : am_P l B nm cl Ts NW D DA sa base I h0 d Q Z (pc, ls, .int y :: .int x :: rest, h) := by
  by_cases hc : y < x
  · exact am_gost (fun a => am_tl (am_tl a)) (fun p e R s m args below meth c Qm H locs lsm cells slots hC hst hR k => lv_icmp_gt hC.1 hC.2.1 hd ht (fun _ => k) (fun hn => absurd hc hn)) (h1 hc)
  · exact am_gost (fun a => am_tl (am_tl a)) (fun p e R s m args below meth c Qm H locs lsm cells slots hC hst hR k => lv_icmp_gt hC.1 hC.2.1 hd ht (fun hn => absurd hn hc) (fun _ => k)) (h2 hc)
theorem am_i_c1le {x : Int32} {off : Int} {tgt : Nat} (hd : decode I.2.1 pc = .ok (.ifCond .le off, 3)) (ht : (pc : Int) + off = (tgt : Int)) (h1 : x ≤ 0 → am_P l B nm cl Ts NW D DA sa base I h0 d Q Z (tgt, ls, rest, h)) (h2 : ¬ (x ≤ 0) → am_P l B nm cl Ts NW D DA sa base I h0 d Q Z (pc + 3, ls, rest, h)) : am_P l B nm cl Ts NW D DA sa base I h0 d Q Z (pc, ls, .int x :: rest, h) := by
  by_cases hc : x ≤ 0
  · exact am_gost am_tl (fun p e R s m args below meth c Qm H locs lsm cells slots hC hst hR k => lv_if_le hC.1 hC.2.1 hd ht (fun _ => k) (fun hn => absurd hc hn)) (h1 hc)
  · exact am_gost am_tl (fun p e R s m args below meth c Qm H locs lsm cells slots hC hst hR k => lv_if_le hC.1 hC.2.1 hd ht (fun hn => absurd hn hc) (fun _ => k)) (h2 hc)
theorem am_i_c2le {x y : Int32} {off : Int} {tgt : Nat} (hd : decode I.2.1 pc = .ok (.if_icmp .le off, 3)) (ht : (pc : Int) + off = (tgt : Int)) (h1 : x ≤ y → am_P l B nm cl Ts NW D DA sa base I h0 d Q Z (tgt, ls, rest, h)) (h2 : ¬ (x ≤ y) → am_P l B nm cl Ts NW D DA sa base I h0 d Q Z (pc + 3, ls, rest, h)) : am_P l B nm cl Ts NW D DA sa base I h0 d Q Z (pc, ls, .int y :: .int x :: rest, h) := by
  by_cases hc : x ≤ y
  · exact am_gost (fun a => am_tl (am_tl a)) (fun p e R s m args below meth c Qm H locs lsm cells slots hC hst hR k => lv_icmp_le hC.1 hC.2.1 hd ht (fun _ => k) (fun hn => absurd hc hn)) (h1 hc)
  · exact am_gost (fun a => am_tl (am_tl a)) (fun p e R s m args below meth c Qm H locs lsm cells slots hC hst hR k => lv_icmp_le hC.1 hC.2.1 hd ht (fun hn => absurd hn hc) (fun _ => k)) (h2 hc)
theorem am_cvR {v : Value} (hv : am_isR v) : ∃ r : Option Nat, am_cv sa base v = va_rf r ∧ (v = .null ↔ r = none) := by
  rcases hv with rfl | ⟨a, rfl⟩ | ⟨j, rfl⟩
  · exact ⟨none, rfl, by simp⟩
  · exact ⟨some (base + a), rfl, by simp⟩
  · exact ⟨some (sa j), rfl, by simp⟩
theorem am_i_ifnull {v : Value} {off : Int} {tgt : Nat} (hd : decode I.2.1 pc = .ok (.ifnull off, 3)) (hv : am_isR v) (ht : (pc : Int) + off = (tgt : Int)) (h1 : v = .null → am_P l B nm cl Ts NW D DA sa base I h0 d Q Z (tgt, ls, rest, h)) (h2 : ¬ v = .null → am_P l B nm cl Ts NW D DA sa base I h0 d Q Z (pc + 3, ls, rest, h)) : am_P l B nm cl Ts NW D DA sa base I h0 d Q Z (pc, ls, v :: rest, h) := by
  rcases hv with rfl | ⟨a, rfl⟩ | ⟨j, rfl⟩
  · exact am_gost am_tl (fun p e R s m args below meth c Qm H locs lsm cells slots hC hst hR k => lv_ifnullN hC.1 hC.2.1 hd ht k) (h1 rfl)
  · exact am_gost am_tl (fun p e R s m args below meth c Qm H locs lsm cells slots hC hst hR k => lv_ifnull hC.1 hC.2.1 hd k) (h2 (by simp))
  · exact am_gost am_tl (fun p e R s m args below meth c Qm H locs lsm cells slots hC hst hR k => lv_ifnull hC.1 hC.2.1 hd k) (h2 (by simp))
theorem am_i_ifnonnull {v : Value} {off : Int} {tgt : Nat} (hd : decode I.2.1 pc = .ok (.ifnonnull off, 3)) (hv : am_isR v) (ht : (pc : Int) + off = (tgt : Int)) (h1 : ¬ v = .null → am_P l B nm cl Ts NW D DA sa base I h0 d Q Z (tgt, ls, rest, h)) (h2 : ¬ ¬ v = .null → am_P l B nm cl Ts NW D DA sa base I h0 d Q Z (pc + 3, ls, rest, h)) : am_P l B nm cl Ts NW D DA sa base I h0 d Q Z (pc, ls, v :: rest, h) := by
  rcases hv with rfl | ⟨a, rfl⟩ | ⟨j, rfl⟩
  · exact am_gost am_tl (fun p e R s m args below meth c Qm H locs lsm cells slots hC hst hR k => lv_ifnonnullN hC.1 hC.2.1 hd k) (h2 (by simp))
  · exact am_gost am_tl (fun p e R s m args below meth c Qm H locs lsm cells slots hC hst hR k => lv_ifnonnull hC.1 hC.2.1 hd ht k) (h1 (by simp))
  · exact am_gost am_tl (fun p e R s m args below meth c Qm H locs lsm cells slots hC hst hR k => lv_ifnonnull hC.1 hC.2.1 hd ht k) (h1 (by simp))
/-- two references differ as the numbers of their cells do -/
theorem am_cvEq {v w : Value} (hK : ∀ j ty vs, B.2.2.2 j = some (ty, vs) → sa j < base) (hc : am_cmpR B v w) : ∃ rv rw_ : Option Nat, am_cv sa base v = va_rf rv ∧ am_cv sa base w = va_rf rw_ ∧ (v = w ↔ rv = rw_) := by
  obtain ⟨hv, hw, hc⟩ := hc
  rcases hc with rfl | ⟨hc, hk⟩
  · obtain ⟨r, e1, -⟩ := am_cvR (sa := sa) (base := base) hv
    exact ⟨r, r, e1, e1, by simp⟩
  have hK2 : ∀ j, v = .retAddr j ∨ w = .retAddr j → sa j < base := fun j hj => by
    obtain ⟨x, hx⟩ := Option.isSome_iff_exists.mp (hk j hj)
    exact hK j x.1 x.2 hx
  rcases hv with rfl | ⟨a, rfl⟩ | ⟨i, rfl⟩ <;> rcases hw with rfl | ⟨b, rfl⟩ | ⟨j, rfl⟩
  · exact ⟨none, none, rfl, rfl, by simp⟩
  · exact ⟨none, some (base + b), rfl, rfl, by simp⟩
  · exact ⟨none, some (sa j), rfl, rfl, by simp⟩
  · exact ⟨some (base + a), none, rfl, rfl, by simp⟩
  · exact ⟨some (base + a), some (base + b), rfl, rfl, by simp⟩
  · refine ⟨some (base + a), some (sa j), rfl, rfl, ?_⟩
    have := hK2 j (Or.inr rfl)
    constructor
    · intro q; cases q
    · intro q
      have := Option.some.inj q
      omega
  · exact ⟨some (sa i), none, rfl, rfl, by simp⟩
  · refine ⟨some (sa i), some (base + b), rfl, rfl, ?_⟩
    have := hK2 i (Or.inl rfl)
    constructor
    · intro q; cases q
    · intro q
      have := Option.some.inj q
      omega
  · exact absurd ⟨i, j, rfl, rfl⟩ hc
theorem am_i_acmpeq {v w : Value} {off : Int} {tgt : Nat} (hd : decode I.2.1 pc = .ok (.if_acmp .eq off, 3)) (hv : am_cmpR B v w) (ht : (pc : Int) + off = (tgt : Int)) (h1 : v = w → am_P l B nm cl Ts NW D DA sa base I h0 d Q Z (tgt, ls, rest, h)) (h2 : ¬ v = w → am_P l B nm cl Ts NW D DA sa base I h0 d Q Z (pc + 3, ls, rest, h)) : am_P l B nm cl Ts NW D DA sa base I h0 d Q Z (pc, ls, w :: v :: rest, h) := by
  by_cases hc : v = w
  · refine am_gost (fun a => am_tl (am_tl a)) (fun p e R s m args below meth c Qm H locs lsm cells slots hC hst hR k => ?_) (h1 hc)
    obtain ⟨rv, rw_, e1, e2, e3⟩ := am_cvEq (sa := sa) (base := base) (fun j ty vs hj => (hC.2.2.2.2.2.1.2.2.2.1 j ty vs hj).1) hv
    show W p l e R s m args below meth c H locs cells slots Qm (F0 m pc lsm (am_cv sa base w :: am_cv sa base v :: rest.map (am_cv sa base)))
    rw [e1, e2]
    exact lv_acmp_eq hC.1 hC.2.1 hd ht (fun _ => k) (fun hn => absurd (e3.mp hc) hn)
  · refine am_gost (fun a => am_tl (am_tl a)) (fun p e R s m args below meth c Qm H locs lsm cells slots hC hst hR k => ?_) (h2 hc)
    obtain ⟨rv, rw_, e1, e2, e3⟩ := am_cvEq (sa := sa) (base := base) (fun j ty vs hj => (hC.2.2.2.2.2.1.2.2.2.1 j ty vs hj).1) hv
    show W p l e R s m args below meth c H locs cells slots Qm (F0 m pc lsm (am_cv sa base w :: am_cv sa base v :: rest.map (am_cv sa base)))
    rw [e1, e2]
    exact lv_acmp_eq hC.1 hC.2.1 hd ht (fun hn => absurd (e3.mpr hn) hc) (fun _ => k)
theorem am_i_acmpne {v w : Value} {off : Int} {tgt : Nat} (hd : decode I.2.1 pc = .ok (.if_acmp .ne off, 3)) (hv : am_cmpR B v w) (ht : (pc : Int) + off = (tgt : Int)) (h1 : ¬ v = w → am_P l B nm cl Ts NW D DA sa base I h0 d Q Z (tgt, ls, rest, h)) (h2 : ¬ ¬ v = w → am_P l B nm cl Ts NW D DA sa base I h0 d Q Z (pc + 3, ls, rest, h)) : am_P l B nm cl Ts NW D DA sa base I h0 d Q Z (pc, ls, w :: v :: rest, h) := by
  by_cases hc : v = w
  · refine am_gost (fun a => am_tl (am_tl a)) (fun p e R s m args below meth c Qm H locs lsm cells slots hC hst hR k => ?_) (h2 (fun q => q hc))
    obtain ⟨rv, rw_, e1, e2, e3⟩ := am_cvEq (sa := sa) (base := base) (fun j ty vs hj => (hC.2.2.2.2.2.1.2.2.2.1 j ty vs hj).1) hv
    show W p l e R s m args below meth c H locs cells slots Qm (F0 m pc lsm (am_cv sa base w :: am_cv sa base v :: rest.map (am_cv sa base)))
    rw [e1, e2]
    exact lv_acmp_ne hC.1 hC.2.1 hd ht (fun hn => absurd (e3.mp hc) hn) (fun _ => k)
  · refine am_gost (fun a => am_tl (am_tl a)) (fun p e R s m args below meth c Qm H locs lsm cells slots hC hst hR k => ?_) (h1 hc)
    obtain ⟨rv, rw_, e1, e2, e3⟩ := am_cvEq (sa := sa) (base := base) (fun j ty vs hj => (hC.2.2.2.2.2.1.2.2.2.1 j ty vs hj).1) hv
    show W p l e R s m args below meth c H locs cells slots Qm (F0 m pc lsm (am_cv sa base w :: am_cv sa base v :: rest.map (am_cv sa base)))
    rw [e1, e2]
    exact lv_acmp_ne hC.1 hC.2.1 hd ht (fun _ => k) (fun hn => absurd (e3.mpr hn) hc)
theorem am_i_tableswitch {dflt lo hi : Int} {offs : Array Int} {x : Int32} {tgt len : Nat} (hd : decode I.2.1 pc = .ok (.tableswitch dflt lo hi offs, len)) (ht : (x.toInt < lo ∨ hi < x.toInt) ∧ (pc : Int) + dflt = (tgt : Int) ∨ ¬ x.toInt < lo ∧ ¬ hi < x.toInt ∧ ∃ off, offs[(x.toInt - lo).toNat]? = some off ∧ (pc : Int) + off = (tgt : Int)) (hP : am_P l B nm cl Ts NW D DA sa base I h0 d Q Z (tgt, ls, rest, h)) : am_P l B nm cl Ts NW D DA sa base I h0 d Q Z (pc, ls, .int x :: rest, h) := by
  rcases ht with ⟨h1, h2⟩ | ⟨h1, h2, off, h3, h4⟩
  · exact am_gost am_tl (fun p e R s m args below meth c Qm H locs lsm cells slots hC hst hR k => lv_tableOut hC.1 hC.2.1 hd h1 h2 k) hP
  · exact am_gost am_tl (fun p e R s m args below meth c Qm H locs lsm cells slots hC hst hR k => lv_tableIn hC.1 hC.2.1 hd h1 h2 h3 h4 k) hP
theorem am_i_lookupswitch {dflt : Int} {ps : Array (Int × Int)} {x : Int32} {tgt len : Nat} (hd : decode I.2.1 pc = .ok (.lookupswitch dflt ps, len)) (hp : (ps.toList.zip (ps.toList.drop 1)).all (fun (a, next) => a.1 < next.1) = true) (ht : (pc : Int) + Op.lookupswitch.offset ps.toList dflt x.toInt = (tgt : Int)) (hP : am_P l B nm cl Ts NW D DA sa base I h0 d Q Z (tgt, ls, rest, h)) : am_P l B nm cl Ts NW D DA sa base I h0 d Q Z (pc, ls, .int x :: rest, h) :=
  am_gost am_tl (fun p e R s m args below meth c Qm H locs lsm cells slots hC hst hR k => lv_lookup hC.1 hC.2.1 hd hp rfl ht k) hP
end AMJ
end
section
/-! one instruction: fields, arrays, new cells -/
section AMK
variable {l : Launch} {B : am_B} {nm : Nat → String} {my : Nat → MethodName} {cl : List vw_C} {Ts NW : List Cond} {D : va_G} {DA : FieldType → ClassId} {sa : Nat → Nat} {base : Nat}
variable {I : am_I} {h0 : am_H} {d : Nat} {Q : Option Value → am_H → Prop} {Z : Option Value → am_H → State → Array Value → List Frame → State → Prop} {pc : Nat} {ls : List (Option Value)} {st rest : List Value} {h : am_H}
theorem am_get_some {c a k : Nat} {v : Value} (hg : am_get h c a k = some v) : ∃ fs, h[a]? = some (.inl (c, fs)) ∧ fs[k]? = some v := by
  unfold am_get at hg
  split at hg
  · next c' fs hh =>
    split at hg
    · next hc => subst hc; exact ⟨fs, hh, hg⟩
    · cases hg
  · cases hg
theorem am_getD_cv (fs : List Value) (k : Nat) : (fs.map (am_cv sa base)).getD k .null = am_cv sa base (fs.getD k .null) := by
  rw [List.getD_eq_getElem?_getD, List.getD_eq_getElem?_getD, List.getElem?_map]
  cases fs[k]? <;> rfl
theorem am_obj {H : Heap} {a c : Nat} {fs : List Value} (w : am_Wd D DA sa base cl h H) (ha : h[a]? = some (.inl (c, fs))) : va_P D cl [(base + a, .inr (c, fs.map (am_cv sa base)))] H := by
  intro k q hk
  have hz : k < 1 := (List.getElem?_eq_some_iff.mp hk).1
  have h0 : k = 0 := by omega
  subst h0
  cases hk
  obtain ⟨r, h1, h2, h3⟩ := w.2 a _ ha
  exact ⟨r, h1, h3.to (fun k _ => (am_getD_cv fs k).symm)⟩
theorem am_mem_h {a : Nat} {e : am_E} (h1 : am_v1 h) (ha : h[a]? = some e) : am_e1 e := h1 e (List.mem_of_getElem? ha)
theorem am_i_getfield {idx a t c k : Nat} {v : Value} (hT : am_Tab B nm my cl Ts NW) (hd : decode I.2.1 pc = .ok (.getfield idx, 3)) (hb : B.1 I.1 idx = (t, c, k)) (ht : t = 1 ∨ t = 2) (hg : am_get h c a k = some v) (hP : am_P l B nm cl Ts NW D DA sa base I h0 d Q Z (pc + 3, ls, v :: rest, h)) : am_P l B nm cl Ts NW D DA sa base I h0 d Q Z (pc, ls, .ref a :: rest, h) := by
  obtain ⟨fs, hh, hv⟩ := am_get_some hg
  refine am_go (F' := (pc + 3, ls, v :: rest, h)) (fun ⟨q1, q2, q3, q4⟩ => ⟨List.forall_mem_cons.mpr ⟨am_mem_h q3 hh v (List.mem_of_getElem? hv), am_tl q1⟩, q2, q3, q4⟩) (Nat.le_refl _) (Nat.le_refl _)
    (fun hF p e R s m args below meth cc Qm hC _ _ _ _ kk H locs lsm cells slots hR => ?_) hP
  obtain ⟨r, hr, hk, -, hl⟩ := hT.2.2.1 I.1 idx t c k hb ht
  have hP1 := am_obj hR.2.1 hh
  have hin := (hT.1 c r hr).2.1
  have hv' : (fs.map (am_cv sa base))[k]? = some (am_cv sa base v) := by rw [List.getElem?_map, hv]; rfl
  rcases hl with ⟨rfl, ref, h1, h2⟩ | ⟨rfl, host, h1⟩
  · refine va_get (cl := cl) (ci := c) (C := r.1) (T := r.2.1) (N := r.2.2) (ref := ref) hC.1 hC.2.1 hC.2.2.2.2.1 hin hC.2.2.2.1 hC.2.2.2.2.2.1.1 hP1 0 rfl hr k hk (hC.2.2.2.2.1 _ h1) (fun x hx => ?_) hv' hd (kk H locs lsm cells slots hR)
    rcases h2 with h2 | h2
    · rw [h2]; exact hx
    · exact u_same (hC.2.2.2.2.1 _ h2) x hx
  · exact va_getN (cl := cl) (ci := c) (C := r.1) (T := r.2.1) (N := r.2.2) (host := host) hC.1 hC.2.1 hC.2.2.2.2.1 hin hC.2.2.2.1 hC.2.2.2.2.2.1.1 hP1 0 rfl hr k hk (va_Nw.use rfl (hC.2.2.2.2.2.1.2.1 _ h1)) (fun x hx => hx) hv' hd (kk H locs lsm cells slots hR)
theorem am_fit_ok {ty : FieldType} {v : Value} (h : am_fit ty v = true) : narrow ty (am_cv sa base v) = am_cv sa base v ∧ fits ty (am_cv sa base v) = true ∧ v.category = 1 := by
  unfold am_fit at h
  split at h
  · exact ⟨rfl, rfl, rfl⟩
  · next x =>
    simp only [Bool.or_eq_true, beq_iff_eq] at h
    rcases h with rfl | rfl <;> exact ⟨rfl, rfl, rfl⟩
  all_goals first | exact ⟨rfl, rfl, rfl⟩ | cases h
theorem am_put_eq {a k c : Nat} {fs : List Value} {v : Value} (ha : h[a]? = some (.inl (c, fs))) : am_put h a k v = h.set a (.inl (c, fs.set k v)) := by
  unfold am_put
  rw [ha]
theorem am_i_putfield {idx a c k : Nat} {v w : Value} {ts : List (FieldType × Bool)} {ty : FieldType} {fin : Bool} (hT : am_Tab B nm my cl Ts NW) (hd : decode I.2.1 pc = .ok (.putfield idx, 3)) (hb : B.1 I.1 idx = (1, c, k)) (hg : am_get h c a k = some w) (hts : B.2.2.1 c = some ts) (hty : ts[k]? = some (ty, fin)) (hfit : am_fit ty v = true) (hfin : fin = true → I.2.2.2.2 = true ∧ c = I.1)
    (hP : am_P l B nm cl Ts NW D DA sa base I h0 d Q Z (pc + 3, ls, rest, am_put h a k v)) : am_P l B nm cl Ts NW D DA sa base I h0 d Q Z (pc, ls, v :: .ref a :: rest, h) := by
  obtain ⟨fs, hh, hv⟩ := am_get_some hg
  have hkl : k < fs.length := (List.getElem?_eq_some_iff.mp hv).1
  rw [am_put_eq hh] at hP
  obtain ⟨f1, f2, f3⟩ := am_fit_ok (sa := sa) (base := base) hfit
  refine am_go (F' := (pc + 3, ls, rest, h.set a (.inl (c, fs.set k v)))) (fun ⟨q1, q2, q3, q4⟩ => ⟨am_tl (am_tl q1), q2, am_v1_set q3 (fun x hx => ?_), q4⟩) (Nat.le_of_eq List.length_set.symm) (Nat.le_of_eq (am_sl_set h a _ _ hh (by simp [am_sz])).symm)
    (fun hF p e R s m args below meth cc Qm hC _ _ _ _ kk H locs lsm cells slots hR => ?_) hP
  · rcases List.mem_or_eq_of_mem_set hx with h2 | h2
    · exact am_mem_h q3 hh x h2
    · rw [h2]; exact f3
  · obtain ⟨r, hr, hk, hdec, hl⟩ := hT.2.2.1 I.1 idx 1 c k hb (Or.inl rfl)
    obtain ⟨hnm, hin, -, -, hnames, ty0, hty0, hB⟩ := hT.1 c r hr
    rw [hB] at hts
    cases hts
    rw [List.getElem?_map, List.getElem?_range hk] at hty
    cases hty
    obtain ⟨r', h1, hlen, cell, g1, g2, g3, g4⟩ := hR.2.1.2 a _ hh
    have hrr : r' = r := Option.some.inj (h1.symm.trans hr)
    subst hrr
    have hK := hC.2.2.2.2.2.1.1
    have hts' := hC.2.2.2.2.1
    have hap := va_apart (own := nm I.1) hts' hin ty0 hty0 hnames hK hr
    obtain ⟨hS, hfc, kC, hkC, hkind⟩ := hK.1 c _ hr
    obtain ⟨cf, kf, fi, f, hi, hsl⟩ := hS k hk
    have hst := (u_facts hfc hkC (u_lays hts' hin hk) hi).1
    have done : ∀ H' : Heap, H'[base + a]? = some (cell.setSlot f.slot (am_cv sa base v)) → H'.size = H.size → (∀ q, q ≠ base + a → H'[q]? = H[q]?) → am_Rel cl D DA sa base h0 (pc + 3, ls, rest, h.set a (.inl (c, fs.set k v))) s H' (locs ++ [⟨base + a, f.slot⟩]) lsm cells slots := by
      intro H' e1 z oq
      refine ⟨hR.1, hR.2.1.set z oq ⟨r', hr, by rw [List.length_set]; exact hlen, ?_⟩, hR.2.2.1.put z oq (show base ≤ base + a by omega), by simpa using hR.2.2.2.1, by show am_sl h0 + slots = am_sl (h.set a _); rw [am_sl_set h a _ _ hh (by simp [am_sz])]; exact hR.2.2.2.2⟩
      rw [hsl] at e1
      refine t_OB.to (V := updV (fun j => am_cv sa base (fs.getD j .null)) k (am_cv sa base v)) ⟨_, e1, g2, g3, t_set g4 hap hk _⟩ (fun j _ => ?_)
      by_cases hj : j = k
      · subst hj
        simp [updV, hkl]
      · simp [updV, hj, List.getElem?_set, Ne.symm hj]
    rcases hl with ⟨-, ref, q1, q2⟩ | ⟨q, -⟩
    · have hsame : s.fieldFound? ref (r'.2.1 k).2.1 (r'.2.1 k).2.2.1 = some (cf, kf, fi, f) := by
        rcases q2 with q2 | q2
        · rw [q2]; exact hi
        · exact u_same (hts' _ q2) _ hi
      have hlay := hts' _ (hin _ (u_in_lay hk))
      unfold u_lay at hlay
      by_cases hfn : (r'.2.1 k).2.2.2 = true
      · rw [if_pos hfn] at hlay
        obtain ⟨z1, z2⟩ := hfin hfn
        have hcf : m.cls = cf := by
          obtain ⟨_, _, c', _, _, _, -, -, hf', -, -, -, hown2, -⟩ := Cond.laysFinal_spec hlay
          have e1 : c' = cf := by have := hi.symm.trans hf'; simp at this; exact this.1.symm
          rw [hdec hfn, z2] at hown2
          rw [← e1]; exact Option.some.inj (hC.2.2.2.1.symm.trans hown2)
        have h6 := u_fits hfc hkC hkind (Or.inr hlay) hi (hty0 k hk) f1 f2
        exact W.putFinK hC.1 hC.2.1 hC.2.2.2.1 (hts' _ q1) hsame hst hcf (hC.2.2.2.2.2.2.2.2.1 z1) (by rw [g2]; exact h6) g1 g3 (by rw [hsl]; exact k2_hasslot (g4 k hk)) rfl rfl hd fun H' e1 z oq => kk H' _ lsm cells slots (done H' e1 z oq)
      · rw [if_neg hfn] at hlay
        have h6 := u_store hfc hkC hkind hlay hi (hty0 k hk) f1 f2
        exact W.putK hC.1 hC.2.1 (f := f) ⟨hC.2.2.2.1, hts' _ q1, ⟨_, _, _, hsame⟩, hst⟩ (by rw [g2]; exact h6) g1 g3 (by rw [hsl]; exact k2_hasslot (g4 k hk)) rfl rfl hd fun H' e1 z oq => kk H' _ lsm cells slots (done H' e1 z oq)
    · cases q
end AMK
end
section
/-! one instruction: arrays, new cells, constants -/
section AML
variable {l : Launch} {B : am_B} {nm : Nat → String} {my : Nat → MethodName} {cl : List vw_C} {Ts NW : List Cond} {D : va_G} {DA : FieldType → ClassId} {sa : Nat → Nat} {base : Nat}
variable {I : am_I} {h0 : am_H} {d : Nat} {Q : Option Value → am_H → Prop} {Z : Option Value → am_H → State → Array Value → List Frame → State → Prop} {pc : Nat} {ls : List (Option Value)} {st rest : List Value} {h : am_H}
/-- an array, read -/
theorem am_rd {s : State} {H : Heap} {locs : List Loc} {r : Value} {ty : FieldType} {vs : List Value} (hK : am_K B nm cl NW D DA sa base s) (w : am_Wd D DA sa base cl h H) (hS : va_S (am_A base) s.heap H locs) (hr : am_arr B h r = some (ty, vs)) (hty : am_tyk ty) :
    ∃ (a : Nat) (cell : Cell), am_cv sa base r = .ref a ∧ H[a]? = some cell ∧ s.isArrayOf cell ty ∧ cell.vm ≠ .unknown ∧ vs.length ≤ cell.slots.size ∧ cell.slots.size.toInt32 = Int32.ofNat vs.length ∧ ∀ j : Nat, j < vs.length → cell.slots[j]? = some (am_cv sa base (vs.getD j .null)) := by
  unfold am_arr at hr
  split at hr
  · next a =>
    split at hr
    · next x hx =>
      cases hr
      have hc := w.2 a _ hx
      refine ⟨base + a, _, rfl, hc, (hK.2.2.1 _ hty).1 _ _, (fun q => by cases q), ?_, ?_, fun j hj => ?_⟩
      · rw [arrV_size]; exact Nat.le_refl _
      · rw [arrV_size]
      · rw [arrV_read _ _ hj]
    · cases hr
  · next j =>
    obtain ⟨h1, cell, g1, g2, g3, g4, g5, g6, g7⟩ := hK.2.2.2.1 j ty vs hr
    exact ⟨sa j, cell, rfl, by rw [hS.2.1 _ (Array.getElem?_eq_some_iff.mp g1).1 g7]; exact g1, g2, g3, g4, g5, g6⟩
  · cases hr
theorem am_arr_e1 {r : Value} {ty : FieldType} {vs : List Value} {j : Nat} {v : Value} (hK : ∀ i ty vs, B.2.2.2 i = some (ty, vs) → ∀ v ∈ vs, v.category = 1) (h1 : am_v1 h) (hr : am_arr B h r = some (ty, vs)) (hv : vs[j]? = some v) : v.category = 1 := by
  unfold am_arr at hr
  split at hr
  · next a =>
    split at hr
    · next x hx =>
      cases hr
      exact am_mem_h h1 hx v (List.mem_of_getElem? hv)
    · cases hr
  · next i => exact hK i ty vs hr v (List.mem_of_getElem? hv)
  · cases hr
theorem am_i_len {r : Value} {ty : FieldType} {vs : List Value} (hd : decode I.2.1 pc = .ok (.arraylength, 1)) (hr : am_arr B h r = some (ty, vs)) (hty : am_tyk ty) (hP : am_P l B nm cl Ts NW D DA sa base I h0 d Q Z (pc + 1, ls, .int (Int32.ofNat vs.length) :: rest, h)) : am_P l B nm cl Ts NW D DA sa base I h0 d Q Z (pc, ls, r :: rest, h) := by
  refine am_gost (fun a => List.forall_mem_cons.mpr ⟨rfl, am_tl a⟩) (fun p e R s m args below meth c Qm H locs lsm cells slots hC hst hR k => ?_) hP
  obtain ⟨a, cell, e1, g1, g2, g3, g4, g5, g6⟩ := am_rd hC.2.2.2.2.2.1 hR.2.1 hR.2.2.1 hr hty
  show W p l e R s m args below meth c H locs cells slots Qm (F0 m pc lsm (am_cv sa base r :: rest.map (am_cv sa base)))
  rw [e1]
  exact W.alen hC.1 hC.2.1 g1 g2 g5 rfl rfl hd k
theorem am_inb {j : Int32} {n N : Nat} (h0 : ¬ j < 0) (hj : j.toNatClampNeg < n) (hN : n ≤ N) : ¬ (j < 0 ∨ N ≤ j.toNatClampNeg) := by
  rintro (q | q)
  · exact h0 q
  · omega
theorem am_getD {vs : List Value} {j : Nat} {v : Value} (hv : vs[j]? = some v) : vs.getD j .null = v := by
  rw [List.getD_eq_getElem?_getD, hv]; rfl
theorem am_i_ald {i : Instr} {j : Int32} {r v : Value} {ty : FieldType} {vs : List Value} (hB : ∀ i ty vs, B.2.2.2 i = some (ty, vs) → ∀ v ∈ vs, v.category = 1) (hd : decode I.2.1 pc = .ok (i, 1)) (hi : i = .iaload ∧ ty = .int ∨ i = .baload ∧ (ty = .byte ∨ ty = .boolean) ∨ i = .aaload ∧ ∃ C, C ∈ am_refs ∧ ty = .object C) (hr : am_arr B h r = some (ty, vs)) (h0j : ¬ j < 0) (hv : vs[j.toNatClampNeg]? = some v)
    (hP : am_P l B nm cl Ts NW D DA sa base I h0 d Q Z (pc + 1, ls, v :: rest, h)) : am_P l B nm cl Ts NW D DA sa base I h0 d Q Z (pc, ls, .int j :: r :: rest, h) := by
  have hty : am_tyk ty := by
    rcases hi with ⟨-, h⟩ | ⟨-, h | h⟩ | ⟨-, h⟩
    · exact Or.inl h
    · exact Or.inr (Or.inl h)
    · exact Or.inr (Or.inr (Or.inl h))
    · exact Or.inr (Or.inr (Or.inr h))
  have hj : j.toNatClampNeg < vs.length := (List.getElem?_eq_some_iff.mp hv).1
  refine am_go (F' := (pc + 1, ls, v :: rest, h)) (fun ⟨q1, q2, q3, q4⟩ => ⟨List.forall_mem_cons.mpr ⟨am_arr_e1 hB q3 hr hv, am_tl (am_tl q1)⟩, q2, q3, q4⟩) (Nat.le_refl _) (Nat.le_refl _)
    (fun hF p e R s m args below meth cc Qm hC _ _ _ _ kk H locs lsm cells slots hR => ?_) hP
  obtain ⟨a, cell, e1, g1, g2, g3, g4, g5, g6⟩ := am_rd hC.2.2.2.2.2.1 hR.2.1 hR.2.2.1 hr hty
  have g7 := g6 _ hj
  rw [am_getD hv] at g7
  show W p l e R s m args below meth cc H locs cells slots Qm (F0 m pc lsm (.int j :: am_cv sa base r :: rest.map (am_cv sa base)))
  rw [e1]
  rcases hi with ⟨rfl, rfl⟩ | ⟨rfl, rfl | rfl⟩ | ⟨rfl, C, -, rfl⟩
  · exact W.iald hC.1 hC.2.1 g1 g2 g3 (am_inb h0j hj g4) g7 rfl rfl hd (kk H locs lsm cells slots hR)
  · exact W.bald hC.1 hC.2.1 g1 g2 g3 (am_inb h0j hj g4) g7 rfl rfl hd (kk H locs lsm cells slots hR)
  · exact W.zald hC.1 hC.2.1 g1 g2 g3 (am_inb h0j hj g4) g7 rfl rfl hd (kk H locs lsm cells slots hR)
  · exact W.aald hC.1 hC.2.1 g1 g2 rfl g3 (am_inb h0j hj g4) g7 rfl rfl hd (kk H locs lsm cells slots hR)
/-- an array's cell behind a store -/
theorem am_arr_set {ty : FieldType} {vs : List Value} {j : Nat} {v : Value} (hj : j < vs.length) : (arrV (DA ty) vs.length (fun i => am_cv sa base (vs.getD i .null))).setSlot j (am_cv sa base v) = arrV (DA ty) (vs.set j v).length (fun i => am_cv sa base ((vs.set j v).getD i .null)) := by
  rw [arrV_store, List.length_set]
  congr 1
  funext q
  by_cases hq : q = j
  · subst hq
    simp [updV, hj]
  · simp [updV, hq, List.getElem?_set, Ne.symm hq]
theorem am_goast {pc' a j : Nat} {st' : List Value} {ty : FieldType} {vs : List Value} {v : Value} (hst : (∀ v ∈ st, v.category = 1) → (∀ v ∈ st', v.category = 1)) (hv : (∀ v ∈ st, v.category = 1) → v.category = 1) (ha : h[a]? = some (.inr (ty, vs))) (hj : j < vs.length)
    (hstep : ∀ (p : Program) (e : Env) (R : Room) (s : State) (m : MethodId) (args : Array Value) (below : List Frame) (meth : Method) (c : Code) (Qm : State → Prop) (H : Heap) (locs : List Loc) (lsm : Array Slot) (cells slots : Nat), am_Ctx B nm cl Ts NW D DA sa base I p s m args meth c → am_Wd D DA sa base cl h H →
      (∀ H' : Heap, H'[base + a]? = some ((arrV (DA ty) vs.length (fun i => am_cv sa base (vs.getD i .null))).setSlot j (am_cv sa base v)) → H'.size = H.size → (∀ q, q ≠ base + a → H'[q]? = H[q]?) → W p l e R s m args below meth c H' (locs ++ [⟨base + a, j⟩]) cells slots Qm (F0 m pc' lsm (st'.map (am_cv sa base)))) → W p l e R s m args below meth c H locs cells slots Qm (F0 m pc lsm (st.map (am_cv sa base))))
    (hP : am_P l B nm cl Ts NW D DA sa base I h0 d Q Z (pc', ls, st', h.set a (.inr (ty, vs.set j v)))) : am_P l B nm cl Ts NW D DA sa base I h0 d Q Z (pc, ls, st, h) := by
  have hsz : am_sl (h.set a (.inr (ty, vs.set j v))) = am_sl h := am_sl_set h a _ _ ha (by simp [am_sz])
  refine am_go (F' := (pc', ls, st', h.set a (.inr (ty, vs.set j v)))) (fun ⟨q1, q2, q3, q4⟩ => ⟨hst q1, q2, am_v1_set q3 (fun x hx => ?_), q4⟩) (Nat.le_of_eq List.length_set.symm) (Nat.le_of_eq hsz.symm)
    (fun hF p e R s m args below meth c Qm hC _ _ _ _ kk H locs lsm cells slots hR => hstep p e R s m args below meth c Qm H locs lsm cells slots hC hR.2.1 (fun H' e1 z oq => kk H' _ lsm cells slots ⟨hR.1, hR.2.1.set z oq ?_, hR.2.2.1.put z oq (show base ≤ base + a by omega), by simpa using hR.2.2.2.1, by show am_sl h0 + slots = am_sl (h.set a _); rw [hsz]; exact hR.2.2.2.2⟩)) hP
  · rcases List.mem_or_eq_of_mem_set hx with h2 | h2
    · exact am_mem_h q3 ha x h2
    · rw [h2]; exact hv q1
  · show H'[base + a]? = some (arrV _ _ _)
    rw [e1, am_arr_set hj]
theorem am_i_iast {j : Int32} {x : Int32} {a : Nat} {vs : List Value} (hd : decode I.2.1 pc = .ok (.iastore, 1)) (ha : h[a]? = some (.inr (.int, vs))) (h0j : ¬ j < 0) (hj : j.toNatClampNeg < vs.length)
    (hP : am_P l B nm cl Ts NW D DA sa base I h0 d Q Z (pc + 1, ls, rest, h.set a (.inr (.int, vs.set j.toNatClampNeg (.int x))))) : am_P l B nm cl Ts NW D DA sa base I h0 d Q Z (pc, ls, .int x :: .int j :: .ref a :: rest, h) :=
  am_goast (pc' := pc + 1) (st' := rest) (v := .int x) (fun q => am_tl (am_tl (am_tl q))) (fun _ => rfl) ha hj (fun p e R s m args below meth c Qm H locs lsm cells slots hC w k =>
    W.iast hC.1 hC.2.1 (w.2 a _ ha) ((hC.2.2.2.2.2.1.2.2.1 _ (Or.inl rfl)).1 _ _) (fun q => by cases q) (am_inb h0j hj (by rw [arrV_size]; exact Nat.le_refl _)) rfl rfl hd k) hP
theorem am_i_bast {j : Int32} {x : Int32} {a : Nat} {vs : List Value} (hd : decode I.2.1 pc = .ok (.bastore, 1)) (ha : h[a]? = some (.inr (.byte, vs))) (h0j : ¬ j < 0) (hj : j.toNatClampNeg < vs.length)
    (hP : am_P l B nm cl Ts NW D DA sa base I h0 d Q Z (pc + 1, ls, rest, h.set a (.inr (.byte, vs.set j.toNatClampNeg (.int x.toInt8.toInt32))))) : am_P l B nm cl Ts NW D DA sa base I h0 d Q Z (pc, ls, .int x :: .int j :: .ref a :: rest, h) :=
  am_goast (pc' := pc + 1) (st' := rest) (v := .int x.toInt8.toInt32) (fun q => am_tl (am_tl (am_tl q))) (fun _ => rfl) ha hj (fun p e R s m args below meth c Qm H locs lsm cells slots hC w k =>
    W.bast hC.1 hC.2.1 (w.2 a _ ha) ((hC.2.2.2.2.2.1.2.2.1 _ (Or.inr (Or.inl rfl))).1 _ _) (fun q => by cases q) (am_inb h0j hj (by rw [arrV_size]; exact Nat.le_refl _)) rfl rfl hd k) hP
theorem am_i_zast {j : Int32} {x : Int32} {a : Nat} {vs : List Value} (hd : decode I.2.1 pc = .ok (.bastore, 1)) (ha : h[a]? = some (.inr (.boolean, vs))) (h0j : ¬ j < 0) (hj : j.toNatClampNeg < vs.length)
    (hP : am_P l B nm cl Ts NW D DA sa base I h0 d Q Z (pc + 1, ls, rest, h.set a (.inr (.boolean, vs.set j.toNatClampNeg (.int (x &&& 1)))))) : am_P l B nm cl Ts NW D DA sa base I h0 d Q Z (pc, ls, .int x :: .int j :: .ref a :: rest, h) :=
  am_goast (pc' := pc + 1) (st' := rest) (v := .int (x &&& 1)) (fun q => am_tl (am_tl (am_tl q))) (fun _ => rfl) ha hj (fun p e R s m args below meth c Qm H locs lsm cells slots hC w k =>
    W.zast hC.1 hC.2.1 (w.2 a _ ha) ((hC.2.2.2.2.2.1.2.2.1 _ (Or.inr (Or.inr (Or.inl rfl)))).1 _ _) (fun q => by cases q) (am_inb h0j hj (by rw [arrV_size]; exact Nat.le_refl _)) rfl rfl hd k) hP
theorem am_cls {c : Nat} {r : vw_C} {s : State} (hK : va_K D cl [] s) (hr : cl[c]? = some r) : ClassAt s r.1 (D.1 c) := (hK.1 c r hr).2
theorem am_i_aastN {j : Int32} {a : Nat} {C : String} {vs : List Value} (hd : decode I.2.1 pc = .ok (.aastore, 1)) (hC0 : C ∈ am_refs) (ha : h[a]? = some (.inr (.object C, vs))) (h0j : ¬ j < 0) (hj : j.toNatClampNeg < vs.length)
    (hP : am_P l B nm cl Ts NW D DA sa base I h0 d Q Z (pc + 1, ls, rest, h.set a (.inr (.object C, vs.set j.toNatClampNeg .null)))) : am_P l B nm cl Ts NW D DA sa base I h0 d Q Z (pc, ls, .null :: .int j :: .ref a :: rest, h) :=
  am_goast (pc' := pc + 1) (st' := rest) (v := .null) (fun q => am_tl (am_tl (am_tl q))) (fun _ => rfl) ha hj (fun p e R s m args below meth c Qm H locs lsm cells slots hC w k =>
    va_WaastN hC.1 hC.2.1 (w.2 a _ ha) ((hC.2.2.2.2.2.1.2.2.1 _ (Or.inr (Or.inr (Or.inr ⟨C, hC0, rfl⟩)))).1 _ _) (fun q => by cases q) (am_inb h0j hj (by rw [arrV_size]; exact Nat.le_refl _)) rfl rfl hd k) hP
theorem am_i_aast {j : Int32} {a b c : Nat} {C : String} {vs fs : List Value} (hT : am_Tab B nm my cl Ts NW) (hd : decode I.2.1 pc = .ok (.aastore, 1)) (hC0 : C ∈ am_refs) (ha : h[a]? = some (.inr (.object C, vs))) (hbb : h[b]? = some (.inl (c, fs))) (hcn : nm c = C ∨ C = "java/lang/Object" ∧ c = 7) (h0j : ¬ j < 0) (hj : j.toNatClampNeg < vs.length)
    (hP : am_P l B nm cl Ts NW D DA sa base I h0 d Q Z (pc + 1, ls, rest, h.set a (.inr (.object C, vs.set j.toNatClampNeg (.ref b))))) : am_P l B nm cl Ts NW D DA sa base I h0 d Q Z (pc, ls, .ref b :: .int j :: .ref a :: rest, h) := by
  refine am_goast (pc' := pc + 1) (st' := rest) (v := .ref b) (fun q => am_tl (am_tl (am_tl q))) (fun _ => rfl) ha hj (fun p e R s m args below meth cc Qm H locs lsm cells slots hC w k => ?_) hP
  obtain ⟨r, hr, -, cell, g1, g2, g3, -⟩ := w.2 b _ hbb
  have hK := hC.2.2.2.2.2.1
  obtain ⟨hfc, kC, hkC, hkind⟩ := am_cls hK.1 hr
  obtain ⟨kA, comp, k1, k2, k3, -⟩ := (hK.2.2.1 _ (Or.inr (Or.inr (Or.inr ⟨C, hC0, rfl⟩)))).2
  obtain ⟨kE, hkE, -⟩ := Vm.findClass_spec k3
  have hasg : s.vm.assignable cell.cls comp = true := by
    rw [g2]
    rcases hcn with hcn | ⟨hcn, rfl⟩
    · have e1 : r.1 = C := (hT.1 c r hr).1.trans hcn
      rw [e1] at hfc
      cases k3.symm.trans hfc
      exact va_assign ⟨hfc, kC, hkC, hkind⟩
    · obtain ⟨c0, t0, f1, f2, f3⟩ := Cond.castable_spec (va_Nw.use (A := args) rfl (hK.2.1 _ hT.2.2.2.2.2.2.2.2.2.2.2.2.2.2.1))
      rw [← (hT.1 7 r hr).1] at f1
      cases hfc.symm.trans f1
      rw [hcn] at k3
      cases k3.symm.trans f2
      exact f3
  exact W.aast hC.1 hC.2.1 (w.2 a _ ha) (fun q h => by cases h) (fun h => by cases h) k1 k2 rfl hkE ⟨h0j, by rw [arrV_size]; exact hj⟩ g1 (fun q h => by rw [g3] at h; cases h) (by rw [g2]; exact hkC) hasg rfl rfl hd k
end AML
end
section
/-! one instruction: constants, new cells, casts -/
section AMN
variable {l : Launch} {B : am_B} {nm : Nat → String} {my : Nat → MethodName} {cl : List vw_C} {Ts NW : List Cond} {D : va_G} {DA : FieldType → ClassId} {sa : Nat → Nat} {base : Nat}
variable {I : am_I} {h0 : am_H} {d : Nat} {Q : Option Value → am_H → Prop} {Z : Option Value → am_H → State → Array Value → List Frame → State → Prop} {pc : Nat} {ls : List (Option Value)} {st rest : List Value} {h : am_H}
theorem am_i_ldc {idx x y : Nat} (hT : am_Tab B nm my cl Ts NW) (hd : decode I.2.1 pc = .ok (.ldc idx, 2)) (hb : B.1 I.1 idx = (12, x, y)) (hP : am_P l B nm cl Ts NW D DA sa base I h0 d Q Z (pc + 2, ls, .int (Int32.ofNat x) :: st, h)) : am_P l B nm cl Ts NW D DA sa base I h0 d Q Z (pc, ls, st, h) :=
  am_gost (fun a => List.forall_mem_cons.mpr ⟨rfl, a⟩) (fun p e R s m args below meth c Qm H locs lsm cells slots hC _ hR k => lv_ldc hC.1 hC.2.1 hC.2.2.2.1 (hC.2.2.2.2.1 _ (hT.2.2.2.2.2.2.2.2.2.2.2.1 _ _ _ _ hb)) hd k) hP
theorem am_i_getstatic {idx j y : Nat} (hd : decode I.2.1 pc = .ok (.getstatic idx, 3)) (hb : B.1 I.1 idx = (3, j, y)) (hP : am_P l B nm cl Ts NW D DA sa base I h0 d Q Z (pc + 3, ls, .retAddr j :: st, h)) : am_P l B nm cl Ts NW D DA sa base I h0 d Q Z (pc, ls, st, h) := by
  refine am_gost (fun a => List.forall_mem_cons.mpr ⟨rfl, a⟩) (fun p e R s m args below meth c Qm H locs lsm cells slots hC _ hR k => ?_) hP
  obtain ⟨C, n, dd, ref, hZ, hrf, hlk⟩ := hC.2.2.2.2.2.1.2.2.2.2.1 _ _ _ _ hb
  subst hrf
  rcases hlk with hlk | ⟨host, hlk⟩
  · exact va_gets hC.1 hC.2.1 hZ hR.2.2.1 hC.2.2.2.1 (va_Nw.use rfl hlk) (fun x hx => hx) hd k
  · exact va_getsN hC.1 hC.2.1 hZ hR.2.2.1 hC.2.2.2.1 (va_Nw.use rfl (hC.2.2.2.2.2.1.2.1 _ hlk)) (fun x hx => hx) hd k
theorem am_sum1 (st : List Value) (h : ∀ v ∈ st, v.category = 1) : ((st.map (am_cv sa base)).map fun v => v.category).sum = st.length := by
  induction st with
  | nil => rfl
  | cons v st ih =>
    simp only [List.map_cons, List.sum_cons, List.length_cons, am_cv_cat]
    rw [ih (am_tl h), am_hd h]
    omega
theorem am_arrV_ext {cA : ClassId} {n : Nat} {f g : Nat → Value} (h : ∀ j, j < n → f j = g j) : arrV cA n f = arrV cA n g := by
  unfold arrV
  congr 1
  apply congrArg
  funext j
  exact h j.val j.isLt
theorem am_i_objInit {idx a x y : Nat} (hT : am_Tab B nm my cl Ts NW) (hd1 : 1 ≤ d) (hd : decode I.2.1 pc = .ok (.invokespecial idx, 3)) (hb : B.1 I.1 idx = (8, x, y)) (hrl : rest.length ≤ 8) (hP : am_P l B nm cl Ts NW D DA sa base I h0 d Q Z (pc + 3, ls, rest, h)) : am_P l B nm cl Ts NW D DA sa base I h0 d Q Z (pc, ls, .ref a :: rest, h) := by
  refine am_go (F' := (pc + 3, ls, rest, h)) (fun ⟨q1, q2, q3, q4⟩ => ⟨am_tl q1, q2, q3, q4⟩) (Nat.le_refl _) (Nat.le_refl _)
    (fun hF p e R s m args below meth cc Qm hC hfr hlo _ _ kk H locs lsm cells slots hR => ?_) hP
  obtain ⟨w1, w2, w3⟩ := hT.2.2.2.2.2.2.2.1 _ _ _ _ hb
  have hsum : ((rest.map (am_cv sa base)).map fun v => v.category).sum ≤ 8 := by
    rw [am_sum1 rest (am_tl hF.1)]
    exact hrl
  refine W.objInit hC.1 hC.2.1 hC.2.2.2.1 (hC.2.2.2.2.1 _ w1) (hC.2.2.2.2.1 _ w2) (hC.2.2.2.2.1 _ w3) rfl (by rw [hC.2.2.1]; exact hR.1.1.trans hF.2.2.2) rfl hd (by omega) ?_ (kk H locs lsm cells slots hR)
  show 2 * 0 + _ + 12 ≤ _
  omega
theorem am_i_cast {idx c y : Nat} {v : Value} (hT : am_Tab B nm my cl Ts NW) (hd : decode I.2.1 pc = .ok (.checkcast idx, 3)) (hb : B.1 I.1 idx = (11, c, y)) (hv : v = .null ∨ ∃ a fs, v = .ref a ∧ h[a]? = some (.inl (c, fs))) (hP : am_P l B nm cl Ts NW D DA sa base I h0 d Q Z (pc + 3, ls, v :: rest, h)) : am_P l B nm cl Ts NW D DA sa base I h0 d Q Z (pc, ls, v :: rest, h) := by
  refine am_gost id (fun p e R s m args below meth cc Qm H locs lsm cells slots hC _ hR k => ?_) hP
  rcases hv with rfl | ⟨a, fs, rfl, ha⟩
  · exact lv_castN hC.1 hC.2.1 hd k
  · obtain ⟨w1, r, hr⟩ := hT.2.2.2.2.2.2.2.2.2.2.1 _ _ _ _ hb
    have hcl := am_cls hC.2.2.2.2.2.1.1 hr
    rw [(hT.1 c r hr).1] at hcl
    obtain ⟨r', hr', -, cell, g1, g2, g3, -⟩ := hR.2.1.2 a _ ha
    exact va_castS hC.1 hC.2.1 hC.2.2.2.1 (hC.2.2.2.2.1 _ w1) hcl ⟨cell, g1, by rw [g3]; rfl, by rw [g2]; exact hcl.1⟩ hd k
theorem am_i_new {idx c y : Nat} {ts : List (FieldType × Bool)} (hT : am_Tab B nm my cl Ts NW) (hd : decode I.2.1 pc = .ok (.new idx, 3)) (hb : B.1 I.1 idx = (9, c, y)) (hts : B.2.2.1 c = some ts) (hP : am_P l B nm cl Ts NW D DA sa base I h0 d Q Z (pc + 3, ls, .ref h.length :: st, h ++ [.inl (c, ts.map (fun q => defaultValue q.1))])) (h1 : ∀ q ∈ ts, (defaultValue q.1).category = 1) : am_P l B nm cl Ts NW D DA sa base I h0 d Q Z (pc, ls, st, h) := by
  obtain ⟨w1, r, hr⟩ := hT.2.2.2.2.2.2.2.2.1 _ _ _ _ hb
  obtain ⟨hnm, hin, hins, hini, hnames, ty0, hty0, hB⟩ := hT.1 c r hr
  rw [hB] at hts
  cases hts
  refine am_go (F' := (pc + 3, ls, .ref h.length :: st, h ++ [.inl (c, ((List.range r.2.2).map (fun k => (ty0 k, (r.2.1 k).2.2.2))).map (fun q => defaultValue q.1))])) (fun ⟨q1, q2, q3, q4⟩ => ⟨List.forall_mem_cons.mpr ⟨rfl, q1⟩, q2, am_v1_push q3 (show am_e1 (.inl (_, _)) from fun x hx => ?_), q4⟩) (by simp) (by rw [am_sl_push]; exact Nat.le_add_right _ _)
    (fun hF p e R s m args below meth cc Qm hC _ _ hc1 hc2 kk H locs lsm cells slots hR => ?_) hP
  · obtain ⟨q, hq, rfl⟩ := List.mem_map.mp hx
    exact h1 q hq
  · have hK := hC.2.2.2.2.2.1.1
    have hKn := hK.1 c r hr
    have hlen : h0.length + cells = h.length := hR.2.2.2.1
    have hsl : am_sl h0 + slots = am_sl h := hR.2.2.2.2
    rw [am_sl_push] at hc2
    simp only [List.length_append, List.length_cons, List.length_nil] at hc1
    have hsz : am_sz (.inl (c, ((List.range r.2.2).map (fun k => (ty0 k, (r.2.1 k).2.2.2))).map (fun q => defaultValue q.1))) = r.2.2 := by simp [am_sz]
    rw [hsz] at hc2
    refine W.newcK hC.1 hC.2.1 hC.2.2.2.1 (by rw [hnm]; exact hC.2.2.2.2.1 _ w1) (hC.2.2.2.2.1 _ hins) (hC.2.2.2.2.1 _ hini) rfl hd (by omega) (by omega) hKn.2.1 rfl fun H1 kC hkC e1 z1 o1 => ?_
    have hz : H.size = base + h.length := hR.2.1.1
    rw [show Value.ref H.size = am_cv sa base (.ref h.length) by rw [hz]; rfl]
    refine kk H1 locs lsm (cells + 1) (slots + r.2.2) ⟨hR.1, hR.2.1.push z1 o1 ⟨r, hr, by simp, ?_⟩, ⟨Nat.le_trans hR.2.2.1.1 (by omega), fun x h1 h2 => (o1 x (Nat.lt_of_lt_of_le h1 hR.2.2.1.1)).trans (hR.2.2.1.2.1 x h1 h2), hR.2.2.1.2.2⟩, by simp; omega, by rw [am_sl_push, hsz]; omega⟩
    rw [← hz]
    refine (u_born ty0 hC.2.2.2.2.1 hin hKn hkC e1 hty0).to (fun k hk => ?_)
    have : (((List.range r.2.2).map (fun k => (ty0 k, (r.2.1 k).2.2.2))).map (fun q => defaultValue q.1)).getD k .null = defaultValue (ty0 k) := by
      rw [List.getD_eq_getElem?_getD, List.getElem?_map, List.getElem?_map, List.getElem?_range hk]
      rfl
    rw [this]
    cases ty0 k <;> rfl
/-- a new array -/
theorem am_gonew {pc' n : Nat} {st' : List Value} {ty : FieldType} {x : Value} (hst : (∀ v ∈ st, v.category = 1) → (∀ v ∈ st', v.category = 1)) (hx : x = .null ∨ x = .int 0)
    (hstep : ∀ (p : Program) (e : Env) (R : Room) (s : State) (m : MethodId) (args : Array Value) (below : List Frame) (meth : Method) (c : Code) (Qm : State → Prop) (H : Heap) (locs : List Loc) (lsm : Array Slot) (cells slots : Nat), am_Ctx B nm cl Ts NW D DA sa base I p s m args meth c → cells + 1 ≤ R.cells → slots + n ≤ R.slots →
      (∀ H' : Heap, H'[H.size]? = some (arrV (DA ty) n (fun _ => x)) → H'.size = H.size + 1 → (∀ q, q < H.size → H'[q]? = H[q]?) → W p l e R s m args below meth c H' locs (cells + 1) (slots + n) Qm (F0 m pc' lsm (.ref H.size :: st'.map (am_cv sa base)))) → W p l e R s m args below meth c H locs cells slots Qm (F0 m pc lsm (st.map (am_cv sa base))))
    (hP : am_P l B nm cl Ts NW D DA sa base I h0 d Q Z (pc', ls, .ref h.length :: st', h ++ [.inr (ty, List.replicate n x)])) : am_P l B nm cl Ts NW D DA sa base I h0 d Q Z (pc, ls, st, h) := by
  have hsz : am_sz (.inr (ty, List.replicate n x)) = n := by simp [am_sz]
  refine am_go (F' := (pc', ls, .ref h.length :: st', h ++ [.inr (ty, List.replicate n x)])) (fun ⟨q1, q2, q3, q4⟩ => ⟨List.forall_mem_cons.mpr ⟨rfl, hst q1⟩, q2, am_v1_push q3 (show am_e1 (.inr (_, _)) from fun y hy => ?_), q4⟩) (by simp) (by rw [am_sl_push]; exact Nat.le_add_right _ _)
    (fun hF p e R s m args below meth cc Qm hC _ _ hc1 hc2 kk H locs lsm cells slots hR => ?_) hP
  · have := List.eq_of_mem_replicate hy
    rw [this]
    rcases hx with rfl | rfl <;> rfl
  · have hlen : h0.length + cells = h.length := hR.2.2.2.1
    have hsl : am_sl h0 + slots = am_sl h := hR.2.2.2.2
    rw [am_sl_push, hsz] at hc2
    simp only [List.length_append, List.length_cons, List.length_nil] at hc1
    have hz : H.size = base + h.length := hR.2.1.1
    refine hstep p e R s m args below meth cc Qm H locs lsm cells slots hC (by omega) (by omega) (fun H1 e1 z1 o1 => ?_)
    rw [show Value.ref H.size = am_cv sa base (.ref h.length) by rw [hz]; rfl]
    refine kk H1 locs lsm (cells + 1) (slots + n) ⟨hR.1, hR.2.1.push z1 o1 ?_, ⟨Nat.le_trans hR.2.2.1.1 (by omega), fun x h1 h2 => (o1 x (Nat.lt_of_lt_of_le h1 hR.2.2.1.1)).trans (hR.2.2.1.2.1 x h1 h2), hR.2.2.1.2.2⟩, by simp; omega, by rw [am_sl_push, hsz]; omega⟩
    show H1[base + h.length]? = some (arrV (DA ty) (List.replicate n x).length _)
    rw [← hz, e1, List.length_replicate]
    congr 1
    refine am_arrV_ext (fun j hj => ?_)
    rw [List.getD_eq_getElem?_getD, List.getElem?_replicate, if_pos hj]
    rcases hx with rfl | rfl <;> rfl
theorem am_i_newarray {at_ : ArrayType} {n : Int32} {ty : FieldType} (hT : am_Tab B nm my cl Ts NW) (hd : decode I.2.1 pc = .ok (.newarray at_, 2)) (hat : newarray.typeOf at_ = ty) (hty : ty = .int ∨ ty = .byte ∨ ty = .boolean) (hn : ¬ n < 0) (hn2 : n.toNatClampNeg ≤ 100000) (hP : am_P l B nm cl Ts NW D DA sa base I h0 d Q Z (pc + 2, ls, .ref h.length :: rest, h ++ [.inr (ty, List.replicate n.toNatClampNeg (.int 0))])) : am_P l B nm cl Ts NW D DA sa base I h0 d Q Z (pc, ls, .int n :: rest, h) := by
  subst hat
  have hac : Cond.arrayClass (newarray.typeOf at_) ∈ Ts := by
    obtain ⟨w1, w2, w3⟩ := hT.2.2.2.2.2.2.2.2.2.2.2.2.2.1
    rcases hty with h | h | h <;> rw [h] <;> assumption
  have hk : am_tyk (newarray.typeOf at_) := by
    rcases hty with h | h | h
    · exact Or.inl h
    · exact Or.inr (Or.inl h)
    · exact Or.inr (Or.inr (Or.inl h))
  refine am_gonew (pc' := pc + 2) (st' := rest) (n := n.toNatClampNeg) (ty := newarray.typeOf at_) (x := .int 0) am_tl (Or.inr rfl) (fun p e R s m args below meth cc Qm H locs lsm cells slots hC hc1 hc2 k => ?_) hP
  refine va_newaK hC.1 hC.2.1 (hC.2.2.2.2.1 _ hac) rfl hd rfl hn rfl ?_ hc1 hc2 rfl fun H1 cA e1 z1 o1 hAr hNm => ?_
  · have : componentBytes (newarray.typeOf at_) ≤ 8 := by
      rcases hty with h | h | h <;> rw [h] <;> decide
    calc n.toNatClampNeg * componentBytes (newarray.typeOf at_) ≤ 100000 * 8 := Nat.mul_le_mul hn2 this
      _ ≤ 536870912 := by decide
  · have hcA : cA = DA (newarray.typeOf at_) := by
      have h2 := (hC.2.2.2.2.2.1.2.2.1 _ hk).2
      have h3 : s.vm.findClass ("[" ++ (newarray.typeOf at_).toString) = some (DA (newarray.typeOf at_)) := by
        rcases hty with h | h | h <;> rw [h] at h2 ⊢ <;> exact h2
      exact Option.some.inj (hNm.symm.trans h3)
    subst hcA
    refine k H1 ?_ z1 o1
    rw [e1]
    congr 1
    refine am_arrV_ext (fun j _ => ?_)
    rcases hty with h | h | h <;> rw [h] <;> rfl
theorem am_i_anewarray {idx c y : Nat} {n : Int32} (hT : am_Tab B nm my cl Ts NW) (hd : decode I.2.1 pc = .ok (.anewarray idx, 3)) (hb : B.1 I.1 idx = (10, c, y)) (hcr : nm c ∈ am_refs) (hn : ¬ n < 0) (hn2 : n.toNatClampNeg ≤ 100000) (hP : am_P l B nm cl Ts NW D DA sa base I h0 d Q Z (pc + 3, ls, .ref h.length :: rest, h ++ [.inr (.object (nm c), List.replicate n.toNatClampNeg .null)])) : am_P l B nm cl Ts NW D DA sa base I h0 d Q Z (pc, ls, .int n :: rest, h) := by
  have hk : am_tyk (.object (nm c)) := Or.inr (Or.inr (Or.inr ⟨_, hcr, rfl⟩))
  refine am_gonew (pc' := pc + 3) (st' := rest) (n := n.toNatClampNeg) (ty := .object (nm c)) (x := .null) am_tl (Or.inl rfl) (fun p e R s m args below meth cc Qm H locs lsm cells slots hC hc1 hc2 k => ?_) hP
  have hw := hT.2.2.2.2.2.2.2.2.2.1 _ _ _ _ hb
  refine W.anew hC.1 hC.2.1 hC.2.2.2.1 (hC.2.2.2.2.1 _ hw) (va_AO.use (hC.2.2.2.2.2.1.2.1 _ (hT.2.2.2.2.2.2.2.2.2.2.2.2.2.2.2.1 _ hcr))) rfl hd rfl hn (by omega) hc1 hc2 fun cA kA comp f1 f2 f3 f4 => ?_
  have hcA : cA = DA (.object (nm c)) := by
    obtain ⟨_, _, -, -, -, h4⟩ := (hC.2.2.2.2.2.1.2.2.1 _ hk).2
    exact Option.some.inj (f1.symm.trans h4)
  subst hcA
  refine k _ ?_ (by rw [Array.size_push]) (fun q hq => by rw [Array.getElem?_push, if_neg (Nat.ne_of_lt hq)])
  rw [Array.getElem?_push_size, ← arrV_new]
theorem am_i_ldcM {idx x y : Nat} (hT : am_Tab B nm my cl Ts NW) (hd : decode I.2.1 pc = .ok (.ldc idx, 2)) (hb : B.1 I.1 idx = (15, x, y)) (hP : am_P l B nm cl Ts NW D DA sa base I h0 d Q Z (pc + 2, ls, .retAddr 3 :: st, h)) : am_P l B nm cl Ts NW D DA sa base I h0 d Q Z (pc, ls, st, h) :=
  am_gost (fun a => List.forall_mem_cons.mpr ⟨rfl, a⟩) (fun p e R s m args below meth c Qm H locs lsm cells slots hC _ hR k => va_ldcM hC.1 hC.2.1 hC.2.2.2.1 (hC.2.2.2.2.1 _ (hT.2.2.2.2.2.2.2.2.2.2.2.2.2.2.2.2.2.2.2 _ _ _ _ hb)) hC.2.2.2.2.2.1.2.2.2.2.2 hd k) hP
theorem am_i_getClass {idx a x y : Nat} {vs : List Value} (hT : am_Tab B nm my cl Ts NW) (hd1 : 1 ≤ d) (hd : decode I.2.1 pc = .ok (.invokevirtual idx, 3)) (hb : B.1 I.1 idx = (14, x, y)) (hrl : rest.length ≤ 8) (ha : h[a]? = some (.inr (.object "java/lang/Object", vs))) (hP : am_P l B nm cl Ts NW D DA sa base I h0 d Q Z (pc + 3, ls, .retAddr 3 :: rest, h)) : am_P l B nm cl Ts NW D DA sa base I h0 d Q Z (pc, ls, .ref a :: rest, h) := by
  refine am_go (F' := (pc + 3, ls, .retAddr 3 :: rest, h)) (fun ⟨q1, q2, q3, q4⟩ => ⟨List.forall_mem_cons.mpr ⟨rfl, am_tl q1⟩, q2, q3, q4⟩) (Nat.le_refl _) (Nat.le_refl _)
    (fun hF p e R s m args below meth cc Qm hC hfr hlo _ _ kk H locs lsm cells slots hR => ?_) hP
  obtain ⟨w1, w2, w3, w4, w5⟩ := hT.2.2.2.2.2.2.2.2.2.2.2.2.2.2.2.2.2.2.1 _ _ _ _ hb
  obtain ⟨_, _, -, -, -, k4⟩ := (hC.2.2.2.2.2.1.2.2.1 (.object "java/lang/Object") (Or.inr (Or.inr (Or.inr ⟨_, by decide, rfl⟩)))).2
  refine va_getC hC.1 hC.2.1 (by rw [hC.2.2.1]; exact (hR.1.1.trans hF.2.2.2).symm) hC.2.2.2.1 (hC.2.2.2.2.1 _ w1) (va_Nw.use rfl (hC.2.2.2.2.2.1.2.1 _ w2)) (hC.2.2.2.2.1 _ w3) (hC.2.2.2.2.1 _ w4) (hC.2.2.2.2.1 _ w5) hC.2.2.2.2.2.1.2.2.2.2.2 ⟨_, hR.2.1.2 a _ ha, rfl, k4⟩ (by omega) ?_ hd (kk H locs lsm cells slots hR)
  have := am_sum1 (sa := sa) (base := base) rest (am_tl hF.1)
  omega
theorem am_cpy_len {vs ws : List Value} {sp dp n : Nat} : (am_cpy vs ws sp dp n).length = ws.length := by simp [am_cpy]
theorem am_cpy_mem {vs ws : List Value} {sp dp n : Nat} (h1 : ∀ v ∈ vs, v.category = 1) (h2 : ∀ v ∈ ws, v.category = 1) : ∀ v ∈ am_cpy vs ws sp dp n, v.category = 1 := by
  intro v hv
  obtain ⟨j, hj, rfl⟩ := List.mem_map.mp hv
  have key : ∀ (l : List Value) (i : Nat), (∀ v ∈ l, v.category = 1) → (l.getD i .null).category = 1 := by
    intro l i hl
    rw [List.getD_eq_getElem?_getD]
    cases hi : l[i]? with
    | none => rfl
    | some w => exact hl w (List.mem_of_getElem? hi)
  show (if _ then _ else _ : Value).category = 1
  split
  · exact key vs _ h1
  · exact key ws _ h2
theorem am_i_copy {idx a b x y : Nat} {n dp sp : Int32} {ty : FieldType} {vs ws : List Value} (hT : am_Tab B nm my cl Ts NW) (hd1 : 1 ≤ d) (hd : decode I.2.1 pc = .ok (.invokestatic idx, 3)) (hb : B.1 I.1 idx = (13, x, y)) (hrl : rest.length ≤ 8) (hbb : h[b]? = some (.inr (ty, vs))) (ha : h[a]? = some (.inr (ty, ws))) (hty : ty = .byte ∧ (∀ v ∈ vs, fits .byte v = true) ∨ ty = .object "java/lang/Object" ∧ ∀ v ∈ vs, v = .null ∨ ∃ q fs, v = .ref q ∧ h[q]? = some (.inl (7, fs)))
    (h1 : ¬ sp < 0) (h2 : ¬ dp < 0) (h3 : ¬ n < 0) (h4 : sp.toNatClampNeg + n.toNatClampNeg ≤ vs.length) (h5 : dp.toNatClampNeg + n.toNatClampNeg ≤ ws.length)
    (hP : am_P l B nm cl Ts NW D DA sa base I h0 d Q Z (pc + 3, ls, rest, h.set a (.inr (ty, am_cpy vs ws sp.toNatClampNeg dp.toNatClampNeg n.toNatClampNeg)))) : am_P l B nm cl Ts NW D DA sa base I h0 d Q Z (pc, ls, .int n :: .int dp :: .ref a :: .int sp :: .ref b :: rest, h) := by
  have hsz : am_sl (h.set a (.inr (ty, am_cpy vs ws sp.toNatClampNeg dp.toNatClampNeg n.toNatClampNeg))) = am_sl h := am_sl_set h a _ _ ha (am_cpy_len)
  have htk : am_tyk ty := by
    rcases hty with ⟨rfl, -⟩ | ⟨rfl, -⟩
    · exact Or.inr (Or.inl rfl)
    · exact Or.inr (Or.inr (Or.inr ⟨_, by decide, rfl⟩))
  refine am_go (F' := (pc + 3, ls, rest, h.set a (.inr (ty, am_cpy vs ws sp.toNatClampNeg dp.toNatClampNeg n.toNatClampNeg)))) (fun ⟨q1, q2, q3, q4⟩ => ⟨am_tl (am_tl (am_tl (am_tl (am_tl q1)))), q2, am_v1_set q3 (am_cpy_mem (am_mem_h q3 hbb) (am_mem_h q3 ha)), q4⟩) (Nat.le_of_eq List.length_set.symm) (Nat.le_of_eq hsz.symm)
    (fun hF p e R s m args below meth cc Qm hC hfr hlo _ _ kk H locs lsm cells slots hR => ?_) hP
  have nn : ∀ z : Int32, ¬ z < 0 → z.toInt = (z.toNatClampNeg : Int) := by
    intro z hz
    have hz0 : (0 : Int) ≤ z.toInt := by
      have := Int32.not_lt.mp hz
      simpa using Int32.le_iff_toInt_le.mp this
    show z.toInt = ((z.toInt.toNat : Nat) : Int)
    omega
  obtain ⟨w1, w2, w3, w4⟩ := hT.2.2.2.2.2.2.2.2.2.2.2.2.2.2.2.2.2.1 _ _ _ _ hb
  have hK := hC.2.2.2.2.2.1
  intro T hTT X
  have hc0 := hR.2.1.2 b _ hbb
  have hc1 := hR.2.1.2 a _ ha
  obtain ⟨-, k0, hk0, cm0, hkk0⟩ := (hK.2.2.1 _ htk).1 vs.length (fun j => am_cv sa base (vs.getD j .null))
  obtain ⟨-, k1, hk1, cm1, hkk1⟩ := (hK.2.2.1 _ htk).1 ws.length (fun j => am_cv sa base (ws.getD j .null))
  have hsum := am_sum1 (sa := sa) (base := base) rest (am_tl (am_tl (am_tl (am_tl (am_tl hF.1)))))
  have hnw : nativeFrameWords "java/lang/System" "arraycopy" 5 = 7 := by decide
  obtain ⟨vm', X', step⟩ := X.arraycopy hC.1 hC.2.2.2.1 (hC.2.2.2.2.1 _ w1) (hC.2.2.2.2.1 _ w2) (hC.2.2.2.2.1 _ w3) (hC.2.2.2.2.1 _ w4) (src := base + b) (dst := base + a) (cs := arrV (DA ty) vs.length (fun j => am_cv sa base (vs.getD j .null))) (cd := arrV (DA ty) ws.length (fun j => am_cv sa base (ws.getD j .null))) (srcPos := sp) (destPos := dp) (n := n) (by rw [hTT]; exact hc0) (by rw [hTT]; exact hc1)
    (fun _ h => by cases h) (fun _ h => by cases h) (fun h => by cases h) (fun h => by cases h) hk0 hk1 hkk0 hkk1 (by rcases hty with ⟨rfl, -⟩ | ⟨rfl, -⟩ <;> rfl) h1 h2 h3
    (by rw [nn sp h1, nn n h3, arrV_size]; omega)
    (by rw [nn dp h2, nn n h3, arrV_size]; omega)
    (fun vm₁ hal i hi => by
      have e : (arrV (DA ty) vs.length (fun j => am_cv sa base (vs.getD j .null))).slots.getD (sp.toNatClampNeg + i) .null = am_cv sa base (vs.getD (sp.toNatClampNeg + i) .null) := by
        rw [Array.getD_eq_getD_getElem?, arrV_read _ _ (by omega)]
        rfl
      rw [e]
      have hlt : sp.toNatClampNeg + i < vs.length := by omega
      obtain ⟨v, hv⟩ : ∃ v, vs[sp.toNatClampNeg + i]? = some v := ⟨_, List.getElem?_eq_getElem hlt⟩
      rw [am_getD hv]
      have hm := List.mem_of_getElem? hv
      rcases hty with ⟨rfl, hq⟩ | ⟨rfl, hq⟩
      · have hf := hq v hm
        cases v with
        | int x => exact ⟨hf, trivial⟩
        | _ => cases hf
      · rcases hq v hm with rfl | ⟨q, fs, rfl, hh⟩
        · exact ⟨rfl, trivial⟩
        · obtain ⟨r, hr, -, cell, g1, g2, g3, -⟩ := hR.2.1.2 q _ hh
          obtain ⟨hfc, kC, hkC, hkind⟩ := am_cls hK.1 hr
          obtain ⟨kA, comp, r1, r2, r3, -⟩ := (hK.2.2.1 _ htk).2
          cases hk1.symm.trans r1
          cases hkk1.symm.trans r2
          obtain ⟨kE, hkE, -⟩ := Vm.findClass_spec r3
          obtain ⟨kC', hkC', -⟩ := hal.2.2 _ _ hkC
          obtain ⟨kE', hkE', -⟩ := hal.2.2 _ _ hkE
          refine ⟨rfl, cell, (show T.heap[base + q]? = some cell by rw [hTT]; exact g1), (fun q h => by rw [g3] at h; cases h), ⟨kC', by rw [g2]; exact hkC'⟩, ?_, ?_⟩
          · exact ⟨kE', hkE'⟩
          · show vm₁.assignable _ _ = true
            rw [hal.assignable, g2]
            obtain ⟨c0, t0, f1, f2, f3⟩ := Cond.castable_spec (va_Nw.use (A := args) rfl (hK.2.1 _ hT.2.2.2.2.2.2.2.2.2.2.2.2.2.2.1))
            rw [← (hT.1 7 r hr).1] at f1
            cases hfc.symm.trans f1
            cases r3.symm.trans f2
            exact f3)
    (g := F0 m pc lsm (.int n :: .int dp :: .ref (base + a) :: .int sp :: .ref (base + b) :: rest.map (am_cv sa base))) rfl (by rw [hC.2.2.1]; exact hR.1.1.trans hF.2.2.2) (rest := rest.map (am_cv sa base)) rfl (by rw [hC.2.1]; exact hd) (by omega) (by show 2 * 0 + _ + _ ≤ _; omega)
  have e1 : copied (arrV (DA ty) vs.length (fun j => am_cv sa base (vs.getD j .null))) (arrV (DA ty) ws.length (fun j => am_cv sa base (ws.getD j .null))) sp dp n = arrV (DA ty) (am_cpy vs ws sp.toNatClampNeg dp.toNatClampNeg n.toNatClampNeg).length (fun j => am_cv sa base ((am_cpy vs ws sp.toNatClampNeg dp.toNatClampNeg n.toNatClampNeg).getD j .null)) := by
    rw [am_cpy_len]
    refine (va_copied id (DA ty) (DA ty) (fun j => am_cv sa base (vs.getD j .null)) (fun j => am_cv sa base (ws.getD j .null)) h4).trans (am_arrV_ext (fun j hj => ?_))
    have e2 : (am_cpy vs ws sp.toNatClampNeg dp.toNatClampNeg n.toNatClampNeg).getD j .null = va_cpy (fun j => vs.getD j .null) (fun j => ws.getD j .null) sp.toNatClampNeg dp.toNatClampNeg n.toNatClampNeg j := by
      rw [List.getD_eq_getElem?_getD, am_cpy, List.getElem?_map, List.getElem?_range hj]
      rfl
    rw [e2]
    show (if _ then _ else _) = am_cv sa base (if _ then _ else _)
    split <;> rfl
  rw [e1] at X' step
  have hl : base + a < H.size := (Array.getElem?_eq_some_iff.mp hc1).1
  have oq : ∀ (x : Cell) (q : Nat), q ≠ base + a → (H.setIfInBounds (base + a) x)[q]? = H[q]? := fun x q hq => by simp [Array.getElem?_setIfInBounds, Ne.symm hq]
  have hheap : ∀ x : Cell, ((T.setVm vm').setCell (base + a) x).heap = H.setIfInBounds (base + a) x := fun x => by rw [← hTT]; rfl
  obtain ⟨t, a1, b1⟩ := kk _ _ lsm cells slots ⟨hR.1, hR.2.1.set (H1 := H.setIfInBounds (base + a) _) (by simp) (oq _) (show (H.setIfInBounds (base + a) _)[base + a]? = some _ by simp [Array.getElem?_setIfInBounds, hl]), ⟨by simp; exact hR.2.2.1.1, fun q g1 g2 => by
      rw [oq _ q (fun e => g2 (by rw [e]; exact Nat.le_add_right _ _))]
      exact hR.2.2.1.2.1 q g1 g2, fun q hq => by
      rcases List.mem_append.mp hq with h | h
      · exact hR.2.2.1.2.2 q h
      · obtain ⟨z, -, hz⟩ := List.mem_map.mp h
        rw [← hz]
        exact Nat.le_add_right _ _⟩, by simpa using hR.2.2.2.1, by show am_sl h0 + slots = am_sl (h.set a _); rw [hsz]; exact hR.2.2.2.2⟩ _ (hheap _) X'
  exact ⟨t, step t a1, b1⟩
end AMN
end
section
/-! calls -/
section AMC
variable {l : Launch} {B : am_B} {nm : Nat → String} {my : Nat → MethodName} {cl : List vw_C} {Ts NW : List Cond} {D : va_G} {DA : FieldType → ClassId} {sa : Nat → Nat} {base : Nat}
theorem am_K.to {s U : State} (hK : am_K B nm cl NW D DA sa base s) (hvm : s.vm.Alike U.vm) (hnw : ∀ w ∈ NW, va_Nw w s → va_Nw w U) (hfl : ∀ o i r n d, va_Nw (.fieldLink o i r n d) s → va_Nw (.fieldLink o i r n d) U) (hh : ∀ a : Nat, a < s.heap.size → ¬ am_A base a → U.heap[a]? = s.heap[a]?) : am_K B nm cl NW D DA sa base U := by
  obtain ⟨h1, h2, h3, h4, h5, h6⟩ := hK
  refine ⟨h1.moved hvm, fun w hw => hnw w hw (h2 w hw), fun ty ht => ⟨arrOfT_moved hvm (h3 ty ht).1, (h3 ty ht).2.moved hvm⟩, fun j ty vs hj => ⟨(h4 j ty vs hj).1, va_T.moved hvm ((h4 j ty vs hj).2.kept hh)⟩, fun o idx j y hb => ?_, h6.moved hvm⟩
  obtain ⟨C, n, d, ref, g1, g2, g3⟩ := h5 o idx j y hb
  exact ⟨C, n, d, ref, va_Z.moved hvm (g1.kept hh), g2, g3.imp (hfl _ _ _ _ _) id⟩
theorem am_nw_warm {w : Cond} {s U : State} (hk : am_nwk w) (hW : s.WarmedH U.vm) (h : va_Nw w s) : va_Nw w U := by
  rcases hk with ⟨a, i, b, n, d, hh, rfl⟩ | ⟨a, i, x, hh, rfl⟩ | ⟨C, T, rfl⟩ | ⟨C, rfl⟩ | ⟨x, rfl⟩
  · exact va_Nw.warmF hW h
  · exact va_Nw.warmM hW h
  · exact va_Nw.warmC hW h
  · exact va_AO.moved hW.alike h
  · exact va_Nw.warmD hW h
theorem am_nw_same {w : Cond} {s U : State} (hk : am_nwk w) (hv : s.vm = U.vm) (h : va_Nw w s) : va_Nw w U := by
  rcases hk with ⟨a, i, b, n, d, hh, rfl⟩ | ⟨a, i, x, hh, rfl⟩ | ⟨C, T, rfl⟩ | ⟨C, rfl⟩ | ⟨x, rfl⟩
  · exact va_Nw.same rfl hv h
  · exact va_Nw.same rfl hv h
  · exact va_Nw.same rfl hv h
  · exact va_AO.moved (by rw [hv]; exact Vm.Alike.refl _) h
  · exact va_Nw.same rfl hv h
/-- a method's start -/
def am_Pc (B : am_B) (nm : Nat → String) (cl : List vw_C) (NW : List Cond) (D : va_G) (DA : FieldType → ClassId) (sa : Nat → Nat) (base : Nat) (as : List Value) (h : am_H) : Array Value → State → Prop := va_Pc (as.map (am_cv sa base)) (fun U => am_Wd D DA sa base cl h U.heap ∧ am_K B nm cl NW D DA sa base U)
def am_Qc (cl : List vw_C) (D : va_G) (DA : FieldType → ClassId) (sa : Nat → Nat) (base : Nat) (v : Option Value) (h' : am_H) : Array Value → State → Outcome → State → Prop := fun _ st o t => o = .returned (v.map (am_cv sa base)) ∧ am_Wd D DA sa base cl h' t.heap ∧ va_F (am_A base) st t
theorem am_Pc_blind {as : List Value} {h : am_H} (hT : am_Tab B nm my cl Ts NW) : FrameBlind (am_Pc B nm cl NW D DA sa base as h) := by
  intro a U g mk hp
  obtain ⟨h1, h2, h3⟩ := hp
  exact ⟨h1, h2, h3.to (Vm.Alike.refl U.vm) (fun w hw h => am_nw_same (s := U) (U := U.calling g mk a) (hT.2.2.2.2.2.2.2.2.2.2.2.2.2.2.2.2.1 w hw) rfl h) (fun o i r n d h => va_Nw.same (u := U) (U := U.calling g mk a) rfl rfl h) (fun a _ _ => rfl)⟩
theorem am_K_warm {s U : State} {H : Heap} {locs : List Loc} (hT : am_Tab B nm my cl Ts NW) (hK : am_K B nm cl NW D DA sa base s) (hS : va_S (am_A base) s.heap H locs) (hU : U.heap = H) (hW : s.WarmedH U.vm) : am_K B nm cl NW D DA sa base U :=
  hK.to hW.alike (fun w hw h => am_nw_warm (hT.2.2.2.2.2.2.2.2.2.2.2.2.2.2.2.2.1 w hw) hW h) (fun o i r n d h => word_at (args := #[]) hW (Or.inl rfl) h) (fun a h1 h2 => by rw [hU]; exact hS.2.1 a h1 h2)
/-- the contract that a call of the small machine has -/
def am_Met (l : Launch) (B : am_B) (nm : Nat → String) (my : Nat → MethodName) (cl : List vw_C) (Ts NW : List Cond) (D : va_G) (DA : FieldType → ClassId) (sa : Nat → Nat) (base d mi : Nat) (I : am_I) (as : List Value) (h : am_H) (v : Option Value) (h' : am_H) : Prop :=
  Met l (my mi) (Cond.code (my mi) I.2.1 I.2.2.1 I.2.2.2.1 :: Ts) { frames := d, cells := h'.length - h.length, slots := am_sl h' - am_sl h, locals := 64 * d } (am_Pc B nm cl NW D DA sa base as h) (am_Qc cl D DA sa base v h') (h'.length - h.length) (am_sl h' - am_sl h) (am_A base)
def am_Sim (l : Launch) (B : am_B) (nm : Nat → String) (my : Nat → MethodName) (cl : List vw_C) (Ts NW : List Cond) (D : va_G) (DA : FieldType → ClassId) (sa : Nat → Nat) (base d : Nat) : Prop :=
  ∀ (mi : Nat) (as : List Value) (h : am_H) (Q : Option Value → am_H → Prop), am_T B nm d mi as h Q → am_v1 h → (∀ v ∈ as, v.category = 1) → ∃ (v : Option Value) (h' : am_H) (I : am_I), Q v h' ∧ h.length ≤ h'.length ∧ am_sl h ≤ am_sl h' ∧ am_v1 h' ∧ (∀ w, v = some w → w.category = 1) ∧ B.2.1 mi = some I ∧ am_Met l B nm my cl Ts NW D DA sa base d mi I as h v h'
variable {p : Program} {e : Env} {R : Room} {s : State} {m : MethodId} {args : Array Value} {below : List Frame} {meth : Method} {c : Code} {H : Heap} {locs : List Loc} {cells slots mc ms : Nat} {Qm : State → Prop}
theorem am_callW {pc : Nat} {lsm : Array Slot} {st0 rest : List Value} {v : Option Value} {h' : am_H} {a : Array Value} (hr : va_Run p l e R s m args below meth c H locs cells slots mc ms (F0 m pc lsm st0) rest (am_Qc cl D DA sa base v h' a) (am_A base)) (hS : va_S (am_A base) s.heap H locs)
    (kk : ∀ (H1 : Heap) (locs1 : List Loc), am_Wd D DA sa base cl h' H1 → va_S (am_A base) s.heap H1 locs1 → W p l e R s m args below meth c H1 locs1 (cells + mc) (slots + ms) Qm (F0 m (pc + 3) lsm ((v.map (am_cv sa base)).toList ++ rest))) : W p l e R s m args below meth c H locs cells slots Qm (F0 m pc lsm st0) := by
  intro T hT X
  obtain ⟨v', st₀, t, T', L, h0, X', hL, e1, e2, ⟨hv, hw, hz, hk⟩, st⟩ := hr T hT X
  cases hv
  rw [h0] at hz hk
  obtain ⟨t2, a1, b1⟩ := kk T'.heap (locs ++ L) (by rw [e1]; exact hw)
    ⟨Nat.le_trans hS.1 (by rw [e1]; exact hz), fun q h1 h2 => by rw [e1, hk q (Nat.lt_of_lt_of_le h1 hS.1) h2]; exact hS.2.1 q h1 h2, fun q hq => by
      rcases List.mem_append.mp hq with h | h
      · exact hS.2.2 q h
      · exact hL q h⟩ T' rfl X'
  exact ⟨t2, st t2 a1, b1⟩
variable {I : am_I} {h0 : am_H} {d : Nat} {Q : Option Value → am_H → Prop} {Z : Option Value → am_H → State → Array Value → List Frame → State → Prop} {pc : Nat} {ls : List (Option Value)} {rest : List Value} {h : am_H}
/-- the words of a callee are among the caller's -/
theorem am_good {w0 : Cond} (hT : am_Tab B nm my cl Ts NW) (h0 : w0 ∈ Ts) : GoodIn Ts (w0 :: Ts) := by
  intro w hw
  rcases List.mem_cons.mp hw with rfl | hw
  · exact ⟨h0, hT.2.2.2.2.2.2.2.2.2.2.2.2.1 _ h0⟩
  · exact ⟨hw, hT.2.2.2.2.2.2.2.2.2.2.2.2.1 _ hw⟩
theorem am_cats {st : List Value} {v : Option Value} (h1 : ∀ w, v = some w → w.category = 1) (h2 : ∀ w ∈ st, w.category = 1) : ∀ w ∈ v.toList ++ st, w.category = 1 := by
  intro w hw
  rcases List.mem_append.mp hw with h | h
  · exact h1 w (Option.mem_toList.mp h)
  · exact h2 w h
/-- a call, out of the callee's contract and the way the instruction finds it -/
theorem am_gocall {mi : Nat} {as st : List Value} (hS : am_Sim l B nm my cl Ts NW D DA sa base d) (hst : (∀ v ∈ st, v.category = 1) → (∀ v ∈ as, v.category = 1) ∧ ∀ v ∈ rest, v.category = 1) (ht : am_T B nm d mi as h (fun v h' => am_P l B nm cl Ts NW D DA sa base I h0 (d + 1) Q Z (pc + 3, ls, v.toList ++ rest, h')))
    (hrun : ∀ (v : Option Value) (h' : am_H) (J : am_I), h.length ≤ h'.length → am_sl h ≤ am_sl h' → B.2.1 mi = some J → am_Met l B nm my cl Ts NW D DA sa base d mi J as h v h' → ∀ (p : Program) (e : Env) (R : Room) (s : State) (m : MethodId) (args : Array Value) (below : List Frame) (meth : Method) (c : Code) (H : Heap) (locs : List Loc) (lsm : Array Slot) (cells slots : Nat), (∀ v ∈ st, v.category = 1) → ls.length = I.2.2.1 → am_Ctx B nm cl Ts NW D DA sa base I p s m args meth c → d + 1 ≤ R.frames → 64 * (d + 1) ≤ R.locals → cells + (h'.length - h.length) ≤ R.cells → slots + (am_sl h' - am_sl h) ≤ R.slots → am_Rel cl D DA sa base h0 (pc, ls, st, h) s H locs lsm cells slots →
      ∃ a : Array Value, va_Run p l e R s m args below meth c H locs cells slots (h'.length - h.length) (am_sl h' - am_sl h) (F0 m pc lsm (st.map (am_cv sa base))) (rest.map (am_cv sa base)) (am_Qc cl D DA sa base v h' a) (am_A base)) :
    am_P l B nm cl Ts NW D DA sa base I h0 (d + 1) Q Z (pc, ls, st, h) := by
  intro hF
  obtain ⟨q1, q2⟩ := hst hF.1
  obtain ⟨v, h1, J, hP, g1, g2, g3, g4, g5, g6⟩ := hS mi as h _ ht hF.2.2.1 q1
  obtain ⟨v', h', hQ, k1, k2, k3, k4, k5⟩ := hP ⟨am_cats g4 q2, hF.2.1, g3, hF.2.2.2⟩
  refine ⟨v', h', hQ, Nat.le_trans g1 k1, Nat.le_trans g2 k2, k3, k4, ?_⟩
  intro p e R s m args below meth c hC hf hlo hc hsl H locs lsm cells slots hR
  have e1 : h0.length + cells = h.length := hR.2.2.2.1
  have e2 : am_sl h0 + slots = am_sl h := hR.2.2.2.2
  have k1' : h1.length ≤ h'.length := k1
  have k2' : am_sl h1 ≤ am_sl h' := k2
  obtain ⟨a, hr⟩ := hrun v h1 J g1 g2 g5 g6 p e R s m args below meth c H locs lsm cells slots hF.1 hF.2.2.2 hC hf hlo (by omega) (by omega) hR
  refine am_callW hr hR.2.2.1 (fun H1 locs1 w1 s1 => ?_)
  have := k5 p e R s m args below meth c hC hf hlo hc hsl H1 locs1 lsm (cells + (h1.length - h.length)) (slots + (am_sl h1 - am_sl h)) ⟨hR.1, w1, s1, by show _ = h1.length; omega, by show _ = am_sl h1; omega⟩
  refine W.eq ?_ this
  show F0 m (pc + 3) lsm _ = F0 m (pc + 3) lsm ((v.toList ++ rest).map (am_cv sa base))
  rw [List.map_append]
  congr 2
  cases v <;> rfl
end AMC
end
section
/-! the instructions that call -/
section AMV
variable {l : Launch} {B : am_B} {nm : Nat → String} {my : Nat → MethodName} {cl : List vw_C} {Ts NW : List Cond} {D : va_G} {DA : FieldType → ClassId} {sa : Nat → Nat} {base : Nat}
variable {I : am_I} {h0 : am_H} {d : Nat} {Q : Option Value → am_H → Prop} {Z : Option Value → am_H → State → Array Value → List Frame → State → Prop} {pc : Nat} {ls : List (Option Value)} {rest : List Value} {h : am_H}
theorem am_rev {as rest : List Value} (h : ∀ v ∈ as.reverse ++ rest, v.category = 1) : (∀ v ∈ as, v.category = 1) ∧ ∀ v ∈ rest, v.category = 1 :=
  ⟨fun v hv => h v (List.mem_append_left _ (List.mem_reverse.mpr hv)), fun v hv => h v (List.mem_append_right _ hv)⟩
theorem am_roomW {m : MethodId} {lsm : Array Slot} {st : List Value} (h : ∀ v ∈ rest, v.category = 1) (hr : rest.length ≤ 8) : 2 * (F0 m pc lsm st).monitorRoom + ((rest.map (am_cv sa base)).map fun v => v.category).sum ≤ 8 := by
  show 2 * 0 + _ ≤ 8
  rw [am_sum1 rest h]
  omega
theorem am_i_virtual {idx mi n b : Nat} {as : List Value} {J : am_I} {fs : List Value} (hT : am_Tab B nm my cl Ts NW) (hS : am_Sim l B nm my cl Ts NW D DA sa base d) (hd : decode I.2.1 pc = .ok (.invokevirtual idx, 3)) (hb : B.1 I.1 idx = (4, mi, n)) (hn : as.length = n) (hrl : rest.length ≤ 8) (hJ : B.2.1 mi = some J) (hbb : h[b]? = some (.inl (J.1, fs)))
    (ht : am_T B nm d mi (.ref b :: as) h (fun v h' => am_P l B nm cl Ts NW D DA sa base I h0 (d + 1) Q Z (pc + 3, ls, v.toList ++ rest, h'))) : am_P l B nm cl Ts NW D DA sa base I h0 (d + 1) Q Z (pc, ls, as.reverse ++ .ref b :: rest, h) := by
  refine am_gocall hS (fun q => ⟨List.forall_mem_cons.mpr ⟨rfl, (am_rev q).1⟩, am_tl (am_rev q).2⟩) ht (fun v h' J' g1 g2 hJ' hM p e R s m args below meth c H locs lsm cells slots hst hll hC hf hlo hc1 hc2 hR => ?_)
  cases hJ.symm.trans hJ'
  obtain ⟨w1, w2, w3, w4⟩ := hT.2.2.2.1 _ _ _ _ hb
  obtain ⟨m1, m2, m3, m4, m5, m6, m7⟩ := hT.2.1 mi J hJ
  have hG : GoodIn Ts (wsV (nm I.1) idx (my mi).cls (my mi) (Cond.code (my mi) J.2.1 J.2.2.1 J.2.2.2.1 :: Ts)) := by
    intro w hw
    rcases List.mem_append.mp hw with hw | hw
    · have hin : w ∈ Ts := by
        simp only [List.mem_cons, List.not_mem_nil, or_false] at hw
        rcases hw with rfl | rfl | rfl | rfl
        · exact w1
        · exact w2
        · exact w3
        · exact m7
      exact ⟨hin, hT.2.2.2.2.2.2.2.2.2.2.2.2.1 _ hin⟩
    · exact am_good hT m1 w hw
  obtain ⟨r, hr, -, cell, c1, c2, c3, -⟩ := hR.2.1.2 b _ hbb
  have hfc := (hC.2.2.2.2.2.1.1.1 _ r hr).2.1
  rw [(hT.1 _ r hr).1, ← m2] at hfc
  refine ⟨_, va_runV (As := as.map (am_cv sa base)) (b := base + b) (nL := I.2.2.1) ⟨hC.1, hC.2.1, hC.2.2.1, hC.2.2.2.1, hC.2.2.2.2.1⟩ hM (cwV n hC.2.2.2.2.1 hG rfl rfl rfl ⟨rfl, m4.1, m4.2, w4⟩ ⟨hf, ?_⟩) ⟨am_Pc_blind hT, ⟨cell, c1, by rw [c3]; rfl, by rw [c2]; exact hfc⟩, fun U hU hW => ⟨rfl, by rw [hU]; exact hR.2.1, am_K_warm hT hC.2.2.2.2.2.1 hR.2.2.1 hU hW⟩⟩ rfl (by rw [List.length_map]; exact hn) (hR.1.1.trans hll) ?_ (am_roomW (am_tl (am_rev hst).2) hrl) hd ⟨hc1, hc2⟩⟩
  · show 8 + (J.2.2.1 + 11) + 64 * d ≤ _
    omega
  · show (as.reverse ++ .ref b :: rest).map (am_cv sa base) = _
    rw [List.map_append, List.map_reverse]
    rfl
theorem am_i_static {idx mi n : Nat} {as : List Value} (hT : am_Tab B nm my cl Ts NW) (hS : am_Sim l B nm my cl Ts NW D DA sa base d) (hd : decode I.2.1 pc = .ok (.invokestatic idx, 3)) (hb : B.1 I.1 idx = (5, mi, n)) (hn : as.length = n) (hrl : rest.length ≤ 8)
    (ht : am_T B nm d mi as h (fun v h' => am_P l B nm cl Ts NW D DA sa base I h0 (d + 1) Q Z (pc + 3, ls, v.toList ++ rest, h'))) : am_P l B nm cl Ts NW D DA sa base I h0 (d + 1) Q Z (pc, ls, as.reverse ++ rest, h) := by
  refine am_gocall hS (fun q => am_rev q) ht (fun v h' J g1 g2 hJ hM p e R s m args below meth c H locs lsm cells slots hst hll hC hf hlo hc1 hc2 hR => ?_)
  obtain ⟨w1, w2, w4⟩ := hT.2.2.2.2.1 _ _ _ _ hb
  obtain ⟨m1, m2, m3, m4, m5, m6, m7⟩ := hT.2.1 mi J hJ
  have hG : GoodIn Ts (va_wsS (nm I.1) idx (my mi) (Cond.code (my mi) J.2.1 J.2.2.1 J.2.2.2.1 :: Ts)) := by
    intro w hw
    rcases List.mem_append.mp hw with hw | hw
    · have hin : w ∈ Ts := by
        simp only [List.mem_cons, List.not_mem_nil, or_false] at hw
        rcases hw with rfl | rfl | rfl
        · exact w1
        · exact w2
        · exact m7
      exact ⟨hin, hT.2.2.2.2.2.2.2.2.2.2.2.2.1 _ hin⟩
    · exact am_good hT m1 w hw
  refine ⟨_, va_runS (As := as.map (am_cv sa base)) (nL := I.2.2.1) ⟨hC.1, hC.2.1, hC.2.2.1, hC.2.2.2.1, hC.2.2.2.2.1⟩ hM (va_cwS n hC.2.2.2.2.1 hG rfl rfl rfl ⟨m4.1, m4.2, w4⟩ ⟨hf, ?_⟩) ⟨am_Pc_blind hT, fun U hU hW => ⟨rfl, by rw [hU]; exact hR.2.1, am_K_warm hT hC.2.2.2.2.2.1 hR.2.2.1 hU hW⟩⟩ rfl (by rw [List.length_map]; exact hn) (hR.1.1.trans hll) ?_ (am_roomW (am_rev hst).2 hrl) hd ⟨hc1, hc2⟩⟩
  · show 8 + (J.2.2.1 + 11) + 64 * d ≤ _
    omega
  · show (as.reverse ++ rest).map (am_cv sa base) = _
    rw [List.map_append, List.map_reverse]
theorem am_i_special {idx t mi n b : Nat} {as : List Value} (hT : am_Tab B nm my cl Ts NW) (hS : am_Sim l B nm my cl Ts NW D DA sa base d) (hd : decode I.2.1 pc = .ok (.invokespecial idx, 3)) (hb : B.1 I.1 idx = (t, mi, n)) (htt : t = 6 ∨ t = 7) (hn : as.length = n) (hrl : rest.length ≤ 8)
    (ht : am_T B nm d mi (.ref b :: as) h (fun v h' => v = none ∧ am_P l B nm cl Ts NW D DA sa base I h0 (d + 1) Q Z (pc + 3, ls, rest, h'))) : am_P l B nm cl Ts NW D DA sa base I h0 (d + 1) Q Z (pc, ls, as.reverse ++ .ref b :: rest, h) := by
  refine am_gocall hS (fun q => ⟨List.forall_mem_cons.mpr ⟨rfl, (am_rev q).1⟩, am_tl (am_rev q).2⟩) (am_T_mono (fun v h' q => by obtain ⟨rfl, q⟩ := q; exact q) ht) (fun v h' J g1 g2 hJ hM p e R s m args below meth c H locs lsm cells slots hst hll hC hf hlo hc1 hc2 hR => ?_)
  obtain ⟨m1, m2, m3, m4, m5, m6, m7⟩ := hT.2.1 mi J hJ
  have hst' : (as.reverse ++ .ref b :: rest).map (am_cv sa base) = (as.map (am_cv sa base)).reverse ++ .ref (base + b) :: rest.map (am_cv sa base) := by
    rw [List.map_append, List.map_reverse]
    rfl
  have hPS : PreS s H (am_Pc B nm cl NW D DA sa base (.ref b :: as) h) (.ref (base + b) :: as.map (am_cv sa base)) := ⟨am_Pc_blind hT, fun U hU hW => ⟨rfl, by rw [hU]; exact hR.2.1, am_K_warm hT hC.2.2.2.2.2.1 hR.2.2.1 hU hW⟩⟩
  rcases htt with rfl | rfl
  · obtain ⟨w1, w2, w3, w4, w5⟩ := hT.2.2.2.2.2.1 _ _ _ _ hb
    unfold am_Met at hM
    rw [w5 J hJ] at hM m1
    refine ⟨_, va_runI (As := as.map (am_cv sa base)) (b := base + b) (nL := I.2.2.1) ⟨hC.1, hC.2.1, hC.2.2.1, hC.2.2.2.1, hC.2.2.2.2.1⟩ hM (cwI n hC.2.2.2.2.1 (am_good hT m1) rfl rfl rfl (hC.2.2.2.2.1 _ m7) (hC.2.2.2.2.1 _ w1) (hC.2.2.2.2.1 _ w2) w3 ⟨m4.1, m4.2, w4⟩ ⟨hf, ?_⟩) hPS rfl (by rw [List.length_map]; exact hn) (hR.1.1.trans hll) hst' (am_roomW (am_tl (am_rev hst).2) hrl) hd ⟨hc1, hc2⟩⟩
    show 8 + (J.2.2.1 + 11) + 64 * d ≤ _
    omega
  · obtain ⟨⟨host, w1⟩, w2, w3, w4, w5⟩ := hT.2.2.2.2.2.2.1 _ _ _ _ hb
    unfold am_Met at hM
    rw [w5 J hJ] at hM m1
    refine ⟨_, va_runIN (As := as.map (am_cv sa base)) (b := base + b) (nL := I.2.2.1) (host := host) ⟨hC.1, hC.2.1, hC.2.2.1, hC.2.2.2.1, hC.2.2.2.2.1⟩ hM ⟨va_cnB n hC.2.2.2.2.1 (am_good hT m1) rfl rfl rfl (hC.2.2.2.2.2.1.2.1 _ w1) (hC.2.2.2.2.1 _ m7) ⟨m4.1, m4.2, w4⟩ ⟨hf, ?_⟩, w3, hC.2.2.2.2.1 _ w2⟩ hPS rfl (by rw [List.length_map]; exact hn) (hR.1.1.trans hll) hst' (am_roomW (am_tl (am_rev hst).2) hrl) hd ⟨hc1, hc2⟩⟩
    show 8 + (J.2.2.1 + 11) + 64 * d ≤ _
    omega
end AMV
end
section
/-! the small machine's runs are runs of the JVM -/
section AMZ
variable {l : Launch} {B : am_B} {nm : Nat → String} {my : Nat → MethodName} {cl : List vw_C} {Ts NW : List Cond} {D : va_G} {DA : FieldType → ClassId} {sa : Nat → Nat} {base : Nat}
variable {I : am_I} {h0 : am_H} {d : Nat} {Q : Option Value → am_H → Prop} {Z : Option Value → am_H → State → Array Value → List Frame → State → Prop}
set_option maxHeartbeats 4000000 in
theorem am_nx_sim {pc len : Nat} {ls : List (Option Value)} {st : List Value} {h : am_H} {i : Instr} (hT : am_Tab B nm my cl Ts NW) (hB : ∀ i ty vs, B.2.2.2 i = some (ty, vs) → ∀ v ∈ vs, v.category = 1) (hS : am_Sim l B nm my cl Ts NW D DA sa base d) (hd : decode I.2.1 pc = .ok (i, len)) (hl : am_len i len = true)
    (hx : am_nx B nm (am_T B nm d) I (am_P l B nm cl Ts NW D DA sa base I h0 (d + 1) Q Z) pc ls st h i) : am_P l B nm cl Ts NW D DA sa base I h0 (d + 1) Q Z (pc, ls, st, h) := by
  cases i
  case iconst n =>
    obtain rfl : len = 1 := by simpa [am_len] using hl
    exact am_i_iconst hd hx
  case bipush n =>
    obtain rfl : len = 2 := by simpa [am_len] using hl
    exact am_i_bipush hd hx
  case sipush n =>
    obtain rfl : len = 3 := by simpa [am_len] using hl
    exact am_i_sipush hd hx
  case ldc idx =>
    obtain rfl : len = 2 := by simpa [am_len] using hl
    rcases hx with ⟨x, y, h1, h2⟩ | ⟨x, y, h1, h2⟩
    · exact am_i_ldc hT hd h1 h2
    · exact am_i_ldcM hT hd h1 h2
  case aconst_null =>
    obtain rfl : len = 1 := by simpa [am_len] using hl
    exact am_i_null hd hx
  case iload k =>
    obtain rfl : len = 2 := by simpa [am_len] using hl
    obtain ⟨x, h1, h2⟩ := hx
    exact am_i_iload hd h1 h2
  case iload_n k =>
    obtain rfl : len = 1 := by simpa [am_len] using hl
    obtain ⟨x, h1, h2⟩ := hx
    exact am_i_iload_n hd h1 h2
  case aload k =>
    obtain rfl : len = 2 := by simpa [am_len] using hl
    obtain ⟨x, h1, h2, h3⟩ := hx
    exact am_i_aload hd h1 h2 h3
  case aload_n k =>
    obtain rfl : len = 1 := by simpa [am_len] using hl
    obtain ⟨x, h1, h2, h3⟩ := hx
    exact am_i_aload_n hd h1 h2 h3
  case istore k =>
    obtain rfl : len = 2 := by simpa [am_len] using hl
    obtain ⟨x, rest, rfl, h1, h2⟩ := hx
    exact am_i_istore hd h1 h2
  case istore_n k =>
    obtain rfl : len = 1 := by simpa [am_len] using hl
    obtain ⟨x, rest, rfl, h1, h2⟩ := hx
    exact am_i_istore_n hd h1 h2
  case astore k =>
    obtain rfl : len = 2 := by simpa [am_len] using hl
    obtain ⟨x, rest, rfl, h1, h2, h3⟩ := hx
    exact am_i_astore hd h1 h2 h3
  case astore_n k =>
    obtain rfl : len = 1 := by simpa [am_len] using hl
    obtain ⟨x, rest, rfl, h1, h2, h3⟩ := hx
    exact am_i_astore_n hd h1 h2 h3
  case iinc k n =>
    obtain rfl : len = 3 := by simpa [am_len] using hl
    obtain ⟨x, h1, h2⟩ := hx
    exact am_i_iinc hd h1 h2
  case iadd =>
    obtain rfl : len = 1 := by simpa [am_len] using hl
    obtain ⟨x, y, rest, rfl, h1⟩ := hx
    exact am_i_iadd hd h1
  case isub =>
    obtain rfl : len = 1 := by simpa [am_len] using hl
    obtain ⟨x, y, rest, rfl, h1⟩ := hx
    exact am_i_isub hd h1
  case imul =>
    obtain rfl : len = 1 := by simpa [am_len] using hl
    obtain ⟨x, y, rest, rfl, h1⟩ := hx
    exact am_i_imul hd h1
  case iand =>
    obtain rfl : len = 1 := by simpa [am_len] using hl
    obtain ⟨x, y, rest, rfl, h1⟩ := hx
    exact am_i_iand hd h1
  case ishr =>
    obtain rfl : len = 1 := by simpa [am_len] using hl
    obtain ⟨x, y, rest, rfl, h1⟩ := hx
    exact am_i_ishr hd h1
  case iushr =>
    obtain rfl : len = 1 := by simpa [am_len] using hl
    obtain ⟨x, y, rest, rfl, h1⟩ := hx
    exact am_i_iushr hd h1
  case idiv =>
    obtain rfl : len = 1 := by simpa [am_len] using hl
    obtain ⟨x, y, rest, rfl, h1, h2⟩ := hx
    exact am_i_idiv h1 hd h2
  case i2b =>
    obtain rfl : len = 1 := by simpa [am_len] using hl
    obtain ⟨x, rest, rfl, h1⟩ := hx
    exact am_i_i2b hd h1
  case dup =>
    obtain rfl : len = 1 := by simpa [am_len] using hl
    obtain ⟨v, rest, rfl, h1⟩ := hx
    exact am_i_dup hd h1
  case dup_x1 =>
    obtain rfl : len = 1 := by simpa [am_len] using hl
    obtain ⟨v, w, rest, rfl, h1⟩ := hx
    exact am_i_dup_x1 hd h1
  case dup2 =>
    obtain rfl : len = 1 := by simpa [am_len] using hl
    obtain ⟨v, w, rest, rfl, h1⟩ := hx
    exact am_i_dup2 hd h1
  case pop =>
    obtain rfl : len = 1 := by simpa [am_len] using hl
    obtain ⟨v, rest, rfl, h1⟩ := hx
    exact am_i_pop hd h1
  case goto off =>
    obtain rfl : len = 3 := by simpa [am_len] using hl
    obtain ⟨tgt, h1, h2⟩ := hx
    exact am_i_goto hd h1 h2
  case ifCond c off =>
    obtain rfl : len = 3 := by simpa [am_len] using hl
    cases c
    case eq =>
      obtain ⟨x, rest, rfl, tgt, h1, h2, h3⟩ := hx
      exact am_i_c1eq hd h1 h2 h3
    case ne =>
      obtain ⟨x, rest, rfl, tgt, h1, h2, h3⟩ := hx
      exact am_i_c1ne hd h1 h2 h3
    case lt =>
      obtain ⟨x, rest, rfl, tgt, h1, h2, h3⟩ := hx
      exact am_i_c1lt hd h1 h2 h3
    case ge =>
      obtain ⟨x, rest, rfl, tgt, h1, h2, h3⟩ := hx
      exact am_i_c1ge hd h1 h2 h3
    case gt =>
      obtain ⟨x, rest, rfl, tgt, h1, h2, h3⟩ := hx
      exact am_i_c1gt hd h1 h2 h3
    case le =>
      obtain ⟨x, rest, rfl, tgt, h1, h2, h3⟩ := hx
      exact am_i_c1le hd h1 h2 h3
  case if_icmp c off =>
    obtain rfl : len = 3 := by simpa [am_len] using hl
    cases c
    case eq =>
      obtain ⟨x, y, rest, rfl, tgt, h1, h2, h3⟩ := hx
      exact am_i_c2eq hd h1 h2 h3
    case ne =>
      obtain ⟨x, y, rest, rfl, tgt, h1, h2, h3⟩ := hx
      exact am_i_c2ne hd h1 h2 h3
    case lt =>
      obtain ⟨x, y, rest, rfl, tgt, h1, h2, h3⟩ := hx
      exact am_i_c2lt hd h1 h2 h3
    case ge =>
      obtain ⟨x, y, rest, rfl, tgt, h1, h2, h3⟩ := hx
      exact am_i_c2ge hd h1 h2 h3
    case gt =>
      obtain ⟨x, y, rest, rfl, tgt, h1, h2, h3⟩ := hx
      exact am_i_c2gt hd h1 h2 h3
    case le =>
      obtain ⟨x, y, rest, rfl, tgt, h1, h2, h3⟩ := hx
      exact am_i_c2le hd h1 h2 h3
  case if_acmp c off =>
    obtain rfl : len = 3 := by simpa [am_len] using hl
    cases c
    case eq =>
      obtain ⟨v, w, rest, rfl, h0, tgt, h1, h2, h3⟩ := hx
      exact am_i_acmpeq hd h0 h1 h2 h3
    case ne =>
      obtain ⟨v, w, rest, rfl, h0, tgt, h1, h2, h3⟩ := hx
      exact am_i_acmpne hd h0 h1 h2 h3
  case ifnull off =>
    obtain rfl : len = 3 := by simpa [am_len] using hl
    obtain ⟨v, rest, rfl, h0, tgt, h1, h2, h3⟩ := hx
    exact am_i_ifnull hd h0 h1 h2 h3
  case ifnonnull off =>
    obtain rfl : len = 3 := by simpa [am_len] using hl
    obtain ⟨v, rest, rfl, h0, tgt, h1, h2, h3⟩ := hx
    exact am_i_ifnonnull hd h0 h1 h2 h3
  case tableswitch a b c e =>
    obtain ⟨x, rest, rfl, tgt, h1, h2⟩ := hx
    exact am_i_tableswitch hd h1 h2
  case lookupswitch a b =>
    obtain ⟨x, rest, rfl, h1, tgt, h2, h3⟩ := hx
    exact am_i_lookupswitch hd h1 h2 h3
  case getfield idx =>
    obtain rfl : len = 3 := by simpa [am_len] using hl
    obtain ⟨a, rest, t, c, k, v, rfl, h1, h2, h3, h4⟩ := hx
    exact am_i_getfield hT hd h1 h2 h3 h4
  case putfield idx =>
    obtain rfl : len = 3 := by simpa [am_len] using hl
    obtain ⟨a, rest, c, k, v, w, ts, ty, fin, rfl, h1, h2, h3, h4, h5, h6, h7⟩ := hx
    exact am_i_putfield hT hd h1 h2 h3 h4 h5 h6 h7
  case getstatic idx =>
    obtain rfl : len = 3 := by simpa [am_len] using hl
    obtain ⟨j, y, h1, h2⟩ := hx
    exact am_i_getstatic hd h1 h2
  case arraylength =>
    obtain rfl : len = 1 := by simpa [am_len] using hl
    obtain ⟨r, rest, ty, vs, rfl, h1, h2, h3⟩ := hx
    exact am_i_len hd h1 h2 h3
  case iaload =>
    obtain rfl : len = 1 := by simpa [am_len] using hl
    obtain ⟨j, r, rest, ty, vs, v, rfl, h1, h2, h3, h4, h5⟩ := hx
    exact am_i_ald hB hd (Or.inl ⟨rfl, h2⟩) h1 h3 h4 h5
  case baload =>
    obtain rfl : len = 1 := by simpa [am_len] using hl
    obtain ⟨j, r, rest, ty, vs, v, rfl, h1, h2, h3, h4, h5⟩ := hx
    exact am_i_ald hB hd (Or.inr (Or.inl ⟨rfl, h2⟩)) h1 h3 h4 h5
  case aaload =>
    obtain rfl : len = 1 := by simpa [am_len] using hl
    obtain ⟨j, r, rest, ty, vs, v, rfl, h1, h2, h3, h4, h5⟩ := hx
    exact am_i_ald hB hd (Or.inr (Or.inr ⟨rfl, h2⟩)) h1 h3 h4 h5
  case iastore =>
    obtain rfl : len = 1 := by simpa [am_len] using hl
    obtain ⟨w, j, a, rest, ty, vs, v, rfl, h1, ⟨rfl, rfl, x, rfl⟩, h3, h4, h5⟩ := hx
    exact am_i_iast hd h1 h3 h4 h5
  case bastore =>
    obtain rfl : len = 1 := by simpa [am_len] using hl
    obtain ⟨w, j, a, rest, ty, vs, v, rfl, h1, ⟨x, rfl, ⟨rfl, rfl⟩ | ⟨rfl, rfl⟩⟩, h3, h4, h5⟩ := hx
    · exact am_i_bast hd h1 h3 h4 h5
    · exact am_i_zast hd h1 h3 h4 h5
  case aastore =>
    obtain rfl : len = 1 := by simpa [am_len] using hl
    obtain ⟨w, j, a, rest, ty, vs, v, rfl, h1, ⟨rfl, C, h6, rfl, rfl | ⟨b, c, fs, rfl, h7, h8⟩⟩, h3, h4, h5⟩ := hx
    · exact am_i_aastN hd h6 h1 h3 h4 h5
    · exact am_i_aast hT hd h6 h1 h7 h8 h3 h4 h5
  case new idx =>
    obtain rfl : len = 3 := by simpa [am_len] using hl
    obtain ⟨c, y, ts, h1, h2, h3, h4⟩ := hx
    exact am_i_new hT hd h1 h2 h4 h3
  case newarray at_ =>
    obtain rfl : len = 2 := by simpa [am_len] using hl
    obtain ⟨n, rest, ty, rfl, h1, h2, h3, h4, h5⟩ := hx
    exact am_i_newarray hT hd h1 h2 h3 h4 h5
  case anewarray idx =>
    obtain rfl : len = 3 := by simpa [am_len] using hl
    obtain ⟨n, rest, c, y, rfl, h1, h2, h3, h4, h5⟩ := hx
    exact am_i_anewarray hT hd h1 h2 h3 h4 h5
  case checkcast idx =>
    obtain rfl : len = 3 := by simpa [am_len] using hl
    obtain ⟨v, rest, c, y, rfl, h1, h2, h3⟩ := hx
    exact am_i_cast hT hd h1 h2 h3
  case invokevirtual idx =>
    obtain rfl : len = 3 := by simpa [am_len] using hl
    rcases hx with ⟨a, rest, vs, x, y, h1, rfl, h2, h3, h4⟩ | ⟨m, n, as, b, rest, J, fs, h1, h2, rfl, h3, h4, h5, h6⟩
    · exact am_i_getClass hT (Nat.succ_le_succ (Nat.zero_le _)) hd h1 h2 h3 h4
    · exact am_i_virtual hT hS hd h1 h2 h3 h4 h5 h6
  case invokestatic idx =>
    obtain rfl : len = 3 := by simpa [am_len] using hl
    rcases hx with ⟨n, dp, a, sp, b, rest, ty, vs, ws, x, y, h1, rfl, h2, h3, h4, h5, h6, h7, h8, h9, h10, h11⟩ | ⟨m, n, as, rest, h1, h2, rfl, h3, h4⟩
    · exact am_i_copy hT (Nat.succ_le_succ (Nat.zero_le _)) hd h1 h2 h3 h4 h5 h6 h7 h8 h9 h10 h11
    · exact am_i_static hT hS hd h1 h2 h3 h4
  case invokespecial idx =>
    obtain rfl : len = 3 := by simpa [am_len] using hl
    rcases hx with ⟨a, rest, x, y, h1, rfl, h2, h3⟩ | ⟨t, m, n, as, b, rest, h1, h2, h3, rfl, h4, h5⟩
    · exact am_i_objInit hT (Nat.succ_le_succ (Nat.zero_le _)) hd h1 h2 h3
    · exact am_i_special hT hS hd h1 h2 h3 h4 h5
  all_goals exact False.elim hx
end AMZ
end
section
/-! the small machine's calls are calls of the JVM -/
section AMZ2
variable {l : Launch} {B : am_B} {nm : Nat → String} {my : Nat → MethodName} {cl : List vw_C} {Ts NW : List Cond} {D : va_G} {DA : FieldType → ClassId} {sa : Nat → Nat} {base : Nat}
variable {I : am_I} {h0 : am_H} {d : Nat} {Q : Option Value → am_H → Prop}
def am_Z (cl : List vw_C) (D : va_G) (DA : FieldType → ClassId) (sa : Nat → Nat) (base : Nat) (h0 : am_H) (v : Option Value) (h' : am_H) (s : State) (args : Array Value) (below : List Frame) : State → Prop := MQ below (am_Qc cl D DA sa base v h') args s (h'.length - h0.length) (am_sl h' - am_sl h0) (am_A base)
theorem am_re_sim {pc len : Nat} {ls : List (Option Value)} {st : List Value} {h : am_H} {i : Instr} (hd : decode I.2.1 pc = .ok (i, len)) (hl : am_len i len = true) (hx : am_re Q I st h i) : am_P l B nm cl Ts NW D DA sa base I h0 d Q (am_Z cl D DA sa base h0) (pc, ls, st, h) := by
  obtain ⟨v, rfl, hans, hQ, hk⟩ := hx
  intro hF
  refine ⟨v, h, hQ, Nat.le_refl _, Nat.le_refl _, hF.2.2.1, fun w hw => hF.1 w (by rw [hw]; exact List.mem_cons_self), ?_⟩
  intro p e R s m args below meth c hC hf hlo hc hsl H locs lsm cells slots hR
  have e1 : cells = h.length - h0.length := by have := hR.2.2.2.1; simp only at this; omega
  have e2 : slots = am_sl h - am_sl h0 := by have := hR.2.2.2.2; simp only at this; omega
  have hlocks : meth.locks = false := hC.2.2.2.2.2.2.1
  have hret := hC.2.2.2.2.2.2.2.1
  subst e1 e2
  have hq : ∀ t : State, t.heap = H → s.WarmedH t.vm → am_Qc cl D DA sa base v h args s (.returned (v.map (am_cv sa base))) t := fun t ht _ => ⟨rfl, by rw [ht]; exact hR.2.1, hR.2.2.1.F ht⟩
  rcases hk with ⟨rfl, rfl⟩ | ⟨rfl, x, rfl⟩ | ⟨rfl, r, rfl, hr⟩
  · obtain rfl : len = 1 := by simpa [am_len] using hl
    refine W.vret hC.1 hC.2.1 ?_ hq hR.2.2.1.2.2 hd
    rw [hret]
    revert hans
    cases I.2.2.2.1 with
    | none => intro _; rfl
    | some ty => intro q; cases ty <;> cases q
  · obtain rfl : len = 1 := by simpa [am_len] using hl
    revert hans hret
    cases hI : I.2.2.2.1 with
    | none => intro _ q; cases q
    | some ty =>
      cases ty with
      | int => intro hret _; exact W.iret hC.1 hC.2.1 hret hq hR.2.2.1.2.2 hd
      | boolean =>
        intro hret q
        refine W.zret hC.1 hC.2.1 hret ?_ hq hR.2.2.1.2.2 hd
        simp only [am_ans, Bool.or_eq_true, beq_iff_eq] at q
        rcases q with rfl | rfl <;> rfl
      | _ => intro _ q; cases q
  · obtain rfl : len = 1 := by simpa [am_len] using hl
    have hv : am_cv sa base r = .null ∨ ∃ a, am_cv sa base r = .ref a := by
      rcases hr with rfl | ⟨a, rfl⟩ | ⟨j, rfl⟩
      · exact Or.inl rfl
      · exact Or.inr ⟨_, rfl⟩
      · exact Or.inr ⟨_, rfl⟩
    revert hans hret
    cases hI : I.2.2.2.1 with
    | none => intro _ q; cases q
    | some ty =>
      cases ty with
      | object n => intro hret _; exact W.aret hC.1 hC.2.1 hret (Or.inl ⟨_, rfl⟩) hv hq hR.2.2.1.2.2 hd
      | array n => intro hret _; exact W.aret hC.1 hC.2.1 hret (Or.inr ⟨_, rfl⟩) hv hq hR.2.2.1.2.2 hd
      | _ => intro _ q; rcases hr with rfl | ⟨a, rfl⟩ | ⟨j, rfl⟩ <;> cases q
/-- the locals at a method's entry -/
theorem am_Rl_entry {as : List Value} {n : Nat} (h1 : ∀ v ∈ as, v.category = 1) (hn : as.length ≤ n) : am_Rl sa base (as.map some ++ List.replicate (n - as.length) none) ((as.map (am_cv sa base)).map Slot.val ++ List.replicate (n - (as.map (am_cv sa base)).length) Slot.unset).toArray := by
  refine ⟨by simp, ⟨fun i v hv hc => ?_, fun i hi => ?_⟩, fun i v hv => ?_⟩
  · have hm : Slot.val v ∈ (as.map (am_cv sa base)).map Slot.val ++ List.replicate (n - (as.map (am_cv sa base)).length) Slot.unset := List.mem_of_getElem? (by simpa using hv)
    rcases List.mem_append.mp hm with h | h
    · obtain ⟨w, hw, e⟩ := List.mem_map.mp h
      cases e
      obtain ⟨u, hu, rfl⟩ := List.mem_map.mp hw
      rw [am_cv_cat, h1 u hu] at hc
      cases hc
    · have := List.eq_of_mem_replicate h
      cases this
  · have hm : Slot.second ∈ (as.map (am_cv sa base)).map Slot.val ++ List.replicate (n - (as.map (am_cv sa base)).length) Slot.unset := List.mem_of_getElem? (by simpa using hi)
    rcases List.mem_append.mp hm with h | h
    · obtain ⟨w, hw, e⟩ := List.mem_map.mp h
      cases e
    · have := List.eq_of_mem_replicate h
      cases this
  · by_cases hi : i < as.length
    · rw [List.getElem?_append_left (by simpa using hi), List.getElem?_map] at hv
      cases ha : as[i]? with
      | none => rw [ha] at hv; cases hv
      | some w =>
        rw [ha] at hv
        cases hv
        refine ⟨?_, h1 _ (List.mem_of_getElem? ha)⟩
        rw [List.getElem?_toArray, List.getElem?_append_left (by simpa using hi), List.getElem?_map, List.getElem?_map, ha]
        rfl
    · rw [List.getElem?_append_right (by simpa using hi)] at hv
      have := List.eq_of_mem_replicate (List.mem_of_getElem? hv)
      cases this
theorem am_sim (hT : am_Tab B nm my cl Ts NW) (hB : ∀ i ty vs, B.2.2.2 i = some (ty, vs) → ∀ v ∈ vs, v.category = 1) : ∀ d, am_Sim l B nm my cl Ts NW D DA sa base d := by
  intro d
  induction d with
  | zero => intro mi as h Q ht; exact ht.elim
  | succ d ih =>
    intro mi as h Q ht hv1 has
    obtain ⟨I, hI, hlen, hwp⟩ := ht
    obtain ⟨m1, m2, m3, m4, m5, m6, m7⟩ := hT.2.1 mi I hI
    have hP := hwp (am_P l B nm cl Ts NW D DA sa base I h (d + 1) Q (am_Z cl D DA sa base h)) (fun F hF => by
      obtain ⟨i, len, h1, h2, h3⟩ := hF
      rcases h3 with h3 | h3
      · exact am_nx_sim hT hB ih h1 h2 h3
      · exact am_re_sim h1 h2 h3)
    have hwf : am_wfF I (0, as.map some ++ List.replicate (I.2.2.1 - as.length) none, [], h) := by
      refine ⟨fun v hv => (List.not_mem_nil hv).elim, fun v hv => ?_, hv1, ?_⟩
      · rcases List.mem_append.mp hv with hv | hv
        · obtain ⟨w, hw, e⟩ := List.mem_map.mp hv
          cases e
          exact has _ hw
        · have := List.eq_of_mem_replicate hv
          cases this
      · show (as.map some ++ List.replicate (I.2.2.1 - as.length) none).length = I.2.2.1
        simp
        omega
    obtain ⟨v, h', hQ, g1, g2, g3, g4, g5⟩ := hP hwf
    refine ⟨v, h', I, hQ, g1, g2, g3, g4, hI, ?_⟩
    refine Met.ofW (cc := I.2.1) (maxL := I.2.2.1) (ret := I.2.2.2.1) m3 rfl ?_
    intro p e s m args below meth c s₁ Bd hml hv
    obtain ⟨rfl, hw, hK⟩ := hv
    have hts := atoms_spec (ws := Cond.code (my mi) I.2.1 I.2.2.1 I.2.2.2.1 :: Ts) Bd.pre
    have hfc : s.vm.findClass (nm I.1) = some m.cls := by rw [← m2]; exact findClass_of_methodNamed Bd.named
    have hnme : meth.name = (my mi).name := (name_of_methodNamed Bd.named Bd.method).1
    have hz : s.heap.size = base + h.length := hw.1
    rw [entry_eq m (as.map (am_cv sa base)) (fun v hv => by
      obtain ⟨w, hw, rfl⟩ := List.mem_map.mp hv
      rw [am_cv_cat]; exact has w hw)]
    exact g5 p e _ s m _ below meth c ⟨Bd.exec, Bd.bytes, hml, hfc, fun w hw => hts w (List.mem_cons_of_mem _ hw), hK, Bd.notSynchronized, Bd.returns, fun q => hnme.trans (m5 q), by omega⟩ (Nat.le_refl _) (Nat.le_refl _) (by show _ ≤ h.length + (h'.length - h.length); omega) (by show _ ≤ am_sl h + (am_sl h' - am_sl h); omega)
      s.heap [] _ 0 0 ⟨am_Rl_entry has hlen, hw, va_S.rf, rfl, rfl⟩
end AMZ2
end
