section
-- ===== PART A: goes FIRST, ahead of the names: the tables' words, and 'selects' of the private methods out of them =====
/-- a private method of a class that the tables say can be made, by its rows of tables_1 -/
def lw_okq (q : MethodName × Nat) : Prop := (q.1.cls ≠ "java/lang/invoke/MethodHandle" ∧ q.1.cls ≠ "java/lang/invoke/VarHandle") ∧ Cond.instantiable q.1.cls q.2 ∈ tables_1 ∧ Cond.privateMethod q.1 ∈ tables_1 ∧ Cond.instanceMethod q.1 ∈ tables_1
theorem lw_p0 : lw_okq (⟨"LineFlow", "plantRoot", "()V"⟩, 5) := ⟨⟨by decide +kernel, by decide +kernel⟩, List.mem_of_getElem? (i := 22) (by decide +kernel), List.mem_of_getElem? (i := 193) (by decide +kernel), List.mem_of_getElem? (i := 194) (by decide +kernel)⟩
theorem lw_p1 : lw_okq (⟨"LineFlow", "putOnTape", "(I)V"⟩, 5) := ⟨⟨by decide +kernel, by decide +kernel⟩, List.mem_of_getElem? (i := 22) (by decide +kernel), List.mem_of_getElem? (i := 342) (by decide +kernel), List.mem_of_getElem? (i := 343) (by decide +kernel)⟩
theorem lw_p2 : lw_okq (⟨"LineFlow", "elementAt", "(I)LLineFlow$Node;"⟩, 5) := ⟨⟨by decide +kernel, by decide +kernel⟩, List.mem_of_getElem? (i := 22) (by decide +kernel), List.mem_of_getElem? (i := 362) (by decide +kernel), List.mem_of_getElem? (i := 363) (by decide +kernel)⟩
theorem lw_p3 : lw_okq (⟨"LineFlow", "nodeAt", "(I)LLineFlow$Node;"⟩, 5) := ⟨⟨by decide +kernel, by decide +kernel⟩, List.mem_of_getElem? (i := 22) (by decide +kernel), List.mem_of_getElem? (i := 366) (by decide +kernel), List.mem_of_getElem? (i := 367) (by decide +kernel)⟩
theorem lw_p4 : lw_okq (⟨"LineFlow$Layout", "prepare", "(LLineFlow$Node;I)V"⟩, 4) := ⟨⟨by decide +kernel, by decide +kernel⟩, List.mem_of_getElem? (i := 32) (by decide +kernel), List.mem_of_getElem? (i := 418) (by decide +kernel), List.mem_of_getElem? (i := 419) (by decide +kernel)⟩
theorem lw_p5 : lw_okq (⟨"LineFlow$Layout", "listWords", "(LLineFlow$Node;)V"⟩, 4) := ⟨⟨by decide +kernel, by decide +kernel⟩, List.mem_of_getElem? (i := 32) (by decide +kernel), List.mem_of_getElem? (i := 422) (by decide +kernel), List.mem_of_getElem? (i := 423) (by decide +kernel)⟩
theorem lw_p6 : lw_okq (⟨"LineFlow$Layout", "listWord", "(LLineFlow$Node;III)V"⟩, 4) := ⟨⟨by decide +kernel, by decide +kernel⟩, List.mem_of_getElem? (i := 32) (by decide +kernel), List.mem_of_getElem? (i := 432) (by decide +kernel), List.mem_of_getElem? (i := 433) (by decide +kernel)⟩
theorem lw_p7 : lw_okq (⟨"java/util/ArrayList", "add", "(Ljava/lang/Object;[Ljava/lang/Object;I)V"⟩, 3) := ⟨⟨by decide +kernel, by decide +kernel⟩, List.mem_of_getElem? (i := 38) (by decide +kernel), List.mem_of_getElem? (i := 470) (by decide +kernel), List.mem_of_getElem? (i := 471) (by decide +kernel)⟩
theorem lw_p8 : lw_okq (⟨"java/util/ArrayList", "grow", "()[Ljava/lang/Object;"⟩, 3) := ⟨⟨by decide +kernel, by decide +kernel⟩, List.mem_of_getElem? (i := 38) (by decide +kernel), List.mem_of_getElem? (i := 474) (by decide +kernel), List.mem_of_getElem? (i := 475) (by decide +kernel)⟩
theorem lw_p9 : lw_okq (⟨"java/util/ArrayList", "grow", "(I)[Ljava/lang/Object;"⟩, 3) := ⟨⟨by decide +kernel, by decide +kernel⟩, List.mem_of_getElem? (i := 38) (by decide +kernel), List.mem_of_getElem? (i := 478) (by decide +kernel), List.mem_of_getElem? (i := 479) (by decide +kernel)⟩
theorem lw_p10 : lw_okq (⟨"LineFlow$Layout", "layElement", "(LLineFlow$Node;III)V"⟩, 4) := ⟨⟨by decide +kernel, by decide +kernel⟩, List.mem_of_getElem? (i := 32) (by decide +kernel), List.mem_of_getElem? (i := 539) (by decide +kernel), List.mem_of_getElem? (i := 540) (by decide +kernel)⟩
theorem lw_p11 : lw_okq (⟨"LineFlow$Layout", "layRow", "(LLineFlow$Flow;)I"⟩, 4) := ⟨⟨by decide +kernel, by decide +kernel⟩, List.mem_of_getElem? (i := 32) (by decide +kernel), List.mem_of_getElem? (i := 560) (by decide +kernel), List.mem_of_getElem? (i := 561) (by decide +kernel)⟩
theorem lw_p12 : lw_okq (⟨"LineFlow$Layout", "measurePiece", "(LLineFlow$Node;I)V"⟩, 4) := ⟨⟨by decide +kernel, by decide +kernel⟩, List.mem_of_getElem? (i := 32) (by decide +kernel), List.mem_of_getElem? (i := 564) (by decide +kernel), List.mem_of_getElem? (i := 565) (by decide +kernel)⟩
theorem lw_p13 : lw_okq (⟨"LineFlow$Layout", "textWidth", "(LLineFlow$Node;)I"⟩, 4) := ⟨⟨by decide +kernel, by decide +kernel⟩, List.mem_of_getElem? (i := 32) (by decide +kernel), List.mem_of_getElem? (i := 572) (by decide +kernel), List.mem_of_getElem? (i := 573) (by decide +kernel)⟩
theorem lw_p14 : lw_okq (⟨"LineFlow$Ruler", "addTexts", "(LLineFlow$Node;)V"⟩, 2) := ⟨⟨by decide +kernel, by decide +kernel⟩, List.mem_of_getElem? (i := 67) (by decide +kernel), List.mem_of_getElem? (i := 580) (by decide +kernel), List.mem_of_getElem? (i := 581) (by decide +kernel)⟩
theorem lw_p15 : lw_okq (⟨"LineFlow$Ruler", "addBytes", "([B)V"⟩, 2) := ⟨⟨by decide +kernel, by decide +kernel⟩, List.mem_of_getElem? (i := 67) (by decide +kernel), List.mem_of_getElem? (i := 584) (by decide +kernel), List.mem_of_getElem? (i := 585) (by decide +kernel)⟩
def lw_privs_1 : List (MethodName × Nat) := [(⟨"LineFlow", "plantRoot", "()V"⟩, 5), (⟨"LineFlow", "putOnTape", "(I)V"⟩, 5), (⟨"LineFlow", "elementAt", "(I)LLineFlow$Node;"⟩, 5), (⟨"LineFlow", "nodeAt", "(I)LLineFlow$Node;"⟩, 5), (⟨"LineFlow$Layout", "prepare", "(LLineFlow$Node;I)V"⟩, 4), (⟨"LineFlow$Layout", "listWords", "(LLineFlow$Node;)V"⟩, 4), (⟨"LineFlow$Layout", "listWord", "(LLineFlow$Node;III)V"⟩, 4), (⟨"java/util/ArrayList", "add", "(Ljava/lang/Object;[Ljava/lang/Object;I)V"⟩, 3), (⟨"java/util/ArrayList", "grow", "()[Ljava/lang/Object;"⟩, 3), (⟨"java/util/ArrayList", "grow", "(I)[Ljava/lang/Object;"⟩, 3), (⟨"LineFlow$Layout", "layElement", "(LLineFlow$Node;III)V"⟩, 4), (⟨"LineFlow$Layout", "layRow", "(LLineFlow$Flow;)I"⟩, 4), (⟨"LineFlow$Layout", "measurePiece", "(LLineFlow$Node;I)V"⟩, 4), (⟨"LineFlow$Layout", "textWidth", "(LLineFlow$Node;)I"⟩, 4), (⟨"LineFlow$Ruler", "addTexts", "(LLineFlow$Node;)V"⟩, 2), (⟨"LineFlow$Ruler", "addBytes", "([B)V"⟩, 2)]
theorem lw_r1 : ∀ q ∈ lw_privs_1, lw_okq q := List.forall_mem_cons.mpr ⟨lw_p0, List.forall_mem_cons.mpr ⟨lw_p1, List.forall_mem_cons.mpr ⟨lw_p2, List.forall_mem_cons.mpr ⟨lw_p3, List.forall_mem_cons.mpr ⟨lw_p4, List.forall_mem_cons.mpr ⟨lw_p5, List.forall_mem_cons.mpr ⟨lw_p6, List.forall_mem_cons.mpr ⟨lw_p7, List.forall_mem_cons.mpr ⟨lw_p8, List.forall_mem_cons.mpr ⟨lw_p9, List.forall_mem_cons.mpr ⟨lw_p10, List.forall_mem_cons.mpr ⟨lw_p11, List.forall_mem_cons.mpr ⟨lw_p12, List.forall_mem_cons.mpr ⟨lw_p13, List.forall_mem_cons.mpr ⟨lw_p14, List.forall_mem_cons.mpr ⟨lw_p15, fun _ h => absurd h List.not_mem_nil⟩⟩⟩⟩⟩⟩⟩⟩⟩⟩⟩⟩⟩⟩⟩⟩
theorem lw_p16 : lw_okq (⟨"LineFlow$Layout", "layDown", "(LLineFlow$Flow;)I"⟩, 4) := ⟨⟨by decide +kernel, by decide +kernel⟩, List.mem_of_getElem? (i := 32) (by decide +kernel), List.mem_of_getElem? (i := 599) (by decide +kernel), List.mem_of_getElem? (i := 600) (by decide +kernel)⟩
theorem lw_p17 : lw_okq (⟨"LineFlow$Layout", "addFloat", "(LLineFlow$Flow;LLineFlow$Node;)V"⟩, 4) := ⟨⟨by decide +kernel, by decide +kernel⟩, List.mem_of_getElem? (i := 32) (by decide +kernel), List.mem_of_getElem? (i := 603) (by decide +kernel), List.mem_of_getElem? (i := 604) (by decide +kernel)⟩
theorem lw_p18 : lw_okq (⟨"LineFlow$Layout", "putFloat", "(LLineFlow$Flow;LLineFlow$Node;)V"⟩, 4) := ⟨⟨by decide +kernel, by decide +kernel⟩, List.mem_of_getElem? (i := 32) (by decide +kernel), List.mem_of_getElem? (i := 615) (by decide +kernel), List.mem_of_getElem? (i := 616) (by decide +kernel)⟩
theorem lw_p19 : lw_okq (⟨"LineFlow$Floats", "leastEndAt", "(I)I"⟩, 6) := ⟨⟨by decide +kernel, by decide +kernel⟩, List.mem_of_getElem? (i := 85) (by decide +kernel), List.mem_of_getElem? (i := 624) (by decide +kernel), List.mem_of_getElem? (i := 625) (by decide +kernel)⟩
theorem lw_p20 : lw_okq (⟨"LineFlow$Layout", "addInline", "(LLineFlow$Flow;LLineFlow$Node;)V"⟩, 4) := ⟨⟨by decide +kernel, by decide +kernel⟩, List.mem_of_getElem? (i := 32) (by decide +kernel), List.mem_of_getElem? (i := 657) (by decide +kernel), List.mem_of_getElem? (i := 658) (by decide +kernel)⟩
theorem lw_p21 : lw_okq (⟨"LineFlow$Layout", "addWords", "(LLineFlow$Flow;LLineFlow$Node;)V"⟩, 4) := ⟨⟨by decide +kernel, by decide +kernel⟩, List.mem_of_getElem? (i := 32) (by decide +kernel), List.mem_of_getElem? (i := 661) (by decide +kernel), List.mem_of_getElem? (i := 662) (by decide +kernel)⟩
theorem lw_p22 : lw_okq (⟨"LineFlow$Layout", "addItem", "(LLineFlow$Flow;LLineFlow$Box;I)V"⟩, 4) := ⟨⟨by decide +kernel, by decide +kernel⟩, List.mem_of_getElem? (i := 32) (by decide +kernel), List.mem_of_getElem? (i := 665) (by decide +kernel), List.mem_of_getElem? (i := 666) (by decide +kernel)⟩
theorem lw_p23 : lw_okq (⟨"LineFlow$Layout", "endLine", "(LLineFlow$Flow;)V"⟩, 4) := ⟨⟨by decide +kernel, by decide +kernel⟩, List.mem_of_getElem? (i := 32) (by decide +kernel), List.mem_of_getElem? (i := 678) (by decide +kernel), List.mem_of_getElem? (i := 679) (by decide +kernel)⟩
theorem lw_p24 : lw_okq (⟨"LineFlow$Line", "spaceAhead", "(I)I"⟩, 5) := ⟨⟨by decide +kernel, by decide +kernel⟩, List.mem_of_getElem? (i := 113) (by decide +kernel), List.mem_of_getElem? (i := 686) (by decide +kernel), List.mem_of_getElem? (i := 687) (by decide +kernel)⟩
theorem lw_p25 : lw_okq (⟨"LineFlow$Layout", "addBreak", "(LLineFlow$Flow;LLineFlow$Node;)V"⟩, 4) := ⟨⟨by decide +kernel, by decide +kernel⟩, List.mem_of_getElem? (i := 32) (by decide +kernel), List.mem_of_getElem? (i := 699) (by decide +kernel), List.mem_of_getElem? (i := 700) (by decide +kernel)⟩
theorem lw_p26 : lw_okq (⟨"LineFlow$Layout", "addBlock", "(LLineFlow$Flow;LLineFlow$Node;)V"⟩, 4) := ⟨⟨by decide +kernel, by decide +kernel⟩, List.mem_of_getElem? (i := 32) (by decide +kernel), List.mem_of_getElem? (i := 703) (by decide +kernel), List.mem_of_getElem? (i := 704) (by decide +kernel)⟩
theorem lw_p27 : lw_okq (⟨"LineFlowModel", "fresh", "(III)V"⟩, 56) := ⟨⟨by decide +kernel, by decide +kernel⟩, List.mem_of_getElem? (i := 764) (by decide +kernel), List.mem_of_getElem? (i := 774) (by decide +kernel), List.mem_of_getElem? (i := 775) (by decide +kernel)⟩
theorem lw_p28 : lw_okq (⟨"LineFlowModel", "putFour", "(I)V"⟩, 56) := ⟨⟨by decide +kernel, by decide +kernel⟩, List.mem_of_getElem? (i := 764) (by decide +kernel), List.mem_of_getElem? (i := 952) (by decide +kernel), List.mem_of_getElem? (i := 953) (by decide +kernel)⟩
theorem lw_p29 : lw_okq (⟨"LineFlowModel", "there", "(I)Z"⟩, 56) := ⟨⟨by decide +kernel, by decide +kernel⟩, List.mem_of_getElem? (i := 764) (by decide +kernel), List.mem_of_getElem? (i := 965) (by decide +kernel), List.mem_of_getElem? (i := 966) (by decide +kernel)⟩
theorem lw_p30 : lw_okq (⟨"LineFlowModel", "mayBe", "(III)Z"⟩, 56) := ⟨⟨by decide +kernel, by decide +kernel⟩, List.mem_of_getElem? (i := 764) (by decide +kernel), List.mem_of_getElem? (i := 977) (by decide +kernel), List.mem_of_getElem? (i := 978) (by decide +kernel)⟩
theorem lw_p31 : lw_okq (⟨"LineFlowModel", "modes", "()V"⟩, 56) := ⟨⟨by decide +kernel, by decide +kernel⟩, List.mem_of_getElem? (i := 764) (by decide +kernel), List.mem_of_getElem? (i := 985) (by decide +kernel), List.mem_of_getElem? (i := 986) (by decide +kernel)⟩
def lw_privs_2 : List (MethodName × Nat) := [(⟨"LineFlow$Layout", "layDown", "(LLineFlow$Flow;)I"⟩, 4), (⟨"LineFlow$Layout", "addFloat", "(LLineFlow$Flow;LLineFlow$Node;)V"⟩, 4), (⟨"LineFlow$Layout", "putFloat", "(LLineFlow$Flow;LLineFlow$Node;)V"⟩, 4), (⟨"LineFlow$Floats", "leastEndAt", "(I)I"⟩, 6), (⟨"LineFlow$Layout", "addInline", "(LLineFlow$Flow;LLineFlow$Node;)V"⟩, 4), (⟨"LineFlow$Layout", "addWords", "(LLineFlow$Flow;LLineFlow$Node;)V"⟩, 4), (⟨"LineFlow$Layout", "addItem", "(LLineFlow$Flow;LLineFlow$Box;I)V"⟩, 4), (⟨"LineFlow$Layout", "endLine", "(LLineFlow$Flow;)V"⟩, 4), (⟨"LineFlow$Line", "spaceAhead", "(I)I"⟩, 5), (⟨"LineFlow$Layout", "addBreak", "(LLineFlow$Flow;LLineFlow$Node;)V"⟩, 4), (⟨"LineFlow$Layout", "addBlock", "(LLineFlow$Flow;LLineFlow$Node;)V"⟩, 4), (⟨"LineFlowModel", "fresh", "(III)V"⟩, 56), (⟨"LineFlowModel", "putFour", "(I)V"⟩, 56), (⟨"LineFlowModel", "there", "(I)Z"⟩, 56), (⟨"LineFlowModel", "mayBe", "(III)Z"⟩, 56), (⟨"LineFlowModel", "modes", "()V"⟩, 56)]
theorem lw_r2 : ∀ q ∈ lw_privs_2, lw_okq q := List.forall_mem_cons.mpr ⟨lw_p16, List.forall_mem_cons.mpr ⟨lw_p17, List.forall_mem_cons.mpr ⟨lw_p18, List.forall_mem_cons.mpr ⟨lw_p19, List.forall_mem_cons.mpr ⟨lw_p20, List.forall_mem_cons.mpr ⟨lw_p21, List.forall_mem_cons.mpr ⟨lw_p22, List.forall_mem_cons.mpr ⟨lw_p23, List.forall_mem_cons.mpr ⟨lw_p24, List.forall_mem_cons.mpr ⟨lw_p25, List.forall_mem_cons.mpr ⟨lw_p26, List.forall_mem_cons.mpr ⟨lw_p27, List.forall_mem_cons.mpr ⟨lw_p28, List.forall_mem_cons.mpr ⟨lw_p29, List.forall_mem_cons.mpr ⟨lw_p30, List.forall_mem_cons.mpr ⟨lw_p31, fun _ h => absurd h List.not_mem_nil⟩⟩⟩⟩⟩⟩⟩⟩⟩⟩⟩⟩⟩⟩⟩⟩
theorem lw_p32 : lw_okq (⟨"LineFlowModel", "isBox", "(I)Z"⟩, 56) := ⟨⟨by decide +kernel, by decide +kernel⟩, List.mem_of_getElem? (i := 764) (by decide +kernel), List.mem_of_getElem? (i := 989) (by decide +kernel), List.mem_of_getElem? (i := 990) (by decide +kernel)⟩
theorem lw_p33 : lw_okq (⟨"LineFlowModel", "of", "(II)I"⟩, 56) := ⟨⟨by decide +kernel, by decide +kernel⟩, List.mem_of_getElem? (i := 764) (by decide +kernel), List.mem_of_getElem? (i := 993) (by decide +kernel), List.mem_of_getElem? (i := 994) (by decide +kernel)⟩
theorem lw_p34 : lw_okq (⟨"LineFlowModel", "modeOf", "(I)I"⟩, 56) := ⟨⟨by decide +kernel, by decide +kernel⟩, List.mem_of_getElem? (i := 764) (by decide +kernel), List.mem_of_getElem? (i := 997) (by decide +kernel), List.mem_of_getElem? (i := 998) (by decide +kernel)⟩
theorem lw_p35 : lw_okq (⟨"LineFlowModel", "after", "(II)I"⟩, 56) := ⟨⟨by decide +kernel, by decide +kernel⟩, List.mem_of_getElem? (i := 764) (by decide +kernel), List.mem_of_getElem? (i := 1001) (by decide +kernel), List.mem_of_getElem? (i := 1002) (by decide +kernel)⟩
theorem lw_p36 : lw_okq (⟨"LineFlowModel", "behind", "(II)I"⟩, 56) := ⟨⟨by decide +kernel, by decide +kernel⟩, List.mem_of_getElem? (i := 764) (by decide +kernel), List.mem_of_getElem? (i := 1005) (by decide +kernel), List.mem_of_getElem? (i := 1006) (by decide +kernel)⟩
theorem lw_p37 : lw_okq (⟨"LineFlowModel", "margins", "(I)V"⟩, 56) := ⟨⟨by decide +kernel, by decide +kernel⟩, List.mem_of_getElem? (i := 764) (by decide +kernel), List.mem_of_getElem? (i := 1009) (by decide +kernel), List.mem_of_getElem? (i := 1010) (by decide +kernel)⟩
theorem lw_p38 : lw_okq (⟨"LineFlowModel", "joins", "(I)Z"⟩, 56) := ⟨⟨by decide +kernel, by decide +kernel⟩, List.mem_of_getElem? (i := 764) (by decide +kernel), List.mem_of_getElem? (i := 1013) (by decide +kernel), List.mem_of_getElem? (i := 1014) (by decide +kernel)⟩
theorem lw_p39 : lw_okq (⟨"LineFlowModel", "isBlock", "(I)Z"⟩, 56) := ⟨⟨by decide +kernel, by decide +kernel⟩, List.mem_of_getElem? (i := 764) (by decide +kernel), List.mem_of_getElem? (i := 1017) (by decide +kernel), List.mem_of_getElem? (i := 1018) (by decide +kernel)⟩
theorem lw_p40 : lw_okq (⟨"LineFlowModel", "edges", "(I)I"⟩, 56) := ⟨⟨by decide +kernel, by decide +kernel⟩, List.mem_of_getElem? (i := 764) (by decide +kernel), List.mem_of_getElem? (i := 1021) (by decide +kernel), List.mem_of_getElem? (i := 1022) (by decide +kernel)⟩
theorem lw_p41 : lw_okq (⟨"LineFlowModel", "widen", "(I)V"⟩, 56) := ⟨⟨by decide +kernel, by decide +kernel⟩, List.mem_of_getElem? (i := 764) (by decide +kernel), List.mem_of_getElem? (i := 1028) (by decide +kernel), List.mem_of_getElem? (i := 1029) (by decide +kernel)⟩
theorem lw_p42 : lw_okq (⟨"LineFlowModel", "inner", "(I)I"⟩, 56) := ⟨⟨by decide +kernel, by decide +kernel⟩, List.mem_of_getElem? (i := 764) (by decide +kernel), List.mem_of_getElem? (i := 1032) (by decide +kernel), List.mem_of_getElem? (i := 1033) (by decide +kernel)⟩
theorem lw_p43 : lw_okq (⟨"LineFlowModel", "told", "(II)I"⟩, 56) := ⟨⟨by decide +kernel, by decide +kernel⟩, List.mem_of_getElem? (i := 764) (by decide +kernel), List.mem_of_getElem? (i := 1036) (by decide +kernel), List.mem_of_getElem? (i := 1037) (by decide +kernel)⟩
theorem lw_p44 : lw_okq (⟨"LineFlowModel", "oneLine", "(I)I"⟩, 56) := ⟨⟨by decide +kernel, by decide +kernel⟩, List.mem_of_getElem? (i := 764) (by decide +kernel), List.mem_of_getElem? (i := 1040) (by decide +kernel), List.mem_of_getElem? (i := 1041) (by decide +kernel)⟩
theorem lw_p45 : lw_okq (⟨"LineFlowModel", "split", "(I)V"⟩, 56) := ⟨⟨by decide +kernel, by decide +kernel⟩, List.mem_of_getElem? (i := 764) (by decide +kernel), List.mem_of_getElem? (i := 1053) (by decide +kernel), List.mem_of_getElem? (i := 1054) (by decide +kernel)⟩
theorem lw_p46 : lw_okq (⟨"LineFlowModel", "layBlock", "(I)V"⟩, 56) := ⟨⟨by decide +kernel, by decide +kernel⟩, List.mem_of_getElem? (i := 764) (by decide +kernel), List.mem_of_getElem? (i := 1057) (by decide +kernel), List.mem_of_getElem? (i := 1058) (by decide +kernel)⟩
theorem lw_p47 : lw_okq (⟨"LineFlowModel", "lineThing", "(I)V"⟩, 56) := ⟨⟨by decide +kernel, by decide +kernel⟩, List.mem_of_getElem? (i := 764) (by decide +kernel), List.mem_of_getElem? (i := 1061) (by decide +kernel), List.mem_of_getElem? (i := 1062) (by decide +kernel)⟩
def lw_privs_3 : List (MethodName × Nat) := [(⟨"LineFlowModel", "isBox", "(I)Z"⟩, 56), (⟨"LineFlowModel", "of", "(II)I"⟩, 56), (⟨"LineFlowModel", "modeOf", "(I)I"⟩, 56), (⟨"LineFlowModel", "after", "(II)I"⟩, 56), (⟨"LineFlowModel", "behind", "(II)I"⟩, 56), (⟨"LineFlowModel", "margins", "(I)V"⟩, 56), (⟨"LineFlowModel", "joins", "(I)Z"⟩, 56), (⟨"LineFlowModel", "isBlock", "(I)Z"⟩, 56), (⟨"LineFlowModel", "edges", "(I)I"⟩, 56), (⟨"LineFlowModel", "widen", "(I)V"⟩, 56), (⟨"LineFlowModel", "inner", "(I)I"⟩, 56), (⟨"LineFlowModel", "told", "(II)I"⟩, 56), (⟨"LineFlowModel", "oneLine", "(I)I"⟩, 56), (⟨"LineFlowModel", "split", "(I)V"⟩, 56), (⟨"LineFlowModel", "layBlock", "(I)V"⟩, 56), (⟨"LineFlowModel", "lineThing", "(I)V"⟩, 56)]
theorem lw_r3 : ∀ q ∈ lw_privs_3, lw_okq q := List.forall_mem_cons.mpr ⟨lw_p32, List.forall_mem_cons.mpr ⟨lw_p33, List.forall_mem_cons.mpr ⟨lw_p34, List.forall_mem_cons.mpr ⟨lw_p35, List.forall_mem_cons.mpr ⟨lw_p36, List.forall_mem_cons.mpr ⟨lw_p37, List.forall_mem_cons.mpr ⟨lw_p38, List.forall_mem_cons.mpr ⟨lw_p39, List.forall_mem_cons.mpr ⟨lw_p40, List.forall_mem_cons.mpr ⟨lw_p41, List.forall_mem_cons.mpr ⟨lw_p42, List.forall_mem_cons.mpr ⟨lw_p43, List.forall_mem_cons.mpr ⟨lw_p44, List.forall_mem_cons.mpr ⟨lw_p45, List.forall_mem_cons.mpr ⟨lw_p46, List.forall_mem_cons.mpr ⟨lw_p47, fun _ h => absurd h List.not_mem_nil⟩⟩⟩⟩⟩⟩⟩⟩⟩⟩⟩⟩⟩⟩⟩⟩
theorem lw_p48 : lw_okq (⟨"LineFlowModel", "putFloat", "(I)V"⟩, 56) := ⟨⟨by decide +kernel, by decide +kernel⟩, List.mem_of_getElem? (i := 764) (by decide +kernel), List.mem_of_getElem? (i := 1065) (by decide +kernel), List.mem_of_getElem? (i := 1066) (by decide +kernel)⟩
theorem lw_p49 : lw_okq (⟨"LineFlowModel", "edgesAt", "(I)V"⟩, 56) := ⟨⟨by decide +kernel, by decide +kernel⟩, List.mem_of_getElem? (i := 764) (by decide +kernel), List.mem_of_getElem? (i := 1069) (by decide +kernel), List.mem_of_getElem? (i := 1070) (by decide +kernel)⟩
theorem lw_p50 : lw_okq (⟨"LineFlowModel", "isFloatAt", "(II)Z"⟩, 56) := ⟨⟨by decide +kernel, by decide +kernel⟩, List.mem_of_getElem? (i := 764) (by decide +kernel), List.mem_of_getElem? (i := 1073) (by decide +kernel), List.mem_of_getElem? (i := 1074) (by decide +kernel)⟩
theorem lw_p51 : lw_okq (⟨"LineFlowModel", "leastEnd", "(I)I"⟩, 56) := ⟨⟨by decide +kernel, by decide +kernel⟩, List.mem_of_getElem? (i := 764) (by decide +kernel), List.mem_of_getElem? (i := 1077) (by decide +kernel), List.mem_of_getElem? (i := 1078) (by decide +kernel)⟩
theorem lw_p52 : lw_okq (⟨"LineFlowModel", "putItem", "(III)V"⟩, 56) := ⟨⟨by decide +kernel, by decide +kernel⟩, List.mem_of_getElem? (i := 764) (by decide +kernel), List.mem_of_getElem? (i := 1081) (by decide +kernel), List.mem_of_getElem? (i := 1082) (by decide +kernel)⟩
theorem lw_p53 : lw_okq (⟨"LineFlowModel", "itemHigh", "(I)I"⟩, 56) := ⟨⟨by decide +kernel, by decide +kernel⟩, List.mem_of_getElem? (i := 764) (by decide +kernel), List.mem_of_getElem? (i := 1085) (by decide +kernel), List.mem_of_getElem? (i := 1086) (by decide +kernel)⟩
theorem lw_p54 : lw_okq (⟨"LineFlowModel", "endLine", "()V"⟩, 56) := ⟨⟨by decide +kernel, by decide +kernel⟩, List.mem_of_getElem? (i := 764) (by decide +kernel), List.mem_of_getElem? (i := 1089) (by decide +kernel), List.mem_of_getElem? (i := 1090) (by decide +kernel)⟩
theorem lw_p55 : lw_okq (⟨"LineFlowModel", "lineText", "(I)V"⟩, 56) := ⟨⟨by decide +kernel, by decide +kernel⟩, List.mem_of_getElem? (i := 764) (by decide +kernel), List.mem_of_getElem? (i := 1093) (by decide +kernel), List.mem_of_getElem? (i := 1094) (by decide +kernel)⟩
theorem lw_p56 : lw_okq (⟨"LineFlowModel", "heightOf", "(II)I"⟩, 56) := ⟨⟨by decide +kernel, by decide +kernel⟩, List.mem_of_getElem? (i := 764) (by decide +kernel), List.mem_of_getElem? (i := 1097) (by decide +kernel), List.mem_of_getElem? (i := 1098) (by decide +kernel)⟩
theorem lw_p57 : lw_okq (⟨"LineFlowModel", "layFlex", "(I)V"⟩, 56) := ⟨⟨by decide +kernel, by decide +kernel⟩, List.mem_of_getElem? (i := 764) (by decide +kernel), List.mem_of_getElem? (i := 1101) (by decide +kernel), List.mem_of_getElem? (i := 1102) (by decide +kernel)⟩
def lw_privs_4 : List (MethodName × Nat) := [(⟨"LineFlowModel", "putFloat", "(I)V"⟩, 56), (⟨"LineFlowModel", "edgesAt", "(I)V"⟩, 56), (⟨"LineFlowModel", "isFloatAt", "(II)Z"⟩, 56), (⟨"LineFlowModel", "leastEnd", "(I)I"⟩, 56), (⟨"LineFlowModel", "putItem", "(III)V"⟩, 56), (⟨"LineFlowModel", "itemHigh", "(I)I"⟩, 56), (⟨"LineFlowModel", "endLine", "()V"⟩, 56), (⟨"LineFlowModel", "lineText", "(I)V"⟩, 56), (⟨"LineFlowModel", "heightOf", "(II)I"⟩, 56), (⟨"LineFlowModel", "layFlex", "(I)V"⟩, 56)]
theorem lw_r4 : ∀ q ∈ lw_privs_4, lw_okq q := List.forall_mem_cons.mpr ⟨lw_p48, List.forall_mem_cons.mpr ⟨lw_p49, List.forall_mem_cons.mpr ⟨lw_p50, List.forall_mem_cons.mpr ⟨lw_p51, List.forall_mem_cons.mpr ⟨lw_p52, List.forall_mem_cons.mpr ⟨lw_p53, List.forall_mem_cons.mpr ⟨lw_p54, List.forall_mem_cons.mpr ⟨lw_p55, List.forall_mem_cons.mpr ⟨lw_p56, List.forall_mem_cons.mpr ⟨lw_p57, fun _ h => absurd h List.not_mem_nil⟩⟩⟩⟩⟩⟩⟩⟩⟩⟩
def lw_privs : List (MethodName × Nat) := lw_privs_1 ++ (lw_privs_2 ++ (lw_privs_3 ++ (lw_privs_4)))
def lw_tbl : List Cond := k2_sels lw_privs ++ tables_1
theorem lw_privs_ok : ∀ q ∈ lw_privs, lw_okq q := by
  show ∀ q ∈ lw_privs_1 ++ (lw_privs_2 ++ (lw_privs_3 ++ (lw_privs_4))), lw_okq q
  exact List.forall_mem_append.mpr ⟨lw_r1, List.forall_mem_append.mpr ⟨lw_r2, List.forall_mem_append.mpr ⟨lw_r3, lw_r4⟩⟩⟩
end
section
/-! THE SMALL MACHINE: a machine over lists, the JVM's instructions as predicate transformers. What is shown of it (am_T) holds of the JVM (am_sim). -/
/-- a cell: an object (its class's number, its fields), or an array (its components' type, the components). Value.ref i is the i-th cell of the list, Value.retAddr j the j-th constant (an array that nobody writes) -/
abbrev am_E : Type := (Nat × List Value) ⊕ (FieldType × List Value)
abbrev am_H : Type := List am_E
/-- program counter, locals, operands, heap -/
abbrev am_F : Type := Nat × List (Option Value) × List Value × am_H
/-- a method: its class's number, its code, how many locals, what it returns, whether it is a constructor -/
abbrev am_I : Type := Nat × ByteArray × Nat × Option FieldType × Bool
/-- the tables: what a pool entry of a class is; the methods; the fields of the classes (type, final); the constants -/
abbrev am_B : Type := (Nat → Nat → Nat × Nat × Nat) × (Nat → Option am_I) × (Nat → Option (List (FieldType × Bool))) × (Nat → Option (FieldType × List Value))
abbrev am_C : Type := Nat → List Value → am_H → (Option Value → am_H → Prop) → Prop
def am_isR (v : Value) : Prop := v = .null ∨ (∃ a, v = .ref a) ∨ ∃ j, v = .retAddr j
def am_cmpR (v w : Value) : Prop := am_isR v ∧ am_isR w ∧ (v = w ∨ ¬ ∃ i j, v = .retAddr i ∧ w = .retAddr j)
def am_get (h : am_H) (c a k : Nat) : Option Value := match h[a]? with
  | some (.inl (c', fs)) => if c' = c then fs[k]? else none
  | _ => none
def am_put (h : am_H) (a k : Nat) (v : Value) : am_H := match h[a]? with
  | some (.inl (c', fs)) => h.set a (.inl (c', fs.set k v))
  | _ => h
/-- an array that can be read -/
def am_arr (B : am_B) (h : am_H) : Value → Option (FieldType × List Value)
  | .ref a => match h[a]? with
    | some (.inr x) => some x
    | _ => none
  | .retAddr j => B.2.2.2 j
  | _ => none
def am_fit : FieldType → Value → Bool
  | .int, .int _ => true
  | .boolean, .int x => x == 0 || x == 1
  | .object _, .null | .object _, .ref _ | .object _, .retAddr _ => true
  | .array _, .null | .array _, .ref _ | .array _, .retAddr _ => true
  | _, _ => false
/-- what a method may answer -/
def am_ans : Option FieldType → Option Value → Bool
  | none, none => true
  | some .int, some (.int _) => true
  | some .boolean, some (.int x) => x == 0 || x == 1
  | some (.object _), some .null | some (.object _), some (.ref _) | some (.object _), some (.retAddr _) => true
  | some (.array _), some .null | some (.array _), some (.ref _) | some (.array _), some (.retAddr _) => true
  | _, _ => false
def am_br (P : am_F → Prop) (pc : Nat) (ls : List (Option Value)) (st : List Value) (h : am_H) (off : Int) (C : Prop) : Prop :=
  ∃ tgt : Nat, (pc : Int) + off = (tgt : Int) ∧ (C → P (tgt, ls, st, h)) ∧ (¬ C → P (pc + 3, ls, st, h))
def am_c1 (P : am_F → Prop) (pc : Nat) (ls : List (Option Value)) (st : List Value) (h : am_H) (off : Int) (C : Int32 → Prop) : Prop :=
  ∃ x rest, st = .int x :: rest ∧ am_br P pc ls rest h off (C x)
def am_c2 (P : am_F → Prop) (pc : Nat) (ls : List (Option Value)) (st : List Value) (h : am_H) (off : Int) (C : Int32 → Int32 → Prop) : Prop :=
  ∃ x y rest, st = .int y :: .int x :: rest ∧ am_br P pc ls rest h off (C x y)
def am_b2 (P : am_F → Prop) (pc : Nat) (ls : List (Option Value)) (st : List Value) (h : am_H) (f : Int32 → Int32 → Int32) : Prop :=
  ∃ x y rest, st = .int y :: .int x :: rest ∧ P (pc + 1, ls, .int (f x y) :: rest, h)
def am_ald (B : am_B) (P : am_F → Prop) (pc : Nat) (ls : List (Option Value)) (st : List Value) (h : am_H) (ok : FieldType → Prop) : Prop :=
  ∃ j r rest ty vs v, st = .int j :: r :: rest ∧ am_arr B h r = some (ty, vs) ∧ ok ty ∧ ¬ j < 0 ∧ vs[j.toNatClampNeg]? = some v ∧ P (pc + 1, ls, v :: rest, h)
def am_ast (P : am_F → Prop) (pc : Nat) (ls : List (Option Value)) (st : List Value) (h : am_H) (ok : FieldType → Value → Value → Prop) : Prop :=
  ∃ w j a rest ty vs v, st = w :: .int j :: .ref a :: rest ∧ h[a]? = some (.inr (ty, vs)) ∧ ok ty w v ∧ ¬ j < 0 ∧ j.toNatClampNeg < vs.length ∧ P (pc + 1, ls, rest, h.set a (.inr (ty, vs.set j.toNatClampNeg v)))
/-- which class number may stand in an array of this type -/
def am_into (cn : Nat → String) (h : am_H) (ty : FieldType) (w v : Value) : Prop := v = w ∧ ∃ C, ty = .object C ∧ (w = .null ∨ ∃ b c fs, w = .ref b ∧ h[b]? = some (.inl (c, fs)) ∧ (cn c = C ∨ C = "java/lang/Object"))
/-- one instruction that stays in the method; T: what calls do; cn: the names of the numbered object kinds -/
def am_nx (B : am_B) (cn : Nat → String) (T : am_C) (I : am_I) (P : am_F → Prop) (pc : Nat) (ls : List (Option Value)) (st : List Value) (h : am_H) (i : Instr) (len : Nat) : Prop := match i with
  | .iconst n => P (pc + 1, ls, .int (Int32.ofInt n) :: st, h)
  | .bipush n => P (pc + 2, ls, .int (Int8.ofInt n).toInt32 :: st, h)
  | .sipush n => P (pc + 3, ls, .int (Int16.ofInt n).toInt32 :: st, h)
  | .ldc idx => len = 2 ∧ ∃ x y, B.1 I.1 idx = (12, x, y) ∧ P (pc + 2, ls, .int (Int32.ofNat x) :: st, h)
  | .aconst_null => P (pc + 1, ls, .null :: st, h)
  | .iload k => len = 2 ∧ ∃ x, ls[k]? = some (some (.int x)) ∧ P (pc + 2, ls, .int x :: st, h)
  | .iload_n k => ∃ x, ls[k.val]? = some (some (.int x)) ∧ P (pc + 1, ls, .int x :: st, h)
  | .aload k => len = 2 ∧ ∃ v, ls[k]? = some (some v) ∧ am_isR v ∧ P (pc + 2, ls, v :: st, h)
  | .aload_n k => ∃ v, ls[k.val]? = some (some v) ∧ am_isR v ∧ P (pc + 1, ls, v :: st, h)
  | .istore k => len = 2 ∧ ∃ x rest, st = .int x :: rest ∧ k < ls.length ∧ P (pc + 2, ls.set k (some (.int x)), rest, h)
  | .istore_n k => ∃ x rest, st = .int x :: rest ∧ k.val < ls.length ∧ P (pc + 1, ls.set k.val (some (.int x)), rest, h)
  | .astore k => len = 2 ∧ ∃ v rest, st = v :: rest ∧ am_isR v ∧ k < ls.length ∧ P (pc + 2, ls.set k (some v), rest, h)
  | .astore_n k => ∃ v rest, st = v :: rest ∧ am_isR v ∧ k.val < ls.length ∧ P (pc + 1, ls.set k.val (some v), rest, h)
  | .iinc k n => len = 3 ∧ ∃ x, ls[k]? = some (some (.int x)) ∧ P (pc + 3, ls.set k (some (.int (x + Int32.ofInt n))), st, h)
  | .iadd => am_b2 P pc ls st h (fun x y => x + y)
  | .isub => am_b2 P pc ls st h (fun x y => x - y)
  | .imul => am_b2 P pc ls st h (fun x y => x * y)
  | .iand => am_b2 P pc ls st h (fun x y => x &&& y)
  | .idiv => ∃ x y rest, st = .int y :: .int x :: rest ∧ ¬ y = 0 ∧ P (pc + 1, ls, .int (x / y) :: rest, h)
  | .ishr => am_b2 P pc ls st h (fun x y => x >>> (y &&& 31))
  | .iushr => am_b2 P pc ls st h (fun x y => (x.toUInt32 >>> (y.toUInt32 &&& Int32.toUInt32 31)).toInt32)
  | .i2b => ∃ x rest, st = .int x :: rest ∧ P (pc + 1, ls, .int x.toInt8.toInt32 :: rest, h)
  | .dup => ∃ v rest, st = v :: rest ∧ P (pc + 1, ls, v :: v :: rest, h)
  | .dup_x1 => ∃ v w rest, st = v :: w :: rest ∧ P (pc + 1, ls, v :: w :: v :: rest, h)
  | .dup2 => ∃ v w rest, st = v :: w :: rest ∧ P (pc + 1, ls, v :: w :: v :: w :: rest, h)
  | .pop => ∃ v rest, st = v :: rest ∧ P (pc + 1, ls, rest, h)
  | .goto off => ∃ tgt : Nat, (pc : Int) + off = (tgt : Int) ∧ P (tgt, ls, st, h)
  | .ifCond .eq off => am_c1 P pc ls st h off (fun x => x = 0)
  | .ifCond .ne off => am_c1 P pc ls st h off (fun x => ¬ x = 0)
  | .ifCond .lt off => am_c1 P pc ls st h off (fun x => x < 0)
  | .ifCond .ge off => am_c1 P pc ls st h off (fun x => 0 ≤ x)
  | .ifCond .gt off => am_c1 P pc ls st h off (fun x => 0 < x)
  | .ifCond .le off => am_c1 P pc ls st h off (fun x => x ≤ 0)
  | .if_icmp .eq off => am_c2 P pc ls st h off (fun x y => x = y)
  | .if_icmp .ne off => am_c2 P pc ls st h off (fun x y => ¬ x = y)
  | .if_icmp .lt off => am_c2 P pc ls st h off (fun x y => x < y)
  | .if_icmp .ge off => am_c2 P pc ls st h off (fun x y => y ≤ x)
  | .if_icmp .gt off => am_c2 P pc ls st h off (fun x y => y < x)
  | .if_icmp .le off => am_c2 P pc ls st h off (fun x y => x ≤ y)
  | .ifnull off => ∃ v rest, st = v :: rest ∧ am_isR v ∧ am_br P pc ls rest h off (v = .null)
  | .ifnonnull off => ∃ v rest, st = v :: rest ∧ am_isR v ∧ am_br P pc ls rest h off (¬ v = .null)
  | .if_acmp .eq off => ∃ v w rest, st = w :: v :: rest ∧ am_cmpR v w ∧ am_br P pc ls rest h off (v = w)
  | .if_acmp .ne off => ∃ v w rest, st = w :: v :: rest ∧ am_cmpR v w ∧ am_br P pc ls rest h off (¬ v = w)
  | .tableswitch dflt lo hi offs => ∃ x rest, st = .int x :: rest ∧ ∃ tgt : Nat, ((x.toInt < lo ∨ hi < x.toInt) ∧ (pc : Int) + dflt = (tgt : Int) ∨ ¬ x.toInt < lo ∧ ¬ hi < x.toInt ∧ ∃ off, offs[(x.toInt - lo).toNat]? = some off ∧ (pc : Int) + off = (tgt : Int)) ∧ P (tgt, ls, rest, h)
  | .lookupswitch dflt ps => ∃ x rest, st = .int x :: rest ∧ (ps.toList.zip (ps.toList.drop 1)).all (fun (a, next) => a.1 < next.1) = true ∧ ∃ tgt : Nat, (pc : Int) + Op.lookupswitch.offset ps.toList dflt x.toInt = (tgt : Int) ∧ P (tgt, ls, rest, h)
  | .getfield idx => ∃ a rest t c k v, st = .ref a :: rest ∧ B.1 I.1 idx = (t, c, k) ∧ (t = 1 ∨ t = 2) ∧ am_get h c a k = some v ∧ P (pc + 3, ls, v :: rest, h)
  | .putfield idx => ∃ a rest c k v w ts ty fin, st = v :: .ref a :: rest ∧ B.1 I.1 idx = (1, c, k) ∧ am_get h c a k = some w ∧ B.2.2.1 c = some ts ∧ ts[k]? = some (ty, fin) ∧ am_fit ty v = true ∧ (fin = true → I.2.2.2.2 = true ∧ c = I.1) ∧ P (pc + 3, ls, rest, am_put h a k v)
  | .getstatic idx => ∃ j y, B.1 I.1 idx = (3, j, y) ∧ P (pc + 3, ls, .retAddr j :: st, h)
  | .arraylength => ∃ r rest ty vs, st = r :: rest ∧ am_arr B h r = some (ty, vs) ∧ P (pc + 1, ls, .int (Int32.ofNat vs.length) :: rest, h)
  | .iaload => am_ald B P pc ls st h (fun ty => ty = .int)
  | .baload => am_ald B P pc ls st h (fun ty => ty = .byte ∨ ty = .boolean)
  | .aaload => am_ald B P pc ls st h (fun ty => ∃ C, ty = .object C)
  | .iastore => am_ast P pc ls st h (fun ty w v => ty = .int ∧ v = w ∧ ∃ x, w = .int x)
  | .bastore => am_ast P pc ls st h (fun ty w v => ∃ x, w = .int x ∧ (ty = .byte ∧ v = .int x.toInt8.toInt32 ∨ ty = .boolean ∧ v = .int (x &&& 1)))
  | .aastore => am_ast P pc ls st h (am_into cn h)
  | .new idx => ∃ c y ts, B.1 I.1 idx = (9, c, y) ∧ B.2.2.1 c = some ts ∧ P (pc + 3, ls, .ref h.length :: st, h ++ [.inl (c, ts.map (fun q => defaultValue q.1))])
  | .newarray at_ => ∃ n rest ty, st = .int n :: rest ∧ newarray.typeOf at_ = ty ∧ (ty = .int ∨ ty = .byte ∨ ty = .boolean) ∧ ¬ n < 0 ∧ n.toNatClampNeg ≤ 100000 ∧ P (pc + 2, ls, .ref h.length :: rest, h ++ [.inr (ty, List.replicate n.toNatClampNeg (.int 0))])
  | .anewarray idx => ∃ n rest c y, st = .int n :: rest ∧ B.1 I.1 idx = (10, c, y) ∧ ¬ n < 0 ∧ n.toNatClampNeg ≤ 100000 ∧ P (pc + 3, ls, .ref h.length :: rest, h ++ [.inr (.object (cn c), List.replicate n.toNatClampNeg .null)])
  | .checkcast idx => ∃ v rest c y, st = v :: rest ∧ B.1 I.1 idx = (11, c, y) ∧ (v = .null ∨ ∃ a fs, v = .ref a ∧ h[a]? = some (.inl (c, fs))) ∧ P (pc + 3, ls, v :: rest, h)
  | .invokevirtual idx => ∃ m n as b rest J fs, B.1 I.1 idx = (4, m, n) ∧ as.length = n ∧ st = as.reverse ++ .ref b :: rest ∧ rest.length ≤ 8 ∧ B.2.1 m = some J ∧ h[b]? = some (.inl (J.1, fs)) ∧ T m (.ref b :: as) h (fun v h' => P (pc + 3, ls, v.toList ++ rest, h'))
  | .invokestatic idx => ∃ m n as rest, B.1 I.1 idx = (5, m, n) ∧ as.length = n ∧ st = as.reverse ++ rest ∧ rest.length ≤ 8 ∧ T m as h (fun v h' => P (pc + 3, ls, v.toList ++ rest, h'))
  | .invokespecial idx => (∃ a rest x y, B.1 I.1 idx = (8, x, y) ∧ st = .ref a :: rest ∧ rest.length ≤ 8 ∧ P (pc + 3, ls, rest, h)) ∨
      ∃ t m n as b rest, B.1 I.1 idx = (t, m, n) ∧ (t = 6 ∨ t = 7) ∧ as.length = n ∧ st = as.reverse ++ .ref b :: rest ∧ rest.length ≤ 8 ∧ T m (.ref b :: as) h (fun v h' => v = none ∧ P (pc + 3, ls, rest, h'))
  | _ => False
/-- one instruction that ends the method -/
def am_re (Q : Option Value → am_H → Prop) (I : am_I) (st : List Value) (h : am_H) (i : Instr) : Prop :=
  ∃ v : Option Value, st = v.toList ∧ am_ans I.2.2.2.1 v = true ∧ Q v h ∧ (i = .return_ ∧ v = none ∨ (i = .ireturn ∧ ∃ x, v = some (.int x)) ∨ i = .areturn ∧ ∃ r, v = some r ∧ am_isR r)
def am_ok (B : am_B) (cn : Nat → String) (T : am_C) (Q : Option Value → am_H → Prop) (I : am_I) (P : am_F → Prop) (F : am_F) : Prop :=
  ∃ (i : Instr) (len : Nat), decode I.2.1 F.1 = .ok (i, len) ∧ (am_nx B cn T I P F.1 F.2.1 F.2.2.1 F.2.2.2 i len ∨ am_re Q I F.2.2.1 F.2.2.2 i)
/-- from here the method ends with Q: the least predicate that is closed under the instructions -/
def am_wp (B : am_B) (cn : Nat → String) (T : am_C) (Q : Option Value → am_H → Prop) (I : am_I) (F : am_F) : Prop :=
  ∀ P : am_F → Prop, (∀ F, am_ok B cn T Q I P F → P F) → P F
/-- a call of method m, at most d deep, ends with Q -/
def am_T (B : am_B) (cn : Nat → String) : Nat → am_C
  | 0 => fun _ _ _ _ => False
  | d + 1 => fun m as h Q => ∃ I : am_I, B.2.1 m = some I ∧ as.length ≤ I.2.2.1 ∧ am_wp B cn (am_T B cn d) Q I (0, as.map some ++ List.replicate (I.2.2.1 - as.length) none, [], h)
theorem am_re_mono {Q Q' : Option Value → am_H → Prop} {I : am_I} {st : List Value} {h : am_H} {i : Instr} (hQ : ∀ v h, Q v h → Q' v h) (hr : am_re Q I st h i) : am_re Q' I st h i := by
  obtain ⟨v, h1, h2, h3, h4⟩ := hr
  exact ⟨v, h1, h2, hQ _ _ h3, h4⟩
theorem am_wp_mono {B : am_B} {cn : Nat → String} {T : am_C} {Q Q' : Option Value → am_H → Prop} {I : am_I} {F : am_F} (hQ : ∀ v h, Q v h → Q' v h) (hw : am_wp B cn T Q I F) : am_wp B cn T Q' I F := by
  intro P hP
  refine hw P (fun F' hF => hP F' ?_)
  obtain ⟨i, len, hd, h⟩ := hF
  exact ⟨i, len, hd, h.imp id (am_re_mono hQ)⟩
theorem am_T_mono {B : am_B} {cn : Nat → String} {d m : Nat} {as : List Value} {h : am_H} {Q Q' : Option Value → am_H → Prop} (hQ : ∀ v h, Q v h → Q' v h) (ht : am_T B cn d m as h Q) : am_T B cn d m as h Q' := by
  cases d with
  | zero => exact ht
  | succ d =>
    obtain ⟨I, h1, h2, h3⟩ := ht
    exact ⟨I, h1, h2, am_wp_mono hQ h3⟩
end
