set_option maxRecDepth 100000 in
theorem am_q0 : Cond.code ⟨"LineFlow", "<init>", "()V"⟩ prog_1_method_1_code 1 (none) ∈ am_ts := List.mem_filter.mpr ⟨List.mem_of_getElem? (i := 83) rfl, rfl⟩
set_option maxRecDepth 100000 in
theorem am_q1 : Cond.code ⟨"LineFlow$Layout", "<init>", "()V"⟩ prog_5_method_1_code 2 (none) ∈ am_ts := List.mem_filter.mpr ⟨List.mem_of_getElem? (i := 93) rfl, rfl⟩
set_option maxRecDepth 100000 in
theorem am_q2 : Cond.code ⟨"java/util/ArrayList", "<init>", "()V"⟩ prog_20_method_2_code 1 (none) ∈ am_ts := List.mem_filter.mpr ⟨List.mem_of_getElem? (i := 99) rfl, rfl⟩
set_option maxRecDepth 100000 in
theorem am_q3 : Cond.code ⟨"java/util/AbstractList", "<init>", "()V"⟩ prog_19_method_1_code 1 (none) ∈ am_ts := List.mem_filter.mpr ⟨List.mem_of_getElem? (i := 102) rfl, rfl⟩
set_option maxRecDepth 100000 in
theorem am_q4 : Cond.code ⟨"java/util/AbstractCollection", "<init>", "()V"⟩ prog_18_method_1_code 1 (none) ∈ am_ts := List.mem_filter.mpr ⟨List.mem_of_getElem? (i := 105) rfl, rfl⟩
set_option maxRecDepth 100000 in
theorem am_q5 : Cond.code ⟨"LineFlow$Ruler", "<init>", "()V"⟩ prog_9_method_1_code 1 (none) ∈ am_ts := List.mem_filter.mpr ⟨List.mem_of_getElem? (i := 128) rfl, rfl⟩
set_option maxRecDepth 100000 in
theorem am_q6 : Cond.code ⟨"LineFlow$Flow", "<init>", "()V"⟩ prog_4_method_1_code 1 (none) ∈ am_ts := List.mem_filter.mpr ⟨List.mem_of_getElem? (i := 140) rfl, rfl⟩
set_option maxRecDepth 100000 in
theorem am_q7 : Cond.code ⟨"LineFlow$Floats", "<init>", "()V"⟩ prog_3_method_1_code 1 (none) ∈ am_ts := List.mem_filter.mpr ⟨List.mem_of_getElem? (i := 146) rfl, rfl⟩
set_option maxRecDepth 100000 in
theorem am_q8 : Cond.code ⟨"LineFlow$Line", "<init>", "()V"⟩ prog_6_method_1_code 1 (none) ∈ am_ts := List.mem_filter.mpr ⟨List.mem_of_getElem? (i := 174) rfl, rfl⟩
set_option maxRecDepth 100000 in
theorem am_q9 : Cond.code ⟨"LineFlow", "plantRoot", "()V"⟩ prog_1_method_14_code 2 (none) ∈ am_ts := List.mem_filter.mpr ⟨List.mem_of_getElem? (i := 253) rfl, rfl⟩
set_option maxRecDepth 100000 in
theorem am_q10 : Cond.code ⟨"LineFlow$Node", "<init>", "(IILLineFlow$Node;)V"⟩ prog_8_method_1_code 4 (none) ∈ am_ts := List.mem_filter.mpr ⟨List.mem_of_getElem? (i := 257) rfl, rfl⟩
set_option maxRecDepth 100000 in
theorem am_q11 : Cond.code ⟨"LineFlow$Box", "<init>", "()V"⟩ prog_2_method_1_code 1 (none) ∈ am_ts := List.mem_filter.mpr ⟨List.mem_of_getElem? (i := 265) rfl, rfl⟩
set_option maxRecDepth 100000 in
theorem am_q12 : Cond.code ⟨"LineFlow", "feed", "(IIIII)I"⟩ prog_1_method_2_code 6 (some FieldType.int) ∈ am_ts := List.mem_filter.mpr ⟨List.mem_of_getElem? (i := 398) rfl, rfl⟩
set_option maxRecDepth 100000 in
theorem am_q13 : Cond.code ⟨"LineFlow", "putOnTape", "(I)V"⟩ prog_1_method_15_code 3 (none) ∈ am_ts := List.mem_filter.mpr ⟨List.mem_of_getElem? (i := 402) rfl, rfl⟩
set_option maxRecDepth 100000 in
theorem am_q14 : Cond.code ⟨"LineFlow", "end", "(I)I"⟩ prog_1_method_3_code 2 (some FieldType.int) ∈ am_ts := List.mem_filter.mpr ⟨List.mem_of_getElem? (i := 406) rfl, rfl⟩
set_option maxRecDepth 100000 in
theorem am_q15 : Cond.code ⟨"LineFlow", "clear", "()V"⟩ prog_1_method_4_code 1 (none) ∈ am_ts := List.mem_filter.mpr ⟨List.mem_of_getElem? (i := 410) rfl, rfl⟩
set_option maxRecDepth 100000 in
theorem am_q16 : Cond.code ⟨"LineFlow$Layout", "forgetWords", "()V"⟩ prog_5_method_2_code 1 (none) ∈ am_ts := List.mem_filter.mpr ⟨List.mem_of_getElem? (i := 414) rfl, rfl⟩
set_option maxRecDepth 100000 in
theorem am_q17 : Cond.code ⟨"LineFlow", "node", "(II)I"⟩ prog_1_method_5_code 5 (some FieldType.int) ∈ am_ts := List.mem_filter.mpr ⟨List.mem_of_getElem? (i := 418) rfl, rfl⟩
set_option maxRecDepth 100000 in
theorem am_q18 : Cond.code ⟨"LineFlow", "elementAt", "(I)LLineFlow$Node;"⟩ prog_1_method_17_code 3 (some (FieldType.object "LineFlow$Node")) ∈ am_ts := List.mem_filter.mpr ⟨List.mem_of_getElem? (i := 422) rfl, rfl⟩
set_option maxRecDepth 100000 in
theorem am_q19 : Cond.code ⟨"LineFlow", "nodeAt", "(I)LLineFlow$Node;"⟩ prog_1_method_16_code 2 (some (FieldType.object "LineFlow$Node")) ∈ am_ts := List.mem_filter.mpr ⟨List.mem_of_getElem? (i := 426) rfl, rfl⟩
set_option maxRecDepth 100000 in
theorem am_q20 : Cond.code ⟨"LineFlow$Node", "append", "(LLineFlow$Node;)V"⟩ prog_8_method_2_code 2 (none) ∈ am_ts := List.mem_filter.mpr ⟨List.mem_of_getElem? (i := 430) rfl, rfl⟩
set_option maxRecDepth 100000 in
theorem am_q21 : Cond.code ⟨"LineFlow", "text", "(I)I"⟩ prog_1_method_6_code 3 (some FieldType.int) ∈ am_ts := List.mem_filter.mpr ⟨List.mem_of_getElem? (i := 434) rfl, rfl⟩
set_option maxRecDepth 100000 in
theorem am_q22 : Cond.code ⟨"java/util/Arrays", "copyOf", "([BI)[B"⟩ prog_21_method_121_code 3 (some (FieldType.array FieldType.byte)) ∈ am_ts := List.mem_filter.mpr ⟨List.mem_of_getElem? (i := 437) rfl, rfl⟩
set_option maxRecDepth 100000 in
theorem am_q23 : Cond.code ⟨"LineFlow", "set", "(III)I"⟩ prog_1_method_7_code 6 (some FieldType.int) ∈ am_ts := List.mem_filter.mpr ⟨List.mem_of_getElem? (i := 454) rfl, rfl⟩
set_option maxRecDepth 100000 in
theorem am_q24 : Cond.code ⟨"LineFlow", "mayHave", "(LLineFlow$Node;II)Z"⟩ prog_1_method_18_code 3 (some FieldType.boolean) ∈ am_ts := List.mem_filter.mpr ⟨List.mem_of_getElem? (i := 457) rfl, rfl⟩
set_option maxRecDepth 100000 in
theorem am_q25 : Cond.code ⟨"LineFlow", "mayDisplay", "(LLineFlow$Node;I)Z"⟩ prog_1_method_19_code 2 (some FieldType.boolean) ∈ am_ts := List.mem_filter.mpr ⟨List.mem_of_getElem? (i := 460) rfl, rfl⟩
set_option maxRecDepth 100000 in
theorem am_q26 : Cond.code ⟨"LineFlow", "within", "(III)Z"⟩ prog_1_method_21_code 3 (some FieldType.boolean) ∈ am_ts := List.mem_filter.mpr ⟨List.mem_of_getElem? (i := 463) rfl, rfl⟩
set_option maxRecDepth 100000 in
theorem am_q27 : Cond.code ⟨"LineFlow", "mayFloat", "(LLineFlow$Node;)Z"⟩ prog_1_method_20_code 1 (some FieldType.boolean) ∈ am_ts := List.mem_filter.mpr ⟨List.mem_of_getElem? (i := 466) rfl, rfl⟩
set_option maxRecDepth 100000 in
theorem am_q28 : Cond.code ⟨"LineFlow", "lay", "(I)I"⟩ prog_1_method_8_code 3 (some FieldType.int) ∈ am_ts := List.mem_filter.mpr ⟨List.mem_of_getElem? (i := 470) rfl, rfl⟩
set_option maxRecDepth 100000 in
theorem am_q29 : Cond.code ⟨"LineFlow$Layout", "layRoot", "(LLineFlow$Node;I)V"⟩ prog_5_method_4_code 3 (none) ∈ am_ts := List.mem_filter.mpr ⟨List.mem_of_getElem? (i := 474) rfl, rfl⟩
set_option maxRecDepth 100000 in
theorem am_q30 : Cond.code ⟨"LineFlow$Layout", "prepare", "(LLineFlow$Node;I)V"⟩ prog_5_method_5_code 5 (none) ∈ am_ts := List.mem_filter.mpr ⟨List.mem_of_getElem? (i := 478) rfl, rfl⟩
set_option maxRecDepth 100000 in
theorem am_q31 : Cond.code ⟨"LineFlow$Layout", "listWords", "(LLineFlow$Node;)V"⟩ prog_5_method_7_code 5 (none) ∈ am_ts := List.mem_filter.mpr ⟨List.mem_of_getElem? (i := 482) rfl, rfl⟩
set_option maxRecDepth 100000 in
theorem am_q32 : Cond.code ⟨"LineFlow$Ruler", "isBlank", "(B)Z"⟩ prog_9_method_2_code 1 (some FieldType.boolean) ∈ am_ts := List.mem_filter.mpr ⟨List.mem_of_getElem? (i := 485) rfl, rfl⟩
set_option maxRecDepth 100000 in
theorem am_q33 : Cond.code ⟨"LineFlow$Ruler", "glyphWidth", "(B)I"⟩ prog_9_method_3_code 1 (some FieldType.int) ∈ am_ts := List.mem_filter.mpr ⟨List.mem_of_getElem? (i := 488) rfl, rfl⟩
set_option maxRecDepth 100000 in
theorem am_q34 : Cond.code ⟨"LineFlow$Layout", "listWord", "(LLineFlow$Node;III)V"⟩ prog_5_method_8_code 6 (none) ∈ am_ts := List.mem_filter.mpr ⟨List.mem_of_getElem? (i := 492) rfl, rfl⟩
set_option maxRecDepth 100000 in
theorem am_q35 : Cond.code ⟨"java/util/ArrayList", "size", "()I"⟩ prog_20_method_8_code 1 (some FieldType.int) ∈ am_ts := List.mem_filter.mpr ⟨List.mem_of_getElem? (i := 496) rfl, rfl⟩
set_option maxRecDepth 100000 in
theorem am_q36 : Cond.code ⟨"LineFlow$Word", "<init>", "()V"⟩ prog_10_method_1_code 1 (none) ∈ am_ts := List.mem_filter.mpr ⟨List.mem_of_getElem? (i := 501) rfl, rfl⟩
set_option maxRecDepth 100000 in
theorem am_q37 : Cond.code ⟨"java/util/ArrayList", "add", "(Ljava/lang/Object;)Z"⟩ prog_20_method_25_code 2 (some FieldType.boolean) ∈ am_ts := List.mem_filter.mpr ⟨List.mem_of_getElem? (i := 526) rfl, rfl⟩
set_option maxRecDepth 100000 in
theorem am_q38 : Cond.code ⟨"java/util/ArrayList", "add", "(Ljava/lang/Object;[Ljava/lang/Object;I)V"⟩ prog_20_method_24_code 4 (none) ∈ am_ts := List.mem_filter.mpr ⟨List.mem_of_getElem? (i := 530) rfl, rfl⟩
set_option maxRecDepth 100000 in
theorem am_q39 : Cond.code ⟨"java/util/ArrayList", "grow", "()[Ljava/lang/Object;"⟩ prog_20_method_7_code 1 (some (FieldType.array (FieldType.object "java/lang/Object"))) ∈ am_ts := List.mem_filter.mpr ⟨List.mem_of_getElem? (i := 534) rfl, rfl⟩
theorem am_qs0 : ∀ q ∈ am_mt0, Cond.code q.1 q.2.2.1 q.2.2.2.1 q.2.2.2.2.1 ∈ am_ts := List.forall_mem_cons.mpr ⟨am_q0, List.forall_mem_cons.mpr ⟨am_q1, List.forall_mem_cons.mpr ⟨am_q2, List.forall_mem_cons.mpr ⟨am_q3, List.forall_mem_cons.mpr ⟨am_q4, List.forall_mem_cons.mpr ⟨am_q5, List.forall_mem_cons.mpr ⟨am_q6, List.forall_mem_cons.mpr ⟨am_q7, List.forall_mem_cons.mpr ⟨am_q8, List.forall_mem_cons.mpr ⟨am_q9, List.forall_mem_cons.mpr ⟨am_q10, List.forall_mem_cons.mpr ⟨am_q11, List.forall_mem_cons.mpr ⟨am_q12, List.forall_mem_cons.mpr ⟨am_q13, List.forall_mem_cons.mpr ⟨am_q14, List.forall_mem_cons.mpr ⟨am_q15, List.forall_mem_cons.mpr ⟨am_q16, List.forall_mem_cons.mpr ⟨am_q17, List.forall_mem_cons.mpr ⟨am_q18, List.forall_mem_cons.mpr ⟨am_q19, List.forall_mem_cons.mpr ⟨am_q20, List.forall_mem_cons.mpr ⟨am_q21, List.forall_mem_cons.mpr ⟨am_q22, List.forall_mem_cons.mpr ⟨am_q23, List.forall_mem_cons.mpr ⟨am_q24, List.forall_mem_cons.mpr ⟨am_q25, List.forall_mem_cons.mpr ⟨am_q26, List.forall_mem_cons.mpr ⟨am_q27, List.forall_mem_cons.mpr ⟨am_q28, List.forall_mem_cons.mpr ⟨am_q29, List.forall_mem_cons.mpr ⟨am_q30, List.forall_mem_cons.mpr ⟨am_q31, List.forall_mem_cons.mpr ⟨am_q32, List.forall_mem_cons.mpr ⟨am_q33, List.forall_mem_cons.mpr ⟨am_q34, List.forall_mem_cons.mpr ⟨am_q35, List.forall_mem_cons.mpr ⟨am_q36, List.forall_mem_cons.mpr ⟨am_q37, List.forall_mem_cons.mpr ⟨am_q38, List.forall_mem_cons.mpr ⟨am_q39, (fun _ h => (List.not_mem_nil h).elim)⟩⟩⟩⟩⟩⟩⟩⟩⟩⟩⟩⟩⟩⟩⟩⟩⟩⟩⟩⟩⟩⟩⟩⟩⟩⟩⟩⟩⟩⟩⟩⟩⟩⟩⟩⟩⟩⟩⟩⟩
set_option maxRecDepth 100000 in
theorem am_q40 : Cond.code ⟨"java/util/ArrayList", "grow", "(I)[Ljava/lang/Object;"⟩ prog_20_method_6_code 4 (some (FieldType.array (FieldType.object "java/lang/Object"))) ∈ am_ts := List.mem_filter.mpr ⟨List.mem_of_getElem? (i := 538) rfl, rfl⟩
set_option maxRecDepth 100000 in
theorem am_q41 : Cond.code ⟨"jdk/internal/util/ArraysSupport", "newLength", "(III)I"⟩ prog_27_method_27_code 4 (some FieldType.int) ∈ am_ts := List.mem_filter.mpr ⟨List.mem_of_getElem? (i := 541) rfl, rfl⟩
set_option maxRecDepth 100000 in
theorem am_q42 : Cond.code ⟨"jdk/internal/util/ArraysSupport", "hugeLength", "(II)I"⟩ prog_27_method_28_code 3 (some FieldType.int) ∈ am_ts := List.mem_filter.mpr ⟨List.mem_of_getElem? (i := 548) rfl, rfl⟩
set_option maxRecDepth 100000 in
theorem am_q43 : Cond.code ⟨"java/util/Arrays", "copyOf", "([Ljava/lang/Object;I)[Ljava/lang/Object;"⟩ prog_21_method_119_code 2 (some (FieldType.array (FieldType.object "java/lang/Object"))) ∈ am_ts := List.mem_filter.mpr ⟨List.mem_of_getElem? (i := 551) rfl, rfl⟩
set_option maxRecDepth 100000 in
theorem am_q44 : Cond.code ⟨"java/util/Arrays", "copyOf", "([Ljava/lang/Object;ILjava/lang/Class;)[Ljava/lang/Object;"⟩ prog_21_method_120_code 4 (some (FieldType.array (FieldType.object "java/lang/Object"))) ∈ am_ts := List.mem_filter.mpr ⟨List.mem_of_getElem? (i := 569) rfl, rfl⟩
set_option maxRecDepth 100000 in
theorem am_q45 : Cond.code ⟨"LineFlow$Layout", "wordAt", "(I)LLineFlow$Word;"⟩ prog_5_method_3_code 2 (some (FieldType.object "LineFlow$Word")) ∈ am_ts := List.mem_filter.mpr ⟨List.mem_of_getElem? (i := 578) rfl, rfl⟩
set_option maxRecDepth 100000 in
theorem am_q46 : Cond.code ⟨"java/util/ArrayList", "get", "(I)Ljava/lang/Object;"⟩ prog_20_method_20_code 2 (some (FieldType.object "java/lang/Object")) ∈ am_ts := List.mem_filter.mpr ⟨List.mem_of_getElem? (i := 582) rfl, rfl⟩
set_option maxRecDepth 100000 in
theorem am_q47 : Cond.code ⟨"java/util/Objects", "checkIndex", "(II)I"⟩ prog_24_method_17_code 2 (some FieldType.int) ∈ am_ts := List.mem_filter.mpr ⟨List.mem_of_getElem? (i := 585) rfl, rfl⟩
set_option maxRecDepth 100000 in
theorem am_q48 : Cond.code ⟨"jdk/internal/util/Preconditions", "checkIndex", "(IILjava/util/function/BiFunction;)I"⟩ prog_28_method_11_code 3 (some FieldType.int) ∈ am_ts := List.mem_filter.mpr ⟨List.mem_of_getElem? (i := 588) rfl, rfl⟩
set_option maxRecDepth 100000 in
theorem am_q49 : Cond.code ⟨"java/util/ArrayList", "elementData", "(I)Ljava/lang/Object;"⟩ prog_20_method_18_code 2 (some (FieldType.object "java/lang/Object")) ∈ am_ts := List.mem_filter.mpr ⟨List.mem_of_getElem? (i := 592) rfl, rfl⟩
set_option maxRecDepth 100000 in
theorem am_q50 : Cond.code ⟨"LineFlow$Layout", "roleWithin", "(LLineFlow$Node;I)I"⟩ prog_5_method_6_code 3 (some FieldType.int) ∈ am_ts := List.mem_filter.mpr ⟨List.mem_of_getElem? (i := 595) rfl, rfl⟩
set_option maxRecDepth 100000 in
theorem am_q51 : Cond.code ⟨"LineFlow$Layout", "layElement", "(LLineFlow$Node;III)V"⟩ prog_5_method_9_code 7 (none) ∈ am_ts := List.mem_filter.mpr ⟨List.mem_of_getElem? (i := 599) rfl, rfl⟩
set_option maxRecDepth 100000 in
theorem am_q52 : Cond.code ⟨"LineFlow$Flow", "begin", "(LLineFlow$Node;)V"⟩ prog_4_method_2_code 2 (none) ∈ am_ts := List.mem_filter.mpr ⟨List.mem_of_getElem? (i := 603) rfl, rfl⟩
set_option maxRecDepth 100000 in
theorem am_q53 : Cond.code ⟨"LineFlow$Node", "frame", "()I"⟩ prog_8_method_3_code 1 (some FieldType.int) ∈ am_ts := List.mem_filter.mpr ⟨List.mem_of_getElem? (i := 607) rfl, rfl⟩
set_option maxRecDepth 100000 in
theorem am_q54 : Cond.code ⟨"LineFlow$Floats", "begin", "(III)V"⟩ prog_3_method_2_code 4 (none) ∈ am_ts := List.mem_filter.mpr ⟨List.mem_of_getElem? (i := 612) rfl, rfl⟩
set_option maxRecDepth 100000 in
theorem am_q55 : Cond.code ⟨"LineFlow$Line", "drop", "()V"⟩ prog_6_method_3_code 1 (none) ∈ am_ts := List.mem_filter.mpr ⟨List.mem_of_getElem? (i := 616) rfl, rfl⟩
set_option maxRecDepth 100000 in
theorem am_q56 : Cond.code ⟨"LineFlow$Layout", "layRow", "(LLineFlow$Flow;)I"⟩ prog_5_method_10_code 7 (some FieldType.int) ∈ am_ts := List.mem_filter.mpr ⟨List.mem_of_getElem? (i := 620) rfl, rfl⟩
set_option maxRecDepth 100000 in
theorem am_q57 : Cond.code ⟨"LineFlow$Layout", "measurePiece", "(LLineFlow$Node;I)V"⟩ prog_5_method_18_code 4 (none) ∈ am_ts := List.mem_filter.mpr ⟨List.mem_of_getElem? (i := 624) rfl, rfl⟩
set_option maxRecDepth 100000 in
theorem am_q58 : Cond.code ⟨"LineFlow$Node", "toldWidth", "(II)I"⟩ prog_8_method_4_code 4 (some FieldType.int) ∈ am_ts := List.mem_filter.mpr ⟨List.mem_of_getElem? (i := 628) rfl, rfl⟩
set_option maxRecDepth 100000 in
theorem am_q59 : Cond.code ⟨"LineFlow$Layout", "textWidth", "(LLineFlow$Node;)I"⟩ prog_5_method_16_code 2 (some FieldType.int) ∈ am_ts := List.mem_filter.mpr ⟨List.mem_of_getElem? (i := 632) rfl, rfl⟩
set_option maxRecDepth 100000 in
theorem am_q60 : Cond.code ⟨"LineFlow$Ruler", "oneLine", "(LLineFlow$Node;)I"⟩ prog_9_method_4_code 2 (some FieldType.int) ∈ am_ts := List.mem_filter.mpr ⟨List.mem_of_getElem? (i := 636) rfl, rfl⟩
set_option maxRecDepth 100000 in
theorem am_q61 : Cond.code ⟨"LineFlow$Ruler", "addTexts", "(LLineFlow$Node;)V"⟩ prog_9_method_5_code 3 (none) ∈ am_ts := List.mem_filter.mpr ⟨List.mem_of_getElem? (i := 640) rfl, rfl⟩
set_option maxRecDepth 100000 in
theorem am_q62 : Cond.code ⟨"LineFlow$Ruler", "addBytes", "([B)V"⟩ prog_9_method_6_code 6 (none) ∈ am_ts := List.mem_filter.mpr ⟨List.mem_of_getElem? (i := 644) rfl, rfl⟩
set_option maxRecDepth 100000 in
theorem am_q63 : Cond.code ⟨"LineFlow$Node", "framedWidth", "(II)I"⟩ prog_8_method_5_code 3 (some FieldType.int) ∈ am_ts := List.mem_filter.mpr ⟨List.mem_of_getElem? (i := 651) rfl, rfl⟩
set_option maxRecDepth 100000 in
theorem am_q64 : Cond.code ⟨"LineFlow$Layout", "layDown", "(LLineFlow$Flow;)I"⟩ prog_5_method_11_code 4 (some FieldType.int) ∈ am_ts := List.mem_filter.mpr ⟨List.mem_of_getElem? (i := 659) rfl, rfl⟩
set_option maxRecDepth 100000 in
theorem am_q65 : Cond.code ⟨"LineFlow$Layout", "addFloat", "(LLineFlow$Flow;LLineFlow$Node;)V"⟩ prog_5_method_14_code 3 (none) ∈ am_ts := List.mem_filter.mpr ⟨List.mem_of_getElem? (i := 663) rfl, rfl⟩
set_option maxRecDepth 100000 in
theorem am_q66 : Cond.code ⟨"LineFlow$Flow", "beginLines", "()V"⟩ prog_4_method_3_code 1 (none) ∈ am_ts := List.mem_filter.mpr ⟨List.mem_of_getElem? (i := 667) rfl, rfl⟩
set_option maxRecDepth 100000 in
theorem am_q67 : Cond.code ⟨"LineFlow$Line", "isEmpty", "()Z"⟩ prog_6_method_2_code 1 (some FieldType.boolean) ∈ am_ts := List.mem_filter.mpr ⟨List.mem_of_getElem? (i := 671) rfl, rfl⟩
set_option maxRecDepth 100000 in
theorem am_q68 : Cond.code ⟨"LineFlow$Layout", "putFloat", "(LLineFlow$Flow;LLineFlow$Node;)V"⟩ prog_5_method_15_code 9 (none) ∈ am_ts := List.mem_filter.mpr ⟨List.mem_of_getElem? (i := 675) rfl, rfl⟩
set_option maxRecDepth 100000 in
theorem am_q69 : Cond.code ⟨"LineFlow$Floats", "roomFor", "(II)I"⟩ prog_3_method_6_code 6 (some FieldType.int) ∈ am_ts := List.mem_filter.mpr ⟨List.mem_of_getElem? (i := 680) rfl, rfl⟩
set_option maxRecDepth 100000 in
theorem am_q70 : Cond.code ⟨"LineFlow$Floats", "leastEndAt", "(I)I"⟩ prog_3_method_7_code 4 (some FieldType.int) ∈ am_ts := List.mem_filter.mpr ⟨List.mem_of_getElem? (i := 684) rfl, rfl⟩
set_option maxRecDepth 100000 in
theorem am_q71 : Cond.code ⟨"LineFlow$Floats", "isAt", "(LLineFlow$Node;I)Z"⟩ prog_3_method_8_code 2 (some FieldType.boolean) ∈ am_ts := List.mem_filter.mpr ⟨List.mem_of_getElem? (i := 687) rfl, rfl⟩
set_option maxRecDepth 100000 in
theorem am_q72 : Cond.code ⟨"LineFlow$Floats", "topOf", "(LLineFlow$Node;)I"⟩ prog_3_method_9_code 1 (some FieldType.int) ∈ am_ts := List.mem_filter.mpr ⟨List.mem_of_getElem? (i := 690) rfl, rfl⟩
set_option maxRecDepth 100000 in
theorem am_q73 : Cond.code ⟨"LineFlow$Floats", "endOf", "(LLineFlow$Node;)I"⟩ prog_3_method_10_code 1 (some FieldType.int) ∈ am_ts := List.mem_filter.mpr ⟨List.mem_of_getElem? (i := 693) rfl, rfl⟩
set_option maxRecDepth 100000 in
theorem am_q74 : Cond.code ⟨"LineFlow$Floats", "rightAt", "(I)I"⟩ prog_3_method_5_code 4 (some FieldType.int) ∈ am_ts := List.mem_filter.mpr ⟨List.mem_of_getElem? (i := 697) rfl, rfl⟩
set_option maxRecDepth 100000 in
theorem am_q75 : Cond.code ⟨"LineFlow$Floats", "leftAt", "(I)I"⟩ prog_3_method_4_code 4 (some FieldType.int) ∈ am_ts := List.mem_filter.mpr ⟨List.mem_of_getElem? (i := 702) rfl, rfl⟩
set_option maxRecDepth 100000 in
theorem am_q76 : Cond.code ⟨"LineFlow$Floats", "add", "(LLineFlow$Node;)V"⟩ prog_3_method_3_code 2 (none) ∈ am_ts := List.mem_filter.mpr ⟨List.mem_of_getElem? (i := 709) rfl, rfl⟩
set_option maxRecDepth 100000 in
theorem am_q77 : Cond.code ⟨"LineFlow$Flow", "await", "(LLineFlow$Node;)V"⟩ prog_4_method_4_code 2 (none) ∈ am_ts := List.mem_filter.mpr ⟨List.mem_of_getElem? (i := 713) rfl, rfl⟩
set_option maxRecDepth 100000 in
theorem am_q78 : Cond.code ⟨"LineFlow$Layout", "addInline", "(LLineFlow$Flow;LLineFlow$Node;)V"⟩ prog_5_method_17_code 3 (none) ∈ am_ts := List.mem_filter.mpr ⟨List.mem_of_getElem? (i := 717) rfl, rfl⟩
set_option maxRecDepth 100000 in
theorem am_q79 : Cond.code ⟨"LineFlow$Layout", "addWords", "(LLineFlow$Flow;LLineFlow$Node;)V"⟩ prog_5_method_19_code 5 (none) ∈ am_ts := List.mem_filter.mpr ⟨List.mem_of_getElem? (i := 721) rfl, rfl⟩
theorem am_qs1 : ∀ q ∈ am_mt1, Cond.code q.1 q.2.2.1 q.2.2.2.1 q.2.2.2.2.1 ∈ am_ts := List.forall_mem_cons.mpr ⟨am_q40, List.forall_mem_cons.mpr ⟨am_q41, List.forall_mem_cons.mpr ⟨am_q42, List.forall_mem_cons.mpr ⟨am_q43, List.forall_mem_cons.mpr ⟨am_q44, List.forall_mem_cons.mpr ⟨am_q45, List.forall_mem_cons.mpr ⟨am_q46, List.forall_mem_cons.mpr ⟨am_q47, List.forall_mem_cons.mpr ⟨am_q48, List.forall_mem_cons.mpr ⟨am_q49, List.forall_mem_cons.mpr ⟨am_q50, List.forall_mem_cons.mpr ⟨am_q51, List.forall_mem_cons.mpr ⟨am_q52, List.forall_mem_cons.mpr ⟨am_q53, List.forall_mem_cons.mpr ⟨am_q54, List.forall_mem_cons.mpr ⟨am_q55, List.forall_mem_cons.mpr ⟨am_q56, List.forall_mem_cons.mpr ⟨am_q57, List.forall_mem_cons.mpr ⟨am_q58, List.forall_mem_cons.mpr ⟨am_q59, List.forall_mem_cons.mpr ⟨am_q60, List.forall_mem_cons.mpr ⟨am_q61, List.forall_mem_cons.mpr ⟨am_q62, List.forall_mem_cons.mpr ⟨am_q63, List.forall_mem_cons.mpr ⟨am_q64, List.forall_mem_cons.mpr ⟨am_q65, List.forall_mem_cons.mpr ⟨am_q66, List.forall_mem_cons.mpr ⟨am_q67, List.forall_mem_cons.mpr ⟨am_q68, List.forall_mem_cons.mpr ⟨am_q69, List.forall_mem_cons.mpr ⟨am_q70, List.forall_mem_cons.mpr ⟨am_q71, List.forall_mem_cons.mpr ⟨am_q72, List.forall_mem_cons.mpr ⟨am_q73, List.forall_mem_cons.mpr ⟨am_q74, List.forall_mem_cons.mpr ⟨am_q75, List.forall_mem_cons.mpr ⟨am_q76, List.forall_mem_cons.mpr ⟨am_q77, List.forall_mem_cons.mpr ⟨am_q78, List.forall_mem_cons.mpr ⟨am_q79, (fun _ h => (List.not_mem_nil h).elim)⟩⟩⟩⟩⟩⟩⟩⟩⟩⟩⟩⟩⟩⟩⟩⟩⟩⟩⟩⟩⟩⟩⟩⟩⟩⟩⟩⟩⟩⟩⟩⟩⟩⟩⟩⟩⟩⟩⟩⟩
set_option maxRecDepth 100000 in
theorem am_q80 : Cond.code ⟨"LineFlow$Layout", "addItem", "(LLineFlow$Flow;LLineFlow$Box;I)V"⟩ prog_5_method_21_code 5 (none) ∈ am_ts := List.mem_filter.mpr ⟨List.mem_of_getElem? (i := 725) rfl, rfl⟩
set_option maxRecDepth 100000 in
theorem am_q81 : Cond.code ⟨"LineFlow$Line", "takes", "(I)Z"⟩ prog_6_method_5_code 2 (some FieldType.boolean) ∈ am_ts := List.mem_filter.mpr ⟨List.mem_of_getElem? (i := 729) rfl, rfl⟩
set_option maxRecDepth 100000 in
theorem am_q82 : Cond.code ⟨"LineFlow$Line", "add", "(LLineFlow$Box;I)V"⟩ prog_6_method_6_code 3 (none) ∈ am_ts := List.mem_filter.mpr ⟨List.mem_of_getElem? (i := 733) rfl, rfl⟩
set_option maxRecDepth 100000 in
theorem am_q83 : Cond.code ⟨"LineFlow$Layout", "endLine", "(LLineFlow$Flow;)V"⟩ prog_5_method_22_code 4 (none) ∈ am_ts := List.mem_filter.mpr ⟨List.mem_of_getElem? (i := 738) rfl, rfl⟩
set_option maxRecDepth 100000 in
theorem am_q84 : Cond.code ⟨"LineFlow$Line", "settle", "(II)I"⟩ prog_6_method_7_code 5 (some FieldType.int) ∈ am_ts := List.mem_filter.mpr ⟨List.mem_of_getElem? (i := 742) rfl, rfl⟩
set_option maxRecDepth 100000 in
theorem am_q85 : Cond.code ⟨"LineFlow$Line", "spaceAhead", "(I)I"⟩ prog_6_method_8_code 3 (some FieldType.int) ∈ am_ts := List.mem_filter.mpr ⟨List.mem_of_getElem? (i := 746) rfl, rfl⟩
set_option maxRecDepth 100000 in
theorem am_q86 : Cond.code ⟨"LineFlow$Flow", "releaseWaiting", "()LLineFlow$Node;"⟩ prog_4_method_5_code 2 (some (FieldType.object "LineFlow$Node")) ∈ am_ts := List.mem_filter.mpr ⟨List.mem_of_getElem? (i := 751) rfl, rfl⟩
set_option maxRecDepth 100000 in
theorem am_q87 : Cond.code ⟨"LineFlow$Line", "open", "(II)V"⟩ prog_6_method_4_code 3 (none) ∈ am_ts := List.mem_filter.mpr ⟨List.mem_of_getElem? (i := 755) rfl, rfl⟩
set_option maxRecDepth 100000 in
theorem am_q88 : Cond.code ⟨"LineFlow$Layout", "addBreak", "(LLineFlow$Flow;LLineFlow$Node;)V"⟩ prog_5_method_20_code 3 (none) ∈ am_ts := List.mem_filter.mpr ⟨List.mem_of_getElem? (i := 759) rfl, rfl⟩
set_option maxRecDepth 100000 in
theorem am_q89 : Cond.code ⟨"LineFlow$Layout", "addBlock", "(LLineFlow$Flow;LLineFlow$Node;)V"⟩ prog_5_method_13_code 8 (none) ∈ am_ts := List.mem_filter.mpr ⟨List.mem_of_getElem? (i := 763) rfl, rfl⟩
set_option maxRecDepth 100000 in
theorem am_q90 : Cond.code ⟨"LineFlow$Margins", "joinedThing", "(LLineFlow$Node;Z)LLineFlow$Node;"⟩ prog_7_method_3_code 3 (some (FieldType.object "LineFlow$Node")) ∈ am_ts := List.mem_filter.mpr ⟨List.mem_of_getElem? (i := 766) rfl, rfl⟩
set_option maxRecDepth 100000 in
theorem am_q91 : Cond.code ⟨"LineFlow$Margins", "isOpen", "(LLineFlow$Node;)Z"⟩ prog_7_method_5_code 1 (some FieldType.boolean) ∈ am_ts := List.mem_filter.mpr ⟨List.mem_of_getElem? (i := 769) rfl, rfl⟩
set_option maxRecDepth 100000 in
theorem am_q92 : Cond.code ⟨"LineFlow$Margins", "isBlock", "(LLineFlow$Node;)Z"⟩ prog_7_method_4_code 2 (some FieldType.boolean) ∈ am_ts := List.mem_filter.mpr ⟨List.mem_of_getElem? (i := 772) rfl, rfl⟩
set_option maxRecDepth 100000 in
theorem am_q93 : Cond.code ⟨"LineFlow$Margins", "lastThing", "(LLineFlow$Node;)LLineFlow$Node;"⟩ prog_7_method_7_code 3 (some (FieldType.object "LineFlow$Node")) ∈ am_ts := List.mem_filter.mpr ⟨List.mem_of_getElem? (i := 776) rfl, rfl⟩
set_option maxRecDepth 100000 in
theorem am_q94 : Cond.code ⟨"LineFlow$Margins", "firstThing", "(LLineFlow$Node;)LLineFlow$Node;"⟩ prog_7_method_6_code 2 (some (FieldType.object "LineFlow$Node")) ∈ am_ts := List.mem_filter.mpr ⟨List.mem_of_getElem? (i := 779) rfl, rfl⟩
set_option maxRecDepth 100000 in
theorem am_q95 : Cond.code ⟨"LineFlow$Margins", "outer", "(LLineFlow$Node;Z)I"⟩ prog_7_method_2_code 4 (some FieldType.int) ∈ am_ts := List.mem_filter.mpr ⟨List.mem_of_getElem? (i := 782) rfl, rfl⟩
set_option maxRecDepth 100000 in
theorem am_q96 : Cond.code ⟨"LineFlow$Layout", "following", "(LLineFlow$Node;LLineFlow$Node;)LLineFlow$Node;"⟩ prog_5_method_12_code 3 (some (FieldType.object "LineFlow$Node")) ∈ am_ts := List.mem_filter.mpr ⟨List.mem_of_getElem? (i := 788) rfl, rfl⟩
set_option maxRecDepth 100000 in
theorem am_q97 : Cond.code ⟨"LineFlow$Flow", "contentHeight", "()I"⟩ prog_4_method_6_code 1 (some FieldType.int) ∈ am_ts := List.mem_filter.mpr ⟨List.mem_of_getElem? (i := 792) rfl, rfl⟩
set_option maxRecDepth 100000 in
theorem am_q98 : Cond.code ⟨"LineFlow$Node", "framedHeight", "(I)I"⟩ prog_8_method_6_code 3 (some FieldType.int) ∈ am_ts := List.mem_filter.mpr ⟨List.mem_of_getElem? (i := 796) rfl, rfl⟩
set_option maxRecDepth 100000 in
theorem am_q99 : Cond.code ⟨"LineFlow", "box", "(II)I"⟩ prog_1_method_9_code 4 (some FieldType.int) ∈ am_ts := List.mem_filter.mpr ⟨List.mem_of_getElem? (i := 800) rfl, rfl⟩
set_option maxRecDepth 100000 in
theorem am_q100 : Cond.code ⟨"LineFlow", "words", "()I"⟩ prog_1_method_10_code 1 (some FieldType.int) ∈ am_ts := List.mem_filter.mpr ⟨List.mem_of_getElem? (i := 804) rfl, rfl⟩
set_option maxRecDepth 100000 in
theorem am_q101 : Cond.code ⟨"LineFlow", "word", "(II)I"⟩ prog_1_method_11_code 4 (some FieldType.int) ∈ am_ts := List.mem_filter.mpr ⟨List.mem_of_getElem? (i := 808) rfl, rfl⟩
set_option maxRecDepth 100000 in
theorem am_q102 : Cond.code ⟨"LineFlow", "line", "(I)I"⟩ prog_1_method_12_code 3 (some FieldType.int) ∈ am_ts := List.mem_filter.mpr ⟨List.mem_of_getElem? (i := 813) rfl, rfl⟩
set_option maxRecDepth 100000 in
theorem am_q103 : Cond.code ⟨"LineFlow", "margin", "(IZ)I"⟩ prog_1_method_13_code 4 (some FieldType.int) ∈ am_ts := List.mem_filter.mpr ⟨List.mem_of_getElem? (i := 818) rfl, rfl⟩
set_option maxRecDepth 100000 in
theorem am_q104 : Cond.code ⟨"LineFlowModel", "<init>", "()V"⟩ prog_12_method_1_code 1 (none) ∈ am_ts := List.mem_filter.mpr ⟨List.mem_of_getElem? (i := 825) rfl, rfl⟩
set_option maxRecDepth 100000 in
theorem am_q105 : Cond.code ⟨"LineFlowModel", "clear", "()V"⟩ prog_12_method_6_code 2 (none) ∈ am_ts := List.mem_filter.mpr ⟨List.mem_of_getElem? (i := 830) rfl, rfl⟩
set_option maxRecDepth 100000 in
theorem am_q106 : Cond.code ⟨"LineFlowModel", "fresh", "(III)V"⟩ prog_12_method_5_code 5 (none) ∈ am_ts := List.mem_filter.mpr ⟨List.mem_of_getElem? (i := 834) rfl, rfl⟩
set_option maxRecDepth 100000 in
theorem am_q107 : Cond.code ⟨"LineFlowModel", "feed", "(IIIII)I"⟩ prog_12_method_3_code 6 (some FieldType.int) ∈ am_ts := List.mem_filter.mpr ⟨List.mem_of_getElem? (i := 1008) rfl, rfl⟩
set_option maxRecDepth 100000 in
theorem am_q108 : Cond.code ⟨"LineFlowModel", "putFour", "(I)V"⟩ prog_12_method_2_code 3 (none) ∈ am_ts := List.mem_filter.mpr ⟨List.mem_of_getElem? (i := 1012) rfl, rfl⟩
set_option maxRecDepth 100000 in
theorem am_q109 : Cond.code ⟨"LineFlowModel", "end", "(I)I"⟩ prog_12_method_4_code 2 (some FieldType.int) ∈ am_ts := List.mem_filter.mpr ⟨List.mem_of_getElem? (i := 1016) rfl, rfl⟩
set_option maxRecDepth 100000 in
theorem am_q110 : Cond.code ⟨"LineFlowModel", "node", "(II)I"⟩ prog_12_method_8_code 3 (some FieldType.int) ∈ am_ts := List.mem_filter.mpr ⟨List.mem_of_getElem? (i := 1021) rfl, rfl⟩
set_option maxRecDepth 100000 in
theorem am_q111 : Cond.code ⟨"LineFlowModel", "there", "(I)Z"⟩ prog_12_method_7_code 2 (some FieldType.boolean) ∈ am_ts := List.mem_filter.mpr ⟨List.mem_of_getElem? (i := 1025) rfl, rfl⟩
set_option maxRecDepth 100000 in
theorem am_q112 : Cond.code ⟨"LineFlowModel", "text", "(I)I"⟩ prog_12_method_9_code 3 (some FieldType.int) ∈ am_ts := List.mem_filter.mpr ⟨List.mem_of_getElem? (i := 1029) rfl, rfl⟩
set_option maxRecDepth 100000 in
theorem am_q113 : Cond.code ⟨"LineFlowModel", "set", "(III)I"⟩ prog_12_method_11_code 5 (some FieldType.int) ∈ am_ts := List.mem_filter.mpr ⟨List.mem_of_getElem? (i := 1033) rfl, rfl⟩
set_option maxRecDepth 100000 in
theorem am_q114 : Cond.code ⟨"LineFlowModel", "mayBe", "(III)Z"⟩ prog_12_method_10_code 4 (some FieldType.boolean) ∈ am_ts := List.mem_filter.mpr ⟨List.mem_of_getElem? (i := 1037) rfl, rfl⟩
set_option maxRecDepth 100000 in
theorem am_q115 : Cond.code ⟨"LineFlowModel", "lay", "(I)I"⟩ prog_12_method_27_code 4 (some FieldType.int) ∈ am_ts := List.mem_filter.mpr ⟨List.mem_of_getElem? (i := 1041) rfl, rfl⟩
set_option maxRecDepth 100000 in
theorem am_q116 : Cond.code ⟨"LineFlowModel", "modes", "()V"⟩ prog_12_method_21_code 2 (none) ∈ am_ts := List.mem_filter.mpr ⟨List.mem_of_getElem? (i := 1045) rfl, rfl⟩
set_option maxRecDepth 100000 in
theorem am_q117 : Cond.code ⟨"LineFlowModel", "isBox", "(I)Z"⟩ prog_12_method_17_code 2 (some FieldType.boolean) ∈ am_ts := List.mem_filter.mpr ⟨List.mem_of_getElem? (i := 1049) rfl, rfl⟩
set_option maxRecDepth 100000 in
theorem am_q118 : Cond.code ⟨"LineFlowModel", "of", "(II)I"⟩ prog_12_method_12_code 3 (some FieldType.int) ∈ am_ts := List.mem_filter.mpr ⟨List.mem_of_getElem? (i := 1053) rfl, rfl⟩
set_option maxRecDepth 100000 in
theorem am_q119 : Cond.code ⟨"LineFlowModel", "modeOf", "(I)I"⟩ prog_12_method_20_code 5 (some FieldType.int) ∈ am_ts := List.mem_filter.mpr ⟨List.mem_of_getElem? (i := 1057) rfl, rfl⟩
theorem am_qs2 : ∀ q ∈ am_mt2, Cond.code q.1 q.2.2.1 q.2.2.2.1 q.2.2.2.2.1 ∈ am_ts := List.forall_mem_cons.mpr ⟨am_q80, List.forall_mem_cons.mpr ⟨am_q81, List.forall_mem_cons.mpr ⟨am_q82, List.forall_mem_cons.mpr ⟨am_q83, List.forall_mem_cons.mpr ⟨am_q84, List.forall_mem_cons.mpr ⟨am_q85, List.forall_mem_cons.mpr ⟨am_q86, List.forall_mem_cons.mpr ⟨am_q87, List.forall_mem_cons.mpr ⟨am_q88, List.forall_mem_cons.mpr ⟨am_q89, List.forall_mem_cons.mpr ⟨am_q90, List.forall_mem_cons.mpr ⟨am_q91, List.forall_mem_cons.mpr ⟨am_q92, List.forall_mem_cons.mpr ⟨am_q93, List.forall_mem_cons.mpr ⟨am_q94, List.forall_mem_cons.mpr ⟨am_q95, List.forall_mem_cons.mpr ⟨am_q96, List.forall_mem_cons.mpr ⟨am_q97, List.forall_mem_cons.mpr ⟨am_q98, List.forall_mem_cons.mpr ⟨am_q99, List.forall_mem_cons.mpr ⟨am_q100, List.forall_mem_cons.mpr ⟨am_q101, List.forall_mem_cons.mpr ⟨am_q102, List.forall_mem_cons.mpr ⟨am_q103, List.forall_mem_cons.mpr ⟨am_q104, List.forall_mem_cons.mpr ⟨am_q105, List.forall_mem_cons.mpr ⟨am_q106, List.forall_mem_cons.mpr ⟨am_q107, List.forall_mem_cons.mpr ⟨am_q108, List.forall_mem_cons.mpr ⟨am_q109, List.forall_mem_cons.mpr ⟨am_q110, List.forall_mem_cons.mpr ⟨am_q111, List.forall_mem_cons.mpr ⟨am_q112, List.forall_mem_cons.mpr ⟨am_q113, List.forall_mem_cons.mpr ⟨am_q114, List.forall_mem_cons.mpr ⟨am_q115, List.forall_mem_cons.mpr ⟨am_q116, List.forall_mem_cons.mpr ⟨am_q117, List.forall_mem_cons.mpr ⟨am_q118, List.forall_mem_cons.mpr ⟨am_q119, (fun _ h => (List.not_mem_nil h).elim)⟩⟩⟩⟩⟩⟩⟩⟩⟩⟩⟩⟩⟩⟩⟩⟩⟩⟩⟩⟩⟩⟩⟩⟩⟩⟩⟩⟩⟩⟩⟩⟩⟩⟩⟩⟩⟩⟩⟩⟩
set_option maxRecDepth 100000 in
theorem am_q120 : Cond.code ⟨"LineFlowModel", "after", "(II)I"⟩ prog_12_method_14_code 3 (some FieldType.int) ∈ am_ts := List.mem_filter.mpr ⟨List.mem_of_getElem? (i := 1061) rfl, rfl⟩
set_option maxRecDepth 100000 in
theorem am_q121 : Cond.code ⟨"LineFlowModel", "behind", "(II)I"⟩ prog_12_method_15_code 4 (some FieldType.int) ∈ am_ts := List.mem_filter.mpr ⟨List.mem_of_getElem? (i := 1065) rfl, rfl⟩
set_option maxRecDepth 100000 in
theorem am_q122 : Cond.code ⟨"LineFlowModel", "margins", "(I)V"⟩ prog_12_method_22_code 5 (none) ∈ am_ts := List.mem_filter.mpr ⟨List.mem_of_getElem? (i := 1069) rfl, rfl⟩
set_option maxRecDepth 100000 in
theorem am_q123 : Cond.code ⟨"LineFlowModel", "joins", "(I)Z"⟩ prog_12_method_40_code 2 (some FieldType.boolean) ∈ am_ts := List.mem_filter.mpr ⟨List.mem_of_getElem? (i := 1073) rfl, rfl⟩
set_option maxRecDepth 100000 in
theorem am_q124 : Cond.code ⟨"LineFlowModel", "isBlock", "(I)Z"⟩ prog_12_method_39_code 2 (some FieldType.boolean) ∈ am_ts := List.mem_filter.mpr ⟨List.mem_of_getElem? (i := 1077) rfl, rfl⟩
set_option maxRecDepth 100000 in
theorem am_q125 : Cond.code ⟨"LineFlowModel", "edges", "(I)I"⟩ prog_12_method_18_code 2 (some FieldType.int) ∈ am_ts := List.mem_filter.mpr ⟨List.mem_of_getElem? (i := 1081) rfl, rfl⟩
set_option maxRecDepth 100000 in
theorem am_q126 : Cond.code ⟨"LineFlowModel", "more", "(II)I"⟩ prog_12_method_47_code 2 (some FieldType.int) ∈ am_ts := List.mem_filter.mpr ⟨List.mem_of_getElem? (i := 1084) rfl, rfl⟩
set_option maxRecDepth 100000 in
theorem am_q127 : Cond.code ⟨"LineFlowModel", "widen", "(I)V"⟩ prog_12_method_25_code 5 (none) ∈ am_ts := List.mem_filter.mpr ⟨List.mem_of_getElem? (i := 1088) rfl, rfl⟩
set_option maxRecDepth 100000 in
theorem am_q128 : Cond.code ⟨"LineFlowModel", "inner", "(I)I"⟩ prog_12_method_19_code 2 (some FieldType.int) ∈ am_ts := List.mem_filter.mpr ⟨List.mem_of_getElem? (i := 1092) rfl, rfl⟩
set_option maxRecDepth 100000 in
theorem am_q129 : Cond.code ⟨"LineFlowModel", "told", "(II)I"⟩ prog_12_method_24_code 4 (some FieldType.int) ∈ am_ts := List.mem_filter.mpr ⟨List.mem_of_getElem? (i := 1096) rfl, rfl⟩
set_option maxRecDepth 100000 in
theorem am_q130 : Cond.code ⟨"LineFlowModel", "oneLine", "(I)I"⟩ prog_12_method_23_code 9 (some FieldType.int) ∈ am_ts := List.mem_filter.mpr ⟨List.mem_of_getElem? (i := 1100) rfl, rfl⟩
set_option maxRecDepth 100000 in
theorem am_q131 : Cond.code ⟨"LineFlowModel", "isBlank", "(I)Z"⟩ prog_12_method_13_code 1 (some FieldType.boolean) ∈ am_ts := List.mem_filter.mpr ⟨List.mem_of_getElem? (i := 1103) rfl, rfl⟩
set_option maxRecDepth 100000 in
theorem am_q132 : Cond.code ⟨"LineFlowModel", "glyph", "(I)I"⟩ prog_12_method_16_code 1 (some FieldType.int) ∈ am_ts := List.mem_filter.mpr ⟨List.mem_of_getElem? (i := 1106) rfl, rfl⟩
set_option maxRecDepth 100000 in
theorem am_q133 : Cond.code ⟨"LineFlowModel", "less", "(II)I"⟩ prog_12_method_48_code 2 (some FieldType.int) ∈ am_ts := List.mem_filter.mpr ⟨List.mem_of_getElem? (i := 1109) rfl, rfl⟩
set_option maxRecDepth 100000 in
theorem am_q134 : Cond.code ⟨"LineFlowModel", "split", "(I)V"⟩ prog_12_method_26_code 5 (none) ∈ am_ts := List.mem_filter.mpr ⟨List.mem_of_getElem? (i := 1113) rfl, rfl⟩
set_option maxRecDepth 100000 in
theorem am_q135 : Cond.code ⟨"LineFlowModel", "layBlock", "(I)V"⟩ prog_12_method_41_code 13 (none) ∈ am_ts := List.mem_filter.mpr ⟨List.mem_of_getElem? (i := 1117) rfl, rfl⟩
set_option maxRecDepth 100000 in
theorem am_q136 : Cond.code ⟨"LineFlowModel", "lineThing", "(I)V"⟩ prog_12_method_38_code 4 (none) ∈ am_ts := List.mem_filter.mpr ⟨List.mem_of_getElem? (i := 1121) rfl, rfl⟩
set_option maxRecDepth 100000 in
theorem am_q137 : Cond.code ⟨"LineFlowModel", "putFloat", "(I)V"⟩ prog_12_method_33_code 7 (none) ∈ am_ts := List.mem_filter.mpr ⟨List.mem_of_getElem? (i := 1125) rfl, rfl⟩
set_option maxRecDepth 100000 in
theorem am_q138 : Cond.code ⟨"LineFlowModel", "edgesAt", "(I)V"⟩ prog_12_method_31_code 3 (none) ∈ am_ts := List.mem_filter.mpr ⟨List.mem_of_getElem? (i := 1129) rfl, rfl⟩
set_option maxRecDepth 100000 in
theorem am_q139 : Cond.code ⟨"LineFlowModel", "isFloatAt", "(II)Z"⟩ prog_12_method_30_code 3 (some FieldType.boolean) ∈ am_ts := List.mem_filter.mpr ⟨List.mem_of_getElem? (i := 1133) rfl, rfl⟩
set_option maxRecDepth 100000 in
theorem am_q140 : Cond.code ⟨"LineFlowModel", "leastEnd", "(I)I"⟩ prog_12_method_32_code 4 (some FieldType.int) ∈ am_ts := List.mem_filter.mpr ⟨List.mem_of_getElem? (i := 1137) rfl, rfl⟩
set_option maxRecDepth 100000 in
theorem am_q141 : Cond.code ⟨"LineFlowModel", "putItem", "(III)V"⟩ prog_12_method_36_code 7 (none) ∈ am_ts := List.mem_filter.mpr ⟨List.mem_of_getElem? (i := 1141) rfl, rfl⟩
set_option maxRecDepth 100000 in
theorem am_q142 : Cond.code ⟨"LineFlowModel", "itemHigh", "(I)I"⟩ prog_12_method_34_code 2 (some FieldType.int) ∈ am_ts := List.mem_filter.mpr ⟨List.mem_of_getElem? (i := 1145) rfl, rfl⟩
set_option maxRecDepth 100000 in
theorem am_q143 : Cond.code ⟨"LineFlowModel", "endLine", "()V"⟩ prog_12_method_35_code 6 (none) ∈ am_ts := List.mem_filter.mpr ⟨List.mem_of_getElem? (i := 1149) rfl, rfl⟩
set_option maxRecDepth 100000 in
theorem am_q144 : Cond.code ⟨"LineFlowModel", "lineText", "(I)V"⟩ prog_12_method_37_code 5 (none) ∈ am_ts := List.mem_filter.mpr ⟨List.mem_of_getElem? (i := 1153) rfl, rfl⟩
set_option maxRecDepth 100000 in
theorem am_q145 : Cond.code ⟨"LineFlowModel", "heightOf", "(II)I"⟩ prog_12_method_29_code 3 (some FieldType.int) ∈ am_ts := List.mem_filter.mpr ⟨List.mem_of_getElem? (i := 1157) rfl, rfl⟩
set_option maxRecDepth 100000 in
theorem am_q146 : Cond.code ⟨"LineFlowModel", "layFlex", "(I)V"⟩ prog_12_method_28_code 6 (none) ∈ am_ts := List.mem_filter.mpr ⟨List.mem_of_getElem? (i := 1161) rfl, rfl⟩
set_option maxRecDepth 100000 in
theorem am_q147 : Cond.code ⟨"LineFlowModel", "box", "(II)I"⟩ prog_12_method_42_code 3 (some FieldType.int) ∈ am_ts := List.mem_filter.mpr ⟨List.mem_of_getElem? (i := 1165) rfl, rfl⟩
set_option maxRecDepth 100000 in
theorem am_q148 : Cond.code ⟨"LineFlowModel", "words", "()I"⟩ prog_12_method_43_code 1 (some FieldType.int) ∈ am_ts := List.mem_filter.mpr ⟨List.mem_of_getElem? (i := 1169) rfl, rfl⟩
set_option maxRecDepth 100000 in
theorem am_q149 : Cond.code ⟨"LineFlowModel", "word", "(II)I"⟩ prog_12_method_44_code 3 (some FieldType.int) ∈ am_ts := List.mem_filter.mpr ⟨List.mem_of_getElem? (i := 1173) rfl, rfl⟩
set_option maxRecDepth 100000 in
theorem am_q150 : Cond.code ⟨"LineFlowModel", "line", "(I)I"⟩ prog_12_method_45_code 2 (some FieldType.int) ∈ am_ts := List.mem_filter.mpr ⟨List.mem_of_getElem? (i := 1177) rfl, rfl⟩
set_option maxRecDepth 100000 in
theorem am_q151 : Cond.code ⟨"LineFlowModel", "margin", "(IZ)I"⟩ prog_12_method_46_code 3 (some FieldType.int) ∈ am_ts := List.mem_filter.mpr ⟨List.mem_of_getElem? (i := 1181) rfl, rfl⟩
theorem am_qs3 : ∀ q ∈ am_mt3, Cond.code q.1 q.2.2.1 q.2.2.2.1 q.2.2.2.2.1 ∈ am_ts := List.forall_mem_cons.mpr ⟨am_q120, List.forall_mem_cons.mpr ⟨am_q121, List.forall_mem_cons.mpr ⟨am_q122, List.forall_mem_cons.mpr ⟨am_q123, List.forall_mem_cons.mpr ⟨am_q124, List.forall_mem_cons.mpr ⟨am_q125, List.forall_mem_cons.mpr ⟨am_q126, List.forall_mem_cons.mpr ⟨am_q127, List.forall_mem_cons.mpr ⟨am_q128, List.forall_mem_cons.mpr ⟨am_q129, List.forall_mem_cons.mpr ⟨am_q130, List.forall_mem_cons.mpr ⟨am_q131, List.forall_mem_cons.mpr ⟨am_q132, List.forall_mem_cons.mpr ⟨am_q133, List.forall_mem_cons.mpr ⟨am_q134, List.forall_mem_cons.mpr ⟨am_q135, List.forall_mem_cons.mpr ⟨am_q136, List.forall_mem_cons.mpr ⟨am_q137, List.forall_mem_cons.mpr ⟨am_q138, List.forall_mem_cons.mpr ⟨am_q139, List.forall_mem_cons.mpr ⟨am_q140, List.forall_mem_cons.mpr ⟨am_q141, List.forall_mem_cons.mpr ⟨am_q142, List.forall_mem_cons.mpr ⟨am_q143, List.forall_mem_cons.mpr ⟨am_q144, List.forall_mem_cons.mpr ⟨am_q145, List.forall_mem_cons.mpr ⟨am_q146, List.forall_mem_cons.mpr ⟨am_q147, List.forall_mem_cons.mpr ⟨am_q148, List.forall_mem_cons.mpr ⟨am_q149, List.forall_mem_cons.mpr ⟨am_q150, List.forall_mem_cons.mpr ⟨am_q151, (fun _ h => (List.not_mem_nil h).elim)⟩⟩⟩⟩⟩⟩⟩⟩⟩⟩⟩⟩⟩⟩⟩⟩⟩⟩⟩⟩⟩⟩⟩⟩⟩⟩⟩⟩⟩⟩⟩⟩
theorem am_qs : ∀ q ∈ am_mt, Cond.code q.1 q.2.2.1 q.2.2.2.1 q.2.2.2.2.1 ∈ am_ts := List.forall_mem_append.mpr ⟨am_qs0, List.forall_mem_append.mpr ⟨am_qs1, List.forall_mem_append.mpr ⟨am_qs2, am_qs3⟩⟩⟩
set_option maxRecDepth 100000 in
theorem am_qo : Cond.code objectInit ⟨#[0xb1]⟩ 1 none ∈ am_ts := List.mem_filter.mpr ⟨List.mem_of_getElem? (i := 86) rfl, rfl⟩
set_option maxRecDepth 100000 in
theorem am_qmax : Cond.code Lib.Math.max.name Lib.Math.max.code 2 (some .int) ∈ am_ts := List.mem_filter.mpr ⟨List.mem_of_getElem? (i := 544) rfl, rfl⟩
set_option maxRecDepth 100000 in
theorem am_qmin : Cond.code Lib.Math.min.name Lib.Math.min.code 2 (some .int) ∈ am_ts := List.mem_filter.mpr ⟨List.mem_of_getElem? (i := 447) rfl, rfl⟩
theorem am_w1 : (am_at 85 (.instanceMethod objectInit) && am_at 450 (.native arraycopyName) && am_at 449 (.static arraycopyName) && am_at 73 (.initialized "java/lang/System") && am_at 1184 (.selects "[Ljava/lang/Object;" am_gcn am_gcn) && am_at 553 (.instanceMethod am_gcn) && am_at 566 (.native am_gcn) && am_at 543 (.static Lib.Math.max.name) && am_at 446 (.static Lib.Math.min.name) && am_at 72 (.initialized "java/lang/Math") && am_at 298 (.arrayClass .int) && am_at 121 (.arrayClass .byte) && am_at 1004 (.arrayClass .boolean)) = true := by decide +kernel
theorem am_w2 : (List.range am_nw.length).all (fun k => decide (lw_tbl[am_nwp.getD k 0]? = am_nw[k]?)) = true := by decide +kernel
