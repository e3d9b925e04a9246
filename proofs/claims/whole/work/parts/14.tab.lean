/-! the tables of this claim, written by program (wip/whole/gen/tables.py) out of the words of the Statement -/
def am_nm : Nat → String := fun n => match n with
  | 0 => "LineFlow$Box"
  | 1 => "LineFlow$Floats"
  | 2 => "LineFlow$Flow"
  | 3 => "LineFlow$Layout"
  | 4 => "LineFlow$Line"
  | 5 => "LineFlow$Node"
  | 6 => "LineFlow$Ruler"
  | 7 => "LineFlow$Word"
  | 8 => "LineFlow"
  | 9 => "LineFlowModel"
  | 10 => "java/util/ArrayList"
  | 11 => "LineFlow$Margins"
  | 12 => "LineFlowLaw"
  | 13 => "java/util/Arrays"
  | 14 => "java/lang/Math"
  | 15 => "jdk/internal/util/ArraysSupport"
  | 16 => "java/util/Objects"
  | 17 => "jdk/internal/util/Preconditions"
  | 18 => "java/util/AbstractList"
  | 19 => "java/util/AbstractCollection"
  | 20 => "java/lang/Object"
  | _ => ""
def am_T0 : u_T := fun k => match k with
  | 0 => ("LineFlow$Box", "x", "I", false)
  | 1 => ("LineFlow$Box", "y", "I", false)
  | 2 => ("LineFlow$Box", "width", "I", false)
  | 3 => ("LineFlow$Box", "height", "I", false)
  | 4 => ("LineFlow$Box", "nextOnLine", "LLineFlow$Box;", false)
  | _ => ("", "", "", false)
def am_T1 : u_T := fun k => match k with
  | 0 => ("LineFlow$Floats", "innerLeft", "I", false)
  | 1 => ("LineFlow$Floats", "innerRight", "I", false)
  | 2 => ("LineFlow$Floats", "first", "LLineFlow$Node;", false)
  | 3 => ("LineFlow$Floats", "last", "LLineFlow$Node;", false)
  | 4 => ("LineFlow$Floats", "lowestTop", "I", false)
  | 5 => ("LineFlow$Floats", "lowestEnd", "I", false)
  | _ => ("", "", "", false)
def am_T2 : u_T := fun k => match k with
  | 0 => ("LineFlow$Flow", "block", "LLineFlow$Node;", false)
  | 1 => ("LineFlow$Flow", "innerX", "I", false)
  | 2 => ("LineFlow$Flow", "innerY", "I", false)
  | 3 => ("LineFlow$Flow", "innerWidth", "I", false)
  | 4 => ("LineFlow$Flow", "y", "I", false)
  | 5 => ("LineFlow$Flow", "below", "I", false)
  | 6 => ("LineFlow$Flow", "blanksAhead", "Z", false)
  | 7 => ("LineFlow$Flow", "firstWaiting", "LLineFlow$Node;", false)
  | 8 => ("LineFlow$Flow", "lastWaiting", "LLineFlow$Node;", false)
  | 9 => ("LineFlow$Flow", "floats", "LLineFlow$Floats;", true)
  | 10 => ("LineFlow$Flow", "line", "LLineFlow$Line;", true)
  | _ => ("", "", "", false)
def am_T3 : u_T := fun k => match k with
  | 0 => ("LineFlow$Layout", "wordPool", "Ljava/util/ArrayList;", true)
  | 1 => ("LineFlow$Layout", "wordCount", "I", false)
  | 2 => ("LineFlow$Layout", "flows", "[LLineFlow$Flow;", true)
  | 3 => ("LineFlow$Layout", "ruler", "LLineFlow$Ruler;", true)
  | _ => ("", "", "", false)
def am_T4 : u_T := fun k => match k with
  | 0 => ("LineFlow$Line", "first", "LLineFlow$Box;", false)
  | 1 => ("LineFlow$Line", "last", "LLineFlow$Box;", false)
  | 2 => ("LineFlow$Line", "right", "I", false)
  | 3 => ("LineFlow$Line", "reached", "I", false)
  | 4 => ("LineFlow$Line", "height", "I", false)
  | _ => ("", "", "", false)
def am_T5 : u_T := fun k => match k with
  | 0 => ("LineFlow$Node", "number", "I", true)
  | 1 => ("LineFlow$Node", "kind", "I", true)
  | 2 => ("LineFlow$Node", "parent", "LLineFlow$Node;", true)
  | 3 => ("LineFlow$Node", "depth", "I", true)
  | 4 => ("LineFlow$Node", "has", "[I", true)
  | 5 => ("LineFlow$Node", "firstChild", "LLineFlow$Node;", false)
  | 6 => ("LineFlow$Node", "lastChild", "LLineFlow$Node;", false)
  | 7 => ("LineFlow$Node", "next", "LLineFlow$Node;", false)
  | 8 => ("LineFlow$Node", "bytes", "[B", false)
  | 9 => ("LineFlow$Node", "role", "I", false)
  | 10 => ("LineFlow$Node", "floating", "Z", false)
  | 11 => ("LineFlow$Node", "boxed", "Z", false)
  | 12 => ("LineFlow$Node", "box", "LLineFlow$Box;", true)
  | 13 => ("LineFlow$Node", "firstWord", "I", false)
  | 14 => ("LineFlow$Node", "wordCount", "I", false)
  | 15 => ("LineFlow$Node", "nextFloat", "LLineFlow$Node;", false)
  | _ => ("", "", "", false)
def am_T6 : u_T := fun k => match k with
  | 0 => ("LineFlow$Ruler", "sum", "I", false)
  | 1 => ("LineFlow$Ruler", "blanksAhead", "Z", false)
  | _ => ("", "", "", false)
def am_T7 : u_T := fun k => match k with
  | 0 => ("LineFlow$Word", "textNumber", "I", false)
  | 1 => ("LineFlow$Word", "firstByte", "I", false)
  | 2 => ("LineFlow$Word", "byteCount", "I", false)
  | 3 => ("LineFlow$Word", "box", "LLineFlow$Box;", true)
  | _ => ("", "", "", false)
def am_T8 : u_T := fun k => match k with
  | 0 => ("LineFlow", "tape", "[B", true)
  | 1 => ("LineFlow", "taped", "I", false)
  | 2 => ("LineFlow", "nodes", "[LLineFlow$Node;", true)
  | 3 => ("LineFlow", "nodeCount", "I", false)
  | 4 => ("LineFlow", "layout", "LLineFlow$Layout;", true)
  | _ => ("", "", "", false)
def am_T9 : u_T := fun k => match k with
  | 0 => ("LineFlowModel", "tape", "[B", true)
  | 1 => ("LineFlowModel", "taped", "I", false)
  | 2 => ("LineFlowModel", "nodes", "I", false)
  | 3 => ("LineFlowModel", "kind", "[I", true)
  | 4 => ("LineFlowModel", "parent", "[I", true)
  | 5 => ("LineFlowModel", "firstKid", "[I", true)
  | 6 => ("LineFlowModel", "lastKid", "[I", true)
  | 7 => ("LineFlowModel", "next", "[I", true)
  | 8 => ("LineFlowModel", "depth", "[I", true)
  | 9 => ("LineFlowModel", "has", "[I", true)
  | 10 => ("LineFlowModel", "bytes", "[B", true)
  | 11 => ("LineFlowModel", "byteCount", "[I", true)
  | 12 => ("LineFlowModel", "mode", "[I", true)
  | 13 => ("LineFlowModel", "floats", "[Z", true)
  | 14 => ("LineFlowModel", "box", "[I", true)
  | 15 => ("LineFlowModel", "x", "[I", true)
  | 16 => ("LineFlowModel", "y", "[I", true)
  | 17 => ("LineFlowModel", "wide", "[I", true)
  | 18 => ("LineFlowModel", "high", "[I", true)
  | 19 => ("LineFlowModel", "top", "[I", true)
  | 20 => ("LineFlowModel", "bottom", "[I", true)
  | 21 => ("LineFlowModel", "treeOrder", "[I", true)
  | 22 => ("LineFlowModel", "ordered", "I", false)
  | 23 => ("LineFlowModel", "had", "[Z", true)
  | 24 => ("LineFlowModel", "hadX", "[I", true)
  | 25 => ("LineFlowModel", "hadY", "[I", true)
  | 26 => ("LineFlowModel", "hadWide", "[I", true)
  | 27 => ("LineFlowModel", "hadHigh", "[I", true)
  | 28 => ("LineFlowModel", "firstWord", "[I", true)
  | 29 => ("LineFlowModel", "words", "I", false)
  | 30 => ("LineFlowModel", "wordText", "[I", true)
  | 31 => ("LineFlowModel", "wordAt", "[I", true)
  | 32 => ("LineFlowModel", "wordSize", "[I", true)
  | 33 => ("LineFlowModel", "wordX", "[I", true)
  | 34 => ("LineFlowModel", "wordY", "[I", true)
  | 35 => ("LineFlowModel", "wordWide", "[I", true)
  | 36 => ("LineFlowModel", "wordHigh", "[I", true)
  | 37 => ("LineFlowModel", "lineY", "I", false)
  | 38 => ("LineFlowModel", "lineLeft", "I", false)
  | 39 => ("LineFlowModel", "lineRight", "I", false)
  | 40 => ("LineFlowModel", "lineEnd", "I", false)
  | 41 => ("LineFlowModel", "lineItems", "I", false)
  | 42 => ("LineFlowModel", "lineHigh", "I", false)
  | 43 => ("LineFlowModel", "lineSort", "I", false)
  | 44 => ("LineFlowModel", "item", "[I", true)
  | 45 => ("LineFlowModel", "itemX", "[I", true)
  | 46 => ("LineFlowModel", "floated", "I", false)
  | 47 => ("LineFlowModel", "floatLeft", "[I", true)
  | 48 => ("LineFlowModel", "floatRight", "[I", true)
  | 49 => ("LineFlowModel", "floatTop", "[I", true)
  | 50 => ("LineFlowModel", "floatEnd", "[I", true)
  | 51 => ("LineFlowModel", "floatSide", "[I", true)
  | 52 => ("LineFlowModel", "waits", "[I", true)
  | 53 => ("LineFlowModel", "waiting", "I", false)
  | 54 => ("LineFlowModel", "blank", "Z", false)
  | 55 => ("LineFlowModel", "blockWide", "I", false)
  | _ => ("", "", "", false)
def am_T10 : u_T := fun k => match k with
  | 0 => ("java/util/AbstractList", "modCount", "I", false)
  | 1 => ("java/util/ArrayList", "elementData", "[Ljava/lang/Object;", false)
  | 2 => ("java/util/ArrayList", "size", "I", false)
  | _ => ("", "", "", false)
abbrev am_cl : List vw_C := [("LineFlow$Box", am_T0, 5), ("LineFlow$Floats", am_T1, 6), ("LineFlow$Flow", am_T2, 11), ("LineFlow$Layout", am_T3, 4), ("LineFlow$Line", am_T4, 5), ("LineFlow$Node", am_T5, 16), ("LineFlow$Ruler", am_T6, 2), ("LineFlow$Word", am_T7, 4), ("LineFlow", am_T8, 5), ("LineFlowModel", am_T9, 56), ("java/util/ArrayList", am_T10, 3)]
def am_fl : Nat → Option (List (FieldType × Bool)) := fun c => match c with
  | 0 => some [(.int, false), (.int, false), (.int, false), (.int, false), (.object "LineFlow$Box", false)]
  | 1 => some [(.int, false), (.int, false), (.object "LineFlow$Node", false), (.object "LineFlow$Node", false), (.int, false), (.int, false)]
  | 2 => some [(.object "LineFlow$Node", false), (.int, false), (.int, false), (.int, false), (.int, false), (.int, false), (.boolean, false), (.object "LineFlow$Node", false), (.object "LineFlow$Node", false), (.object "LineFlow$Floats", true), (.object "LineFlow$Line", true)]
  | 3 => some [(.object "java/util/ArrayList", true), (.int, false), (.array (.object "LineFlow$Flow"), true), (.object "LineFlow$Ruler", true)]
  | 4 => some [(.object "LineFlow$Box", false), (.object "LineFlow$Box", false), (.int, false), (.int, false), (.int, false)]
  | 5 => some [(.int, true), (.int, true), (.object "LineFlow$Node", true), (.int, true), (.array .int, true), (.object "LineFlow$Node", false), (.object "LineFlow$Node", false), (.object "LineFlow$Node", false), (.array .byte, false), (.int, false), (.boolean, false), (.boolean, false), (.object "LineFlow$Box", true), (.int, false), (.int, false), (.object "LineFlow$Node", false)]
  | 6 => some [(.int, false), (.boolean, false)]
  | 7 => some [(.int, false), (.int, false), (.int, false), (.object "LineFlow$Box", true)]
  | 8 => some [(.array .byte, true), (.int, false), (.array (.object "LineFlow$Node"), true), (.int, false), (.object "LineFlow$Layout", true)]
  | 9 => some [(.array .byte, true), (.int, false), (.int, false), (.array .int, true), (.array .int, true), (.array .int, true), (.array .int, true), (.array .int, true), (.array .int, true), (.array .int, true), (.array .byte, true), (.array .int, true), (.array .int, true), (.array .boolean, true), (.array .int, true), (.array .int, true), (.array .int, true), (.array .int, true), (.array .int, true), (.array .int, true), (.array .int, true), (.array .int, true), (.int, false), (.array .boolean, true), (.array .int, true), (.array .int, true), (.array .int, true), (.array .int, true), (.array .int, true), (.int, false), (.array .int, true), (.array .int, true), (.array .int, true), (.array .int, true), (.array .int, true), (.array .int, true), (.array .int, true), (.int, false), (.int, false), (.int, false), (.int, false), (.int, false), (.int, false), (.int, false), (.array .int, true), (.array .int, true), (.int, false), (.array .int, true), (.array .int, true), (.array .int, true), (.array .int, true), (.array .int, true), (.array .int, true), (.int, false), (.boolean, false), (.int, false)]
  | 10 => some [(.int, false), (.array (.object "java/lang/Object"), false), (.int, false)]
  | _ => none
def am_mt0 : List (MethodName × am_I) := [
  (⟨"LineFlow", "<init>", "()V"⟩, 8, prog_1_method_1_code, 1, none, true),
  (⟨"LineFlow$Layout", "<init>", "()V"⟩, 3, prog_5_method_1_code, 2, none, true),
  (⟨"java/util/ArrayList", "<init>", "()V"⟩, 10, prog_20_method_2_code, 1, none, true),
  (⟨"java/util/AbstractList", "<init>", "()V"⟩, 18, prog_19_method_1_code, 1, none, true),
  (⟨"java/util/AbstractCollection", "<init>", "()V"⟩, 19, prog_18_method_1_code, 1, none, true),
  (⟨"LineFlow$Ruler", "<init>", "()V"⟩, 6, prog_9_method_1_code, 1, none, true),
  (⟨"LineFlow$Flow", "<init>", "()V"⟩, 2, prog_4_method_1_code, 1, none, true),
  (⟨"LineFlow$Floats", "<init>", "()V"⟩, 1, prog_3_method_1_code, 1, none, true),
  (⟨"LineFlow$Line", "<init>", "()V"⟩, 4, prog_6_method_1_code, 1, none, true),
  (⟨"LineFlow", "plantRoot", "()V"⟩, 8, prog_1_method_14_code, 2, none, false),
  (⟨"LineFlow$Node", "<init>", "(IILLineFlow$Node;)V"⟩, 5, prog_8_method_1_code, 4, none, true),
  (⟨"LineFlow$Box", "<init>", "()V"⟩, 0, prog_2_method_1_code, 1, none, true),
  (⟨"LineFlow", "feed", "(IIIII)I"⟩, 8, prog_1_method_2_code, 6, some FieldType.int, false),
  (⟨"LineFlow", "putOnTape", "(I)V"⟩, 8, prog_1_method_15_code, 3, none, false),
  (⟨"LineFlow", "end", "(I)I"⟩, 8, prog_1_method_3_code, 2, some FieldType.int, false),
  (⟨"LineFlow", "clear", "()V"⟩, 8, prog_1_method_4_code, 1, none, false),
  (⟨"LineFlow$Layout", "forgetWords", "()V"⟩, 3, prog_5_method_2_code, 1, none, false),
  (⟨"LineFlow", "node", "(II)I"⟩, 8, prog_1_method_5_code, 5, some FieldType.int, false),
  (⟨"LineFlow", "elementAt", "(I)LLineFlow$Node;"⟩, 8, prog_1_method_17_code, 3, some (FieldType.object "LineFlow$Node"), false),
  (⟨"LineFlow", "nodeAt", "(I)LLineFlow$Node;"⟩, 8, prog_1_method_16_code, 2, some (FieldType.object "LineFlow$Node"), false),
  (⟨"LineFlow$Node", "append", "(LLineFlow$Node;)V"⟩, 5, prog_8_method_2_code, 2, none, false),
  (⟨"LineFlow", "text", "(I)I"⟩, 8, prog_1_method_6_code, 3, some FieldType.int, false),
  (⟨"java/util/Arrays", "copyOf", "([BI)[B"⟩, 13, prog_21_method_121_code, 3, some (FieldType.array FieldType.byte), false),
  (⟨"LineFlow", "set", "(III)I"⟩, 8, prog_1_method_7_code, 6, some FieldType.int, false),
  (⟨"LineFlow", "mayHave", "(LLineFlow$Node;II)Z"⟩, 8, prog_1_method_18_code, 3, some FieldType.boolean, false),
  (⟨"LineFlow", "mayDisplay", "(LLineFlow$Node;I)Z"⟩, 8, prog_1_method_19_code, 2, some FieldType.boolean, false),
  (⟨"LineFlow", "within", "(III)Z"⟩, 8, prog_1_method_21_code, 3, some FieldType.boolean, false),
  (⟨"LineFlow", "mayFloat", "(LLineFlow$Node;)Z"⟩, 8, prog_1_method_20_code, 1, some FieldType.boolean, false),
  (⟨"LineFlow", "lay", "(I)I"⟩, 8, prog_1_method_8_code, 3, some FieldType.int, false),
  (⟨"LineFlow$Layout", "layRoot", "(LLineFlow$Node;I)V"⟩, 3, prog_5_method_4_code, 3, none, false),
  (⟨"LineFlow$Layout", "prepare", "(LLineFlow$Node;I)V"⟩, 3, prog_5_method_5_code, 5, none, false),
  (⟨"LineFlow$Layout", "listWords", "(LLineFlow$Node;)V"⟩, 3, prog_5_method_7_code, 5, none, false),
  (⟨"LineFlow$Ruler", "isBlank", "(B)Z"⟩, 6, prog_9_method_2_code, 1, some FieldType.boolean, false),
  (⟨"LineFlow$Ruler", "glyphWidth", "(B)I"⟩, 6, prog_9_method_3_code, 1, some FieldType.int, false),
  (⟨"LineFlow$Layout", "listWord", "(LLineFlow$Node;III)V"⟩, 3, prog_5_method_8_code, 6, none, false),
  (⟨"java/util/ArrayList", "size", "()I"⟩, 10, prog_20_method_8_code, 1, some FieldType.int, false),
  (⟨"LineFlow$Word", "<init>", "()V"⟩, 7, prog_10_method_1_code, 1, none, true),
  (⟨"java/util/ArrayList", "add", "(Ljava/lang/Object;)Z"⟩, 10, prog_20_method_25_code, 2, some FieldType.boolean, false),
  (⟨"java/util/ArrayList", "add", "(Ljava/lang/Object;[Ljava/lang/Object;I)V"⟩, 10, prog_20_method_24_code, 4, none, false),
  (⟨"java/util/ArrayList", "grow", "()[Ljava/lang/Object;"⟩, 10, prog_20_method_7_code, 1, some (FieldType.array (FieldType.object "java/lang/Object")), false)]
def am_mt1 : List (MethodName × am_I) := [
  (⟨"java/util/ArrayList", "grow", "(I)[Ljava/lang/Object;"⟩, 10, prog_20_method_6_code, 4, some (FieldType.array (FieldType.object "java/lang/Object")), false),
  (⟨"jdk/internal/util/ArraysSupport", "newLength", "(III)I"⟩, 15, prog_27_method_27_code, 4, some FieldType.int, false),
  (⟨"jdk/internal/util/ArraysSupport", "hugeLength", "(II)I"⟩, 15, prog_27_method_28_code, 3, some FieldType.int, false),
  (⟨"java/util/Arrays", "copyOf", "([Ljava/lang/Object;I)[Ljava/lang/Object;"⟩, 13, prog_21_method_119_code, 2, some (FieldType.array (FieldType.object "java/lang/Object")), false),
  (⟨"java/util/Arrays", "copyOf", "([Ljava/lang/Object;ILjava/lang/Class;)[Ljava/lang/Object;"⟩, 13, prog_21_method_120_code, 4, some (FieldType.array (FieldType.object "java/lang/Object")), false),
  (⟨"LineFlow$Layout", "wordAt", "(I)LLineFlow$Word;"⟩, 3, prog_5_method_3_code, 2, some (FieldType.object "LineFlow$Word"), false),
  (⟨"java/util/ArrayList", "get", "(I)Ljava/lang/Object;"⟩, 10, prog_20_method_20_code, 2, some (FieldType.object "java/lang/Object"), false),
  (⟨"java/util/Objects", "checkIndex", "(II)I"⟩, 16, prog_24_method_17_code, 2, some FieldType.int, false),
  (⟨"jdk/internal/util/Preconditions", "checkIndex", "(IILjava/util/function/BiFunction;)I"⟩, 17, prog_28_method_11_code, 3, some FieldType.int, false),
  (⟨"java/util/ArrayList", "elementData", "(I)Ljava/lang/Object;"⟩, 10, prog_20_method_18_code, 2, some (FieldType.object "java/lang/Object"), false),
  (⟨"LineFlow$Layout", "roleWithin", "(LLineFlow$Node;I)I"⟩, 3, prog_5_method_6_code, 3, some FieldType.int, false),
  (⟨"LineFlow$Layout", "layElement", "(LLineFlow$Node;III)V"⟩, 3, prog_5_method_9_code, 7, none, false),
  (⟨"LineFlow$Flow", "begin", "(LLineFlow$Node;)V"⟩, 2, prog_4_method_2_code, 2, none, false),
  (⟨"LineFlow$Node", "frame", "()I"⟩, 5, prog_8_method_3_code, 1, some FieldType.int, false),
  (⟨"LineFlow$Floats", "begin", "(III)V"⟩, 1, prog_3_method_2_code, 4, none, false),
  (⟨"LineFlow$Line", "drop", "()V"⟩, 4, prog_6_method_3_code, 1, none, false),
  (⟨"LineFlow$Layout", "layRow", "(LLineFlow$Flow;)I"⟩, 3, prog_5_method_10_code, 7, some FieldType.int, false),
  (⟨"LineFlow$Layout", "measurePiece", "(LLineFlow$Node;I)V"⟩, 3, prog_5_method_18_code, 4, none, false),
  (⟨"LineFlow$Node", "toldWidth", "(II)I"⟩, 5, prog_8_method_4_code, 4, some FieldType.int, false),
  (⟨"LineFlow$Layout", "textWidth", "(LLineFlow$Node;)I"⟩, 3, prog_5_method_16_code, 2, some FieldType.int, false),
  (⟨"LineFlow$Ruler", "oneLine", "(LLineFlow$Node;)I"⟩, 6, prog_9_method_4_code, 2, some FieldType.int, false),
  (⟨"LineFlow$Ruler", "addTexts", "(LLineFlow$Node;)V"⟩, 6, prog_9_method_5_code, 3, none, false),
  (⟨"LineFlow$Ruler", "addBytes", "([B)V"⟩, 6, prog_9_method_6_code, 6, none, false),
  (⟨"LineFlow$Node", "framedWidth", "(II)I"⟩, 5, prog_8_method_5_code, 3, some FieldType.int, false),
  (⟨"LineFlow$Layout", "layDown", "(LLineFlow$Flow;)I"⟩, 3, prog_5_method_11_code, 4, some FieldType.int, false),
  (⟨"LineFlow$Layout", "addFloat", "(LLineFlow$Flow;LLineFlow$Node;)V"⟩, 3, prog_5_method_14_code, 3, none, false),
  (⟨"LineFlow$Flow", "beginLines", "()V"⟩, 2, prog_4_method_3_code, 1, none, false),
  (⟨"LineFlow$Line", "isEmpty", "()Z"⟩, 4, prog_6_method_2_code, 1, some FieldType.boolean, false),
  (⟨"LineFlow$Layout", "putFloat", "(LLineFlow$Flow;LLineFlow$Node;)V"⟩, 3, prog_5_method_15_code, 9, none, false),
  (⟨"LineFlow$Floats", "roomFor", "(II)I"⟩, 1, prog_3_method_6_code, 6, some FieldType.int, false),
  (⟨"LineFlow$Floats", "leastEndAt", "(I)I"⟩, 1, prog_3_method_7_code, 4, some FieldType.int, false),
  (⟨"LineFlow$Floats", "isAt", "(LLineFlow$Node;I)Z"⟩, 1, prog_3_method_8_code, 2, some FieldType.boolean, false),
  (⟨"LineFlow$Floats", "topOf", "(LLineFlow$Node;)I"⟩, 1, prog_3_method_9_code, 1, some FieldType.int, false),
  (⟨"LineFlow$Floats", "endOf", "(LLineFlow$Node;)I"⟩, 1, prog_3_method_10_code, 1, some FieldType.int, false),
  (⟨"LineFlow$Floats", "rightAt", "(I)I"⟩, 1, prog_3_method_5_code, 4, some FieldType.int, false),
  (⟨"LineFlow$Floats", "leftAt", "(I)I"⟩, 1, prog_3_method_4_code, 4, some FieldType.int, false),
  (⟨"LineFlow$Floats", "add", "(LLineFlow$Node;)V"⟩, 1, prog_3_method_3_code, 2, none, false),
  (⟨"LineFlow$Flow", "await", "(LLineFlow$Node;)V"⟩, 2, prog_4_method_4_code, 2, none, false),
  (⟨"LineFlow$Layout", "addInline", "(LLineFlow$Flow;LLineFlow$Node;)V"⟩, 3, prog_5_method_17_code, 3, none, false),
  (⟨"LineFlow$Layout", "addWords", "(LLineFlow$Flow;LLineFlow$Node;)V"⟩, 3, prog_5_method_19_code, 5, none, false)]
def am_mt2 : List (MethodName × am_I) := [
  (⟨"LineFlow$Layout", "addItem", "(LLineFlow$Flow;LLineFlow$Box;I)V"⟩, 3, prog_5_method_21_code, 5, none, false),
  (⟨"LineFlow$Line", "takes", "(I)Z"⟩, 4, prog_6_method_5_code, 2, some FieldType.boolean, false),
  (⟨"LineFlow$Line", "add", "(LLineFlow$Box;I)V"⟩, 4, prog_6_method_6_code, 3, none, false),
  (⟨"LineFlow$Layout", "endLine", "(LLineFlow$Flow;)V"⟩, 3, prog_5_method_22_code, 4, none, false),
  (⟨"LineFlow$Line", "settle", "(II)I"⟩, 4, prog_6_method_7_code, 5, some FieldType.int, false),
  (⟨"LineFlow$Line", "spaceAhead", "(I)I"⟩, 4, prog_6_method_8_code, 3, some FieldType.int, false),
  (⟨"LineFlow$Flow", "releaseWaiting", "()LLineFlow$Node;"⟩, 2, prog_4_method_5_code, 2, some (FieldType.object "LineFlow$Node"), false),
  (⟨"LineFlow$Line", "open", "(II)V"⟩, 4, prog_6_method_4_code, 3, none, false),
  (⟨"LineFlow$Layout", "addBreak", "(LLineFlow$Flow;LLineFlow$Node;)V"⟩, 3, prog_5_method_20_code, 3, none, false),
  (⟨"LineFlow$Layout", "addBlock", "(LLineFlow$Flow;LLineFlow$Node;)V"⟩, 3, prog_5_method_13_code, 8, none, false),
  (⟨"LineFlow$Margins", "joinedThing", "(LLineFlow$Node;Z)LLineFlow$Node;"⟩, 11, prog_7_method_3_code, 3, some (FieldType.object "LineFlow$Node"), false),
  (⟨"LineFlow$Margins", "isOpen", "(LLineFlow$Node;)Z"⟩, 11, prog_7_method_5_code, 1, some FieldType.boolean, false),
  (⟨"LineFlow$Margins", "isBlock", "(LLineFlow$Node;)Z"⟩, 11, prog_7_method_4_code, 2, some FieldType.boolean, false),
  (⟨"LineFlow$Margins", "lastThing", "(LLineFlow$Node;)LLineFlow$Node;"⟩, 11, prog_7_method_7_code, 3, some (FieldType.object "LineFlow$Node"), false),
  (⟨"LineFlow$Margins", "firstThing", "(LLineFlow$Node;)LLineFlow$Node;"⟩, 11, prog_7_method_6_code, 2, some (FieldType.object "LineFlow$Node"), false),
  (⟨"LineFlow$Margins", "outer", "(LLineFlow$Node;Z)I"⟩, 11, prog_7_method_2_code, 4, some FieldType.int, false),
  (⟨"LineFlow$Layout", "following", "(LLineFlow$Node;LLineFlow$Node;)LLineFlow$Node;"⟩, 3, prog_5_method_12_code, 3, some (FieldType.object "LineFlow$Node"), false),
  (⟨"LineFlow$Flow", "contentHeight", "()I"⟩, 2, prog_4_method_6_code, 1, some FieldType.int, false),
  (⟨"LineFlow$Node", "framedHeight", "(I)I"⟩, 5, prog_8_method_6_code, 3, some FieldType.int, false),
  (⟨"LineFlow", "box", "(II)I"⟩, 8, prog_1_method_9_code, 4, some FieldType.int, false),
  (⟨"LineFlow", "words", "()I"⟩, 8, prog_1_method_10_code, 1, some FieldType.int, false),
  (⟨"LineFlow", "word", "(II)I"⟩, 8, prog_1_method_11_code, 4, some FieldType.int, false),
  (⟨"LineFlow", "line", "(I)I"⟩, 8, prog_1_method_12_code, 3, some FieldType.int, false),
  (⟨"LineFlow", "margin", "(IZ)I"⟩, 8, prog_1_method_13_code, 4, some FieldType.int, false),
  (⟨"LineFlowModel", "<init>", "()V"⟩, 9, prog_12_method_1_code, 1, none, true),
  (⟨"LineFlowModel", "clear", "()V"⟩, 9, prog_12_method_6_code, 2, none, false),
  (⟨"LineFlowModel", "fresh", "(III)V"⟩, 9, prog_12_method_5_code, 5, none, false),
  (⟨"LineFlowModel", "feed", "(IIIII)I"⟩, 9, prog_12_method_3_code, 6, some FieldType.int, false),
  (⟨"LineFlowModel", "putFour", "(I)V"⟩, 9, prog_12_method_2_code, 3, none, false),
  (⟨"LineFlowModel", "end", "(I)I"⟩, 9, prog_12_method_4_code, 2, some FieldType.int, false),
  (⟨"LineFlowModel", "node", "(II)I"⟩, 9, prog_12_method_8_code, 3, some FieldType.int, false),
  (⟨"LineFlowModel", "there", "(I)Z"⟩, 9, prog_12_method_7_code, 2, some FieldType.boolean, false),
  (⟨"LineFlowModel", "text", "(I)I"⟩, 9, prog_12_method_9_code, 3, some FieldType.int, false),
  (⟨"LineFlowModel", "set", "(III)I"⟩, 9, prog_12_method_11_code, 5, some FieldType.int, false),
  (⟨"LineFlowModel", "mayBe", "(III)Z"⟩, 9, prog_12_method_10_code, 4, some FieldType.boolean, false),
  (⟨"LineFlowModel", "lay", "(I)I"⟩, 9, prog_12_method_27_code, 4, some FieldType.int, false),
  (⟨"LineFlowModel", "modes", "()V"⟩, 9, prog_12_method_21_code, 2, none, false),
  (⟨"LineFlowModel", "isBox", "(I)Z"⟩, 9, prog_12_method_17_code, 2, some FieldType.boolean, false),
  (⟨"LineFlowModel", "of", "(II)I"⟩, 9, prog_12_method_12_code, 3, some FieldType.int, false),
  (⟨"LineFlowModel", "modeOf", "(I)I"⟩, 9, prog_12_method_20_code, 5, some FieldType.int, false)]
def am_mt3 : List (MethodName × am_I) := [
  (⟨"LineFlowModel", "after", "(II)I"⟩, 9, prog_12_method_14_code, 3, some FieldType.int, false),
  (⟨"LineFlowModel", "behind", "(II)I"⟩, 9, prog_12_method_15_code, 4, some FieldType.int, false),
  (⟨"LineFlowModel", "margins", "(I)V"⟩, 9, prog_12_method_22_code, 5, none, false),
  (⟨"LineFlowModel", "joins", "(I)Z"⟩, 9, prog_12_method_40_code, 2, some FieldType.boolean, false),
  (⟨"LineFlowModel", "isBlock", "(I)Z"⟩, 9, prog_12_method_39_code, 2, some FieldType.boolean, false),
  (⟨"LineFlowModel", "edges", "(I)I"⟩, 9, prog_12_method_18_code, 2, some FieldType.int, false),
  (⟨"LineFlowModel", "more", "(II)I"⟩, 9, prog_12_method_47_code, 2, some FieldType.int, false),
  (⟨"LineFlowModel", "widen", "(I)V"⟩, 9, prog_12_method_25_code, 5, none, false),
  (⟨"LineFlowModel", "inner", "(I)I"⟩, 9, prog_12_method_19_code, 2, some FieldType.int, false),
  (⟨"LineFlowModel", "told", "(II)I"⟩, 9, prog_12_method_24_code, 4, some FieldType.int, false),
  (⟨"LineFlowModel", "oneLine", "(I)I"⟩, 9, prog_12_method_23_code, 9, some FieldType.int, false),
  (⟨"LineFlowModel", "isBlank", "(I)Z"⟩, 9, prog_12_method_13_code, 1, some FieldType.boolean, false),
  (⟨"LineFlowModel", "glyph", "(I)I"⟩, 9, prog_12_method_16_code, 1, some FieldType.int, false),
  (⟨"LineFlowModel", "less", "(II)I"⟩, 9, prog_12_method_48_code, 2, some FieldType.int, false),
  (⟨"LineFlowModel", "split", "(I)V"⟩, 9, prog_12_method_26_code, 5, none, false),
  (⟨"LineFlowModel", "layBlock", "(I)V"⟩, 9, prog_12_method_41_code, 13, none, false),
  (⟨"LineFlowModel", "lineThing", "(I)V"⟩, 9, prog_12_method_38_code, 4, none, false),
  (⟨"LineFlowModel", "putFloat", "(I)V"⟩, 9, prog_12_method_33_code, 7, none, false),
  (⟨"LineFlowModel", "edgesAt", "(I)V"⟩, 9, prog_12_method_31_code, 3, none, false),
  (⟨"LineFlowModel", "isFloatAt", "(II)Z"⟩, 9, prog_12_method_30_code, 3, some FieldType.boolean, false),
  (⟨"LineFlowModel", "leastEnd", "(I)I"⟩, 9, prog_12_method_32_code, 4, some FieldType.int, false),
  (⟨"LineFlowModel", "putItem", "(III)V"⟩, 9, prog_12_method_36_code, 7, none, false),
  (⟨"LineFlowModel", "itemHigh", "(I)I"⟩, 9, prog_12_method_34_code, 2, some FieldType.int, false),
  (⟨"LineFlowModel", "endLine", "()V"⟩, 9, prog_12_method_35_code, 6, none, false),
  (⟨"LineFlowModel", "lineText", "(I)V"⟩, 9, prog_12_method_37_code, 5, none, false),
  (⟨"LineFlowModel", "heightOf", "(II)I"⟩, 9, prog_12_method_29_code, 3, some FieldType.int, false),
  (⟨"LineFlowModel", "layFlex", "(I)V"⟩, 9, prog_12_method_28_code, 6, none, false),
  (⟨"LineFlowModel", "box", "(II)I"⟩, 9, prog_12_method_42_code, 3, some FieldType.int, false),
  (⟨"LineFlowModel", "words", "()I"⟩, 9, prog_12_method_43_code, 1, some FieldType.int, false),
  (⟨"LineFlowModel", "word", "(II)I"⟩, 9, prog_12_method_44_code, 3, some FieldType.int, false),
  (⟨"LineFlowModel", "line", "(I)I"⟩, 9, prog_12_method_45_code, 2, some FieldType.int, false),
  (⟨"LineFlowModel", "margin", "(IZ)I"⟩, 9, prog_12_method_46_code, 3, some FieldType.int, false)]
def am_mt : List (MethodName × am_I) := am_mt0 ++ (am_mt1 ++ (am_mt2 ++ (am_mt3)))
def am_pools : List (List (Nat × Nat × Nat × Nat)) := [
  [(1, 8, 0, 0)],
  [(9, 1, 1, 0), (15, 1, 1, 1), (18, 1, 1, 2), (22, 1, 1, 3), (25, 1, 1, 4), (28, 1, 1, 5), (61, 1, 0, 0), (82, 1, 0, 1), (66, 1, 0, 2), (85, 1, 0, 3), (49, 1, 5, 4), (57, 1, 5, 12), (31, 1, 5, 15), (3, 8, 0, 0), (72, 4, 70, 1), (53, 5, 71, 2), (36, 5, 72, 1), (46, 5, 73, 1), (76, 4, 74, 1), (69, 17, 0, 0), (79, 4, 75, 1), (40, 16, 0, 0)],
  [(88, 1, 1, 5), (23, 1, 2, 0), (43, 1, 2, 1), (49, 1, 2, 2), (61, 1, 2, 3), (64, 1, 2, 4), (65, 1, 2, 5), (68, 1, 2, 6), (72, 1, 2, 7), (75, 1, 2, 8), (10, 1, 2, 9), (19, 1, 2, 10), (33, 1, 0, 0), (46, 1, 0, 1), (52, 1, 0, 2), (27, 1, 5, 12), (85, 1, 5, 15), (1, 8, 0, 0), (39, 4, 53, 0), (55, 16, 0, 0), (78, 4, 54, 3), (82, 4, 55, 0), (9, 7, 7, 0), (18, 7, 8, 0), (7, 9, 1, 0), (16, 9, 4, 0)],
  [(261, 1, 1, 4), (234, 1, 1, 5), (167, 1, 2, 0), (164, 1, 2, 1), (176, 1, 2, 2), (170, 1, 2, 3), (229, 1, 2, 4), (216, 1, 2, 5), (294, 1, 2, 6), (230, 1, 2, 9), (242, 1, 2, 10), (12, 1, 3, 0), (32, 1, 3, 1), (20, 1, 3, 2), (27, 1, 3, 3), (141, 1, 0, 0), (144, 1, 0, 1), (132, 1, 0, 2), (137, 1, 0, 3), (116, 1, 5, 0), (70, 1, 5, 1), (222, 1, 5, 2), (147, 1, 5, 3), (46, 1, 5, 4), (78, 1, 5, 5), (89, 1, 5, 7), (92, 1, 5, 8), (60, 1, 5, 9), (86, 1, 5, 10), (63, 1, 5, 11), (140, 1, 5, 12), (67, 1, 5, 13), (77, 1, 5, 14), (318, 1, 5, 15), (119, 1, 7, 0), (122, 1, 7, 1), (125, 1, 7, 2), (128, 1, 7, 3), (3, 8, 0, 0), (11, 6, 2, 0), (52, 4, 30, 2), (73, 4, 31, 1), (96, 5, 32, 1), (100, 5, 33, 1), (104, 4, 34, 4), (36, 4, 35, 0), (108, 4, 37, 1), (112, 4, 45, 1), (40, 4, 46, 1), (82, 5, 50, 2), (56, 4, 51, 4), (150, 4, 52, 1), (153, 4, 56, 1), (173, 4, 57, 2), (291, 4, 58, 2), (179, 4, 59, 1), (275, 4, 60, 1), (278, 4, 53, 0), (183, 4, 63, 2), (187, 16, 0, 0), (157, 4, 64, 1), (192, 4, 65, 2), (239, 4, 66, 0), (246, 4, 67, 0), (252, 4, 68, 2), (258, 17, 0, 0), (264, 4, 69, 2), (267, 4, 75, 1), (270, 4, 74, 1), (273, 4, 76, 1), (255, 4, 77, 1), (196, 4, 78, 2), (281, 4, 79, 2), (284, 4, 80, 3), (297, 4, 81, 1), (301, 4, 82, 2), (206, 4, 83, 1), (308, 4, 84, 2), (311, 4, 55, 0), (314, 4, 86, 0), (304, 4, 87, 2), (288, 4, 88, 2), (199, 4, 89, 2), (210, 5, 90, 2), (225, 5, 95, 2), (202, 5, 96, 2), (219, 4, 97, 0), (160, 4, 98, 1), (26, 7, 5, 0), (31, 7, 6, 0), (107, 7, 36, 0), (9, 9, 10, 0), (18, 9, 2, 0), (24, 9, 6, 0), (44, 9, 7, 0)],
  [(9, 1, 4, 0), (15, 1, 4, 1), (25, 1, 4, 2), (22, 1, 4, 3), (18, 1, 4, 4), (33, 1, 0, 0), (50, 1, 0, 1), (36, 1, 0, 2), (39, 1, 0, 3), (28, 1, 0, 4), (3, 8, 0, 0), (40, 16, 0, 0), (46, 4, 85, 1)],
  [(33, 1, 5, 0), (36, 1, 5, 1), (39, 1, 5, 2), (43, 1, 5, 3), (9, 1, 5, 4), (49, 1, 5, 5), (46, 1, 5, 6), (52, 1, 5, 7), (19, 1, 5, 8), (22, 1, 5, 9), (29, 1, 5, 12), (15, 3, 1, 0), (3, 8, 0, 0), (55, 4, 58, 2), (59, 4, 53, 0), (63, 16, 0, 0), (28, 7, 11, 0), (26, 9, 0, 0)],
  [(9, 1, 6, 0), (15, 1, 6, 1), (23, 1, 5, 4), (29, 1, 5, 5), (41, 1, 5, 7), (33, 1, 5, 8), (3, 8, 0, 0), (19, 4, 61, 1), (37, 4, 62, 1), (44, 5, 32, 1), (48, 5, 33, 1)],
  [(10, 1, 7, 3), (1, 8, 0, 0), (9, 7, 11, 0), (7, 9, 0, 0)],
  [(97, 1, 0, 0), (100, 1, 0, 1), (103, 1, 0, 2), (88, 1, 0, 3), (60, 1, 5, 1), (135, 1, 5, 2), (47, 1, 5, 3), (76, 1, 5, 4), (69, 1, 5, 8), (93, 1, 5, 11), (84, 1, 5, 12), (9, 1, 8, 0), (29, 1, 8, 1), (15, 1, 8, 2), (44, 1, 8, 3), (22, 1, 8, 4), (113, 1, 7, 0), (119, 1, 7, 1), (122, 1, 7, 2), (118, 1, 7, 3), (106, 2, 3, 1), (125, 2, 3, 3), (1, 8, 0, 0), (21, 6, 1, 0), (26, 4, 9, 0), (50, 6, 10, 3), (33, 4, 13, 1), (37, 4, 16, 0), (40, 4, 18, 1), (57, 4, 19, 1), (53, 4, 20, 1), (63, 5, 22, 2), (72, 5, 24, 3), (149, 5, 25, 2), (156, 5, 26, 3), (153, 5, 27, 1), (80, 4, 29, 2), (109, 4, 45, 1), (129, 4, 60, 1), (139, 5, 92, 1), (145, 5, 95, 2), (13, 9, 5, 0), (19, 9, 3, 0)],
  [(7, 1, 9, 0), (142, 1, 9, 1), (13, 1, 9, 2), (17, 1, 9, 3), (21, 1, 9, 4), (24, 1, 9, 5), (27, 1, 9, 6), (30, 1, 9, 7), (33, 1, 9, 8), (36, 1, 9, 9), (39, 1, 9, 10), (42, 1, 9, 11), (45, 1, 9, 12), (48, 1, 9, 13), (52, 1, 9, 14), (55, 1, 9, 15), (58, 1, 9, 16), (61, 1, 9, 17), (64, 1, 9, 18), (67, 1, 9, 19), (70, 1, 9, 20), (73, 1, 9, 21), (178, 1, 9, 22), (76, 1, 9, 23), (79, 1, 9, 24), (82, 1, 9, 25), (85, 1, 9, 26), (88, 1, 9, 27), (91, 1, 9, 28), (153, 1, 9, 29), (94, 1, 9, 30), (97, 1, 9, 31), (100, 1, 9, 32), (103, 1, 9, 33), (106, 1, 9, 34), (109, 1, 9, 35), (112, 1, 9, 36), (251, 1, 9, 37), (235, 1, 9, 38), (241, 1, 9, 39), (260, 1, 9, 40), (266, 1, 9, 41), (269, 1, 9, 42), (263, 1, 9, 43), (115, 1, 9, 44), (118, 1, 9, 45), (244, 1, 9, 46), (121, 1, 9, 47), (124, 1, 9, 48), (127, 1, 9, 49), (130, 1, 9, 50), (133, 1, 9, 51), (136, 1, 9, 52), (279, 1, 9, 53), (275, 1, 9, 54), (238, 1, 9, 55), (1, 8, 0, 0), (139, 4, 105, 0), (149, 4, 106, 3), (145, 4, 108, 1), (156, 4, 111, 1), (160, 4, 114, 3), (217, 4, 116, 0), (181, 4, 117, 1), (168, 4, 118, 2), (184, 4, 119, 1), (187, 4, 120, 2), (164, 4, 121, 2), (190, 4, 122, 1), (193, 4, 123, 1), (196, 4, 124, 1), (171, 4, 125, 1), (175, 5, 126, 2), (220, 4, 127, 1), (205, 4, 128, 1), (208, 4, 129, 2), (211, 4, 130, 1), (199, 5, 131, 1), (202, 5, 132, 1), (214, 5, 133, 2), (223, 4, 134, 1), (226, 4, 135, 1), (294, 4, 136, 1), (282, 4, 137, 1), (254, 4, 138, 1), (247, 4, 139, 2), (257, 4, 140, 1), (288, 4, 141, 3), (272, 4, 142, 1), (285, 4, 143, 0), (291, 4, 144, 1), (232, 4, 145, 2), (229, 4, 146, 1)],
  [(39, 3, 2, 0), (9, 1, 10, 1), (48, 1, 10, 2), (63, 1, 10, 0), (1, 6, 3, 0), (131, 4, 38, 3), (129, 4, 39, 0), (69, 4, 40, 1), (73, 5, 41, 3), (66, 5, 43, 2), (79, 16, 0, 0), (118, 5, 47, 2), (123, 4, 49, 1), (7, 9, 20, 0)],
  [(45, 1, 5, 1), (53, 1, 5, 2), (15, 1, 5, 4), (57, 1, 5, 5), (60, 1, 5, 7), (31, 5, 91, 1), (42, 5, 92, 1), (49, 4, 53, 0), (35, 5, 93, 1), (39, 5, 94, 1), (9, 5, 90, 2), (21, 5, 95, 2), (25, 16, 0, 0)],
  [(9, 6, 0, 0), (13, 4, 12, 5), (18, 4, 14, 1), (23, 4, 15, 0), (27, 4, 17, 2), (32, 4, 21, 1), (36, 4, 23, 3), (41, 4, 28, 1), (45, 4, 99, 2), (49, 4, 100, 0), (54, 4, 101, 2), (58, 4, 102, 1), (62, 4, 103, 2), (12, 6, 104, 0), (17, 4, 107, 5), (22, 4, 109, 1), (26, 4, 105, 0), (31, 4, 110, 2), (35, 4, 112, 1), (40, 4, 113, 3), (44, 4, 115, 1), (48, 4, 147, 2), (53, 4, 148, 0), (57, 4, 149, 2), (61, 4, 150, 1), (66, 4, 151, 2), (7, 9, 8, 0), (10, 9, 9, 0)],
  [(304, 17, 0, 0), (150, 13, 0, 0), (86, 14, 0, 0), (300, 5, 44, 3), (110, 15, 0, 0), (2, 9, 20, 0)],
  [],
  [(194, 16, 0, 0), (201, 5, 42, 2), (200, 12, 2147483639, 0)],
  [(105, 5, 48, 3)],
  [],
  [(7, 1, 10, 0), (1, 6, 4, 0)],
  [(1, 8, 0, 0)],
  []]
def am_hints : List (List (Nat × Nat × Nat × Nat)) := [
  [(266, 0, 0, 0)],
  [(148, 0, 0, 0), (149, 0, 0, 0), (150, 0, 0, 0), (151, 0, 0, 0), (152, 0, 0, 0), (154, 0, 0, 0), (268, 0, 0, 0), (274, 0, 0, 0), (278, 0, 0, 0), (285, 0, 0, 0), (315, 0, 0, 0), (338, 0, 0, 0), (343, 0, 0, 0), (147, 0, 0, 0), (681, 683, 19, 0), (685, 686, 0, 0), (688, 689, 0, 0), (691, 692, 0, 0), (694, 695, 696, 0), (698, 0, 0, 0), (699, 700, 701, 0), (703, 0, 0, 0)],
  [(155, 0, 0, 0), (192, 0, 0, 0), (194, 0, 0, 0), (196, 0, 0, 0), (198, 0, 0, 0), (200, 0, 0, 0), (202, 0, 0, 0), (204, 0, 0, 0), (206, 0, 0, 0), (207, 0, 0, 0), (208, 0, 0, 0), (210, 0, 0, 0), (267, 0, 0, 0), (272, 0, 0, 0), (277, 0, 0, 0), (337, 0, 0, 0), (344, 0, 0, 0), (141, 0, 0, 0), (604, 605, 606, 0), (608, 0, 0, 0), (609, 610, 611, 0), (613, 614, 615, 0), (144, 145, 0, 0), (172, 173, 0, 0), (142, 0, 0, 0), (170, 0, 0, 0)],
  [(153, 0, 0, 0), (156, 0, 0, 0), (193, 0, 0, 0), (195, 0, 0, 0), (197, 0, 0, 0), (199, 0, 0, 0), (201, 0, 0, 0), (203, 0, 0, 0), (205, 0, 0, 0), (209, 0, 0, 0), (211, 0, 0, 0), (235, 0, 0, 0), (236, 0, 0, 0), (238, 0, 0, 0), (239, 0, 0, 0), (270, 0, 0, 0), (275, 0, 0, 0), (280, 0, 0, 0), (284, 0, 0, 0), (300, 0, 0, 0), (303, 0, 0, 0), (307, 0, 0, 0), (311, 0, 0, 0), (314, 0, 0, 0), (320, 0, 0, 0), (325, 0, 0, 0), (330, 0, 0, 0), (332, 0, 0, 0), (333, 0, 0, 0), (334, 0, 0, 0), (340, 0, 0, 0), (341, 0, 0, 0), (342, 0, 0, 0), (345, 0, 0, 0), (505, 0, 0, 0), (507, 0, 0, 0), (509, 0, 0, 0), (512, 0, 0, 0), (94, 0, 0, 0), (97, 98, 0, 0), (475, 477, 4, 0), (479, 481, 5, 0), (483, 484, 0, 0), (486, 487, 0, 0), (489, 491, 6, 0), (493, 494, 495, 0), (523, 524, 525, 0), (575, 576, 577, 0), (579, 580, 581, 0), (593, 594, 0, 0), (596, 598, 10, 0), (600, 601, 602, 0), (617, 619, 11, 0), (621, 623, 12, 0), (625, 626, 627, 0), (629, 631, 13, 0), (633, 634, 635, 0), (647, 605, 606, 0), (648, 649, 650, 0), (655, 0, 0, 0), (656, 658, 16, 0), (660, 662, 17, 0), (664, 665, 666, 0), (668, 669, 670, 0), (672, 674, 18, 0), (676, 0, 0, 0), (677, 678, 679, 0), (704, 700, 701, 0), (705, 695, 696, 0), (706, 707, 708, 0), (710, 711, 712, 0), (714, 716, 20, 0), (718, 720, 21, 0), (722, 724, 22, 0), (726, 727, 728, 0), (730, 731, 732, 0), (735, 737, 23, 0), (739, 740, 741, 0), (747, 614, 615, 0), (748, 749, 750, 0), (752, 753, 754, 0), (756, 758, 25, 0), (760, 762, 26, 0), (764, 765, 0, 0), (780, 781, 0, 0), (786, 787, 0, 0), (789, 790, 791, 0), (793, 794, 795, 0), (126, 127, 0, 0), (138, 139, 0, 0), (499, 500, 0, 0), (95, 0, 0, 0), (122, 0, 0, 0), (124, 0, 0, 0), (497, 0, 0, 0)],
  [(176, 0, 0, 0), (177, 0, 0, 0), (178, 0, 0, 0), (179, 0, 0, 0), (180, 0, 0, 0), (269, 0, 0, 0), (273, 0, 0, 0), (279, 0, 0, 0), (282, 0, 0, 0), (286, 0, 0, 0), (175, 0, 0, 0), (734, 0, 0, 0), (743, 745, 24, 0)],
  [(299, 0, 0, 0), (301, 0, 0, 0), (305, 0, 0, 0), (309, 0, 0, 0), (312, 0, 0, 0), (318, 0, 0, 0), (322, 0, 0, 0), (323, 0, 0, 0), (327, 0, 0, 0), (331, 0, 0, 0), (336, 0, 0, 0), (259, 0, 0, 0), (258, 0, 0, 0), (652, 626, 627, 0), (653, 605, 606, 0), (654, 0, 0, 0), (263, 264, 0, 0), (261, 0, 0, 0)],
  [(130, 0, 0, 0), (131, 0, 0, 0), (316, 0, 0, 0), (319, 0, 0, 0), (324, 0, 0, 0), (328, 0, 0, 0), (129, 0, 0, 0), (637, 639, 14, 0), (641, 643, 15, 0), (645, 484, 0, 0), (646, 487, 0, 0)],
  [(511, 0, 0, 0), (502, 0, 0, 0), (504, 264, 0, 0), (503, 0, 0, 0)],
  [(271, 0, 0, 0), (276, 0, 0, 0), (281, 0, 0, 0), (283, 0, 0, 0), (304, 0, 0, 0), (308, 0, 0, 0), (310, 0, 0, 0), (317, 0, 0, 0), (329, 0, 0, 0), (335, 0, 0, 0), (339, 0, 0, 0), (379, 0, 0, 0), (380, 0, 0, 0), (381, 0, 0, 0), (382, 0, 0, 0), (383, 0, 0, 0), (506, 0, 0, 0), (508, 0, 0, 0), (510, 0, 0, 0), (513, 0, 0, 0), (237, 0, 0, 0), (240, 0, 0, 0), (84, 0, 0, 0), (91, 92, 0, 0), (250, 252, 0, 0), (255, 256, 0, 0), (399, 401, 1, 0), (411, 412, 413, 0), (419, 421, 2, 0), (423, 425, 3, 0), (427, 428, 429, 0), (435, 436, 0, 0), (455, 456, 0, 0), (458, 459, 0, 0), (461, 462, 0, 0), (464, 465, 0, 0), (471, 472, 473, 0), (809, 576, 577, 0), (814, 634, 635, 0), (819, 771, 0, 0), (820, 781, 0, 0), (87, 0, 0, 0), (89, 0, 0, 0)],
  [(835, 0, 0, 0), (836, 0, 0, 0), (837, 0, 0, 0), (838, 0, 0, 0), (839, 0, 0, 0), (840, 0, 0, 0), (841, 0, 0, 0), (842, 0, 0, 0), (843, 0, 0, 0), (844, 0, 0, 0), (845, 0, 0, 0), (846, 0, 0, 0), (847, 0, 0, 0), (848, 0, 0, 0), (849, 0, 0, 0), (850, 0, 0, 0), (851, 0, 0, 0), (852, 0, 0, 0), (853, 0, 0, 0), (854, 0, 0, 0), (855, 0, 0, 0), (856, 0, 0, 0), (857, 0, 0, 0), (858, 0, 0, 0), (859, 0, 0, 0), (860, 0, 0, 0), (861, 0, 0, 0), (862, 0, 0, 0), (863, 0, 0, 0), (864, 0, 0, 0), (865, 0, 0, 0), (866, 0, 0, 0), (867, 0, 0, 0), (868, 0, 0, 0), (869, 0, 0, 0), (870, 0, 0, 0), (871, 0, 0, 0), (872, 0, 0, 0), (873, 0, 0, 0), (874, 0, 0, 0), (875, 0, 0, 0), (876, 0, 0, 0), (877, 0, 0, 0), (878, 0, 0, 0), (879, 0, 0, 0), (880, 0, 0, 0), (881, 0, 0, 0), (882, 0, 0, 0), (883, 0, 0, 0), (884, 0, 0, 0), (885, 0, 0, 0), (886, 0, 0, 0), (887, 0, 0, 0), (888, 0, 0, 0), (889, 0, 0, 0), (890, 0, 0, 0), (826, 0, 0, 0), (827, 828, 829, 0), (831, 833, 27, 0), (1009, 1011, 28, 0), (1022, 1024, 29, 0), (1034, 1036, 30, 0), (1042, 1044, 31, 0), (1046, 1048, 32, 0), (1050, 1052, 33, 0), (1054, 1056, 34, 0), (1058, 1060, 35, 0), (1062, 1064, 36, 0), (1066, 1068, 37, 0), (1070, 1072, 38, 0), (1074, 1076, 39, 0), (1078, 1080, 40, 0), (1082, 1083, 0, 0), (1085, 1087, 41, 0), (1089, 1091, 42, 0), (1093, 1095, 43, 0), (1097, 1099, 44, 0), (1101, 1102, 0, 0), (1104, 1105, 0, 0), (1107, 1108, 0, 0), (1110, 1112, 45, 0), (1114, 1116, 46, 0), (1118, 1120, 47, 0), (1122, 1124, 48, 0), (1126, 1128, 49, 0), (1130, 1132, 50, 0), (1134, 1136, 51, 0), (1138, 1140, 52, 0), (1142, 1144, 53, 0), (1146, 1148, 54, 0), (1150, 1152, 55, 0), (1154, 1156, 56, 0), (1158, 1160, 57, 0)],
  [(107, 0, 0, 0), (109, 0, 0, 0), (110, 0, 0, 0), (112, 113, 0, 0), (100, 101, 0, 0), (527, 529, 7, 0), (531, 533, 8, 0), (535, 537, 9, 0), (539, 540, 0, 0), (549, 550, 0, 0), (573, 0, 0, 0), (583, 584, 0, 0), (589, 590, 591, 0), (574, 0, 0, 0)],
  [(302, 0, 0, 0), (306, 0, 0, 0), (313, 0, 0, 0), (321, 0, 0, 0), (326, 0, 0, 0), (767, 768, 0, 0), (770, 771, 0, 0), (773, 605, 606, 0), (774, 775, 0, 0), (777, 778, 0, 0), (783, 765, 0, 0), (784, 781, 0, 0), (785, 0, 0, 0)],
  [(81, 82, 0, 0), (395, 396, 397, 0), (403, 404, 405, 0), (407, 408, 409, 0), (415, 416, 417, 0), (431, 432, 433, 0), (451, 452, 453, 0), (467, 468, 469, 0), (797, 798, 799, 0), (801, 802, 803, 0), (805, 806, 807, 0), (810, 811, 812, 0), (815, 816, 817, 0), (823, 824, 0, 0), (1005, 1006, 1007, 0), (1013, 1014, 1015, 0), (1017, 828, 829, 0), (1018, 1019, 1020, 0), (1026, 1027, 1028, 0), (1030, 1031, 1032, 0), (1038, 1039, 1040, 0), (1162, 1163, 1164, 0), (1166, 1167, 1168, 0), (1170, 1171, 1172, 0), (1174, 1175, 1176, 0), (1178, 1179, 1180, 0), (79, 0, 0, 0), (821, 0, 0, 0)],
  [(445, 0, 0, 0), (448, 0, 0, 0), (552, 0, 0, 0), (567, 568, 0, 0), (570, 0, 0, 0), (572, 0, 0, 0)],
  [],
  [(542, 0, 0, 0), (546, 547, 0, 0), (545, 0, 0, 0)],
  [(586, 587, 0, 0)],
  [],
  [(111, 0, 0, 0), (103, 104, 0, 0)],
  [(106, 0, 0, 0)],
  []]
def am_pool (o idx : Nat) : Nat × Nat × Nat := match (am_pools.getD o []).find? (fun e => e.1 == idx) with
  | some e => e.2
  | none => (0, 0, 0)
def am_ct (xs : List Int32) (j : Nat) : Option (FieldType × List Value) := match j with
  | 0 => some (.int, xs.map Value.int)
  | 1 => some (.byte, [])
  | 2 => some (.object "java/lang/Object", [])
  | _ => none
def am_Bx (xs : List Int32) : am_B := (am_pool, fun m => (am_mt[m]?).map (fun q => q.2), am_fl, am_ct xs)
def am_my (m : Nat) : MethodName := ((am_mt[m]?).map (fun q => q.1)).getD ⟨"", "", ""⟩
def am_ts : List Cond := lw_tbl.filter goodWord
def am_nw : List Cond := [.fieldLinkNest "LineFlow" 106 "LineFlow$Layout" "wordCount" "I" "LineFlow", .fieldLinkNest "LineFlow" 125 "LineFlow$Layout" "ruler" "LLineFlow$Ruler;" "LineFlow", .fieldLinkNest "LineFlow$Node" 15 "LineFlow" "NO_BYTES" "[B" "LineFlow", .methodLinkNest "LineFlow$Layout" 26 ⟨"LineFlow$Ruler", "<init>", "()V"⟩ "LineFlow", .methodLinkNest "LineFlow$Layout" 31 ⟨"LineFlow$Flow", "<init>", "()V"⟩ "LineFlow", .methodLinkNest "LineFlow$Flow" 9 ⟨"LineFlow$Floats", "<init>", "()V"⟩ "LineFlow", .methodLinkNest "LineFlow$Flow" 18 ⟨"LineFlow$Line", "<init>", "()V"⟩ "LineFlow", .methodLinkNest "LineFlow$Node" 28 ⟨"LineFlow$Box", "<init>", "()V"⟩ "LineFlow", .methodLinkNest "LineFlow$Layout" 107 ⟨"LineFlow$Word", "<init>", "()V"⟩ "LineFlow", .methodLinkNest "LineFlow$Word" 9 ⟨"LineFlow$Box", "<init>", "()V"⟩ "LineFlow", .castable "LineFlow$Word" "java/lang/Object", .arrayOver (.object "LineFlow$Node"), .arrayOver (.object "LineFlow$Flow"), .arrayOver (.object "java/lang/Object"), .declares am_gcn]
def am_nwp : List Nat := [237, 240, 259, 126, 138, 144, 172, 263, 499, 504, 1195, 88, 123, 571, 1185]
def am_at (i : Nat) (w : Cond) : Bool := decide (lw_tbl[i]? = some w) && goodWord w
theorem am_at_ok {i : Nat} {w : Cond} (h : am_at i w = true) : w ∈ am_ts := by
  simp only [am_at, Bool.and_eq_true, decide_eq_true_eq] at h
  exact List.mem_filter.mpr ⟨List.mem_of_getElem? h.1, h.2⟩
def am_ch : Nat → List Nat := fun c => match c with
  | 0 => [287, 289, 291, 293, 295, 262, 69]
  | 1 => [157, 159, 161, 163, 165, 167, 143, 66]
  | 2 => [212, 214, 216, 218, 220, 222, 224, 226, 228, 230, 232, 137, 65]
  | 3 => [241, 243, 245, 247, 90, 60]
  | 4 => [181, 183, 185, 187, 189, 171, 67]
  | 5 => [346, 348, 350, 352, 354, 356, 358, 360, 362, 364, 366, 368, 370, 372, 374, 376, 254, 68]
  | 6 => [132, 134, 125, 64]
  | 7 => [514, 516, 518, 520, 498, 74]
  | 8 => [384, 386, 388, 390, 392, 80, 59]
  | 9 => [891, 893, 895, 897, 899, 901, 903, 905, 907, 909, 911, 913, 915, 917, 919, 921, 923, 925, 927, 929, 931, 933, 935, 937, 939, 941, 943, 945, 947, 949, 951, 953, 955, 957, 959, 961, 963, 965, 967, 969, 971, 973, 975, 977, 979, 981, 983, 985, 987, 989, 991, 993, 995, 997, 999, 1001, 822, 70]
  | 10 => [118, 114, 116, 96, 63]
  | _ => []
def am_tyD (T : u_T) (k : Nat) : FieldType := (parseFieldDescriptor (T k).2.2.1).getD .int
def am_ckC (c : Nat) : Bool := match am_cl[c]? with
  | none => false
  | some r => r.1 == am_nm c && (List.range r.2.2).all (fun k => am_at ((am_ch c).getD k 0) (u_lay r.1 r.2.1 k)) && am_at ((am_ch c).getD r.2.2 0) (.instantiable r.1 r.2.2) && am_at ((am_ch c).getD (r.2.2 + 1) 0) (.initialized r.1) &&
    (List.range r.2.2).all (fun a => (List.range r.2.2).all (fun b => a == b || (r.2.1 a).2.1 != (r.2.1 b).2.1)) && (List.range r.2.2).all (fun k => decide (parseFieldDescriptor (r.2.1 k).2.2.1 = some (am_tyD r.2.1 k))) &&
    decide (am_fl c = some ((List.range r.2.2).map (fun k => (am_tyD r.2.1 k, (r.2.1 k).2.2.2))))
def am_pm (y : MethodName) (n : Nat) : Bool := decide ((parseMethodDescriptor y.desc).map (fun d => d.parameters.length) = some n)
def am_rt (m : Nat) : Bool := match am_mt[m]? with
  | none => false
  | some q => q.2.2.2.2.1 == none
def am_chk (o : Nat) (e h : Nat × Nat × Nat × Nat) : Bool := match e.2.1 with
  | 1 => match am_cl[e.2.2.1]? with
    | none => false
    | some r => decide (e.2.2.2 < r.2.2) && (!(r.2.1 e.2.2.2).2.2.2 || (r.2.1 e.2.2.2).1 == am_nm e.2.2.1) && if h.2.1 = 0 then am_at h.1 (.fieldLink (am_nm o) e.1 (r.2.1 e.2.2.2).1 (r.2.1 e.2.2.2).2.1 (r.2.1 e.2.2.2).2.2.1) else am_at h.1 (.fieldLink (am_nm o) e.1 "java/util/ArrayList" (r.2.1 e.2.2.2).2.1 (r.2.1 e.2.2.2).2.2.1) && am_at h.2.1 (.sameField "java/util/ArrayList" (r.2.1 e.2.2.2).1 (r.2.1 e.2.2.2).2.1 (r.2.1 e.2.2.2).2.2.1)
  | 2 => match am_cl[e.2.2.1]? with
    | none => false
    | some r => decide (e.2.2.2 < r.2.2) && (!(r.2.1 e.2.2.2).2.2.2 || (r.2.1 e.2.2.2).1 == am_nm e.2.2.1) && decide (Cond.fieldLinkNest (am_nm o) e.1 (r.2.1 e.2.2.2).1 (r.2.1 e.2.2.2).2.1 (r.2.1 e.2.2.2).2.2.1 "LineFlow" ∈ am_nw)
  | 3 => e.2.2.1 == 1 && o == 5 && e.1 == 15 || e.2.2.1 == 2 && o == 10 && e.1 == 39
  | 4 => am_at h.1 (.methodLink (am_nm o) e.1 (am_my e.2.2.1)) && am_at h.2.1 (.instanceMethod (am_my e.2.2.1)) && am_at h.2.2.1 (.selects (am_my e.2.2.1).cls (am_my e.2.2.1) (am_my e.2.2.1)) && am_pm (am_my e.2.2.1) e.2.2.2
  | 5 => am_at h.1 (.methodLink (am_nm o) e.1 (am_my e.2.2.1)) && am_at h.2.1 (.static (am_my e.2.2.1)) && am_pm (am_my e.2.2.1) e.2.2.2
  | 6 => am_at h.1 (.methodLink (am_nm o) e.1 (am_my e.2.2.1)) && am_at h.2.1 (.instanceMethod (am_my e.2.2.1)) && (am_my e.2.2.1).name == "<init>" && am_pm (am_my e.2.2.1) e.2.2.2 && am_rt e.2.2.1
  | 7 => decide (Cond.methodLinkNest (am_nm o) e.1 (am_my e.2.2.1) "LineFlow" ∈ am_nw) && am_at h.2.1 (.instanceMethod (am_my e.2.2.1)) && (am_my e.2.2.1).name == "<init>" && am_pm (am_my e.2.2.1) e.2.2.2 && am_rt e.2.2.1
  | 8 => am_at h.1 (.methodLink (am_nm o) e.1 objectInit)
  | 9 => am_at h.1 (.classLink (am_nm o) e.1 (am_nm e.2.2.1))
  | 12 => am_at h.1 (.constant (am_nm o) e.1 (Int32.ofNat e.2.2.1))
  | 13 => am_at h.1 (.methodLink (am_nm o) e.1 arraycopyName)
  | 14 => am_at h.1 (.methodLink (am_nm o) e.1 am_gcn)
  | 15 => am_at h.1 (.classLink (am_nm o) e.1 "[Ljava/lang/Object;")
  | 16 => am_at h.1 (.methodLink (am_nm o) e.1 Lib.Math.max.name)
  | 17 => am_at h.1 (.methodLink (am_nm o) e.1 Lib.Math.min.name)
  | _ => false
def am_ckP (o : Nat) : Bool := decide ((am_pools.getD o []).length = (am_hints.getD o []).length) && ((am_pools.getD o []).zip (am_hints.getD o [])).all (fun q => am_chk o q.1 q.2)
def am_ckM (q : MethodName × am_I) : Bool := q.1.cls == am_nm q.2.1 && plainName q.1.cls && q.1.cls != "java/lang/invoke/MethodHandle" && q.1.cls != "java/lang/invoke/VarHandle" && (!q.2.2.2.2.2 || q.1.name == "<init>") && decide (q.2.2.2.1 ≤ 40) && (List.range 21).any (fun i => am_at (58 + i) (.initialized q.1.cls))
theorem am_ckC0 : am_ckC 0 = true := by decide +kernel
theorem am_ckC1 : am_ckC 1 = true := by decide +kernel
theorem am_ckC2 : am_ckC 2 = true := by decide +kernel
theorem am_ckC3 : am_ckC 3 = true := by decide +kernel
theorem am_ckC4 : am_ckC 4 = true := by decide +kernel
theorem am_ckC5 : am_ckC 5 = true := by decide +kernel
theorem am_ckC6 : am_ckC 6 = true := by decide +kernel
theorem am_ckC7 : am_ckC 7 = true := by decide +kernel
theorem am_ckC8 : am_ckC 8 = true := by decide +kernel
theorem am_ckC9 : am_ckC 9 = true := by decide +kernel
theorem am_ckC10 : am_ckC 10 = true := by decide +kernel
theorem am_ckP0 : am_ckP 0 = true := by decide +kernel
theorem am_ckP1 : am_ckP 1 = true := by decide +kernel
theorem am_ckP2 : am_ckP 2 = true := by decide +kernel
theorem am_ckP3 : am_ckP 3 = true := by decide +kernel
theorem am_ckP4 : am_ckP 4 = true := by decide +kernel
theorem am_ckP5 : am_ckP 5 = true := by decide +kernel
theorem am_ckP6 : am_ckP 6 = true := by decide +kernel
theorem am_ckP7 : am_ckP 7 = true := by decide +kernel
theorem am_ckP8 : am_ckP 8 = true := by decide +kernel
theorem am_ckP9 : am_ckP 9 = true := by decide +kernel
theorem am_ckP10 : am_ckP 10 = true := by decide +kernel
theorem am_ckP11 : am_ckP 11 = true := by decide +kernel
theorem am_ckP12 : am_ckP 12 = true := by decide +kernel
theorem am_ckP13 : am_ckP 13 = true := by decide +kernel
theorem am_ckP14 : am_ckP 14 = true := by decide +kernel
theorem am_ckP15 : am_ckP 15 = true := by decide +kernel
theorem am_ckP16 : am_ckP 16 = true := by decide +kernel
theorem am_ckP17 : am_ckP 17 = true := by decide +kernel
theorem am_ckP18 : am_ckP 18 = true := by decide +kernel
theorem am_ckP19 : am_ckP 19 = true := by decide +kernel
theorem am_ckP20 : am_ckP 20 = true := by decide +kernel
theorem am_ckM0 : am_mt0.all am_ckM = true := by decide +kernel
theorem am_ckM1 : am_mt1.all am_ckM = true := by decide +kernel
theorem am_ckM2 : am_mt2.all am_ckM = true := by decide +kernel
theorem am_ckM3 : am_mt3.all am_ckM = true := by decide +kernel
