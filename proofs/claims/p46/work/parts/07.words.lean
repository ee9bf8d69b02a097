theorem zm34 : (Jvm.Cond.fieldLink "SluiceStream$Positions" (9 : Nat) "SluiceStream$Positions" "numbers" "[I") ∈ zT := List.mem_filter.mpr ⟨List.mem_of_getElem? (i := 49) (by decide +kernel), by decide +kernel⟩
theorem zm35 : (Jvm.Cond.laysFinal "SluiceStream$Positions" "SluiceStream$Positions" "numbers" "[I") ∈ zT := List.mem_filter.mpr ⟨List.mem_of_getElem? (i := 50) (by decide +kernel), by decide +kernel⟩
theorem zm339 : (Jvm.Cond.methodLink "SluiceStream$Positions" (15 : Nat) ({ cls := "java/lang/Math", name := "max", desc := "(II)I" } : Jvm.MethodName)) ∈ zT := List.mem_filter.mpr ⟨List.mem_of_getElem? (i := 354) (by decide +kernel), by decide +kernel⟩
theorem zm340 : (Jvm.Cond.static ({ cls := "java/lang/Math", name := "max", desc := "(II)I" } : Jvm.MethodName)) ∈ zT := List.mem_filter.mpr ⟨List.mem_of_getElem? (i := 355) (by decide +kernel), by decide +kernel⟩
theorem zm13 : (Jvm.Cond.initialized "java/lang/Math") ∈ zT := List.mem_filter.mpr ⟨List.mem_of_getElem? (i := 28) (by decide +kernel), by decide +kernel⟩
theorem zm341 : (Jvm.Cond.code ({ cls := "java/lang/Math", name := "max", desc := "(II)I" } : Jvm.MethodName) prog_13_method_65_code (2 : Nat) (Option.some Jvm.ClassFile.FieldType.int)) ∈ zT := List.mem_filter.mpr ⟨List.mem_of_getElem? (i := 356) (by decide +kernel), by decide +kernel⟩
theorem zm323 : (Jvm.Cond.methodLink "SluiceStream$Positions" (21 : Nat) ({ cls := "SluiceStream$Positions", name := "at", desc := "(I)I" } : Jvm.MethodName)) ∈ zT := List.mem_filter.mpr ⟨List.mem_of_getElem? (i := 338) (by decide +kernel), by decide +kernel⟩
theorem zm3 : (Jvm.Cond.initialized "SluiceStream$Positions") ∈ zT := List.mem_filter.mpr ⟨List.mem_of_getElem? (i := 18) (by decide +kernel), by decide +kernel⟩
theorem zm326 : (Jvm.Cond.code ({ cls := "SluiceStream$Positions", name := "at", desc := "(I)I" } : Jvm.MethodName) prog_2_method_2_code (2 : Nat) (Option.some Jvm.ClassFile.FieldType.int)) ∈ zT := List.mem_filter.mpr ⟨List.mem_of_getElem? (i := 341) (by decide +kernel), by decide +kernel⟩
theorem zm324 : (Jvm.Cond.instanceMethod ({ cls := "SluiceStream$Positions", name := "at", desc := "(I)I" } : Jvm.MethodName)) ∈ zT := List.mem_filter.mpr ⟨List.mem_of_getElem? (i := 339) (by decide +kernel), by decide +kernel⟩
theorem zm325 : (Jvm.Cond.selects "SluiceStream$Positions" ({ cls := "SluiceStream$Positions", name := "at", desc := "(I)I" } : Jvm.MethodName) ({ cls := "SluiceStream$Positions", name := "at", desc := "(I)I" } : Jvm.MethodName)) ∈ zT := List.mem_filter.mpr ⟨List.mem_of_getElem? (i := 340) (by decide +kernel), by decide +kernel⟩
theorem zm164 : (Jvm.Cond.fieldLink "SluiceStream$Rows" (9 : Nat) "SluiceStream$Rows" "size" "I") ∈ zT := List.mem_filter.mpr ⟨List.mem_of_getElem? (i := 179) (by decide +kernel), by decide +kernel⟩
theorem zm166 : (Jvm.Cond.laysFinal "SluiceStream$Rows" "SluiceStream$Rows" "columns" "I") ∈ zT := List.mem_filter.mpr ⟨List.mem_of_getElem? (i := 181) (by decide +kernel), by decide +kernel⟩
theorem zm168 : (Jvm.Cond.laysFinal "SluiceStream$Rows" "SluiceStream$Rows" "cells" "[I") ∈ zT := List.mem_filter.mpr ⟨List.mem_of_getElem? (i := 183) (by decide +kernel), by decide +kernel⟩
theorem zm170 : (Jvm.Cond.lays "SluiceStream$Rows" "SluiceStream$Rows" "size" "I") ∈ zT := List.mem_filter.mpr ⟨List.mem_of_getElem? (i := 185) (by decide +kernel), by decide +kernel⟩
theorem zm162 : (Jvm.Cond.fieldLink "SluiceStream$Rows" (15 : Nat) "SluiceStream$Rows" "columns" "I") ∈ zT := List.mem_filter.mpr ⟨List.mem_of_getElem? (i := 177) (by decide +kernel), by decide +kernel⟩
theorem zm163 : (Jvm.Cond.fieldLink "SluiceStream$Rows" (18 : Nat) "SluiceStream$Rows" "cells" "[I") ∈ zT := List.mem_filter.mpr ⟨List.mem_of_getElem? (i := 178) (by decide +kernel), by decide +kernel⟩
theorem zm295 : (Jvm.Cond.methodLink "SluiceStream$Rows" (22 : Nat) ({ cls := "SluiceStream$Rows", name := "holds", desc := "(I)Z" } : Jvm.MethodName)) ∈ zT := List.mem_filter.mpr ⟨List.mem_of_getElem? (i := 310) (by decide +kernel), by decide +kernel⟩
theorem zm6 : (Jvm.Cond.initialized "SluiceStream$Rows") ∈ zT := List.mem_filter.mpr ⟨List.mem_of_getElem? (i := 21) (by decide +kernel), by decide +kernel⟩
theorem zm298 : (Jvm.Cond.code ({ cls := "SluiceStream$Rows", name := "holds", desc := "(I)Z" } : Jvm.MethodName) prog_4_method_2_code (2 : Nat) (Option.some Jvm.ClassFile.FieldType.boolean)) ∈ zT := List.mem_filter.mpr ⟨List.mem_of_getElem? (i := 313) (by decide +kernel), by decide +kernel⟩
theorem zm296 : (Jvm.Cond.instanceMethod ({ cls := "SluiceStream$Rows", name := "holds", desc := "(I)Z" } : Jvm.MethodName)) ∈ zT := List.mem_filter.mpr ⟨List.mem_of_getElem? (i := 311) (by decide +kernel), by decide +kernel⟩
theorem zm297 : (Jvm.Cond.selects "SluiceStream$Rows" ({ cls := "SluiceStream$Rows", name := "holds", desc := "(I)Z" } : Jvm.MethodName) ({ cls := "SluiceStream$Rows", name := "holds", desc := "(I)Z" } : Jvm.MethodName)) ∈ zT := List.mem_filter.mpr ⟨List.mem_of_getElem? (i := 312) (by decide +kernel), by decide +kernel⟩
theorem zm45 : (Jvm.Cond.fieldLink "SluiceStream$Timer" (9 : Nat) "SluiceStream$Timer" "now" "I") ∈ zT := List.mem_filter.mpr ⟨List.mem_of_getElem? (i := 60) (by decide +kernel), by decide +kernel⟩
theorem zm57 : (Jvm.Cond.lays "SluiceStream$Timer" "SluiceStream$Timer" "now" "I") ∈ zT := List.mem_filter.mpr ⟨List.mem_of_getElem? (i := 72) (by decide +kernel), by decide +kernel⟩
theorem zm59 : (Jvm.Cond.lays "SluiceStream$Timer" "SluiceStream$Timer" "span" "I") ∈ zT := List.mem_filter.mpr ⟨List.mem_of_getElem? (i := 74) (by decide +kernel), by decide +kernel⟩
theorem zm61 : (Jvm.Cond.lays "SluiceStream$Timer" "SluiceStream$Timer" "endsAt" "I") ∈ zT := List.mem_filter.mpr ⟨List.mem_of_getElem? (i := 76) (by decide +kernel), by decide +kernel⟩
theorem zm63 : (Jvm.Cond.lays "SluiceStream$Timer" "SluiceStream$Timer" "timedTo" "I") ∈ zT := List.mem_filter.mpr ⟨List.mem_of_getElem? (i := 78) (by decide +kernel), by decide +kernel⟩
theorem zm65 : (Jvm.Cond.lays "SluiceStream$Timer" "SluiceStream$Timer" "smoothed" "I") ∈ zT := List.mem_filter.mpr ⟨List.mem_of_getElem? (i := 80) (by decide +kernel), by decide +kernel⟩
theorem zm67 : (Jvm.Cond.lays "SluiceStream$Timer" "SluiceStream$Timer" "deviation" "I") ∈ zT := List.mem_filter.mpr ⟨List.mem_of_getElem? (i := 82) (by decide +kernel), by decide +kernel⟩
theorem zm69 : (Jvm.Cond.lays "SluiceStream$Timer" "SluiceStream$Timer" "timedSince" "I") ∈ zT := List.mem_filter.mpr ⟨List.mem_of_getElem? (i := 84) (by decide +kernel), by decide +kernel⟩
theorem zm71 : (Jvm.Cond.lays "SluiceStream$Timer" "SluiceStream$Timer" "sampled" "Z") ∈ zT := List.mem_filter.mpr ⟨List.mem_of_getElem? (i := 86) (by decide +kernel), by decide +kernel⟩
theorem zm49 : (Jvm.Cond.fieldLink "SluiceStream$Timer" (18 : Nat) "SluiceStream$Timer" "endsAt" "I") ∈ zT := List.mem_filter.mpr ⟨List.mem_of_getElem? (i := 64) (by decide +kernel), by decide +kernel⟩
theorem zm47 : (Jvm.Cond.fieldLink "SluiceStream$Timer" (15 : Nat) "SluiceStream$Timer" "span" "I") ∈ zT := List.mem_filter.mpr ⟨List.mem_of_getElem? (i := 62) (by decide +kernel), by decide +kernel⟩
theorem zm619 : (Jvm.Cond.methodLink "SluiceStream$Timer" (37 : Nat) ({ cls := "SluiceStream$Timer", name := "startAnew", desc := "()V" } : Jvm.MethodName)) ∈ zT := List.mem_filter.mpr ⟨List.mem_of_getElem? (i := 634) (by decide +kernel), by decide +kernel⟩
theorem zm4 : (Jvm.Cond.initialized "SluiceStream$Timer") ∈ zT := List.mem_filter.mpr ⟨List.mem_of_getElem? (i := 19) (by decide +kernel), by decide +kernel⟩
theorem zm622 : (Jvm.Cond.code ({ cls := "SluiceStream$Timer", name := "startAnew", desc := "()V" } : Jvm.MethodName) prog_6_method_3_code (1 : Nat) (Option.none : Option Jvm.ClassFile.FieldType)) ∈ zT := List.mem_filter.mpr ⟨List.mem_of_getElem? (i := 637) (by decide +kernel), by decide +kernel⟩
theorem zm620 : (Jvm.Cond.instanceMethod ({ cls := "SluiceStream$Timer", name := "startAnew", desc := "()V" } : Jvm.MethodName)) ∈ zT := List.mem_filter.mpr ⟨List.mem_of_getElem? (i := 635) (by decide +kernel), by decide +kernel⟩
theorem zm621 : (Jvm.Cond.selects "SluiceStream$Timer" ({ cls := "SluiceStream$Timer", name := "startAnew", desc := "()V" } : Jvm.MethodName) ({ cls := "SluiceStream$Timer", name := "startAnew", desc := "()V" } : Jvm.MethodName)) ∈ zT := List.mem_filter.mpr ⟨List.mem_of_getElem? (i := 636) (by decide +kernel), by decide +kernel⟩
theorem zm51 : (Jvm.Cond.fieldLink "SluiceStream$Timer" (21 : Nat) "SluiceStream$Timer" "timedTo" "I") ∈ zT := List.mem_filter.mpr ⟨List.mem_of_getElem? (i := 66) (by decide +kernel), by decide +kernel⟩
theorem zm375 : (Jvm.Cond.methodLink "SluiceStream$Timer" (40 : Nat) ({ cls := "java/lang/Math", name := "min", desc := "(II)I" } : Jvm.MethodName)) ∈ zT := List.mem_filter.mpr ⟨List.mem_of_getElem? (i := 390) (by decide +kernel), by decide +kernel⟩
theorem zm376 : (Jvm.Cond.static ({ cls := "java/lang/Math", name := "min", desc := "(II)I" } : Jvm.MethodName)) ∈ zT := List.mem_filter.mpr ⟨List.mem_of_getElem? (i := 391) (by decide +kernel), by decide +kernel⟩
theorem zm377 : (Jvm.Cond.code ({ cls := "java/lang/Math", name := "min", desc := "(II)I" } : Jvm.MethodName) prog_13_method_69_code (2 : Nat) (Option.some Jvm.ClassFile.FieldType.int)) ∈ zT := List.mem_filter.mpr ⟨List.mem_of_getElem? (i := 392) (by decide +kernel), by decide +kernel⟩
theorem zm378 : (Jvm.Cond.methodLink "SluiceStream$Timer" (46 : Nat) ({ cls := "SluiceStream$Timer", name := "forgetTiming", desc := "()V" } : Jvm.MethodName)) ∈ zT := List.mem_filter.mpr ⟨List.mem_of_getElem? (i := 393) (by decide +kernel), by decide +kernel⟩
theorem zm381 : (Jvm.Cond.code ({ cls := "SluiceStream$Timer", name := "forgetTiming", desc := "()V" } : Jvm.MethodName) prog_6_method_8_code (1 : Nat) (Option.none : Option Jvm.ClassFile.FieldType)) ∈ zT := List.mem_filter.mpr ⟨List.mem_of_getElem? (i := 396) (by decide +kernel), by decide +kernel⟩
theorem zm379 : (Jvm.Cond.instanceMethod ({ cls := "SluiceStream$Timer", name := "forgetTiming", desc := "()V" } : Jvm.MethodName)) ∈ zT := List.mem_filter.mpr ⟨List.mem_of_getElem? (i := 394) (by decide +kernel), by decide +kernel⟩
theorem zm380 : (Jvm.Cond.selects "SluiceStream$Timer" ({ cls := "SluiceStream$Timer", name := "forgetTiming", desc := "()V" } : Jvm.MethodName) ({ cls := "SluiceStream$Timer", name := "forgetTiming", desc := "()V" } : Jvm.MethodName)) ∈ zT := List.mem_filter.mpr ⟨List.mem_of_getElem? (i := 395) (by decide +kernel), by decide +kernel⟩
theorem zm382 : (Jvm.Cond.methodLink "SluiceStream$Timer" (49 : Nat) ({ cls := "SluiceStream$Timer", name := "stop", desc := "()V" } : Jvm.MethodName)) ∈ zT := List.mem_filter.mpr ⟨List.mem_of_getElem? (i := 397) (by decide +kernel), by decide +kernel⟩
theorem zm385 : (Jvm.Cond.code ({ cls := "SluiceStream$Timer", name := "stop", desc := "()V" } : Jvm.MethodName) prog_6_method_5_code (1 : Nat) (Option.none : Option Jvm.ClassFile.FieldType)) ∈ zT := List.mem_filter.mpr ⟨List.mem_of_getElem? (i := 400) (by decide +kernel), by decide +kernel⟩
theorem zm383 : (Jvm.Cond.instanceMethod ({ cls := "SluiceStream$Timer", name := "stop", desc := "()V" } : Jvm.MethodName)) ∈ zT := List.mem_filter.mpr ⟨List.mem_of_getElem? (i := 398) (by decide +kernel), by decide +kernel⟩
theorem zm384 : (Jvm.Cond.selects "SluiceStream$Timer" ({ cls := "SluiceStream$Timer", name := "stop", desc := "()V" } : Jvm.MethodName) ({ cls := "SluiceStream$Timer", name := "stop", desc := "()V" } : Jvm.MethodName)) ∈ zT := List.mem_filter.mpr ⟨List.mem_of_getElem? (i := 399) (by decide +kernel), by decide +kernel⟩
theorem zm55 : (Jvm.Cond.fieldLink "SluiceStream$Timer" (30 : Nat) "SluiceStream$Timer" "timedSince" "I") ∈ zT := List.mem_filter.mpr ⟨List.mem_of_getElem? (i := 70) (by decide +kernel), by decide +kernel⟩
theorem zm56 : (Jvm.Cond.fieldLink "SluiceStream$Timer" (33 : Nat) "SluiceStream$Timer" "sampled" "Z") ∈ zT := List.mem_filter.mpr ⟨List.mem_of_getElem? (i := 71) (by decide +kernel), by decide +kernel⟩
theorem zm53 : (Jvm.Cond.fieldLink "SluiceStream$Timer" (24 : Nat) "SluiceStream$Timer" "smoothed" "I") ∈ zT := List.mem_filter.mpr ⟨List.mem_of_getElem? (i := 68) (by decide +kernel), by decide +kernel⟩
theorem zm54 : (Jvm.Cond.fieldLink "SluiceStream$Timer" (27 : Nat) "SluiceStream$Timer" "deviation" "I") ∈ zT := List.mem_filter.mpr ⟨List.mem_of_getElem? (i := 69) (by decide +kernel), by decide +kernel⟩
theorem zm652 : (Jvm.Cond.methodLink "SluiceStream$Timer" (60 : Nat) ({ cls := "java/lang/Math", name := "max", desc := "(II)I" } : Jvm.MethodName)) ∈ zT := List.mem_filter.mpr ⟨List.mem_of_getElem? (i := 667) (by decide +kernel), by decide +kernel⟩
theorem zm649 : (Jvm.Cond.methodLink "SluiceStream$Timer" (56 : Nat) ({ cls := "java/lang/Math", name := "abs", desc := "(I)I" } : Jvm.MethodName)) ∈ zT := List.mem_filter.mpr ⟨List.mem_of_getElem? (i := 664) (by decide +kernel), by decide +kernel⟩
theorem zm650 : (Jvm.Cond.static ({ cls := "java/lang/Math", name := "abs", desc := "(I)I" } : Jvm.MethodName)) ∈ zT := List.mem_filter.mpr ⟨List.mem_of_getElem? (i := 665) (by decide +kernel), by decide +kernel⟩
theorem zm651 : (Jvm.Cond.code ({ cls := "java/lang/Math", name := "abs", desc := "(I)I" } : Jvm.MethodName) prog_13_method_59_code (1 : Nat) (Option.some Jvm.ClassFile.FieldType.int)) ∈ zT := List.mem_filter.mpr ⟨List.mem_of_getElem? (i := 666) (by decide +kernel), by decide +kernel⟩
theorem zm645 : (Jvm.Cond.methodLink "SluiceStream$Timer" (52 : Nat) ({ cls := "SluiceStream$Timer", name := "takeSample", desc := "(I)V" } : Jvm.MethodName)) ∈ zT := List.mem_filter.mpr ⟨List.mem_of_getElem? (i := 660) (by decide +kernel), by decide +kernel⟩
theorem zm648 : (Jvm.Cond.code ({ cls := "SluiceStream$Timer", name := "takeSample", desc := "(I)V" } : Jvm.MethodName) prog_6_method_10_code (3 : Nat) (Option.none : Option Jvm.ClassFile.FieldType)) ∈ zT := List.mem_filter.mpr ⟨List.mem_of_getElem? (i := 663) (by decide +kernel), by decide +kernel⟩
theorem zm647 : (Jvm.Cond.instanceMethod ({ cls := "SluiceStream$Timer", name := "takeSample", desc := "(I)V" } : Jvm.MethodName)) ∈ zT := List.mem_filter.mpr ⟨List.mem_of_getElem? (i := 662) (by decide +kernel), by decide +kernel⟩
theorem zms11 : Jvm.Cond.selects "SluiceStream$Timer" ({ cls := "SluiceStream$Timer", name := "takeSample", desc := "(I)V" } : Jvm.MethodName) ({ cls := "SluiceStream$Timer", name := "takeSample", desc := "(I)V" } : Jvm.MethodName) ∈ zT := List.mem_filter.mpr ⟨List.mem_of_getElem? (i := 11) (by decide +kernel), by decide +kernel⟩
theorem zm145 : (Jvm.Cond.fieldLink "SluiceStream$Receiver" (25 : Nat) "SluiceStream$Receiver" "readAt" "I") ∈ zT := List.mem_filter.mpr ⟨List.mem_of_getElem? (i := 160) (by decide +kernel), by decide +kernel⟩
theorem zm147 : (Jvm.Cond.laysFinal "SluiceStream$Receiver" "SluiceStream$Receiver" "held" "LSluiceStream$Positions;") ∈ zT := List.mem_filter.mpr ⟨List.mem_of_getElem? (i := 162) (by decide +kernel), by decide +kernel⟩
theorem zm149 : (Jvm.Cond.lays "SluiceStream$Receiver" "SluiceStream$Receiver" "deliveries" "I") ∈ zT := List.mem_filter.mpr ⟨List.mem_of_getElem? (i := 164) (by decide +kernel), by decide +kernel⟩
theorem zm151 : (Jvm.Cond.lays "SluiceStream$Receiver" "SluiceStream$Receiver" "firstMissing" "I") ∈ zT := List.mem_filter.mpr ⟨List.mem_of_getElem? (i := 166) (by decide +kernel), by decide +kernel⟩
theorem zm153 : (Jvm.Cond.lays "SluiceStream$Receiver" "SluiceStream$Receiver" "readAt" "I") ∈ zT := List.mem_filter.mpr ⟨List.mem_of_getElem? (i := 168) (by decide +kernel), by decide +kernel⟩
theorem zm143 : (Jvm.Cond.fieldLink "SluiceStream$Receiver" (22 : Nat) "SluiceStream$Receiver" "firstMissing" "I") ∈ zT := List.mem_filter.mpr ⟨List.mem_of_getElem? (i := 158) (by decide +kernel), by decide +kernel⟩
theorem zm142 : (Jvm.Cond.fieldLink "SluiceStream$Receiver" (18 : Nat) "SluiceStream$Receiver" "deliveries" "I") ∈ zT := List.mem_filter.mpr ⟨List.mem_of_getElem? (i := 157) (by decide +kernel), by decide +kernel⟩
theorem zm141 : (Jvm.Cond.fieldLink "SluiceStream$Receiver" (12 : Nat) "SluiceStream$Receiver" "held" "LSluiceStream$Positions;") ∈ zT := List.mem_filter.mpr ⟨List.mem_of_getElem? (i := 156) (by decide +kernel), by decide +kernel⟩
theorem zm418 : (Jvm.Cond.methodLink "SluiceStream$Receiver" (28 : Nat) ({ cls := "java/lang/Math", name := "min", desc := "(II)I" } : Jvm.MethodName)) ∈ zT := List.mem_filter.mpr ⟨List.mem_of_getElem? (i := 433) (by decide +kernel), by decide +kernel⟩
theorem zm419 : (Jvm.Cond.methodLink "SluiceStream$Receiver" (34 : Nat) ({ cls := "SluiceStream$Positions", name := "fillEmpty", desc := "(III)I" } : Jvm.MethodName)) ∈ zT := List.mem_filter.mpr ⟨List.mem_of_getElem? (i := 434) (by decide +kernel), by decide +kernel⟩
theorem zm422 : (Jvm.Cond.code ({ cls := "SluiceStream$Positions", name := "fillEmpty", desc := "(III)I" } : Jvm.MethodName) prog_2_method_3_code (6 : Nat) (Option.some Jvm.ClassFile.FieldType.int)) ∈ zT := List.mem_filter.mpr ⟨List.mem_of_getElem? (i := 437) (by decide +kernel), by decide +kernel⟩
theorem zm420 : (Jvm.Cond.instanceMethod ({ cls := "SluiceStream$Positions", name := "fillEmpty", desc := "(III)I" } : Jvm.MethodName)) ∈ zT := List.mem_filter.mpr ⟨List.mem_of_getElem? (i := 435) (by decide +kernel), by decide +kernel⟩
theorem zm421 : (Jvm.Cond.selects "SluiceStream$Positions" ({ cls := "SluiceStream$Positions", name := "fillEmpty", desc := "(III)I" } : Jvm.MethodName) ({ cls := "SluiceStream$Positions", name := "fillEmpty", desc := "(III)I" } : Jvm.MethodName)) ∈ zT := List.mem_filter.mpr ⟨List.mem_of_getElem? (i := 436) (by decide +kernel), by decide +kernel⟩
theorem zm331 : (Jvm.Cond.methodLink "SluiceStream$Receiver" (38 : Nat) ({ cls := "SluiceStream$Positions", name := "firstEmpty", desc := "(II)I" } : Jvm.MethodName)) ∈ zT := List.mem_filter.mpr ⟨List.mem_of_getElem? (i := 346) (by decide +kernel), by decide +kernel⟩
theorem zm334 : (Jvm.Cond.code ({ cls := "SluiceStream$Positions", name := "firstEmpty", desc := "(II)I" } : Jvm.MethodName) prog_2_method_6_code (4 : Nat) (Option.some Jvm.ClassFile.FieldType.int)) ∈ zT := List.mem_filter.mpr ⟨List.mem_of_getElem? (i := 349) (by decide +kernel), by decide +kernel⟩
theorem zm332 : (Jvm.Cond.instanceMethod ({ cls := "SluiceStream$Positions", name := "firstEmpty", desc := "(II)I" } : Jvm.MethodName)) ∈ zT := List.mem_filter.mpr ⟨List.mem_of_getElem? (i := 347) (by decide +kernel), by decide +kernel⟩
theorem zm333 : (Jvm.Cond.selects "SluiceStream$Positions" ({ cls := "SluiceStream$Positions", name := "firstEmpty", desc := "(II)I" } : Jvm.MethodName) ({ cls := "SluiceStream$Positions", name := "firstEmpty", desc := "(II)I" } : Jvm.MethodName)) ∈ zT := List.mem_filter.mpr ⟨List.mem_of_getElem? (i := 348) (by decide +kernel), by decide +kernel⟩
theorem zm279 : (Jvm.Cond.methodLink "SluiceStream$Receiver" (41 : Nat) ({ cls := "SluiceStream$Receiver", name := "room", desc := "()I" } : Jvm.MethodName)) ∈ zT := List.mem_filter.mpr ⟨List.mem_of_getElem? (i := 294) (by decide +kernel), by decide +kernel⟩
theorem zm5 : (Jvm.Cond.initialized "SluiceStream$Receiver") ∈ zT := List.mem_filter.mpr ⟨List.mem_of_getElem? (i := 20) (by decide +kernel), by decide +kernel⟩
theorem zm282 : (Jvm.Cond.code ({ cls := "SluiceStream$Receiver", name := "room", desc := "()I" } : Jvm.MethodName) prog_3_method_2_code (1 : Nat) (Option.some Jvm.ClassFile.FieldType.int)) ∈ zT := List.mem_filter.mpr ⟨List.mem_of_getElem? (i := 297) (by decide +kernel), by decide +kernel⟩
theorem zm280 : (Jvm.Cond.instanceMethod ({ cls := "SluiceStream$Receiver", name := "room", desc := "()I" } : Jvm.MethodName)) ∈ zT := List.mem_filter.mpr ⟨List.mem_of_getElem? (i := 295) (by decide +kernel), by decide +kernel⟩
theorem zm281 : (Jvm.Cond.selects "SluiceStream$Receiver" ({ cls := "SluiceStream$Receiver", name := "room", desc := "()I" } : Jvm.MethodName) ({ cls := "SluiceStream$Receiver", name := "room", desc := "()I" } : Jvm.MethodName)) ∈ zT := List.mem_filter.mpr ⟨List.mem_of_getElem? (i := 296) (by decide +kernel), by decide +kernel⟩
theorem zm319 : (Jvm.Cond.methodLink "SluiceStream$Receiver" (79 : Nat) ({ cls := "SluiceStream$Positions", name := "firstFilled", desc := "(II)I" } : Jvm.MethodName)) ∈ zT := List.mem_filter.mpr ⟨List.mem_of_getElem? (i := 334) (by decide +kernel), by decide +kernel⟩
theorem zm322 : (Jvm.Cond.code ({ cls := "SluiceStream$Positions", name := "firstFilled", desc := "(II)I" } : Jvm.MethodName) prog_2_method_7_code (4 : Nat) (Option.some Jvm.ClassFile.FieldType.int)) ∈ zT := List.mem_filter.mpr ⟨List.mem_of_getElem? (i := 337) (by decide +kernel), by decide +kernel⟩
theorem zm320 : (Jvm.Cond.instanceMethod ({ cls := "SluiceStream$Positions", name := "firstFilled", desc := "(II)I" } : Jvm.MethodName)) ∈ zT := List.mem_filter.mpr ⟨List.mem_of_getElem? (i := 335) (by decide +kernel), by decide +kernel⟩
theorem zm321 : (Jvm.Cond.selects "SluiceStream$Positions" ({ cls := "SluiceStream$Positions", name := "firstFilled", desc := "(II)I" } : Jvm.MethodName) ({ cls := "SluiceStream$Positions", name := "firstFilled", desc := "(II)I" } : Jvm.MethodName)) ∈ zT := List.mem_filter.mpr ⟨List.mem_of_getElem? (i := 336) (by decide +kernel), by decide +kernel⟩
theorem zm327 : (Jvm.Cond.methodLink "SluiceStream$Receiver" (70 : Nat) ({ cls := "SluiceStream$Receiver", name := "endOfRun", desc := "(I)I" } : Jvm.MethodName)) ∈ zT := List.mem_filter.mpr ⟨List.mem_of_getElem? (i := 342) (by decide +kernel), by decide +kernel⟩
theorem zm330 : (Jvm.Cond.code ({ cls := "SluiceStream$Receiver", name := "endOfRun", desc := "(I)I" } : Jvm.MethodName) prog_3_method_10_code (2 : Nat) (Option.some Jvm.ClassFile.FieldType.int)) ∈ zT := List.mem_filter.mpr ⟨List.mem_of_getElem? (i := 345) (by decide +kernel), by decide +kernel⟩
theorem zm328 : (Jvm.Cond.instanceMethod ({ cls := "SluiceStream$Receiver", name := "endOfRun", desc := "(I)I" } : Jvm.MethodName)) ∈ zT := List.mem_filter.mpr ⟨List.mem_of_getElem? (i := 343) (by decide +kernel), by decide +kernel⟩
theorem zm329 : (Jvm.Cond.selects "SluiceStream$Receiver" ({ cls := "SluiceStream$Receiver", name := "endOfRun", desc := "(I)I" } : Jvm.MethodName) ({ cls := "SluiceStream$Receiver", name := "endOfRun", desc := "(I)I" } : Jvm.MethodName)) ∈ zT := List.mem_filter.mpr ⟨List.mem_of_getElem? (i := 344) (by decide +kernel), by decide +kernel⟩
theorem zm335 : (Jvm.Cond.methodLink "SluiceStream$Receiver" (73 : Nat) ({ cls := "SluiceStream$Positions", name := "greatest", desc := "(II)I" } : Jvm.MethodName)) ∈ zT := List.mem_filter.mpr ⟨List.mem_of_getElem? (i := 350) (by decide +kernel), by decide +kernel⟩
theorem zm338 : (Jvm.Cond.code ({ cls := "SluiceStream$Positions", name := "greatest", desc := "(II)I" } : Jvm.MethodName) prog_2_method_8_code (5 : Nat) (Option.some Jvm.ClassFile.FieldType.int)) ∈ zT := List.mem_filter.mpr ⟨List.mem_of_getElem? (i := 353) (by decide +kernel), by decide +kernel⟩
theorem zm336 : (Jvm.Cond.instanceMethod ({ cls := "SluiceStream$Positions", name := "greatest", desc := "(II)I" } : Jvm.MethodName)) ∈ zT := List.mem_filter.mpr ⟨List.mem_of_getElem? (i := 351) (by decide +kernel), by decide +kernel⟩
theorem zm337 : (Jvm.Cond.selects "SluiceStream$Positions" ({ cls := "SluiceStream$Positions", name := "greatest", desc := "(II)I" } : Jvm.MethodName) ({ cls := "SluiceStream$Positions", name := "greatest", desc := "(II)I" } : Jvm.MethodName)) ∈ zT := List.mem_filter.mpr ⟨List.mem_of_getElem? (i := 352) (by decide +kernel), by decide +kernel⟩
theorem zm315 : (Jvm.Cond.methodLink "SluiceStream$Receiver" (76 : Nat) ({ cls := "SluiceStream$Receiver", name := "blockFrom", desc := "(I)I" } : Jvm.MethodName)) ∈ zT := List.mem_filter.mpr ⟨List.mem_of_getElem? (i := 330) (by decide +kernel), by decide +kernel⟩
theorem zm318 : (Jvm.Cond.code ({ cls := "SluiceStream$Receiver", name := "blockFrom", desc := "(I)I" } : Jvm.MethodName) prog_3_method_11_code (4 : Nat) (Option.some Jvm.ClassFile.FieldType.int)) ∈ zT := List.mem_filter.mpr ⟨List.mem_of_getElem? (i := 333) (by decide +kernel), by decide +kernel⟩
theorem zm317 : (Jvm.Cond.instanceMethod ({ cls := "SluiceStream$Receiver", name := "blockFrom", desc := "(I)I" } : Jvm.MethodName)) ∈ zT := List.mem_filter.mpr ⟨List.mem_of_getElem? (i := 332) (by decide +kernel), by decide +kernel⟩
theorem zms3 : Jvm.Cond.selects "SluiceStream$Receiver" ({ cls := "SluiceStream$Receiver", name := "blockFrom", desc := "(I)I" } : Jvm.MethodName) ({ cls := "SluiceStream$Receiver", name := "blockFrom", desc := "(I)I" } : Jvm.MethodName) ∈ zT := List.mem_filter.mpr ⟨List.mem_of_getElem? (i := 3) (by decide +kernel), by decide +kernel⟩
theorem zm311 : (Jvm.Cond.methodLink "SluiceStream$Receiver" (66 : Nat) ({ cls := "SluiceStream$Receiver", name := "newestBlockBefore", desc := "(I)I" } : Jvm.MethodName)) ∈ zT := List.mem_filter.mpr ⟨List.mem_of_getElem? (i := 326) (by decide +kernel), by decide +kernel⟩
theorem zm314 : (Jvm.Cond.code ({ cls := "SluiceStream$Receiver", name := "newestBlockBefore", desc := "(I)I" } : Jvm.MethodName) prog_3_method_7_code (8 : Nat) (Option.some Jvm.ClassFile.FieldType.int)) ∈ zT := List.mem_filter.mpr ⟨List.mem_of_getElem? (i := 329) (by decide +kernel), by decide +kernel⟩
theorem zm313 : (Jvm.Cond.instanceMethod ({ cls := "SluiceStream$Receiver", name := "newestBlockBefore", desc := "(I)I" } : Jvm.MethodName)) ∈ zT := List.mem_filter.mpr ⟨List.mem_of_getElem? (i := 328) (by decide +kernel), by decide +kernel⟩
theorem zms2 : Jvm.Cond.selects "SluiceStream$Receiver" ({ cls := "SluiceStream$Receiver", name := "newestBlockBefore", desc := "(I)I" } : Jvm.MethodName) ({ cls := "SluiceStream$Receiver", name := "newestBlockBefore", desc := "(I)I" } : Jvm.MethodName) ∈ zT := List.mem_filter.mpr ⟨List.mem_of_getElem? (i := 2) (by decide +kernel), by decide +kernel⟩
theorem zm303 : (Jvm.Cond.methodLink "SluiceStream$Receiver" (58 : Nat) ({ cls := "SluiceStream$Rows", name := "setCell", desc := "(III)V" } : Jvm.MethodName)) ∈ zT := List.mem_filter.mpr ⟨List.mem_of_getElem? (i := 318) (by decide +kernel), by decide +kernel⟩
theorem zm306 : (Jvm.Cond.code ({ cls := "SluiceStream$Rows", name := "setCell", desc := "(III)V" } : Jvm.MethodName) prog_4_method_5_code (5 : Nat) (Option.none : Option Jvm.ClassFile.FieldType)) ∈ zT := List.mem_filter.mpr ⟨List.mem_of_getElem? (i := 321) (by decide +kernel), by decide +kernel⟩
theorem zm304 : (Jvm.Cond.instanceMethod ({ cls := "SluiceStream$Rows", name := "setCell", desc := "(III)V" } : Jvm.MethodName)) ∈ zT := List.mem_filter.mpr ⟨List.mem_of_getElem? (i := 319) (by decide +kernel), by decide +kernel⟩
theorem zm305 : (Jvm.Cond.selects "SluiceStream$Rows" ({ cls := "SluiceStream$Rows", name := "setCell", desc := "(III)V" } : Jvm.MethodName) ({ cls := "SluiceStream$Rows", name := "setCell", desc := "(III)V" } : Jvm.MethodName)) ∈ zT := List.mem_filter.mpr ⟨List.mem_of_getElem? (i := 320) (by decide +kernel), by decide +kernel⟩
theorem zm287 : (Jvm.Cond.methodLink "SluiceStream$Receiver" (45 : Nat) ({ cls := "SluiceStream$Rows", name := "isFull", desc := "()Z" } : Jvm.MethodName)) ∈ zT := List.mem_filter.mpr ⟨List.mem_of_getElem? (i := 302) (by decide +kernel), by decide +kernel⟩
theorem zm290 : (Jvm.Cond.code ({ cls := "SluiceStream$Rows", name := "isFull", desc := "()Z" } : Jvm.MethodName) prog_4_method_3_code (1 : Nat) (Option.some Jvm.ClassFile.FieldType.boolean)) ∈ zT := List.mem_filter.mpr ⟨List.mem_of_getElem? (i := 305) (by decide +kernel), by decide +kernel⟩
theorem zm288 : (Jvm.Cond.instanceMethod ({ cls := "SluiceStream$Rows", name := "isFull", desc := "()Z" } : Jvm.MethodName)) ∈ zT := List.mem_filter.mpr ⟨List.mem_of_getElem? (i := 303) (by decide +kernel), by decide +kernel⟩
theorem zm289 : (Jvm.Cond.selects "SluiceStream$Rows" ({ cls := "SluiceStream$Rows", name := "isFull", desc := "()Z" } : Jvm.MethodName) ({ cls := "SluiceStream$Rows", name := "isFull", desc := "()Z" } : Jvm.MethodName)) ∈ zT := List.mem_filter.mpr ⟨List.mem_of_getElem? (i := 304) (by decide +kernel), by decide +kernel⟩
theorem zm299 : (Jvm.Cond.methodLink "SluiceStream$Receiver" (55 : Nat) ({ cls := "SluiceStream$Rows", name := "addRow", desc := "()I" } : Jvm.MethodName)) ∈ zT := List.mem_filter.mpr ⟨List.mem_of_getElem? (i := 314) (by decide +kernel), by decide +kernel⟩
theorem zm302 : (Jvm.Cond.code ({ cls := "SluiceStream$Rows", name := "addRow", desc := "()I" } : Jvm.MethodName) prog_4_method_6_code (1 : Nat) (Option.some Jvm.ClassFile.FieldType.int)) ∈ zT := List.mem_filter.mpr ⟨List.mem_of_getElem? (i := 317) (by decide +kernel), by decide +kernel⟩
theorem zm300 : (Jvm.Cond.instanceMethod ({ cls := "SluiceStream$Rows", name := "addRow", desc := "()I" } : Jvm.MethodName)) ∈ zT := List.mem_filter.mpr ⟨List.mem_of_getElem? (i := 315) (by decide +kernel), by decide +kernel⟩
theorem zm301 : (Jvm.Cond.selects "SluiceStream$Rows" ({ cls := "SluiceStream$Rows", name := "addRow", desc := "()I" } : Jvm.MethodName) ({ cls := "SluiceStream$Rows", name := "addRow", desc := "()I" } : Jvm.MethodName)) ∈ zT := List.mem_filter.mpr ⟨List.mem_of_getElem? (i := 316) (by decide +kernel), by decide +kernel⟩
theorem zm307 : (Jvm.Cond.methodLink "SluiceStream$Receiver" (62 : Nat) ({ cls := "SluiceStream$Receiver", name := "tellBlocks", desc := "(LSluiceStream$Rows;I)I" } : Jvm.MethodName)) ∈ zT := List.mem_filter.mpr ⟨List.mem_of_getElem? (i := 322) (by decide +kernel), by decide +kernel⟩
theorem zm310 : (Jvm.Cond.code ({ cls := "SluiceStream$Receiver", name := "tellBlocks", desc := "(LSluiceStream$Rows;I)I" } : Jvm.MethodName) prog_3_method_6_code (8 : Nat) (Option.some Jvm.ClassFile.FieldType.int)) ∈ zT := List.mem_filter.mpr ⟨List.mem_of_getElem? (i := 325) (by decide +kernel), by decide +kernel⟩
theorem zm309 : (Jvm.Cond.instanceMethod ({ cls := "SluiceStream$Receiver", name := "tellBlocks", desc := "(LSluiceStream$Rows;I)I" } : Jvm.MethodName)) ∈ zT := List.mem_filter.mpr ⟨List.mem_of_getElem? (i := 324) (by decide +kernel), by decide +kernel⟩
theorem zms1 : Jvm.Cond.selects "SluiceStream$Receiver" ({ cls := "SluiceStream$Receiver", name := "tellBlocks", desc := "(LSluiceStream$Rows;I)I" } : Jvm.MethodName) ({ cls := "SluiceStream$Receiver", name := "tellBlocks", desc := "(LSluiceStream$Rows;I)I" } : Jvm.MethodName) ∈ zT := List.mem_filter.mpr ⟨List.mem_of_getElem? (i := 1) (by decide +kernel), by decide +kernel⟩
theorem zm291 : (Jvm.Cond.methodLink "SluiceStream$Receiver" (51 : Nat) ({ cls := "SluiceStream$Rows", name := "remove", desc := "(I)V" } : Jvm.MethodName)) ∈ zT := List.mem_filter.mpr ⟨List.mem_of_getElem? (i := 306) (by decide +kernel), by decide +kernel⟩
theorem zm294 : (Jvm.Cond.code ({ cls := "SluiceStream$Rows", name := "remove", desc := "(I)V" } : Jvm.MethodName) prog_4_method_7_code (3 : Nat) (Option.none : Option Jvm.ClassFile.FieldType)) ∈ zT := List.mem_filter.mpr ⟨List.mem_of_getElem? (i := 309) (by decide +kernel), by decide +kernel⟩
theorem zm292 : (Jvm.Cond.instanceMethod ({ cls := "SluiceStream$Rows", name := "remove", desc := "(I)V" } : Jvm.MethodName)) ∈ zT := List.mem_filter.mpr ⟨List.mem_of_getElem? (i := 307) (by decide +kernel), by decide +kernel⟩
theorem zm293 : (Jvm.Cond.selects "SluiceStream$Rows" ({ cls := "SluiceStream$Rows", name := "remove", desc := "(I)V" } : Jvm.MethodName) ({ cls := "SluiceStream$Rows", name := "remove", desc := "(I)V" } : Jvm.MethodName)) ∈ zT := List.mem_filter.mpr ⟨List.mem_of_getElem? (i := 308) (by decide +kernel), by decide +kernel⟩
theorem zm74 : (Jvm.Cond.fieldLink "SluiceStream$Sender" (12 : Nat) "SluiceStream$Sender" "marks" "LSluiceStream$Positions;") ∈ zT := List.mem_filter.mpr ⟨List.mem_of_getElem? (i := 89) (by decide +kernel), by decide +kernel⟩
theorem zm102 : (Jvm.Cond.laysFinal "SluiceStream$Sender" "SluiceStream$Sender" "marks" "LSluiceStream$Positions;") ∈ zT := List.mem_filter.mpr ⟨List.mem_of_getElem? (i := 117) (by decide +kernel), by decide +kernel⟩
theorem zm104 : (Jvm.Cond.laysFinal "SluiceStream$Sender" "SluiceStream$Sender" "timer" "LSluiceStream$Timer;") ∈ zT := List.mem_filter.mpr ⟨List.mem_of_getElem? (i := 119) (by decide +kernel), by decide +kernel⟩
theorem zm106 : (Jvm.Cond.lays "SluiceStream$Sender" "SluiceStream$Sender" "acked" "I") ∈ zT := List.mem_filter.mpr ⟨List.mem_of_getElem? (i := 121) (by decide +kernel), by decide +kernel⟩
theorem zm108 : (Jvm.Cond.lays "SluiceStream$Sender" "SluiceStream$Sender" "toSend" "I") ∈ zT := List.mem_filter.mpr ⟨List.mem_of_getElem? (i := 123) (by decide +kernel), by decide +kernel⟩
theorem zm110 : (Jvm.Cond.lays "SluiceStream$Sender" "SluiceStream$Sender" "sentBelow" "I") ∈ zT := List.mem_filter.mpr ⟨List.mem_of_getElem? (i := 125) (by decide +kernel), by decide +kernel⟩
theorem zm112 : (Jvm.Cond.lays "SluiceStream$Sender" "SluiceStream$Sender" "writtenBytes" "I") ∈ zT := List.mem_filter.mpr ⟨List.mem_of_getElem? (i := 127) (by decide +kernel), by decide +kernel⟩
theorem zm114 : (Jvm.Cond.lays "SluiceStream$Sender" "SluiceStream$Sender" "edgeAt" "I") ∈ zT := List.mem_filter.mpr ⟨List.mem_of_getElem? (i := 129) (by decide +kernel), by decide +kernel⟩
theorem zm116 : (Jvm.Cond.lays "SluiceStream$Sender" "SluiceStream$Sender" "congestion" "I") ∈ zT := List.mem_filter.mpr ⟨List.mem_of_getElem? (i := 131) (by decide +kernel), by decide +kernel⟩
theorem zm118 : (Jvm.Cond.lays "SluiceStream$Sender" "SluiceStream$Sender" "slowFrom" "I") ∈ zT := List.mem_filter.mpr ⟨List.mem_of_getElem? (i := 133) (by decide +kernel), by decide +kernel⟩
theorem zm120 : (Jvm.Cond.lays "SluiceStream$Sender" "SluiceStream$Sender" "limit" "I") ∈ zT := List.mem_filter.mpr ⟨List.mem_of_getElem? (i := 135) (by decide +kernel), by decide +kernel⟩
theorem zm122 : (Jvm.Cond.lays "SluiceStream$Sender" "SluiceStream$Sender" "duplicateCount" "I") ∈ zT := List.mem_filter.mpr ⟨List.mem_of_getElem? (i := 137) (by decide +kernel), by decide +kernel⟩
theorem zm124 : (Jvm.Cond.lays "SluiceStream$Sender" "SluiceStream$Sender" "recoversTo" "I") ∈ zT := List.mem_filter.mpr ⟨List.mem_of_getElem? (i := 139) (by decide +kernel), by decide +kernel⟩
theorem zm126 : (Jvm.Cond.lays "SluiceStream$Sender" "SluiceStream$Sender" "repairsFrom" "I") ∈ zT := List.mem_filter.mpr ⟨List.mem_of_getElem? (i := 141) (by decide +kernel), by decide +kernel⟩
theorem zm128 : (Jvm.Cond.lays "SluiceStream$Sender" "SluiceStream$Sender" "sentCount" "I") ∈ zT := List.mem_filter.mpr ⟨List.mem_of_getElem? (i := 143) (by decide +kernel), by decide +kernel⟩
theorem zm130 : (Jvm.Cond.lays "SluiceStream$Sender" "SluiceStream$Sender" "sentAgainCount" "I") ∈ zT := List.mem_filter.mpr ⟨List.mem_of_getElem? (i := 145) (by decide +kernel), by decide +kernel⟩
theorem zm78 : (Jvm.Cond.fieldLink "SluiceStream$Sender" (25 : Nat) "SluiceStream$Sender" "acked" "I") ∈ zT := List.mem_filter.mpr ⟨List.mem_of_getElem? (i := 93) (by decide +kernel), by decide +kernel⟩
theorem zm80 : (Jvm.Cond.fieldLink "SluiceStream$Sender" (29 : Nat) "SluiceStream$Sender" "toSend" "I") ∈ zT := List.mem_filter.mpr ⟨List.mem_of_getElem? (i := 95) (by decide +kernel), by decide +kernel⟩
theorem zm366 : (Jvm.Cond.methodLink "SluiceStream$Sender" (65 : Nat) ({ cls := "SluiceStream$Positions", name := "countEmpty", desc := "(II)I" } : Jvm.MethodName)) ∈ zT := List.mem_filter.mpr ⟨List.mem_of_getElem? (i := 381) (by decide +kernel), by decide +kernel⟩
theorem zm369 : (Jvm.Cond.code ({ cls := "SluiceStream$Positions", name := "countEmpty", desc := "(II)I" } : Jvm.MethodName) prog_2_method_5_code (5 : Nat) (Option.some Jvm.ClassFile.FieldType.int)) ∈ zT := List.mem_filter.mpr ⟨List.mem_of_getElem? (i := 384) (by decide +kernel), by decide +kernel⟩
theorem zm367 : (Jvm.Cond.instanceMethod ({ cls := "SluiceStream$Positions", name := "countEmpty", desc := "(II)I" } : Jvm.MethodName)) ∈ zT := List.mem_filter.mpr ⟨List.mem_of_getElem? (i := 382) (by decide +kernel), by decide +kernel⟩
theorem zm368 : (Jvm.Cond.selects "SluiceStream$Positions" ({ cls := "SluiceStream$Positions", name := "countEmpty", desc := "(II)I" } : Jvm.MethodName) ({ cls := "SluiceStream$Positions", name := "countEmpty", desc := "(II)I" } : Jvm.MethodName)) ∈ zT := List.mem_filter.mpr ⟨List.mem_of_getElem? (i := 383) (by decide +kernel), by decide +kernel⟩
theorem zm95 : (Jvm.Cond.fieldLink "SluiceStream$Sender" (53 : Nat) "SluiceStream$Sender" "recoversTo" "I") ∈ zT := List.mem_filter.mpr ⟨List.mem_of_getElem? (i := 110) (by decide +kernel), by decide +kernel⟩
theorem zm97 : (Jvm.Cond.fieldLink "SluiceStream$Sender" (56 : Nat) "SluiceStream$Sender" "repairsFrom" "I") ∈ zT := List.mem_filter.mpr ⟨List.mem_of_getElem? (i := 112) (by decide +kernel), by decide +kernel⟩
theorem zm370 : (Jvm.Cond.methodLink "SluiceStream$Sender" (95 : Nat) ({ cls := "java/lang/Math", name := "max", desc := "(II)I" } : Jvm.MethodName)) ∈ zT := List.mem_filter.mpr ⟨List.mem_of_getElem? (i := 385) (by decide +kernel), by decide +kernel⟩
theorem zm596 : (Jvm.Cond.methodLink "SluiceStream$Sender" (76 : Nat) ({ cls := "SluiceStream$Positions", name := "firstEmpty", desc := "(II)I" } : Jvm.MethodName)) ∈ zT := List.mem_filter.mpr ⟨List.mem_of_getElem? (i := 611) (by decide +kernel), by decide +kernel⟩
theorem zm82 : (Jvm.Cond.fieldLink "SluiceStream$Sender" (32 : Nat) "SluiceStream$Sender" "sentBelow" "I") ∈ zT := List.mem_filter.mpr ⟨List.mem_of_getElem? (i := 97) (by decide +kernel), by decide +kernel⟩
theorem zm597 : (Jvm.Cond.methodLink "SluiceStream$Sender" (100 : Nat) ({ cls := "SluiceStream$Positions", name := "firstFilled", desc := "(II)I" } : Jvm.MethodName)) ∈ zT := List.mem_filter.mpr ⟨List.mem_of_getElem? (i := 612) (by decide +kernel), by decide +kernel⟩
theorem zm602 : (Jvm.Cond.methodLink "SluiceStream$Sender" (103 : Nat) ({ cls := "java/lang/Math", name := "min", desc := "(II)I" } : Jvm.MethodName)) ∈ zT := List.mem_filter.mpr ⟨List.mem_of_getElem? (i := 617) (by decide +kernel), by decide +kernel⟩
theorem zm84 : (Jvm.Cond.fieldLink "SluiceStream$Sender" (35 : Nat) "SluiceStream$Sender" "writtenBytes" "I") ∈ zT := List.mem_filter.mpr ⟨List.mem_of_getElem? (i := 99) (by decide +kernel), by decide +kernel⟩
theorem zm362 : (Jvm.Cond.methodLink "SluiceStream$Sender" (106 : Nat) ({ cls := "SluiceStream$Sender", name := "countFlying", desc := "()I" } : Jvm.MethodName)) ∈ zT := List.mem_filter.mpr ⟨List.mem_of_getElem? (i := 377) (by decide +kernel), by decide +kernel⟩
theorem zm2 : (Jvm.Cond.initialized "SluiceStream$Sender") ∈ zT := List.mem_filter.mpr ⟨List.mem_of_getElem? (i := 17) (by decide +kernel), by decide +kernel⟩
theorem zm365 : (Jvm.Cond.code ({ cls := "SluiceStream$Sender", name := "countFlying", desc := "()I" } : Jvm.MethodName) prog_5_method_2_code (1 : Nat) (Option.some Jvm.ClassFile.FieldType.int)) ∈ zT := List.mem_filter.mpr ⟨List.mem_of_getElem? (i := 380) (by decide +kernel), by decide +kernel⟩
theorem zm363 : (Jvm.Cond.instanceMethod ({ cls := "SluiceStream$Sender", name := "countFlying", desc := "()I" } : Jvm.MethodName)) ∈ zT := List.mem_filter.mpr ⟨List.mem_of_getElem? (i := 378) (by decide +kernel), by decide +kernel⟩
theorem zm364 : (Jvm.Cond.selects "SluiceStream$Sender" ({ cls := "SluiceStream$Sender", name := "countFlying", desc := "()I" } : Jvm.MethodName) ({ cls := "SluiceStream$Sender", name := "countFlying", desc := "()I" } : Jvm.MethodName)) ∈ zT := List.mem_filter.mpr ⟨List.mem_of_getElem? (i := 379) (by decide +kernel), by decide +kernel⟩
theorem zm86 : (Jvm.Cond.fieldLink "SluiceStream$Sender" (38 : Nat) "SluiceStream$Sender" "edgeAt" "I") ∈ zT := List.mem_filter.mpr ⟨List.mem_of_getElem? (i := 101) (by decide +kernel), by decide +kernel⟩
theorem zm598 : (Jvm.Cond.methodLink "SluiceStream$Sender" (73 : Nat) ({ cls := "SluiceStream$Sender", name := "endOfRun", desc := "(II)I" } : Jvm.MethodName)) ∈ zT := List.mem_filter.mpr ⟨List.mem_of_getElem? (i := 613) (by decide +kernel), by decide +kernel⟩
theorem zm601 : (Jvm.Cond.code ({ cls := "SluiceStream$Sender", name := "endOfRun", desc := "(II)I" } : Jvm.MethodName) prog_5_method_5_code (3 : Nat) (Option.some Jvm.ClassFile.FieldType.int)) ∈ zT := List.mem_filter.mpr ⟨List.mem_of_getElem? (i := 616) (by decide +kernel), by decide +kernel⟩
theorem zm600 : (Jvm.Cond.instanceMethod ({ cls := "SluiceStream$Sender", name := "endOfRun", desc := "(II)I" } : Jvm.MethodName)) ∈ zT := List.mem_filter.mpr ⟨List.mem_of_getElem? (i := 615) (by decide +kernel), by decide +kernel⟩
theorem zms7 : Jvm.Cond.selects "SluiceStream$Sender" ({ cls := "SluiceStream$Sender", name := "endOfRun", desc := "(II)I" } : Jvm.MethodName) ({ cls := "SluiceStream$Sender", name := "endOfRun", desc := "(II)I" } : Jvm.MethodName) ∈ zT := List.mem_filter.mpr ⟨List.mem_of_getElem? (i := 7) (by decide +kernel), by decide +kernel⟩
theorem zm88 : (Jvm.Cond.fieldLink "SluiceStream$Sender" (41 : Nat) "SluiceStream$Sender" "congestion" "I") ∈ zT := List.mem_filter.mpr ⟨List.mem_of_getElem? (i := 103) (by decide +kernel), by decide +kernel⟩
theorem zm92 : (Jvm.Cond.fieldLink "SluiceStream$Sender" (47 : Nat) "SluiceStream$Sender" "limit" "I") ∈ zT := List.mem_filter.mpr ⟨List.mem_of_getElem? (i := 107) (by decide +kernel), by decide +kernel⟩
theorem zm98 : (Jvm.Cond.fieldLink "SluiceStream$Sender" (59 : Nat) "SluiceStream$Sender" "sentCount" "I") ∈ zT := List.mem_filter.mpr ⟨List.mem_of_getElem? (i := 113) (by decide +kernel), by decide +kernel⟩
theorem zm76 : (Jvm.Cond.fieldLink "SluiceStream$Sender" (21 : Nat) "SluiceStream$Sender" "timer" "LSluiceStream$Timer;") ∈ zT := List.mem_filter.mpr ⟨List.mem_of_getElem? (i := 91) (by decide +kernel), by decide +kernel⟩
theorem zm611 : (Jvm.Cond.methodLink "SluiceStream$Sender" (109 : Nat) ({ cls := "SluiceStream$Timer", name := "timeSegment", desc := "(I)V" } : Jvm.MethodName)) ∈ zT := List.mem_filter.mpr ⟨List.mem_of_getElem? (i := 626) (by decide +kernel), by decide +kernel⟩
theorem zm614 : (Jvm.Cond.code ({ cls := "SluiceStream$Timer", name := "timeSegment", desc := "(I)V" } : Jvm.MethodName) prog_6_method_7_code (2 : Nat) (Option.none : Option Jvm.ClassFile.FieldType)) ∈ zT := List.mem_filter.mpr ⟨List.mem_of_getElem? (i := 629) (by decide +kernel), by decide +kernel⟩
theorem zm612 : (Jvm.Cond.instanceMethod ({ cls := "SluiceStream$Timer", name := "timeSegment", desc := "(I)V" } : Jvm.MethodName)) ∈ zT := List.mem_filter.mpr ⟨List.mem_of_getElem? (i := 627) (by decide +kernel), by decide +kernel⟩
theorem zm613 : (Jvm.Cond.selects "SluiceStream$Timer" ({ cls := "SluiceStream$Timer", name := "timeSegment", desc := "(I)V" } : Jvm.MethodName) ({ cls := "SluiceStream$Timer", name := "timeSegment", desc := "(I)V" } : Jvm.MethodName)) ∈ zT := List.mem_filter.mpr ⟨List.mem_of_getElem? (i := 628) (by decide +kernel), by decide +kernel⟩
theorem zm615 : (Jvm.Cond.methodLink "SluiceStream$Sender" (113 : Nat) ({ cls := "SluiceStream$Timer", name := "startIfStopped", desc := "()V" } : Jvm.MethodName)) ∈ zT := List.mem_filter.mpr ⟨List.mem_of_getElem? (i := 630) (by decide +kernel), by decide +kernel⟩
theorem zm618 : (Jvm.Cond.code ({ cls := "SluiceStream$Timer", name := "startIfStopped", desc := "()V" } : Jvm.MethodName) prog_6_method_4_code (1 : Nat) (Option.none : Option Jvm.ClassFile.FieldType)) ∈ zT := List.mem_filter.mpr ⟨List.mem_of_getElem? (i := 633) (by decide +kernel), by decide +kernel⟩
theorem zm616 : (Jvm.Cond.instanceMethod ({ cls := "SluiceStream$Timer", name := "startIfStopped", desc := "()V" } : Jvm.MethodName)) ∈ zT := List.mem_filter.mpr ⟨List.mem_of_getElem? (i := 631) (by decide +kernel), by decide +kernel⟩
theorem zm617 : (Jvm.Cond.selects "SluiceStream$Timer" ({ cls := "SluiceStream$Timer", name := "startIfStopped", desc := "()V" } : Jvm.MethodName) ({ cls := "SluiceStream$Timer", name := "startIfStopped", desc := "()V" } : Jvm.MethodName)) ∈ zT := List.mem_filter.mpr ⟨List.mem_of_getElem? (i := 632) (by decide +kernel), by decide +kernel⟩
theorem zm100 : (Jvm.Cond.fieldLink "SluiceStream$Sender" (62 : Nat) "SluiceStream$Sender" "sentAgainCount" "I") ∈ zT := List.mem_filter.mpr ⟨List.mem_of_getElem? (i := 115) (by decide +kernel), by decide +kernel⟩
theorem zm592 : (Jvm.Cond.methodLink "SluiceStream$Sender" (69 : Nat) ({ cls := "SluiceStream$Sender", name := "startOfRepair", desc := "()I" } : Jvm.MethodName)) ∈ zT := List.mem_filter.mpr ⟨List.mem_of_getElem? (i := 607) (by decide +kernel), by decide +kernel⟩
theorem zm595 : (Jvm.Cond.code ({ cls := "SluiceStream$Sender", name := "startOfRepair", desc := "()I" } : Jvm.MethodName) prog_5_method_4_code (3 : Nat) (Option.some Jvm.ClassFile.FieldType.int)) ∈ zT := List.mem_filter.mpr ⟨List.mem_of_getElem? (i := 610) (by decide +kernel), by decide +kernel⟩
theorem zm594 : (Jvm.Cond.instanceMethod ({ cls := "SluiceStream$Sender", name := "startOfRepair", desc := "()I" } : Jvm.MethodName)) ∈ zT := List.mem_filter.mpr ⟨List.mem_of_getElem? (i := 609) (by decide +kernel), by decide +kernel⟩
theorem zms6 : Jvm.Cond.selects "SluiceStream$Sender" ({ cls := "SluiceStream$Sender", name := "startOfRepair", desc := "()I" } : Jvm.MethodName) ({ cls := "SluiceStream$Sender", name := "startOfRepair", desc := "()I" } : Jvm.MethodName) ∈ zT := List.mem_filter.mpr ⟨List.mem_of_getElem? (i := 6) (by decide +kernel), by decide +kernel⟩
theorem zm603 : (Jvm.Cond.methodLink "SluiceStream$Sender" (79 : Nat) ({ cls := "SluiceStream$Sender", name := "endOfFresh", desc := "()I" } : Jvm.MethodName)) ∈ zT := List.mem_filter.mpr ⟨List.mem_of_getElem? (i := 618) (by decide +kernel), by decide +kernel⟩
theorem zm606 : (Jvm.Cond.code ({ cls := "SluiceStream$Sender", name := "endOfFresh", desc := "()I" } : Jvm.MethodName) prog_5_method_6_code (4 : Nat) (Option.some Jvm.ClassFile.FieldType.int)) ∈ zT := List.mem_filter.mpr ⟨List.mem_of_getElem? (i := 621) (by decide +kernel), by decide +kernel⟩
theorem zm605 : (Jvm.Cond.instanceMethod ({ cls := "SluiceStream$Sender", name := "endOfFresh", desc := "()I" } : Jvm.MethodName)) ∈ zT := List.mem_filter.mpr ⟨List.mem_of_getElem? (i := 620) (by decide +kernel), by decide +kernel⟩
theorem zms8 : Jvm.Cond.selects "SluiceStream$Sender" ({ cls := "SluiceStream$Sender", name := "endOfFresh", desc := "()I" } : Jvm.MethodName) ({ cls := "SluiceStream$Sender", name := "endOfFresh", desc := "()I" } : Jvm.MethodName) ∈ zT := List.mem_filter.mpr ⟨List.mem_of_getElem? (i := 8) (by decide +kernel), by decide +kernel⟩
theorem zm607 : (Jvm.Cond.methodLink "SluiceStream$Sender" (82 : Nat) ({ cls := "SluiceStream$Sender", name := "noteSent", desc := "(II)V" } : Jvm.MethodName)) ∈ zT := List.mem_filter.mpr ⟨List.mem_of_getElem? (i := 622) (by decide +kernel), by decide +kernel⟩
theorem zm610 : (Jvm.Cond.code ({ cls := "SluiceStream$Sender", name := "noteSent", desc := "(II)V" } : Jvm.MethodName) prog_5_method_7_code (3 : Nat) (Option.none : Option Jvm.ClassFile.FieldType)) ∈ zT := List.mem_filter.mpr ⟨List.mem_of_getElem? (i := 625) (by decide +kernel), by decide +kernel⟩
theorem zm609 : (Jvm.Cond.instanceMethod ({ cls := "SluiceStream$Sender", name := "noteSent", desc := "(II)V" } : Jvm.MethodName)) ∈ zT := List.mem_filter.mpr ⟨List.mem_of_getElem? (i := 624) (by decide +kernel), by decide +kernel⟩
theorem zms9 : Jvm.Cond.selects "SluiceStream$Sender" ({ cls := "SluiceStream$Sender", name := "noteSent", desc := "(II)V" } : Jvm.MethodName) ({ cls := "SluiceStream$Sender", name := "noteSent", desc := "(II)V" } : Jvm.MethodName) ∈ zT := List.mem_filter.mpr ⟨List.mem_of_getElem? (i := 9) (by decide +kernel), by decide +kernel⟩
theorem zm623 : (Jvm.Cond.methodLink "SluiceStream$Sender" (86 : Nat) ({ cls := "SluiceStream$Rows", name := "addRow", desc := "()I" } : Jvm.MethodName)) ∈ zT := List.mem_filter.mpr ⟨List.mem_of_getElem? (i := 638) (by decide +kernel), by decide +kernel⟩
theorem zm624 : (Jvm.Cond.methodLink "SluiceStream$Sender" (91 : Nat) ({ cls := "SluiceStream$Rows", name := "setCell", desc := "(III)V" } : Jvm.MethodName)) ∈ zT := List.mem_filter.mpr ⟨List.mem_of_getElem? (i := 639) (by decide +kernel), by decide +kernel⟩
theorem zm358 : (Jvm.Cond.methodLink "SluiceStream$Sender" (123 : Nat) ({ cls := "SluiceStream$Sender", name := "halfOfFlying", desc := "()I" } : Jvm.MethodName)) ∈ zT := List.mem_filter.mpr ⟨List.mem_of_getElem? (i := 373) (by decide +kernel), by decide +kernel⟩
theorem zm361 : (Jvm.Cond.code ({ cls := "SluiceStream$Sender", name := "halfOfFlying", desc := "()I" } : Jvm.MethodName) prog_5_method_10_code (1 : Nat) (Option.some Jvm.ClassFile.FieldType.int)) ∈ zT := List.mem_filter.mpr ⟨List.mem_of_getElem? (i := 376) (by decide +kernel), by decide +kernel⟩
theorem zm360 : (Jvm.Cond.instanceMethod ({ cls := "SluiceStream$Sender", name := "halfOfFlying", desc := "()I" } : Jvm.MethodName)) ∈ zT := List.mem_filter.mpr ⟨List.mem_of_getElem? (i := 375) (by decide +kernel), by decide +kernel⟩
theorem zms5 : Jvm.Cond.selects "SluiceStream$Sender" ({ cls := "SluiceStream$Sender", name := "halfOfFlying", desc := "()I" } : Jvm.MethodName) ({ cls := "SluiceStream$Sender", name := "halfOfFlying", desc := "()I" } : Jvm.MethodName) ∈ zT := List.mem_filter.mpr ⟨List.mem_of_getElem? (i := 5) (by decide +kernel), by decide +kernel⟩
theorem zm90 : (Jvm.Cond.fieldLink "SluiceStream$Sender" (44 : Nat) "SluiceStream$Sender" "slowFrom" "I") ∈ zT := List.mem_filter.mpr ⟨List.mem_of_getElem? (i := 105) (by decide +kernel), by decide +kernel⟩
theorem zm371 : (Jvm.Cond.methodLink "SluiceStream$Sender" (126 : Nat) ({ cls := "SluiceStream$Timer", name := "backOff", desc := "()V" } : Jvm.MethodName)) ∈ zT := List.mem_filter.mpr ⟨List.mem_of_getElem? (i := 386) (by decide +kernel), by decide +kernel⟩
theorem zm374 : (Jvm.Cond.code ({ cls := "SluiceStream$Timer", name := "backOff", desc := "()V" } : Jvm.MethodName) prog_6_method_6_code (1 : Nat) (Option.none : Option Jvm.ClassFile.FieldType)) ∈ zT := List.mem_filter.mpr ⟨List.mem_of_getElem? (i := 389) (by decide +kernel), by decide +kernel⟩
theorem zm372 : (Jvm.Cond.instanceMethod ({ cls := "SluiceStream$Timer", name := "backOff", desc := "()V" } : Jvm.MethodName)) ∈ zT := List.mem_filter.mpr ⟨List.mem_of_getElem? (i := 387) (by decide +kernel), by decide +kernel⟩
theorem zm373 : (Jvm.Cond.selects "SluiceStream$Timer" ({ cls := "SluiceStream$Timer", name := "backOff", desc := "()V" } : Jvm.MethodName) ({ cls := "SluiceStream$Timer", name := "backOff", desc := "()V" } : Jvm.MethodName)) ∈ zT := List.mem_filter.mpr ⟨List.mem_of_getElem? (i := 388) (by decide +kernel), by decide +kernel⟩
theorem zm386 : (Jvm.Cond.methodLink "SluiceStream$Sender" (129 : Nat) ({ cls := "SluiceStream$Positions", name := "empty", desc := "(II)V" } : Jvm.MethodName)) ∈ zT := List.mem_filter.mpr ⟨List.mem_of_getElem? (i := 401) (by decide +kernel), by decide +kernel⟩
theorem zm389 : (Jvm.Cond.code ({ cls := "SluiceStream$Positions", name := "empty", desc := "(II)V" } : Jvm.MethodName) prog_2_method_4_code (4 : Nat) (Option.none : Option Jvm.ClassFile.FieldType)) ∈ zT := List.mem_filter.mpr ⟨List.mem_of_getElem? (i := 404) (by decide +kernel), by decide +kernel⟩
theorem zm387 : (Jvm.Cond.instanceMethod ({ cls := "SluiceStream$Positions", name := "empty", desc := "(II)V" } : Jvm.MethodName)) ∈ zT := List.mem_filter.mpr ⟨List.mem_of_getElem? (i := 402) (by decide +kernel), by decide +kernel⟩
theorem zm388 : (Jvm.Cond.selects "SluiceStream$Positions" ({ cls := "SluiceStream$Positions", name := "empty", desc := "(II)V" } : Jvm.MethodName) ({ cls := "SluiceStream$Positions", name := "empty", desc := "(II)V" } : Jvm.MethodName)) ∈ zT := List.mem_filter.mpr ⟨List.mem_of_getElem? (i := 403) (by decide +kernel), by decide +kernel⟩
theorem zm93 : (Jvm.Cond.fieldLink "SluiceStream$Sender" (50 : Nat) "SluiceStream$Sender" "duplicateCount" "I") ∈ zT := List.mem_filter.mpr ⟨List.mem_of_getElem? (i := 108) (by decide +kernel), by decide +kernel⟩
theorem zm350 : (Jvm.Cond.methodLink "SluiceStream$Sender" (116 : Nat) ({ cls := "SluiceStream$Timer", name := "passTick", desc := "()Z" } : Jvm.MethodName)) ∈ zT := List.mem_filter.mpr ⟨List.mem_of_getElem? (i := 365) (by decide +kernel), by decide +kernel⟩
theorem zm353 : (Jvm.Cond.code ({ cls := "SluiceStream$Timer", name := "passTick", desc := "()Z" } : Jvm.MethodName) prog_6_method_2_code (1 : Nat) (Option.some Jvm.ClassFile.FieldType.boolean)) ∈ zT := List.mem_filter.mpr ⟨List.mem_of_getElem? (i := 368) (by decide +kernel), by decide +kernel⟩
theorem zm351 : (Jvm.Cond.instanceMethod ({ cls := "SluiceStream$Timer", name := "passTick", desc := "()Z" } : Jvm.MethodName)) ∈ zT := List.mem_filter.mpr ⟨List.mem_of_getElem? (i := 366) (by decide +kernel), by decide +kernel⟩
theorem zm352 : (Jvm.Cond.selects "SluiceStream$Timer" ({ cls := "SluiceStream$Timer", name := "passTick", desc := "()Z" } : Jvm.MethodName) ({ cls := "SluiceStream$Timer", name := "passTick", desc := "()Z" } : Jvm.MethodName)) ∈ zT := List.mem_filter.mpr ⟨List.mem_of_getElem? (i := 367) (by decide +kernel), by decide +kernel⟩
theorem zm354 : (Jvm.Cond.methodLink "SluiceStream$Sender" (120 : Nat) ({ cls := "SluiceStream$Sender", name := "startOver", desc := "()V" } : Jvm.MethodName)) ∈ zT := List.mem_filter.mpr ⟨List.mem_of_getElem? (i := 369) (by decide +kernel), by decide +kernel⟩
theorem zm357 : (Jvm.Cond.code ({ cls := "SluiceStream$Sender", name := "startOver", desc := "()V" } : Jvm.MethodName) prog_5_method_9_code (1 : Nat) (Option.none : Option Jvm.ClassFile.FieldType)) ∈ zT := List.mem_filter.mpr ⟨List.mem_of_getElem? (i := 372) (by decide +kernel), by decide +kernel⟩
theorem zm356 : (Jvm.Cond.instanceMethod ({ cls := "SluiceStream$Sender", name := "startOver", desc := "()V" } : Jvm.MethodName)) ∈ zT := List.mem_filter.mpr ⟨List.mem_of_getElem? (i := 371) (by decide +kernel), by decide +kernel⟩
theorem zms4 : Jvm.Cond.selects "SluiceStream$Sender" ({ cls := "SluiceStream$Sender", name := "startOver", desc := "()V" } : Jvm.MethodName) ({ cls := "SluiceStream$Sender", name := "startOver", desc := "()V" } : Jvm.MethodName) ∈ zT := List.mem_filter.mpr ⟨List.mem_of_getElem? (i := 4) (by decide +kernel), by decide +kernel⟩
theorem zm641 : (Jvm.Cond.methodLink "SluiceStream$Sender" (145 : Nat) ({ cls := "SluiceStream$Timer", name := "endTiming", desc := "(I)V" } : Jvm.MethodName)) ∈ zT := List.mem_filter.mpr ⟨List.mem_of_getElem? (i := 656) (by decide +kernel), by decide +kernel⟩
theorem zm644 : (Jvm.Cond.code ({ cls := "SluiceStream$Timer", name := "endTiming", desc := "(I)V" } : Jvm.MethodName) prog_6_method_9_code (2 : Nat) (Option.none : Option Jvm.ClassFile.FieldType)) ∈ zT := List.mem_filter.mpr ⟨List.mem_of_getElem? (i := 659) (by decide +kernel), by decide +kernel⟩
theorem zm642 : (Jvm.Cond.instanceMethod ({ cls := "SluiceStream$Timer", name := "endTiming", desc := "(I)V" } : Jvm.MethodName)) ∈ zT := List.mem_filter.mpr ⟨List.mem_of_getElem? (i := 657) (by decide +kernel), by decide +kernel⟩
theorem zm643 : (Jvm.Cond.selects "SluiceStream$Timer" ({ cls := "SluiceStream$Timer", name := "endTiming", desc := "(I)V" } : Jvm.MethodName) ({ cls := "SluiceStream$Timer", name := "endTiming", desc := "(I)V" } : Jvm.MethodName)) ∈ zT := List.mem_filter.mpr ⟨List.mem_of_getElem? (i := 658) (by decide +kernel), by decide +kernel⟩
theorem zm658 : (Jvm.Cond.methodLink "SluiceStream$Sender" (154 : Nat) ({ cls := "SluiceStream$Timer", name := "startAnew", desc := "()V" } : Jvm.MethodName)) ∈ zT := List.mem_filter.mpr ⟨List.mem_of_getElem? (i := 673) (by decide +kernel), by decide +kernel⟩
theorem zm657 : (Jvm.Cond.methodLink "SluiceStream$Sender" (151 : Nat) ({ cls := "SluiceStream$Timer", name := "stop", desc := "()V" } : Jvm.MethodName)) ∈ zT := List.mem_filter.mpr ⟨List.mem_of_getElem? (i := 672) (by decide +kernel), by decide +kernel⟩
theorem zm653 : (Jvm.Cond.methodLink "SluiceStream$Sender" (148 : Nat) ({ cls := "SluiceStream$Sender", name := "growCongestion", desc := "()V" } : Jvm.MethodName)) ∈ zT := List.mem_filter.mpr ⟨List.mem_of_getElem? (i := 668) (by decide +kernel), by decide +kernel⟩
theorem zm656 : (Jvm.Cond.code ({ cls := "SluiceStream$Sender", name := "growCongestion", desc := "()V" } : Jvm.MethodName) prog_5_method_13_code (2 : Nat) (Option.none : Option Jvm.ClassFile.FieldType)) ∈ zT := List.mem_filter.mpr ⟨List.mem_of_getElem? (i := 671) (by decide +kernel), by decide +kernel⟩
theorem zm655 : (Jvm.Cond.instanceMethod ({ cls := "SluiceStream$Sender", name := "growCongestion", desc := "()V" } : Jvm.MethodName)) ∈ zT := List.mem_filter.mpr ⟨List.mem_of_getElem? (i := 670) (by decide +kernel), by decide +kernel⟩
theorem zms12 : Jvm.Cond.selects "SluiceStream$Sender" ({ cls := "SluiceStream$Sender", name := "growCongestion", desc := "()V" } : Jvm.MethodName) ({ cls := "SluiceStream$Sender", name := "growCongestion", desc := "()V" } : Jvm.MethodName) ∈ zT := List.mem_filter.mpr ⟨List.mem_of_getElem? (i := 12) (by decide +kernel), by decide +kernel⟩
theorem zm636 : (Jvm.Cond.methodLink "SluiceStream$Sender" (132 : Nat) ({ cls := "SluiceStream$Rows", name := "cell", desc := "(II)I" } : Jvm.MethodName)) ∈ zT := List.mem_filter.mpr ⟨List.mem_of_getElem? (i := 651) (by decide +kernel), by decide +kernel⟩
theorem zm413 : (Jvm.Cond.code ({ cls := "SluiceStream$Rows", name := "cell", desc := "(II)I" } : Jvm.MethodName) prog_4_method_4_code (4 : Nat) (Option.some Jvm.ClassFile.FieldType.int)) ∈ zT := List.mem_filter.mpr ⟨List.mem_of_getElem? (i := 428) (by decide +kernel), by decide +kernel⟩
theorem zm411 : (Jvm.Cond.instanceMethod ({ cls := "SluiceStream$Rows", name := "cell", desc := "(II)I" } : Jvm.MethodName)) ∈ zT := List.mem_filter.mpr ⟨List.mem_of_getElem? (i := 426) (by decide +kernel), by decide +kernel⟩
theorem zm412 : (Jvm.Cond.selects "SluiceStream$Rows" ({ cls := "SluiceStream$Rows", name := "cell", desc := "(II)I" } : Jvm.MethodName) ({ cls := "SluiceStream$Rows", name := "cell", desc := "(II)I" } : Jvm.MethodName)) ∈ zT := List.mem_filter.mpr ⟨List.mem_of_getElem? (i := 427) (by decide +kernel), by decide +kernel⟩
theorem zm663 : (Jvm.Cond.methodLink "SluiceStream$Sender" (157 : Nat) ({ cls := "SluiceStream$Positions", name := "fillEmpty", desc := "(III)I" } : Jvm.MethodName)) ∈ zT := List.mem_filter.mpr ⟨List.mem_of_getElem? (i := 678) (by decide +kernel), by decide +kernel⟩
theorem zm668 : (Jvm.Cond.methodLink "SluiceStream$Sender" (161 : Nat) ({ cls := "SluiceStream$Timer", name := "forgetTiming", desc := "()V" } : Jvm.MethodName)) ∈ zT := List.mem_filter.mpr ⟨List.mem_of_getElem? (i := 683) (by decide +kernel), by decide +kernel⟩
theorem zm659 : (Jvm.Cond.methodLink "SluiceStream$Sender" (138 : Nat) ({ cls := "SluiceStream$Sender", name := "markBlocks", desc := "(LSluiceStream$Rows;I)V" } : Jvm.MethodName)) ∈ zT := List.mem_filter.mpr ⟨List.mem_of_getElem? (i := 674) (by decide +kernel), by decide +kernel⟩
theorem zm662 : (Jvm.Cond.code ({ cls := "SluiceStream$Sender", name := "markBlocks", desc := "(LSluiceStream$Rows;I)V" } : Jvm.MethodName) prog_5_method_14_code (7 : Nat) (Option.none : Option Jvm.ClassFile.FieldType)) ∈ zT := List.mem_filter.mpr ⟨List.mem_of_getElem? (i := 677) (by decide +kernel), by decide +kernel⟩
theorem zm661 : (Jvm.Cond.instanceMethod ({ cls := "SluiceStream$Sender", name := "markBlocks", desc := "(LSluiceStream$Rows;I)V" } : Jvm.MethodName)) ∈ zT := List.mem_filter.mpr ⟨List.mem_of_getElem? (i := 676) (by decide +kernel), by decide +kernel⟩
theorem zms13 : Jvm.Cond.selects "SluiceStream$Sender" ({ cls := "SluiceStream$Sender", name := "markBlocks", desc := "(LSluiceStream$Rows;I)V" } : Jvm.MethodName) ({ cls := "SluiceStream$Sender", name := "markBlocks", desc := "(LSluiceStream$Rows;I)V" } : Jvm.MethodName) ∈ zT := List.mem_filter.mpr ⟨List.mem_of_getElem? (i := 13) (by decide +kernel), by decide +kernel⟩
theorem zm664 : (Jvm.Cond.methodLink "SluiceStream$Sender" (142 : Nat) ({ cls := "SluiceStream$Sender", name := "countDuplicate", desc := "()V" } : Jvm.MethodName)) ∈ zT := List.mem_filter.mpr ⟨List.mem_of_getElem? (i := 679) (by decide +kernel), by decide +kernel⟩
theorem zm667 : (Jvm.Cond.code ({ cls := "SluiceStream$Sender", name := "countDuplicate", desc := "()V" } : Jvm.MethodName) prog_5_method_15_code (1 : Nat) (Option.none : Option Jvm.ClassFile.FieldType)) ∈ zT := List.mem_filter.mpr ⟨List.mem_of_getElem? (i := 682) (by decide +kernel), by decide +kernel⟩
theorem zm666 : (Jvm.Cond.instanceMethod ({ cls := "SluiceStream$Sender", name := "countDuplicate", desc := "()V" } : Jvm.MethodName)) ∈ zT := List.mem_filter.mpr ⟨List.mem_of_getElem? (i := 681) (by decide +kernel), by decide +kernel⟩
theorem zms14 : Jvm.Cond.selects "SluiceStream$Sender" ({ cls := "SluiceStream$Sender", name := "countDuplicate", desc := "()V" } : Jvm.MethodName) ({ cls := "SluiceStream$Sender", name := "countDuplicate", desc := "()V" } : Jvm.MethodName) ∈ zT := List.mem_filter.mpr ⟨List.mem_of_getElem? (i := 14) (by decide +kernel), by decide +kernel⟩
theorem zm637 : (Jvm.Cond.methodLink "SluiceStream$Sender" (135 : Nat) ({ cls := "SluiceStream$Sender", name := "advanceTo", desc := "(I)V" } : Jvm.MethodName)) ∈ zT := List.mem_filter.mpr ⟨List.mem_of_getElem? (i := 652) (by decide +kernel), by decide +kernel⟩
theorem zm640 : (Jvm.Cond.code ({ cls := "SluiceStream$Sender", name := "advanceTo", desc := "(I)V" } : Jvm.MethodName) prog_5_method_12_code (2 : Nat) (Option.none : Option Jvm.ClassFile.FieldType)) ∈ zT := List.mem_filter.mpr ⟨List.mem_of_getElem? (i := 655) (by decide +kernel), by decide +kernel⟩
theorem zm639 : (Jvm.Cond.instanceMethod ({ cls := "SluiceStream$Sender", name := "advanceTo", desc := "(I)V" } : Jvm.MethodName)) ∈ zT := List.mem_filter.mpr ⟨List.mem_of_getElem? (i := 654) (by decide +kernel), by decide +kernel⟩
theorem zms10 : Jvm.Cond.selects "SluiceStream$Sender" ({ cls := "SluiceStream$Sender", name := "advanceTo", desc := "(I)V" } : Jvm.MethodName) ({ cls := "SluiceStream$Sender", name := "advanceTo", desc := "(I)V" } : Jvm.MethodName) ∈ zT := List.mem_filter.mpr ⟨List.mem_of_getElem? (i := 10) (by decide +kernel), by decide +kernel⟩
theorem zm174 : (Jvm.Cond.fieldLink "SluiceStream" (16 : Nat) "SluiceStream" "sender" "LSluiceStream$Sender;") ∈ zT := List.mem_filter.mpr ⟨List.mem_of_getElem? (i := 189) (by decide +kernel), by decide +kernel⟩
theorem zm178 : (Jvm.Cond.laysFinal "SluiceStream" "SluiceStream" "values" "[I") ∈ zT := List.mem_filter.mpr ⟨List.mem_of_getElem? (i := 193) (by decide +kernel), by decide +kernel⟩
theorem zm180 : (Jvm.Cond.laysFinal "SluiceStream" "SluiceStream" "sender" "LSluiceStream$Sender;") ∈ zT := List.mem_filter.mpr ⟨List.mem_of_getElem? (i := 195) (by decide +kernel), by decide +kernel⟩
theorem zm182 : (Jvm.Cond.laysFinal "SluiceStream" "SluiceStream" "receiver" "LSluiceStream$Receiver;") ∈ zT := List.mem_filter.mpr ⟨List.mem_of_getElem? (i := 197) (by decide +kernel), by decide +kernel⟩
theorem zm184 : (Jvm.Cond.laysFinal "SluiceStream" "SluiceStream" "segmentList" "LSluiceStream$Rows;") ∈ zT := List.mem_filter.mpr ⟨List.mem_of_getElem? (i := 199) (by decide +kernel), by decide +kernel⟩
theorem zm186 : (Jvm.Cond.laysFinal "SluiceStream" "SluiceStream" "ackList" "LSluiceStream$Rows;") ∈ zT := List.mem_filter.mpr ⟨List.mem_of_getElem? (i := 201) (by decide +kernel), by decide +kernel⟩
theorem zm85 : (Jvm.Cond.fieldLink "SluiceStream" (42 : Nat) "SluiceStream$Sender" "writtenBytes" "I") ∈ zT := List.mem_filter.mpr ⟨List.mem_of_getElem? (i := 100) (by decide +kernel), by decide +kernel⟩
theorem zm173 : (Jvm.Cond.fieldLink "SluiceStream" (9 : Nat) "SluiceStream" "values" "[I") ∈ zT := List.mem_filter.mpr ⟨List.mem_of_getElem? (i := 188) (by decide +kernel), by decide +kernel⟩
theorem zm175 : (Jvm.Cond.fieldLink "SluiceStream" (23 : Nat) "SluiceStream" "receiver" "LSluiceStream$Receiver;") ∈ zT := List.mem_filter.mpr ⟨List.mem_of_getElem? (i := 190) (by decide +kernel), by decide +kernel⟩
theorem zm146 : (Jvm.Cond.fieldLink "SluiceStream" (49 : Nat) "SluiceStream$Receiver" "readAt" "I") ∈ zT := List.mem_filter.mpr ⟨List.mem_of_getElem? (i := 161) (by decide +kernel), by decide +kernel⟩
theorem zm144 : (Jvm.Cond.fieldLink "SluiceStream" (52 : Nat) "SluiceStream$Receiver" "firstMissing" "I") ∈ zT := List.mem_filter.mpr ⟨List.mem_of_getElem? (i := 159) (by decide +kernel), by decide +kernel⟩
theorem zm275 : (Jvm.Cond.methodLink "SluiceStream" (55 : Nat) ({ cls := "SluiceStream$Receiver", name := "passByte", desc := "()Z" } : Jvm.MethodName)) ∈ zT := List.mem_filter.mpr ⟨List.mem_of_getElem? (i := 290) (by decide +kernel), by decide +kernel⟩
theorem zm278 : (Jvm.Cond.code ({ cls := "SluiceStream$Receiver", name := "passByte", desc := "()Z" } : Jvm.MethodName) prog_3_method_4_code (2 : Nat) (Option.some Jvm.ClassFile.FieldType.boolean)) ∈ zT := List.mem_filter.mpr ⟨List.mem_of_getElem? (i := 293) (by decide +kernel), by decide +kernel⟩
theorem zm276 : (Jvm.Cond.instanceMethod ({ cls := "SluiceStream$Receiver", name := "passByte", desc := "()Z" } : Jvm.MethodName)) ∈ zT := List.mem_filter.mpr ⟨List.mem_of_getElem? (i := 291) (by decide +kernel), by decide +kernel⟩
theorem zm277 : (Jvm.Cond.selects "SluiceStream$Receiver" ({ cls := "SluiceStream$Receiver", name := "passByte", desc := "()Z" } : Jvm.MethodName) ({ cls := "SluiceStream$Receiver", name := "passByte", desc := "()Z" } : Jvm.MethodName)) ∈ zT := List.mem_filter.mpr ⟨List.mem_of_getElem? (i := 292) (by decide +kernel), by decide +kernel⟩
theorem zm177 : (Jvm.Cond.fieldLink "SluiceStream" (36 : Nat) "SluiceStream" "ackList" "LSluiceStream$Rows;") ∈ zT := List.mem_filter.mpr ⟨List.mem_of_getElem? (i := 192) (by decide +kernel), by decide +kernel⟩
theorem zm283 : (Jvm.Cond.methodLink "SluiceStream" (59 : Nat) ({ cls := "SluiceStream$Receiver", name := "makeAck", desc := "(LSluiceStream$Rows;)V" } : Jvm.MethodName)) ∈ zT := List.mem_filter.mpr ⟨List.mem_of_getElem? (i := 298) (by decide +kernel), by decide +kernel⟩
theorem zm286 : (Jvm.Cond.code ({ cls := "SluiceStream$Receiver", name := "makeAck", desc := "(LSluiceStream$Rows;)V" } : Jvm.MethodName) prog_3_method_5_code (3 : Nat) (Option.none : Option Jvm.ClassFile.FieldType)) ∈ zT := List.mem_filter.mpr ⟨List.mem_of_getElem? (i := 301) (by decide +kernel), by decide +kernel⟩
theorem zm284 : (Jvm.Cond.instanceMethod ({ cls := "SluiceStream$Receiver", name := "makeAck", desc := "(LSluiceStream$Rows;)V" } : Jvm.MethodName)) ∈ zT := List.mem_filter.mpr ⟨List.mem_of_getElem? (i := 299) (by decide +kernel), by decide +kernel⟩
theorem zm285 : (Jvm.Cond.selects "SluiceStream$Receiver" ({ cls := "SluiceStream$Receiver", name := "makeAck", desc := "(LSluiceStream$Rows;)V" } : Jvm.MethodName) ({ cls := "SluiceStream$Receiver", name := "makeAck", desc := "(LSluiceStream$Rows;)V" } : Jvm.MethodName)) ∈ zT := List.mem_filter.mpr ⟨List.mem_of_getElem? (i := 300) (by decide +kernel), by decide +kernel⟩
theorem zm176 : (Jvm.Cond.fieldLink "SluiceStream" (32 : Nat) "SluiceStream" "segmentList" "LSluiceStream$Rows;") ∈ zT := List.mem_filter.mpr ⟨List.mem_of_getElem? (i := 191) (by decide +kernel), by decide +kernel⟩
theorem zm432 : (Jvm.Cond.methodLink "SluiceStream" (66 : Nat) ({ cls := "SluiceStream$Rows", name := "isFull", desc := "()Z" } : Jvm.MethodName)) ∈ zT := List.mem_filter.mpr ⟨List.mem_of_getElem? (i := 447) (by decide +kernel), by decide +kernel⟩
theorem zm588 : (Jvm.Cond.methodLink "SluiceStream" (69 : Nat) ({ cls := "SluiceStream$Sender", name := "sendInto", desc := "(LSluiceStream$Rows;)I" } : Jvm.MethodName)) ∈ zT := List.mem_filter.mpr ⟨List.mem_of_getElem? (i := 603) (by decide +kernel), by decide +kernel⟩
theorem zm591 : (Jvm.Cond.code ({ cls := "SluiceStream$Sender", name := "sendInto", desc := "(LSluiceStream$Rows;)I" } : Jvm.MethodName) prog_5_method_3_code (5 : Nat) (Option.some Jvm.ClassFile.FieldType.int)) ∈ zT := List.mem_filter.mpr ⟨List.mem_of_getElem? (i := 606) (by decide +kernel), by decide +kernel⟩
theorem zm589 : (Jvm.Cond.instanceMethod ({ cls := "SluiceStream$Sender", name := "sendInto", desc := "(LSluiceStream$Rows;)I" } : Jvm.MethodName)) ∈ zT := List.mem_filter.mpr ⟨List.mem_of_getElem? (i := 604) (by decide +kernel), by decide +kernel⟩
theorem zm590 : (Jvm.Cond.selects "SluiceStream$Sender" ({ cls := "SluiceStream$Sender", name := "sendInto", desc := "(LSluiceStream$Rows;)I" } : Jvm.MethodName) ({ cls := "SluiceStream$Sender", name := "sendInto", desc := "(LSluiceStream$Rows;)I" } : Jvm.MethodName)) ∈ zT := List.mem_filter.mpr ⟨List.mem_of_getElem? (i := 605) (by decide +kernel), by decide +kernel⟩
theorem zm346 : (Jvm.Cond.methodLink "SluiceStream" (73 : Nat) ({ cls := "SluiceStream$Sender", name := "passTicks", desc := "(I)I" } : Jvm.MethodName)) ∈ zT := List.mem_filter.mpr ⟨List.mem_of_getElem? (i := 361) (by decide +kernel), by decide +kernel⟩
theorem zm349 : (Jvm.Cond.code ({ cls := "SluiceStream$Sender", name := "passTicks", desc := "(I)I" } : Jvm.MethodName) prog_5_method_8_code (4 : Nat) (Option.some Jvm.ClassFile.FieldType.int)) ∈ zT := List.mem_filter.mpr ⟨List.mem_of_getElem? (i := 364) (by decide +kernel), by decide +kernel⟩
theorem zm347 : (Jvm.Cond.instanceMethod ({ cls := "SluiceStream$Sender", name := "passTicks", desc := "(I)I" } : Jvm.MethodName)) ∈ zT := List.mem_filter.mpr ⟨List.mem_of_getElem? (i := 362) (by decide +kernel), by decide +kernel⟩
theorem zm348 : (Jvm.Cond.selects "SluiceStream$Sender" ({ cls := "SluiceStream$Sender", name := "passTicks", desc := "(I)I" } : Jvm.MethodName) ({ cls := "SluiceStream$Sender", name := "passTicks", desc := "(I)I" } : Jvm.MethodName)) ∈ zT := List.mem_filter.mpr ⟨List.mem_of_getElem? (i := 363) (by decide +kernel), by decide +kernel⟩
theorem zm394 : (Jvm.Cond.methodLink "SluiceStream" (77 : Nat) ({ cls := "SluiceStream$Rows", name := "holds", desc := "(I)Z" } : Jvm.MethodName)) ∈ zT := List.mem_filter.mpr ⟨List.mem_of_getElem? (i := 409) (by decide +kernel), by decide +kernel⟩
theorem zm410 : (Jvm.Cond.methodLink "SluiceStream" (84 : Nat) ({ cls := "SluiceStream$Rows", name := "cell", desc := "(II)I" } : Jvm.MethodName)) ∈ zT := List.mem_filter.mpr ⟨List.mem_of_getElem? (i := 425) (by decide +kernel), by decide +kernel⟩
theorem zm414 : (Jvm.Cond.methodLink "SluiceStream" (88 : Nat) ({ cls := "SluiceStream$Receiver", name := "takeBytes", desc := "(II)I" } : Jvm.MethodName)) ∈ zT := List.mem_filter.mpr ⟨List.mem_of_getElem? (i := 429) (by decide +kernel), by decide +kernel⟩
theorem zm417 : (Jvm.Cond.code ({ cls := "SluiceStream$Receiver", name := "takeBytes", desc := "(II)I" } : Jvm.MethodName) prog_3_method_3_code (4 : Nat) (Option.some Jvm.ClassFile.FieldType.int)) ∈ zT := List.mem_filter.mpr ⟨List.mem_of_getElem? (i := 432) (by decide +kernel), by decide +kernel⟩
theorem zm415 : (Jvm.Cond.instanceMethod ({ cls := "SluiceStream$Receiver", name := "takeBytes", desc := "(II)I" } : Jvm.MethodName)) ∈ zT := List.mem_filter.mpr ⟨List.mem_of_getElem? (i := 430) (by decide +kernel), by decide +kernel⟩
theorem zm416 : (Jvm.Cond.selects "SluiceStream$Receiver" ({ cls := "SluiceStream$Receiver", name := "takeBytes", desc := "(II)I" } : Jvm.MethodName) ({ cls := "SluiceStream$Receiver", name := "takeBytes", desc := "(II)I" } : Jvm.MethodName)) ∈ zT := List.mem_filter.mpr ⟨List.mem_of_getElem? (i := 431) (by decide +kernel), by decide +kernel⟩
theorem zm423 : (Jvm.Cond.methodLink "SluiceStream" (91 : Nat) ({ cls := "SluiceStream$Rows", name := "remove", desc := "(I)V" } : Jvm.MethodName)) ∈ zT := List.mem_filter.mpr ⟨List.mem_of_getElem? (i := 438) (by decide +kernel), by decide +kernel⟩
theorem zm433 : (Jvm.Cond.methodLink "SluiceStream" (95 : Nat) ({ cls := "SluiceStream$Rows", name := "addRow", desc := "()I" } : Jvm.MethodName)) ∈ zT := List.mem_filter.mpr ⟨List.mem_of_getElem? (i := 448) (by decide +kernel), by decide +kernel⟩
theorem zm434 : (Jvm.Cond.methodLink "SluiceStream" (99 : Nat) ({ cls := "SluiceStream$Rows", name := "setCell", desc := "(III)V" } : Jvm.MethodName)) ∈ zT := List.mem_filter.mpr ⟨List.mem_of_getElem? (i := 449) (by decide +kernel), by decide +kernel⟩
theorem zm165 : (Jvm.Cond.fieldLink "SluiceStream" (103 : Nat) "SluiceStream$Rows" "size" "I") ∈ zT := List.mem_filter.mpr ⟨List.mem_of_getElem? (i := 180) (by decide +kernel), by decide +kernel⟩
theorem zm632 : (Jvm.Cond.methodLink "SluiceStream" (106 : Nat) ({ cls := "SluiceStream$Sender", name := "takeAck", desc := "(LSluiceStream$Rows;I)I" } : Jvm.MethodName)) ∈ zT := List.mem_filter.mpr ⟨List.mem_of_getElem? (i := 647) (by decide +kernel), by decide +kernel⟩
theorem zm635 : (Jvm.Cond.code ({ cls := "SluiceStream$Sender", name := "takeAck", desc := "(LSluiceStream$Rows;I)I" } : Jvm.MethodName) prog_5_method_11_code (7 : Nat) (Option.some Jvm.ClassFile.FieldType.int)) ∈ zT := List.mem_filter.mpr ⟨List.mem_of_getElem? (i := 650) (by decide +kernel), by decide +kernel⟩
theorem zm633 : (Jvm.Cond.instanceMethod ({ cls := "SluiceStream$Sender", name := "takeAck", desc := "(LSluiceStream$Rows;I)I" } : Jvm.MethodName)) ∈ zT := List.mem_filter.mpr ⟨List.mem_of_getElem? (i := 648) (by decide +kernel), by decide +kernel⟩
theorem zm634 : (Jvm.Cond.selects "SluiceStream$Sender" ({ cls := "SluiceStream$Sender", name := "takeAck", desc := "(LSluiceStream$Rows;I)I" } : Jvm.MethodName) ({ cls := "SluiceStream$Sender", name := "takeAck", desc := "(LSluiceStream$Rows;I)I" } : Jvm.MethodName)) ∈ zT := List.mem_filter.mpr ⟨List.mem_of_getElem? (i := 649) (by decide +kernel), by decide +kernel⟩
theorem zm77 : (Jvm.Cond.fieldLink "SluiceStream" (110 : Nat) "SluiceStream$Sender" "timer" "LSluiceStream$Timer;") ∈ zT := List.mem_filter.mpr ⟨List.mem_of_getElem? (i := 92) (by decide +kernel), by decide +kernel⟩
theorem zm46 : (Jvm.Cond.fieldLink "SluiceStream" (114 : Nat) "SluiceStream$Timer" "now" "I") ∈ zT := List.mem_filter.mpr ⟨List.mem_of_getElem? (i := 61) (by decide +kernel), by decide +kernel⟩
theorem zm79 : (Jvm.Cond.fieldLink "SluiceStream" (119 : Nat) "SluiceStream$Sender" "acked" "I") ∈ zT := List.mem_filter.mpr ⟨List.mem_of_getElem? (i := 94) (by decide +kernel), by decide +kernel⟩
theorem zm81 : (Jvm.Cond.fieldLink "SluiceStream" (122 : Nat) "SluiceStream$Sender" "toSend" "I") ∈ zT := List.mem_filter.mpr ⟨List.mem_of_getElem? (i := 96) (by decide +kernel), by decide +kernel⟩
theorem zm83 : (Jvm.Cond.fieldLink "SluiceStream" (125 : Nat) "SluiceStream$Sender" "sentBelow" "I") ∈ zT := List.mem_filter.mpr ⟨List.mem_of_getElem? (i := 98) (by decide +kernel), by decide +kernel⟩
theorem zm87 : (Jvm.Cond.fieldLink "SluiceStream" (128 : Nat) "SluiceStream$Sender" "edgeAt" "I") ∈ zT := List.mem_filter.mpr ⟨List.mem_of_getElem? (i := 102) (by decide +kernel), by decide +kernel⟩
theorem zm499 : (Jvm.Cond.methodLink "SluiceStream" (131 : Nat) ({ cls := "SluiceStream$Sender", name := "countFlying", desc := "()I" } : Jvm.MethodName)) ∈ zT := List.mem_filter.mpr ⟨List.mem_of_getElem? (i := 514) (by decide +kernel), by decide +kernel⟩
theorem zm75 : (Jvm.Cond.fieldLink "SluiceStream" (134 : Nat) "SluiceStream$Sender" "marks" "LSluiceStream$Positions;") ∈ zT := List.mem_filter.mpr ⟨List.mem_of_getElem? (i := 90) (by decide +kernel), by decide +kernel⟩
theorem zm494 : (Jvm.Cond.methodLink "SluiceStream" (138 : Nat) ({ cls := "SluiceStream$Positions", name := "at", desc := "(I)I" } : Jvm.MethodName)) ∈ zT := List.mem_filter.mpr ⟨List.mem_of_getElem? (i := 509) (by decide +kernel), by decide +kernel⟩
theorem zm89 : (Jvm.Cond.fieldLink "SluiceStream" (143 : Nat) "SluiceStream$Sender" "congestion" "I") ∈ zT := List.mem_filter.mpr ⟨List.mem_of_getElem? (i := 104) (by decide +kernel), by decide +kernel⟩
theorem zm91 : (Jvm.Cond.fieldLink "SluiceStream" (146 : Nat) "SluiceStream$Sender" "slowFrom" "I") ∈ zT := List.mem_filter.mpr ⟨List.mem_of_getElem? (i := 106) (by decide +kernel), by decide +kernel⟩
theorem zm94 : (Jvm.Cond.fieldLink "SluiceStream" (149 : Nat) "SluiceStream$Sender" "duplicateCount" "I") ∈ zT := List.mem_filter.mpr ⟨List.mem_of_getElem? (i := 109) (by decide +kernel), by decide +kernel⟩
theorem zm96 : (Jvm.Cond.fieldLink "SluiceStream" (152 : Nat) "SluiceStream$Sender" "recoversTo" "I") ∈ zT := List.mem_filter.mpr ⟨List.mem_of_getElem? (i := 111) (by decide +kernel), by decide +kernel⟩
theorem zm48 : (Jvm.Cond.fieldLink "SluiceStream" (155 : Nat) "SluiceStream$Timer" "span" "I") ∈ zT := List.mem_filter.mpr ⟨List.mem_of_getElem? (i := 63) (by decide +kernel), by decide +kernel⟩
theorem zm50 : (Jvm.Cond.fieldLink "SluiceStream" (158 : Nat) "SluiceStream$Timer" "endsAt" "I") ∈ zT := List.mem_filter.mpr ⟨List.mem_of_getElem? (i := 65) (by decide +kernel), by decide +kernel⟩
theorem zm52 : (Jvm.Cond.fieldLink "SluiceStream" (167 : Nat) "SluiceStream$Timer" "timedTo" "I") ∈ zT := List.mem_filter.mpr ⟨List.mem_of_getElem? (i := 67) (by decide +kernel), by decide +kernel⟩
theorem zm99 : (Jvm.Cond.fieldLink "SluiceStream" (170 : Nat) "SluiceStream$Sender" "sentCount" "I") ∈ zT := List.mem_filter.mpr ⟨List.mem_of_getElem? (i := 114) (by decide +kernel), by decide +kernel⟩
theorem zm101 : (Jvm.Cond.fieldLink "SluiceStream" (173 : Nat) "SluiceStream$Sender" "sentAgainCount" "I") ∈ zT := List.mem_filter.mpr ⟨List.mem_of_getElem? (i := 116) (by decide +kernel), by decide +kernel⟩
theorem zm543 : (Jvm.Cond.methodLink "SluiceStream" (176 : Nat) ({ cls := "SluiceStream$Receiver", name := "room", desc := "()I" } : Jvm.MethodName)) ∈ zT := List.mem_filter.mpr ⟨List.mem_of_getElem? (i := 558) (by decide +kernel), by decide +kernel⟩
theorem zm548 : (Jvm.Cond.methodLink "SluiceStream" (179 : Nat) ({ cls := "SluiceStream$Receiver", name := "countBlocks", desc := "()I" } : Jvm.MethodName)) ∈ zT := List.mem_filter.mpr ⟨List.mem_of_getElem? (i := 563) (by decide +kernel), by decide +kernel⟩
theorem zm551 : (Jvm.Cond.code ({ cls := "SluiceStream$Receiver", name := "countBlocks", desc := "()I" } : Jvm.MethodName) prog_3_method_8_code (4 : Nat) (Option.some Jvm.ClassFile.FieldType.int)) ∈ zT := List.mem_filter.mpr ⟨List.mem_of_getElem? (i := 566) (by decide +kernel), by decide +kernel⟩
theorem zm549 : (Jvm.Cond.instanceMethod ({ cls := "SluiceStream$Receiver", name := "countBlocks", desc := "()I" } : Jvm.MethodName)) ∈ zT := List.mem_filter.mpr ⟨List.mem_of_getElem? (i := 564) (by decide +kernel), by decide +kernel⟩
theorem zm550 : (Jvm.Cond.selects "SluiceStream$Receiver" ({ cls := "SluiceStream$Receiver", name := "countBlocks", desc := "()I" } : Jvm.MethodName) ({ cls := "SluiceStream$Receiver", name := "countBlocks", desc := "()I" } : Jvm.MethodName)) ∈ zT := List.mem_filter.mpr ⟨List.mem_of_getElem? (i := 565) (by decide +kernel), by decide +kernel⟩
theorem zm556 : (Jvm.Cond.methodLink "SluiceStream" (182 : Nat) ({ cls := "SluiceStream$Receiver", name := "startOfBlock", desc := "(I)I" } : Jvm.MethodName)) ∈ zT := List.mem_filter.mpr ⟨List.mem_of_getElem? (i := 571) (by decide +kernel), by decide +kernel⟩
theorem zm559 : (Jvm.Cond.code ({ cls := "SluiceStream$Receiver", name := "startOfBlock", desc := "(I)I" } : Jvm.MethodName) prog_3_method_9_code (4 : Nat) (Option.some Jvm.ClassFile.FieldType.int)) ∈ zT := List.mem_filter.mpr ⟨List.mem_of_getElem? (i := 574) (by decide +kernel), by decide +kernel⟩
theorem zm557 : (Jvm.Cond.instanceMethod ({ cls := "SluiceStream$Receiver", name := "startOfBlock", desc := "(I)I" } : Jvm.MethodName)) ∈ zT := List.mem_filter.mpr ⟨List.mem_of_getElem? (i := 572) (by decide +kernel), by decide +kernel⟩
theorem zm558 : (Jvm.Cond.selects "SluiceStream$Receiver" ({ cls := "SluiceStream$Receiver", name := "startOfBlock", desc := "(I)I" } : Jvm.MethodName) ({ cls := "SluiceStream$Receiver", name := "startOfBlock", desc := "(I)I" } : Jvm.MethodName)) ∈ zT := List.mem_filter.mpr ⟨List.mem_of_getElem? (i := 573) (by decide +kernel), by decide +kernel⟩
theorem zm564 : (Jvm.Cond.methodLink "SluiceStream" (185 : Nat) ({ cls := "SluiceStream$Receiver", name := "endOfRun", desc := "(I)I" } : Jvm.MethodName)) ∈ zT := List.mem_filter.mpr ⟨List.mem_of_getElem? (i := 579) (by decide +kernel), by decide +kernel⟩
theorem zin0 : ∀ x ∈ u_ws "SluiceStream$Positions" zF0 1, x ∈ zT := by
  rw [show u_ws "SluiceStream$Positions" zF0 1 = [(Jvm.Cond.laysFinal "SluiceStream$Positions" "SluiceStream$Positions" "numbers" "[I")] from by decide +kernel]
  exact List.forall_mem_cons.mpr ⟨zm35, fun _ h => absurd h List.not_mem_nil⟩
theorem zg_P_9_3 {K : zCx} {w : zWd} {cc : ByteArray} {n fr lo : Nat} {σ : zSt} {lv : List (Nat × Value)} {st : List Value} {pc : Nat} (O : zOk K w cc "SluiceStream$Positions" n fr lo) (hd : decode cc pc = .ok (.getfield 9, 3)) {v : Value} (hv : (zo3 w σ)[0]? = some v) (kk : Z K w σ lv (v :: st) (pc + 3)) : Z K w σ lv (.ref (zq w 3) :: st) pc := z_getf O 3 (T := zF0) (N := 1) (fs := zo3 w σ) rfl rfl zin0 0 (Nat.le_of_ble_eq_true rfl) zm34 rfl hv hd kk
theorem zg_P_9_7 {K : zCx} {w : zWd} {cc : ByteArray} {n fr lo : Nat} {σ : zSt} {lv : List (Nat × Value)} {st : List Value} {pc : Nat} (O : zOk K w cc "SluiceStream$Positions" n fr lo) (hd : decode cc pc = .ok (.getfield 9, 3)) {v : Value} (hv : (zo7 w σ)[0]? = some v) (kk : Z K w σ lv (v :: st) (pc + 3)) : Z K w σ lv (.ref (zq w 7) :: st) pc := z_getf O 7 (T := zF0) (N := 1) (fs := zo7 w σ) rfl rfl zin0 0 (Nat.le_of_ble_eq_true rfl) zm34 rfl hv hd kk
theorem zl_P_21 : zLk "SluiceStream$Positions" 21 ({ cls := "SluiceStream$Positions", name := "at", desc := "(I)I" } : Jvm.MethodName) prog_2_method_2_code 2 (some .int) 1 := ⟨zm323, zm3, zm326, by decide +kernel⟩
theorem zin2 : ∀ x ∈ u_ws "SluiceStream$Rows" zF2 3, x ∈ zT := by
  rw [show u_ws "SluiceStream$Rows" zF2 3 = [(Jvm.Cond.laysFinal "SluiceStream$Rows" "SluiceStream$Rows" "columns" "I"), (Jvm.Cond.laysFinal "SluiceStream$Rows" "SluiceStream$Rows" "cells" "[I"), (Jvm.Cond.lays "SluiceStream$Rows" "SluiceStream$Rows" "size" "I")] from by decide +kernel]
  exact List.forall_mem_cons.mpr ⟨zm166, List.forall_mem_cons.mpr ⟨zm168, List.forall_mem_cons.mpr ⟨zm170, fun _ h => absurd h List.not_mem_nil⟩⟩⟩
theorem zg_W_9_9 {K : zCx} {w : zWd} {cc : ByteArray} {n fr lo : Nat} {σ : zSt} {lv : List (Nat × Value)} {st : List Value} {pc : Nat} (O : zOk K w cc "SluiceStream$Rows" n fr lo) (hd : decode cc pc = .ok (.getfield 9, 3)) {v : Value} (hv : (zo9 w σ)[2]? = some v) (kk : Z K w σ lv (v :: st) (pc + 3)) : Z K w σ lv (.ref (zq w 9) :: st) pc := z_getf O 9 (T := zF2) (N := 3) (fs := zo9 w σ) rfl rfl zin2 2 (Nat.le_of_ble_eq_true rfl) zm164 rfl hv hd kk
theorem zg_W_9_11 {K : zCx} {w : zWd} {cc : ByteArray} {n fr lo : Nat} {σ : zSt} {lv : List (Nat × Value)} {st : List Value} {pc : Nat} (O : zOk K w cc "SluiceStream$Rows" n fr lo) (hd : decode cc pc = .ok (.getfield 9, 3)) {v : Value} (hv : (zo11 w σ)[2]? = some v) (kk : Z K w σ lv (v :: st) (pc + 3)) : Z K w σ lv (.ref (zq w 11) :: st) pc := z_getf O 11 (T := zF2) (N := 3) (fs := zo11 w σ) rfl rfl zin2 2 (Nat.le_of_ble_eq_true rfl) zm164 rfl hv hd kk
theorem zg_W_15_9 {K : zCx} {w : zWd} {cc : ByteArray} {n fr lo : Nat} {σ : zSt} {lv : List (Nat × Value)} {st : List Value} {pc : Nat} (O : zOk K w cc "SluiceStream$Rows" n fr lo) (hd : decode cc pc = .ok (.getfield 15, 3)) {v : Value} (hv : (zo9 w σ)[0]? = some v) (kk : Z K w σ lv (v :: st) (pc + 3)) : Z K w σ lv (.ref (zq w 9) :: st) pc := z_getf O 9 (T := zF2) (N := 3) (fs := zo9 w σ) rfl rfl zin2 0 (Nat.le_of_ble_eq_true rfl) zm162 rfl hv hd kk
theorem zg_W_18_9 {K : zCx} {w : zWd} {cc : ByteArray} {n fr lo : Nat} {σ : zSt} {lv : List (Nat × Value)} {st : List Value} {pc : Nat} (O : zOk K w cc "SluiceStream$Rows" n fr lo) (hd : decode cc pc = .ok (.getfield 18, 3)) {v : Value} (hv : (zo9 w σ)[1]? = some v) (kk : Z K w σ lv (v :: st) (pc + 3)) : Z K w σ lv (.ref (zq w 9) :: st) pc := z_getf O 9 (T := zF2) (N := 3) (fs := zo9 w σ) rfl rfl zin2 1 (Nat.le_of_ble_eq_true rfl) zm163 rfl hv hd kk
theorem zg_W_15_11 {K : zCx} {w : zWd} {cc : ByteArray} {n fr lo : Nat} {σ : zSt} {lv : List (Nat × Value)} {st : List Value} {pc : Nat} (O : zOk K w cc "SluiceStream$Rows" n fr lo) (hd : decode cc pc = .ok (.getfield 15, 3)) {v : Value} (hv : (zo11 w σ)[0]? = some v) (kk : Z K w σ lv (v :: st) (pc + 3)) : Z K w σ lv (.ref (zq w 11) :: st) pc := z_getf O 11 (T := zF2) (N := 3) (fs := zo11 w σ) rfl rfl zin2 0 (Nat.le_of_ble_eq_true rfl) zm162 rfl hv hd kk
theorem zg_W_18_11 {K : zCx} {w : zWd} {cc : ByteArray} {n fr lo : Nat} {σ : zSt} {lv : List (Nat × Value)} {st : List Value} {pc : Nat} (O : zOk K w cc "SluiceStream$Rows" n fr lo) (hd : decode cc pc = .ok (.getfield 18, 3)) {v : Value} (hv : (zo11 w σ)[1]? = some v) (kk : Z K w σ lv (v :: st) (pc + 3)) : Z K w σ lv (.ref (zq w 11) :: st) pc := z_getf O 11 (T := zF2) (N := 3) (fs := zo11 w σ) rfl rfl zin2 1 (Nat.le_of_ble_eq_true rfl) zm163 rfl hv hd kk
theorem zp_W_9_9 {K : zCx} {w : zWd} {cc : ByteArray} {n fr lo : Nat} {σ : zSt} {lv : List (Nat × Value)} {st : List Value} {pc : Nat} (O : zOk K w cc "SluiceStream$Rows" n fr lo) (hd : decode cc pc = .ok (.putfield 9, 3)) {v : Int32} (kk : Z K w (zuf σ 9 2 v) lv st (pc + 3)) : Z K w σ lv (.int v :: .ref (zq w 9) :: st) pc := z_putf O 9 (T := zF2) (N := 3) (fs := zo9 w σ) rfl rfl zin2 zY2 zYo2 zNm2 2 (Nat.le_of_ble_eq_true rfl) zm164 rfl rfl (ty := .int) rfl rfl rfl (Nat.le_of_ble_eq_true rfl) (σ' := zuf σ 9 2 v) rfl hd kk
theorem zp_W_9_11 {K : zCx} {w : zWd} {cc : ByteArray} {n fr lo : Nat} {σ : zSt} {lv : List (Nat × Value)} {st : List Value} {pc : Nat} (O : zOk K w cc "SluiceStream$Rows" n fr lo) (hd : decode cc pc = .ok (.putfield 9, 3)) {v : Int32} (kk : Z K w (zuf σ 11 2 v) lv st (pc + 3)) : Z K w σ lv (.int v :: .ref (zq w 11) :: st) pc := z_putf O 11 (T := zF2) (N := 3) (fs := zo11 w σ) rfl rfl zin2 zY2 zYo2 zNm2 2 (Nat.le_of_ble_eq_true rfl) zm164 rfl rfl (ty := .int) rfl rfl rfl (Nat.le_of_ble_eq_true rfl) (σ' := zuf σ 11 2 v) rfl hd kk
theorem zl_W_22 : zLk "SluiceStream$Rows" 22 ({ cls := "SluiceStream$Rows", name := "holds", desc := "(I)Z" } : Jvm.MethodName) prog_4_method_2_code 2 (some .boolean) 1 := ⟨zm295, zm6, zm298, by decide +kernel⟩
theorem zin4 : ∀ x ∈ u_ws "SluiceStream$Timer" zF4 8, x ∈ zT := by
  rw [show u_ws "SluiceStream$Timer" zF4 8 = [(Jvm.Cond.lays "SluiceStream$Timer" "SluiceStream$Timer" "now" "I"), (Jvm.Cond.lays "SluiceStream$Timer" "SluiceStream$Timer" "span" "I"), (Jvm.Cond.lays "SluiceStream$Timer" "SluiceStream$Timer" "endsAt" "I"), (Jvm.Cond.lays "SluiceStream$Timer" "SluiceStream$Timer" "timedTo" "I"), (Jvm.Cond.lays "SluiceStream$Timer" "SluiceStream$Timer" "smoothed" "I"), (Jvm.Cond.lays "SluiceStream$Timer" "SluiceStream$Timer" "deviation" "I"), (Jvm.Cond.lays "SluiceStream$Timer" "SluiceStream$Timer" "timedSince" "I"), (Jvm.Cond.lays "SluiceStream$Timer" "SluiceStream$Timer" "sampled" "Z")] from by decide +kernel]
  exact List.forall_mem_cons.mpr ⟨zm57, List.forall_mem_cons.mpr ⟨zm59, List.forall_mem_cons.mpr ⟨zm61, List.forall_mem_cons.mpr ⟨zm63, List.forall_mem_cons.mpr ⟨zm65, List.forall_mem_cons.mpr ⟨zm67, List.forall_mem_cons.mpr ⟨zm69, List.forall_mem_cons.mpr ⟨zm71, fun _ h => absurd h List.not_mem_nil⟩⟩⟩⟩⟩⟩⟩⟩
theorem zg_T_9_5 {K : zCx} {w : zWd} {cc : ByteArray} {n fr lo : Nat} {σ : zSt} {lv : List (Nat × Value)} {st : List Value} {pc : Nat} (O : zOk K w cc "SluiceStream$Timer" n fr lo) (hd : decode cc pc = .ok (.getfield 9, 3)) {v : Value} (hv : (zo5 w σ)[0]? = some v) (kk : Z K w σ lv (v :: st) (pc + 3)) : Z K w σ lv (.ref (zq w 5) :: st) pc := z_getf O 5 (T := zF4) (N := 8) (fs := zo5 w σ) rfl rfl zin4 0 (Nat.le_of_ble_eq_true rfl) zm45 rfl hv hd kk
theorem zp_T_9_5 {K : zCx} {w : zWd} {cc : ByteArray} {n fr lo : Nat} {σ : zSt} {lv : List (Nat × Value)} {st : List Value} {pc : Nat} (O : zOk K w cc "SluiceStream$Timer" n fr lo) (hd : decode cc pc = .ok (.putfield 9, 3)) {v : Int32} (kk : Z K w (zuf σ 5 0 v) lv st (pc + 3)) : Z K w σ lv (.int v :: .ref (zq w 5) :: st) pc := z_putf O 5 (T := zF4) (N := 8) (fs := zo5 w σ) rfl rfl zin4 zY4 zYo4 zNm4 0 (Nat.le_of_ble_eq_true rfl) zm45 rfl rfl (ty := .int) rfl rfl rfl (Nat.le_of_ble_eq_true rfl) (σ' := zuf σ 5 0 v) rfl hd kk
theorem zg_T_18_5 {K : zCx} {w : zWd} {cc : ByteArray} {n fr lo : Nat} {σ : zSt} {lv : List (Nat × Value)} {st : List Value} {pc : Nat} (O : zOk K w cc "SluiceStream$Timer" n fr lo) (hd : decode cc pc = .ok (.getfield 18, 3)) {v : Value} (hv : (zo5 w σ)[2]? = some v) (kk : Z K w σ lv (v :: st) (pc + 3)) : Z K w σ lv (.ref (zq w 5) :: st) pc := z_getf O 5 (T := zF4) (N := 8) (fs := zo5 w σ) rfl rfl zin4 2 (Nat.le_of_ble_eq_true rfl) zm49 rfl hv hd kk
theorem zg_T_15_5 {K : zCx} {w : zWd} {cc : ByteArray} {n fr lo : Nat} {σ : zSt} {lv : List (Nat × Value)} {st : List Value} {pc : Nat} (O : zOk K w cc "SluiceStream$Timer" n fr lo) (hd : decode cc pc = .ok (.getfield 15, 3)) {v : Value} (hv : (zo5 w σ)[1]? = some v) (kk : Z K w σ lv (v :: st) (pc + 3)) : Z K w σ lv (.ref (zq w 5) :: st) pc := z_getf O 5 (T := zF4) (N := 8) (fs := zo5 w σ) rfl rfl zin4 1 (Nat.le_of_ble_eq_true rfl) zm47 rfl hv hd kk
theorem zp_T_18_5 {K : zCx} {w : zWd} {cc : ByteArray} {n fr lo : Nat} {σ : zSt} {lv : List (Nat × Value)} {st : List Value} {pc : Nat} (O : zOk K w cc "SluiceStream$Timer" n fr lo) (hd : decode cc pc = .ok (.putfield 18, 3)) {v : Int32} (kk : Z K w (zuf σ 5 2 v) lv st (pc + 3)) : Z K w σ lv (.int v :: .ref (zq w 5) :: st) pc := z_putf O 5 (T := zF4) (N := 8) (fs := zo5 w σ) rfl rfl zin4 zY4 zYo4 zNm4 2 (Nat.le_of_ble_eq_true rfl) zm49 rfl rfl (ty := .int) rfl rfl rfl (Nat.le_of_ble_eq_true rfl) (σ' := zuf σ 5 2 v) rfl hd kk
theorem zl_T_37 : zLk "SluiceStream$Timer" 37 ({ cls := "SluiceStream$Timer", name := "startAnew", desc := "()V" } : Jvm.MethodName) prog_6_method_3_code 1 none 0 := ⟨zm619, zm4, zm622, by decide +kernel⟩
theorem zp_T_21_5 {K : zCx} {w : zWd} {cc : ByteArray} {n fr lo : Nat} {σ : zSt} {lv : List (Nat × Value)} {st : List Value} {pc : Nat} (O : zOk K w cc "SluiceStream$Timer" n fr lo) (hd : decode cc pc = .ok (.putfield 21, 3)) {v : Int32} (kk : Z K w (zuf σ 5 3 v) lv st (pc + 3)) : Z K w σ lv (.int v :: .ref (zq w 5) :: st) pc := z_putf O 5 (T := zF4) (N := 8) (fs := zo5 w σ) rfl rfl zin4 zY4 zYo4 zNm4 3 (Nat.le_of_ble_eq_true rfl) zm51 rfl rfl (ty := .int) rfl rfl rfl (Nat.le_of_ble_eq_true rfl) (σ' := zuf σ 5 3 v) rfl hd kk
theorem zp_T_15_5 {K : zCx} {w : zWd} {cc : ByteArray} {n fr lo : Nat} {σ : zSt} {lv : List (Nat × Value)} {st : List Value} {pc : Nat} (O : zOk K w cc "SluiceStream$Timer" n fr lo) (hd : decode cc pc = .ok (.putfield 15, 3)) {v : Int32} (kk : Z K w (zuf σ 5 1 v) lv st (pc + 3)) : Z K w σ lv (.int v :: .ref (zq w 5) :: st) pc := z_putf O 5 (T := zF4) (N := 8) (fs := zo5 w σ) rfl rfl zin4 zY4 zYo4 zNm4 1 (Nat.le_of_ble_eq_true rfl) zm47 rfl rfl (ty := .int) rfl rfl rfl (Nat.le_of_ble_eq_true rfl) (σ' := zuf σ 5 1 v) rfl hd kk
theorem zl_T_46 : zLk "SluiceStream$Timer" 46 ({ cls := "SluiceStream$Timer", name := "forgetTiming", desc := "()V" } : Jvm.MethodName) prog_6_method_8_code 1 none 0 := ⟨zm378, zm4, zm381, by decide +kernel⟩
theorem zl_T_49 : zLk "SluiceStream$Timer" 49 ({ cls := "SluiceStream$Timer", name := "stop", desc := "()V" } : Jvm.MethodName) prog_6_method_5_code 1 none 0 := ⟨zm382, zm4, zm385, by decide +kernel⟩
theorem zg_T_21_5 {K : zCx} {w : zWd} {cc : ByteArray} {n fr lo : Nat} {σ : zSt} {lv : List (Nat × Value)} {st : List Value} {pc : Nat} (O : zOk K w cc "SluiceStream$Timer" n fr lo) (hd : decode cc pc = .ok (.getfield 21, 3)) {v : Value} (hv : (zo5 w σ)[3]? = some v) (kk : Z K w σ lv (v :: st) (pc + 3)) : Z K w σ lv (.ref (zq w 5) :: st) pc := z_getf O 5 (T := zF4) (N := 8) (fs := zo5 w σ) rfl rfl zin4 3 (Nat.le_of_ble_eq_true rfl) zm51 rfl hv hd kk
theorem zp_T_30_5 {K : zCx} {w : zWd} {cc : ByteArray} {n fr lo : Nat} {σ : zSt} {lv : List (Nat × Value)} {st : List Value} {pc : Nat} (O : zOk K w cc "SluiceStream$Timer" n fr lo) (hd : decode cc pc = .ok (.putfield 30, 3)) {v : Int32} (kk : Z K w (zuf σ 5 6 v) lv st (pc + 3)) : Z K w σ lv (.int v :: .ref (zq w 5) :: st) pc := z_putf O 5 (T := zF4) (N := 8) (fs := zo5 w σ) rfl rfl zin4 zY4 zYo4 zNm4 6 (Nat.le_of_ble_eq_true rfl) zm55 rfl rfl (ty := .int) rfl rfl rfl (Nat.le_of_ble_eq_true rfl) (σ' := zuf σ 5 6 v) rfl hd kk
theorem zg_T_33_5 {K : zCx} {w : zWd} {cc : ByteArray} {n fr lo : Nat} {σ : zSt} {lv : List (Nat × Value)} {st : List Value} {pc : Nat} (O : zOk K w cc "SluiceStream$Timer" n fr lo) (hd : decode cc pc = .ok (.getfield 33, 3)) {v : Value} (hv : (zo5 w σ)[7]? = some v) (kk : Z K w σ lv (v :: st) (pc + 3)) : Z K w σ lv (.ref (zq w 5) :: st) pc := z_getf O 5 (T := zF4) (N := 8) (fs := zo5 w σ) rfl rfl zin4 7 (Nat.le_of_ble_eq_true rfl) zm56 rfl hv hd kk
theorem zp_T_24_5 {K : zCx} {w : zWd} {cc : ByteArray} {n fr lo : Nat} {σ : zSt} {lv : List (Nat × Value)} {st : List Value} {pc : Nat} (O : zOk K w cc "SluiceStream$Timer" n fr lo) (hd : decode cc pc = .ok (.putfield 24, 3)) {v : Int32} (kk : Z K w (zuf σ 5 4 v) lv st (pc + 3)) : Z K w σ lv (.int v :: .ref (zq w 5) :: st) pc := z_putf O 5 (T := zF4) (N := 8) (fs := zo5 w σ) rfl rfl zin4 zY4 zYo4 zNm4 4 (Nat.le_of_ble_eq_true rfl) zm53 rfl rfl (ty := .int) rfl rfl rfl (Nat.le_of_ble_eq_true rfl) (σ' := zuf σ 5 4 v) rfl hd kk
theorem zp_T_27_5 {K : zCx} {w : zWd} {cc : ByteArray} {n fr lo : Nat} {σ : zSt} {lv : List (Nat × Value)} {st : List Value} {pc : Nat} (O : zOk K w cc "SluiceStream$Timer" n fr lo) (hd : decode cc pc = .ok (.putfield 27, 3)) {v : Int32} (kk : Z K w (zuf σ 5 5 v) lv st (pc + 3)) : Z K w σ lv (.int v :: .ref (zq w 5) :: st) pc := z_putf O 5 (T := zF4) (N := 8) (fs := zo5 w σ) rfl rfl zin4 zY4 zYo4 zNm4 5 (Nat.le_of_ble_eq_true rfl) zm54 rfl rfl (ty := .int) rfl rfl rfl (Nat.le_of_ble_eq_true rfl) (σ' := zuf σ 5 5 v) rfl hd kk
theorem zp_T_33_5 {K : zCx} {w : zWd} {cc : ByteArray} {n fr lo : Nat} {σ : zSt} {lv : List (Nat × Value)} {st : List Value} {pc : Nat} (O : zOk K w cc "SluiceStream$Timer" n fr lo) (hd : decode cc pc = .ok (.putfield 33, 3)) {v : Int32} (hn : narrow .boolean (.int v) = .int v) (hf : fits .boolean (.int v) = true) (kk : Z K w (zuf σ 5 7 v) lv st (pc + 3)) : Z K w σ lv (.int v :: .ref (zq w 5) :: st) pc := z_putf O 5 (T := zF4) (N := 8) (fs := zo5 w σ) rfl rfl zin4 zY4 zYo4 zNm4 7 (Nat.le_of_ble_eq_true rfl) zm56 rfl rfl (ty := .boolean) rfl hn hf (Nat.le_of_ble_eq_true rfl) (σ' := zuf σ 5 7 v) rfl hd kk
theorem zg_T_24_5 {K : zCx} {w : zWd} {cc : ByteArray} {n fr lo : Nat} {σ : zSt} {lv : List (Nat × Value)} {st : List Value} {pc : Nat} (O : zOk K w cc "SluiceStream$Timer" n fr lo) (hd : decode cc pc = .ok (.getfield 24, 3)) {v : Value} (hv : (zo5 w σ)[4]? = some v) (kk : Z K w σ lv (v :: st) (pc + 3)) : Z K w σ lv (.ref (zq w 5) :: st) pc := z_getf O 5 (T := zF4) (N := 8) (fs := zo5 w σ) rfl rfl zin4 4 (Nat.le_of_ble_eq_true rfl) zm53 rfl hv hd kk
theorem zg_T_27_5 {K : zCx} {w : zWd} {cc : ByteArray} {n fr lo : Nat} {σ : zSt} {lv : List (Nat × Value)} {st : List Value} {pc : Nat} (O : zOk K w cc "SluiceStream$Timer" n fr lo) (hd : decode cc pc = .ok (.getfield 27, 3)) {v : Value} (hv : (zo5 w σ)[5]? = some v) (kk : Z K w σ lv (v :: st) (pc + 3)) : Z K w σ lv (.ref (zq w 5) :: st) pc := z_getf O 5 (T := zF4) (N := 8) (fs := zo5 w σ) rfl rfl zin4 5 (Nat.le_of_ble_eq_true rfl) zm54 rfl hv hd kk
theorem zg_T_30_5 {K : zCx} {w : zWd} {cc : ByteArray} {n fr lo : Nat} {σ : zSt} {lv : List (Nat × Value)} {st : List Value} {pc : Nat} (O : zOk K w cc "SluiceStream$Timer" n fr lo) (hd : decode cc pc = .ok (.getfield 30, 3)) {v : Value} (hv : (zo5 w σ)[6]? = some v) (kk : Z K w σ lv (v :: st) (pc + 3)) : Z K w σ lv (.ref (zq w 5) :: st) pc := z_getf O 5 (T := zF4) (N := 8) (fs := zo5 w σ) rfl rfl zin4 6 (Nat.le_of_ble_eq_true rfl) zm55 rfl hv hd kk
theorem zl_T_52 : zLk "SluiceStream$Timer" 52 ({ cls := "SluiceStream$Timer", name := "takeSample", desc := "(I)V" } : Jvm.MethodName) prog_6_method_10_code 3 none 1 := ⟨zm645, zm4, zm648, by decide +kernel⟩
theorem zin1 : ∀ x ∈ u_ws "SluiceStream$Receiver" zF1 4, x ∈ zT := by
  rw [show u_ws "SluiceStream$Receiver" zF1 4 = [(Jvm.Cond.laysFinal "SluiceStream$Receiver" "SluiceStream$Receiver" "held" "LSluiceStream$Positions;"), (Jvm.Cond.lays "SluiceStream$Receiver" "SluiceStream$Receiver" "deliveries" "I"), (Jvm.Cond.lays "SluiceStream$Receiver" "SluiceStream$Receiver" "firstMissing" "I"), (Jvm.Cond.lays "SluiceStream$Receiver" "SluiceStream$Receiver" "readAt" "I")] from by decide +kernel]
  exact List.forall_mem_cons.mpr ⟨zm147, List.forall_mem_cons.mpr ⟨zm149, List.forall_mem_cons.mpr ⟨zm151, List.forall_mem_cons.mpr ⟨zm153, fun _ h => absurd h List.not_mem_nil⟩⟩⟩⟩
theorem zg_R_25_6 {K : zCx} {w : zWd} {cc : ByteArray} {n fr lo : Nat} {σ : zSt} {lv : List (Nat × Value)} {st : List Value} {pc : Nat} (O : zOk K w cc "SluiceStream$Receiver" n fr lo) (hd : decode cc pc = .ok (.getfield 25, 3)) {v : Value} (hv : (zo6 w σ)[3]? = some v) (kk : Z K w σ lv (v :: st) (pc + 3)) : Z K w σ lv (.ref (zq w 6) :: st) pc := z_getf O 6 (T := zF1) (N := 4) (fs := zo6 w σ) rfl rfl zin1 3 (Nat.le_of_ble_eq_true rfl) zm145 rfl hv hd kk
theorem zg_R_22_6 {K : zCx} {w : zWd} {cc : ByteArray} {n fr lo : Nat} {σ : zSt} {lv : List (Nat × Value)} {st : List Value} {pc : Nat} (O : zOk K w cc "SluiceStream$Receiver" n fr lo) (hd : decode cc pc = .ok (.getfield 22, 3)) {v : Value} (hv : (zo6 w σ)[2]? = some v) (kk : Z K w σ lv (v :: st) (pc + 3)) : Z K w σ lv (.ref (zq w 6) :: st) pc := z_getf O 6 (T := zF1) (N := 4) (fs := zo6 w σ) rfl rfl zin1 2 (Nat.le_of_ble_eq_true rfl) zm143 rfl hv hd kk
theorem zg_R_18_6 {K : zCx} {w : zWd} {cc : ByteArray} {n fr lo : Nat} {σ : zSt} {lv : List (Nat × Value)} {st : List Value} {pc : Nat} (O : zOk K w cc "SluiceStream$Receiver" n fr lo) (hd : decode cc pc = .ok (.getfield 18, 3)) {v : Value} (hv : (zo6 w σ)[1]? = some v) (kk : Z K w σ lv (v :: st) (pc + 3)) : Z K w σ lv (.ref (zq w 6) :: st) pc := z_getf O 6 (T := zF1) (N := 4) (fs := zo6 w σ) rfl rfl zin1 1 (Nat.le_of_ble_eq_true rfl) zm142 rfl hv hd kk
theorem zp_R_18_6 {K : zCx} {w : zWd} {cc : ByteArray} {n fr lo : Nat} {σ : zSt} {lv : List (Nat × Value)} {st : List Value} {pc : Nat} (O : zOk K w cc "SluiceStream$Receiver" n fr lo) (hd : decode cc pc = .ok (.putfield 18, 3)) {v : Int32} (kk : Z K w (zuf σ 6 1 v) lv st (pc + 3)) : Z K w σ lv (.int v :: .ref (zq w 6) :: st) pc := z_putf O 6 (T := zF1) (N := 4) (fs := zo6 w σ) rfl rfl zin1 zY1 zYo1 zNm1 1 (Nat.le_of_ble_eq_true rfl) zm142 rfl rfl (ty := .int) rfl rfl rfl (Nat.le_of_ble_eq_true rfl) (σ' := zuf σ 6 1 v) rfl hd kk
theorem zg_R_12_6 {K : zCx} {w : zWd} {cc : ByteArray} {n fr lo : Nat} {σ : zSt} {lv : List (Nat × Value)} {st : List Value} {pc : Nat} (O : zOk K w cc "SluiceStream$Receiver" n fr lo) (hd : decode cc pc = .ok (.getfield 12, 3)) {v : Value} (hv : (zo6 w σ)[0]? = some v) (kk : Z K w σ lv (v :: st) (pc + 3)) : Z K w σ lv (.ref (zq w 6) :: st) pc := z_getf O 6 (T := zF1) (N := 4) (fs := zo6 w σ) rfl rfl zin1 0 (Nat.le_of_ble_eq_true rfl) zm141 rfl hv hd kk
theorem zl_R_34 : zLk "SluiceStream$Receiver" 34 ({ cls := "SluiceStream$Positions", name := "fillEmpty", desc := "(III)I" } : Jvm.MethodName) prog_2_method_3_code 6 (some .int) 3 := ⟨zm419, zm3, zm422, by decide +kernel⟩
theorem zl_R_38 : zLk "SluiceStream$Receiver" 38 ({ cls := "SluiceStream$Positions", name := "firstEmpty", desc := "(II)I" } : Jvm.MethodName) prog_2_method_6_code 4 (some .int) 2 := ⟨zm331, zm3, zm334, by decide +kernel⟩
theorem zp_R_22_6 {K : zCx} {w : zWd} {cc : ByteArray} {n fr lo : Nat} {σ : zSt} {lv : List (Nat × Value)} {st : List Value} {pc : Nat} (O : zOk K w cc "SluiceStream$Receiver" n fr lo) (hd : decode cc pc = .ok (.putfield 22, 3)) {v : Int32} (kk : Z K w (zuf σ 6 2 v) lv st (pc + 3)) : Z K w σ lv (.int v :: .ref (zq w 6) :: st) pc := z_putf O 6 (T := zF1) (N := 4) (fs := zo6 w σ) rfl rfl zin1 zY1 zYo1 zNm1 2 (Nat.le_of_ble_eq_true rfl) zm143 rfl rfl (ty := .int) rfl rfl rfl (Nat.le_of_ble_eq_true rfl) (σ' := zuf σ 6 2 v) rfl hd kk
theorem zl_R_41 : zLk "SluiceStream$Receiver" 41 ({ cls := "SluiceStream$Receiver", name := "room", desc := "()I" } : Jvm.MethodName) prog_3_method_2_code 1 (some .int) 0 := ⟨zm279, zm5, zm282, by decide +kernel⟩
theorem zp_R_25_6 {K : zCx} {w : zWd} {cc : ByteArray} {n fr lo : Nat} {σ : zSt} {lv : List (Nat × Value)} {st : List Value} {pc : Nat} (O : zOk K w cc "SluiceStream$Receiver" n fr lo) (hd : decode cc pc = .ok (.putfield 25, 3)) {v : Int32} (kk : Z K w (zuf σ 6 3 v) lv st (pc + 3)) : Z K w σ lv (.int v :: .ref (zq w 6) :: st) pc := z_putf O 6 (T := zF1) (N := 4) (fs := zo6 w σ) rfl rfl zin1 zY1 zYo1 zNm1 3 (Nat.le_of_ble_eq_true rfl) zm145 rfl rfl (ty := .int) rfl rfl rfl (Nat.le_of_ble_eq_true rfl) (σ' := zuf σ 6 3 v) rfl hd kk
theorem zl_R_79 : zLk "SluiceStream$Receiver" 79 ({ cls := "SluiceStream$Positions", name := "firstFilled", desc := "(II)I" } : Jvm.MethodName) prog_2_method_7_code 4 (some .int) 2 := ⟨zm319, zm3, zm322, by decide +kernel⟩
theorem zl_R_70 : zLk "SluiceStream$Receiver" 70 ({ cls := "SluiceStream$Receiver", name := "endOfRun", desc := "(I)I" } : Jvm.MethodName) prog_3_method_10_code 2 (some .int) 1 := ⟨zm327, zm5, zm330, by decide +kernel⟩
theorem zl_R_73 : zLk "SluiceStream$Receiver" 73 ({ cls := "SluiceStream$Positions", name := "greatest", desc := "(II)I" } : Jvm.MethodName) prog_2_method_8_code 5 (some .int) 2 := ⟨zm335, zm3, zm338, by decide +kernel⟩
theorem zl_R_76 : zLk "SluiceStream$Receiver" 76 ({ cls := "SluiceStream$Receiver", name := "blockFrom", desc := "(I)I" } : Jvm.MethodName) prog_3_method_11_code 4 (some .int) 1 := ⟨zm315, zm5, zm318, by decide +kernel⟩
theorem zl_R_66 : zLk "SluiceStream$Receiver" 66 ({ cls := "SluiceStream$Receiver", name := "newestBlockBefore", desc := "(I)I" } : Jvm.MethodName) prog_3_method_7_code 8 (some .int) 1 := ⟨zm311, zm5, zm314, by decide +kernel⟩
theorem zl_R_58 : zLk "SluiceStream$Receiver" 58 ({ cls := "SluiceStream$Rows", name := "setCell", desc := "(III)V" } : Jvm.MethodName) prog_4_method_5_code 5 none 3 := ⟨zm303, zm6, zm306, by decide +kernel⟩
theorem zl_R_45 : zLk "SluiceStream$Receiver" 45 ({ cls := "SluiceStream$Rows", name := "isFull", desc := "()Z" } : Jvm.MethodName) prog_4_method_3_code 1 (some .boolean) 0 := ⟨zm287, zm6, zm290, by decide +kernel⟩
theorem zl_R_55 : zLk "SluiceStream$Receiver" 55 ({ cls := "SluiceStream$Rows", name := "addRow", desc := "()I" } : Jvm.MethodName) prog_4_method_6_code 1 (some .int) 0 := ⟨zm299, zm6, zm302, by decide +kernel⟩
theorem zl_R_62 : zLk "SluiceStream$Receiver" 62 ({ cls := "SluiceStream$Receiver", name := "tellBlocks", desc := "(LSluiceStream$Rows;I)I" } : Jvm.MethodName) prog_3_method_6_code 8 (some .int) 2 := ⟨zm307, zm5, zm310, by decide +kernel⟩
theorem zl_R_51 : zLk "SluiceStream$Receiver" 51 ({ cls := "SluiceStream$Rows", name := "remove", desc := "(I)V" } : Jvm.MethodName) prog_4_method_7_code 3 none 1 := ⟨zm291, zm6, zm294, by decide +kernel⟩
theorem zin3 : ∀ x ∈ u_ws "SluiceStream$Sender" zF3 15, x ∈ zT := by
  rw [show u_ws "SluiceStream$Sender" zF3 15 = [(Jvm.Cond.laysFinal "SluiceStream$Sender" "SluiceStream$Sender" "marks" "LSluiceStream$Positions;"), (Jvm.Cond.laysFinal "SluiceStream$Sender" "SluiceStream$Sender" "timer" "LSluiceStream$Timer;"), (Jvm.Cond.lays "SluiceStream$Sender" "SluiceStream$Sender" "acked" "I"), (Jvm.Cond.lays "SluiceStream$Sender" "SluiceStream$Sender" "toSend" "I"), (Jvm.Cond.lays "SluiceStream$Sender" "SluiceStream$Sender" "sentBelow" "I"), (Jvm.Cond.lays "SluiceStream$Sender" "SluiceStream$Sender" "writtenBytes" "I"), (Jvm.Cond.lays "SluiceStream$Sender" "SluiceStream$Sender" "edgeAt" "I"), (Jvm.Cond.lays "SluiceStream$Sender" "SluiceStream$Sender" "congestion" "I"), (Jvm.Cond.lays "SluiceStream$Sender" "SluiceStream$Sender" "slowFrom" "I"), (Jvm.Cond.lays "SluiceStream$Sender" "SluiceStream$Sender" "limit" "I"), (Jvm.Cond.lays "SluiceStream$Sender" "SluiceStream$Sender" "duplicateCount" "I"), (Jvm.Cond.lays "SluiceStream$Sender" "SluiceStream$Sender" "recoversTo" "I"), (Jvm.Cond.lays "SluiceStream$Sender" "SluiceStream$Sender" "repairsFrom" "I"), (Jvm.Cond.lays "SluiceStream$Sender" "SluiceStream$Sender" "sentCount" "I"), (Jvm.Cond.lays "SluiceStream$Sender" "SluiceStream$Sender" "sentAgainCount" "I")] from by decide +kernel]
  exact List.forall_mem_cons.mpr ⟨zm102, List.forall_mem_cons.mpr ⟨zm104, List.forall_mem_cons.mpr ⟨zm106, List.forall_mem_cons.mpr ⟨zm108, List.forall_mem_cons.mpr ⟨zm110, List.forall_mem_cons.mpr ⟨zm112, List.forall_mem_cons.mpr ⟨zm114, List.forall_mem_cons.mpr ⟨zm116, List.forall_mem_cons.mpr ⟨zm118, List.forall_mem_cons.mpr ⟨zm120, List.forall_mem_cons.mpr ⟨zm122, List.forall_mem_cons.mpr ⟨zm124, List.forall_mem_cons.mpr ⟨zm126, List.forall_mem_cons.mpr ⟨zm128, List.forall_mem_cons.mpr ⟨zm130, fun _ h => absurd h List.not_mem_nil⟩⟩⟩⟩⟩⟩⟩⟩⟩⟩⟩⟩⟩⟩⟩
theorem zg_S_12_2 {K : zCx} {w : zWd} {cc : ByteArray} {n fr lo : Nat} {σ : zSt} {lv : List (Nat × Value)} {st : List Value} {pc : Nat} (O : zOk K w cc "SluiceStream$Sender" n fr lo) (hd : decode cc pc = .ok (.getfield 12, 3)) {v : Value} (hv : (zo2 w σ)[0]? = some v) (kk : Z K w σ lv (v :: st) (pc + 3)) : Z K w σ lv (.ref (zq w 2) :: st) pc := z_getf O 2 (T := zF3) (N := 15) (fs := zo2 w σ) rfl rfl zin3 0 (Nat.le_of_ble_eq_true rfl) zm74 rfl hv hd kk
theorem zg_S_25_2 {K : zCx} {w : zWd} {cc : ByteArray} {n fr lo : Nat} {σ : zSt} {lv : List (Nat × Value)} {st : List Value} {pc : Nat} (O : zOk K w cc "SluiceStream$Sender" n fr lo) (hd : decode cc pc = .ok (.getfield 25, 3)) {v : Value} (hv : (zo2 w σ)[2]? = some v) (kk : Z K w σ lv (v :: st) (pc + 3)) : Z K w σ lv (.ref (zq w 2) :: st) pc := z_getf O 2 (T := zF3) (N := 15) (fs := zo2 w σ) rfl rfl zin3 2 (Nat.le_of_ble_eq_true rfl) zm78 rfl hv hd kk
theorem zg_S_29_2 {K : zCx} {w : zWd} {cc : ByteArray} {n fr lo : Nat} {σ : zSt} {lv : List (Nat × Value)} {st : List Value} {pc : Nat} (O : zOk K w cc "SluiceStream$Sender" n fr lo) (hd : decode cc pc = .ok (.getfield 29, 3)) {v : Value} (hv : (zo2 w σ)[3]? = some v) (kk : Z K w σ lv (v :: st) (pc + 3)) : Z K w σ lv (.ref (zq w 2) :: st) pc := z_getf O 2 (T := zF3) (N := 15) (fs := zo2 w σ) rfl rfl zin3 3 (Nat.le_of_ble_eq_true rfl) zm80 rfl hv hd kk
theorem zl_S_65 : zLk "SluiceStream$Sender" 65 ({ cls := "SluiceStream$Positions", name := "countEmpty", desc := "(II)I" } : Jvm.MethodName) prog_2_method_5_code 5 (some .int) 2 := ⟨zm366, zm3, zm369, by decide +kernel⟩
theorem zg_S_53_2 {K : zCx} {w : zWd} {cc : ByteArray} {n fr lo : Nat} {σ : zSt} {lv : List (Nat × Value)} {st : List Value} {pc : Nat} (O : zOk K w cc "SluiceStream$Sender" n fr lo) (hd : decode cc pc = .ok (.getfield 53, 3)) {v : Value} (hv : (zo2 w σ)[11]? = some v) (kk : Z K w σ lv (v :: st) (pc + 3)) : Z K w σ lv (.ref (zq w 2) :: st) pc := z_getf O 2 (T := zF3) (N := 15) (fs := zo2 w σ) rfl rfl zin3 11 (Nat.le_of_ble_eq_true rfl) zm95 rfl hv hd kk
theorem zg_S_56_2 {K : zCx} {w : zWd} {cc : ByteArray} {n fr lo : Nat} {σ : zSt} {lv : List (Nat × Value)} {st : List Value} {pc : Nat} (O : zOk K w cc "SluiceStream$Sender" n fr lo) (hd : decode cc pc = .ok (.getfield 56, 3)) {v : Value} (hv : (zo2 w σ)[12]? = some v) (kk : Z K w σ lv (v :: st) (pc + 3)) : Z K w σ lv (.ref (zq w 2) :: st) pc := z_getf O 2 (T := zF3) (N := 15) (fs := zo2 w σ) rfl rfl zin3 12 (Nat.le_of_ble_eq_true rfl) zm97 rfl hv hd kk
theorem zl_S_76 : zLk "SluiceStream$Sender" 76 ({ cls := "SluiceStream$Positions", name := "firstEmpty", desc := "(II)I" } : Jvm.MethodName) prog_2_method_6_code 4 (some .int) 2 := ⟨zm596, zm3, zm334, by decide +kernel⟩
theorem zg_S_32_2 {K : zCx} {w : zWd} {cc : ByteArray} {n fr lo : Nat} {σ : zSt} {lv : List (Nat × Value)} {st : List Value} {pc : Nat} (O : zOk K w cc "SluiceStream$Sender" n fr lo) (hd : decode cc pc = .ok (.getfield 32, 3)) {v : Value} (hv : (zo2 w σ)[4]? = some v) (kk : Z K w σ lv (v :: st) (pc + 3)) : Z K w σ lv (.ref (zq w 2) :: st) pc := z_getf O 2 (T := zF3) (N := 15) (fs := zo2 w σ) rfl rfl zin3 4 (Nat.le_of_ble_eq_true rfl) zm82 rfl hv hd kk
theorem zl_S_100 : zLk "SluiceStream$Sender" 100 ({ cls := "SluiceStream$Positions", name := "firstFilled", desc := "(II)I" } : Jvm.MethodName) prog_2_method_7_code 4 (some .int) 2 := ⟨zm597, zm3, zm322, by decide +kernel⟩
theorem zg_S_35_2 {K : zCx} {w : zWd} {cc : ByteArray} {n fr lo : Nat} {σ : zSt} {lv : List (Nat × Value)} {st : List Value} {pc : Nat} (O : zOk K w cc "SluiceStream$Sender" n fr lo) (hd : decode cc pc = .ok (.getfield 35, 3)) {v : Value} (hv : (zo2 w σ)[5]? = some v) (kk : Z K w σ lv (v :: st) (pc + 3)) : Z K w σ lv (.ref (zq w 2) :: st) pc := z_getf O 2 (T := zF3) (N := 15) (fs := zo2 w σ) rfl rfl zin3 5 (Nat.le_of_ble_eq_true rfl) zm84 rfl hv hd kk
theorem zl_S_106 : zLk "SluiceStream$Sender" 106 ({ cls := "SluiceStream$Sender", name := "countFlying", desc := "()I" } : Jvm.MethodName) prog_5_method_2_code 1 (some .int) 0 := ⟨zm362, zm2, zm365, by decide +kernel⟩
theorem zg_S_38_2 {K : zCx} {w : zWd} {cc : ByteArray} {n fr lo : Nat} {σ : zSt} {lv : List (Nat × Value)} {st : List Value} {pc : Nat} (O : zOk K w cc "SluiceStream$Sender" n fr lo) (hd : decode cc pc = .ok (.getfield 38, 3)) {v : Value} (hv : (zo2 w σ)[6]? = some v) (kk : Z K w σ lv (v :: st) (pc + 3)) : Z K w σ lv (.ref (zq w 2) :: st) pc := z_getf O 2 (T := zF3) (N := 15) (fs := zo2 w σ) rfl rfl zin3 6 (Nat.le_of_ble_eq_true rfl) zm86 rfl hv hd kk
theorem zl_S_73 : zLk "SluiceStream$Sender" 73 ({ cls := "SluiceStream$Sender", name := "endOfRun", desc := "(II)I" } : Jvm.MethodName) prog_5_method_5_code 3 (some .int) 2 := ⟨zm598, zm2, zm601, by decide +kernel⟩
theorem zg_S_41_2 {K : zCx} {w : zWd} {cc : ByteArray} {n fr lo : Nat} {σ : zSt} {lv : List (Nat × Value)} {st : List Value} {pc : Nat} (O : zOk K w cc "SluiceStream$Sender" n fr lo) (hd : decode cc pc = .ok (.getfield 41, 3)) {v : Value} (hv : (zo2 w σ)[7]? = some v) (kk : Z K w σ lv (v :: st) (pc + 3)) : Z K w σ lv (.ref (zq w 2) :: st) pc := z_getf O 2 (T := zF3) (N := 15) (fs := zo2 w σ) rfl rfl zin3 7 (Nat.le_of_ble_eq_true rfl) zm88 rfl hv hd kk
theorem zg_S_47_2 {K : zCx} {w : zWd} {cc : ByteArray} {n fr lo : Nat} {σ : zSt} {lv : List (Nat × Value)} {st : List Value} {pc : Nat} (O : zOk K w cc "SluiceStream$Sender" n fr lo) (hd : decode cc pc = .ok (.getfield 47, 3)) {v : Value} (hv : (zo2 w σ)[9]? = some v) (kk : Z K w σ lv (v :: st) (pc + 3)) : Z K w σ lv (.ref (zq w 2) :: st) pc := z_getf O 2 (T := zF3) (N := 15) (fs := zo2 w σ) rfl rfl zin3 9 (Nat.le_of_ble_eq_true rfl) zm92 rfl hv hd kk
theorem zg_S_59_2 {K : zCx} {w : zWd} {cc : ByteArray} {n fr lo : Nat} {σ : zSt} {lv : List (Nat × Value)} {st : List Value} {pc : Nat} (O : zOk K w cc "SluiceStream$Sender" n fr lo) (hd : decode cc pc = .ok (.getfield 59, 3)) {v : Value} (hv : (zo2 w σ)[13]? = some v) (kk : Z K w σ lv (v :: st) (pc + 3)) : Z K w σ lv (.ref (zq w 2) :: st) pc := z_getf O 2 (T := zF3) (N := 15) (fs := zo2 w σ) rfl rfl zin3 13 (Nat.le_of_ble_eq_true rfl) zm98 rfl hv hd kk
theorem zp_S_59_2 {K : zCx} {w : zWd} {cc : ByteArray} {n fr lo : Nat} {σ : zSt} {lv : List (Nat × Value)} {st : List Value} {pc : Nat} (O : zOk K w cc "SluiceStream$Sender" n fr lo) (hd : decode cc pc = .ok (.putfield 59, 3)) {v : Int32} (kk : Z K w (zuf σ 2 13 v) lv st (pc + 3)) : Z K w σ lv (.int v :: .ref (zq w 2) :: st) pc := z_putf O 2 (T := zF3) (N := 15) (fs := zo2 w σ) rfl rfl zin3 zY3 zYo3 zNm3 13 (Nat.le_of_ble_eq_true rfl) zm98 rfl rfl (ty := .int) rfl rfl rfl (Nat.le_of_ble_eq_true rfl) (σ' := zuf σ 2 13 v) rfl hd kk
theorem zg_S_21_2 {K : zCx} {w : zWd} {cc : ByteArray} {n fr lo : Nat} {σ : zSt} {lv : List (Nat × Value)} {st : List Value} {pc : Nat} (O : zOk K w cc "SluiceStream$Sender" n fr lo) (hd : decode cc pc = .ok (.getfield 21, 3)) {v : Value} (hv : (zo2 w σ)[1]? = some v) (kk : Z K w σ lv (v :: st) (pc + 3)) : Z K w σ lv (.ref (zq w 2) :: st) pc := z_getf O 2 (T := zF3) (N := 15) (fs := zo2 w σ) rfl rfl zin3 1 (Nat.le_of_ble_eq_true rfl) zm76 rfl hv hd kk
theorem zl_S_109 : zLk "SluiceStream$Sender" 109 ({ cls := "SluiceStream$Timer", name := "timeSegment", desc := "(I)V" } : Jvm.MethodName) prog_6_method_7_code 2 none 1 := ⟨zm611, zm4, zm614, by decide +kernel⟩
theorem zp_S_32_2 {K : zCx} {w : zWd} {cc : ByteArray} {n fr lo : Nat} {σ : zSt} {lv : List (Nat × Value)} {st : List Value} {pc : Nat} (O : zOk K w cc "SluiceStream$Sender" n fr lo) (hd : decode cc pc = .ok (.putfield 32, 3)) {v : Int32} (kk : Z K w (zuf σ 2 4 v) lv st (pc + 3)) : Z K w σ lv (.int v :: .ref (zq w 2) :: st) pc := z_putf O 2 (T := zF3) (N := 15) (fs := zo2 w σ) rfl rfl zin3 zY3 zYo3 zNm3 4 (Nat.le_of_ble_eq_true rfl) zm82 rfl rfl (ty := .int) rfl rfl rfl (Nat.le_of_ble_eq_true rfl) (σ' := zuf σ 2 4 v) rfl hd kk
theorem zl_S_113 : zLk "SluiceStream$Sender" 113 ({ cls := "SluiceStream$Timer", name := "startIfStopped", desc := "()V" } : Jvm.MethodName) prog_6_method_4_code 1 none 0 := ⟨zm615, zm4, zm618, by decide +kernel⟩
theorem zg_S_62_2 {K : zCx} {w : zWd} {cc : ByteArray} {n fr lo : Nat} {σ : zSt} {lv : List (Nat × Value)} {st : List Value} {pc : Nat} (O : zOk K w cc "SluiceStream$Sender" n fr lo) (hd : decode cc pc = .ok (.getfield 62, 3)) {v : Value} (hv : (zo2 w σ)[14]? = some v) (kk : Z K w σ lv (v :: st) (pc + 3)) : Z K w σ lv (.ref (zq w 2) :: st) pc := z_getf O 2 (T := zF3) (N := 15) (fs := zo2 w σ) rfl rfl zin3 14 (Nat.le_of_ble_eq_true rfl) zm100 rfl hv hd kk
theorem zp_S_62_2 {K : zCx} {w : zWd} {cc : ByteArray} {n fr lo : Nat} {σ : zSt} {lv : List (Nat × Value)} {st : List Value} {pc : Nat} (O : zOk K w cc "SluiceStream$Sender" n fr lo) (hd : decode cc pc = .ok (.putfield 62, 3)) {v : Int32} (kk : Z K w (zuf σ 2 14 v) lv st (pc + 3)) : Z K w σ lv (.int v :: .ref (zq w 2) :: st) pc := z_putf O 2 (T := zF3) (N := 15) (fs := zo2 w σ) rfl rfl zin3 zY3 zYo3 zNm3 14 (Nat.le_of_ble_eq_true rfl) zm100 rfl rfl (ty := .int) rfl rfl rfl (Nat.le_of_ble_eq_true rfl) (σ' := zuf σ 2 14 v) rfl hd kk
theorem zl_S_69 : zLk "SluiceStream$Sender" 69 ({ cls := "SluiceStream$Sender", name := "startOfRepair", desc := "()I" } : Jvm.MethodName) prog_5_method_4_code 3 (some .int) 0 := ⟨zm592, zm2, zm595, by decide +kernel⟩
theorem zp_S_29_2 {K : zCx} {w : zWd} {cc : ByteArray} {n fr lo : Nat} {σ : zSt} {lv : List (Nat × Value)} {st : List Value} {pc : Nat} (O : zOk K w cc "SluiceStream$Sender" n fr lo) (hd : decode cc pc = .ok (.putfield 29, 3)) {v : Int32} (kk : Z K w (zuf σ 2 3 v) lv st (pc + 3)) : Z K w σ lv (.int v :: .ref (zq w 2) :: st) pc := z_putf O 2 (T := zF3) (N := 15) (fs := zo2 w σ) rfl rfl zin3 zY3 zYo3 zNm3 3 (Nat.le_of_ble_eq_true rfl) zm80 rfl rfl (ty := .int) rfl rfl rfl (Nat.le_of_ble_eq_true rfl) (σ' := zuf σ 2 3 v) rfl hd kk
theorem zl_S_79 : zLk "SluiceStream$Sender" 79 ({ cls := "SluiceStream$Sender", name := "endOfFresh", desc := "()I" } : Jvm.MethodName) prog_5_method_6_code 4 (some .int) 0 := ⟨zm603, zm2, zm606, by decide +kernel⟩
theorem zl_S_82 : zLk "SluiceStream$Sender" 82 ({ cls := "SluiceStream$Sender", name := "noteSent", desc := "(II)V" } : Jvm.MethodName) prog_5_method_7_code 3 none 2 := ⟨zm607, zm2, zm610, by decide +kernel⟩
theorem zl_S_86 : zLk "SluiceStream$Sender" 86 ({ cls := "SluiceStream$Rows", name := "addRow", desc := "()I" } : Jvm.MethodName) prog_4_method_6_code 1 (some .int) 0 := ⟨zm623, zm6, zm302, by decide +kernel⟩
theorem zl_S_91 : zLk "SluiceStream$Sender" 91 ({ cls := "SluiceStream$Rows", name := "setCell", desc := "(III)V" } : Jvm.MethodName) prog_4_method_5_code 5 none 3 := ⟨zm624, zm6, zm306, by decide +kernel⟩
theorem zp_S_56_2 {K : zCx} {w : zWd} {cc : ByteArray} {n fr lo : Nat} {σ : zSt} {lv : List (Nat × Value)} {st : List Value} {pc : Nat} (O : zOk K w cc "SluiceStream$Sender" n fr lo) (hd : decode cc pc = .ok (.putfield 56, 3)) {v : Int32} (kk : Z K w (zuf σ 2 12 v) lv st (pc + 3)) : Z K w σ lv (.int v :: .ref (zq w 2) :: st) pc := z_putf O 2 (T := zF3) (N := 15) (fs := zo2 w σ) rfl rfl zin3 zY3 zYo3 zNm3 12 (Nat.le_of_ble_eq_true rfl) zm97 rfl rfl (ty := .int) rfl rfl rfl (Nat.le_of_ble_eq_true rfl) (σ' := zuf σ 2 12 v) rfl hd kk
theorem zl_S_123 : zLk "SluiceStream$Sender" 123 ({ cls := "SluiceStream$Sender", name := "halfOfFlying", desc := "()I" } : Jvm.MethodName) prog_5_method_10_code 1 (some .int) 0 := ⟨zm358, zm2, zm361, by decide +kernel⟩
theorem zp_S_44_2 {K : zCx} {w : zWd} {cc : ByteArray} {n fr lo : Nat} {σ : zSt} {lv : List (Nat × Value)} {st : List Value} {pc : Nat} (O : zOk K w cc "SluiceStream$Sender" n fr lo) (hd : decode cc pc = .ok (.putfield 44, 3)) {v : Int32} (kk : Z K w (zuf σ 2 8 v) lv st (pc + 3)) : Z K w σ lv (.int v :: .ref (zq w 2) :: st) pc := z_putf O 2 (T := zF3) (N := 15) (fs := zo2 w σ) rfl rfl zin3 zY3 zYo3 zNm3 8 (Nat.le_of_ble_eq_true rfl) zm90 rfl rfl (ty := .int) rfl rfl rfl (Nat.le_of_ble_eq_true rfl) (σ' := zuf σ 2 8 v) rfl hd kk
theorem zp_S_41_2 {K : zCx} {w : zWd} {cc : ByteArray} {n fr lo : Nat} {σ : zSt} {lv : List (Nat × Value)} {st : List Value} {pc : Nat} (O : zOk K w cc "SluiceStream$Sender" n fr lo) (hd : decode cc pc = .ok (.putfield 41, 3)) {v : Int32} (kk : Z K w (zuf σ 2 7 v) lv st (pc + 3)) : Z K w σ lv (.int v :: .ref (zq w 2) :: st) pc := z_putf O 2 (T := zF3) (N := 15) (fs := zo2 w σ) rfl rfl zin3 zY3 zYo3 zNm3 7 (Nat.le_of_ble_eq_true rfl) zm88 rfl rfl (ty := .int) rfl rfl rfl (Nat.le_of_ble_eq_true rfl) (σ' := zuf σ 2 7 v) rfl hd kk
theorem zl_S_126 : zLk "SluiceStream$Sender" 126 ({ cls := "SluiceStream$Timer", name := "backOff", desc := "()V" } : Jvm.MethodName) prog_6_method_6_code 1 none 0 := ⟨zm371, zm4, zm374, by decide +kernel⟩
theorem zl_S_129 : zLk "SluiceStream$Sender" 129 ({ cls := "SluiceStream$Positions", name := "empty", desc := "(II)V" } : Jvm.MethodName) prog_2_method_4_code 4 none 2 := ⟨zm386, zm3, zm389, by decide +kernel⟩
theorem zp_S_53_2 {K : zCx} {w : zWd} {cc : ByteArray} {n fr lo : Nat} {σ : zSt} {lv : List (Nat × Value)} {st : List Value} {pc : Nat} (O : zOk K w cc "SluiceStream$Sender" n fr lo) (hd : decode cc pc = .ok (.putfield 53, 3)) {v : Int32} (kk : Z K w (zuf σ 2 11 v) lv st (pc + 3)) : Z K w σ lv (.int v :: .ref (zq w 2) :: st) pc := z_putf O 2 (T := zF3) (N := 15) (fs := zo2 w σ) rfl rfl zin3 zY3 zYo3 zNm3 11 (Nat.le_of_ble_eq_true rfl) zm95 rfl rfl (ty := .int) rfl rfl rfl (Nat.le_of_ble_eq_true rfl) (σ' := zuf σ 2 11 v) rfl hd kk
theorem zp_S_50_2 {K : zCx} {w : zWd} {cc : ByteArray} {n fr lo : Nat} {σ : zSt} {lv : List (Nat × Value)} {st : List Value} {pc : Nat} (O : zOk K w cc "SluiceStream$Sender" n fr lo) (hd : decode cc pc = .ok (.putfield 50, 3)) {v : Int32} (kk : Z K w (zuf σ 2 10 v) lv st (pc + 3)) : Z K w σ lv (.int v :: .ref (zq w 2) :: st) pc := z_putf O 2 (T := zF3) (N := 15) (fs := zo2 w σ) rfl rfl zin3 zY3 zYo3 zNm3 10 (Nat.le_of_ble_eq_true rfl) zm93 rfl rfl (ty := .int) rfl rfl rfl (Nat.le_of_ble_eq_true rfl) (σ' := zuf σ 2 10 v) rfl hd kk
theorem zl_S_116 : zLk "SluiceStream$Sender" 116 ({ cls := "SluiceStream$Timer", name := "passTick", desc := "()Z" } : Jvm.MethodName) prog_6_method_2_code 1 (some .boolean) 0 := ⟨zm350, zm4, zm353, by decide +kernel⟩
theorem zl_S_120 : zLk "SluiceStream$Sender" 120 ({ cls := "SluiceStream$Sender", name := "startOver", desc := "()V" } : Jvm.MethodName) prog_5_method_9_code 1 none 0 := ⟨zm354, zm2, zm357, by decide +kernel⟩
theorem zg_S_44_2 {K : zCx} {w : zWd} {cc : ByteArray} {n fr lo : Nat} {σ : zSt} {lv : List (Nat × Value)} {st : List Value} {pc : Nat} (O : zOk K w cc "SluiceStream$Sender" n fr lo) (hd : decode cc pc = .ok (.getfield 44, 3)) {v : Value} (hv : (zo2 w σ)[8]? = some v) (kk : Z K w σ lv (v :: st) (pc + 3)) : Z K w σ lv (.ref (zq w 2) :: st) pc := z_getf O 2 (T := zF3) (N := 15) (fs := zo2 w σ) rfl rfl zin3 8 (Nat.le_of_ble_eq_true rfl) zm90 rfl hv hd kk
theorem zl_S_145 : zLk "SluiceStream$Sender" 145 ({ cls := "SluiceStream$Timer", name := "endTiming", desc := "(I)V" } : Jvm.MethodName) prog_6_method_9_code 2 none 1 := ⟨zm641, zm4, zm644, by decide +kernel⟩
theorem zp_S_25_2 {K : zCx} {w : zWd} {cc : ByteArray} {n fr lo : Nat} {σ : zSt} {lv : List (Nat × Value)} {st : List Value} {pc : Nat} (O : zOk K w cc "SluiceStream$Sender" n fr lo) (hd : decode cc pc = .ok (.putfield 25, 3)) {v : Int32} (kk : Z K w (zuf σ 2 2 v) lv st (pc + 3)) : Z K w σ lv (.int v :: .ref (zq w 2) :: st) pc := z_putf O 2 (T := zF3) (N := 15) (fs := zo2 w σ) rfl rfl zin3 zY3 zYo3 zNm3 2 (Nat.le_of_ble_eq_true rfl) zm78 rfl rfl (ty := .int) rfl rfl rfl (Nat.le_of_ble_eq_true rfl) (σ' := zuf σ 2 2 v) rfl hd kk
theorem zl_S_154 : zLk "SluiceStream$Sender" 154 ({ cls := "SluiceStream$Timer", name := "startAnew", desc := "()V" } : Jvm.MethodName) prog_6_method_3_code 1 none 0 := ⟨zm658, zm4, zm622, by decide +kernel⟩
theorem zl_S_151 : zLk "SluiceStream$Sender" 151 ({ cls := "SluiceStream$Timer", name := "stop", desc := "()V" } : Jvm.MethodName) prog_6_method_5_code 1 none 0 := ⟨zm657, zm4, zm385, by decide +kernel⟩
theorem zl_S_148 : zLk "SluiceStream$Sender" 148 ({ cls := "SluiceStream$Sender", name := "growCongestion", desc := "()V" } : Jvm.MethodName) prog_5_method_13_code 2 none 0 := ⟨zm653, zm2, zm656, by decide +kernel⟩
theorem zl_S_132 : zLk "SluiceStream$Sender" 132 ({ cls := "SluiceStream$Rows", name := "cell", desc := "(II)I" } : Jvm.MethodName) prog_4_method_4_code 4 (some .int) 2 := ⟨zm636, zm6, zm413, by decide +kernel⟩
theorem zl_S_157 : zLk "SluiceStream$Sender" 157 ({ cls := "SluiceStream$Positions", name := "fillEmpty", desc := "(III)I" } : Jvm.MethodName) prog_2_method_3_code 6 (some .int) 3 := ⟨zm663, zm3, zm422, by decide +kernel⟩
theorem zg_S_50_2 {K : zCx} {w : zWd} {cc : ByteArray} {n fr lo : Nat} {σ : zSt} {lv : List (Nat × Value)} {st : List Value} {pc : Nat} (O : zOk K w cc "SluiceStream$Sender" n fr lo) (hd : decode cc pc = .ok (.getfield 50, 3)) {v : Value} (hv : (zo2 w σ)[10]? = some v) (kk : Z K w σ lv (v :: st) (pc + 3)) : Z K w σ lv (.ref (zq w 2) :: st) pc := z_getf O 2 (T := zF3) (N := 15) (fs := zo2 w σ) rfl rfl zin3 10 (Nat.le_of_ble_eq_true rfl) zm93 rfl hv hd kk
theorem zl_S_161 : zLk "SluiceStream$Sender" 161 ({ cls := "SluiceStream$Timer", name := "forgetTiming", desc := "()V" } : Jvm.MethodName) prog_6_method_8_code 1 none 0 := ⟨zm668, zm4, zm381, by decide +kernel⟩
theorem zp_S_38_2 {K : zCx} {w : zWd} {cc : ByteArray} {n fr lo : Nat} {σ : zSt} {lv : List (Nat × Value)} {st : List Value} {pc : Nat} (O : zOk K w cc "SluiceStream$Sender" n fr lo) (hd : decode cc pc = .ok (.putfield 38, 3)) {v : Int32} (kk : Z K w (zuf σ 2 6 v) lv st (pc + 3)) : Z K w σ lv (.int v :: .ref (zq w 2) :: st) pc := z_putf O 2 (T := zF3) (N := 15) (fs := zo2 w σ) rfl rfl zin3 zY3 zYo3 zNm3 6 (Nat.le_of_ble_eq_true rfl) zm86 rfl rfl (ty := .int) rfl rfl rfl (Nat.le_of_ble_eq_true rfl) (σ' := zuf σ 2 6 v) rfl hd kk
theorem zl_S_138 : zLk "SluiceStream$Sender" 138 ({ cls := "SluiceStream$Sender", name := "markBlocks", desc := "(LSluiceStream$Rows;I)V" } : Jvm.MethodName) prog_5_method_14_code 7 none 2 := ⟨zm659, zm2, zm662, by decide +kernel⟩
theorem zl_S_142 : zLk "SluiceStream$Sender" 142 ({ cls := "SluiceStream$Sender", name := "countDuplicate", desc := "()V" } : Jvm.MethodName) prog_5_method_15_code 1 none 0 := ⟨zm664, zm2, zm667, by decide +kernel⟩
theorem zl_S_135 : zLk "SluiceStream$Sender" 135 ({ cls := "SluiceStream$Sender", name := "advanceTo", desc := "(I)V" } : Jvm.MethodName) prog_5_method_12_code 2 none 1 := ⟨zm637, zm2, zm640, by decide +kernel⟩
theorem zin5 : ∀ x ∈ u_ws "SluiceStream" zF5 5, x ∈ zT := by
  rw [show u_ws "SluiceStream" zF5 5 = [(Jvm.Cond.laysFinal "SluiceStream" "SluiceStream" "values" "[I"), (Jvm.Cond.laysFinal "SluiceStream" "SluiceStream" "sender" "LSluiceStream$Sender;"), (Jvm.Cond.laysFinal "SluiceStream" "SluiceStream" "receiver" "LSluiceStream$Receiver;"), (Jvm.Cond.laysFinal "SluiceStream" "SluiceStream" "segmentList" "LSluiceStream$Rows;"), (Jvm.Cond.laysFinal "SluiceStream" "SluiceStream" "ackList" "LSluiceStream$Rows;")] from by decide +kernel]
  exact List.forall_mem_cons.mpr ⟨zm178, List.forall_mem_cons.mpr ⟨zm180, List.forall_mem_cons.mpr ⟨zm182, List.forall_mem_cons.mpr ⟨zm184, List.forall_mem_cons.mpr ⟨zm186, fun _ h => absurd h List.not_mem_nil⟩⟩⟩⟩⟩
theorem zg_X_16_0 {K : zCx} {w : zWd} {cc : ByteArray} {n fr lo : Nat} {σ : zSt} {lv : List (Nat × Value)} {st : List Value} {pc : Nat} (O : zOk K w cc "SluiceStream" n fr lo) (hd : decode cc pc = .ok (.getfield 16, 3)) {v : Value} (hv : (zo0 w σ)[1]? = some v) (kk : Z K w σ lv (v :: st) (pc + 3)) : Z K w σ lv (.ref (zq w 0) :: st) pc := z_getf O 0 (T := zF5) (N := 5) (fs := zo0 w σ) rfl rfl zin5 1 (Nat.le_of_ble_eq_true rfl) zm174 rfl hv hd kk
theorem zg_X_42_2 {K : zCx} {w : zWd} {cc : ByteArray} {n fr lo : Nat} {σ : zSt} {lv : List (Nat × Value)} {st : List Value} {pc : Nat} (O : zOk K w cc "SluiceStream" n fr lo) (hd : decode cc pc = .ok (.getfield 42, 3)) {v : Value} (hv : (zo2 w σ)[5]? = some v) (kk : Z K w σ lv (v :: st) (pc + 3)) : Z K w σ lv (.ref (zq w 2) :: st) pc := z_getf O 2 (T := zF3) (N := 15) (fs := zo2 w σ) rfl rfl zin3 5 (Nat.le_of_ble_eq_true rfl) zm85 rfl hv hd kk
theorem zg_X_9_0 {K : zCx} {w : zWd} {cc : ByteArray} {n fr lo : Nat} {σ : zSt} {lv : List (Nat × Value)} {st : List Value} {pc : Nat} (O : zOk K w cc "SluiceStream" n fr lo) (hd : decode cc pc = .ok (.getfield 9, 3)) {v : Value} (hv : (zo0 w σ)[0]? = some v) (kk : Z K w σ lv (v :: st) (pc + 3)) : Z K w σ lv (.ref (zq w 0) :: st) pc := z_getf O 0 (T := zF5) (N := 5) (fs := zo0 w σ) rfl rfl zin5 0 (Nat.le_of_ble_eq_true rfl) zm173 rfl hv hd kk
theorem zp_X_42_2 {K : zCx} {w : zWd} {cc : ByteArray} {n fr lo : Nat} {σ : zSt} {lv : List (Nat × Value)} {st : List Value} {pc : Nat} (O : zOk K w cc "SluiceStream" n fr lo) (hd : decode cc pc = .ok (.putfield 42, 3)) {v : Int32} (kk : Z K w (zuf σ 2 5 v) lv st (pc + 3)) : Z K w σ lv (.int v :: .ref (zq w 2) :: st) pc := z_putf O 2 (T := zF3) (N := 15) (fs := zo2 w σ) rfl rfl zin3 zY3 zYo3 zNm3 5 (Nat.le_of_ble_eq_true rfl) zm85 rfl rfl (ty := .int) rfl rfl rfl (Nat.le_of_ble_eq_true rfl) (σ' := zuf σ 2 5 v) rfl hd kk
theorem zg_X_23_0 {K : zCx} {w : zWd} {cc : ByteArray} {n fr lo : Nat} {σ : zSt} {lv : List (Nat × Value)} {st : List Value} {pc : Nat} (O : zOk K w cc "SluiceStream" n fr lo) (hd : decode cc pc = .ok (.getfield 23, 3)) {v : Value} (hv : (zo0 w σ)[2]? = some v) (kk : Z K w σ lv (v :: st) (pc + 3)) : Z K w σ lv (.ref (zq w 0) :: st) pc := z_getf O 0 (T := zF5) (N := 5) (fs := zo0 w σ) rfl rfl zin5 2 (Nat.le_of_ble_eq_true rfl) zm175 rfl hv hd kk
theorem zg_X_49_6 {K : zCx} {w : zWd} {cc : ByteArray} {n fr lo : Nat} {σ : zSt} {lv : List (Nat × Value)} {st : List Value} {pc : Nat} (O : zOk K w cc "SluiceStream" n fr lo) (hd : decode cc pc = .ok (.getfield 49, 3)) {v : Value} (hv : (zo6 w σ)[3]? = some v) (kk : Z K w σ lv (v :: st) (pc + 3)) : Z K w σ lv (.ref (zq w 6) :: st) pc := z_getf O 6 (T := zF1) (N := 4) (fs := zo6 w σ) rfl rfl zin1 3 (Nat.le_of_ble_eq_true rfl) zm146 rfl hv hd kk
theorem zg_X_52_6 {K : zCx} {w : zWd} {cc : ByteArray} {n fr lo : Nat} {σ : zSt} {lv : List (Nat × Value)} {st : List Value} {pc : Nat} (O : zOk K w cc "SluiceStream" n fr lo) (hd : decode cc pc = .ok (.getfield 52, 3)) {v : Value} (hv : (zo6 w σ)[2]? = some v) (kk : Z K w σ lv (v :: st) (pc + 3)) : Z K w σ lv (.ref (zq w 6) :: st) pc := z_getf O 6 (T := zF1) (N := 4) (fs := zo6 w σ) rfl rfl zin1 2 (Nat.le_of_ble_eq_true rfl) zm144 rfl hv hd kk
theorem zl_X_55 : zLk "SluiceStream" 55 ({ cls := "SluiceStream$Receiver", name := "passByte", desc := "()Z" } : Jvm.MethodName) prog_3_method_4_code 2 (some .boolean) 0 := ⟨zm275, zm5, zm278, by decide +kernel⟩
theorem zg_X_36_0 {K : zCx} {w : zWd} {cc : ByteArray} {n fr lo : Nat} {σ : zSt} {lv : List (Nat × Value)} {st : List Value} {pc : Nat} (O : zOk K w cc "SluiceStream" n fr lo) (hd : decode cc pc = .ok (.getfield 36, 3)) {v : Value} (hv : (zo0 w σ)[4]? = some v) (kk : Z K w σ lv (v :: st) (pc + 3)) : Z K w σ lv (.ref (zq w 0) :: st) pc := z_getf O 0 (T := zF5) (N := 5) (fs := zo0 w σ) rfl rfl zin5 4 (Nat.le_of_ble_eq_true rfl) zm177 rfl hv hd kk
theorem zl_X_59 : zLk "SluiceStream" 59 ({ cls := "SluiceStream$Receiver", name := "makeAck", desc := "(LSluiceStream$Rows;)V" } : Jvm.MethodName) prog_3_method_5_code 3 none 1 := ⟨zm283, zm5, zm286, by decide +kernel⟩
theorem zg_X_32_0 {K : zCx} {w : zWd} {cc : ByteArray} {n fr lo : Nat} {σ : zSt} {lv : List (Nat × Value)} {st : List Value} {pc : Nat} (O : zOk K w cc "SluiceStream" n fr lo) (hd : decode cc pc = .ok (.getfield 32, 3)) {v : Value} (hv : (zo0 w σ)[3]? = some v) (kk : Z K w σ lv (v :: st) (pc + 3)) : Z K w σ lv (.ref (zq w 0) :: st) pc := z_getf O 0 (T := zF5) (N := 5) (fs := zo0 w σ) rfl rfl zin5 3 (Nat.le_of_ble_eq_true rfl) zm176 rfl hv hd kk
theorem zl_X_66 : zLk "SluiceStream" 66 ({ cls := "SluiceStream$Rows", name := "isFull", desc := "()Z" } : Jvm.MethodName) prog_4_method_3_code 1 (some .boolean) 0 := ⟨zm432, zm6, zm290, by decide +kernel⟩
theorem zl_X_69 : zLk "SluiceStream" 69 ({ cls := "SluiceStream$Sender", name := "sendInto", desc := "(LSluiceStream$Rows;)I" } : Jvm.MethodName) prog_5_method_3_code 5 (some .int) 1 := ⟨zm588, zm2, zm591, by decide +kernel⟩
theorem zl_X_73 : zLk "SluiceStream" 73 ({ cls := "SluiceStream$Sender", name := "passTicks", desc := "(I)I" } : Jvm.MethodName) prog_5_method_8_code 4 (some .int) 1 := ⟨zm346, zm2, zm349, by decide +kernel⟩
theorem zl_X_77 : zLk "SluiceStream" 77 ({ cls := "SluiceStream$Rows", name := "holds", desc := "(I)Z" } : Jvm.MethodName) prog_4_method_2_code 2 (some .boolean) 1 := ⟨zm394, zm6, zm298, by decide +kernel⟩
theorem zl_X_84 : zLk "SluiceStream" 84 ({ cls := "SluiceStream$Rows", name := "cell", desc := "(II)I" } : Jvm.MethodName) prog_4_method_4_code 4 (some .int) 2 := ⟨zm410, zm6, zm413, by decide +kernel⟩
theorem zl_X_88 : zLk "SluiceStream" 88 ({ cls := "SluiceStream$Receiver", name := "takeBytes", desc := "(II)I" } : Jvm.MethodName) prog_3_method_3_code 4 (some .int) 2 := ⟨zm414, zm5, zm417, by decide +kernel⟩
theorem zl_X_91 : zLk "SluiceStream" 91 ({ cls := "SluiceStream$Rows", name := "remove", desc := "(I)V" } : Jvm.MethodName) prog_4_method_7_code 3 none 1 := ⟨zm423, zm6, zm294, by decide +kernel⟩
theorem zl_X_95 : zLk "SluiceStream" 95 ({ cls := "SluiceStream$Rows", name := "addRow", desc := "()I" } : Jvm.MethodName) prog_4_method_6_code 1 (some .int) 0 := ⟨zm433, zm6, zm302, by decide +kernel⟩
theorem zl_X_99 : zLk "SluiceStream" 99 ({ cls := "SluiceStream$Rows", name := "setCell", desc := "(III)V" } : Jvm.MethodName) prog_4_method_5_code 5 none 3 := ⟨zm434, zm6, zm306, by decide +kernel⟩
theorem zg_X_103_9 {K : zCx} {w : zWd} {cc : ByteArray} {n fr lo : Nat} {σ : zSt} {lv : List (Nat × Value)} {st : List Value} {pc : Nat} (O : zOk K w cc "SluiceStream" n fr lo) (hd : decode cc pc = .ok (.getfield 103, 3)) {v : Value} (hv : (zo9 w σ)[2]? = some v) (kk : Z K w σ lv (v :: st) (pc + 3)) : Z K w σ lv (.ref (zq w 9) :: st) pc := z_getf O 9 (T := zF2) (N := 3) (fs := zo9 w σ) rfl rfl zin2 2 (Nat.le_of_ble_eq_true rfl) zm165 rfl hv hd kk
theorem zl_X_106 : zLk "SluiceStream" 106 ({ cls := "SluiceStream$Sender", name := "takeAck", desc := "(LSluiceStream$Rows;I)I" } : Jvm.MethodName) prog_5_method_11_code 7 (some .int) 2 := ⟨zm632, zm2, zm635, by decide +kernel⟩
theorem zg_X_103_11 {K : zCx} {w : zWd} {cc : ByteArray} {n fr lo : Nat} {σ : zSt} {lv : List (Nat × Value)} {st : List Value} {pc : Nat} (O : zOk K w cc "SluiceStream" n fr lo) (hd : decode cc pc = .ok (.getfield 103, 3)) {v : Value} (hv : (zo11 w σ)[2]? = some v) (kk : Z K w σ lv (v :: st) (pc + 3)) : Z K w σ lv (.ref (zq w 11) :: st) pc := z_getf O 11 (T := zF2) (N := 3) (fs := zo11 w σ) rfl rfl zin2 2 (Nat.le_of_ble_eq_true rfl) zm165 rfl hv hd kk
theorem zg_X_110_2 {K : zCx} {w : zWd} {cc : ByteArray} {n fr lo : Nat} {σ : zSt} {lv : List (Nat × Value)} {st : List Value} {pc : Nat} (O : zOk K w cc "SluiceStream" n fr lo) (hd : decode cc pc = .ok (.getfield 110, 3)) {v : Value} (hv : (zo2 w σ)[1]? = some v) (kk : Z K w σ lv (v :: st) (pc + 3)) : Z K w σ lv (.ref (zq w 2) :: st) pc := z_getf O 2 (T := zF3) (N := 15) (fs := zo2 w σ) rfl rfl zin3 1 (Nat.le_of_ble_eq_true rfl) zm77 rfl hv hd kk
theorem zg_X_114_5 {K : zCx} {w : zWd} {cc : ByteArray} {n fr lo : Nat} {σ : zSt} {lv : List (Nat × Value)} {st : List Value} {pc : Nat} (O : zOk K w cc "SluiceStream" n fr lo) (hd : decode cc pc = .ok (.getfield 114, 3)) {v : Value} (hv : (zo5 w σ)[0]? = some v) (kk : Z K w σ lv (v :: st) (pc + 3)) : Z K w σ lv (.ref (zq w 5) :: st) pc := z_getf O 5 (T := zF4) (N := 8) (fs := zo5 w σ) rfl rfl zin4 0 (Nat.le_of_ble_eq_true rfl) zm46 rfl hv hd kk
theorem zg_X_119_2 {K : zCx} {w : zWd} {cc : ByteArray} {n fr lo : Nat} {σ : zSt} {lv : List (Nat × Value)} {st : List Value} {pc : Nat} (O : zOk K w cc "SluiceStream" n fr lo) (hd : decode cc pc = .ok (.getfield 119, 3)) {v : Value} (hv : (zo2 w σ)[2]? = some v) (kk : Z K w σ lv (v :: st) (pc + 3)) : Z K w σ lv (.ref (zq w 2) :: st) pc := z_getf O 2 (T := zF3) (N := 15) (fs := zo2 w σ) rfl rfl zin3 2 (Nat.le_of_ble_eq_true rfl) zm79 rfl hv hd kk
theorem zg_X_122_2 {K : zCx} {w : zWd} {cc : ByteArray} {n fr lo : Nat} {σ : zSt} {lv : List (Nat × Value)} {st : List Value} {pc : Nat} (O : zOk K w cc "SluiceStream" n fr lo) (hd : decode cc pc = .ok (.getfield 122, 3)) {v : Value} (hv : (zo2 w σ)[3]? = some v) (kk : Z K w σ lv (v :: st) (pc + 3)) : Z K w σ lv (.ref (zq w 2) :: st) pc := z_getf O 2 (T := zF3) (N := 15) (fs := zo2 w σ) rfl rfl zin3 3 (Nat.le_of_ble_eq_true rfl) zm81 rfl hv hd kk
theorem zg_X_125_2 {K : zCx} {w : zWd} {cc : ByteArray} {n fr lo : Nat} {σ : zSt} {lv : List (Nat × Value)} {st : List Value} {pc : Nat} (O : zOk K w cc "SluiceStream" n fr lo) (hd : decode cc pc = .ok (.getfield 125, 3)) {v : Value} (hv : (zo2 w σ)[4]? = some v) (kk : Z K w σ lv (v :: st) (pc + 3)) : Z K w σ lv (.ref (zq w 2) :: st) pc := z_getf O 2 (T := zF3) (N := 15) (fs := zo2 w σ) rfl rfl zin3 4 (Nat.le_of_ble_eq_true rfl) zm83 rfl hv hd kk
theorem zg_X_128_2 {K : zCx} {w : zWd} {cc : ByteArray} {n fr lo : Nat} {σ : zSt} {lv : List (Nat × Value)} {st : List Value} {pc : Nat} (O : zOk K w cc "SluiceStream" n fr lo) (hd : decode cc pc = .ok (.getfield 128, 3)) {v : Value} (hv : (zo2 w σ)[6]? = some v) (kk : Z K w σ lv (v :: st) (pc + 3)) : Z K w σ lv (.ref (zq w 2) :: st) pc := z_getf O 2 (T := zF3) (N := 15) (fs := zo2 w σ) rfl rfl zin3 6 (Nat.le_of_ble_eq_true rfl) zm87 rfl hv hd kk
theorem zl_X_131 : zLk "SluiceStream" 131 ({ cls := "SluiceStream$Sender", name := "countFlying", desc := "()I" } : Jvm.MethodName) prog_5_method_2_code 1 (some .int) 0 := ⟨zm499, zm2, zm365, by decide +kernel⟩
theorem zg_X_134_2 {K : zCx} {w : zWd} {cc : ByteArray} {n fr lo : Nat} {σ : zSt} {lv : List (Nat × Value)} {st : List Value} {pc : Nat} (O : zOk K w cc "SluiceStream" n fr lo) (hd : decode cc pc = .ok (.getfield 134, 3)) {v : Value} (hv : (zo2 w σ)[0]? = some v) (kk : Z K w σ lv (v :: st) (pc + 3)) : Z K w σ lv (.ref (zq w 2) :: st) pc := z_getf O 2 (T := zF3) (N := 15) (fs := zo2 w σ) rfl rfl zin3 0 (Nat.le_of_ble_eq_true rfl) zm75 rfl hv hd kk
theorem zl_X_138 : zLk "SluiceStream" 138 ({ cls := "SluiceStream$Positions", name := "at", desc := "(I)I" } : Jvm.MethodName) prog_2_method_2_code 2 (some .int) 1 := ⟨zm494, zm3, zm326, by decide +kernel⟩
theorem zg_X_143_2 {K : zCx} {w : zWd} {cc : ByteArray} {n fr lo : Nat} {σ : zSt} {lv : List (Nat × Value)} {st : List Value} {pc : Nat} (O : zOk K w cc "SluiceStream" n fr lo) (hd : decode cc pc = .ok (.getfield 143, 3)) {v : Value} (hv : (zo2 w σ)[7]? = some v) (kk : Z K w σ lv (v :: st) (pc + 3)) : Z K w σ lv (.ref (zq w 2) :: st) pc := z_getf O 2 (T := zF3) (N := 15) (fs := zo2 w σ) rfl rfl zin3 7 (Nat.le_of_ble_eq_true rfl) zm89 rfl hv hd kk
theorem zg_X_146_2 {K : zCx} {w : zWd} {cc : ByteArray} {n fr lo : Nat} {σ : zSt} {lv : List (Nat × Value)} {st : List Value} {pc : Nat} (O : zOk K w cc "SluiceStream" n fr lo) (hd : decode cc pc = .ok (.getfield 146, 3)) {v : Value} (hv : (zo2 w σ)[8]? = some v) (kk : Z K w σ lv (v :: st) (pc + 3)) : Z K w σ lv (.ref (zq w 2) :: st) pc := z_getf O 2 (T := zF3) (N := 15) (fs := zo2 w σ) rfl rfl zin3 8 (Nat.le_of_ble_eq_true rfl) zm91 rfl hv hd kk
theorem zg_X_149_2 {K : zCx} {w : zWd} {cc : ByteArray} {n fr lo : Nat} {σ : zSt} {lv : List (Nat × Value)} {st : List Value} {pc : Nat} (O : zOk K w cc "SluiceStream" n fr lo) (hd : decode cc pc = .ok (.getfield 149, 3)) {v : Value} (hv : (zo2 w σ)[10]? = some v) (kk : Z K w σ lv (v :: st) (pc + 3)) : Z K w σ lv (.ref (zq w 2) :: st) pc := z_getf O 2 (T := zF3) (N := 15) (fs := zo2 w σ) rfl rfl zin3 10 (Nat.le_of_ble_eq_true rfl) zm94 rfl hv hd kk
theorem zg_X_152_2 {K : zCx} {w : zWd} {cc : ByteArray} {n fr lo : Nat} {σ : zSt} {lv : List (Nat × Value)} {st : List Value} {pc : Nat} (O : zOk K w cc "SluiceStream" n fr lo) (hd : decode cc pc = .ok (.getfield 152, 3)) {v : Value} (hv : (zo2 w σ)[11]? = some v) (kk : Z K w σ lv (v :: st) (pc + 3)) : Z K w σ lv (.ref (zq w 2) :: st) pc := z_getf O 2 (T := zF3) (N := 15) (fs := zo2 w σ) rfl rfl zin3 11 (Nat.le_of_ble_eq_true rfl) zm96 rfl hv hd kk
theorem zg_X_155_5 {K : zCx} {w : zWd} {cc : ByteArray} {n fr lo : Nat} {σ : zSt} {lv : List (Nat × Value)} {st : List Value} {pc : Nat} (O : zOk K w cc "SluiceStream" n fr lo) (hd : decode cc pc = .ok (.getfield 155, 3)) {v : Value} (hv : (zo5 w σ)[1]? = some v) (kk : Z K w σ lv (v :: st) (pc + 3)) : Z K w σ lv (.ref (zq w 5) :: st) pc := z_getf O 5 (T := zF4) (N := 8) (fs := zo5 w σ) rfl rfl zin4 1 (Nat.le_of_ble_eq_true rfl) zm48 rfl hv hd kk
theorem zg_X_158_5 {K : zCx} {w : zWd} {cc : ByteArray} {n fr lo : Nat} {σ : zSt} {lv : List (Nat × Value)} {st : List Value} {pc : Nat} (O : zOk K w cc "SluiceStream" n fr lo) (hd : decode cc pc = .ok (.getfield 158, 3)) {v : Value} (hv : (zo5 w σ)[2]? = some v) (kk : Z K w σ lv (v :: st) (pc + 3)) : Z K w σ lv (.ref (zq w 5) :: st) pc := z_getf O 5 (T := zF4) (N := 8) (fs := zo5 w σ) rfl rfl zin4 2 (Nat.le_of_ble_eq_true rfl) zm50 rfl hv hd kk
theorem zg_X_167_5 {K : zCx} {w : zWd} {cc : ByteArray} {n fr lo : Nat} {σ : zSt} {lv : List (Nat × Value)} {st : List Value} {pc : Nat} (O : zOk K w cc "SluiceStream" n fr lo) (hd : decode cc pc = .ok (.getfield 167, 3)) {v : Value} (hv : (zo5 w σ)[3]? = some v) (kk : Z K w σ lv (v :: st) (pc + 3)) : Z K w σ lv (.ref (zq w 5) :: st) pc := z_getf O 5 (T := zF4) (N := 8) (fs := zo5 w σ) rfl rfl zin4 3 (Nat.le_of_ble_eq_true rfl) zm52 rfl hv hd kk
theorem zg_X_170_2 {K : zCx} {w : zWd} {cc : ByteArray} {n fr lo : Nat} {σ : zSt} {lv : List (Nat × Value)} {st : List Value} {pc : Nat} (O : zOk K w cc "SluiceStream" n fr lo) (hd : decode cc pc = .ok (.getfield 170, 3)) {v : Value} (hv : (zo2 w σ)[13]? = some v) (kk : Z K w σ lv (v :: st) (pc + 3)) : Z K w σ lv (.ref (zq w 2) :: st) pc := z_getf O 2 (T := zF3) (N := 15) (fs := zo2 w σ) rfl rfl zin3 13 (Nat.le_of_ble_eq_true rfl) zm99 rfl hv hd kk
theorem zg_X_173_2 {K : zCx} {w : zWd} {cc : ByteArray} {n fr lo : Nat} {σ : zSt} {lv : List (Nat × Value)} {st : List Value} {pc : Nat} (O : zOk K w cc "SluiceStream" n fr lo) (hd : decode cc pc = .ok (.getfield 173, 3)) {v : Value} (hv : (zo2 w σ)[14]? = some v) (kk : Z K w σ lv (v :: st) (pc + 3)) : Z K w σ lv (.ref (zq w 2) :: st) pc := z_getf O 2 (T := zF3) (N := 15) (fs := zo2 w σ) rfl rfl zin3 14 (Nat.le_of_ble_eq_true rfl) zm101 rfl hv hd kk
theorem zl_X_176 : zLk "SluiceStream" 176 ({ cls := "SluiceStream$Receiver", name := "room", desc := "()I" } : Jvm.MethodName) prog_3_method_2_code 1 (some .int) 0 := ⟨zm543, zm5, zm282, by decide +kernel⟩
theorem zl_X_179 : zLk "SluiceStream" 179 ({ cls := "SluiceStream$Receiver", name := "countBlocks", desc := "()I" } : Jvm.MethodName) prog_3_method_8_code 4 (some .int) 0 := ⟨zm548, zm5, zm551, by decide +kernel⟩
theorem zl_X_182 : zLk "SluiceStream" 182 ({ cls := "SluiceStream$Receiver", name := "startOfBlock", desc := "(I)I" } : Jvm.MethodName) prog_3_method_9_code 4 (some .int) 1 := ⟨zm556, zm5, zm559, by decide +kernel⟩
theorem zl_X_185 : zLk "SluiceStream" 185 ({ cls := "SluiceStream$Receiver", name := "endOfRun", desc := "(I)I" } : Jvm.MethodName) prog_3_method_10_code 2 (some .int) 1 := ⟨zm564, zm5, zm330, by decide +kernel⟩
theorem zd_P_at_0 : decode prog_2_method_2_code 0 = .ok (.iload_n 1, 1) := by decide +kernel
theorem zd_P_at_1 : decode prog_2_method_2_code 1 = .ok (.ifCond .lt 21, 3) := by decide +kernel
theorem zd_P_at_22 : decode prog_2_method_2_code 22 = .ok (.iconst 0, 1) := by decide +kernel
theorem zd_P_at_23 : decode prog_2_method_2_code 23 = .ok (.ireturn, 1) := by decide +kernel
theorem zd_P_at_4 : decode prog_2_method_2_code 4 = .ok (.iload_n 1, 1) := by decide +kernel
theorem zd_P_at_5 : decode prog_2_method_2_code 5 = .ok (.aload_n 0, 1) := by decide +kernel
theorem zd_P_at_6 : decode prog_2_method_2_code 6 = .ok (.getfield 9, 3) := by decide +kernel
theorem zd_P_at_9 : decode prog_2_method_2_code 9 = .ok (.arraylength, 1) := by decide +kernel
theorem zd_P_at_10 : decode prog_2_method_2_code 10 = .ok (.if_icmp .ge 12, 3) := by decide +kernel
theorem zd_P_at_13 : decode prog_2_method_2_code 13 = .ok (.aload_n 0, 1) := by decide +kernel
theorem zd_P_at_14 : decode prog_2_method_2_code 14 = .ok (.getfield 9, 3) := by decide +kernel
theorem zd_P_at_17 : decode prog_2_method_2_code 17 = .ok (.iload_n 1, 1) := by decide +kernel
theorem zd_P_at_18 : decode prog_2_method_2_code 18 = .ok (.iaload, 1) := by decide +kernel
theorem zd_P_at_19 : decode prog_2_method_2_code 19 = .ok (.goto 4, 3) := by decide +kernel
theorem zd_P_fillEmpty_10 : decode prog_2_method_3_code 10 = .ok (.iload 5, 2) := by decide +kernel
theorem zd_P_fillEmpty_12 : decode prog_2_method_3_code 12 = .ok (.iload_n 2, 1) := by decide +kernel
theorem zd_P_fillEmpty_13 : decode prog_2_method_3_code 13 = .ok (.if_icmp .ge 40, 3) := by decide +kernel
theorem zd_P_fillEmpty_16 : decode prog_2_method_3_code 16 = .ok (.iload 5, 2) := by decide +kernel
theorem zd_P_fillEmpty_18 : decode prog_2_method_3_code 18 = .ok (.aload_n 0, 1) := by decide +kernel
theorem zd_P_fillEmpty_19 : decode prog_2_method_3_code 19 = .ok (.getfield 9, 3) := by decide +kernel
theorem zd_P_fillEmpty_22 : decode prog_2_method_3_code 22 = .ok (.arraylength, 1) := by decide +kernel
theorem zd_P_fillEmpty_23 : decode prog_2_method_3_code 23 = .ok (.if_icmp .ge 30, 3) := by decide +kernel
theorem zd_P_fillEmpty_26 : decode prog_2_method_3_code 26 = .ok (.aload_n 0, 1) := by decide +kernel
theorem zd_P_fillEmpty_27 : decode prog_2_method_3_code 27 = .ok (.getfield 9, 3) := by decide +kernel
theorem zd_P_fillEmpty_30 : decode prog_2_method_3_code 30 = .ok (.iload 5, 2) := by decide +kernel
theorem zd_P_fillEmpty_32 : decode prog_2_method_3_code 32 = .ok (.iaload, 1) := by decide +kernel
theorem zd_P_fillEmpty_33 : decode prog_2_method_3_code 33 = .ok (.ifCond .ne 14, 3) := by decide +kernel
theorem zd_P_fillEmpty_47 : decode prog_2_method_3_code 47 = .ok (.iinc 5 1, 3) := by decide +kernel
theorem zd_P_fillEmpty_50 : decode prog_2_method_3_code 50 = .ok (.goto (-40), 3) := by decide +kernel
theorem zd_P_fillEmpty_36 : decode prog_2_method_3_code 36 = .ok (.aload_n 0, 1) := by decide +kernel
theorem zd_P_fillEmpty_37 : decode prog_2_method_3_code 37 = .ok (.getfield 9, 3) := by decide +kernel
theorem zd_P_fillEmpty_40 : decode prog_2_method_3_code 40 = .ok (.iload 5, 2) := by decide +kernel
theorem zd_P_fillEmpty_42 : decode prog_2_method_3_code 42 = .ok (.iload_n 3, 1) := by decide +kernel
theorem zd_P_fillEmpty_43 : decode prog_2_method_3_code 43 = .ok (.iastore, 1) := by decide +kernel
theorem zd_P_fillEmpty_44 : decode prog_2_method_3_code 44 = .ok (.iinc 4 1, 3) := by decide +kernel
theorem zd_P_fillEmpty_0 : decode prog_2_method_3_code 0 = .ok (.iconst 0, 1) := by decide +kernel
theorem zd_P_fillEmpty_1 : decode prog_2_method_3_code 1 = .ok (.istore 4, 2) := by decide +kernel
theorem zd_P_fillEmpty_3 : decode prog_2_method_3_code 3 = .ok (.iload_n 1, 1) := by decide +kernel
theorem zd_P_fillEmpty_4 : decode prog_2_method_3_code 4 = .ok (.iconst 0, 1) := by decide +kernel
theorem zd_P_fillEmpty_5 : decode prog_2_method_3_code 5 = .ok (.invokestatic 15, 3) := by decide +kernel
theorem zd_P_fillEmpty_8 : decode prog_2_method_3_code 8 = .ok (.istore 5, 2) := by decide +kernel
theorem zd_P_fillEmpty_53 : decode prog_2_method_3_code 53 = .ok (.iload 4, 2) := by decide +kernel
theorem zd_P_fillEmpty_55 : decode prog_2_method_3_code 55 = .ok (.ireturn, 1) := by decide +kernel
theorem zd_P_empty_6 : decode prog_2_method_4_code 6 = .ok (.iload_n 3, 1) := by decide +kernel
theorem zd_P_empty_7 : decode prog_2_method_4_code 7 = .ok (.iload_n 2, 1) := by decide +kernel
theorem zd_P_empty_8 : decode prog_2_method_4_code 8 = .ok (.if_icmp .ge 25, 3) := by decide +kernel
theorem zd_P_empty_11 : decode prog_2_method_4_code 11 = .ok (.iload_n 3, 1) := by decide +kernel
theorem zd_P_empty_12 : decode prog_2_method_4_code 12 = .ok (.aload_n 0, 1) := by decide +kernel
theorem zd_P_empty_13 : decode prog_2_method_4_code 13 = .ok (.getfield 9, 3) := by decide +kernel
theorem zd_P_empty_16 : decode prog_2_method_4_code 16 = .ok (.arraylength, 1) := by decide +kernel
theorem zd_P_empty_17 : decode prog_2_method_4_code 17 = .ok (.if_icmp .ge 16, 3) := by decide +kernel
theorem zd_P_empty_20 : decode prog_2_method_4_code 20 = .ok (.aload_n 0, 1) := by decide +kernel
theorem zd_P_empty_21 : decode prog_2_method_4_code 21 = .ok (.getfield 9, 3) := by decide +kernel
theorem zd_P_empty_24 : decode prog_2_method_4_code 24 = .ok (.iload_n 3, 1) := by decide +kernel
theorem zd_P_empty_25 : decode prog_2_method_4_code 25 = .ok (.iconst 0, 1) := by decide +kernel
theorem zd_P_empty_26 : decode prog_2_method_4_code 26 = .ok (.iastore, 1) := by decide +kernel
theorem zd_P_empty_27 : decode prog_2_method_4_code 27 = .ok (.iinc 3 1, 3) := by decide +kernel
theorem zd_P_empty_30 : decode prog_2_method_4_code 30 = .ok (.goto (-24), 3) := by decide +kernel
theorem zd_P_empty_0 : decode prog_2_method_4_code 0 = .ok (.iload_n 1, 1) := by decide +kernel
theorem zd_P_empty_1 : decode prog_2_method_4_code 1 = .ok (.iconst 0, 1) := by decide +kernel
theorem zd_P_empty_2 : decode prog_2_method_4_code 2 = .ok (.invokestatic 15, 3) := by decide +kernel
theorem zd_P_empty_5 : decode prog_2_method_4_code 5 = .ok (.istore_n 3, 1) := by decide +kernel
theorem zd_P_empty_33 : decode prog_2_method_4_code 33 = .ok (.return_, 1) := by decide +kernel
theorem zd_P_countEmpty_5 : decode prog_2_method_5_code 5 = .ok (.iload 4, 2) := by decide +kernel
theorem zd_P_countEmpty_7 : decode prog_2_method_5_code 7 = .ok (.iload_n 2, 1) := by decide +kernel
theorem zd_P_countEmpty_8 : decode prog_2_method_5_code 8 = .ok (.if_icmp .ge 21, 3) := by decide +kernel
theorem zd_P_countEmpty_11 : decode prog_2_method_5_code 11 = .ok (.aload_n 0, 1) := by decide +kernel
theorem zd_P_countEmpty_12 : decode prog_2_method_5_code 12 = .ok (.iload 4, 2) := by decide +kernel
theorem zd_P_countEmpty_14 : decode prog_2_method_5_code 14 = .ok (.invokevirtual 21, 3) := by decide +kernel
theorem zd_P_countEmpty_17 : decode prog_2_method_5_code 17 = .ok (.ifCond .ne 6, 3) := by decide +kernel
theorem zd_P_countEmpty_23 : decode prog_2_method_5_code 23 = .ok (.iinc 4 1, 3) := by decide +kernel
theorem zd_P_countEmpty_26 : decode prog_2_method_5_code 26 = .ok (.goto (-21), 3) := by decide +kernel
theorem zd_P_countEmpty_20 : decode prog_2_method_5_code 20 = .ok (.iinc 3 1, 3) := by decide +kernel
theorem zd_P_countEmpty_0 : decode prog_2_method_5_code 0 = .ok (.iconst 0, 1) := by decide +kernel
theorem zd_P_countEmpty_1 : decode prog_2_method_5_code 1 = .ok (.istore_n 3, 1) := by decide +kernel
theorem zd_P_countEmpty_2 : decode prog_2_method_5_code 2 = .ok (.iload_n 1, 1) := by decide +kernel
theorem zd_P_countEmpty_3 : decode prog_2_method_5_code 3 = .ok (.istore 4, 2) := by decide +kernel
theorem zd_P_countEmpty_29 : decode prog_2_method_5_code 29 = .ok (.iload_n 3, 1) := by decide +kernel
theorem zd_P_countEmpty_30 : decode prog_2_method_5_code 30 = .ok (.ireturn, 1) := by decide +kernel
theorem zd_P_firstEmpty_2 : decode prog_2_method_6_code 2 = .ok (.iload_n 3, 1) := by decide +kernel
theorem zd_P_firstEmpty_3 : decode prog_2_method_6_code 3 = .ok (.iload_n 2, 1) := by decide +kernel
theorem zd_P_firstEmpty_4 : decode prog_2_method_6_code 4 = .ok (.if_icmp .ge 17, 3) := by decide +kernel
theorem zd_P_firstEmpty_7 : decode prog_2_method_6_code 7 = .ok (.aload_n 0, 1) := by decide +kernel
theorem zd_P_firstEmpty_8 : decode prog_2_method_6_code 8 = .ok (.iload_n 3, 1) := by decide +kernel
theorem zd_P_firstEmpty_9 : decode prog_2_method_6_code 9 = .ok (.invokevirtual 21, 3) := by decide +kernel
theorem zd_P_firstEmpty_12 : decode prog_2_method_6_code 12 = .ok (.ifCond .eq 9, 3) := by decide +kernel
theorem zd_P_firstEmpty_15 : decode prog_2_method_6_code 15 = .ok (.iinc 3 1, 3) := by decide +kernel
theorem zd_P_firstEmpty_18 : decode prog_2_method_6_code 18 = .ok (.goto (-16), 3) := by decide +kernel
theorem zd_P_firstEmpty_0 : decode prog_2_method_6_code 0 = .ok (.iload_n 1, 1) := by decide +kernel
theorem zd_P_firstEmpty_1 : decode prog_2_method_6_code 1 = .ok (.istore_n 3, 1) := by decide +kernel
theorem zd_P_firstEmpty_21 : decode prog_2_method_6_code 21 = .ok (.iload_n 3, 1) := by decide +kernel
theorem zd_P_firstEmpty_22 : decode prog_2_method_6_code 22 = .ok (.ireturn, 1) := by decide +kernel
theorem zd_P_firstFilled_2 : decode prog_2_method_7_code 2 = .ok (.iload_n 3, 1) := by decide +kernel
theorem zd_P_firstFilled_3 : decode prog_2_method_7_code 3 = .ok (.iload_n 2, 1) := by decide +kernel
theorem zd_P_firstFilled_4 : decode prog_2_method_7_code 4 = .ok (.if_icmp .ge 17, 3) := by decide +kernel
theorem zd_P_firstFilled_7 : decode prog_2_method_7_code 7 = .ok (.aload_n 0, 1) := by decide +kernel
theorem zd_P_firstFilled_8 : decode prog_2_method_7_code 8 = .ok (.iload_n 3, 1) := by decide +kernel
theorem zd_P_firstFilled_9 : decode prog_2_method_7_code 9 = .ok (.invokevirtual 21, 3) := by decide +kernel
theorem zd_P_firstFilled_12 : decode prog_2_method_7_code 12 = .ok (.ifCond .ne 9, 3) := by decide +kernel
theorem zd_P_firstFilled_15 : decode prog_2_method_7_code 15 = .ok (.iinc 3 1, 3) := by decide +kernel
theorem zd_P_firstFilled_18 : decode prog_2_method_7_code 18 = .ok (.goto (-16), 3) := by decide +kernel
theorem zd_P_firstFilled_0 : decode prog_2_method_7_code 0 = .ok (.iload_n 1, 1) := by decide +kernel
theorem zd_P_firstFilled_1 : decode prog_2_method_7_code 1 = .ok (.istore_n 3, 1) := by decide +kernel
theorem zd_P_firstFilled_21 : decode prog_2_method_7_code 21 = .ok (.iload_n 3, 1) := by decide +kernel
theorem zd_P_firstFilled_22 : decode prog_2_method_7_code 22 = .ok (.ireturn, 1) := by decide +kernel
theorem zd_P_greatest_5 : decode prog_2_method_8_code 5 = .ok (.iload 4, 2) := by decide +kernel
theorem zd_P_greatest_7 : decode prog_2_method_8_code 7 = .ok (.iload_n 2, 1) := by decide +kernel
theorem zd_P_greatest_8 : decode prog_2_method_8_code 8 = .ok (.if_icmp .ge 20, 3) := by decide +kernel
theorem zd_P_greatest_11 : decode prog_2_method_8_code 11 = .ok (.iload_n 3, 1) := by decide +kernel
theorem zd_P_greatest_12 : decode prog_2_method_8_code 12 = .ok (.aload_n 0, 1) := by decide +kernel
theorem zd_P_greatest_13 : decode prog_2_method_8_code 13 = .ok (.iload 4, 2) := by decide +kernel
theorem zd_P_greatest_15 : decode prog_2_method_8_code 15 = .ok (.invokevirtual 21, 3) := by decide +kernel
theorem zd_P_greatest_18 : decode prog_2_method_8_code 18 = .ok (.invokestatic 15, 3) := by decide +kernel
theorem zd_P_greatest_21 : decode prog_2_method_8_code 21 = .ok (.istore_n 3, 1) := by decide +kernel
theorem zd_P_greatest_22 : decode prog_2_method_8_code 22 = .ok (.iinc 4 1, 3) := by decide +kernel
theorem zd_P_greatest_25 : decode prog_2_method_8_code 25 = .ok (.goto (-20), 3) := by decide +kernel
theorem zd_P_greatest_0 : decode prog_2_method_8_code 0 = .ok (.iconst 0, 1) := by decide +kernel
theorem zd_P_greatest_1 : decode prog_2_method_8_code 1 = .ok (.istore_n 3, 1) := by decide +kernel
theorem zd_P_greatest_2 : decode prog_2_method_8_code 2 = .ok (.iload_n 1, 1) := by decide +kernel
theorem zd_P_greatest_3 : decode prog_2_method_8_code 3 = .ok (.istore 4, 2) := by decide +kernel
theorem zd_P_greatest_28 : decode prog_2_method_8_code 28 = .ok (.iload_n 3, 1) := by decide +kernel
theorem zd_P_greatest_29 : decode prog_2_method_8_code 29 = .ok (.ireturn, 1) := by decide +kernel
theorem zd_W_holds_0 : decode prog_4_method_2_code 0 = .ok (.iload_n 1, 1) := by decide +kernel
theorem zd_W_holds_1 : decode prog_4_method_2_code 1 = .ok (.ifCond .lt 15, 3) := by decide +kernel
theorem zd_W_holds_16 : decode prog_4_method_2_code 16 = .ok (.iconst 0, 1) := by decide +kernel
theorem zd_W_holds_17 : decode prog_4_method_2_code 17 = .ok (.ireturn, 1) := by decide +kernel
theorem zd_W_holds_4 : decode prog_4_method_2_code 4 = .ok (.iload_n 1, 1) := by decide +kernel
theorem zd_W_holds_5 : decode prog_4_method_2_code 5 = .ok (.aload_n 0, 1) := by decide +kernel
theorem zd_W_holds_6 : decode prog_4_method_2_code 6 = .ok (.getfield 9, 3) := by decide +kernel
theorem zd_W_holds_9 : decode prog_4_method_2_code 9 = .ok (.if_icmp .ge 7, 3) := by decide +kernel
theorem zd_W_holds_12 : decode prog_4_method_2_code 12 = .ok (.iconst 1, 1) := by decide +kernel
theorem zd_W_holds_13 : decode prog_4_method_2_code 13 = .ok (.goto 4, 3) := by decide +kernel
theorem zd_W_isFull_0 : decode prog_4_method_3_code 0 = .ok (.aload_n 0, 1) := by decide +kernel
theorem zd_W_isFull_1 : decode prog_4_method_3_code 1 = .ok (.getfield 9, 3) := by decide +kernel
theorem zd_W_isFull_4 : decode prog_4_method_3_code 4 = .ok (.bipush 40, 2) := by decide +kernel
theorem zd_W_isFull_6 : decode prog_4_method_3_code 6 = .ok (.if_icmp .lt 7, 3) := by decide +kernel
theorem zd_W_isFull_13 : decode prog_4_method_3_code 13 = .ok (.iconst 0, 1) := by decide +kernel
theorem zd_W_isFull_14 : decode prog_4_method_3_code 14 = .ok (.ireturn, 1) := by decide +kernel
theorem zd_W_isFull_9 : decode prog_4_method_3_code 9 = .ok (.iconst 1, 1) := by decide +kernel
theorem zd_W_isFull_10 : decode prog_4_method_3_code 10 = .ok (.goto 4, 3) := by decide +kernel
theorem zd_W_cell_0 : decode prog_4_method_4_code 0 = .ok (.iload_n 1, 1) := by decide +kernel
theorem zd_W_cell_1 : decode prog_4_method_4_code 1 = .ok (.aload_n 0, 1) := by decide +kernel
theorem zd_W_cell_2 : decode prog_4_method_4_code 2 = .ok (.getfield 15, 3) := by decide +kernel
theorem zd_W_cell_5 : decode prog_4_method_4_code 5 = .ok (.imul, 1) := by decide +kernel
theorem zd_W_cell_6 : decode prog_4_method_4_code 6 = .ok (.iload_n 2, 1) := by decide +kernel
theorem zd_W_cell_7 : decode prog_4_method_4_code 7 = .ok (.iadd, 1) := by decide +kernel
theorem zd_W_cell_8 : decode prog_4_method_4_code 8 = .ok (.istore_n 3, 1) := by decide +kernel
theorem zd_W_cell_9 : decode prog_4_method_4_code 9 = .ok (.iload_n 3, 1) := by decide +kernel
theorem zd_W_cell_10 : decode prog_4_method_4_code 10 = .ok (.ifCond .lt 21, 3) := by decide +kernel
theorem zd_W_cell_31 : decode prog_4_method_4_code 31 = .ok (.iconst (-1), 1) := by decide +kernel
theorem zd_W_cell_32 : decode prog_4_method_4_code 32 = .ok (.ireturn, 1) := by decide +kernel
theorem zd_W_cell_13 : decode prog_4_method_4_code 13 = .ok (.iload_n 3, 1) := by decide +kernel
theorem zd_W_cell_14 : decode prog_4_method_4_code 14 = .ok (.aload_n 0, 1) := by decide +kernel
theorem zd_W_cell_15 : decode prog_4_method_4_code 15 = .ok (.getfield 18, 3) := by decide +kernel
theorem zd_W_cell_18 : decode prog_4_method_4_code 18 = .ok (.arraylength, 1) := by decide +kernel
theorem zd_W_cell_19 : decode prog_4_method_4_code 19 = .ok (.if_icmp .ge 12, 3) := by decide +kernel
theorem zd_W_cell_22 : decode prog_4_method_4_code 22 = .ok (.aload_n 0, 1) := by decide +kernel
theorem zd_W_cell_23 : decode prog_4_method_4_code 23 = .ok (.getfield 18, 3) := by decide +kernel
theorem zd_W_cell_26 : decode prog_4_method_4_code 26 = .ok (.iload_n 3, 1) := by decide +kernel
theorem zd_W_cell_27 : decode prog_4_method_4_code 27 = .ok (.iaload, 1) := by decide +kernel
theorem zd_W_cell_28 : decode prog_4_method_4_code 28 = .ok (.goto 4, 3) := by decide +kernel
theorem zd_W_setCell_0 : decode prog_4_method_5_code 0 = .ok (.iload_n 1, 1) := by decide +kernel
theorem zd_W_setCell_1 : decode prog_4_method_5_code 1 = .ok (.aload_n 0, 1) := by decide +kernel
theorem zd_W_setCell_2 : decode prog_4_method_5_code 2 = .ok (.getfield 15, 3) := by decide +kernel
theorem zd_W_setCell_5 : decode prog_4_method_5_code 5 = .ok (.imul, 1) := by decide +kernel
theorem zd_W_setCell_6 : decode prog_4_method_5_code 6 = .ok (.iload_n 2, 1) := by decide +kernel
theorem zd_W_setCell_7 : decode prog_4_method_5_code 7 = .ok (.iadd, 1) := by decide +kernel
theorem zd_W_setCell_8 : decode prog_4_method_5_code 8 = .ok (.istore 4, 2) := by decide +kernel
theorem zd_W_setCell_10 : decode prog_4_method_5_code 10 = .ok (.iload 4, 2) := by decide +kernel
theorem zd_W_setCell_12 : decode prog_4_method_5_code 12 = .ok (.ifCond .lt 21, 3) := by decide +kernel
theorem zd_W_setCell_33 : decode prog_4_method_5_code 33 = .ok (.return_, 1) := by decide +kernel
theorem zd_W_setCell_15 : decode prog_4_method_5_code 15 = .ok (.iload 4, 2) := by decide +kernel
theorem zd_W_setCell_17 : decode prog_4_method_5_code 17 = .ok (.aload_n 0, 1) := by decide +kernel
theorem zd_W_setCell_18 : decode prog_4_method_5_code 18 = .ok (.getfield 18, 3) := by decide +kernel
theorem zd_W_setCell_21 : decode prog_4_method_5_code 21 = .ok (.arraylength, 1) := by decide +kernel
theorem zd_W_setCell_22 : decode prog_4_method_5_code 22 = .ok (.if_icmp .ge 11, 3) := by decide +kernel
theorem zd_W_setCell_25 : decode prog_4_method_5_code 25 = .ok (.aload_n 0, 1) := by decide +kernel
theorem zd_W_setCell_26 : decode prog_4_method_5_code 26 = .ok (.getfield 18, 3) := by decide +kernel
theorem zd_W_setCell_29 : decode prog_4_method_5_code 29 = .ok (.iload 4, 2) := by decide +kernel
theorem zd_W_setCell_31 : decode prog_4_method_5_code 31 = .ok (.iload_n 3, 1) := by decide +kernel
theorem zd_W_setCell_32 : decode prog_4_method_5_code 32 = .ok (.iastore, 1) := by decide +kernel
theorem zd_W_addRow_0 : decode prog_4_method_6_code 0 = .ok (.aload_n 0, 1) := by decide +kernel
theorem zd_W_addRow_1 : decode prog_4_method_6_code 1 = .ok (.getfield 9, 3) := by decide +kernel
theorem zd_W_addRow_4 : decode prog_4_method_6_code 4 = .ok (.bipush 40, 2) := by decide +kernel
theorem zd_W_addRow_6 : decode prog_4_method_6_code 6 = .ok (.if_icmp .ge 13, 3) := by decide +kernel
theorem zd_W_addRow_19 : decode prog_4_method_6_code 19 = .ok (.aload_n 0, 1) := by decide +kernel
theorem zd_W_addRow_20 : decode prog_4_method_6_code 20 = .ok (.getfield 9, 3) := by decide +kernel
theorem zd_W_addRow_23 : decode prog_4_method_6_code 23 = .ok (.iconst 1, 1) := by decide +kernel
theorem zd_W_addRow_24 : decode prog_4_method_6_code 24 = .ok (.isub, 1) := by decide +kernel
theorem zd_W_addRow_25 : decode prog_4_method_6_code 25 = .ok (.ireturn, 1) := by decide +kernel
theorem zd_W_addRow_9 : decode prog_4_method_6_code 9 = .ok (.aload_n 0, 1) := by decide +kernel
theorem zd_W_addRow_10 : decode prog_4_method_6_code 10 = .ok (.dup, 1) := by decide +kernel
theorem zd_W_addRow_11 : decode prog_4_method_6_code 11 = .ok (.getfield 9, 3) := by decide +kernel
theorem zd_W_addRow_14 : decode prog_4_method_6_code 14 = .ok (.iconst 1, 1) := by decide +kernel
theorem zd_W_addRow_15 : decode prog_4_method_6_code 15 = .ok (.iadd, 1) := by decide +kernel
theorem zd_W_addRow_16 : decode prog_4_method_6_code 16 = .ok (.putfield 9, 3) := by decide +kernel
theorem zd_W_remove_26 : decode prog_4_method_7_code 26 = .ok (.iload_n 2, 1) := by decide +kernel
theorem zd_W_remove_27 : decode prog_4_method_7_code 27 = .ok (.aload_n 0, 1) := by decide +kernel
theorem zd_W_remove_28 : decode prog_4_method_7_code 28 = .ok (.getfield 9, 3) := by decide +kernel
theorem zd_W_remove_31 : decode prog_4_method_7_code 31 = .ok (.aload_n 0, 1) := by decide +kernel
theorem zd_W_remove_32 : decode prog_4_method_7_code 32 = .ok (.getfield 15, 3) := by decide +kernel
theorem zd_W_remove_35 : decode prog_4_method_7_code 35 = .ok (.imul, 1) := by decide +kernel
theorem zd_W_remove_36 : decode prog_4_method_7_code 36 = .ok (.if_icmp .ge 44, 3) := by decide +kernel
theorem zd_W_remove_39 : decode prog_4_method_7_code 39 = .ok (.iload_n 2, 1) := by decide +kernel
theorem zd_W_remove_40 : decode prog_4_method_7_code 40 = .ok (.ifCond .lt 40, 3) := by decide +kernel
theorem zd_W_remove_43 : decode prog_4_method_7_code 43 = .ok (.iload_n 2, 1) := by decide +kernel
theorem zd_W_remove_44 : decode prog_4_method_7_code 44 = .ok (.aload_n 0, 1) := by decide +kernel
theorem zd_W_remove_45 : decode prog_4_method_7_code 45 = .ok (.getfield 15, 3) := by decide +kernel
theorem zd_W_remove_48 : decode prog_4_method_7_code 48 = .ok (.iadd, 1) := by decide +kernel
theorem zd_W_remove_49 : decode prog_4_method_7_code 49 = .ok (.aload_n 0, 1) := by decide +kernel
theorem zd_W_remove_50 : decode prog_4_method_7_code 50 = .ok (.getfield 18, 3) := by decide +kernel
theorem zd_W_remove_53 : decode prog_4_method_7_code 53 = .ok (.arraylength, 1) := by decide +kernel
theorem zd_W_remove_54 : decode prog_4_method_7_code 54 = .ok (.if_icmp .ge 26, 3) := by decide +kernel
theorem zd_W_remove_57 : decode prog_4_method_7_code 57 = .ok (.aload_n 0, 1) := by decide +kernel
theorem zd_W_remove_58 : decode prog_4_method_7_code 58 = .ok (.getfield 18, 3) := by decide +kernel
theorem zd_W_remove_61 : decode prog_4_method_7_code 61 = .ok (.iload_n 2, 1) := by decide +kernel
theorem zd_W_remove_62 : decode prog_4_method_7_code 62 = .ok (.aload_n 0, 1) := by decide +kernel
theorem zd_W_remove_63 : decode prog_4_method_7_code 63 = .ok (.getfield 18, 3) := by decide +kernel
theorem zd_W_remove_66 : decode prog_4_method_7_code 66 = .ok (.iload_n 2, 1) := by decide +kernel
theorem zd_W_remove_67 : decode prog_4_method_7_code 67 = .ok (.aload_n 0, 1) := by decide +kernel
theorem zd_W_remove_68 : decode prog_4_method_7_code 68 = .ok (.getfield 15, 3) := by decide +kernel
theorem zd_W_remove_71 : decode prog_4_method_7_code 71 = .ok (.iadd, 1) := by decide +kernel
theorem zd_W_remove_72 : decode prog_4_method_7_code 72 = .ok (.iaload, 1) := by decide +kernel
theorem zd_W_remove_73 : decode prog_4_method_7_code 73 = .ok (.iastore, 1) := by decide +kernel
theorem zd_W_remove_74 : decode prog_4_method_7_code 74 = .ok (.iinc 2 1, 3) := by decide +kernel
theorem zd_W_remove_77 : decode prog_4_method_7_code 77 = .ok (.goto (-51), 3) := by decide +kernel
theorem zd_W_remove_0 : decode prog_4_method_7_code 0 = .ok (.aload_n 0, 1) := by decide +kernel
theorem zd_W_remove_1 : decode prog_4_method_7_code 1 = .ok (.iload_n 1, 1) := by decide +kernel
theorem zd_W_remove_2 : decode prog_4_method_7_code 2 = .ok (.invokevirtual 22, 3) := by decide +kernel
theorem zd_W_remove_5 : decode prog_4_method_7_code 5 = .ok (.ifCond .ne 4, 3) := by decide +kernel
theorem zd_W_remove_9 : decode prog_4_method_7_code 9 = .ok (.aload_n 0, 1) := by decide +kernel
theorem zd_W_remove_10 : decode prog_4_method_7_code 10 = .ok (.dup, 1) := by decide +kernel
theorem zd_W_remove_11 : decode prog_4_method_7_code 11 = .ok (.getfield 9, 3) := by decide +kernel
theorem zd_W_remove_14 : decode prog_4_method_7_code 14 = .ok (.iconst 1, 1) := by decide +kernel
theorem zd_W_remove_15 : decode prog_4_method_7_code 15 = .ok (.isub, 1) := by decide +kernel
theorem zd_W_remove_16 : decode prog_4_method_7_code 16 = .ok (.putfield 9, 3) := by decide +kernel
theorem zd_W_remove_19 : decode prog_4_method_7_code 19 = .ok (.iload_n 1, 1) := by decide +kernel
theorem zd_W_remove_20 : decode prog_4_method_7_code 20 = .ok (.aload_n 0, 1) := by decide +kernel
theorem zd_W_remove_21 : decode prog_4_method_7_code 21 = .ok (.getfield 15, 3) := by decide +kernel
theorem zd_W_remove_24 : decode prog_4_method_7_code 24 = .ok (.imul, 1) := by decide +kernel
theorem zd_W_remove_25 : decode prog_4_method_7_code 25 = .ok (.istore_n 2, 1) := by decide +kernel
theorem zd_W_remove_80 : decode prog_4_method_7_code 80 = .ok (.return_, 1) := by decide +kernel
theorem zd_W_remove_8 : decode prog_4_method_7_code 8 = .ok (.return_, 1) := by decide +kernel
theorem zd_T_passTick_0 : decode prog_6_method_2_code 0 = .ok (.aload_n 0, 1) := by decide +kernel
theorem zd_T_passTick_1 : decode prog_6_method_2_code 1 = .ok (.dup, 1) := by decide +kernel
theorem zd_T_passTick_2 : decode prog_6_method_2_code 2 = .ok (.getfield 9, 3) := by decide +kernel
theorem zd_T_passTick_5 : decode prog_6_method_2_code 5 = .ok (.iconst 1, 1) := by decide +kernel
theorem zd_T_passTick_6 : decode prog_6_method_2_code 6 = .ok (.iadd, 1) := by decide +kernel
theorem zd_T_passTick_7 : decode prog_6_method_2_code 7 = .ok (.putfield 9, 3) := by decide +kernel
theorem zd_T_passTick_10 : decode prog_6_method_2_code 10 = .ok (.aload_n 0, 1) := by decide +kernel
theorem zd_T_passTick_11 : decode prog_6_method_2_code 11 = .ok (.getfield 18, 3) := by decide +kernel
theorem zd_T_passTick_14 : decode prog_6_method_2_code 14 = .ok (.iconst (-1), 1) := by decide +kernel
theorem zd_T_passTick_15 : decode prog_6_method_2_code 15 = .ok (.if_icmp .eq 18, 3) := by decide +kernel
theorem zd_T_passTick_33 : decode prog_6_method_2_code 33 = .ok (.iconst 0, 1) := by decide +kernel
theorem zd_T_passTick_34 : decode prog_6_method_2_code 34 = .ok (.ireturn, 1) := by decide +kernel
theorem zd_T_passTick_18 : decode prog_6_method_2_code 18 = .ok (.aload_n 0, 1) := by decide +kernel
theorem zd_T_passTick_19 : decode prog_6_method_2_code 19 = .ok (.getfield 9, 3) := by decide +kernel
theorem zd_T_passTick_22 : decode prog_6_method_2_code 22 = .ok (.aload_n 0, 1) := by decide +kernel
theorem zd_T_passTick_23 : decode prog_6_method_2_code 23 = .ok (.getfield 18, 3) := by decide +kernel
theorem zd_T_passTick_26 : decode prog_6_method_2_code 26 = .ok (.if_icmp .ne 7, 3) := by decide +kernel
theorem zd_T_passTick_29 : decode prog_6_method_2_code 29 = .ok (.iconst 1, 1) := by decide +kernel
theorem zd_T_passTick_30 : decode prog_6_method_2_code 30 = .ok (.goto 4, 3) := by decide +kernel
theorem zd_T_startAnew_0 : decode prog_6_method_3_code 0 = .ok (.aload_n 0, 1) := by decide +kernel
theorem zd_T_startAnew_1 : decode prog_6_method_3_code 1 = .ok (.aload_n 0, 1) := by decide +kernel
theorem zd_T_startAnew_2 : decode prog_6_method_3_code 2 = .ok (.getfield 9, 3) := by decide +kernel
theorem zd_T_startAnew_5 : decode prog_6_method_3_code 5 = .ok (.aload_n 0, 1) := by decide +kernel
theorem zd_T_startAnew_6 : decode prog_6_method_3_code 6 = .ok (.getfield 15, 3) := by decide +kernel
theorem zd_T_startAnew_9 : decode prog_6_method_3_code 9 = .ok (.iadd, 1) := by decide +kernel
theorem zd_T_startAnew_10 : decode prog_6_method_3_code 10 = .ok (.putfield 18, 3) := by decide +kernel
theorem zd_T_startAnew_13 : decode prog_6_method_3_code 13 = .ok (.return_, 1) := by decide +kernel
theorem zd_T_startIfStopped_0 : decode prog_6_method_4_code 0 = .ok (.aload_n 0, 1) := by decide +kernel
theorem zd_T_startIfStopped_1 : decode prog_6_method_4_code 1 = .ok (.getfield 18, 3) := by decide +kernel
theorem zd_T_startIfStopped_4 : decode prog_6_method_4_code 4 = .ok (.iconst (-1), 1) := by decide +kernel
theorem zd_T_startIfStopped_5 : decode prog_6_method_4_code 5 = .ok (.if_icmp .ne 7, 3) := by decide +kernel
theorem zd_T_startIfStopped_12 : decode prog_6_method_4_code 12 = .ok (.return_, 1) := by decide +kernel
theorem zd_T_startIfStopped_8 : decode prog_6_method_4_code 8 = .ok (.aload_n 0, 1) := by decide +kernel
theorem zd_T_startIfStopped_9 : decode prog_6_method_4_code 9 = .ok (.invokevirtual 37, 3) := by decide +kernel
theorem zd_T_stop_0 : decode prog_6_method_5_code 0 = .ok (.aload_n 0, 1) := by decide +kernel
theorem zd_T_stop_1 : decode prog_6_method_5_code 1 = .ok (.iconst (-1), 1) := by decide +kernel
theorem zd_T_stop_2 : decode prog_6_method_5_code 2 = .ok (.putfield 18, 3) := by decide +kernel
theorem zd_T_stop_5 : decode prog_6_method_5_code 5 = .ok (.return_, 1) := by decide +kernel
theorem zd_T_forgetTiming_0 : decode prog_6_method_8_code 0 = .ok (.aload_n 0, 1) := by decide +kernel
theorem zd_T_forgetTiming_1 : decode prog_6_method_8_code 1 = .ok (.iconst (-1), 1) := by decide +kernel
theorem zd_T_forgetTiming_2 : decode prog_6_method_8_code 2 = .ok (.putfield 21, 3) := by decide +kernel
theorem zd_T_forgetTiming_5 : decode prog_6_method_8_code 5 = .ok (.return_, 1) := by decide +kernel
theorem zd_T_backOff_0 : decode prog_6_method_6_code 0 = .ok (.aload_n 0, 1) := by decide +kernel
theorem zd_T_backOff_1 : decode prog_6_method_6_code 1 = .ok (.bipush 64, 2) := by decide +kernel
theorem zd_T_backOff_3 : decode prog_6_method_6_code 3 = .ok (.iconst 2, 1) := by decide +kernel
theorem zd_T_backOff_4 : decode prog_6_method_6_code 4 = .ok (.aload_n 0, 1) := by decide +kernel
theorem zd_T_backOff_5 : decode prog_6_method_6_code 5 = .ok (.getfield 15, 3) := by decide +kernel
theorem zd_T_backOff_8 : decode prog_6_method_6_code 8 = .ok (.imul, 1) := by decide +kernel
theorem zd_T_backOff_9 : decode prog_6_method_6_code 9 = .ok (.invokestatic 40, 3) := by decide +kernel
theorem zd_T_backOff_12 : decode prog_6_method_6_code 12 = .ok (.putfield 15, 3) := by decide +kernel
theorem zd_T_backOff_15 : decode prog_6_method_6_code 15 = .ok (.aload_n 0, 1) := by decide +kernel
theorem zd_T_backOff_16 : decode prog_6_method_6_code 16 = .ok (.invokevirtual 46, 3) := by decide +kernel
theorem zd_T_backOff_19 : decode prog_6_method_6_code 19 = .ok (.aload_n 0, 1) := by decide +kernel
theorem zd_T_backOff_20 : decode prog_6_method_6_code 20 = .ok (.invokevirtual 49, 3) := by decide +kernel
theorem zd_T_backOff_23 : decode prog_6_method_6_code 23 = .ok (.return_, 1) := by decide +kernel
theorem zd_T_timeSegment_0 : decode prog_6_method_7_code 0 = .ok (.aload_n 0, 1) := by decide +kernel
theorem zd_T_timeSegment_1 : decode prog_6_method_7_code 1 = .ok (.getfield 21, 3) := by decide +kernel
theorem zd_T_timeSegment_4 : decode prog_6_method_7_code 4 = .ok (.iconst (-1), 1) := by decide +kernel
theorem zd_T_timeSegment_5 : decode prog_6_method_7_code 5 = .ok (.if_icmp .ne 16, 3) := by decide +kernel
theorem zd_T_timeSegment_21 : decode prog_6_method_7_code 21 = .ok (.return_, 1) := by decide +kernel
theorem zd_T_timeSegment_8 : decode prog_6_method_7_code 8 = .ok (.aload_n 0, 1) := by decide +kernel
theorem zd_T_timeSegment_9 : decode prog_6_method_7_code 9 = .ok (.iload_n 1, 1) := by decide +kernel
theorem zd_T_timeSegment_10 : decode prog_6_method_7_code 10 = .ok (.putfield 21, 3) := by decide +kernel
theorem zd_T_timeSegment_13 : decode prog_6_method_7_code 13 = .ok (.aload_n 0, 1) := by decide +kernel
theorem zd_T_timeSegment_14 : decode prog_6_method_7_code 14 = .ok (.aload_n 0, 1) := by decide +kernel
theorem zd_T_timeSegment_15 : decode prog_6_method_7_code 15 = .ok (.getfield 9, 3) := by decide +kernel
theorem zd_T_timeSegment_18 : decode prog_6_method_7_code 18 = .ok (.putfield 30, 3) := by decide +kernel
theorem zd_T_takeSample_0 : decode prog_6_method_10_code 0 = .ok (.aload_n 0, 1) := by decide +kernel
theorem zd_T_takeSample_1 : decode prog_6_method_10_code 1 = .ok (.getfield 33, 3) := by decide +kernel
theorem zd_T_takeSample_4 : decode prog_6_method_10_code 4 = .ok (.ifCond .eq 46, 3) := by decide +kernel
theorem zd_T_takeSample_50 : decode prog_6_method_10_code 50 = .ok (.aload_n 0, 1) := by decide +kernel
theorem zd_T_takeSample_51 : decode prog_6_method_10_code 51 = .ok (.bipush 8, 2) := by decide +kernel
theorem zd_T_takeSample_53 : decode prog_6_method_10_code 53 = .ok (.iload_n 1, 1) := by decide +kernel
theorem zd_T_takeSample_54 : decode prog_6_method_10_code 54 = .ok (.imul, 1) := by decide +kernel
theorem zd_T_takeSample_55 : decode prog_6_method_10_code 55 = .ok (.putfield 24, 3) := by decide +kernel
theorem zd_T_takeSample_58 : decode prog_6_method_10_code 58 = .ok (.aload_n 0, 1) := by decide +kernel
theorem zd_T_takeSample_59 : decode prog_6_method_10_code 59 = .ok (.iconst 2, 1) := by decide +kernel
theorem zd_T_takeSample_60 : decode prog_6_method_10_code 60 = .ok (.iload_n 1, 1) := by decide +kernel
theorem zd_T_takeSample_61 : decode prog_6_method_10_code 61 = .ok (.imul, 1) := by decide +kernel
theorem zd_T_takeSample_62 : decode prog_6_method_10_code 62 = .ok (.putfield 27, 3) := by decide +kernel
theorem zd_T_takeSample_65 : decode prog_6_method_10_code 65 = .ok (.aload_n 0, 1) := by decide +kernel
theorem zd_T_takeSample_66 : decode prog_6_method_10_code 66 = .ok (.iconst 1, 1) := by decide +kernel
theorem zd_T_takeSample_67 : decode prog_6_method_10_code 67 = .ok (.putfield 33, 3) := by decide +kernel
theorem zd_T_takeSample_70 : decode prog_6_method_10_code 70 = .ok (.aload_n 0, 1) := by decide +kernel
theorem zd_T_takeSample_71 : decode prog_6_method_10_code 71 = .ok (.getfield 24, 3) := by decide +kernel
theorem zd_T_takeSample_74 : decode prog_6_method_10_code 74 = .ok (.bipush 8, 2) := by decide +kernel
theorem zd_T_takeSample_76 : decode prog_6_method_10_code 76 = .ok (.idiv, 1) := by decide +kernel
theorem zd_T_takeSample_77 : decode prog_6_method_10_code 77 = .ok (.aload_n 0, 1) := by decide +kernel
theorem zd_T_takeSample_78 : decode prog_6_method_10_code 78 = .ok (.getfield 27, 3) := by decide +kernel
theorem zd_T_takeSample_81 : decode prog_6_method_10_code 81 = .ok (.iconst 1, 1) := by decide +kernel
theorem zd_T_takeSample_82 : decode prog_6_method_10_code 82 = .ok (.invokestatic 60, 3) := by decide +kernel
theorem zd_T_takeSample_85 : decode prog_6_method_10_code 85 = .ok (.iadd, 1) := by decide +kernel
theorem zd_T_takeSample_86 : decode prog_6_method_10_code 86 = .ok (.istore_n 2, 1) := by decide +kernel
theorem zd_T_takeSample_87 : decode prog_6_method_10_code 87 = .ok (.aload_n 0, 1) := by decide +kernel
theorem zd_T_takeSample_88 : decode prog_6_method_10_code 88 = .ok (.bipush 64, 2) := by decide +kernel
theorem zd_T_takeSample_90 : decode prog_6_method_10_code 90 = .ok (.iconst 2, 1) := by decide +kernel
theorem zd_T_takeSample_91 : decode prog_6_method_10_code 91 = .ok (.iload_n 2, 1) := by decide +kernel
theorem zd_T_takeSample_92 : decode prog_6_method_10_code 92 = .ok (.invokestatic 60, 3) := by decide +kernel
theorem zd_T_takeSample_95 : decode prog_6_method_10_code 95 = .ok (.invokestatic 40, 3) := by decide +kernel
theorem zd_T_takeSample_98 : decode prog_6_method_10_code 98 = .ok (.putfield 15, 3) := by decide +kernel
theorem zd_T_takeSample_101 : decode prog_6_method_10_code 101 = .ok (.return_, 1) := by decide +kernel
theorem zd_T_takeSample_7 : decode prog_6_method_10_code 7 = .ok (.iload_n 1, 1) := by decide +kernel
theorem zd_T_takeSample_8 : decode prog_6_method_10_code 8 = .ok (.aload_n 0, 1) := by decide +kernel
theorem zd_T_takeSample_9 : decode prog_6_method_10_code 9 = .ok (.getfield 24, 3) := by decide +kernel
theorem zd_T_takeSample_12 : decode prog_6_method_10_code 12 = .ok (.bipush 8, 2) := by decide +kernel
theorem zd_T_takeSample_14 : decode prog_6_method_10_code 14 = .ok (.idiv, 1) := by decide +kernel
theorem zd_T_takeSample_15 : decode prog_6_method_10_code 15 = .ok (.isub, 1) := by decide +kernel
theorem zd_T_takeSample_16 : decode prog_6_method_10_code 16 = .ok (.istore_n 2, 1) := by decide +kernel
theorem zd_T_takeSample_17 : decode prog_6_method_10_code 17 = .ok (.aload_n 0, 1) := by decide +kernel
theorem zd_T_takeSample_18 : decode prog_6_method_10_code 18 = .ok (.dup, 1) := by decide +kernel
theorem zd_T_takeSample_19 : decode prog_6_method_10_code 19 = .ok (.getfield 24, 3) := by decide +kernel
theorem zd_T_takeSample_22 : decode prog_6_method_10_code 22 = .ok (.iload_n 2, 1) := by decide +kernel
theorem zd_T_takeSample_23 : decode prog_6_method_10_code 23 = .ok (.iadd, 1) := by decide +kernel
theorem zd_T_takeSample_24 : decode prog_6_method_10_code 24 = .ok (.putfield 24, 3) := by decide +kernel
theorem zd_T_takeSample_27 : decode prog_6_method_10_code 27 = .ok (.aload_n 0, 1) := by decide +kernel
theorem zd_T_takeSample_28 : decode prog_6_method_10_code 28 = .ok (.dup, 1) := by decide +kernel
theorem zd_T_takeSample_29 : decode prog_6_method_10_code 29 = .ok (.getfield 27, 3) := by decide +kernel
theorem zd_T_takeSample_32 : decode prog_6_method_10_code 32 = .ok (.iload_n 2, 1) := by decide +kernel
theorem zd_T_takeSample_33 : decode prog_6_method_10_code 33 = .ok (.invokestatic 56, 3) := by decide +kernel
theorem zd_T_takeSample_36 : decode prog_6_method_10_code 36 = .ok (.aload_n 0, 1) := by decide +kernel
theorem zd_T_takeSample_37 : decode prog_6_method_10_code 37 = .ok (.getfield 27, 3) := by decide +kernel
theorem zd_T_takeSample_40 : decode prog_6_method_10_code 40 = .ok (.iconst 4, 1) := by decide +kernel
theorem zd_T_takeSample_41 : decode prog_6_method_10_code 41 = .ok (.idiv, 1) := by decide +kernel
theorem zd_T_takeSample_42 : decode prog_6_method_10_code 42 = .ok (.isub, 1) := by decide +kernel
theorem zd_T_takeSample_43 : decode prog_6_method_10_code 43 = .ok (.iadd, 1) := by decide +kernel
theorem zd_T_takeSample_44 : decode prog_6_method_10_code 44 = .ok (.putfield 27, 3) := by decide +kernel
theorem zd_T_takeSample_47 : decode prog_6_method_10_code 47 = .ok (.goto 23, 3) := by decide +kernel
theorem zd_T_endTiming_0 : decode prog_6_method_9_code 0 = .ok (.aload_n 0, 1) := by decide +kernel
theorem zd_T_endTiming_1 : decode prog_6_method_9_code 1 = .ok (.getfield 21, 3) := by decide +kernel
theorem zd_T_endTiming_4 : decode prog_6_method_9_code 4 = .ok (.iconst (-1), 1) := by decide +kernel
theorem zd_T_endTiming_5 : decode prog_6_method_9_code 5 = .ok (.if_icmp .eq 28, 3) := by decide +kernel
theorem zd_T_endTiming_33 : decode prog_6_method_9_code 33 = .ok (.return_, 1) := by decide +kernel
theorem zd_T_endTiming_8 : decode prog_6_method_9_code 8 = .ok (.iload_n 1, 1) := by decide +kernel
theorem zd_T_endTiming_9 : decode prog_6_method_9_code 9 = .ok (.aload_n 0, 1) := by decide +kernel
theorem zd_T_endTiming_10 : decode prog_6_method_9_code 10 = .ok (.getfield 21, 3) := by decide +kernel
theorem zd_T_endTiming_13 : decode prog_6_method_9_code 13 = .ok (.if_icmp .lt 20, 3) := by decide +kernel
theorem zd_T_endTiming_16 : decode prog_6_method_9_code 16 = .ok (.aload_n 0, 1) := by decide +kernel
theorem zd_T_endTiming_17 : decode prog_6_method_9_code 17 = .ok (.aload_n 0, 1) := by decide +kernel
theorem zd_T_endTiming_18 : decode prog_6_method_9_code 18 = .ok (.getfield 9, 3) := by decide +kernel
theorem zd_T_endTiming_21 : decode prog_6_method_9_code 21 = .ok (.aload_n 0, 1) := by decide +kernel
theorem zd_T_endTiming_22 : decode prog_6_method_9_code 22 = .ok (.getfield 30, 3) := by decide +kernel
theorem zd_T_endTiming_25 : decode prog_6_method_9_code 25 = .ok (.isub, 1) := by decide +kernel
theorem zd_T_endTiming_26 : decode prog_6_method_9_code 26 = .ok (.invokevirtual 52, 3) := by decide +kernel
theorem zd_T_endTiming_29 : decode prog_6_method_9_code 29 = .ok (.aload_n 0, 1) := by decide +kernel
theorem zd_T_endTiming_30 : decode prog_6_method_9_code 30 = .ok (.invokevirtual 46, 3) := by decide +kernel
theorem zd_R_room_0 : decode prog_3_method_2_code 0 = .ok (.aload_n 0, 1) := by decide +kernel
theorem zd_R_room_1 : decode prog_3_method_2_code 1 = .ok (.getfield 25, 3) := by decide +kernel
theorem zd_R_room_4 : decode prog_3_method_2_code 4 = .ok (.bipush 32, 2) := by decide +kernel
theorem zd_R_room_6 : decode prog_3_method_2_code 6 = .ok (.iadd, 1) := by decide +kernel
theorem zd_R_room_7 : decode prog_3_method_2_code 7 = .ok (.aload_n 0, 1) := by decide +kernel
theorem zd_R_room_8 : decode prog_3_method_2_code 8 = .ok (.getfield 22, 3) := by decide +kernel
theorem zd_R_room_11 : decode prog_3_method_2_code 11 = .ok (.isub, 1) := by decide +kernel
theorem zd_R_room_12 : decode prog_3_method_2_code 12 = .ok (.ireturn, 1) := by decide +kernel
theorem zd_R_takeBytes_0 : decode prog_3_method_3_code 0 = .ok (.aload_n 0, 1) := by decide +kernel
theorem zd_R_takeBytes_1 : decode prog_3_method_3_code 1 = .ok (.dup, 1) := by decide +kernel
theorem zd_R_takeBytes_2 : decode prog_3_method_3_code 2 = .ok (.getfield 18, 3) := by decide +kernel
theorem zd_R_takeBytes_5 : decode prog_3_method_3_code 5 = .ok (.iconst 1, 1) := by decide +kernel
theorem zd_R_takeBytes_6 : decode prog_3_method_3_code 6 = .ok (.iadd, 1) := by decide +kernel
theorem zd_R_takeBytes_7 : decode prog_3_method_3_code 7 = .ok (.putfield 18, 3) := by decide +kernel
theorem zd_R_takeBytes_10 : decode prog_3_method_3_code 10 = .ok (.aload_n 0, 1) := by decide +kernel
theorem zd_R_takeBytes_11 : decode prog_3_method_3_code 11 = .ok (.getfield 12, 3) := by decide +kernel
theorem zd_R_takeBytes_14 : decode prog_3_method_3_code 14 = .ok (.iload_n 1, 1) := by decide +kernel
theorem zd_R_takeBytes_15 : decode prog_3_method_3_code 15 = .ok (.iload_n 2, 1) := by decide +kernel
theorem zd_R_takeBytes_16 : decode prog_3_method_3_code 16 = .ok (.aload_n 0, 1) := by decide +kernel
theorem zd_R_takeBytes_17 : decode prog_3_method_3_code 17 = .ok (.getfield 25, 3) := by decide +kernel
theorem zd_R_takeBytes_20 : decode prog_3_method_3_code 20 = .ok (.bipush 32, 2) := by decide +kernel
theorem zd_R_takeBytes_22 : decode prog_3_method_3_code 22 = .ok (.iadd, 1) := by decide +kernel
theorem zd_R_takeBytes_23 : decode prog_3_method_3_code 23 = .ok (.invokestatic 28, 3) := by decide +kernel
theorem zd_R_takeBytes_26 : decode prog_3_method_3_code 26 = .ok (.aload_n 0, 1) := by decide +kernel
theorem zd_R_takeBytes_27 : decode prog_3_method_3_code 27 = .ok (.getfield 18, 3) := by decide +kernel
theorem zd_R_takeBytes_30 : decode prog_3_method_3_code 30 = .ok (.invokevirtual 34, 3) := by decide +kernel
theorem zd_R_takeBytes_33 : decode prog_3_method_3_code 33 = .ok (.istore_n 3, 1) := by decide +kernel
theorem zd_R_takeBytes_34 : decode prog_3_method_3_code 34 = .ok (.aload_n 0, 1) := by decide +kernel
theorem zd_R_takeBytes_35 : decode prog_3_method_3_code 35 = .ok (.aload_n 0, 1) := by decide +kernel
theorem zd_R_takeBytes_36 : decode prog_3_method_3_code 36 = .ok (.getfield 12, 3) := by decide +kernel
theorem zd_R_takeBytes_39 : decode prog_3_method_3_code 39 = .ok (.aload_n 0, 1) := by decide +kernel
theorem zd_R_takeBytes_40 : decode prog_3_method_3_code 40 = .ok (.getfield 22, 3) := by decide +kernel
theorem zd_R_takeBytes_43 : decode prog_3_method_3_code 43 = .ok (.sipush 600, 3) := by decide +kernel
theorem zd_R_takeBytes_46 : decode prog_3_method_3_code 46 = .ok (.invokevirtual 38, 3) := by decide +kernel
theorem zd_R_takeBytes_49 : decode prog_3_method_3_code 49 = .ok (.putfield 22, 3) := by decide +kernel
theorem zd_R_takeBytes_52 : decode prog_3_method_3_code 52 = .ok (.iload_n 3, 1) := by decide +kernel
theorem zd_R_takeBytes_53 : decode prog_3_method_3_code 53 = .ok (.ireturn, 1) := by decide +kernel
theorem zd_R_passByte_0 : decode prog_3_method_4_code 0 = .ok (.aload_n 0, 1) := by decide +kernel
theorem zd_R_passByte_1 : decode prog_3_method_4_code 1 = .ok (.invokevirtual 41, 3) := by decide +kernel
theorem zd_R_passByte_4 : decode prog_3_method_4_code 4 = .ok (.istore_n 1, 1) := by decide +kernel
theorem zd_R_passByte_5 : decode prog_3_method_4_code 5 = .ok (.aload_n 0, 1) := by decide +kernel
theorem zd_R_passByte_6 : decode prog_3_method_4_code 6 = .ok (.dup, 1) := by decide +kernel
theorem zd_R_passByte_7 : decode prog_3_method_4_code 7 = .ok (.getfield 25, 3) := by decide +kernel
theorem zd_R_passByte_10 : decode prog_3_method_4_code 10 = .ok (.iconst 1, 1) := by decide +kernel
theorem zd_R_passByte_11 : decode prog_3_method_4_code 11 = .ok (.iadd, 1) := by decide +kernel
theorem zd_R_passByte_12 : decode prog_3_method_4_code 12 = .ok (.putfield 25, 3) := by decide +kernel
theorem zd_R_passByte_15 : decode prog_3_method_4_code 15 = .ok (.iload_n 1, 1) := by decide +kernel
theorem zd_R_passByte_16 : decode prog_3_method_4_code 16 = .ok (.iconst 4, 1) := by decide +kernel
theorem zd_R_passByte_17 : decode prog_3_method_4_code 17 = .ok (.if_icmp .ge 15, 3) := by decide +kernel
theorem zd_R_passByte_32 : decode prog_3_method_4_code 32 = .ok (.iconst 0, 1) := by decide +kernel
theorem zd_R_passByte_33 : decode prog_3_method_4_code 33 = .ok (.ireturn, 1) := by decide +kernel
theorem zd_R_passByte_20 : decode prog_3_method_4_code 20 = .ok (.aload_n 0, 1) := by decide +kernel
theorem zd_R_passByte_21 : decode prog_3_method_4_code 21 = .ok (.invokevirtual 41, 3) := by decide +kernel
theorem zd_R_passByte_24 : decode prog_3_method_4_code 24 = .ok (.iconst 4, 1) := by decide +kernel
theorem zd_R_passByte_25 : decode prog_3_method_4_code 25 = .ok (.if_icmp .lt 7, 3) := by decide +kernel
theorem zd_R_passByte_28 : decode prog_3_method_4_code 28 = .ok (.iconst 1, 1) := by decide +kernel
theorem zd_R_passByte_29 : decode prog_3_method_4_code 29 = .ok (.goto 4, 3) := by decide +kernel
theorem zd_R_blockFrom_0 : decode prog_3_method_11_code 0 = .ok (.aload_n 0, 1) := by decide +kernel
theorem zd_R_blockFrom_1 : decode prog_3_method_11_code 1 = .ok (.getfield 25, 3) := by decide +kernel
theorem zd_R_blockFrom_4 : decode prog_3_method_11_code 4 = .ok (.bipush 32, 2) := by decide +kernel
theorem zd_R_blockFrom_6 : decode prog_3_method_11_code 6 = .ok (.iadd, 1) := by decide +kernel
theorem zd_R_blockFrom_7 : decode prog_3_method_11_code 7 = .ok (.istore_n 2, 1) := by decide +kernel
theorem zd_R_blockFrom_8 : decode prog_3_method_11_code 8 = .ok (.aload_n 0, 1) := by decide +kernel
theorem zd_R_blockFrom_9 : decode prog_3_method_11_code 9 = .ok (.getfield 12, 3) := by decide +kernel
theorem zd_R_blockFrom_12 : decode prog_3_method_11_code 12 = .ok (.iload_n 1, 1) := by decide +kernel
theorem zd_R_blockFrom_13 : decode prog_3_method_11_code 13 = .ok (.iload_n 2, 1) := by decide +kernel
theorem zd_R_blockFrom_14 : decode prog_3_method_11_code 14 = .ok (.invokevirtual 79, 3) := by decide +kernel
theorem zd_R_blockFrom_17 : decode prog_3_method_11_code 17 = .ok (.istore_n 3, 1) := by decide +kernel
theorem zd_R_blockFrom_18 : decode prog_3_method_11_code 18 = .ok (.iload_n 3, 1) := by decide +kernel
theorem zd_R_blockFrom_19 : decode prog_3_method_11_code 19 = .ok (.iload_n 2, 1) := by decide +kernel
theorem zd_R_blockFrom_20 : decode prog_3_method_11_code 20 = .ok (.if_icmp .ge 7, 3) := by decide +kernel
theorem zd_R_blockFrom_27 : decode prog_3_method_11_code 27 = .ok (.iconst (-1), 1) := by decide +kernel
theorem zd_R_blockFrom_28 : decode prog_3_method_11_code 28 = .ok (.ireturn, 1) := by decide +kernel
theorem zd_R_blockFrom_23 : decode prog_3_method_11_code 23 = .ok (.iload_n 3, 1) := by decide +kernel
theorem zd_R_blockFrom_24 : decode prog_3_method_11_code 24 = .ok (.goto 4, 3) := by decide +kernel
theorem zd_R_endOfRun_0 : decode prog_3_method_10_code 0 = .ok (.aload_n 0, 1) := by decide +kernel
theorem zd_R_endOfRun_1 : decode prog_3_method_10_code 1 = .ok (.getfield 12, 3) := by decide +kernel
theorem zd_R_endOfRun_4 : decode prog_3_method_10_code 4 = .ok (.iload_n 1, 1) := by decide +kernel
theorem zd_R_endOfRun_5 : decode prog_3_method_10_code 5 = .ok (.sipush 600, 3) := by decide +kernel
theorem zd_R_endOfRun_8 : decode prog_3_method_10_code 8 = .ok (.invokevirtual 38, 3) := by decide +kernel
theorem zd_R_endOfRun_11 : decode prog_3_method_10_code 11 = .ok (.ireturn, 1) := by decide +kernel
theorem zd_R_newestBlockBefore_17 : decode prog_3_method_7_code 17 = .ok (.iload 5, 2) := by decide +kernel
theorem zd_R_newestBlockBefore_19 : decode prog_3_method_7_code 19 = .ok (.bipush 32, 2) := by decide +kernel
theorem zd_R_newestBlockBefore_21 : decode prog_3_method_7_code 21 = .ok (.if_icmp .ge 62, 3) := by decide +kernel
theorem zd_R_newestBlockBefore_24 : decode prog_3_method_7_code 24 = .ok (.iload 4, 2) := by decide +kernel
theorem zd_R_newestBlockBefore_26 : decode prog_3_method_7_code 26 = .ok (.iconst (-1), 1) := by decide +kernel
theorem zd_R_newestBlockBefore_27 : decode prog_3_method_7_code 27 = .ok (.if_icmp .eq 56, 3) := by decide +kernel
theorem zd_R_newestBlockBefore_30 : decode prog_3_method_7_code 30 = .ok (.aload_n 0, 1) := by decide +kernel
theorem zd_R_newestBlockBefore_31 : decode prog_3_method_7_code 31 = .ok (.iload 4, 2) := by decide +kernel
theorem zd_R_newestBlockBefore_33 : decode prog_3_method_7_code 33 = .ok (.invokevirtual 70, 3) := by decide +kernel
theorem zd_R_newestBlockBefore_36 : decode prog_3_method_7_code 36 = .ok (.istore 6, 2) := by decide +kernel
theorem zd_R_newestBlockBefore_38 : decode prog_3_method_7_code 38 = .ok (.aload_n 0, 1) := by decide +kernel
theorem zd_R_newestBlockBefore_39 : decode prog_3_method_7_code 39 = .ok (.getfield 12, 3) := by decide +kernel
theorem zd_R_newestBlockBefore_42 : decode prog_3_method_7_code 42 = .ok (.iload 4, 2) := by decide +kernel
theorem zd_R_newestBlockBefore_44 : decode prog_3_method_7_code 44 = .ok (.iload 6, 2) := by decide +kernel
theorem zd_R_newestBlockBefore_46 : decode prog_3_method_7_code 46 = .ok (.invokevirtual 73, 3) := by decide +kernel
theorem zd_R_newestBlockBefore_49 : decode prog_3_method_7_code 49 = .ok (.istore 7, 2) := by decide +kernel
theorem zd_R_newestBlockBefore_51 : decode prog_3_method_7_code 51 = .ok (.iload 7, 2) := by decide +kernel
theorem zd_R_newestBlockBefore_53 : decode prog_3_method_7_code 53 = .ok (.iload_n 2, 1) := by decide +kernel
theorem zd_R_newestBlockBefore_54 : decode prog_3_method_7_code 54 = .ok (.if_icmp .le 15, 3) := by decide +kernel
theorem zd_R_newestBlockBefore_69 : decode prog_3_method_7_code 69 = .ok (.aload_n 0, 1) := by decide +kernel
theorem zd_R_newestBlockBefore_70 : decode prog_3_method_7_code 70 = .ok (.iload 6, 2) := by decide +kernel
theorem zd_R_newestBlockBefore_72 : decode prog_3_method_7_code 72 = .ok (.invokevirtual 76, 3) := by decide +kernel
theorem zd_R_newestBlockBefore_75 : decode prog_3_method_7_code 75 = .ok (.istore 4, 2) := by decide +kernel
theorem zd_R_newestBlockBefore_77 : decode prog_3_method_7_code 77 = .ok (.iinc 5 1, 3) := by decide +kernel
theorem zd_R_newestBlockBefore_80 : decode prog_3_method_7_code 80 = .ok (.goto (-63), 3) := by decide +kernel
theorem zd_R_newestBlockBefore_57 : decode prog_3_method_7_code 57 = .ok (.iload 7, 2) := by decide +kernel
theorem zd_R_newestBlockBefore_59 : decode prog_3_method_7_code 59 = .ok (.iload_n 1, 1) := by decide +kernel
theorem zd_R_newestBlockBefore_60 : decode prog_3_method_7_code 60 = .ok (.if_icmp .ge 9, 3) := by decide +kernel
theorem zd_R_newestBlockBefore_63 : decode prog_3_method_7_code 63 = .ok (.iload 7, 2) := by decide +kernel
theorem zd_R_newestBlockBefore_65 : decode prog_3_method_7_code 65 = .ok (.istore_n 2, 1) := by decide +kernel
theorem zd_R_newestBlockBefore_66 : decode prog_3_method_7_code 66 = .ok (.iload 4, 2) := by decide +kernel
theorem zd_R_newestBlockBefore_68 : decode prog_3_method_7_code 68 = .ok (.istore_n 3, 1) := by decide +kernel
theorem zd_R_newestBlockBefore_0 : decode prog_3_method_7_code 0 = .ok (.iconst 0, 1) := by decide +kernel
theorem zd_R_newestBlockBefore_1 : decode prog_3_method_7_code 1 = .ok (.istore_n 2, 1) := by decide +kernel
theorem zd_R_newestBlockBefore_2 : decode prog_3_method_7_code 2 = .ok (.iconst (-1), 1) := by decide +kernel
theorem zd_R_newestBlockBefore_3 : decode prog_3_method_7_code 3 = .ok (.istore_n 3, 1) := by decide +kernel
theorem zd_R_newestBlockBefore_4 : decode prog_3_method_7_code 4 = .ok (.aload_n 0, 1) := by decide +kernel
theorem zd_R_newestBlockBefore_5 : decode prog_3_method_7_code 5 = .ok (.aload_n 0, 1) := by decide +kernel
theorem zd_R_newestBlockBefore_6 : decode prog_3_method_7_code 6 = .ok (.getfield 22, 3) := by decide +kernel
theorem zd_R_newestBlockBefore_9 : decode prog_3_method_7_code 9 = .ok (.invokevirtual 76, 3) := by decide +kernel
theorem zd_R_newestBlockBefore_12 : decode prog_3_method_7_code 12 = .ok (.istore 4, 2) := by decide +kernel
theorem zd_R_newestBlockBefore_14 : decode prog_3_method_7_code 14 = .ok (.iconst 0, 1) := by decide +kernel
theorem zd_R_newestBlockBefore_15 : decode prog_3_method_7_code 15 = .ok (.istore 5, 2) := by decide +kernel
theorem zd_R_newestBlockBefore_83 : decode prog_3_method_7_code 83 = .ok (.iload_n 3, 1) := by decide +kernel
theorem zd_R_newestBlockBefore_84 : decode prog_3_method_7_code 84 = .ok (.ireturn, 1) := by decide +kernel
theorem zd_R_tellBlocks_13 : decode prog_3_method_6_code 13 = .ok (.iload 5, 2) := by decide +kernel
theorem zd_R_tellBlocks_15 : decode prog_3_method_6_code 15 = .ok (.iconst 3, 1) := by decide +kernel
theorem zd_R_tellBlocks_16 : decode prog_3_method_6_code 16 = .ok (.if_icmp .ge 75, 3) := by decide +kernel
theorem zd_R_tellBlocks_19 : decode prog_3_method_6_code 19 = .ok (.aload_n 0, 1) := by decide +kernel
theorem zd_R_tellBlocks_20 : decode prog_3_method_6_code 20 = .ok (.iload 4, 2) := by decide +kernel
theorem zd_R_tellBlocks_22 : decode prog_3_method_6_code 22 = .ok (.invokevirtual 66, 3) := by decide +kernel
theorem zd_R_tellBlocks_25 : decode prog_3_method_6_code 25 = .ok (.istore 6, 2) := by decide +kernel
theorem zd_R_tellBlocks_27 : decode prog_3_method_6_code 27 = .ok (.iload 6, 2) := by decide +kernel
theorem zd_R_tellBlocks_29 : decode prog_3_method_6_code 29 = .ok (.iconst (-1), 1) := by decide +kernel
theorem zd_R_tellBlocks_30 : decode prog_3_method_6_code 30 = .ok (.if_icmp .eq 55, 3) := by decide +kernel
theorem zd_R_tellBlocks_85 : decode prog_3_method_6_code 85 = .ok (.iinc 5 1, 3) := by decide +kernel
theorem zd_R_tellBlocks_88 : decode prog_3_method_6_code 88 = .ok (.goto (-75), 3) := by decide +kernel
theorem zd_R_tellBlocks_33 : decode prog_3_method_6_code 33 = .ok (.aload_n 0, 1) := by decide +kernel
theorem zd_R_tellBlocks_34 : decode prog_3_method_6_code 34 = .ok (.iload 6, 2) := by decide +kernel
theorem zd_R_tellBlocks_36 : decode prog_3_method_6_code 36 = .ok (.invokevirtual 70, 3) := by decide +kernel
theorem zd_R_tellBlocks_39 : decode prog_3_method_6_code 39 = .ok (.istore 7, 2) := by decide +kernel
theorem zd_R_tellBlocks_41 : decode prog_3_method_6_code 41 = .ok (.aload_n 1, 1) := by decide +kernel
theorem zd_R_tellBlocks_42 : decode prog_3_method_6_code 42 = .ok (.iload_n 2, 1) := by decide +kernel
theorem zd_R_tellBlocks_43 : decode prog_3_method_6_code 43 = .ok (.iconst 3, 1) := by decide +kernel
theorem zd_R_tellBlocks_44 : decode prog_3_method_6_code 44 = .ok (.iconst 2, 1) := by decide +kernel
theorem zd_R_tellBlocks_45 : decode prog_3_method_6_code 45 = .ok (.iload 5, 2) := by decide +kernel
theorem zd_R_tellBlocks_47 : decode prog_3_method_6_code 47 = .ok (.imul, 1) := by decide +kernel
theorem zd_R_tellBlocks_48 : decode prog_3_method_6_code 48 = .ok (.iadd, 1) := by decide +kernel
theorem zd_R_tellBlocks_49 : decode prog_3_method_6_code 49 = .ok (.iload 6, 2) := by decide +kernel
theorem zd_R_tellBlocks_51 : decode prog_3_method_6_code 51 = .ok (.invokevirtual 58, 3) := by decide +kernel
theorem zd_R_tellBlocks_54 : decode prog_3_method_6_code 54 = .ok (.aload_n 1, 1) := by decide +kernel
theorem zd_R_tellBlocks_55 : decode prog_3_method_6_code 55 = .ok (.iload_n 2, 1) := by decide +kernel
theorem zd_R_tellBlocks_56 : decode prog_3_method_6_code 56 = .ok (.iconst 3, 1) := by decide +kernel
theorem zd_R_tellBlocks_57 : decode prog_3_method_6_code 57 = .ok (.iconst 2, 1) := by decide +kernel
theorem zd_R_tellBlocks_58 : decode prog_3_method_6_code 58 = .ok (.iload 5, 2) := by decide +kernel
theorem zd_R_tellBlocks_60 : decode prog_3_method_6_code 60 = .ok (.imul, 1) := by decide +kernel
theorem zd_R_tellBlocks_61 : decode prog_3_method_6_code 61 = .ok (.iadd, 1) := by decide +kernel
theorem zd_R_tellBlocks_62 : decode prog_3_method_6_code 62 = .ok (.iconst 1, 1) := by decide +kernel
theorem zd_R_tellBlocks_63 : decode prog_3_method_6_code 63 = .ok (.iadd, 1) := by decide +kernel
theorem zd_R_tellBlocks_64 : decode prog_3_method_6_code 64 = .ok (.iload 7, 2) := by decide +kernel
theorem zd_R_tellBlocks_66 : decode prog_3_method_6_code 66 = .ok (.invokevirtual 58, 3) := by decide +kernel
theorem zd_R_tellBlocks_69 : decode prog_3_method_6_code 69 = .ok (.aload_n 0, 1) := by decide +kernel
theorem zd_R_tellBlocks_70 : decode prog_3_method_6_code 70 = .ok (.getfield 12, 3) := by decide +kernel
theorem zd_R_tellBlocks_73 : decode prog_3_method_6_code 73 = .ok (.iload 6, 2) := by decide +kernel
theorem zd_R_tellBlocks_75 : decode prog_3_method_6_code 75 = .ok (.iload 7, 2) := by decide +kernel
theorem zd_R_tellBlocks_77 : decode prog_3_method_6_code 77 = .ok (.invokevirtual 73, 3) := by decide +kernel
theorem zd_R_tellBlocks_80 : decode prog_3_method_6_code 80 = .ok (.istore 4, 2) := by decide +kernel
theorem zd_R_tellBlocks_82 : decode prog_3_method_6_code 82 = .ok (.iinc 3 1, 3) := by decide +kernel
theorem zd_R_tellBlocks_0 : decode prog_3_method_6_code 0 = .ok (.iconst 0, 1) := by decide +kernel
theorem zd_R_tellBlocks_1 : decode prog_3_method_6_code 1 = .ok (.istore_n 3, 1) := by decide +kernel
theorem zd_R_tellBlocks_2 : decode prog_3_method_6_code 2 = .ok (.aload_n 0, 1) := by decide +kernel
theorem zd_R_tellBlocks_3 : decode prog_3_method_6_code 3 = .ok (.getfield 18, 3) := by decide +kernel
theorem zd_R_tellBlocks_6 : decode prog_3_method_6_code 6 = .ok (.iconst 1, 1) := by decide +kernel
theorem zd_R_tellBlocks_7 : decode prog_3_method_6_code 7 = .ok (.iadd, 1) := by decide +kernel
theorem zd_R_tellBlocks_8 : decode prog_3_method_6_code 8 = .ok (.istore 4, 2) := by decide +kernel
theorem zd_R_tellBlocks_10 : decode prog_3_method_6_code 10 = .ok (.iconst 0, 1) := by decide +kernel
theorem zd_R_tellBlocks_11 : decode prog_3_method_6_code 11 = .ok (.istore 5, 2) := by decide +kernel
theorem zd_R_tellBlocks_91 : decode prog_3_method_6_code 91 = .ok (.iload_n 3, 1) := by decide +kernel
theorem zd_R_tellBlocks_92 : decode prog_3_method_6_code 92 = .ok (.ireturn, 1) := by decide +kernel
theorem zd_R_makeAck_0 : decode prog_3_method_5_code 0 = .ok (.aload_n 1, 1) := by decide +kernel
theorem zd_R_makeAck_1 : decode prog_3_method_5_code 1 = .ok (.invokevirtual 45, 3) := by decide +kernel
theorem zd_R_makeAck_4 : decode prog_3_method_5_code 4 = .ok (.ifCond .eq 8, 3) := by decide +kernel
theorem zd_R_makeAck_12 : decode prog_3_method_5_code 12 = .ok (.aload_n 1, 1) := by decide +kernel
theorem zd_R_makeAck_13 : decode prog_3_method_5_code 13 = .ok (.invokevirtual 55, 3) := by decide +kernel
theorem zd_R_makeAck_16 : decode prog_3_method_5_code 16 = .ok (.istore_n 2, 1) := by decide +kernel
theorem zd_R_makeAck_17 : decode prog_3_method_5_code 17 = .ok (.aload_n 1, 1) := by decide +kernel
theorem zd_R_makeAck_18 : decode prog_3_method_5_code 18 = .ok (.iload_n 2, 1) := by decide +kernel
theorem zd_R_makeAck_19 : decode prog_3_method_5_code 19 = .ok (.iconst 0, 1) := by decide +kernel
theorem zd_R_makeAck_20 : decode prog_3_method_5_code 20 = .ok (.aload_n 0, 1) := by decide +kernel
theorem zd_R_makeAck_21 : decode prog_3_method_5_code 21 = .ok (.getfield 22, 3) := by decide +kernel
theorem zd_R_makeAck_24 : decode prog_3_method_5_code 24 = .ok (.invokevirtual 58, 3) := by decide +kernel
theorem zd_R_makeAck_27 : decode prog_3_method_5_code 27 = .ok (.aload_n 1, 1) := by decide +kernel
theorem zd_R_makeAck_28 : decode prog_3_method_5_code 28 = .ok (.iload_n 2, 1) := by decide +kernel
theorem zd_R_makeAck_29 : decode prog_3_method_5_code 29 = .ok (.iconst 1, 1) := by decide +kernel
theorem zd_R_makeAck_30 : decode prog_3_method_5_code 30 = .ok (.aload_n 0, 1) := by decide +kernel
theorem zd_R_makeAck_31 : decode prog_3_method_5_code 31 = .ok (.invokevirtual 41, 3) := by decide +kernel
theorem zd_R_makeAck_34 : decode prog_3_method_5_code 34 = .ok (.invokevirtual 58, 3) := by decide +kernel
theorem zd_R_makeAck_37 : decode prog_3_method_5_code 37 = .ok (.aload_n 1, 1) := by decide +kernel
theorem zd_R_makeAck_38 : decode prog_3_method_5_code 38 = .ok (.iload_n 2, 1) := by decide +kernel
theorem zd_R_makeAck_39 : decode prog_3_method_5_code 39 = .ok (.iconst 2, 1) := by decide +kernel
theorem zd_R_makeAck_40 : decode prog_3_method_5_code 40 = .ok (.aload_n 0, 1) := by decide +kernel
theorem zd_R_makeAck_41 : decode prog_3_method_5_code 41 = .ok (.aload_n 1, 1) := by decide +kernel
theorem zd_R_makeAck_42 : decode prog_3_method_5_code 42 = .ok (.iload_n 2, 1) := by decide +kernel
theorem zd_R_makeAck_43 : decode prog_3_method_5_code 43 = .ok (.invokevirtual 62, 3) := by decide +kernel
theorem zd_R_makeAck_46 : decode prog_3_method_5_code 46 = .ok (.invokevirtual 58, 3) := by decide +kernel
theorem zd_R_makeAck_49 : decode prog_3_method_5_code 49 = .ok (.return_, 1) := by decide +kernel
theorem zd_R_makeAck_7 : decode prog_3_method_5_code 7 = .ok (.aload_n 1, 1) := by decide +kernel
theorem zd_R_makeAck_8 : decode prog_3_method_5_code 8 = .ok (.iconst 0, 1) := by decide +kernel
theorem zd_R_makeAck_9 : decode prog_3_method_5_code 9 = .ok (.invokevirtual 51, 3) := by decide +kernel
theorem zd_R_countBlocks_13 : decode prog_3_method_8_code 13 = .ok (.iload_n 3, 1) := by decide +kernel
theorem zd_R_countBlocks_14 : decode prog_3_method_8_code 14 = .ok (.bipush 32, 2) := by decide +kernel
theorem zd_R_countBlocks_16 : decode prog_3_method_8_code 16 = .ok (.if_icmp .ge 27, 3) := by decide +kernel
theorem zd_R_countBlocks_19 : decode prog_3_method_8_code 19 = .ok (.iload_n 2, 1) := by decide +kernel
theorem zd_R_countBlocks_20 : decode prog_3_method_8_code 20 = .ok (.iconst (-1), 1) := by decide +kernel
theorem zd_R_countBlocks_21 : decode prog_3_method_8_code 21 = .ok (.if_icmp .eq 22, 3) := by decide +kernel
theorem zd_R_countBlocks_24 : decode prog_3_method_8_code 24 = .ok (.iinc 1 1, 3) := by decide +kernel
theorem zd_R_countBlocks_27 : decode prog_3_method_8_code 27 = .ok (.aload_n 0, 1) := by decide +kernel
theorem zd_R_countBlocks_28 : decode prog_3_method_8_code 28 = .ok (.aload_n 0, 1) := by decide +kernel
theorem zd_R_countBlocks_29 : decode prog_3_method_8_code 29 = .ok (.iload_n 2, 1) := by decide +kernel
theorem zd_R_countBlocks_30 : decode prog_3_method_8_code 30 = .ok (.invokevirtual 70, 3) := by decide +kernel
theorem zd_R_countBlocks_33 : decode prog_3_method_8_code 33 = .ok (.invokevirtual 76, 3) := by decide +kernel
theorem zd_R_countBlocks_36 : decode prog_3_method_8_code 36 = .ok (.istore_n 2, 1) := by decide +kernel
theorem zd_R_countBlocks_37 : decode prog_3_method_8_code 37 = .ok (.iinc 3 1, 3) := by decide +kernel
theorem zd_R_countBlocks_40 : decode prog_3_method_8_code 40 = .ok (.goto (-27), 3) := by decide +kernel
theorem zd_R_countBlocks_0 : decode prog_3_method_8_code 0 = .ok (.iconst 0, 1) := by decide +kernel
theorem zd_R_countBlocks_1 : decode prog_3_method_8_code 1 = .ok (.istore_n 1, 1) := by decide +kernel
theorem zd_R_countBlocks_2 : decode prog_3_method_8_code 2 = .ok (.aload_n 0, 1) := by decide +kernel
theorem zd_R_countBlocks_3 : decode prog_3_method_8_code 3 = .ok (.aload_n 0, 1) := by decide +kernel
theorem zd_R_countBlocks_4 : decode prog_3_method_8_code 4 = .ok (.getfield 22, 3) := by decide +kernel
theorem zd_R_countBlocks_7 : decode prog_3_method_8_code 7 = .ok (.invokevirtual 76, 3) := by decide +kernel
theorem zd_R_countBlocks_10 : decode prog_3_method_8_code 10 = .ok (.istore_n 2, 1) := by decide +kernel
theorem zd_R_countBlocks_11 : decode prog_3_method_8_code 11 = .ok (.iconst 0, 1) := by decide +kernel
theorem zd_R_countBlocks_12 : decode prog_3_method_8_code 12 = .ok (.istore_n 3, 1) := by decide +kernel
theorem zd_R_countBlocks_43 : decode prog_3_method_8_code 43 = .ok (.iload_n 1, 1) := by decide +kernel
theorem zd_R_countBlocks_44 : decode prog_3_method_8_code 44 = .ok (.ireturn, 1) := by decide +kernel
theorem zd_R_startOfBlock_11 : decode prog_3_method_9_code 11 = .ok (.iload_n 3, 1) := by decide +kernel
theorem zd_R_startOfBlock_12 : decode prog_3_method_9_code 12 = .ok (.iload_n 1, 1) := by decide +kernel
theorem zd_R_startOfBlock_13 : decode prog_3_method_9_code 13 = .ok (.if_icmp .ge 24, 3) := by decide +kernel
theorem zd_R_startOfBlock_16 : decode prog_3_method_9_code 16 = .ok (.iload_n 2, 1) := by decide +kernel
theorem zd_R_startOfBlock_17 : decode prog_3_method_9_code 17 = .ok (.iconst (-1), 1) := by decide +kernel
theorem zd_R_startOfBlock_18 : decode prog_3_method_9_code 18 = .ok (.if_icmp .eq 19, 3) := by decide +kernel
theorem zd_R_startOfBlock_21 : decode prog_3_method_9_code 21 = .ok (.aload_n 0, 1) := by decide +kernel
theorem zd_R_startOfBlock_22 : decode prog_3_method_9_code 22 = .ok (.aload_n 0, 1) := by decide +kernel
theorem zd_R_startOfBlock_23 : decode prog_3_method_9_code 23 = .ok (.iload_n 2, 1) := by decide +kernel
theorem zd_R_startOfBlock_24 : decode prog_3_method_9_code 24 = .ok (.invokevirtual 70, 3) := by decide +kernel
theorem zd_R_startOfBlock_27 : decode prog_3_method_9_code 27 = .ok (.invokevirtual 76, 3) := by decide +kernel
theorem zd_R_startOfBlock_30 : decode prog_3_method_9_code 30 = .ok (.istore_n 2, 1) := by decide +kernel
theorem zd_R_startOfBlock_31 : decode prog_3_method_9_code 31 = .ok (.iinc 3 1, 3) := by decide +kernel
theorem zd_R_startOfBlock_34 : decode prog_3_method_9_code 34 = .ok (.goto (-23), 3) := by decide +kernel
theorem zd_R_startOfBlock_0 : decode prog_3_method_9_code 0 = .ok (.aload_n 0, 1) := by decide +kernel
theorem zd_R_startOfBlock_1 : decode prog_3_method_9_code 1 = .ok (.aload_n 0, 1) := by decide +kernel
theorem zd_R_startOfBlock_2 : decode prog_3_method_9_code 2 = .ok (.getfield 22, 3) := by decide +kernel
theorem zd_R_startOfBlock_5 : decode prog_3_method_9_code 5 = .ok (.invokevirtual 76, 3) := by decide +kernel
theorem zd_R_startOfBlock_8 : decode prog_3_method_9_code 8 = .ok (.istore_n 2, 1) := by decide +kernel
theorem zd_R_startOfBlock_9 : decode prog_3_method_9_code 9 = .ok (.iconst 0, 1) := by decide +kernel
theorem zd_R_startOfBlock_10 : decode prog_3_method_9_code 10 = .ok (.istore_n 3, 1) := by decide +kernel
theorem zd_R_startOfBlock_37 : decode prog_3_method_9_code 37 = .ok (.iload_n 2, 1) := by decide +kernel
theorem zd_R_startOfBlock_38 : decode prog_3_method_9_code 38 = .ok (.ireturn, 1) := by decide +kernel
theorem zd_S_countFlying_0 : decode prog_5_method_2_code 0 = .ok (.aload_n 0, 1) := by decide +kernel
theorem zd_S_countFlying_1 : decode prog_5_method_2_code 1 = .ok (.getfield 12, 3) := by decide +kernel
theorem zd_S_countFlying_4 : decode prog_5_method_2_code 4 = .ok (.aload_n 0, 1) := by decide +kernel
theorem zd_S_countFlying_5 : decode prog_5_method_2_code 5 = .ok (.getfield 25, 3) := by decide +kernel
theorem zd_S_countFlying_8 : decode prog_5_method_2_code 8 = .ok (.aload_n 0, 1) := by decide +kernel
theorem zd_S_countFlying_9 : decode prog_5_method_2_code 9 = .ok (.getfield 29, 3) := by decide +kernel
theorem zd_S_countFlying_12 : decode prog_5_method_2_code 12 = .ok (.invokevirtual 65, 3) := by decide +kernel
theorem zd_S_countFlying_15 : decode prog_5_method_2_code 15 = .ok (.ireturn, 1) := by decide +kernel
theorem zd_S_startOfRepair_0 : decode prog_5_method_4_code 0 = .ok (.aload_n 0, 1) := by decide +kernel
theorem zd_S_startOfRepair_1 : decode prog_5_method_4_code 1 = .ok (.getfield 53, 3) := by decide +kernel
theorem zd_S_startOfRepair_4 : decode prog_5_method_4_code 4 = .ok (.iconst (-1), 1) := by decide +kernel
theorem zd_S_startOfRepair_5 : decode prog_5_method_4_code 5 = .ok (.if_icmp .ne 5, 3) := by decide +kernel
theorem zd_S_startOfRepair_10 : decode prog_5_method_4_code 10 = .ok (.aload_n 0, 1) := by decide +kernel
theorem zd_S_startOfRepair_11 : decode prog_5_method_4_code 11 = .ok (.getfield 12, 3) := by decide +kernel
theorem zd_S_startOfRepair_14 : decode prog_5_method_4_code 14 = .ok (.aload_n 0, 1) := by decide +kernel
theorem zd_S_startOfRepair_15 : decode prog_5_method_4_code 15 = .ok (.getfield 25, 3) := by decide +kernel
theorem zd_S_startOfRepair_18 : decode prog_5_method_4_code 18 = .ok (.aload_n 0, 1) := by decide +kernel
theorem zd_S_startOfRepair_19 : decode prog_5_method_4_code 19 = .ok (.getfield 56, 3) := by decide +kernel
theorem zd_S_startOfRepair_22 : decode prog_5_method_4_code 22 = .ok (.invokestatic 95, 3) := by decide +kernel
theorem zd_S_startOfRepair_25 : decode prog_5_method_4_code 25 = .ok (.aload_n 0, 1) := by decide +kernel
theorem zd_S_startOfRepair_26 : decode prog_5_method_4_code 26 = .ok (.getfield 29, 3) := by decide +kernel
theorem zd_S_startOfRepair_29 : decode prog_5_method_4_code 29 = .ok (.invokevirtual 76, 3) := by decide +kernel
theorem zd_S_startOfRepair_32 : decode prog_5_method_4_code 32 = .ok (.istore_n 1, 1) := by decide +kernel
theorem zd_S_startOfRepair_33 : decode prog_5_method_4_code 33 = .ok (.iload_n 1, 1) := by decide +kernel
theorem zd_S_startOfRepair_34 : decode prog_5_method_4_code 34 = .ok (.aload_n 0, 1) := by decide +kernel
theorem zd_S_startOfRepair_35 : decode prog_5_method_4_code 35 = .ok (.getfield 29, 3) := by decide +kernel
theorem zd_S_startOfRepair_38 : decode prog_5_method_4_code 38 = .ok (.if_icmp .lt 5, 3) := by decide +kernel
theorem zd_S_startOfRepair_43 : decode prog_5_method_4_code 43 = .ok (.aload_n 0, 1) := by decide +kernel
theorem zd_S_startOfRepair_44 : decode prog_5_method_4_code 44 = .ok (.getfield 12, 3) := by decide +kernel
theorem zd_S_startOfRepair_47 : decode prog_5_method_4_code 47 = .ok (.iload_n 1, 1) := by decide +kernel
theorem zd_S_startOfRepair_48 : decode prog_5_method_4_code 48 = .ok (.aload_n 0, 1) := by decide +kernel
theorem zd_S_startOfRepair_49 : decode prog_5_method_4_code 49 = .ok (.getfield 32, 3) := by decide +kernel
theorem zd_S_startOfRepair_52 : decode prog_5_method_4_code 52 = .ok (.invokevirtual 100, 3) := by decide +kernel
theorem zd_S_startOfRepair_55 : decode prog_5_method_4_code 55 = .ok (.aload_n 0, 1) := by decide +kernel
theorem zd_S_startOfRepair_56 : decode prog_5_method_4_code 56 = .ok (.getfield 32, 3) := by decide +kernel
theorem zd_S_startOfRepair_59 : decode prog_5_method_4_code 59 = .ok (.if_icmp .ge 7, 3) := by decide +kernel
theorem zd_S_startOfRepair_66 : decode prog_5_method_4_code 66 = .ok (.iconst 0, 1) := by decide +kernel
theorem zd_S_startOfRepair_67 : decode prog_5_method_4_code 67 = .ok (.istore_n 2, 1) := by decide +kernel
theorem zd_S_startOfRepair_68 : decode prog_5_method_4_code 68 = .ok (.iload_n 1, 1) := by decide +kernel
theorem zd_S_startOfRepair_69 : decode prog_5_method_4_code 69 = .ok (.aload_n 0, 1) := by decide +kernel
theorem zd_S_startOfRepair_70 : decode prog_5_method_4_code 70 = .ok (.getfield 25, 3) := by decide +kernel
theorem zd_S_startOfRepair_73 : decode prog_5_method_4_code 73 = .ok (.if_icmp .eq 7, 3) := by decide +kernel
theorem zd_S_startOfRepair_80 : decode prog_5_method_4_code 80 = .ok (.iload_n 1, 1) := by decide +kernel
theorem zd_S_startOfRepair_81 : decode prog_5_method_4_code 81 = .ok (.goto 4, 3) := by decide +kernel
theorem zd_S_startOfRepair_85 : decode prog_5_method_4_code 85 = .ok (.ireturn, 1) := by decide +kernel
theorem zd_S_startOfRepair_76 : decode prog_5_method_4_code 76 = .ok (.iload_n 2, 1) := by decide +kernel
theorem zd_S_startOfRepair_77 : decode prog_5_method_4_code 77 = .ok (.ifCond .eq 7, 3) := by decide +kernel
theorem zd_S_startOfRepair_84 : decode prog_5_method_4_code 84 = .ok (.iconst (-1), 1) := by decide +kernel
theorem zd_S_startOfRepair_62 : decode prog_5_method_4_code 62 = .ok (.iconst 1, 1) := by decide +kernel
theorem zd_S_startOfRepair_63 : decode prog_5_method_4_code 63 = .ok (.goto 4, 3) := by decide +kernel
theorem zd_S_startOfRepair_41 : decode prog_5_method_4_code 41 = .ok (.iconst (-1), 1) := by decide +kernel
theorem zd_S_startOfRepair_42 : decode prog_5_method_4_code 42 = .ok (.ireturn, 1) := by decide +kernel
theorem zd_S_startOfRepair_8 : decode prog_5_method_4_code 8 = .ok (.iconst (-1), 1) := by decide +kernel
theorem zd_S_startOfRepair_9 : decode prog_5_method_4_code 9 = .ok (.ireturn, 1) := by decide +kernel
theorem zd_S_endOfRun_0 : decode prog_5_method_5_code 0 = .ok (.aload_n 0, 1) := by decide +kernel
theorem zd_S_endOfRun_1 : decode prog_5_method_5_code 1 = .ok (.getfield 12, 3) := by decide +kernel
theorem zd_S_endOfRun_4 : decode prog_5_method_5_code 4 = .ok (.iload_n 1, 1) := by decide +kernel
theorem zd_S_endOfRun_5 : decode prog_5_method_5_code 5 = .ok (.iload_n 1, 1) := by decide +kernel
theorem zd_S_endOfRun_6 : decode prog_5_method_5_code 6 = .ok (.iconst 4, 1) := by decide +kernel
theorem zd_S_endOfRun_7 : decode prog_5_method_5_code 7 = .ok (.iadd, 1) := by decide +kernel
theorem zd_S_endOfRun_8 : decode prog_5_method_5_code 8 = .ok (.iload_n 2, 1) := by decide +kernel
theorem zd_S_endOfRun_9 : decode prog_5_method_5_code 9 = .ok (.invokestatic 103, 3) := by decide +kernel
theorem zd_S_endOfRun_12 : decode prog_5_method_5_code 12 = .ok (.invokevirtual 100, 3) := by decide +kernel
theorem zd_S_endOfRun_15 : decode prog_5_method_5_code 15 = .ok (.ireturn, 1) := by decide +kernel
theorem zd_S_endOfFresh_0 : decode prog_5_method_6_code 0 = .ok (.aload_n 0, 1) := by decide +kernel
theorem zd_S_endOfFresh_1 : decode prog_5_method_6_code 1 = .ok (.getfield 29, 3) := by decide +kernel
theorem zd_S_endOfFresh_4 : decode prog_5_method_6_code 4 = .ok (.aload_n 0, 1) := by decide +kernel
theorem zd_S_endOfFresh_5 : decode prog_5_method_6_code 5 = .ok (.getfield 35, 3) := by decide +kernel
theorem zd_S_endOfFresh_8 : decode prog_5_method_6_code 8 = .ok (.if_icmp .lt 8, 3) := by decide +kernel
theorem zd_S_endOfFresh_16 : decode prog_5_method_6_code 16 = .ok (.aload_n 0, 1) := by decide +kernel
theorem zd_S_endOfFresh_17 : decode prog_5_method_6_code 17 = .ok (.invokevirtual 106, 3) := by decide +kernel
theorem zd_S_endOfFresh_20 : decode prog_5_method_6_code 20 = .ok (.istore_n 1, 1) := by decide +kernel
theorem zd_S_endOfFresh_21 : decode prog_5_method_6_code 21 = .ok (.aload_n 0, 1) := by decide +kernel
theorem zd_S_endOfFresh_22 : decode prog_5_method_6_code 22 = .ok (.getfield 29, 3) := by decide +kernel
theorem zd_S_endOfFresh_25 : decode prog_5_method_6_code 25 = .ok (.aload_n 0, 1) := by decide +kernel
theorem zd_S_endOfFresh_26 : decode prog_5_method_6_code 26 = .ok (.getfield 38, 3) := by decide +kernel
theorem zd_S_endOfFresh_29 : decode prog_5_method_6_code 29 = .ok (.if_icmp .lt 21, 3) := by decide +kernel
theorem zd_S_endOfFresh_50 : decode prog_5_method_6_code 50 = .ok (.aload_n 0, 1) := by decide +kernel
theorem zd_S_endOfFresh_51 : decode prog_5_method_6_code 51 = .ok (.aload_n 0, 1) := by decide +kernel
theorem zd_S_endOfFresh_52 : decode prog_5_method_6_code 52 = .ok (.getfield 29, 3) := by decide +kernel
theorem zd_S_endOfFresh_55 : decode prog_5_method_6_code 55 = .ok (.aload_n 0, 1) := by decide +kernel
theorem zd_S_endOfFresh_56 : decode prog_5_method_6_code 56 = .ok (.getfield 35, 3) := by decide +kernel
theorem zd_S_endOfFresh_59 : decode prog_5_method_6_code 59 = .ok (.aload_n 0, 1) := by decide +kernel
theorem zd_S_endOfFresh_60 : decode prog_5_method_6_code 60 = .ok (.getfield 38, 3) := by decide +kernel
theorem zd_S_endOfFresh_63 : decode prog_5_method_6_code 63 = .ok (.invokestatic 103, 3) := by decide +kernel
theorem zd_S_endOfFresh_66 : decode prog_5_method_6_code 66 = .ok (.invokevirtual 73, 3) := by decide +kernel
theorem zd_S_endOfFresh_69 : decode prog_5_method_6_code 69 = .ok (.istore_n 2, 1) := by decide +kernel
theorem zd_S_endOfFresh_70 : decode prog_5_method_6_code 70 = .ok (.iload_n 1, 1) := by decide +kernel
theorem zd_S_endOfFresh_71 : decode prog_5_method_6_code 71 = .ok (.iload_n 2, 1) := by decide +kernel
theorem zd_S_endOfFresh_72 : decode prog_5_method_6_code 72 = .ok (.iadd, 1) := by decide +kernel
theorem zd_S_endOfFresh_73 : decode prog_5_method_6_code 73 = .ok (.aload_n 0, 1) := by decide +kernel
theorem zd_S_endOfFresh_74 : decode prog_5_method_6_code 74 = .ok (.getfield 29, 3) := by decide +kernel
theorem zd_S_endOfFresh_77 : decode prog_5_method_6_code 77 = .ok (.isub, 1) := by decide +kernel
theorem zd_S_endOfFresh_78 : decode prog_5_method_6_code 78 = .ok (.aload_n 0, 1) := by decide +kernel
theorem zd_S_endOfFresh_79 : decode prog_5_method_6_code 79 = .ok (.getfield 41, 3) := by decide +kernel
theorem zd_S_endOfFresh_82 : decode prog_5_method_6_code 82 = .ok (.aload_n 0, 1) := by decide +kernel
theorem zd_S_endOfFresh_83 : decode prog_5_method_6_code 83 = .ok (.getfield 47, 3) := by decide +kernel
theorem zd_S_endOfFresh_86 : decode prog_5_method_6_code 86 = .ok (.invokestatic 103, 3) := by decide +kernel
theorem zd_S_endOfFresh_89 : decode prog_5_method_6_code 89 = .ok (.if_icmp .gt 7, 3) := by decide +kernel
theorem zd_S_endOfFresh_96 : decode prog_5_method_6_code 96 = .ok (.iconst 0, 1) := by decide +kernel
theorem zd_S_endOfFresh_97 : decode prog_5_method_6_code 97 = .ok (.istore_n 3, 1) := by decide +kernel
theorem zd_S_endOfFresh_98 : decode prog_5_method_6_code 98 = .ok (.iload_n 1, 1) := by decide +kernel
theorem zd_S_endOfFresh_99 : decode prog_5_method_6_code 99 = .ok (.ifCond .eq 7, 3) := by decide +kernel
theorem zd_S_endOfFresh_106 : decode prog_5_method_6_code 106 = .ok (.iload_n 2, 1) := by decide +kernel
theorem zd_S_endOfFresh_107 : decode prog_5_method_6_code 107 = .ok (.goto 7, 3) := by decide +kernel
theorem zd_S_endOfFresh_114 : decode prog_5_method_6_code 114 = .ok (.ireturn, 1) := by decide +kernel
theorem zd_S_endOfFresh_102 : decode prog_5_method_6_code 102 = .ok (.iload_n 3, 1) := by decide +kernel
theorem zd_S_endOfFresh_103 : decode prog_5_method_6_code 103 = .ok (.ifCond .eq 7, 3) := by decide +kernel
theorem zd_S_endOfFresh_110 : decode prog_5_method_6_code 110 = .ok (.aload_n 0, 1) := by decide +kernel
theorem zd_S_endOfFresh_111 : decode prog_5_method_6_code 111 = .ok (.getfield 29, 3) := by decide +kernel
theorem zd_S_endOfFresh_92 : decode prog_5_method_6_code 92 = .ok (.iconst 1, 1) := by decide +kernel
theorem zd_S_endOfFresh_93 : decode prog_5_method_6_code 93 = .ok (.goto 4, 3) := by decide +kernel
theorem zd_S_endOfFresh_32 : decode prog_5_method_6_code 32 = .ok (.iload_n 1, 1) := by decide +kernel
theorem zd_S_endOfFresh_33 : decode prog_5_method_6_code 33 = .ok (.ifCond .ne 12, 3) := by decide +kernel
theorem zd_S_endOfFresh_45 : decode prog_5_method_6_code 45 = .ok (.aload_n 0, 1) := by decide +kernel
theorem zd_S_endOfFresh_46 : decode prog_5_method_6_code 46 = .ok (.getfield 29, 3) := by decide +kernel
theorem zd_S_endOfFresh_49 : decode prog_5_method_6_code 49 = .ok (.ireturn, 1) := by decide +kernel
theorem zd_S_endOfFresh_36 : decode prog_5_method_6_code 36 = .ok (.aload_n 0, 1) := by decide +kernel
theorem zd_S_endOfFresh_37 : decode prog_5_method_6_code 37 = .ok (.getfield 29, 3) := by decide +kernel
theorem zd_S_endOfFresh_40 : decode prog_5_method_6_code 40 = .ok (.iconst 1, 1) := by decide +kernel
theorem zd_S_endOfFresh_41 : decode prog_5_method_6_code 41 = .ok (.iadd, 1) := by decide +kernel
theorem zd_S_endOfFresh_42 : decode prog_5_method_6_code 42 = .ok (.goto 7, 3) := by decide +kernel
theorem zd_S_endOfFresh_11 : decode prog_5_method_6_code 11 = .ok (.aload_n 0, 1) := by decide +kernel
theorem zd_S_endOfFresh_12 : decode prog_5_method_6_code 12 = .ok (.getfield 29, 3) := by decide +kernel
theorem zd_S_endOfFresh_15 : decode prog_5_method_6_code 15 = .ok (.ireturn, 1) := by decide +kernel
theorem zd_S_noteSent_0 : decode prog_5_method_7_code 0 = .ok (.aload_n 0, 1) := by decide +kernel
theorem zd_S_noteSent_1 : decode prog_5_method_7_code 1 = .ok (.dup, 1) := by decide +kernel
theorem zd_S_noteSent_2 : decode prog_5_method_7_code 2 = .ok (.getfield 59, 3) := by decide +kernel
theorem zd_S_noteSent_5 : decode prog_5_method_7_code 5 = .ok (.iconst 1, 1) := by decide +kernel
theorem zd_S_noteSent_6 : decode prog_5_method_7_code 6 = .ok (.iadd, 1) := by decide +kernel
theorem zd_S_noteSent_7 : decode prog_5_method_7_code 7 = .ok (.putfield 59, 3) := by decide +kernel
theorem zd_S_noteSent_10 : decode prog_5_method_7_code 10 = .ok (.iload_n 1, 1) := by decide +kernel
theorem zd_S_noteSent_11 : decode prog_5_method_7_code 11 = .ok (.aload_n 0, 1) := by decide +kernel
theorem zd_S_noteSent_12 : decode prog_5_method_7_code 12 = .ok (.getfield 32, 3) := by decide +kernel
theorem zd_S_noteSent_15 : decode prog_5_method_7_code 15 = .ok (.if_icmp .ge 16, 3) := by decide +kernel
theorem zd_S_noteSent_31 : decode prog_5_method_7_code 31 = .ok (.aload_n 0, 1) := by decide +kernel
theorem zd_S_noteSent_32 : decode prog_5_method_7_code 32 = .ok (.getfield 21, 3) := by decide +kernel
theorem zd_S_noteSent_35 : decode prog_5_method_7_code 35 = .ok (.iload_n 2, 1) := by decide +kernel
theorem zd_S_noteSent_36 : decode prog_5_method_7_code 36 = .ok (.invokevirtual 109, 3) := by decide +kernel
theorem zd_S_noteSent_39 : decode prog_5_method_7_code 39 = .ok (.aload_n 0, 1) := by decide +kernel
theorem zd_S_noteSent_40 : decode prog_5_method_7_code 40 = .ok (.aload_n 0, 1) := by decide +kernel
theorem zd_S_noteSent_41 : decode prog_5_method_7_code 41 = .ok (.getfield 32, 3) := by decide +kernel
theorem zd_S_noteSent_44 : decode prog_5_method_7_code 44 = .ok (.aload_n 0, 1) := by decide +kernel
theorem zd_S_noteSent_45 : decode prog_5_method_7_code 45 = .ok (.getfield 29, 3) := by decide +kernel
theorem zd_S_noteSent_48 : decode prog_5_method_7_code 48 = .ok (.invokestatic 95, 3) := by decide +kernel
theorem zd_S_noteSent_51 : decode prog_5_method_7_code 51 = .ok (.putfield 32, 3) := by decide +kernel
theorem zd_S_noteSent_54 : decode prog_5_method_7_code 54 = .ok (.aload_n 0, 1) := by decide +kernel
theorem zd_S_noteSent_55 : decode prog_5_method_7_code 55 = .ok (.getfield 21, 3) := by decide +kernel
theorem zd_S_noteSent_58 : decode prog_5_method_7_code 58 = .ok (.invokevirtual 113, 3) := by decide +kernel
theorem zd_S_noteSent_61 : decode prog_5_method_7_code 61 = .ok (.return_, 1) := by decide +kernel
theorem zd_S_noteSent_18 : decode prog_5_method_7_code 18 = .ok (.aload_n 0, 1) := by decide +kernel
theorem zd_S_noteSent_19 : decode prog_5_method_7_code 19 = .ok (.dup, 1) := by decide +kernel
theorem zd_S_noteSent_20 : decode prog_5_method_7_code 20 = .ok (.getfield 62, 3) := by decide +kernel
theorem zd_S_noteSent_23 : decode prog_5_method_7_code 23 = .ok (.iconst 1, 1) := by decide +kernel
theorem zd_S_noteSent_24 : decode prog_5_method_7_code 24 = .ok (.iadd, 1) := by decide +kernel
theorem zd_S_noteSent_25 : decode prog_5_method_7_code 25 = .ok (.putfield 62, 3) := by decide +kernel
theorem zd_S_noteSent_28 : decode prog_5_method_7_code 28 = .ok (.goto 11, 3) := by decide +kernel
theorem zd_S_sendInto_0 : decode prog_5_method_3_code 0 = .ok (.aload_n 0, 1) := by decide +kernel
theorem zd_S_sendInto_1 : decode prog_5_method_3_code 1 = .ok (.invokevirtual 69, 3) := by decide +kernel
theorem zd_S_sendInto_4 : decode prog_5_method_3_code 4 = .ok (.istore_n 2, 1) := by decide +kernel
theorem zd_S_sendInto_5 : decode prog_5_method_3_code 5 = .ok (.iload_n 2, 1) := by decide +kernel
theorem zd_S_sendInto_6 : decode prog_5_method_3_code 6 = .ok (.iconst (-1), 1) := by decide +kernel
theorem zd_S_sendInto_7 : decode prog_5_method_3_code 7 = .ok (.if_icmp .eq 21, 3) := by decide +kernel
theorem zd_S_sendInto_28 : decode prog_5_method_3_code 28 = .ok (.aload_n 0, 1) := by decide +kernel
theorem zd_S_sendInto_29 : decode prog_5_method_3_code 29 = .ok (.aload_n 0, 1) := by decide +kernel
theorem zd_S_sendInto_30 : decode prog_5_method_3_code 30 = .ok (.getfield 12, 3) := by decide +kernel
theorem zd_S_sendInto_33 : decode prog_5_method_3_code 33 = .ok (.aload_n 0, 1) := by decide +kernel
theorem zd_S_sendInto_34 : decode prog_5_method_3_code 34 = .ok (.getfield 29, 3) := by decide +kernel
theorem zd_S_sendInto_37 : decode prog_5_method_3_code 37 = .ok (.aload_n 0, 1) := by decide +kernel
theorem zd_S_sendInto_38 : decode prog_5_method_3_code 38 = .ok (.getfield 35, 3) := by decide +kernel
theorem zd_S_sendInto_41 : decode prog_5_method_3_code 41 = .ok (.invokevirtual 76, 3) := by decide +kernel
theorem zd_S_sendInto_44 : decode prog_5_method_3_code 44 = .ok (.putfield 29, 3) := by decide +kernel
theorem zd_S_sendInto_47 : decode prog_5_method_3_code 47 = .ok (.aload_n 0, 1) := by decide +kernel
theorem zd_S_sendInto_48 : decode prog_5_method_3_code 48 = .ok (.getfield 29, 3) := by decide +kernel
theorem zd_S_sendInto_51 : decode prog_5_method_3_code 51 = .ok (.istore_n 2, 1) := by decide +kernel
theorem zd_S_sendInto_52 : decode prog_5_method_3_code 52 = .ok (.aload_n 0, 1) := by decide +kernel
theorem zd_S_sendInto_53 : decode prog_5_method_3_code 53 = .ok (.invokevirtual 79, 3) := by decide +kernel
theorem zd_S_sendInto_56 : decode prog_5_method_3_code 56 = .ok (.istore_n 3, 1) := by decide +kernel
theorem zd_S_sendInto_57 : decode prog_5_method_3_code 57 = .ok (.aload_n 0, 1) := by decide +kernel
theorem zd_S_sendInto_58 : decode prog_5_method_3_code 58 = .ok (.iload_n 3, 1) := by decide +kernel
theorem zd_S_sendInto_59 : decode prog_5_method_3_code 59 = .ok (.putfield 29, 3) := by decide +kernel
theorem zd_S_sendInto_62 : decode prog_5_method_3_code 62 = .ok (.iload_n 3, 1) := by decide +kernel
theorem zd_S_sendInto_63 : decode prog_5_method_3_code 63 = .ok (.iload_n 2, 1) := by decide +kernel
theorem zd_S_sendInto_64 : decode prog_5_method_3_code 64 = .ok (.if_icmp .le 31, 3) := by decide +kernel
theorem zd_S_sendInto_95 : decode prog_5_method_3_code 95 = .ok (.iload_n 3, 1) := by decide +kernel
theorem zd_S_sendInto_96 : decode prog_5_method_3_code 96 = .ok (.iload_n 2, 1) := by decide +kernel
theorem zd_S_sendInto_97 : decode prog_5_method_3_code 97 = .ok (.isub, 1) := by decide +kernel
theorem zd_S_sendInto_98 : decode prog_5_method_3_code 98 = .ok (.ireturn, 1) := by decide +kernel
theorem zd_S_sendInto_67 : decode prog_5_method_3_code 67 = .ok (.aload_n 0, 1) := by decide +kernel
theorem zd_S_sendInto_68 : decode prog_5_method_3_code 68 = .ok (.iload_n 2, 1) := by decide +kernel
theorem zd_S_sendInto_69 : decode prog_5_method_3_code 69 = .ok (.iload_n 3, 1) := by decide +kernel
theorem zd_S_sendInto_70 : decode prog_5_method_3_code 70 = .ok (.invokevirtual 82, 3) := by decide +kernel
theorem zd_S_sendInto_73 : decode prog_5_method_3_code 73 = .ok (.aload_n 1, 1) := by decide +kernel
theorem zd_S_sendInto_74 : decode prog_5_method_3_code 74 = .ok (.invokevirtual 86, 3) := by decide +kernel
theorem zd_S_sendInto_77 : decode prog_5_method_3_code 77 = .ok (.istore 4, 2) := by decide +kernel
theorem zd_S_sendInto_79 : decode prog_5_method_3_code 79 = .ok (.aload_n 1, 1) := by decide +kernel
theorem zd_S_sendInto_80 : decode prog_5_method_3_code 80 = .ok (.iload 4, 2) := by decide +kernel
theorem zd_S_sendInto_82 : decode prog_5_method_3_code 82 = .ok (.iconst 0, 1) := by decide +kernel
theorem zd_S_sendInto_83 : decode prog_5_method_3_code 83 = .ok (.iload_n 2, 1) := by decide +kernel
theorem zd_S_sendInto_84 : decode prog_5_method_3_code 84 = .ok (.invokevirtual 91, 3) := by decide +kernel
theorem zd_S_sendInto_87 : decode prog_5_method_3_code 87 = .ok (.aload_n 1, 1) := by decide +kernel
theorem zd_S_sendInto_88 : decode prog_5_method_3_code 88 = .ok (.iload 4, 2) := by decide +kernel
theorem zd_S_sendInto_90 : decode prog_5_method_3_code 90 = .ok (.iconst 1, 1) := by decide +kernel
theorem zd_S_sendInto_91 : decode prog_5_method_3_code 91 = .ok (.iload_n 3, 1) := by decide +kernel
theorem zd_S_sendInto_92 : decode prog_5_method_3_code 92 = .ok (.invokevirtual 91, 3) := by decide +kernel
theorem zd_S_sendInto_10 : decode prog_5_method_3_code 10 = .ok (.aload_n 0, 1) := by decide +kernel
theorem zd_S_sendInto_11 : decode prog_5_method_3_code 11 = .ok (.iload_n 2, 1) := by decide +kernel
theorem zd_S_sendInto_12 : decode prog_5_method_3_code 12 = .ok (.aload_n 0, 1) := by decide +kernel
theorem zd_S_sendInto_13 : decode prog_5_method_3_code 13 = .ok (.getfield 29, 3) := by decide +kernel
theorem zd_S_sendInto_16 : decode prog_5_method_3_code 16 = .ok (.invokevirtual 73, 3) := by decide +kernel
theorem zd_S_sendInto_19 : decode prog_5_method_3_code 19 = .ok (.istore_n 3, 1) := by decide +kernel
theorem zd_S_sendInto_20 : decode prog_5_method_3_code 20 = .ok (.aload_n 0, 1) := by decide +kernel
theorem zd_S_sendInto_21 : decode prog_5_method_3_code 21 = .ok (.iload_n 3, 1) := by decide +kernel
theorem zd_S_sendInto_22 : decode prog_5_method_3_code 22 = .ok (.putfield 56, 3) := by decide +kernel
theorem zd_S_sendInto_25 : decode prog_5_method_3_code 25 = .ok (.goto 37, 3) := by decide +kernel
theorem zd_S_halfOfFlying_0 : decode prog_5_method_10_code 0 = .ok (.bipush 8, 2) := by decide +kernel
theorem zd_S_halfOfFlying_2 : decode prog_5_method_10_code 2 = .ok (.aload_n 0, 1) := by decide +kernel
theorem zd_S_halfOfFlying_3 : decode prog_5_method_10_code 3 = .ok (.invokevirtual 106, 3) := by decide +kernel
theorem zd_S_halfOfFlying_6 : decode prog_5_method_10_code 6 = .ok (.iconst 2, 1) := by decide +kernel
theorem zd_S_halfOfFlying_7 : decode prog_5_method_10_code 7 = .ok (.idiv, 1) := by decide +kernel
theorem zd_S_halfOfFlying_8 : decode prog_5_method_10_code 8 = .ok (.invokestatic 95, 3) := by decide +kernel
theorem zd_S_halfOfFlying_11 : decode prog_5_method_10_code 11 = .ok (.ireturn, 1) := by decide +kernel
theorem zd_S_startOver_0 : decode prog_5_method_9_code 0 = .ok (.aload_n 0, 1) := by decide +kernel
theorem zd_S_startOver_1 : decode prog_5_method_9_code 1 = .ok (.aload_n 0, 1) := by decide +kernel
theorem zd_S_startOver_2 : decode prog_5_method_9_code 2 = .ok (.invokevirtual 123, 3) := by decide +kernel
theorem zd_S_startOver_5 : decode prog_5_method_9_code 5 = .ok (.putfield 44, 3) := by decide +kernel
theorem zd_S_startOver_8 : decode prog_5_method_9_code 8 = .ok (.aload_n 0, 1) := by decide +kernel
theorem zd_S_startOver_9 : decode prog_5_method_9_code 9 = .ok (.iconst 4, 1) := by decide +kernel
theorem zd_S_startOver_10 : decode prog_5_method_9_code 10 = .ok (.putfield 41, 3) := by decide +kernel
theorem zd_S_startOver_13 : decode prog_5_method_9_code 13 = .ok (.aload_n 0, 1) := by decide +kernel
theorem zd_S_startOver_14 : decode prog_5_method_9_code 14 = .ok (.getfield 21, 3) := by decide +kernel
theorem zd_S_startOver_17 : decode prog_5_method_9_code 17 = .ok (.invokevirtual 126, 3) := by decide +kernel
theorem zd_S_startOver_20 : decode prog_5_method_9_code 20 = .ok (.aload_n 0, 1) := by decide +kernel
theorem zd_S_startOver_21 : decode prog_5_method_9_code 21 = .ok (.getfield 12, 3) := by decide +kernel
theorem zd_S_startOver_24 : decode prog_5_method_9_code 24 = .ok (.aload_n 0, 1) := by decide +kernel
theorem zd_S_startOver_25 : decode prog_5_method_9_code 25 = .ok (.getfield 25, 3) := by decide +kernel
theorem zd_S_startOver_28 : decode prog_5_method_9_code 28 = .ok (.aload_n 0, 1) := by decide +kernel
theorem zd_S_startOver_29 : decode prog_5_method_9_code 29 = .ok (.getfield 32, 3) := by decide +kernel
theorem zd_S_startOver_32 : decode prog_5_method_9_code 32 = .ok (.invokevirtual 129, 3) := by decide +kernel
theorem zd_S_startOver_35 : decode prog_5_method_9_code 35 = .ok (.aload_n 0, 1) := by decide +kernel
theorem zd_S_startOver_36 : decode prog_5_method_9_code 36 = .ok (.aload_n 0, 1) := by decide +kernel
theorem zd_S_startOver_37 : decode prog_5_method_9_code 37 = .ok (.getfield 25, 3) := by decide +kernel
theorem zd_S_startOver_40 : decode prog_5_method_9_code 40 = .ok (.putfield 29, 3) := by decide +kernel
theorem zd_S_startOver_43 : decode prog_5_method_9_code 43 = .ok (.aload_n 0, 1) := by decide +kernel
theorem zd_S_startOver_44 : decode prog_5_method_9_code 44 = .ok (.iconst (-1), 1) := by decide +kernel
theorem zd_S_startOver_45 : decode prog_5_method_9_code 45 = .ok (.putfield 53, 3) := by decide +kernel
theorem zd_S_startOver_48 : decode prog_5_method_9_code 48 = .ok (.aload_n 0, 1) := by decide +kernel
theorem zd_S_startOver_49 : decode prog_5_method_9_code 49 = .ok (.iconst 0, 1) := by decide +kernel
theorem zd_S_startOver_50 : decode prog_5_method_9_code 50 = .ok (.putfield 50, 3) := by decide +kernel
theorem zd_S_startOver_53 : decode prog_5_method_9_code 53 = .ok (.return_, 1) := by decide +kernel
theorem zd_S_passTicks_4 : decode prog_5_method_8_code 4 = .ok (.iload_n 3, 1) := by decide +kernel
theorem zd_S_passTicks_5 : decode prog_5_method_8_code 5 = .ok (.iload_n 1, 1) := by decide +kernel
theorem zd_S_passTicks_6 : decode prog_5_method_8_code 6 = .ok (.if_icmp .ge 26, 3) := by decide +kernel
theorem zd_S_passTicks_9 : decode prog_5_method_8_code 9 = .ok (.aload_n 0, 1) := by decide +kernel
theorem zd_S_passTicks_10 : decode prog_5_method_8_code 10 = .ok (.getfield 21, 3) := by decide +kernel
theorem zd_S_passTicks_13 : decode prog_5_method_8_code 13 = .ok (.invokevirtual 116, 3) := by decide +kernel
theorem zd_S_passTicks_16 : decode prog_5_method_8_code 16 = .ok (.ifCond .eq 10, 3) := by decide +kernel
theorem zd_S_passTicks_26 : decode prog_5_method_8_code 26 = .ok (.iinc 3 1, 3) := by decide +kernel
theorem zd_S_passTicks_29 : decode prog_5_method_8_code 29 = .ok (.goto (-25), 3) := by decide +kernel
theorem zd_S_passTicks_19 : decode prog_5_method_8_code 19 = .ok (.aload_n 0, 1) := by decide +kernel
theorem zd_S_passTicks_20 : decode prog_5_method_8_code 20 = .ok (.invokevirtual 120, 3) := by decide +kernel
theorem zd_S_passTicks_23 : decode prog_5_method_8_code 23 = .ok (.iinc 2 1, 3) := by decide +kernel
theorem zd_S_passTicks_0 : decode prog_5_method_8_code 0 = .ok (.iconst 0, 1) := by decide +kernel
theorem zd_S_passTicks_1 : decode prog_5_method_8_code 1 = .ok (.istore_n 2, 1) := by decide +kernel
theorem zd_S_passTicks_2 : decode prog_5_method_8_code 2 = .ok (.iconst 0, 1) := by decide +kernel
theorem zd_S_passTicks_3 : decode prog_5_method_8_code 3 = .ok (.istore_n 3, 1) := by decide +kernel
theorem zd_S_passTicks_32 : decode prog_5_method_8_code 32 = .ok (.iload_n 2, 1) := by decide +kernel
theorem zd_S_passTicks_33 : decode prog_5_method_8_code 33 = .ok (.ireturn, 1) := by decide +kernel
theorem zd_S_growCongestion_0 : decode prog_5_method_13_code 0 = .ok (.iconst 1, 1) := by decide +kernel
theorem zd_S_growCongestion_1 : decode prog_5_method_13_code 1 = .ok (.istore_n 1, 1) := by decide +kernel
theorem zd_S_growCongestion_2 : decode prog_5_method_13_code 2 = .ok (.aload_n 0, 1) := by decide +kernel
theorem zd_S_growCongestion_3 : decode prog_5_method_13_code 3 = .ok (.getfield 41, 3) := by decide +kernel
theorem zd_S_growCongestion_6 : decode prog_5_method_13_code 6 = .ok (.aload_n 0, 1) := by decide +kernel
theorem zd_S_growCongestion_7 : decode prog_5_method_13_code 7 = .ok (.getfield 44, 3) := by decide +kernel
theorem zd_S_growCongestion_10 : decode prog_5_method_13_code 10 = .ok (.if_icmp .ge 8, 3) := by decide +kernel
theorem zd_S_growCongestion_18 : decode prog_5_method_13_code 18 = .ok (.aload_n 0, 1) := by decide +kernel
theorem zd_S_growCongestion_19 : decode prog_5_method_13_code 19 = .ok (.getfield 41, 3) := by decide +kernel
theorem zd_S_growCongestion_22 : decode prog_5_method_13_code 22 = .ok (.ifCond .le 15, 3) := by decide +kernel
theorem zd_S_growCongestion_37 : decode prog_5_method_13_code 37 = .ok (.aload_n 0, 1) := by decide +kernel
theorem zd_S_growCongestion_38 : decode prog_5_method_13_code 38 = .ok (.sipush 256, 3) := by decide +kernel
theorem zd_S_growCongestion_41 : decode prog_5_method_13_code 41 = .ok (.aload_n 0, 1) := by decide +kernel
theorem zd_S_growCongestion_42 : decode prog_5_method_13_code 42 = .ok (.getfield 41, 3) := by decide +kernel
theorem zd_S_growCongestion_45 : decode prog_5_method_13_code 45 = .ok (.iload_n 1, 1) := by decide +kernel
theorem zd_S_growCongestion_46 : decode prog_5_method_13_code 46 = .ok (.iadd, 1) := by decide +kernel
theorem zd_S_growCongestion_47 : decode prog_5_method_13_code 47 = .ok (.invokestatic 103, 3) := by decide +kernel
theorem zd_S_growCongestion_50 : decode prog_5_method_13_code 50 = .ok (.putfield 41, 3) := by decide +kernel
theorem zd_S_growCongestion_53 : decode prog_5_method_13_code 53 = .ok (.return_, 1) := by decide +kernel
theorem zd_S_growCongestion_25 : decode prog_5_method_13_code 25 = .ok (.iconst 1, 1) := by decide +kernel
theorem zd_S_growCongestion_26 : decode prog_5_method_13_code 26 = .ok (.bipush 16, 2) := by decide +kernel
theorem zd_S_growCongestion_28 : decode prog_5_method_13_code 28 = .ok (.aload_n 0, 1) := by decide +kernel
theorem zd_S_growCongestion_29 : decode prog_5_method_13_code 29 = .ok (.getfield 41, 3) := by decide +kernel
theorem zd_S_growCongestion_32 : decode prog_5_method_13_code 32 = .ok (.idiv, 1) := by decide +kernel
theorem zd_S_growCongestion_33 : decode prog_5_method_13_code 33 = .ok (.invokestatic 95, 3) := by decide +kernel
theorem zd_S_growCongestion_36 : decode prog_5_method_13_code 36 = .ok (.istore_n 1, 1) := by decide +kernel
theorem zd_S_growCongestion_13 : decode prog_5_method_13_code 13 = .ok (.iconst 4, 1) := by decide +kernel
theorem zd_S_growCongestion_14 : decode prog_5_method_13_code 14 = .ok (.istore_n 1, 1) := by decide +kernel
theorem zd_S_growCongestion_15 : decode prog_5_method_13_code 15 = .ok (.goto 22, 3) := by decide +kernel
theorem zd_S_advanceTo_0 : decode prog_5_method_12_code 0 = .ok (.aload_n 0, 1) := by decide +kernel
theorem zd_S_advanceTo_1 : decode prog_5_method_12_code 1 = .ok (.getfield 21, 3) := by decide +kernel
theorem zd_S_advanceTo_4 : decode prog_5_method_12_code 4 = .ok (.iload_n 1, 1) := by decide +kernel
theorem zd_S_advanceTo_5 : decode prog_5_method_12_code 5 = .ok (.invokevirtual 145, 3) := by decide +kernel
theorem zd_S_advanceTo_8 : decode prog_5_method_12_code 8 = .ok (.aload_n 0, 1) := by decide +kernel
theorem zd_S_advanceTo_9 : decode prog_5_method_12_code 9 = .ok (.getfield 12, 3) := by decide +kernel
theorem zd_S_advanceTo_12 : decode prog_5_method_12_code 12 = .ok (.aload_n 0, 1) := by decide +kernel
theorem zd_S_advanceTo_13 : decode prog_5_method_12_code 13 = .ok (.getfield 25, 3) := by decide +kernel
theorem zd_S_advanceTo_16 : decode prog_5_method_12_code 16 = .ok (.iload_n 1, 1) := by decide +kernel
theorem zd_S_advanceTo_17 : decode prog_5_method_12_code 17 = .ok (.invokevirtual 129, 3) := by decide +kernel
theorem zd_S_advanceTo_20 : decode prog_5_method_12_code 20 = .ok (.aload_n 0, 1) := by decide +kernel
theorem zd_S_advanceTo_21 : decode prog_5_method_12_code 21 = .ok (.iload_n 1, 1) := by decide +kernel
theorem zd_S_advanceTo_22 : decode prog_5_method_12_code 22 = .ok (.putfield 25, 3) := by decide +kernel
theorem zd_S_advanceTo_25 : decode prog_5_method_12_code 25 = .ok (.aload_n 0, 1) := by decide +kernel
theorem zd_S_advanceTo_26 : decode prog_5_method_12_code 26 = .ok (.aload_n 0, 1) := by decide +kernel
theorem zd_S_advanceTo_27 : decode prog_5_method_12_code 27 = .ok (.getfield 29, 3) := by decide +kernel
theorem zd_S_advanceTo_30 : decode prog_5_method_12_code 30 = .ok (.aload_n 0, 1) := by decide +kernel
theorem zd_S_advanceTo_31 : decode prog_5_method_12_code 31 = .ok (.getfield 25, 3) := by decide +kernel
theorem zd_S_advanceTo_34 : decode prog_5_method_12_code 34 = .ok (.invokestatic 95, 3) := by decide +kernel
theorem zd_S_advanceTo_37 : decode prog_5_method_12_code 37 = .ok (.putfield 29, 3) := by decide +kernel
theorem zd_S_advanceTo_40 : decode prog_5_method_12_code 40 = .ok (.aload_n 0, 1) := by decide +kernel
theorem zd_S_advanceTo_41 : decode prog_5_method_12_code 41 = .ok (.iconst 0, 1) := by decide +kernel
theorem zd_S_advanceTo_42 : decode prog_5_method_12_code 42 = .ok (.putfield 50, 3) := by decide +kernel
theorem zd_S_advanceTo_45 : decode prog_5_method_12_code 45 = .ok (.aload_n 0, 1) := by decide +kernel
theorem zd_S_advanceTo_46 : decode prog_5_method_12_code 46 = .ok (.getfield 53, 3) := by decide +kernel
theorem zd_S_advanceTo_49 : decode prog_5_method_12_code 49 = .ok (.iconst (-1), 1) := by decide +kernel
theorem zd_S_advanceTo_50 : decode prog_5_method_12_code 50 = .ok (.if_icmp .ne 10, 3) := by decide +kernel
theorem zd_S_advanceTo_60 : decode prog_5_method_12_code 60 = .ok (.aload_n 0, 1) := by decide +kernel
theorem zd_S_advanceTo_61 : decode prog_5_method_12_code 61 = .ok (.getfield 25, 3) := by decide +kernel
theorem zd_S_advanceTo_64 : decode prog_5_method_12_code 64 = .ok (.aload_n 0, 1) := by decide +kernel
theorem zd_S_advanceTo_65 : decode prog_5_method_12_code 65 = .ok (.getfield 53, 3) := by decide +kernel
theorem zd_S_advanceTo_68 : decode prog_5_method_12_code 68 = .ok (.if_icmp .lt 16, 3) := by decide +kernel
theorem zd_S_advanceTo_84 : decode prog_5_method_12_code 84 = .ok (.aload_n 0, 1) := by decide +kernel
theorem zd_S_advanceTo_85 : decode prog_5_method_12_code 85 = .ok (.getfield 25, 3) := by decide +kernel
theorem zd_S_advanceTo_88 : decode prog_5_method_12_code 88 = .ok (.aload_n 0, 1) := by decide +kernel
theorem zd_S_advanceTo_89 : decode prog_5_method_12_code 89 = .ok (.getfield 29, 3) := by decide +kernel
theorem zd_S_advanceTo_92 : decode prog_5_method_12_code 92 = .ok (.if_icmp .ne 13, 3) := by decide +kernel
theorem zd_S_advanceTo_105 : decode prog_5_method_12_code 105 = .ok (.aload_n 0, 1) := by decide +kernel
theorem zd_S_advanceTo_106 : decode prog_5_method_12_code 106 = .ok (.getfield 21, 3) := by decide +kernel
theorem zd_S_advanceTo_109 : decode prog_5_method_12_code 109 = .ok (.invokevirtual 154, 3) := by decide +kernel
theorem zd_S_advanceTo_112 : decode prog_5_method_12_code 112 = .ok (.return_, 1) := by decide +kernel
theorem zd_S_advanceTo_95 : decode prog_5_method_12_code 95 = .ok (.aload_n 0, 1) := by decide +kernel
theorem zd_S_advanceTo_96 : decode prog_5_method_12_code 96 = .ok (.getfield 21, 3) := by decide +kernel
theorem zd_S_advanceTo_99 : decode prog_5_method_12_code 99 = .ok (.invokevirtual 151, 3) := by decide +kernel
theorem zd_S_advanceTo_102 : decode prog_5_method_12_code 102 = .ok (.goto 10, 3) := by decide +kernel
theorem zd_S_advanceTo_71 : decode prog_5_method_12_code 71 = .ok (.aload_n 0, 1) := by decide +kernel
theorem zd_S_advanceTo_72 : decode prog_5_method_12_code 72 = .ok (.iconst (-1), 1) := by decide +kernel
theorem zd_S_advanceTo_73 : decode prog_5_method_12_code 73 = .ok (.putfield 53, 3) := by decide +kernel
theorem zd_S_advanceTo_76 : decode prog_5_method_12_code 76 = .ok (.aload_n 0, 1) := by decide +kernel
theorem zd_S_advanceTo_77 : decode prog_5_method_12_code 77 = .ok (.aload_n 0, 1) := by decide +kernel
theorem zd_S_advanceTo_78 : decode prog_5_method_12_code 78 = .ok (.getfield 44, 3) := by decide +kernel
theorem zd_S_advanceTo_81 : decode prog_5_method_12_code 81 = .ok (.putfield 41, 3) := by decide +kernel
theorem zd_S_advanceTo_53 : decode prog_5_method_12_code 53 = .ok (.aload_n 0, 1) := by decide +kernel
theorem zd_S_advanceTo_54 : decode prog_5_method_12_code 54 = .ok (.invokevirtual 148, 3) := by decide +kernel
theorem zd_S_advanceTo_57 : decode prog_5_method_12_code 57 = .ok (.goto 27, 3) := by decide +kernel
theorem zd_S_markBlocks_14 : decode prog_5_method_14_code 14 = .ok (.iload 4, 2) := by decide +kernel
theorem zd_S_markBlocks_16 : decode prog_5_method_14_code 16 = .ok (.iload_n 3, 1) := by decide +kernel
theorem zd_S_markBlocks_17 : decode prog_5_method_14_code 17 = .ok (.if_icmp .ge 57, 3) := by decide +kernel
theorem zd_S_markBlocks_20 : decode prog_5_method_14_code 20 = .ok (.aload_n 1, 1) := by decide +kernel
theorem zd_S_markBlocks_21 : decode prog_5_method_14_code 21 = .ok (.iload_n 2, 1) := by decide +kernel
theorem zd_S_markBlocks_22 : decode prog_5_method_14_code 22 = .ok (.iconst 3, 1) := by decide +kernel
theorem zd_S_markBlocks_23 : decode prog_5_method_14_code 23 = .ok (.iconst 2, 1) := by decide +kernel
theorem zd_S_markBlocks_24 : decode prog_5_method_14_code 24 = .ok (.iload 4, 2) := by decide +kernel
theorem zd_S_markBlocks_26 : decode prog_5_method_14_code 26 = .ok (.imul, 1) := by decide +kernel
theorem zd_S_markBlocks_27 : decode prog_5_method_14_code 27 = .ok (.iadd, 1) := by decide +kernel
theorem zd_S_markBlocks_28 : decode prog_5_method_14_code 28 = .ok (.invokevirtual 132, 3) := by decide +kernel
theorem zd_S_markBlocks_31 : decode prog_5_method_14_code 31 = .ok (.istore 5, 2) := by decide +kernel
theorem zd_S_markBlocks_33 : decode prog_5_method_14_code 33 = .ok (.aload_n 1, 1) := by decide +kernel
theorem zd_S_markBlocks_34 : decode prog_5_method_14_code 34 = .ok (.iload_n 2, 1) := by decide +kernel
theorem zd_S_markBlocks_35 : decode prog_5_method_14_code 35 = .ok (.iconst 3, 1) := by decide +kernel
theorem zd_S_markBlocks_36 : decode prog_5_method_14_code 36 = .ok (.iconst 2, 1) := by decide +kernel
theorem zd_S_markBlocks_37 : decode prog_5_method_14_code 37 = .ok (.iload 4, 2) := by decide +kernel
theorem zd_S_markBlocks_39 : decode prog_5_method_14_code 39 = .ok (.imul, 1) := by decide +kernel
theorem zd_S_markBlocks_40 : decode prog_5_method_14_code 40 = .ok (.iadd, 1) := by decide +kernel
theorem zd_S_markBlocks_41 : decode prog_5_method_14_code 41 = .ok (.iconst 1, 1) := by decide +kernel
theorem zd_S_markBlocks_42 : decode prog_5_method_14_code 42 = .ok (.iadd, 1) := by decide +kernel
theorem zd_S_markBlocks_43 : decode prog_5_method_14_code 43 = .ok (.invokevirtual 132, 3) := by decide +kernel
theorem zd_S_markBlocks_46 : decode prog_5_method_14_code 46 = .ok (.istore 6, 2) := by decide +kernel
theorem zd_S_markBlocks_48 : decode prog_5_method_14_code 48 = .ok (.aload_n 0, 1) := by decide +kernel
theorem zd_S_markBlocks_49 : decode prog_5_method_14_code 49 = .ok (.getfield 12, 3) := by decide +kernel
theorem zd_S_markBlocks_52 : decode prog_5_method_14_code 52 = .ok (.aload_n 0, 1) := by decide +kernel
theorem zd_S_markBlocks_53 : decode prog_5_method_14_code 53 = .ok (.getfield 25, 3) := by decide +kernel
theorem zd_S_markBlocks_56 : decode prog_5_method_14_code 56 = .ok (.iload 5, 2) := by decide +kernel
theorem zd_S_markBlocks_58 : decode prog_5_method_14_code 58 = .ok (.invokestatic 95, 3) := by decide +kernel
theorem zd_S_markBlocks_61 : decode prog_5_method_14_code 61 = .ok (.iload 6, 2) := by decide +kernel
theorem zd_S_markBlocks_63 : decode prog_5_method_14_code 63 = .ok (.iconst 1, 1) := by decide +kernel
theorem zd_S_markBlocks_64 : decode prog_5_method_14_code 64 = .ok (.invokevirtual 157, 3) := by decide +kernel
theorem zd_S_markBlocks_67 : decode prog_5_method_14_code 67 = .ok (.pop, 1) := by decide +kernel
theorem zd_S_markBlocks_68 : decode prog_5_method_14_code 68 = .ok (.iinc 4 1, 3) := by decide +kernel
theorem zd_S_markBlocks_71 : decode prog_5_method_14_code 71 = .ok (.goto (-57), 3) := by decide +kernel
theorem zd_S_markBlocks_0 : decode prog_5_method_14_code 0 = .ok (.iconst 3, 1) := by decide +kernel
theorem zd_S_markBlocks_1 : decode prog_5_method_14_code 1 = .ok (.aload_n 1, 1) := by decide +kernel
theorem zd_S_markBlocks_2 : decode prog_5_method_14_code 2 = .ok (.iload_n 2, 1) := by decide +kernel
theorem zd_S_markBlocks_3 : decode prog_5_method_14_code 3 = .ok (.iconst 2, 1) := by decide +kernel
theorem zd_S_markBlocks_4 : decode prog_5_method_14_code 4 = .ok (.invokevirtual 132, 3) := by decide +kernel
theorem zd_S_markBlocks_7 : decode prog_5_method_14_code 7 = .ok (.invokestatic 103, 3) := by decide +kernel
theorem zd_S_markBlocks_10 : decode prog_5_method_14_code 10 = .ok (.istore_n 3, 1) := by decide +kernel
theorem zd_S_markBlocks_11 : decode prog_5_method_14_code 11 = .ok (.iconst 0, 1) := by decide +kernel
theorem zd_S_markBlocks_12 : decode prog_5_method_14_code 12 = .ok (.istore 4, 2) := by decide +kernel
theorem zd_S_markBlocks_74 : decode prog_5_method_14_code 74 = .ok (.return_, 1) := by decide +kernel
theorem zd_S_countDuplicate_0 : decode prog_5_method_15_code 0 = .ok (.aload_n 0, 1) := by decide +kernel
theorem zd_S_countDuplicate_1 : decode prog_5_method_15_code 1 = .ok (.dup, 1) := by decide +kernel
theorem zd_S_countDuplicate_2 : decode prog_5_method_15_code 2 = .ok (.getfield 50, 3) := by decide +kernel
theorem zd_S_countDuplicate_5 : decode prog_5_method_15_code 5 = .ok (.iconst 1, 1) := by decide +kernel
theorem zd_S_countDuplicate_6 : decode prog_5_method_15_code 6 = .ok (.iadd, 1) := by decide +kernel
theorem zd_S_countDuplicate_7 : decode prog_5_method_15_code 7 = .ok (.putfield 50, 3) := by decide +kernel
theorem zd_S_countDuplicate_10 : decode prog_5_method_15_code 10 = .ok (.aload_n 0, 1) := by decide +kernel
theorem zd_S_countDuplicate_11 : decode prog_5_method_15_code 11 = .ok (.getfield 50, 3) := by decide +kernel
theorem zd_S_countDuplicate_14 : decode prog_5_method_15_code 14 = .ok (.iconst 3, 1) := by decide +kernel
theorem zd_S_countDuplicate_15 : decode prog_5_method_15_code 15 = .ok (.if_icmp .ne 50, 3) := by decide +kernel
theorem zd_S_countDuplicate_65 : decode prog_5_method_15_code 65 = .ok (.return_, 1) := by decide +kernel
theorem zd_S_countDuplicate_18 : decode prog_5_method_15_code 18 = .ok (.aload_n 0, 1) := by decide +kernel
theorem zd_S_countDuplicate_19 : decode prog_5_method_15_code 19 = .ok (.getfield 53, 3) := by decide +kernel
theorem zd_S_countDuplicate_22 : decode prog_5_method_15_code 22 = .ok (.iconst (-1), 1) := by decide +kernel
theorem zd_S_countDuplicate_23 : decode prog_5_method_15_code 23 = .ok (.if_icmp .ne 42, 3) := by decide +kernel
theorem zd_S_countDuplicate_26 : decode prog_5_method_15_code 26 = .ok (.aload_n 0, 1) := by decide +kernel
theorem zd_S_countDuplicate_27 : decode prog_5_method_15_code 27 = .ok (.aload_n 0, 1) := by decide +kernel
theorem zd_S_countDuplicate_28 : decode prog_5_method_15_code 28 = .ok (.invokevirtual 123, 3) := by decide +kernel
theorem zd_S_countDuplicate_31 : decode prog_5_method_15_code 31 = .ok (.putfield 44, 3) := by decide +kernel
theorem zd_S_countDuplicate_34 : decode prog_5_method_15_code 34 = .ok (.aload_n 0, 1) := by decide +kernel
theorem zd_S_countDuplicate_35 : decode prog_5_method_15_code 35 = .ok (.aload_n 0, 1) := by decide +kernel
theorem zd_S_countDuplicate_36 : decode prog_5_method_15_code 36 = .ok (.getfield 44, 3) := by decide +kernel
theorem zd_S_countDuplicate_39 : decode prog_5_method_15_code 39 = .ok (.putfield 41, 3) := by decide +kernel
theorem zd_S_countDuplicate_42 : decode prog_5_method_15_code 42 = .ok (.aload_n 0, 1) := by decide +kernel
theorem zd_S_countDuplicate_43 : decode prog_5_method_15_code 43 = .ok (.aload_n 0, 1) := by decide +kernel
theorem zd_S_countDuplicate_44 : decode prog_5_method_15_code 44 = .ok (.getfield 29, 3) := by decide +kernel
theorem zd_S_countDuplicate_47 : decode prog_5_method_15_code 47 = .ok (.putfield 53, 3) := by decide +kernel
theorem zd_S_countDuplicate_50 : decode prog_5_method_15_code 50 = .ok (.aload_n 0, 1) := by decide +kernel
theorem zd_S_countDuplicate_51 : decode prog_5_method_15_code 51 = .ok (.aload_n 0, 1) := by decide +kernel
theorem zd_S_countDuplicate_52 : decode prog_5_method_15_code 52 = .ok (.getfield 25, 3) := by decide +kernel
theorem zd_S_countDuplicate_55 : decode prog_5_method_15_code 55 = .ok (.putfield 56, 3) := by decide +kernel
theorem zd_S_countDuplicate_58 : decode prog_5_method_15_code 58 = .ok (.aload_n 0, 1) := by decide +kernel
theorem zd_S_countDuplicate_59 : decode prog_5_method_15_code 59 = .ok (.getfield 21, 3) := by decide +kernel
theorem zd_S_countDuplicate_62 : decode prog_5_method_15_code 62 = .ok (.invokevirtual 161, 3) := by decide +kernel
theorem zd_S_takeAck_0 : decode prog_5_method_11_code 0 = .ok (.aload_n 1, 1) := by decide +kernel
theorem zd_S_takeAck_1 : decode prog_5_method_11_code 1 = .ok (.iload_n 2, 1) := by decide +kernel
theorem zd_S_takeAck_2 : decode prog_5_method_11_code 2 = .ok (.iconst 0, 1) := by decide +kernel
theorem zd_S_takeAck_3 : decode prog_5_method_11_code 3 = .ok (.invokevirtual 132, 3) := by decide +kernel
theorem zd_S_takeAck_6 : decode prog_5_method_11_code 6 = .ok (.istore_n 3, 1) := by decide +kernel
theorem zd_S_takeAck_7 : decode prog_5_method_11_code 7 = .ok (.iload_n 3, 1) := by decide +kernel
theorem zd_S_takeAck_8 : decode prog_5_method_11_code 8 = .ok (.aload_n 0, 1) := by decide +kernel
theorem zd_S_takeAck_9 : decode prog_5_method_11_code 9 = .ok (.getfield 25, 3) := by decide +kernel
theorem zd_S_takeAck_12 : decode prog_5_method_11_code 12 = .ok (.if_icmp .ge 5, 3) := by decide +kernel
theorem zd_S_takeAck_17 : decode prog_5_method_11_code 17 = .ok (.iload_n 3, 1) := by decide +kernel
theorem zd_S_takeAck_18 : decode prog_5_method_11_code 18 = .ok (.aload_n 1, 1) := by decide +kernel
theorem zd_S_takeAck_19 : decode prog_5_method_11_code 19 = .ok (.iload_n 2, 1) := by decide +kernel
theorem zd_S_takeAck_20 : decode prog_5_method_11_code 20 = .ok (.iconst 1, 1) := by decide +kernel
theorem zd_S_takeAck_21 : decode prog_5_method_11_code 21 = .ok (.invokevirtual 132, 3) := by decide +kernel
theorem zd_S_takeAck_24 : decode prog_5_method_11_code 24 = .ok (.iadd, 1) := by decide +kernel
theorem zd_S_takeAck_25 : decode prog_5_method_11_code 25 = .ok (.istore 4, 2) := by decide +kernel
theorem zd_S_takeAck_27 : decode prog_5_method_11_code 27 = .ok (.iload 4, 2) := by decide +kernel
theorem zd_S_takeAck_29 : decode prog_5_method_11_code 29 = .ok (.aload_n 0, 1) := by decide +kernel
theorem zd_S_takeAck_30 : decode prog_5_method_11_code 30 = .ok (.getfield 38, 3) := by decide +kernel
theorem zd_S_takeAck_33 : decode prog_5_method_11_code 33 = .ok (.if_icmp .le 7, 3) := by decide +kernel
theorem zd_S_takeAck_40 : decode prog_5_method_11_code 40 = .ok (.iconst 0, 1) := by decide +kernel
theorem zd_S_takeAck_41 : decode prog_5_method_11_code 41 = .ok (.istore 5, 2) := by decide +kernel
theorem zd_S_takeAck_43 : decode prog_5_method_11_code 43 = .ok (.aload_n 0, 1) := by decide +kernel
theorem zd_S_takeAck_44 : decode prog_5_method_11_code 44 = .ok (.aload_n 0, 1) := by decide +kernel
theorem zd_S_takeAck_45 : decode prog_5_method_11_code 45 = .ok (.getfield 38, 3) := by decide +kernel
theorem zd_S_takeAck_48 : decode prog_5_method_11_code 48 = .ok (.iload 4, 2) := by decide +kernel
theorem zd_S_takeAck_50 : decode prog_5_method_11_code 50 = .ok (.invokestatic 95, 3) := by decide +kernel
theorem zd_S_takeAck_53 : decode prog_5_method_11_code 53 = .ok (.putfield 38, 3) := by decide +kernel
theorem zd_S_takeAck_56 : decode prog_5_method_11_code 56 = .ok (.iload_n 3, 1) := by decide +kernel
theorem zd_S_takeAck_57 : decode prog_5_method_11_code 57 = .ok (.aload_n 0, 1) := by decide +kernel
theorem zd_S_takeAck_58 : decode prog_5_method_11_code 58 = .ok (.getfield 25, 3) := by decide +kernel
theorem zd_S_takeAck_61 : decode prog_5_method_11_code 61 = .ok (.isub, 1) := by decide +kernel
theorem zd_S_takeAck_62 : decode prog_5_method_11_code 62 = .ok (.istore 6, 2) := by decide +kernel
theorem zd_S_takeAck_64 : decode prog_5_method_11_code 64 = .ok (.iload 6, 2) := by decide +kernel
theorem zd_S_takeAck_66 : decode prog_5_method_11_code 66 = .ok (.ifCond .le 8, 3) := by decide +kernel
theorem zd_S_takeAck_74 : decode prog_5_method_11_code 74 = .ok (.aload_n 0, 1) := by decide +kernel
theorem zd_S_takeAck_75 : decode prog_5_method_11_code 75 = .ok (.aload_n 1, 1) := by decide +kernel
theorem zd_S_takeAck_76 : decode prog_5_method_11_code 76 = .ok (.iload_n 2, 1) := by decide +kernel
theorem zd_S_takeAck_77 : decode prog_5_method_11_code 77 = .ok (.invokevirtual 138, 3) := by decide +kernel
theorem zd_S_takeAck_80 : decode prog_5_method_11_code 80 = .ok (.iload 6, 2) := by decide +kernel
theorem zd_S_takeAck_82 : decode prog_5_method_11_code 82 = .ok (.ifCond .ne 23, 3) := by decide +kernel
theorem zd_S_takeAck_105 : decode prog_5_method_11_code 105 = .ok (.iload 6, 2) := by decide +kernel
theorem zd_S_takeAck_107 : decode prog_5_method_11_code 107 = .ok (.ireturn, 1) := by decide +kernel
theorem zd_S_takeAck_85 : decode prog_5_method_11_code 85 = .ok (.aload_n 0, 1) := by decide +kernel
theorem zd_S_takeAck_86 : decode prog_5_method_11_code 86 = .ok (.getfield 25, 3) := by decide +kernel
theorem zd_S_takeAck_89 : decode prog_5_method_11_code 89 = .ok (.aload_n 0, 1) := by decide +kernel
theorem zd_S_takeAck_90 : decode prog_5_method_11_code 90 = .ok (.getfield 29, 3) := by decide +kernel
theorem zd_S_takeAck_93 : decode prog_5_method_11_code 93 = .ok (.if_icmp .ge 12, 3) := by decide +kernel
theorem zd_S_takeAck_96 : decode prog_5_method_11_code 96 = .ok (.iload 5, 2) := by decide +kernel
theorem zd_S_takeAck_98 : decode prog_5_method_11_code 98 = .ok (.ifCond .ne 7, 3) := by decide +kernel
theorem zd_S_takeAck_101 : decode prog_5_method_11_code 101 = .ok (.aload_n 0, 1) := by decide +kernel
theorem zd_S_takeAck_102 : decode prog_5_method_11_code 102 = .ok (.invokevirtual 142, 3) := by decide +kernel
theorem zd_S_takeAck_69 : decode prog_5_method_11_code 69 = .ok (.aload_n 0, 1) := by decide +kernel
theorem zd_S_takeAck_70 : decode prog_5_method_11_code 70 = .ok (.iload_n 3, 1) := by decide +kernel
theorem zd_S_takeAck_71 : decode prog_5_method_11_code 71 = .ok (.invokevirtual 135, 3) := by decide +kernel
theorem zd_S_takeAck_36 : decode prog_5_method_11_code 36 = .ok (.iconst 1, 1) := by decide +kernel
theorem zd_S_takeAck_37 : decode prog_5_method_11_code 37 = .ok (.goto 4, 3) := by decide +kernel
theorem zd_S_takeAck_15 : decode prog_5_method_11_code 15 = .ok (.iconst 0, 1) := by decide +kernel
theorem zd_S_takeAck_16 : decode prog_5_method_11_code 16 = .ok (.ireturn, 1) := by decide +kernel
theorem zd_X_write_55 : decode prog_1_method_2_code 55 = .ok (.iload_n 3, 1) := by decide +kernel
theorem zd_X_write_56 : decode prog_1_method_2_code 56 = .ok (.iload_n 2, 1) := by decide +kernel
theorem zd_X_write_57 : decode prog_1_method_2_code 57 = .ok (.if_icmp .ge 49, 3) := by decide +kernel
theorem zd_X_write_60 : decode prog_1_method_2_code 60 = .ok (.aload_n 0, 1) := by decide +kernel
theorem zd_X_write_61 : decode prog_1_method_2_code 61 = .ok (.getfield 16, 3) := by decide +kernel
theorem zd_X_write_64 : decode prog_1_method_2_code 64 = .ok (.getfield 42, 3) := by decide +kernel
theorem zd_X_write_67 : decode prog_1_method_2_code 67 = .ok (.iload_n 3, 1) := by decide +kernel
theorem zd_X_write_68 : decode prog_1_method_2_code 68 = .ok (.iadd, 1) := by decide +kernel
theorem zd_X_write_69 : decode prog_1_method_2_code 69 = .ok (.istore 4, 2) := by decide +kernel
theorem zd_X_write_71 : decode prog_1_method_2_code 71 = .ok (.iload 4, 2) := by decide +kernel
theorem zd_X_write_73 : decode prog_1_method_2_code 73 = .ok (.ifCond .lt 27, 3) := by decide +kernel
theorem zd_X_write_100 : decode prog_1_method_2_code 100 = .ok (.iinc 3 1, 3) := by decide +kernel
theorem zd_X_write_103 : decode prog_1_method_2_code 103 = .ok (.goto (-48), 3) := by decide +kernel
theorem zd_X_write_76 : decode prog_1_method_2_code 76 = .ok (.iload 4, 2) := by decide +kernel
theorem zd_X_write_78 : decode prog_1_method_2_code 78 = .ok (.aload_n 0, 1) := by decide +kernel
theorem zd_X_write_79 : decode prog_1_method_2_code 79 = .ok (.getfield 9, 3) := by decide +kernel
theorem zd_X_write_82 : decode prog_1_method_2_code 82 = .ok (.arraylength, 1) := by decide +kernel
theorem zd_X_write_83 : decode prog_1_method_2_code 83 = .ok (.if_icmp .ge 17, 3) := by decide +kernel
theorem zd_X_write_86 : decode prog_1_method_2_code 86 = .ok (.aload_n 0, 1) := by decide +kernel
theorem zd_X_write_87 : decode prog_1_method_2_code 87 = .ok (.getfield 9, 3) := by decide +kernel
theorem zd_X_write_90 : decode prog_1_method_2_code 90 = .ok (.iload 4, 2) := by decide +kernel
theorem zd_X_write_92 : decode prog_1_method_2_code 92 = .ok (.iload_n 1, 1) := by decide +kernel
theorem zd_X_write_93 : decode prog_1_method_2_code 93 = .ok (.iload_n 3, 1) := by decide +kernel
theorem zd_X_write_94 : decode prog_1_method_2_code 94 = .ok (.iadd, 1) := by decide +kernel
theorem zd_X_write_95 : decode prog_1_method_2_code 95 = .ok (.sipush 256, 3) := by decide +kernel
theorem zd_X_write_98 : decode prog_1_method_2_code 98 = .ok (.irem, 1) := by decide +kernel
theorem zd_X_write_99 : decode prog_1_method_2_code 99 = .ok (.iastore, 1) := by decide +kernel
theorem zd_X_write_0 : decode prog_1_method_2_code 0 = .ok (.iload_n 1, 1) := by decide +kernel
theorem zd_X_write_1 : decode prog_1_method_2_code 1 = .ok (.ifCond .lt 21, 3) := by decide +kernel
theorem zd_X_write_4 : decode prog_1_method_2_code 4 = .ok (.iload_n 1, 1) := by decide +kernel
theorem zd_X_write_5 : decode prog_1_method_2_code 5 = .ok (.sipush 256, 3) := by decide +kernel
theorem zd_X_write_8 : decode prog_1_method_2_code 8 = .ok (.if_icmp .ge 14, 3) := by decide +kernel
theorem zd_X_write_11 : decode prog_1_method_2_code 11 = .ok (.iload_n 2, 1) := by decide +kernel
theorem zd_X_write_12 : decode prog_1_method_2_code 12 = .ok (.iconst 1, 1) := by decide +kernel
theorem zd_X_write_13 : decode prog_1_method_2_code 13 = .ok (.if_icmp .lt 9, 3) := by decide +kernel
theorem zd_X_write_16 : decode prog_1_method_2_code 16 = .ok (.iload_n 2, 1) := by decide +kernel
theorem zd_X_write_17 : decode prog_1_method_2_code 17 = .ok (.bipush 100, 2) := by decide +kernel
theorem zd_X_write_19 : decode prog_1_method_2_code 19 = .ok (.if_icmp .le 11, 3) := by decide +kernel
theorem zd_X_write_30 : decode prog_1_method_2_code 30 = .ok (.aload_n 0, 1) := by decide +kernel
theorem zd_X_write_31 : decode prog_1_method_2_code 31 = .ok (.getfield 16, 3) := by decide +kernel
theorem zd_X_write_34 : decode prog_1_method_2_code 34 = .ok (.getfield 42, 3) := by decide +kernel
theorem zd_X_write_37 : decode prog_1_method_2_code 37 = .ok (.iload_n 2, 1) := by decide +kernel
theorem zd_X_write_38 : decode prog_1_method_2_code 38 = .ok (.iadd, 1) := by decide +kernel
theorem zd_X_write_39 : decode prog_1_method_2_code 39 = .ok (.sipush 600, 3) := by decide +kernel
theorem zd_X_write_42 : decode prog_1_method_2_code 42 = .ok (.if_icmp .le 11, 3) := by decide +kernel
theorem zd_X_write_53 : decode prog_1_method_2_code 53 = .ok (.iconst 0, 1) := by decide +kernel
theorem zd_X_write_54 : decode prog_1_method_2_code 54 = .ok (.istore_n 3, 1) := by decide +kernel
theorem zd_X_write_106 : decode prog_1_method_2_code 106 = .ok (.aload_n 0, 1) := by decide +kernel
theorem zd_X_write_107 : decode prog_1_method_2_code 107 = .ok (.getfield 16, 3) := by decide +kernel
theorem zd_X_write_110 : decode prog_1_method_2_code 110 = .ok (.dup, 1) := by decide +kernel
theorem zd_X_write_111 : decode prog_1_method_2_code 111 = .ok (.getfield 42, 3) := by decide +kernel
theorem zd_X_write_114 : decode prog_1_method_2_code 114 = .ok (.iload_n 2, 1) := by decide +kernel
theorem zd_X_write_115 : decode prog_1_method_2_code 115 = .ok (.iadd, 1) := by decide +kernel
theorem zd_X_write_116 : decode prog_1_method_2_code 116 = .ok (.putfield 42, 3) := by decide +kernel
theorem zd_X_write_119 : decode prog_1_method_2_code 119 = .ok (.aload_n 0, 1) := by decide +kernel
theorem zd_X_write_120 : decode prog_1_method_2_code 120 = .ok (.getfield 16, 3) := by decide +kernel
theorem zd_X_write_123 : decode prog_1_method_2_code 123 = .ok (.getfield 42, 3) := by decide +kernel
theorem zd_X_write_126 : decode prog_1_method_2_code 126 = .ok (.ireturn, 1) := by decide +kernel
theorem zd_X_read_0 : decode prog_1_method_3_code 0 = .ok (.aload_n 0, 1) := by decide +kernel
theorem zd_X_read_1 : decode prog_1_method_3_code 1 = .ok (.getfield 23, 3) := by decide +kernel
theorem zd_X_read_4 : decode prog_1_method_3_code 4 = .ok (.getfield 49, 3) := by decide +kernel
theorem zd_X_read_7 : decode prog_1_method_3_code 7 = .ok (.istore_n 1, 1) := by decide +kernel
theorem zd_X_read_8 : decode prog_1_method_3_code 8 = .ok (.iload_n 1, 1) := by decide +kernel
theorem zd_X_read_9 : decode prog_1_method_3_code 9 = .ok (.aload_n 0, 1) := by decide +kernel
theorem zd_X_read_10 : decode prog_1_method_3_code 10 = .ok (.getfield 23, 3) := by decide +kernel
theorem zd_X_read_13 : decode prog_1_method_3_code 13 = .ok (.getfield 52, 3) := by decide +kernel
theorem zd_X_read_16 : decode prog_1_method_3_code 16 = .ok (.if_icmp .ge 16, 3) := by decide +kernel
theorem zd_X_read_32 : decode prog_1_method_3_code 32 = .ok (.iconst (-1), 1) := by decide +kernel
theorem zd_X_read_33 : decode prog_1_method_3_code 33 = .ok (.ireturn, 1) := by decide +kernel
theorem zd_X_read_19 : decode prog_1_method_3_code 19 = .ok (.iload_n 1, 1) := by decide +kernel
theorem zd_X_read_20 : decode prog_1_method_3_code 20 = .ok (.ifCond .lt 12, 3) := by decide +kernel
theorem zd_X_read_23 : decode prog_1_method_3_code 23 = .ok (.iload_n 1, 1) := by decide +kernel
theorem zd_X_read_24 : decode prog_1_method_3_code 24 = .ok (.aload_n 0, 1) := by decide +kernel
theorem zd_X_read_25 : decode prog_1_method_3_code 25 = .ok (.getfield 9, 3) := by decide +kernel
theorem zd_X_read_28 : decode prog_1_method_3_code 28 = .ok (.arraylength, 1) := by decide +kernel
theorem zd_X_read_29 : decode prog_1_method_3_code 29 = .ok (.if_icmp .lt 5, 3) := by decide +kernel
theorem zd_X_read_34 : decode prog_1_method_3_code 34 = .ok (.aload_n 0, 1) := by decide +kernel
theorem zd_X_read_35 : decode prog_1_method_3_code 35 = .ok (.getfield 23, 3) := by decide +kernel
theorem zd_X_read_38 : decode prog_1_method_3_code 38 = .ok (.invokevirtual 55, 3) := by decide +kernel
theorem zd_X_read_41 : decode prog_1_method_3_code 41 = .ok (.ifCond .eq 14, 3) := by decide +kernel
theorem zd_X_read_55 : decode prog_1_method_3_code 55 = .ok (.aload_n 0, 1) := by decide +kernel
theorem zd_X_read_56 : decode prog_1_method_3_code 56 = .ok (.getfield 9, 3) := by decide +kernel
theorem zd_X_read_59 : decode prog_1_method_3_code 59 = .ok (.iload_n 1, 1) := by decide +kernel
theorem zd_X_read_60 : decode prog_1_method_3_code 60 = .ok (.iaload, 1) := by decide +kernel
theorem zd_X_read_61 : decode prog_1_method_3_code 61 = .ok (.ireturn, 1) := by decide +kernel
theorem zd_X_read_44 : decode prog_1_method_3_code 44 = .ok (.aload_n 0, 1) := by decide +kernel
theorem zd_X_read_45 : decode prog_1_method_3_code 45 = .ok (.getfield 23, 3) := by decide +kernel
theorem zd_X_read_48 : decode prog_1_method_3_code 48 = .ok (.aload_n 0, 1) := by decide +kernel
theorem zd_X_read_49 : decode prog_1_method_3_code 49 = .ok (.getfield 36, 3) := by decide +kernel
theorem zd_X_read_52 : decode prog_1_method_3_code 52 = .ok (.invokevirtual 59, 3) := by decide +kernel
theorem zd_X_send_0 : decode prog_1_method_5_code 0 = .ok (.aload_n 0, 1) := by decide +kernel
theorem zd_X_send_1 : decode prog_1_method_5_code 1 = .ok (.getfield 32, 3) := by decide +kernel
theorem zd_X_send_4 : decode prog_1_method_5_code 4 = .ok (.invokevirtual 66, 3) := by decide +kernel
theorem zd_X_send_7 : decode prog_1_method_5_code 7 = .ok (.ifCond .eq 11, 3) := by decide +kernel
theorem zd_X_send_18 : decode prog_1_method_5_code 18 = .ok (.aload_n 0, 1) := by decide +kernel
theorem zd_X_send_19 : decode prog_1_method_5_code 19 = .ok (.getfield 16, 3) := by decide +kernel
theorem zd_X_send_22 : decode prog_1_method_5_code 22 = .ok (.aload_n 0, 1) := by decide +kernel
theorem zd_X_send_23 : decode prog_1_method_5_code 23 = .ok (.getfield 32, 3) := by decide +kernel
theorem zd_X_send_26 : decode prog_1_method_5_code 26 = .ok (.invokevirtual 69, 3) := by decide +kernel
theorem zd_X_send_29 : decode prog_1_method_5_code 29 = .ok (.ireturn, 1) := by decide +kernel
theorem zd_X_tick_0 : decode prog_1_method_6_code 0 = .ok (.iload_n 1, 1) := by decide +kernel
theorem zd_X_tick_1 : decode prog_1_method_6_code 1 = .ok (.iconst 1, 1) := by decide +kernel
theorem zd_X_tick_2 : decode prog_1_method_6_code 2 = .ok (.if_icmp .lt 9, 3) := by decide +kernel
theorem zd_X_tick_5 : decode prog_1_method_6_code 5 = .ok (.iload_n 1, 1) := by decide +kernel
theorem zd_X_tick_6 : decode prog_1_method_6_code 6 = .ok (.bipush 100, 2) := by decide +kernel
theorem zd_X_tick_8 : decode prog_1_method_6_code 8 = .ok (.if_icmp .le 11, 3) := by decide +kernel
theorem zd_X_tick_19 : decode prog_1_method_6_code 19 = .ok (.aload_n 0, 1) := by decide +kernel
theorem zd_X_tick_20 : decode prog_1_method_6_code 20 = .ok (.getfield 16, 3) := by decide +kernel
theorem zd_X_tick_23 : decode prog_1_method_6_code 23 = .ok (.iload_n 1, 1) := by decide +kernel
theorem zd_X_tick_24 : decode prog_1_method_6_code 24 = .ok (.invokevirtual 73, 3) := by decide +kernel
theorem zd_X_tick_27 : decode prog_1_method_6_code 27 = .ok (.ireturn, 1) := by decide +kernel
theorem zd_X_deliver_0 : decode prog_1_method_7_code 0 = .ok (.aload_n 0, 1) := by decide +kernel
theorem zd_X_deliver_1 : decode prog_1_method_7_code 1 = .ok (.getfield 32, 3) := by decide +kernel
theorem zd_X_deliver_4 : decode prog_1_method_7_code 4 = .ok (.iload_n 1, 1) := by decide +kernel
theorem zd_X_deliver_5 : decode prog_1_method_7_code 5 = .ok (.invokevirtual 77, 3) := by decide +kernel
theorem zd_X_deliver_8 : decode prog_1_method_7_code 8 = .ok (.ifCond .ne 11, 3) := by decide +kernel
theorem zd_X_deliver_19 : decode prog_1_method_7_code 19 = .ok (.aload_n 0, 1) := by decide +kernel
theorem zd_X_deliver_20 : decode prog_1_method_7_code 20 = .ok (.getfield 23, 3) := by decide +kernel
theorem zd_X_deliver_23 : decode prog_1_method_7_code 23 = .ok (.aload_n 0, 1) := by decide +kernel
theorem zd_X_deliver_24 : decode prog_1_method_7_code 24 = .ok (.getfield 32, 3) := by decide +kernel
theorem zd_X_deliver_27 : decode prog_1_method_7_code 27 = .ok (.iload_n 1, 1) := by decide +kernel
theorem zd_X_deliver_28 : decode prog_1_method_7_code 28 = .ok (.iconst 0, 1) := by decide +kernel
theorem zd_X_deliver_29 : decode prog_1_method_7_code 29 = .ok (.invokevirtual 84, 3) := by decide +kernel
theorem zd_X_deliver_32 : decode prog_1_method_7_code 32 = .ok (.aload_n 0, 1) := by decide +kernel
theorem zd_X_deliver_33 : decode prog_1_method_7_code 33 = .ok (.getfield 32, 3) := by decide +kernel
theorem zd_X_deliver_36 : decode prog_1_method_7_code 36 = .ok (.iload_n 1, 1) := by decide +kernel
theorem zd_X_deliver_37 : decode prog_1_method_7_code 37 = .ok (.iconst 1, 1) := by decide +kernel
theorem zd_X_deliver_38 : decode prog_1_method_7_code 38 = .ok (.invokevirtual 84, 3) := by decide +kernel
theorem zd_X_deliver_41 : decode prog_1_method_7_code 41 = .ok (.invokevirtual 88, 3) := by decide +kernel
theorem zd_X_deliver_44 : decode prog_1_method_7_code 44 = .ok (.istore_n 2, 1) := by decide +kernel
theorem zd_X_deliver_45 : decode prog_1_method_7_code 45 = .ok (.aload_n 0, 1) := by decide +kernel
theorem zd_X_deliver_46 : decode prog_1_method_7_code 46 = .ok (.getfield 32, 3) := by decide +kernel
theorem zd_X_deliver_49 : decode prog_1_method_7_code 49 = .ok (.iload_n 1, 1) := by decide +kernel
theorem zd_X_deliver_50 : decode prog_1_method_7_code 50 = .ok (.invokevirtual 91, 3) := by decide +kernel
theorem zd_X_deliver_53 : decode prog_1_method_7_code 53 = .ok (.aload_n 0, 1) := by decide +kernel
theorem zd_X_deliver_54 : decode prog_1_method_7_code 54 = .ok (.getfield 23, 3) := by decide +kernel
theorem zd_X_deliver_57 : decode prog_1_method_7_code 57 = .ok (.aload_n 0, 1) := by decide +kernel
theorem zd_X_deliver_58 : decode prog_1_method_7_code 58 = .ok (.getfield 36, 3) := by decide +kernel
theorem zd_X_deliver_61 : decode prog_1_method_7_code 61 = .ok (.invokevirtual 59, 3) := by decide +kernel
theorem zd_X_deliver_64 : decode prog_1_method_7_code 64 = .ok (.iload_n 2, 1) := by decide +kernel
theorem zd_X_deliver_65 : decode prog_1_method_7_code 65 = .ok (.ireturn, 1) := by decide +kernel
theorem zd_X_lose_0 : decode prog_1_method_8_code 0 = .ok (.aload_n 0, 1) := by decide +kernel
theorem zd_X_lose_1 : decode prog_1_method_8_code 1 = .ok (.getfield 32, 3) := by decide +kernel
theorem zd_X_lose_4 : decode prog_1_method_8_code 4 = .ok (.iload_n 1, 1) := by decide +kernel
theorem zd_X_lose_5 : decode prog_1_method_8_code 5 = .ok (.invokevirtual 77, 3) := by decide +kernel
theorem zd_X_lose_8 : decode prog_1_method_8_code 8 = .ok (.ifCond .ne 11, 3) := by decide +kernel
theorem zd_X_lose_19 : decode prog_1_method_8_code 19 = .ok (.aload_n 0, 1) := by decide +kernel
theorem zd_X_lose_20 : decode prog_1_method_8_code 20 = .ok (.getfield 32, 3) := by decide +kernel
theorem zd_X_lose_23 : decode prog_1_method_8_code 23 = .ok (.iload_n 1, 1) := by decide +kernel
theorem zd_X_lose_24 : decode prog_1_method_8_code 24 = .ok (.iconst 0, 1) := by decide +kernel
theorem zd_X_lose_25 : decode prog_1_method_8_code 25 = .ok (.invokevirtual 84, 3) := by decide +kernel
theorem zd_X_lose_28 : decode prog_1_method_8_code 28 = .ok (.istore_n 2, 1) := by decide +kernel
theorem zd_X_lose_29 : decode prog_1_method_8_code 29 = .ok (.aload_n 0, 1) := by decide +kernel
theorem zd_X_lose_30 : decode prog_1_method_8_code 30 = .ok (.getfield 32, 3) := by decide +kernel
theorem zd_X_lose_33 : decode prog_1_method_8_code 33 = .ok (.iload_n 1, 1) := by decide +kernel
theorem zd_X_lose_34 : decode prog_1_method_8_code 34 = .ok (.invokevirtual 91, 3) := by decide +kernel
theorem zd_X_lose_37 : decode prog_1_method_8_code 37 = .ok (.iload_n 2, 1) := by decide +kernel
theorem zd_X_lose_38 : decode prog_1_method_8_code 38 = .ok (.ireturn, 1) := by decide +kernel
theorem zd_X_duplicate_0 : decode prog_1_method_9_code 0 = .ok (.aload_n 0, 1) := by decide +kernel
theorem zd_X_duplicate_1 : decode prog_1_method_9_code 1 = .ok (.getfield 32, 3) := by decide +kernel
theorem zd_X_duplicate_4 : decode prog_1_method_9_code 4 = .ok (.iload_n 1, 1) := by decide +kernel
theorem zd_X_duplicate_5 : decode prog_1_method_9_code 5 = .ok (.invokevirtual 77, 3) := by decide +kernel
theorem zd_X_duplicate_8 : decode prog_1_method_9_code 8 = .ok (.ifCond .ne 11, 3) := by decide +kernel
theorem zd_X_duplicate_19 : decode prog_1_method_9_code 19 = .ok (.aload_n 0, 1) := by decide +kernel
theorem zd_X_duplicate_20 : decode prog_1_method_9_code 20 = .ok (.getfield 32, 3) := by decide +kernel
theorem zd_X_duplicate_23 : decode prog_1_method_9_code 23 = .ok (.invokevirtual 66, 3) := by decide +kernel
theorem zd_X_duplicate_26 : decode prog_1_method_9_code 26 = .ok (.ifCond .eq 11, 3) := by decide +kernel
theorem zd_X_duplicate_37 : decode prog_1_method_9_code 37 = .ok (.aload_n 0, 1) := by decide +kernel
theorem zd_X_duplicate_38 : decode prog_1_method_9_code 38 = .ok (.getfield 32, 3) := by decide +kernel
theorem zd_X_duplicate_41 : decode prog_1_method_9_code 41 = .ok (.invokevirtual 95, 3) := by decide +kernel
theorem zd_X_duplicate_44 : decode prog_1_method_9_code 44 = .ok (.istore_n 2, 1) := by decide +kernel
theorem zd_X_duplicate_45 : decode prog_1_method_9_code 45 = .ok (.aload_n 0, 1) := by decide +kernel
theorem zd_X_duplicate_46 : decode prog_1_method_9_code 46 = .ok (.getfield 32, 3) := by decide +kernel
theorem zd_X_duplicate_49 : decode prog_1_method_9_code 49 = .ok (.iload_n 2, 1) := by decide +kernel
theorem zd_X_duplicate_50 : decode prog_1_method_9_code 50 = .ok (.iconst 0, 1) := by decide +kernel
theorem zd_X_duplicate_51 : decode prog_1_method_9_code 51 = .ok (.aload_n 0, 1) := by decide +kernel
theorem zd_X_duplicate_52 : decode prog_1_method_9_code 52 = .ok (.getfield 32, 3) := by decide +kernel
theorem zd_X_duplicate_55 : decode prog_1_method_9_code 55 = .ok (.iload_n 1, 1) := by decide +kernel
theorem zd_X_duplicate_56 : decode prog_1_method_9_code 56 = .ok (.iconst 0, 1) := by decide +kernel
theorem zd_X_duplicate_57 : decode prog_1_method_9_code 57 = .ok (.invokevirtual 84, 3) := by decide +kernel
theorem zd_X_duplicate_60 : decode prog_1_method_9_code 60 = .ok (.invokevirtual 99, 3) := by decide +kernel
theorem zd_X_duplicate_63 : decode prog_1_method_9_code 63 = .ok (.aload_n 0, 1) := by decide +kernel
theorem zd_X_duplicate_64 : decode prog_1_method_9_code 64 = .ok (.getfield 32, 3) := by decide +kernel
theorem zd_X_duplicate_67 : decode prog_1_method_9_code 67 = .ok (.iload_n 2, 1) := by decide +kernel
theorem zd_X_duplicate_68 : decode prog_1_method_9_code 68 = .ok (.iconst 1, 1) := by decide +kernel
theorem zd_X_duplicate_69 : decode prog_1_method_9_code 69 = .ok (.aload_n 0, 1) := by decide +kernel
theorem zd_X_duplicate_70 : decode prog_1_method_9_code 70 = .ok (.getfield 32, 3) := by decide +kernel
theorem zd_X_duplicate_73 : decode prog_1_method_9_code 73 = .ok (.iload_n 1, 1) := by decide +kernel
theorem zd_X_duplicate_74 : decode prog_1_method_9_code 74 = .ok (.iconst 1, 1) := by decide +kernel
theorem zd_X_duplicate_75 : decode prog_1_method_9_code 75 = .ok (.invokevirtual 84, 3) := by decide +kernel
theorem zd_X_duplicate_78 : decode prog_1_method_9_code 78 = .ok (.invokevirtual 99, 3) := by decide +kernel
theorem zd_X_duplicate_81 : decode prog_1_method_9_code 81 = .ok (.aload_n 0, 1) := by decide +kernel
theorem zd_X_duplicate_82 : decode prog_1_method_9_code 82 = .ok (.getfield 32, 3) := by decide +kernel
theorem zd_X_duplicate_85 : decode prog_1_method_9_code 85 = .ok (.getfield 103, 3) := by decide +kernel
theorem zd_X_duplicate_88 : decode prog_1_method_9_code 88 = .ok (.ireturn, 1) := by decide +kernel
theorem zd_X_deliverAck_0 : decode prog_1_method_10_code 0 = .ok (.aload_n 0, 1) := by decide +kernel
theorem zd_X_deliverAck_1 : decode prog_1_method_10_code 1 = .ok (.getfield 36, 3) := by decide +kernel
theorem zd_X_deliverAck_4 : decode prog_1_method_10_code 4 = .ok (.iload_n 1, 1) := by decide +kernel
theorem zd_X_deliverAck_5 : decode prog_1_method_10_code 5 = .ok (.invokevirtual 77, 3) := by decide +kernel
theorem zd_X_deliverAck_8 : decode prog_1_method_10_code 8 = .ok (.ifCond .ne 11, 3) := by decide +kernel
theorem zd_X_deliverAck_19 : decode prog_1_method_10_code 19 = .ok (.aload_n 0, 1) := by decide +kernel
theorem zd_X_deliverAck_20 : decode prog_1_method_10_code 20 = .ok (.getfield 16, 3) := by decide +kernel
theorem zd_X_deliverAck_23 : decode prog_1_method_10_code 23 = .ok (.aload_n 0, 1) := by decide +kernel
theorem zd_X_deliverAck_24 : decode prog_1_method_10_code 24 = .ok (.getfield 36, 3) := by decide +kernel
theorem zd_X_deliverAck_27 : decode prog_1_method_10_code 27 = .ok (.iload_n 1, 1) := by decide +kernel
theorem zd_X_deliverAck_28 : decode prog_1_method_10_code 28 = .ok (.invokevirtual 106, 3) := by decide +kernel
theorem zd_X_deliverAck_31 : decode prog_1_method_10_code 31 = .ok (.istore_n 2, 1) := by decide +kernel
theorem zd_X_deliverAck_32 : decode prog_1_method_10_code 32 = .ok (.aload_n 0, 1) := by decide +kernel
theorem zd_X_deliverAck_33 : decode prog_1_method_10_code 33 = .ok (.getfield 36, 3) := by decide +kernel
theorem zd_X_deliverAck_36 : decode prog_1_method_10_code 36 = .ok (.iload_n 1, 1) := by decide +kernel
theorem zd_X_deliverAck_37 : decode prog_1_method_10_code 37 = .ok (.invokevirtual 91, 3) := by decide +kernel
theorem zd_X_deliverAck_40 : decode prog_1_method_10_code 40 = .ok (.iload_n 2, 1) := by decide +kernel
theorem zd_X_deliverAck_41 : decode prog_1_method_10_code 41 = .ok (.ireturn, 1) := by decide +kernel
theorem zd_X_loseAck_0 : decode prog_1_method_11_code 0 = .ok (.aload_n 0, 1) := by decide +kernel
theorem zd_X_loseAck_1 : decode prog_1_method_11_code 1 = .ok (.getfield 36, 3) := by decide +kernel
theorem zd_X_loseAck_4 : decode prog_1_method_11_code 4 = .ok (.iload_n 1, 1) := by decide +kernel
theorem zd_X_loseAck_5 : decode prog_1_method_11_code 5 = .ok (.invokevirtual 77, 3) := by decide +kernel
theorem zd_X_loseAck_8 : decode prog_1_method_11_code 8 = .ok (.ifCond .ne 11, 3) := by decide +kernel
theorem zd_X_loseAck_19 : decode prog_1_method_11_code 19 = .ok (.aload_n 0, 1) := by decide +kernel
theorem zd_X_loseAck_20 : decode prog_1_method_11_code 20 = .ok (.getfield 36, 3) := by decide +kernel
theorem zd_X_loseAck_23 : decode prog_1_method_11_code 23 = .ok (.iload_n 1, 1) := by decide +kernel
theorem zd_X_loseAck_24 : decode prog_1_method_11_code 24 = .ok (.iconst 0, 1) := by decide +kernel
theorem zd_X_loseAck_25 : decode prog_1_method_11_code 25 = .ok (.invokevirtual 84, 3) := by decide +kernel
theorem zd_X_loseAck_28 : decode prog_1_method_11_code 28 = .ok (.istore_n 2, 1) := by decide +kernel
theorem zd_X_loseAck_29 : decode prog_1_method_11_code 29 = .ok (.aload_n 0, 1) := by decide +kernel
theorem zd_X_loseAck_30 : decode prog_1_method_11_code 30 = .ok (.getfield 36, 3) := by decide +kernel
theorem zd_X_loseAck_33 : decode prog_1_method_11_code 33 = .ok (.iload_n 1, 1) := by decide +kernel
theorem zd_X_loseAck_34 : decode prog_1_method_11_code 34 = .ok (.invokevirtual 91, 3) := by decide +kernel
theorem zd_X_loseAck_37 : decode prog_1_method_11_code 37 = .ok (.iload_n 2, 1) := by decide +kernel
theorem zd_X_loseAck_38 : decode prog_1_method_11_code 38 = .ok (.ireturn, 1) := by decide +kernel
theorem zd_X_segments_0 : decode prog_1_method_12_code 0 = .ok (.aload_n 0, 1) := by decide +kernel
theorem zd_X_segments_1 : decode prog_1_method_12_code 1 = .ok (.getfield 32, 3) := by decide +kernel
theorem zd_X_segments_4 : decode prog_1_method_12_code 4 = .ok (.getfield 103, 3) := by decide +kernel
theorem zd_X_segments_7 : decode prog_1_method_12_code 7 = .ok (.ireturn, 1) := by decide +kernel
theorem zd_X_startOf_0 : decode prog_1_method_13_code 0 = .ok (.aload_n 0, 1) := by decide +kernel
theorem zd_X_startOf_1 : decode prog_1_method_13_code 1 = .ok (.getfield 32, 3) := by decide +kernel
theorem zd_X_startOf_4 : decode prog_1_method_13_code 4 = .ok (.iload_n 1, 1) := by decide +kernel
theorem zd_X_startOf_5 : decode prog_1_method_13_code 5 = .ok (.invokevirtual 77, 3) := by decide +kernel
theorem zd_X_startOf_8 : decode prog_1_method_13_code 8 = .ok (.ifCond .ne 11, 3) := by decide +kernel
theorem zd_X_startOf_19 : decode prog_1_method_13_code 19 = .ok (.aload_n 0, 1) := by decide +kernel
theorem zd_X_startOf_20 : decode prog_1_method_13_code 20 = .ok (.getfield 32, 3) := by decide +kernel
theorem zd_X_startOf_23 : decode prog_1_method_13_code 23 = .ok (.iload_n 1, 1) := by decide +kernel
theorem zd_X_startOf_24 : decode prog_1_method_13_code 24 = .ok (.iconst 0, 1) := by decide +kernel
theorem zd_X_startOf_25 : decode prog_1_method_13_code 25 = .ok (.invokevirtual 84, 3) := by decide +kernel
theorem zd_X_startOf_28 : decode prog_1_method_13_code 28 = .ok (.ireturn, 1) := by decide +kernel
theorem zd_X_endOf_0 : decode prog_1_method_14_code 0 = .ok (.aload_n 0, 1) := by decide +kernel
theorem zd_X_endOf_1 : decode prog_1_method_14_code 1 = .ok (.getfield 32, 3) := by decide +kernel
theorem zd_X_endOf_4 : decode prog_1_method_14_code 4 = .ok (.iload_n 1, 1) := by decide +kernel
theorem zd_X_endOf_5 : decode prog_1_method_14_code 5 = .ok (.invokevirtual 77, 3) := by decide +kernel
theorem zd_X_endOf_8 : decode prog_1_method_14_code 8 = .ok (.ifCond .ne 11, 3) := by decide +kernel
theorem zd_X_endOf_19 : decode prog_1_method_14_code 19 = .ok (.aload_n 0, 1) := by decide +kernel
theorem zd_X_endOf_20 : decode prog_1_method_14_code 20 = .ok (.getfield 32, 3) := by decide +kernel
theorem zd_X_endOf_23 : decode prog_1_method_14_code 23 = .ok (.iload_n 1, 1) := by decide +kernel
theorem zd_X_endOf_24 : decode prog_1_method_14_code 24 = .ok (.iconst 1, 1) := by decide +kernel
theorem zd_X_endOf_25 : decode prog_1_method_14_code 25 = .ok (.invokevirtual 84, 3) := by decide +kernel
theorem zd_X_endOf_28 : decode prog_1_method_14_code 28 = .ok (.ireturn, 1) := by decide +kernel
theorem zd_X_acks_0 : decode prog_1_method_15_code 0 = .ok (.aload_n 0, 1) := by decide +kernel
theorem zd_X_acks_1 : decode prog_1_method_15_code 1 = .ok (.getfield 36, 3) := by decide +kernel
theorem zd_X_acks_4 : decode prog_1_method_15_code 4 = .ok (.getfield 103, 3) := by decide +kernel
theorem zd_X_acks_7 : decode prog_1_method_15_code 7 = .ok (.ireturn, 1) := by decide +kernel
theorem zd_X_ackNumber_0 : decode prog_1_method_16_code 0 = .ok (.aload_n 0, 1) := by decide +kernel
theorem zd_X_ackNumber_1 : decode prog_1_method_16_code 1 = .ok (.getfield 36, 3) := by decide +kernel
theorem zd_X_ackNumber_4 : decode prog_1_method_16_code 4 = .ok (.iload_n 1, 1) := by decide +kernel
theorem zd_X_ackNumber_5 : decode prog_1_method_16_code 5 = .ok (.invokevirtual 77, 3) := by decide +kernel
theorem zd_X_ackNumber_8 : decode prog_1_method_16_code 8 = .ok (.ifCond .ne 11, 3) := by decide +kernel
theorem zd_X_ackNumber_19 : decode prog_1_method_16_code 19 = .ok (.aload_n 0, 1) := by decide +kernel
theorem zd_X_ackNumber_20 : decode prog_1_method_16_code 20 = .ok (.getfield 36, 3) := by decide +kernel
theorem zd_X_ackNumber_23 : decode prog_1_method_16_code 23 = .ok (.iload_n 1, 1) := by decide +kernel
theorem zd_X_ackNumber_24 : decode prog_1_method_16_code 24 = .ok (.iconst 0, 1) := by decide +kernel
theorem zd_X_ackNumber_25 : decode prog_1_method_16_code 25 = .ok (.invokevirtual 84, 3) := by decide +kernel
theorem zd_X_ackNumber_28 : decode prog_1_method_16_code 28 = .ok (.ireturn, 1) := by decide +kernel
theorem zd_X_ackWindow_0 : decode prog_1_method_17_code 0 = .ok (.aload_n 0, 1) := by decide +kernel
theorem zd_X_ackWindow_1 : decode prog_1_method_17_code 1 = .ok (.getfield 36, 3) := by decide +kernel
theorem zd_X_ackWindow_4 : decode prog_1_method_17_code 4 = .ok (.iload_n 1, 1) := by decide +kernel
theorem zd_X_ackWindow_5 : decode prog_1_method_17_code 5 = .ok (.invokevirtual 77, 3) := by decide +kernel
theorem zd_X_ackWindow_8 : decode prog_1_method_17_code 8 = .ok (.ifCond .ne 11, 3) := by decide +kernel
theorem zd_X_ackWindow_19 : decode prog_1_method_17_code 19 = .ok (.aload_n 0, 1) := by decide +kernel
theorem zd_X_ackWindow_20 : decode prog_1_method_17_code 20 = .ok (.getfield 36, 3) := by decide +kernel
theorem zd_X_ackWindow_23 : decode prog_1_method_17_code 23 = .ok (.iload_n 1, 1) := by decide +kernel
theorem zd_X_ackWindow_24 : decode prog_1_method_17_code 24 = .ok (.iconst 1, 1) := by decide +kernel
theorem zd_X_ackWindow_25 : decode prog_1_method_17_code 25 = .ok (.invokevirtual 84, 3) := by decide +kernel
theorem zd_X_ackWindow_28 : decode prog_1_method_17_code 28 = .ok (.ireturn, 1) := by decide +kernel
theorem zd_X_ackBlocks_0 : decode prog_1_method_18_code 0 = .ok (.aload_n 0, 1) := by decide +kernel
theorem zd_X_ackBlocks_1 : decode prog_1_method_18_code 1 = .ok (.getfield 36, 3) := by decide +kernel
theorem zd_X_ackBlocks_4 : decode prog_1_method_18_code 4 = .ok (.iload_n 1, 1) := by decide +kernel
theorem zd_X_ackBlocks_5 : decode prog_1_method_18_code 5 = .ok (.invokevirtual 77, 3) := by decide +kernel
theorem zd_X_ackBlocks_8 : decode prog_1_method_18_code 8 = .ok (.ifCond .ne 11, 3) := by decide +kernel
theorem zd_X_ackBlocks_19 : decode prog_1_method_18_code 19 = .ok (.aload_n 0, 1) := by decide +kernel
theorem zd_X_ackBlocks_20 : decode prog_1_method_18_code 20 = .ok (.getfield 36, 3) := by decide +kernel
theorem zd_X_ackBlocks_23 : decode prog_1_method_18_code 23 = .ok (.iload_n 1, 1) := by decide +kernel
theorem zd_X_ackBlocks_24 : decode prog_1_method_18_code 24 = .ok (.iconst 2, 1) := by decide +kernel
theorem zd_X_ackBlocks_25 : decode prog_1_method_18_code 25 = .ok (.invokevirtual 84, 3) := by decide +kernel
theorem zd_X_ackBlocks_28 : decode prog_1_method_18_code 28 = .ok (.ireturn, 1) := by decide +kernel
theorem zd_X_ackBlock_0 : decode prog_1_method_19_code 0 = .ok (.aload_n 0, 1) := by decide +kernel
theorem zd_X_ackBlock_1 : decode prog_1_method_19_code 1 = .ok (.getfield 36, 3) := by decide +kernel
theorem zd_X_ackBlock_4 : decode prog_1_method_19_code 4 = .ok (.iload_n 1, 1) := by decide +kernel
theorem zd_X_ackBlock_5 : decode prog_1_method_19_code 5 = .ok (.invokevirtual 77, 3) := by decide +kernel
theorem zd_X_ackBlock_8 : decode prog_1_method_19_code 8 = .ok (.ifCond .eq 20, 3) := by decide +kernel
theorem zd_X_ackBlock_11 : decode prog_1_method_19_code 11 = .ok (.iload_n 2, 1) := by decide +kernel
theorem zd_X_ackBlock_12 : decode prog_1_method_19_code 12 = .ok (.ifCond .lt 16, 3) := by decide +kernel
theorem zd_X_ackBlock_15 : decode prog_1_method_19_code 15 = .ok (.iload_n 2, 1) := by decide +kernel
theorem zd_X_ackBlock_16 : decode prog_1_method_19_code 16 = .ok (.aload_n 0, 1) := by decide +kernel
theorem zd_X_ackBlock_17 : decode prog_1_method_19_code 17 = .ok (.getfield 36, 3) := by decide +kernel
theorem zd_X_ackBlock_20 : decode prog_1_method_19_code 20 = .ok (.iload_n 1, 1) := by decide +kernel
theorem zd_X_ackBlock_21 : decode prog_1_method_19_code 21 = .ok (.iconst 2, 1) := by decide +kernel
theorem zd_X_ackBlock_22 : decode prog_1_method_19_code 22 = .ok (.invokevirtual 84, 3) := by decide +kernel
theorem zd_X_ackBlock_25 : decode prog_1_method_19_code 25 = .ok (.if_icmp .lt 11, 3) := by decide +kernel
theorem zd_X_ackBlock_36 : decode prog_1_method_19_code 36 = .ok (.aload_n 0, 1) := by decide +kernel
theorem zd_X_ackBlock_37 : decode prog_1_method_19_code 37 = .ok (.getfield 36, 3) := by decide +kernel
theorem zd_X_ackBlock_40 : decode prog_1_method_19_code 40 = .ok (.iload_n 1, 1) := by decide +kernel
theorem zd_X_ackBlock_41 : decode prog_1_method_19_code 41 = .ok (.iconst 3, 1) := by decide +kernel
theorem zd_X_ackBlock_42 : decode prog_1_method_19_code 42 = .ok (.iconst 2, 1) := by decide +kernel
theorem zd_X_ackBlock_43 : decode prog_1_method_19_code 43 = .ok (.iload_n 2, 1) := by decide +kernel
theorem zd_X_ackBlock_44 : decode prog_1_method_19_code 44 = .ok (.imul, 1) := by decide +kernel
theorem zd_X_ackBlock_45 : decode prog_1_method_19_code 45 = .ok (.iadd, 1) := by decide +kernel
theorem zd_X_ackBlock_46 : decode prog_1_method_19_code 46 = .ok (.invokevirtual 84, 3) := by decide +kernel
theorem zd_X_ackBlock_49 : decode prog_1_method_19_code 49 = .ok (.ireturn, 1) := by decide +kernel
theorem zd_X_time_0 : decode prog_1_method_20_code 0 = .ok (.aload_n 0, 1) := by decide +kernel
theorem zd_X_time_1 : decode prog_1_method_20_code 1 = .ok (.getfield 16, 3) := by decide +kernel
theorem zd_X_time_4 : decode prog_1_method_20_code 4 = .ok (.getfield 110, 3) := by decide +kernel
theorem zd_X_time_7 : decode prog_1_method_20_code 7 = .ok (.getfield 114, 3) := by decide +kernel
theorem zd_X_time_10 : decode prog_1_method_20_code 10 = .ok (.ireturn, 1) := by decide +kernel
theorem zd_X_acknowledged_0 : decode prog_1_method_21_code 0 = .ok (.aload_n 0, 1) := by decide +kernel
theorem zd_X_acknowledged_1 : decode prog_1_method_21_code 1 = .ok (.getfield 16, 3) := by decide +kernel
theorem zd_X_acknowledged_4 : decode prog_1_method_21_code 4 = .ok (.getfield 119, 3) := by decide +kernel
theorem zd_X_acknowledged_7 : decode prog_1_method_21_code 7 = .ok (.ireturn, 1) := by decide +kernel
theorem zd_X_next_0 : decode prog_1_method_22_code 0 = .ok (.aload_n 0, 1) := by decide +kernel
theorem zd_X_next_1 : decode prog_1_method_22_code 1 = .ok (.getfield 16, 3) := by decide +kernel
theorem zd_X_next_4 : decode prog_1_method_22_code 4 = .ok (.getfield 122, 3) := by decide +kernel
theorem zd_X_next_7 : decode prog_1_method_22_code 7 = .ok (.ireturn, 1) := by decide +kernel
theorem zd_X_highest_0 : decode prog_1_method_23_code 0 = .ok (.aload_n 0, 1) := by decide +kernel
theorem zd_X_highest_1 : decode prog_1_method_23_code 1 = .ok (.getfield 16, 3) := by decide +kernel
theorem zd_X_highest_4 : decode prog_1_method_23_code 4 = .ok (.getfield 125, 3) := by decide +kernel
theorem zd_X_highest_7 : decode prog_1_method_23_code 7 = .ok (.ireturn, 1) := by decide +kernel
theorem zd_X_written_0 : decode prog_1_method_24_code 0 = .ok (.aload_n 0, 1) := by decide +kernel
theorem zd_X_written_1 : decode prog_1_method_24_code 1 = .ok (.getfield 16, 3) := by decide +kernel
theorem zd_X_written_4 : decode prog_1_method_24_code 4 = .ok (.getfield 42, 3) := by decide +kernel
theorem zd_X_written_7 : decode prog_1_method_24_code 7 = .ok (.ireturn, 1) := by decide +kernel
theorem zd_X_edge_0 : decode prog_1_method_25_code 0 = .ok (.aload_n 0, 1) := by decide +kernel
theorem zd_X_edge_1 : decode prog_1_method_25_code 1 = .ok (.getfield 16, 3) := by decide +kernel
theorem zd_X_edge_4 : decode prog_1_method_25_code 4 = .ok (.getfield 128, 3) := by decide +kernel
theorem zd_X_edge_7 : decode prog_1_method_25_code 7 = .ok (.ireturn, 1) := by decide +kernel
theorem zd_X_inFlight_0 : decode prog_1_method_26_code 0 = .ok (.aload_n 0, 1) := by decide +kernel
theorem zd_X_inFlight_1 : decode prog_1_method_26_code 1 = .ok (.getfield 16, 3) := by decide +kernel
theorem zd_X_inFlight_4 : decode prog_1_method_26_code 4 = .ok (.invokevirtual 131, 3) := by decide +kernel
theorem zd_X_inFlight_7 : decode prog_1_method_26_code 7 = .ok (.ireturn, 1) := by decide +kernel
theorem zd_X_isMarked_0 : decode prog_1_method_27_code 0 = .ok (.iload_n 1, 1) := by decide +kernel
theorem zd_X_isMarked_1 : decode prog_1_method_27_code 1 = .ok (.ifCond .lt 14, 3) := by decide +kernel
theorem zd_X_isMarked_4 : decode prog_1_method_27_code 4 = .ok (.iload_n 1, 1) := by decide +kernel
theorem zd_X_isMarked_5 : decode prog_1_method_27_code 5 = .ok (.aload_n 0, 1) := by decide +kernel
theorem zd_X_isMarked_6 : decode prog_1_method_27_code 6 = .ok (.getfield 16, 3) := by decide +kernel
theorem zd_X_isMarked_9 : decode prog_1_method_27_code 9 = .ok (.getfield 42, 3) := by decide +kernel
theorem zd_X_isMarked_12 : decode prog_1_method_27_code 12 = .ok (.if_icmp .lt 11, 3) := by decide +kernel
theorem zd_X_isMarked_23 : decode prog_1_method_27_code 23 = .ok (.aload_n 0, 1) := by decide +kernel
theorem zd_X_isMarked_24 : decode prog_1_method_27_code 24 = .ok (.getfield 16, 3) := by decide +kernel
theorem zd_X_isMarked_27 : decode prog_1_method_27_code 27 = .ok (.getfield 134, 3) := by decide +kernel
theorem zd_X_isMarked_30 : decode prog_1_method_27_code 30 = .ok (.iload_n 1, 1) := by decide +kernel
theorem zd_X_isMarked_31 : decode prog_1_method_27_code 31 = .ok (.invokevirtual 138, 3) := by decide +kernel
theorem zd_X_isMarked_34 : decode prog_1_method_27_code 34 = .ok (.ifCond .eq 7, 3) := by decide +kernel
theorem zd_X_isMarked_41 : decode prog_1_method_27_code 41 = .ok (.iconst 0, 1) := by decide +kernel
theorem zd_X_isMarked_42 : decode prog_1_method_27_code 42 = .ok (.ireturn, 1) := by decide +kernel
theorem zd_X_isMarked_37 : decode prog_1_method_27_code 37 = .ok (.iconst 1, 1) := by decide +kernel
theorem zd_X_isMarked_38 : decode prog_1_method_27_code 38 = .ok (.goto 4, 3) := by decide +kernel
theorem zd_X_congestionWindow_0 : decode prog_1_method_28_code 0 = .ok (.aload_n 0, 1) := by decide +kernel
theorem zd_X_congestionWindow_1 : decode prog_1_method_28_code 1 = .ok (.getfield 16, 3) := by decide +kernel
theorem zd_X_congestionWindow_4 : decode prog_1_method_28_code 4 = .ok (.getfield 143, 3) := by decide +kernel
theorem zd_X_congestionWindow_7 : decode prog_1_method_28_code 7 = .ok (.ireturn, 1) := by decide +kernel
theorem zd_X_threshold_0 : decode prog_1_method_29_code 0 = .ok (.aload_n 0, 1) := by decide +kernel
theorem zd_X_threshold_1 : decode prog_1_method_29_code 1 = .ok (.getfield 16, 3) := by decide +kernel
theorem zd_X_threshold_4 : decode prog_1_method_29_code 4 = .ok (.getfield 146, 3) := by decide +kernel
theorem zd_X_threshold_7 : decode prog_1_method_29_code 7 = .ok (.ireturn, 1) := by decide +kernel
theorem zd_X_duplicates_0 : decode prog_1_method_30_code 0 = .ok (.aload_n 0, 1) := by decide +kernel
theorem zd_X_duplicates_1 : decode prog_1_method_30_code 1 = .ok (.getfield 16, 3) := by decide +kernel
theorem zd_X_duplicates_4 : decode prog_1_method_30_code 4 = .ok (.getfield 149, 3) := by decide +kernel
theorem zd_X_duplicates_7 : decode prog_1_method_30_code 7 = .ok (.ireturn, 1) := by decide +kernel
theorem zd_X_recoveryEnd_0 : decode prog_1_method_31_code 0 = .ok (.aload_n 0, 1) := by decide +kernel
theorem zd_X_recoveryEnd_1 : decode prog_1_method_31_code 1 = .ok (.getfield 16, 3) := by decide +kernel
theorem zd_X_recoveryEnd_4 : decode prog_1_method_31_code 4 = .ok (.getfield 152, 3) := by decide +kernel
theorem zd_X_recoveryEnd_7 : decode prog_1_method_31_code 7 = .ok (.ireturn, 1) := by decide +kernel
theorem zd_X_timeout_0 : decode prog_1_method_32_code 0 = .ok (.aload_n 0, 1) := by decide +kernel
theorem zd_X_timeout_1 : decode prog_1_method_32_code 1 = .ok (.getfield 16, 3) := by decide +kernel
theorem zd_X_timeout_4 : decode prog_1_method_32_code 4 = .ok (.getfield 110, 3) := by decide +kernel
theorem zd_X_timeout_7 : decode prog_1_method_32_code 7 = .ok (.getfield 155, 3) := by decide +kernel
theorem zd_X_timeout_10 : decode prog_1_method_32_code 10 = .ok (.ireturn, 1) := by decide +kernel
theorem zd_X_timerEnd_0 : decode prog_1_method_33_code 0 = .ok (.aload_n 0, 1) := by decide +kernel
theorem zd_X_timerEnd_1 : decode prog_1_method_33_code 1 = .ok (.getfield 16, 3) := by decide +kernel
theorem zd_X_timerEnd_4 : decode prog_1_method_33_code 4 = .ok (.getfield 110, 3) := by decide +kernel
theorem zd_X_timerEnd_7 : decode prog_1_method_33_code 7 = .ok (.getfield 158, 3) := by decide +kernel
theorem zd_X_timerEnd_10 : decode prog_1_method_33_code 10 = .ok (.ireturn, 1) := by decide +kernel
theorem zd_X_timedEnd_0 : decode prog_1_method_36_code 0 = .ok (.aload_n 0, 1) := by decide +kernel
theorem zd_X_timedEnd_1 : decode prog_1_method_36_code 1 = .ok (.getfield 16, 3) := by decide +kernel
theorem zd_X_timedEnd_4 : decode prog_1_method_36_code 4 = .ok (.getfield 110, 3) := by decide +kernel
theorem zd_X_timedEnd_7 : decode prog_1_method_36_code 7 = .ok (.getfield 167, 3) := by decide +kernel
theorem zd_X_timedEnd_10 : decode prog_1_method_36_code 10 = .ok (.ireturn, 1) := by decide +kernel
theorem zd_X_sent_0 : decode prog_1_method_37_code 0 = .ok (.aload_n 0, 1) := by decide +kernel
theorem zd_X_sent_1 : decode prog_1_method_37_code 1 = .ok (.getfield 16, 3) := by decide +kernel
theorem zd_X_sent_4 : decode prog_1_method_37_code 4 = .ok (.getfield 170, 3) := by decide +kernel
theorem zd_X_sent_7 : decode prog_1_method_37_code 7 = .ok (.ireturn, 1) := by decide +kernel
theorem zd_X_sentAgain_0 : decode prog_1_method_38_code 0 = .ok (.aload_n 0, 1) := by decide +kernel
theorem zd_X_sentAgain_1 : decode prog_1_method_38_code 1 = .ok (.getfield 16, 3) := by decide +kernel
theorem zd_X_sentAgain_4 : decode prog_1_method_38_code 4 = .ok (.getfield 173, 3) := by decide +kernel
theorem zd_X_sentAgain_7 : decode prog_1_method_38_code 7 = .ok (.ireturn, 1) := by decide +kernel
theorem zd_X_inOrder_0 : decode prog_1_method_39_code 0 = .ok (.aload_n 0, 1) := by decide +kernel
theorem zd_X_inOrder_1 : decode prog_1_method_39_code 1 = .ok (.getfield 23, 3) := by decide +kernel
theorem zd_X_inOrder_4 : decode prog_1_method_39_code 4 = .ok (.getfield 52, 3) := by decide +kernel
theorem zd_X_inOrder_7 : decode prog_1_method_39_code 7 = .ok (.ireturn, 1) := by decide +kernel
theorem zd_X_readPosition_0 : decode prog_1_method_40_code 0 = .ok (.aload_n 0, 1) := by decide +kernel
theorem zd_X_readPosition_1 : decode prog_1_method_40_code 1 = .ok (.getfield 23, 3) := by decide +kernel
theorem zd_X_readPosition_4 : decode prog_1_method_40_code 4 = .ok (.getfield 49, 3) := by decide +kernel
theorem zd_X_readPosition_7 : decode prog_1_method_40_code 7 = .ok (.ireturn, 1) := by decide +kernel
theorem zd_X_window_0 : decode prog_1_method_41_code 0 = .ok (.aload_n 0, 1) := by decide +kernel
theorem zd_X_window_1 : decode prog_1_method_41_code 1 = .ok (.getfield 23, 3) := by decide +kernel
theorem zd_X_window_4 : decode prog_1_method_41_code 4 = .ok (.invokevirtual 176, 3) := by decide +kernel
theorem zd_X_window_7 : decode prog_1_method_41_code 7 = .ok (.ireturn, 1) := by decide +kernel
theorem zd_X_blocks_0 : decode prog_1_method_42_code 0 = .ok (.aload_n 0, 1) := by decide +kernel
theorem zd_X_blocks_1 : decode prog_1_method_42_code 1 = .ok (.getfield 23, 3) := by decide +kernel
theorem zd_X_blocks_4 : decode prog_1_method_42_code 4 = .ok (.invokevirtual 179, 3) := by decide +kernel
theorem zd_X_blocks_7 : decode prog_1_method_42_code 7 = .ok (.ireturn, 1) := by decide +kernel
theorem zd_X_blockStart_0 : decode prog_1_method_43_code 0 = .ok (.iload_n 1, 1) := by decide +kernel
theorem zd_X_blockStart_1 : decode prog_1_method_43_code 1 = .ok (.ifCond .lt 14, 3) := by decide +kernel
theorem zd_X_blockStart_4 : decode prog_1_method_43_code 4 = .ok (.iload_n 1, 1) := by decide +kernel
theorem zd_X_blockStart_5 : decode prog_1_method_43_code 5 = .ok (.aload_n 0, 1) := by decide +kernel
theorem zd_X_blockStart_6 : decode prog_1_method_43_code 6 = .ok (.getfield 23, 3) := by decide +kernel
theorem zd_X_blockStart_9 : decode prog_1_method_43_code 9 = .ok (.invokevirtual 179, 3) := by decide +kernel
theorem zd_X_blockStart_12 : decode prog_1_method_43_code 12 = .ok (.if_icmp .lt 11, 3) := by decide +kernel
theorem zd_X_blockStart_23 : decode prog_1_method_43_code 23 = .ok (.aload_n 0, 1) := by decide +kernel
theorem zd_X_blockStart_24 : decode prog_1_method_43_code 24 = .ok (.getfield 23, 3) := by decide +kernel
theorem zd_X_blockStart_27 : decode prog_1_method_43_code 27 = .ok (.iload_n 1, 1) := by decide +kernel
theorem zd_X_blockStart_28 : decode prog_1_method_43_code 28 = .ok (.invokevirtual 182, 3) := by decide +kernel
theorem zd_X_blockStart_31 : decode prog_1_method_43_code 31 = .ok (.ireturn, 1) := by decide +kernel
theorem zd_X_blockEnd_0 : decode prog_1_method_44_code 0 = .ok (.iload_n 1, 1) := by decide +kernel
theorem zd_X_blockEnd_1 : decode prog_1_method_44_code 1 = .ok (.ifCond .lt 14, 3) := by decide +kernel
theorem zd_X_blockEnd_4 : decode prog_1_method_44_code 4 = .ok (.iload_n 1, 1) := by decide +kernel
theorem zd_X_blockEnd_5 : decode prog_1_method_44_code 5 = .ok (.aload_n 0, 1) := by decide +kernel
theorem zd_X_blockEnd_6 : decode prog_1_method_44_code 6 = .ok (.getfield 23, 3) := by decide +kernel
theorem zd_X_blockEnd_9 : decode prog_1_method_44_code 9 = .ok (.invokevirtual 179, 3) := by decide +kernel
theorem zd_X_blockEnd_12 : decode prog_1_method_44_code 12 = .ok (.if_icmp .lt 11, 3) := by decide +kernel
theorem zd_X_blockEnd_23 : decode prog_1_method_44_code 23 = .ok (.aload_n 0, 1) := by decide +kernel
theorem zd_X_blockEnd_24 : decode prog_1_method_44_code 24 = .ok (.getfield 23, 3) := by decide +kernel
theorem zd_X_blockEnd_27 : decode prog_1_method_44_code 27 = .ok (.aload_n 0, 1) := by decide +kernel
theorem zd_X_blockEnd_28 : decode prog_1_method_44_code 28 = .ok (.getfield 23, 3) := by decide +kernel
theorem zd_X_blockEnd_31 : decode prog_1_method_44_code 31 = .ok (.iload_n 1, 1) := by decide +kernel
theorem zd_X_blockEnd_32 : decode prog_1_method_44_code 32 = .ok (.invokevirtual 182, 3) := by decide +kernel
theorem zd_X_blockEnd_35 : decode prog_1_method_44_code 35 = .ok (.invokevirtual 185, 3) := by decide +kernel
theorem zd_X_blockEnd_38 : decode prog_1_method_44_code 38 = .ok (.ireturn, 1) := by decide +kernel
