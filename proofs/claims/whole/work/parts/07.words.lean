theorem zm35 : (Jvm.Cond.fieldLink "SluiceStream$Positions" (9 : Nat) "SluiceStream$Positions" "numbers" "[I") ∈ zT := List.mem_filter.mpr ⟨List.mem_of_getElem? (i := 71) (by decide +kernel), by decide +kernel⟩
theorem zm36 : (Jvm.Cond.laysFinal "SluiceStream$Positions" "SluiceStream$Positions" "numbers" "[I") ∈ zT := List.mem_filter.mpr ⟨List.mem_of_getElem? (i := 72) (by decide +kernel), by decide +kernel⟩
theorem zm261 : (Jvm.Cond.methodLink "SluiceStream$Positions" (15 : Nat) ({ cls := "java/lang/Math", name := "max", desc := "(II)I" } : Jvm.MethodName)) ∈ zT := List.mem_filter.mpr ⟨List.mem_of_getElem? (i := 297) (by decide +kernel), by decide +kernel⟩
theorem zm262 : (Jvm.Cond.static ({ cls := "java/lang/Math", name := "max", desc := "(II)I" } : Jvm.MethodName)) ∈ zT := List.mem_filter.mpr ⟨List.mem_of_getElem? (i := 298) (by decide +kernel), by decide +kernel⟩
theorem zm13 : (Jvm.Cond.initialized "java/lang/Math") ∈ zT := List.mem_filter.mpr ⟨List.mem_of_getElem? (i := 49) (by decide +kernel), by decide +kernel⟩
theorem zm263 : (Jvm.Cond.code ({ cls := "java/lang/Math", name := "max", desc := "(II)I" } : Jvm.MethodName) prog_13_method_65_code (2 : Nat) (Option.some Jvm.ClassFile.FieldType.int)) ∈ zT := List.mem_filter.mpr ⟨List.mem_of_getElem? (i := 299) (by decide +kernel), by decide +kernel⟩
theorem zm245 : (Jvm.Cond.methodLink "SluiceStream$Positions" (21 : Nat) ({ cls := "SluiceStream$Positions", name := "at", desc := "(I)I" } : Jvm.MethodName)) ∈ zT := List.mem_filter.mpr ⟨List.mem_of_getElem? (i := 281) (by decide +kernel), by decide +kernel⟩
theorem zm3 : (Jvm.Cond.initialized "SluiceStream$Positions") ∈ zT := List.mem_filter.mpr ⟨List.mem_of_getElem? (i := 39) (by decide +kernel), by decide +kernel⟩
theorem zm248 : (Jvm.Cond.code ({ cls := "SluiceStream$Positions", name := "at", desc := "(I)I" } : Jvm.MethodName) prog_2_method_2_code (2 : Nat) (Option.some Jvm.ClassFile.FieldType.int)) ∈ zT := List.mem_filter.mpr ⟨List.mem_of_getElem? (i := 284) (by decide +kernel), by decide +kernel⟩
theorem zm246 : (Jvm.Cond.instanceMethod ({ cls := "SluiceStream$Positions", name := "at", desc := "(I)I" } : Jvm.MethodName)) ∈ zT := List.mem_filter.mpr ⟨List.mem_of_getElem? (i := 282) (by decide +kernel), by decide +kernel⟩
theorem zm247 : (Jvm.Cond.selects "SluiceStream$Positions" ({ cls := "SluiceStream$Positions", name := "at", desc := "(I)I" } : Jvm.MethodName) ({ cls := "SluiceStream$Positions", name := "at", desc := "(I)I" } : Jvm.MethodName)) ∈ zT := List.mem_filter.mpr ⟨List.mem_of_getElem? (i := 283) (by decide +kernel), by decide +kernel⟩
theorem zm149 : (Jvm.Cond.fieldLink "SluiceStream$Receiver" (25 : Nat) "SluiceStream$Receiver" "readAt" "I") ∈ zT := List.mem_filter.mpr ⟨List.mem_of_getElem? (i := 185) (by decide +kernel), by decide +kernel⟩
theorem zm151 : (Jvm.Cond.laysFinal "SluiceStream$Receiver" "SluiceStream$Receiver" "held" "LSluiceStream$Positions;") ∈ zT := List.mem_filter.mpr ⟨List.mem_of_getElem? (i := 187) (by decide +kernel), by decide +kernel⟩
theorem zm153 : (Jvm.Cond.lays "SluiceStream$Receiver" "SluiceStream$Receiver" "deliveries" "I") ∈ zT := List.mem_filter.mpr ⟨List.mem_of_getElem? (i := 189) (by decide +kernel), by decide +kernel⟩
theorem zm155 : (Jvm.Cond.lays "SluiceStream$Receiver" "SluiceStream$Receiver" "firstMissing" "I") ∈ zT := List.mem_filter.mpr ⟨List.mem_of_getElem? (i := 191) (by decide +kernel), by decide +kernel⟩
theorem zm157 : (Jvm.Cond.lays "SluiceStream$Receiver" "SluiceStream$Receiver" "readAt" "I") ∈ zT := List.mem_filter.mpr ⟨List.mem_of_getElem? (i := 193) (by decide +kernel), by decide +kernel⟩
theorem zm147 : (Jvm.Cond.fieldLink "SluiceStream$Receiver" (22 : Nat) "SluiceStream$Receiver" "firstMissing" "I") ∈ zT := List.mem_filter.mpr ⟨List.mem_of_getElem? (i := 183) (by decide +kernel), by decide +kernel⟩
theorem zm146 : (Jvm.Cond.fieldLink "SluiceStream$Receiver" (18 : Nat) "SluiceStream$Receiver" "deliveries" "I") ∈ zT := List.mem_filter.mpr ⟨List.mem_of_getElem? (i := 182) (by decide +kernel), by decide +kernel⟩
theorem zm145 : (Jvm.Cond.fieldLink "SluiceStream$Receiver" (12 : Nat) "SluiceStream$Receiver" "held" "LSluiceStream$Positions;") ∈ zT := List.mem_filter.mpr ⟨List.mem_of_getElem? (i := 181) (by decide +kernel), by decide +kernel⟩
theorem zm588 : (Jvm.Cond.methodLink "SluiceStream$Receiver" (28 : Nat) ({ cls := "java/lang/Math", name := "min", desc := "(II)I" } : Jvm.MethodName)) ∈ zT := List.mem_filter.mpr ⟨List.mem_of_getElem? (i := 624) (by decide +kernel), by decide +kernel⟩
theorem zm491 : (Jvm.Cond.static ({ cls := "java/lang/Math", name := "min", desc := "(II)I" } : Jvm.MethodName)) ∈ zT := List.mem_filter.mpr ⟨List.mem_of_getElem? (i := 527) (by decide +kernel), by decide +kernel⟩
theorem zm492 : (Jvm.Cond.code ({ cls := "java/lang/Math", name := "min", desc := "(II)I" } : Jvm.MethodName) prog_13_method_69_code (2 : Nat) (Option.some Jvm.ClassFile.FieldType.int)) ∈ zT := List.mem_filter.mpr ⟨List.mem_of_getElem? (i := 528) (by decide +kernel), by decide +kernel⟩
theorem zm589 : (Jvm.Cond.methodLink "SluiceStream$Receiver" (34 : Nat) ({ cls := "SluiceStream$Positions", name := "fillEmpty", desc := "(III)I" } : Jvm.MethodName)) ∈ zT := List.mem_filter.mpr ⟨List.mem_of_getElem? (i := 625) (by decide +kernel), by decide +kernel⟩
theorem zm592 : (Jvm.Cond.code ({ cls := "SluiceStream$Positions", name := "fillEmpty", desc := "(III)I" } : Jvm.MethodName) prog_2_method_3_code (6 : Nat) (Option.some Jvm.ClassFile.FieldType.int)) ∈ zT := List.mem_filter.mpr ⟨List.mem_of_getElem? (i := 628) (by decide +kernel), by decide +kernel⟩
theorem zm590 : (Jvm.Cond.instanceMethod ({ cls := "SluiceStream$Positions", name := "fillEmpty", desc := "(III)I" } : Jvm.MethodName)) ∈ zT := List.mem_filter.mpr ⟨List.mem_of_getElem? (i := 626) (by decide +kernel), by decide +kernel⟩
theorem zm591 : (Jvm.Cond.selects "SluiceStream$Positions" ({ cls := "SluiceStream$Positions", name := "fillEmpty", desc := "(III)I" } : Jvm.MethodName) ({ cls := "SluiceStream$Positions", name := "fillEmpty", desc := "(III)I" } : Jvm.MethodName)) ∈ zT := List.mem_filter.mpr ⟨List.mem_of_getElem? (i := 627) (by decide +kernel), by decide +kernel⟩
theorem zm253 : (Jvm.Cond.methodLink "SluiceStream$Receiver" (38 : Nat) ({ cls := "SluiceStream$Positions", name := "firstEmpty", desc := "(II)I" } : Jvm.MethodName)) ∈ zT := List.mem_filter.mpr ⟨List.mem_of_getElem? (i := 289) (by decide +kernel), by decide +kernel⟩
theorem zm256 : (Jvm.Cond.code ({ cls := "SluiceStream$Positions", name := "firstEmpty", desc := "(II)I" } : Jvm.MethodName) prog_2_method_6_code (4 : Nat) (Option.some Jvm.ClassFile.FieldType.int)) ∈ zT := List.mem_filter.mpr ⟨List.mem_of_getElem? (i := 292) (by decide +kernel), by decide +kernel⟩
theorem zm254 : (Jvm.Cond.instanceMethod ({ cls := "SluiceStream$Positions", name := "firstEmpty", desc := "(II)I" } : Jvm.MethodName)) ∈ zT := List.mem_filter.mpr ⟨List.mem_of_getElem? (i := 290) (by decide +kernel), by decide +kernel⟩
theorem zm255 : (Jvm.Cond.selects "SluiceStream$Positions" ({ cls := "SluiceStream$Positions", name := "firstEmpty", desc := "(II)I" } : Jvm.MethodName) ({ cls := "SluiceStream$Positions", name := "firstEmpty", desc := "(II)I" } : Jvm.MethodName)) ∈ zT := List.mem_filter.mpr ⟨List.mem_of_getElem? (i := 291) (by decide +kernel), by decide +kernel⟩
theorem zm201 : (Jvm.Cond.methodLink "SluiceStream$Receiver" (41 : Nat) ({ cls := "SluiceStream$Receiver", name := "room", desc := "()I" } : Jvm.MethodName)) ∈ zT := List.mem_filter.mpr ⟨List.mem_of_getElem? (i := 237) (by decide +kernel), by decide +kernel⟩
theorem zm5 : (Jvm.Cond.initialized "SluiceStream$Receiver") ∈ zT := List.mem_filter.mpr ⟨List.mem_of_getElem? (i := 41) (by decide +kernel), by decide +kernel⟩
theorem zm204 : (Jvm.Cond.code ({ cls := "SluiceStream$Receiver", name := "room", desc := "()I" } : Jvm.MethodName) prog_3_method_2_code (1 : Nat) (Option.some Jvm.ClassFile.FieldType.int)) ∈ zT := List.mem_filter.mpr ⟨List.mem_of_getElem? (i := 240) (by decide +kernel), by decide +kernel⟩
theorem zm202 : (Jvm.Cond.instanceMethod ({ cls := "SluiceStream$Receiver", name := "room", desc := "()I" } : Jvm.MethodName)) ∈ zT := List.mem_filter.mpr ⟨List.mem_of_getElem? (i := 238) (by decide +kernel), by decide +kernel⟩
theorem zm203 : (Jvm.Cond.selects "SluiceStream$Receiver" ({ cls := "SluiceStream$Receiver", name := "room", desc := "()I" } : Jvm.MethodName) ({ cls := "SluiceStream$Receiver", name := "room", desc := "()I" } : Jvm.MethodName)) ∈ zT := List.mem_filter.mpr ⟨List.mem_of_getElem? (i := 239) (by decide +kernel), by decide +kernel⟩
theorem zm168 : (Jvm.Cond.fieldLink "SluiceStream$Rows" (9 : Nat) "SluiceStream$Rows" "size" "I") ∈ zT := List.mem_filter.mpr ⟨List.mem_of_getElem? (i := 204) (by decide +kernel), by decide +kernel⟩
theorem zm170 : (Jvm.Cond.laysFinal "SluiceStream$Rows" "SluiceStream$Rows" "columns" "I") ∈ zT := List.mem_filter.mpr ⟨List.mem_of_getElem? (i := 206) (by decide +kernel), by decide +kernel⟩
theorem zm172 : (Jvm.Cond.laysFinal "SluiceStream$Rows" "SluiceStream$Rows" "cells" "[I") ∈ zT := List.mem_filter.mpr ⟨List.mem_of_getElem? (i := 208) (by decide +kernel), by decide +kernel⟩
theorem zm174 : (Jvm.Cond.lays "SluiceStream$Rows" "SluiceStream$Rows" "size" "I") ∈ zT := List.mem_filter.mpr ⟨List.mem_of_getElem? (i := 210) (by decide +kernel), by decide +kernel⟩
theorem zm166 : (Jvm.Cond.fieldLink "SluiceStream$Rows" (15 : Nat) "SluiceStream$Rows" "columns" "I") ∈ zT := List.mem_filter.mpr ⟨List.mem_of_getElem? (i := 202) (by decide +kernel), by decide +kernel⟩
theorem zm167 : (Jvm.Cond.fieldLink "SluiceStream$Rows" (18 : Nat) "SluiceStream$Rows" "cells" "[I") ∈ zT := List.mem_filter.mpr ⟨List.mem_of_getElem? (i := 203) (by decide +kernel), by decide +kernel⟩
theorem zm217 : (Jvm.Cond.methodLink "SluiceStream$Rows" (22 : Nat) ({ cls := "SluiceStream$Rows", name := "holds", desc := "(I)Z" } : Jvm.MethodName)) ∈ zT := List.mem_filter.mpr ⟨List.mem_of_getElem? (i := 253) (by decide +kernel), by decide +kernel⟩
theorem zm6 : (Jvm.Cond.initialized "SluiceStream$Rows") ∈ zT := List.mem_filter.mpr ⟨List.mem_of_getElem? (i := 42) (by decide +kernel), by decide +kernel⟩
theorem zm220 : (Jvm.Cond.code ({ cls := "SluiceStream$Rows", name := "holds", desc := "(I)Z" } : Jvm.MethodName) prog_4_method_2_code (2 : Nat) (Option.some Jvm.ClassFile.FieldType.boolean)) ∈ zT := List.mem_filter.mpr ⟨List.mem_of_getElem? (i := 256) (by decide +kernel), by decide +kernel⟩
theorem zm218 : (Jvm.Cond.instanceMethod ({ cls := "SluiceStream$Rows", name := "holds", desc := "(I)Z" } : Jvm.MethodName)) ∈ zT := List.mem_filter.mpr ⟨List.mem_of_getElem? (i := 254) (by decide +kernel), by decide +kernel⟩
theorem zm219 : (Jvm.Cond.selects "SluiceStream$Rows" ({ cls := "SluiceStream$Rows", name := "holds", desc := "(I)Z" } : Jvm.MethodName) ({ cls := "SluiceStream$Rows", name := "holds", desc := "(I)Z" } : Jvm.MethodName)) ∈ zT := List.mem_filter.mpr ⟨List.mem_of_getElem? (i := 255) (by decide +kernel), by decide +kernel⟩
theorem zm241 : (Jvm.Cond.methodLink "SluiceStream$Receiver" (79 : Nat) ({ cls := "SluiceStream$Positions", name := "firstFilled", desc := "(II)I" } : Jvm.MethodName)) ∈ zT := List.mem_filter.mpr ⟨List.mem_of_getElem? (i := 277) (by decide +kernel), by decide +kernel⟩
theorem zm244 : (Jvm.Cond.code ({ cls := "SluiceStream$Positions", name := "firstFilled", desc := "(II)I" } : Jvm.MethodName) prog_2_method_7_code (4 : Nat) (Option.some Jvm.ClassFile.FieldType.int)) ∈ zT := List.mem_filter.mpr ⟨List.mem_of_getElem? (i := 280) (by decide +kernel), by decide +kernel⟩
theorem zm242 : (Jvm.Cond.instanceMethod ({ cls := "SluiceStream$Positions", name := "firstFilled", desc := "(II)I" } : Jvm.MethodName)) ∈ zT := List.mem_filter.mpr ⟨List.mem_of_getElem? (i := 278) (by decide +kernel), by decide +kernel⟩
theorem zm243 : (Jvm.Cond.selects "SluiceStream$Positions" ({ cls := "SluiceStream$Positions", name := "firstFilled", desc := "(II)I" } : Jvm.MethodName) ({ cls := "SluiceStream$Positions", name := "firstFilled", desc := "(II)I" } : Jvm.MethodName)) ∈ zT := List.mem_filter.mpr ⟨List.mem_of_getElem? (i := 279) (by decide +kernel), by decide +kernel⟩
theorem zm249 : (Jvm.Cond.methodLink "SluiceStream$Receiver" (70 : Nat) ({ cls := "SluiceStream$Receiver", name := "endOfRun", desc := "(I)I" } : Jvm.MethodName)) ∈ zT := List.mem_filter.mpr ⟨List.mem_of_getElem? (i := 285) (by decide +kernel), by decide +kernel⟩
theorem zm252 : (Jvm.Cond.code ({ cls := "SluiceStream$Receiver", name := "endOfRun", desc := "(I)I" } : Jvm.MethodName) prog_3_method_10_code (2 : Nat) (Option.some Jvm.ClassFile.FieldType.int)) ∈ zT := List.mem_filter.mpr ⟨List.mem_of_getElem? (i := 288) (by decide +kernel), by decide +kernel⟩
theorem zm250 : (Jvm.Cond.instanceMethod ({ cls := "SluiceStream$Receiver", name := "endOfRun", desc := "(I)I" } : Jvm.MethodName)) ∈ zT := List.mem_filter.mpr ⟨List.mem_of_getElem? (i := 286) (by decide +kernel), by decide +kernel⟩
theorem zm251 : (Jvm.Cond.selects "SluiceStream$Receiver" ({ cls := "SluiceStream$Receiver", name := "endOfRun", desc := "(I)I" } : Jvm.MethodName) ({ cls := "SluiceStream$Receiver", name := "endOfRun", desc := "(I)I" } : Jvm.MethodName)) ∈ zT := List.mem_filter.mpr ⟨List.mem_of_getElem? (i := 287) (by decide +kernel), by decide +kernel⟩
theorem zm257 : (Jvm.Cond.methodLink "SluiceStream$Receiver" (73 : Nat) ({ cls := "SluiceStream$Positions", name := "greatest", desc := "(II)I" } : Jvm.MethodName)) ∈ zT := List.mem_filter.mpr ⟨List.mem_of_getElem? (i := 293) (by decide +kernel), by decide +kernel⟩
theorem zm260 : (Jvm.Cond.code ({ cls := "SluiceStream$Positions", name := "greatest", desc := "(II)I" } : Jvm.MethodName) prog_2_method_8_code (5 : Nat) (Option.some Jvm.ClassFile.FieldType.int)) ∈ zT := List.mem_filter.mpr ⟨List.mem_of_getElem? (i := 296) (by decide +kernel), by decide +kernel⟩
theorem zm258 : (Jvm.Cond.instanceMethod ({ cls := "SluiceStream$Positions", name := "greatest", desc := "(II)I" } : Jvm.MethodName)) ∈ zT := List.mem_filter.mpr ⟨List.mem_of_getElem? (i := 294) (by decide +kernel), by decide +kernel⟩
theorem zm259 : (Jvm.Cond.selects "SluiceStream$Positions" ({ cls := "SluiceStream$Positions", name := "greatest", desc := "(II)I" } : Jvm.MethodName) ({ cls := "SluiceStream$Positions", name := "greatest", desc := "(II)I" } : Jvm.MethodName)) ∈ zT := List.mem_filter.mpr ⟨List.mem_of_getElem? (i := 295) (by decide +kernel), by decide +kernel⟩
theorem zm237 : (Jvm.Cond.methodLink "SluiceStream$Receiver" (76 : Nat) ({ cls := "SluiceStream$Receiver", name := "blockFrom", desc := "(I)I" } : Jvm.MethodName)) ∈ zT := List.mem_filter.mpr ⟨List.mem_of_getElem? (i := 273) (by decide +kernel), by decide +kernel⟩
theorem zm240 : (Jvm.Cond.code ({ cls := "SluiceStream$Receiver", name := "blockFrom", desc := "(I)I" } : Jvm.MethodName) prog_3_method_11_code (4 : Nat) (Option.some Jvm.ClassFile.FieldType.int)) ∈ zT := List.mem_filter.mpr ⟨List.mem_of_getElem? (i := 276) (by decide +kernel), by decide +kernel⟩
theorem zm239 : (Jvm.Cond.instanceMethod ({ cls := "SluiceStream$Receiver", name := "blockFrom", desc := "(I)I" } : Jvm.MethodName)) ∈ zT := List.mem_filter.mpr ⟨List.mem_of_getElem? (i := 275) (by decide +kernel), by decide +kernel⟩
theorem zms2 : Jvm.Cond.selects "SluiceStream$Receiver" ({ cls := "SluiceStream$Receiver", name := "blockFrom", desc := "(I)I" } : Jvm.MethodName) ({ cls := "SluiceStream$Receiver", name := "blockFrom", desc := "(I)I" } : Jvm.MethodName) ∈ zT := List.mem_filter.mpr ⟨List.mem_of_getElem? (i := 2) (by decide +kernel), by decide +kernel⟩
theorem zm233 : (Jvm.Cond.methodLink "SluiceStream$Receiver" (66 : Nat) ({ cls := "SluiceStream$Receiver", name := "newestBlockBefore", desc := "(I)I" } : Jvm.MethodName)) ∈ zT := List.mem_filter.mpr ⟨List.mem_of_getElem? (i := 269) (by decide +kernel), by decide +kernel⟩
theorem zm236 : (Jvm.Cond.code ({ cls := "SluiceStream$Receiver", name := "newestBlockBefore", desc := "(I)I" } : Jvm.MethodName) prog_3_method_7_code (8 : Nat) (Option.some Jvm.ClassFile.FieldType.int)) ∈ zT := List.mem_filter.mpr ⟨List.mem_of_getElem? (i := 272) (by decide +kernel), by decide +kernel⟩
theorem zm235 : (Jvm.Cond.instanceMethod ({ cls := "SluiceStream$Receiver", name := "newestBlockBefore", desc := "(I)I" } : Jvm.MethodName)) ∈ zT := List.mem_filter.mpr ⟨List.mem_of_getElem? (i := 271) (by decide +kernel), by decide +kernel⟩
theorem zms1 : Jvm.Cond.selects "SluiceStream$Receiver" ({ cls := "SluiceStream$Receiver", name := "newestBlockBefore", desc := "(I)I" } : Jvm.MethodName) ({ cls := "SluiceStream$Receiver", name := "newestBlockBefore", desc := "(I)I" } : Jvm.MethodName) ∈ zT := List.mem_filter.mpr ⟨List.mem_of_getElem? (i := 1) (by decide +kernel), by decide +kernel⟩
theorem zm225 : (Jvm.Cond.methodLink "SluiceStream$Receiver" (58 : Nat) ({ cls := "SluiceStream$Rows", name := "setCell", desc := "(III)V" } : Jvm.MethodName)) ∈ zT := List.mem_filter.mpr ⟨List.mem_of_getElem? (i := 261) (by decide +kernel), by decide +kernel⟩
theorem zm228 : (Jvm.Cond.code ({ cls := "SluiceStream$Rows", name := "setCell", desc := "(III)V" } : Jvm.MethodName) prog_4_method_5_code (5 : Nat) (Option.none : Option Jvm.ClassFile.FieldType)) ∈ zT := List.mem_filter.mpr ⟨List.mem_of_getElem? (i := 264) (by decide +kernel), by decide +kernel⟩
theorem zm226 : (Jvm.Cond.instanceMethod ({ cls := "SluiceStream$Rows", name := "setCell", desc := "(III)V" } : Jvm.MethodName)) ∈ zT := List.mem_filter.mpr ⟨List.mem_of_getElem? (i := 262) (by decide +kernel), by decide +kernel⟩
theorem zm227 : (Jvm.Cond.selects "SluiceStream$Rows" ({ cls := "SluiceStream$Rows", name := "setCell", desc := "(III)V" } : Jvm.MethodName) ({ cls := "SluiceStream$Rows", name := "setCell", desc := "(III)V" } : Jvm.MethodName)) ∈ zT := List.mem_filter.mpr ⟨List.mem_of_getElem? (i := 263) (by decide +kernel), by decide +kernel⟩
theorem zm209 : (Jvm.Cond.methodLink "SluiceStream$Receiver" (45 : Nat) ({ cls := "SluiceStream$Rows", name := "isFull", desc := "()Z" } : Jvm.MethodName)) ∈ zT := List.mem_filter.mpr ⟨List.mem_of_getElem? (i := 245) (by decide +kernel), by decide +kernel⟩
theorem zm212 : (Jvm.Cond.code ({ cls := "SluiceStream$Rows", name := "isFull", desc := "()Z" } : Jvm.MethodName) prog_4_method_3_code (1 : Nat) (Option.some Jvm.ClassFile.FieldType.boolean)) ∈ zT := List.mem_filter.mpr ⟨List.mem_of_getElem? (i := 248) (by decide +kernel), by decide +kernel⟩
theorem zm210 : (Jvm.Cond.instanceMethod ({ cls := "SluiceStream$Rows", name := "isFull", desc := "()Z" } : Jvm.MethodName)) ∈ zT := List.mem_filter.mpr ⟨List.mem_of_getElem? (i := 246) (by decide +kernel), by decide +kernel⟩
theorem zm211 : (Jvm.Cond.selects "SluiceStream$Rows" ({ cls := "SluiceStream$Rows", name := "isFull", desc := "()Z" } : Jvm.MethodName) ({ cls := "SluiceStream$Rows", name := "isFull", desc := "()Z" } : Jvm.MethodName)) ∈ zT := List.mem_filter.mpr ⟨List.mem_of_getElem? (i := 247) (by decide +kernel), by decide +kernel⟩
theorem zm221 : (Jvm.Cond.methodLink "SluiceStream$Receiver" (55 : Nat) ({ cls := "SluiceStream$Rows", name := "addRow", desc := "()I" } : Jvm.MethodName)) ∈ zT := List.mem_filter.mpr ⟨List.mem_of_getElem? (i := 257) (by decide +kernel), by decide +kernel⟩
theorem zm224 : (Jvm.Cond.code ({ cls := "SluiceStream$Rows", name := "addRow", desc := "()I" } : Jvm.MethodName) prog_4_method_6_code (1 : Nat) (Option.some Jvm.ClassFile.FieldType.int)) ∈ zT := List.mem_filter.mpr ⟨List.mem_of_getElem? (i := 260) (by decide +kernel), by decide +kernel⟩
theorem zm222 : (Jvm.Cond.instanceMethod ({ cls := "SluiceStream$Rows", name := "addRow", desc := "()I" } : Jvm.MethodName)) ∈ zT := List.mem_filter.mpr ⟨List.mem_of_getElem? (i := 258) (by decide +kernel), by decide +kernel⟩
theorem zm223 : (Jvm.Cond.selects "SluiceStream$Rows" ({ cls := "SluiceStream$Rows", name := "addRow", desc := "()I" } : Jvm.MethodName) ({ cls := "SluiceStream$Rows", name := "addRow", desc := "()I" } : Jvm.MethodName)) ∈ zT := List.mem_filter.mpr ⟨List.mem_of_getElem? (i := 259) (by decide +kernel), by decide +kernel⟩
theorem zm229 : (Jvm.Cond.methodLink "SluiceStream$Receiver" (62 : Nat) ({ cls := "SluiceStream$Receiver", name := "tellBlocks", desc := "(LSluiceStream$Rows;I)I" } : Jvm.MethodName)) ∈ zT := List.mem_filter.mpr ⟨List.mem_of_getElem? (i := 265) (by decide +kernel), by decide +kernel⟩
theorem zm232 : (Jvm.Cond.code ({ cls := "SluiceStream$Receiver", name := "tellBlocks", desc := "(LSluiceStream$Rows;I)I" } : Jvm.MethodName) prog_3_method_6_code (8 : Nat) (Option.some Jvm.ClassFile.FieldType.int)) ∈ zT := List.mem_filter.mpr ⟨List.mem_of_getElem? (i := 268) (by decide +kernel), by decide +kernel⟩
theorem zm231 : (Jvm.Cond.instanceMethod ({ cls := "SluiceStream$Receiver", name := "tellBlocks", desc := "(LSluiceStream$Rows;I)I" } : Jvm.MethodName)) ∈ zT := List.mem_filter.mpr ⟨List.mem_of_getElem? (i := 267) (by decide +kernel), by decide +kernel⟩
theorem zms0 : Jvm.Cond.selects "SluiceStream$Receiver" ({ cls := "SluiceStream$Receiver", name := "tellBlocks", desc := "(LSluiceStream$Rows;I)I" } : Jvm.MethodName) ({ cls := "SluiceStream$Receiver", name := "tellBlocks", desc := "(LSluiceStream$Rows;I)I" } : Jvm.MethodName) ∈ zT := List.mem_filter.mpr ⟨List.mem_of_getElem? (i := 0) (by decide +kernel), by decide +kernel⟩
theorem zm213 : (Jvm.Cond.methodLink "SluiceStream$Receiver" (51 : Nat) ({ cls := "SluiceStream$Rows", name := "remove", desc := "(I)V" } : Jvm.MethodName)) ∈ zT := List.mem_filter.mpr ⟨List.mem_of_getElem? (i := 249) (by decide +kernel), by decide +kernel⟩
theorem zm216 : (Jvm.Cond.code ({ cls := "SluiceStream$Rows", name := "remove", desc := "(I)V" } : Jvm.MethodName) prog_4_method_7_code (3 : Nat) (Option.none : Option Jvm.ClassFile.FieldType)) ∈ zT := List.mem_filter.mpr ⟨List.mem_of_getElem? (i := 252) (by decide +kernel), by decide +kernel⟩
theorem zm214 : (Jvm.Cond.instanceMethod ({ cls := "SluiceStream$Rows", name := "remove", desc := "(I)V" } : Jvm.MethodName)) ∈ zT := List.mem_filter.mpr ⟨List.mem_of_getElem? (i := 250) (by decide +kernel), by decide +kernel⟩
theorem zm215 : (Jvm.Cond.selects "SluiceStream$Rows" ({ cls := "SluiceStream$Rows", name := "remove", desc := "(I)V" } : Jvm.MethodName) ({ cls := "SluiceStream$Rows", name := "remove", desc := "(I)V" } : Jvm.MethodName)) ∈ zT := List.mem_filter.mpr ⟨List.mem_of_getElem? (i := 251) (by decide +kernel), by decide +kernel⟩
theorem zm77 : (Jvm.Cond.fieldLink "SluiceStream$Sender" (12 : Nat) "SluiceStream$Sender" "marks" "LSluiceStream$Positions;") ∈ zT := List.mem_filter.mpr ⟨List.mem_of_getElem? (i := 113) (by decide +kernel), by decide +kernel⟩
theorem zm106 : (Jvm.Cond.laysFinal "SluiceStream$Sender" "SluiceStream$Sender" "marks" "LSluiceStream$Positions;") ∈ zT := List.mem_filter.mpr ⟨List.mem_of_getElem? (i := 142) (by decide +kernel), by decide +kernel⟩
theorem zm108 : (Jvm.Cond.laysFinal "SluiceStream$Sender" "SluiceStream$Sender" "timer" "LSluiceStream$Timer;") ∈ zT := List.mem_filter.mpr ⟨List.mem_of_getElem? (i := 144) (by decide +kernel), by decide +kernel⟩
theorem zm110 : (Jvm.Cond.lays "SluiceStream$Sender" "SluiceStream$Sender" "acked" "I") ∈ zT := List.mem_filter.mpr ⟨List.mem_of_getElem? (i := 146) (by decide +kernel), by decide +kernel⟩
theorem zm112 : (Jvm.Cond.lays "SluiceStream$Sender" "SluiceStream$Sender" "toSend" "I") ∈ zT := List.mem_filter.mpr ⟨List.mem_of_getElem? (i := 148) (by decide +kernel), by decide +kernel⟩
theorem zm114 : (Jvm.Cond.lays "SluiceStream$Sender" "SluiceStream$Sender" "sentBelow" "I") ∈ zT := List.mem_filter.mpr ⟨List.mem_of_getElem? (i := 150) (by decide +kernel), by decide +kernel⟩
theorem zm116 : (Jvm.Cond.lays "SluiceStream$Sender" "SluiceStream$Sender" "writtenBytes" "I") ∈ zT := List.mem_filter.mpr ⟨List.mem_of_getElem? (i := 152) (by decide +kernel), by decide +kernel⟩
theorem zm118 : (Jvm.Cond.lays "SluiceStream$Sender" "SluiceStream$Sender" "edgeAt" "I") ∈ zT := List.mem_filter.mpr ⟨List.mem_of_getElem? (i := 154) (by decide +kernel), by decide +kernel⟩
theorem zm120 : (Jvm.Cond.lays "SluiceStream$Sender" "SluiceStream$Sender" "congestion" "I") ∈ zT := List.mem_filter.mpr ⟨List.mem_of_getElem? (i := 156) (by decide +kernel), by decide +kernel⟩
theorem zm122 : (Jvm.Cond.lays "SluiceStream$Sender" "SluiceStream$Sender" "slowFrom" "I") ∈ zT := List.mem_filter.mpr ⟨List.mem_of_getElem? (i := 158) (by decide +kernel), by decide +kernel⟩
theorem zm124 : (Jvm.Cond.lays "SluiceStream$Sender" "SluiceStream$Sender" "limit" "I") ∈ zT := List.mem_filter.mpr ⟨List.mem_of_getElem? (i := 160) (by decide +kernel), by decide +kernel⟩
theorem zm126 : (Jvm.Cond.lays "SluiceStream$Sender" "SluiceStream$Sender" "duplicateCount" "I") ∈ zT := List.mem_filter.mpr ⟨List.mem_of_getElem? (i := 162) (by decide +kernel), by decide +kernel⟩
theorem zm128 : (Jvm.Cond.lays "SluiceStream$Sender" "SluiceStream$Sender" "recoversTo" "I") ∈ zT := List.mem_filter.mpr ⟨List.mem_of_getElem? (i := 164) (by decide +kernel), by decide +kernel⟩
theorem zm130 : (Jvm.Cond.lays "SluiceStream$Sender" "SluiceStream$Sender" "repairsFrom" "I") ∈ zT := List.mem_filter.mpr ⟨List.mem_of_getElem? (i := 166) (by decide +kernel), by decide +kernel⟩
theorem zm132 : (Jvm.Cond.lays "SluiceStream$Sender" "SluiceStream$Sender" "sentCount" "I") ∈ zT := List.mem_filter.mpr ⟨List.mem_of_getElem? (i := 168) (by decide +kernel), by decide +kernel⟩
theorem zm134 : (Jvm.Cond.lays "SluiceStream$Sender" "SluiceStream$Sender" "sentAgainCount" "I") ∈ zT := List.mem_filter.mpr ⟨List.mem_of_getElem? (i := 170) (by decide +kernel), by decide +kernel⟩
theorem zm81 : (Jvm.Cond.fieldLink "SluiceStream$Sender" (25 : Nat) "SluiceStream$Sender" "acked" "I") ∈ zT := List.mem_filter.mpr ⟨List.mem_of_getElem? (i := 117) (by decide +kernel), by decide +kernel⟩
theorem zm83 : (Jvm.Cond.fieldLink "SluiceStream$Sender" (29 : Nat) "SluiceStream$Sender" "toSend" "I") ∈ zT := List.mem_filter.mpr ⟨List.mem_of_getElem? (i := 119) (by decide +kernel), by decide +kernel⟩
theorem zm304 : (Jvm.Cond.methodLink "SluiceStream$Sender" (65 : Nat) ({ cls := "SluiceStream$Positions", name := "countEmpty", desc := "(II)I" } : Jvm.MethodName)) ∈ zT := List.mem_filter.mpr ⟨List.mem_of_getElem? (i := 340) (by decide +kernel), by decide +kernel⟩
theorem zm307 : (Jvm.Cond.code ({ cls := "SluiceStream$Positions", name := "countEmpty", desc := "(II)I" } : Jvm.MethodName) prog_2_method_5_code (5 : Nat) (Option.some Jvm.ClassFile.FieldType.int)) ∈ zT := List.mem_filter.mpr ⟨List.mem_of_getElem? (i := 343) (by decide +kernel), by decide +kernel⟩
theorem zm305 : (Jvm.Cond.instanceMethod ({ cls := "SluiceStream$Positions", name := "countEmpty", desc := "(II)I" } : Jvm.MethodName)) ∈ zT := List.mem_filter.mpr ⟨List.mem_of_getElem? (i := 341) (by decide +kernel), by decide +kernel⟩
theorem zm306 : (Jvm.Cond.selects "SluiceStream$Positions" ({ cls := "SluiceStream$Positions", name := "countEmpty", desc := "(II)I" } : Jvm.MethodName) ({ cls := "SluiceStream$Positions", name := "countEmpty", desc := "(II)I" } : Jvm.MethodName)) ∈ zT := List.mem_filter.mpr ⟨List.mem_of_getElem? (i := 342) (by decide +kernel), by decide +kernel⟩
theorem zm99 : (Jvm.Cond.fieldLink "SluiceStream$Sender" (53 : Nat) "SluiceStream$Sender" "recoversTo" "I") ∈ zT := List.mem_filter.mpr ⟨List.mem_of_getElem? (i := 135) (by decide +kernel), by decide +kernel⟩
theorem zm101 : (Jvm.Cond.fieldLink "SluiceStream$Sender" (56 : Nat) "SluiceStream$Sender" "repairsFrom" "I") ∈ zT := List.mem_filter.mpr ⟨List.mem_of_getElem? (i := 137) (by decide +kernel), by decide +kernel⟩
theorem zm483 : (Jvm.Cond.methodLink "SluiceStream$Sender" (95 : Nat) ({ cls := "java/lang/Math", name := "max", desc := "(II)I" } : Jvm.MethodName)) ∈ zT := List.mem_filter.mpr ⟨List.mem_of_getElem? (i := 519) (by decide +kernel), by decide +kernel⟩
theorem zm484 : (Jvm.Cond.methodLink "SluiceStream$Sender" (76 : Nat) ({ cls := "SluiceStream$Positions", name := "firstEmpty", desc := "(II)I" } : Jvm.MethodName)) ∈ zT := List.mem_filter.mpr ⟨List.mem_of_getElem? (i := 520) (by decide +kernel), by decide +kernel⟩
theorem zm85 : (Jvm.Cond.fieldLink "SluiceStream$Sender" (32 : Nat) "SluiceStream$Sender" "sentBelow" "I") ∈ zT := List.mem_filter.mpr ⟨List.mem_of_getElem? (i := 121) (by decide +kernel), by decide +kernel⟩
theorem zm485 : (Jvm.Cond.methodLink "SluiceStream$Sender" (100 : Nat) ({ cls := "SluiceStream$Positions", name := "firstFilled", desc := "(II)I" } : Jvm.MethodName)) ∈ zT := List.mem_filter.mpr ⟨List.mem_of_getElem? (i := 521) (by decide +kernel), by decide +kernel⟩
theorem zm490 : (Jvm.Cond.methodLink "SluiceStream$Sender" (103 : Nat) ({ cls := "java/lang/Math", name := "min", desc := "(II)I" } : Jvm.MethodName)) ∈ zT := List.mem_filter.mpr ⟨List.mem_of_getElem? (i := 526) (by decide +kernel), by decide +kernel⟩
theorem zm87 : (Jvm.Cond.fieldLink "SluiceStream$Sender" (35 : Nat) "SluiceStream$Sender" "writtenBytes" "I") ∈ zT := List.mem_filter.mpr ⟨List.mem_of_getElem? (i := 123) (by decide +kernel), by decide +kernel⟩
theorem zm497 : (Jvm.Cond.methodLink "SluiceStream$Sender" (106 : Nat) ({ cls := "SluiceStream$Sender", name := "countFlying", desc := "()I" } : Jvm.MethodName)) ∈ zT := List.mem_filter.mpr ⟨List.mem_of_getElem? (i := 533) (by decide +kernel), by decide +kernel⟩
theorem zm2 : (Jvm.Cond.initialized "SluiceStream$Sender") ∈ zT := List.mem_filter.mpr ⟨List.mem_of_getElem? (i := 38) (by decide +kernel), by decide +kernel⟩
theorem zm303 : (Jvm.Cond.code ({ cls := "SluiceStream$Sender", name := "countFlying", desc := "()I" } : Jvm.MethodName) prog_5_method_2_code (1 : Nat) (Option.some Jvm.ClassFile.FieldType.int)) ∈ zT := List.mem_filter.mpr ⟨List.mem_of_getElem? (i := 339) (by decide +kernel), by decide +kernel⟩
theorem zm301 : (Jvm.Cond.instanceMethod ({ cls := "SluiceStream$Sender", name := "countFlying", desc := "()I" } : Jvm.MethodName)) ∈ zT := List.mem_filter.mpr ⟨List.mem_of_getElem? (i := 337) (by decide +kernel), by decide +kernel⟩
theorem zm302 : (Jvm.Cond.selects "SluiceStream$Sender" ({ cls := "SluiceStream$Sender", name := "countFlying", desc := "()I" } : Jvm.MethodName) ({ cls := "SluiceStream$Sender", name := "countFlying", desc := "()I" } : Jvm.MethodName)) ∈ zT := List.mem_filter.mpr ⟨List.mem_of_getElem? (i := 338) (by decide +kernel), by decide +kernel⟩
theorem zm89 : (Jvm.Cond.fieldLink "SluiceStream$Sender" (38 : Nat) "SluiceStream$Sender" "edgeAt" "I") ∈ zT := List.mem_filter.mpr ⟨List.mem_of_getElem? (i := 125) (by decide +kernel), by decide +kernel⟩
theorem zm486 : (Jvm.Cond.methodLink "SluiceStream$Sender" (73 : Nat) ({ cls := "SluiceStream$Sender", name := "endOfRun", desc := "(II)I" } : Jvm.MethodName)) ∈ zT := List.mem_filter.mpr ⟨List.mem_of_getElem? (i := 522) (by decide +kernel), by decide +kernel⟩
theorem zm489 : (Jvm.Cond.code ({ cls := "SluiceStream$Sender", name := "endOfRun", desc := "(II)I" } : Jvm.MethodName) prog_5_method_5_code (3 : Nat) (Option.some Jvm.ClassFile.FieldType.int)) ∈ zT := List.mem_filter.mpr ⟨List.mem_of_getElem? (i := 525) (by decide +kernel), by decide +kernel⟩
theorem zm488 : (Jvm.Cond.instanceMethod ({ cls := "SluiceStream$Sender", name := "endOfRun", desc := "(II)I" } : Jvm.MethodName)) ∈ zT := List.mem_filter.mpr ⟨List.mem_of_getElem? (i := 524) (by decide +kernel), by decide +kernel⟩
theorem zms5 : Jvm.Cond.selects "SluiceStream$Sender" ({ cls := "SluiceStream$Sender", name := "endOfRun", desc := "(II)I" } : Jvm.MethodName) ({ cls := "SluiceStream$Sender", name := "endOfRun", desc := "(II)I" } : Jvm.MethodName) ∈ zT := List.mem_filter.mpr ⟨List.mem_of_getElem? (i := 5) (by decide +kernel), by decide +kernel⟩
theorem zm91 : (Jvm.Cond.fieldLink "SluiceStream$Sender" (41 : Nat) "SluiceStream$Sender" "congestion" "I") ∈ zT := List.mem_filter.mpr ⟨List.mem_of_getElem? (i := 127) (by decide +kernel), by decide +kernel⟩
theorem zm95 : (Jvm.Cond.fieldLink "SluiceStream$Sender" (47 : Nat) "SluiceStream$Sender" "limit" "I") ∈ zT := List.mem_filter.mpr ⟨List.mem_of_getElem? (i := 131) (by decide +kernel), by decide +kernel⟩
theorem zm52 : (Jvm.Cond.fieldLink "SluiceStream$Timer" (21 : Nat) "SluiceStream$Timer" "timedTo" "I") ∈ zT := List.mem_filter.mpr ⟨List.mem_of_getElem? (i := 88) (by decide +kernel), by decide +kernel⟩
theorem zm60 : (Jvm.Cond.lays "SluiceStream$Timer" "SluiceStream$Timer" "now" "I") ∈ zT := List.mem_filter.mpr ⟨List.mem_of_getElem? (i := 96) (by decide +kernel), by decide +kernel⟩
theorem zm62 : (Jvm.Cond.lays "SluiceStream$Timer" "SluiceStream$Timer" "span" "I") ∈ zT := List.mem_filter.mpr ⟨List.mem_of_getElem? (i := 98) (by decide +kernel), by decide +kernel⟩
theorem zm64 : (Jvm.Cond.lays "SluiceStream$Timer" "SluiceStream$Timer" "endsAt" "I") ∈ zT := List.mem_filter.mpr ⟨List.mem_of_getElem? (i := 100) (by decide +kernel), by decide +kernel⟩
theorem zm66 : (Jvm.Cond.lays "SluiceStream$Timer" "SluiceStream$Timer" "timedTo" "I") ∈ zT := List.mem_filter.mpr ⟨List.mem_of_getElem? (i := 102) (by decide +kernel), by decide +kernel⟩
theorem zm68 : (Jvm.Cond.lays "SluiceStream$Timer" "SluiceStream$Timer" "smoothed" "I") ∈ zT := List.mem_filter.mpr ⟨List.mem_of_getElem? (i := 104) (by decide +kernel), by decide +kernel⟩
theorem zm70 : (Jvm.Cond.lays "SluiceStream$Timer" "SluiceStream$Timer" "deviation" "I") ∈ zT := List.mem_filter.mpr ⟨List.mem_of_getElem? (i := 106) (by decide +kernel), by decide +kernel⟩
theorem zm72 : (Jvm.Cond.lays "SluiceStream$Timer" "SluiceStream$Timer" "timedSince" "I") ∈ zT := List.mem_filter.mpr ⟨List.mem_of_getElem? (i := 108) (by decide +kernel), by decide +kernel⟩
theorem zm74 : (Jvm.Cond.lays "SluiceStream$Timer" "SluiceStream$Timer" "sampled" "Z") ∈ zT := List.mem_filter.mpr ⟨List.mem_of_getElem? (i := 110) (by decide +kernel), by decide +kernel⟩
theorem zm46 : (Jvm.Cond.fieldLink "SluiceStream$Timer" (9 : Nat) "SluiceStream$Timer" "now" "I") ∈ zT := List.mem_filter.mpr ⟨List.mem_of_getElem? (i := 82) (by decide +kernel), by decide +kernel⟩
theorem zm58 : (Jvm.Cond.fieldLink "SluiceStream$Timer" (30 : Nat) "SluiceStream$Timer" "timedSince" "I") ∈ zT := List.mem_filter.mpr ⟨List.mem_of_getElem? (i := 94) (by decide +kernel), by decide +kernel⟩
theorem zm48 : (Jvm.Cond.fieldLink "SluiceStream$Timer" (15 : Nat) "SluiceStream$Timer" "span" "I") ∈ zT := List.mem_filter.mpr ⟨List.mem_of_getElem? (i := 84) (by decide +kernel), by decide +kernel⟩
theorem zm50 : (Jvm.Cond.fieldLink "SluiceStream$Timer" (18 : Nat) "SluiceStream$Timer" "endsAt" "I") ∈ zT := List.mem_filter.mpr ⟨List.mem_of_getElem? (i := 86) (by decide +kernel), by decide +kernel⟩
theorem zm510 : (Jvm.Cond.methodLink "SluiceStream$Timer" (37 : Nat) ({ cls := "SluiceStream$Timer", name := "startAnew", desc := "()V" } : Jvm.MethodName)) ∈ zT := List.mem_filter.mpr ⟨List.mem_of_getElem? (i := 546) (by decide +kernel), by decide +kernel⟩
theorem zm4 : (Jvm.Cond.initialized "SluiceStream$Timer") ∈ zT := List.mem_filter.mpr ⟨List.mem_of_getElem? (i := 40) (by decide +kernel), by decide +kernel⟩
theorem zm513 : (Jvm.Cond.code ({ cls := "SluiceStream$Timer", name := "startAnew", desc := "()V" } : Jvm.MethodName) prog_6_method_3_code (1 : Nat) (Option.none : Option Jvm.ClassFile.FieldType)) ∈ zT := List.mem_filter.mpr ⟨List.mem_of_getElem? (i := 549) (by decide +kernel), by decide +kernel⟩
theorem zm511 : (Jvm.Cond.instanceMethod ({ cls := "SluiceStream$Timer", name := "startAnew", desc := "()V" } : Jvm.MethodName)) ∈ zT := List.mem_filter.mpr ⟨List.mem_of_getElem? (i := 547) (by decide +kernel), by decide +kernel⟩
theorem zm512 : (Jvm.Cond.selects "SluiceStream$Timer" ({ cls := "SluiceStream$Timer", name := "startAnew", desc := "()V" } : Jvm.MethodName) ({ cls := "SluiceStream$Timer", name := "startAnew", desc := "()V" } : Jvm.MethodName)) ∈ zT := List.mem_filter.mpr ⟨List.mem_of_getElem? (i := 548) (by decide +kernel), by decide +kernel⟩
theorem zm102 : (Jvm.Cond.fieldLink "SluiceStream$Sender" (59 : Nat) "SluiceStream$Sender" "sentCount" "I") ∈ zT := List.mem_filter.mpr ⟨List.mem_of_getElem? (i := 138) (by decide +kernel), by decide +kernel⟩
theorem zm79 : (Jvm.Cond.fieldLink "SluiceStream$Sender" (21 : Nat) "SluiceStream$Sender" "timer" "LSluiceStream$Timer;") ∈ zT := List.mem_filter.mpr ⟨List.mem_of_getElem? (i := 115) (by decide +kernel), by decide +kernel⟩
theorem zm502 : (Jvm.Cond.methodLink "SluiceStream$Sender" (109 : Nat) ({ cls := "SluiceStream$Timer", name := "timeSegment", desc := "(I)V" } : Jvm.MethodName)) ∈ zT := List.mem_filter.mpr ⟨List.mem_of_getElem? (i := 538) (by decide +kernel), by decide +kernel⟩
theorem zm505 : (Jvm.Cond.code ({ cls := "SluiceStream$Timer", name := "timeSegment", desc := "(I)V" } : Jvm.MethodName) prog_6_method_7_code (2 : Nat) (Option.none : Option Jvm.ClassFile.FieldType)) ∈ zT := List.mem_filter.mpr ⟨List.mem_of_getElem? (i := 541) (by decide +kernel), by decide +kernel⟩
theorem zm503 : (Jvm.Cond.instanceMethod ({ cls := "SluiceStream$Timer", name := "timeSegment", desc := "(I)V" } : Jvm.MethodName)) ∈ zT := List.mem_filter.mpr ⟨List.mem_of_getElem? (i := 539) (by decide +kernel), by decide +kernel⟩
theorem zm504 : (Jvm.Cond.selects "SluiceStream$Timer" ({ cls := "SluiceStream$Timer", name := "timeSegment", desc := "(I)V" } : Jvm.MethodName) ({ cls := "SluiceStream$Timer", name := "timeSegment", desc := "(I)V" } : Jvm.MethodName)) ∈ zT := List.mem_filter.mpr ⟨List.mem_of_getElem? (i := 540) (by decide +kernel), by decide +kernel⟩
theorem zm506 : (Jvm.Cond.methodLink "SluiceStream$Sender" (113 : Nat) ({ cls := "SluiceStream$Timer", name := "startIfStopped", desc := "()V" } : Jvm.MethodName)) ∈ zT := List.mem_filter.mpr ⟨List.mem_of_getElem? (i := 542) (by decide +kernel), by decide +kernel⟩
theorem zm509 : (Jvm.Cond.code ({ cls := "SluiceStream$Timer", name := "startIfStopped", desc := "()V" } : Jvm.MethodName) prog_6_method_4_code (1 : Nat) (Option.none : Option Jvm.ClassFile.FieldType)) ∈ zT := List.mem_filter.mpr ⟨List.mem_of_getElem? (i := 545) (by decide +kernel), by decide +kernel⟩
theorem zm507 : (Jvm.Cond.instanceMethod ({ cls := "SluiceStream$Timer", name := "startIfStopped", desc := "()V" } : Jvm.MethodName)) ∈ zT := List.mem_filter.mpr ⟨List.mem_of_getElem? (i := 543) (by decide +kernel), by decide +kernel⟩
theorem zm508 : (Jvm.Cond.selects "SluiceStream$Timer" ({ cls := "SluiceStream$Timer", name := "startIfStopped", desc := "()V" } : Jvm.MethodName) ({ cls := "SluiceStream$Timer", name := "startIfStopped", desc := "()V" } : Jvm.MethodName)) ∈ zT := List.mem_filter.mpr ⟨List.mem_of_getElem? (i := 544) (by decide +kernel), by decide +kernel⟩
theorem zm104 : (Jvm.Cond.fieldLink "SluiceStream$Sender" (62 : Nat) "SluiceStream$Sender" "sentAgainCount" "I") ∈ zT := List.mem_filter.mpr ⟨List.mem_of_getElem? (i := 140) (by decide +kernel), by decide +kernel⟩
theorem zm479 : (Jvm.Cond.methodLink "SluiceStream$Sender" (69 : Nat) ({ cls := "SluiceStream$Sender", name := "startOfRepair", desc := "()I" } : Jvm.MethodName)) ∈ zT := List.mem_filter.mpr ⟨List.mem_of_getElem? (i := 515) (by decide +kernel), by decide +kernel⟩
theorem zm482 : (Jvm.Cond.code ({ cls := "SluiceStream$Sender", name := "startOfRepair", desc := "()I" } : Jvm.MethodName) prog_5_method_4_code (3 : Nat) (Option.some Jvm.ClassFile.FieldType.int)) ∈ zT := List.mem_filter.mpr ⟨List.mem_of_getElem? (i := 518) (by decide +kernel), by decide +kernel⟩
theorem zm481 : (Jvm.Cond.instanceMethod ({ cls := "SluiceStream$Sender", name := "startOfRepair", desc := "()I" } : Jvm.MethodName)) ∈ zT := List.mem_filter.mpr ⟨List.mem_of_getElem? (i := 517) (by decide +kernel), by decide +kernel⟩
theorem zms4 : Jvm.Cond.selects "SluiceStream$Sender" ({ cls := "SluiceStream$Sender", name := "startOfRepair", desc := "()I" } : Jvm.MethodName) ({ cls := "SluiceStream$Sender", name := "startOfRepair", desc := "()I" } : Jvm.MethodName) ∈ zT := List.mem_filter.mpr ⟨List.mem_of_getElem? (i := 4) (by decide +kernel), by decide +kernel⟩
theorem zm493 : (Jvm.Cond.methodLink "SluiceStream$Sender" (79 : Nat) ({ cls := "SluiceStream$Sender", name := "endOfFresh", desc := "()I" } : Jvm.MethodName)) ∈ zT := List.mem_filter.mpr ⟨List.mem_of_getElem? (i := 529) (by decide +kernel), by decide +kernel⟩
theorem zm496 : (Jvm.Cond.code ({ cls := "SluiceStream$Sender", name := "endOfFresh", desc := "()I" } : Jvm.MethodName) prog_5_method_6_code (4 : Nat) (Option.some Jvm.ClassFile.FieldType.int)) ∈ zT := List.mem_filter.mpr ⟨List.mem_of_getElem? (i := 532) (by decide +kernel), by decide +kernel⟩
theorem zm495 : (Jvm.Cond.instanceMethod ({ cls := "SluiceStream$Sender", name := "endOfFresh", desc := "()I" } : Jvm.MethodName)) ∈ zT := List.mem_filter.mpr ⟨List.mem_of_getElem? (i := 531) (by decide +kernel), by decide +kernel⟩
theorem zms6 : Jvm.Cond.selects "SluiceStream$Sender" ({ cls := "SluiceStream$Sender", name := "endOfFresh", desc := "()I" } : Jvm.MethodName) ({ cls := "SluiceStream$Sender", name := "endOfFresh", desc := "()I" } : Jvm.MethodName) ∈ zT := List.mem_filter.mpr ⟨List.mem_of_getElem? (i := 6) (by decide +kernel), by decide +kernel⟩
theorem zm498 : (Jvm.Cond.methodLink "SluiceStream$Sender" (82 : Nat) ({ cls := "SluiceStream$Sender", name := "noteSent", desc := "(II)V" } : Jvm.MethodName)) ∈ zT := List.mem_filter.mpr ⟨List.mem_of_getElem? (i := 534) (by decide +kernel), by decide +kernel⟩
theorem zm501 : (Jvm.Cond.code ({ cls := "SluiceStream$Sender", name := "noteSent", desc := "(II)V" } : Jvm.MethodName) prog_5_method_7_code (3 : Nat) (Option.none : Option Jvm.ClassFile.FieldType)) ∈ zT := List.mem_filter.mpr ⟨List.mem_of_getElem? (i := 537) (by decide +kernel), by decide +kernel⟩
theorem zm500 : (Jvm.Cond.instanceMethod ({ cls := "SluiceStream$Sender", name := "noteSent", desc := "(II)V" } : Jvm.MethodName)) ∈ zT := List.mem_filter.mpr ⟨List.mem_of_getElem? (i := 536) (by decide +kernel), by decide +kernel⟩
theorem zms7 : Jvm.Cond.selects "SluiceStream$Sender" ({ cls := "SluiceStream$Sender", name := "noteSent", desc := "(II)V" } : Jvm.MethodName) ({ cls := "SluiceStream$Sender", name := "noteSent", desc := "(II)V" } : Jvm.MethodName) ∈ zT := List.mem_filter.mpr ⟨List.mem_of_getElem? (i := 7) (by decide +kernel), by decide +kernel⟩
theorem zm514 : (Jvm.Cond.methodLink "SluiceStream$Sender" (86 : Nat) ({ cls := "SluiceStream$Rows", name := "addRow", desc := "()I" } : Jvm.MethodName)) ∈ zT := List.mem_filter.mpr ⟨List.mem_of_getElem? (i := 550) (by decide +kernel), by decide +kernel⟩
theorem zm515 : (Jvm.Cond.methodLink "SluiceStream$Sender" (91 : Nat) ({ cls := "SluiceStream$Rows", name := "setCell", desc := "(III)V" } : Jvm.MethodName)) ∈ zT := List.mem_filter.mpr ⟨List.mem_of_getElem? (i := 551) (by decide +kernel), by decide +kernel⟩
theorem zm543 : (Jvm.Cond.methodLink "SluiceStream$Timer" (40 : Nat) ({ cls := "java/lang/Math", name := "min", desc := "(II)I" } : Jvm.MethodName)) ∈ zT := List.mem_filter.mpr ⟨List.mem_of_getElem? (i := 579) (by decide +kernel), by decide +kernel⟩
theorem zm544 : (Jvm.Cond.methodLink "SluiceStream$Timer" (46 : Nat) ({ cls := "SluiceStream$Timer", name := "forgetTiming", desc := "()V" } : Jvm.MethodName)) ∈ zT := List.mem_filter.mpr ⟨List.mem_of_getElem? (i := 580) (by decide +kernel), by decide +kernel⟩
theorem zm547 : (Jvm.Cond.code ({ cls := "SluiceStream$Timer", name := "forgetTiming", desc := "()V" } : Jvm.MethodName) prog_6_method_8_code (1 : Nat) (Option.none : Option Jvm.ClassFile.FieldType)) ∈ zT := List.mem_filter.mpr ⟨List.mem_of_getElem? (i := 583) (by decide +kernel), by decide +kernel⟩
theorem zm545 : (Jvm.Cond.instanceMethod ({ cls := "SluiceStream$Timer", name := "forgetTiming", desc := "()V" } : Jvm.MethodName)) ∈ zT := List.mem_filter.mpr ⟨List.mem_of_getElem? (i := 581) (by decide +kernel), by decide +kernel⟩
theorem zm546 : (Jvm.Cond.selects "SluiceStream$Timer" ({ cls := "SluiceStream$Timer", name := "forgetTiming", desc := "()V" } : Jvm.MethodName) ({ cls := "SluiceStream$Timer", name := "forgetTiming", desc := "()V" } : Jvm.MethodName)) ∈ zT := List.mem_filter.mpr ⟨List.mem_of_getElem? (i := 582) (by decide +kernel), by decide +kernel⟩
theorem zm548 : (Jvm.Cond.methodLink "SluiceStream$Timer" (49 : Nat) ({ cls := "SluiceStream$Timer", name := "stop", desc := "()V" } : Jvm.MethodName)) ∈ zT := List.mem_filter.mpr ⟨List.mem_of_getElem? (i := 584) (by decide +kernel), by decide +kernel⟩
theorem zm551 : (Jvm.Cond.code ({ cls := "SluiceStream$Timer", name := "stop", desc := "()V" } : Jvm.MethodName) prog_6_method_5_code (1 : Nat) (Option.none : Option Jvm.ClassFile.FieldType)) ∈ zT := List.mem_filter.mpr ⟨List.mem_of_getElem? (i := 587) (by decide +kernel), by decide +kernel⟩
theorem zm549 : (Jvm.Cond.instanceMethod ({ cls := "SluiceStream$Timer", name := "stop", desc := "()V" } : Jvm.MethodName)) ∈ zT := List.mem_filter.mpr ⟨List.mem_of_getElem? (i := 585) (by decide +kernel), by decide +kernel⟩
theorem zm550 : (Jvm.Cond.selects "SluiceStream$Timer" ({ cls := "SluiceStream$Timer", name := "stop", desc := "()V" } : Jvm.MethodName) ({ cls := "SluiceStream$Timer", name := "stop", desc := "()V" } : Jvm.MethodName)) ∈ zT := List.mem_filter.mpr ⟨List.mem_of_getElem? (i := 586) (by decide +kernel), by decide +kernel⟩
theorem zm535 : (Jvm.Cond.methodLink "SluiceStream$Sender" (123 : Nat) ({ cls := "SluiceStream$Sender", name := "halfOfFlying", desc := "()I" } : Jvm.MethodName)) ∈ zT := List.mem_filter.mpr ⟨List.mem_of_getElem? (i := 571) (by decide +kernel), by decide +kernel⟩
theorem zm538 : (Jvm.Cond.code ({ cls := "SluiceStream$Sender", name := "halfOfFlying", desc := "()I" } : Jvm.MethodName) prog_5_method_10_code (1 : Nat) (Option.some Jvm.ClassFile.FieldType.int)) ∈ zT := List.mem_filter.mpr ⟨List.mem_of_getElem? (i := 574) (by decide +kernel), by decide +kernel⟩
theorem zm537 : (Jvm.Cond.instanceMethod ({ cls := "SluiceStream$Sender", name := "halfOfFlying", desc := "()I" } : Jvm.MethodName)) ∈ zT := List.mem_filter.mpr ⟨List.mem_of_getElem? (i := 573) (by decide +kernel), by decide +kernel⟩
theorem zms9 : Jvm.Cond.selects "SluiceStream$Sender" ({ cls := "SluiceStream$Sender", name := "halfOfFlying", desc := "()I" } : Jvm.MethodName) ({ cls := "SluiceStream$Sender", name := "halfOfFlying", desc := "()I" } : Jvm.MethodName) ∈ zT := List.mem_filter.mpr ⟨List.mem_of_getElem? (i := 9) (by decide +kernel), by decide +kernel⟩
theorem zm93 : (Jvm.Cond.fieldLink "SluiceStream$Sender" (44 : Nat) "SluiceStream$Sender" "slowFrom" "I") ∈ zT := List.mem_filter.mpr ⟨List.mem_of_getElem? (i := 129) (by decide +kernel), by decide +kernel⟩
theorem zm539 : (Jvm.Cond.methodLink "SluiceStream$Sender" (126 : Nat) ({ cls := "SluiceStream$Timer", name := "backOff", desc := "()V" } : Jvm.MethodName)) ∈ zT := List.mem_filter.mpr ⟨List.mem_of_getElem? (i := 575) (by decide +kernel), by decide +kernel⟩
theorem zm542 : (Jvm.Cond.code ({ cls := "SluiceStream$Timer", name := "backOff", desc := "()V" } : Jvm.MethodName) prog_6_method_6_code (1 : Nat) (Option.none : Option Jvm.ClassFile.FieldType)) ∈ zT := List.mem_filter.mpr ⟨List.mem_of_getElem? (i := 578) (by decide +kernel), by decide +kernel⟩
theorem zm540 : (Jvm.Cond.instanceMethod ({ cls := "SluiceStream$Timer", name := "backOff", desc := "()V" } : Jvm.MethodName)) ∈ zT := List.mem_filter.mpr ⟨List.mem_of_getElem? (i := 576) (by decide +kernel), by decide +kernel⟩
theorem zm541 : (Jvm.Cond.selects "SluiceStream$Timer" ({ cls := "SluiceStream$Timer", name := "backOff", desc := "()V" } : Jvm.MethodName) ({ cls := "SluiceStream$Timer", name := "backOff", desc := "()V" } : Jvm.MethodName)) ∈ zT := List.mem_filter.mpr ⟨List.mem_of_getElem? (i := 577) (by decide +kernel), by decide +kernel⟩
theorem zm552 : (Jvm.Cond.methodLink "SluiceStream$Sender" (129 : Nat) ({ cls := "SluiceStream$Positions", name := "empty", desc := "(II)V" } : Jvm.MethodName)) ∈ zT := List.mem_filter.mpr ⟨List.mem_of_getElem? (i := 588) (by decide +kernel), by decide +kernel⟩
theorem zm555 : (Jvm.Cond.code ({ cls := "SluiceStream$Positions", name := "empty", desc := "(II)V" } : Jvm.MethodName) prog_2_method_4_code (4 : Nat) (Option.none : Option Jvm.ClassFile.FieldType)) ∈ zT := List.mem_filter.mpr ⟨List.mem_of_getElem? (i := 591) (by decide +kernel), by decide +kernel⟩
theorem zm553 : (Jvm.Cond.instanceMethod ({ cls := "SluiceStream$Positions", name := "empty", desc := "(II)V" } : Jvm.MethodName)) ∈ zT := List.mem_filter.mpr ⟨List.mem_of_getElem? (i := 589) (by decide +kernel), by decide +kernel⟩
theorem zm554 : (Jvm.Cond.selects "SluiceStream$Positions" ({ cls := "SluiceStream$Positions", name := "empty", desc := "(II)V" } : Jvm.MethodName) ({ cls := "SluiceStream$Positions", name := "empty", desc := "(II)V" } : Jvm.MethodName)) ∈ zT := List.mem_filter.mpr ⟨List.mem_of_getElem? (i := 590) (by decide +kernel), by decide +kernel⟩
theorem zm97 : (Jvm.Cond.fieldLink "SluiceStream$Sender" (50 : Nat) "SluiceStream$Sender" "duplicateCount" "I") ∈ zT := List.mem_filter.mpr ⟨List.mem_of_getElem? (i := 133) (by decide +kernel), by decide +kernel⟩
theorem zm527 : (Jvm.Cond.methodLink "SluiceStream$Sender" (116 : Nat) ({ cls := "SluiceStream$Timer", name := "passTick", desc := "()Z" } : Jvm.MethodName)) ∈ zT := List.mem_filter.mpr ⟨List.mem_of_getElem? (i := 563) (by decide +kernel), by decide +kernel⟩
theorem zm530 : (Jvm.Cond.code ({ cls := "SluiceStream$Timer", name := "passTick", desc := "()Z" } : Jvm.MethodName) prog_6_method_2_code (1 : Nat) (Option.some Jvm.ClassFile.FieldType.boolean)) ∈ zT := List.mem_filter.mpr ⟨List.mem_of_getElem? (i := 566) (by decide +kernel), by decide +kernel⟩
theorem zm528 : (Jvm.Cond.instanceMethod ({ cls := "SluiceStream$Timer", name := "passTick", desc := "()Z" } : Jvm.MethodName)) ∈ zT := List.mem_filter.mpr ⟨List.mem_of_getElem? (i := 564) (by decide +kernel), by decide +kernel⟩
theorem zm529 : (Jvm.Cond.selects "SluiceStream$Timer" ({ cls := "SluiceStream$Timer", name := "passTick", desc := "()Z" } : Jvm.MethodName) ({ cls := "SluiceStream$Timer", name := "passTick", desc := "()Z" } : Jvm.MethodName)) ∈ zT := List.mem_filter.mpr ⟨List.mem_of_getElem? (i := 565) (by decide +kernel), by decide +kernel⟩
theorem zm531 : (Jvm.Cond.methodLink "SluiceStream$Sender" (120 : Nat) ({ cls := "SluiceStream$Sender", name := "startOver", desc := "()V" } : Jvm.MethodName)) ∈ zT := List.mem_filter.mpr ⟨List.mem_of_getElem? (i := 567) (by decide +kernel), by decide +kernel⟩
theorem zm534 : (Jvm.Cond.code ({ cls := "SluiceStream$Sender", name := "startOver", desc := "()V" } : Jvm.MethodName) prog_5_method_9_code (1 : Nat) (Option.none : Option Jvm.ClassFile.FieldType)) ∈ zT := List.mem_filter.mpr ⟨List.mem_of_getElem? (i := 570) (by decide +kernel), by decide +kernel⟩
theorem zm533 : (Jvm.Cond.instanceMethod ({ cls := "SluiceStream$Sender", name := "startOver", desc := "()V" } : Jvm.MethodName)) ∈ zT := List.mem_filter.mpr ⟨List.mem_of_getElem? (i := 569) (by decide +kernel), by decide +kernel⟩
theorem zms8 : Jvm.Cond.selects "SluiceStream$Sender" ({ cls := "SluiceStream$Sender", name := "startOver", desc := "()V" } : Jvm.MethodName) ({ cls := "SluiceStream$Sender", name := "startOver", desc := "()V" } : Jvm.MethodName) ∈ zT := List.mem_filter.mpr ⟨List.mem_of_getElem? (i := 8) (by decide +kernel), by decide +kernel⟩
theorem zm59 : (Jvm.Cond.fieldLink "SluiceStream$Timer" (33 : Nat) "SluiceStream$Timer" "sampled" "Z") ∈ zT := List.mem_filter.mpr ⟨List.mem_of_getElem? (i := 95) (by decide +kernel), by decide +kernel⟩
theorem zm54 : (Jvm.Cond.fieldLink "SluiceStream$Timer" (24 : Nat) "SluiceStream$Timer" "smoothed" "I") ∈ zT := List.mem_filter.mpr ⟨List.mem_of_getElem? (i := 90) (by decide +kernel), by decide +kernel⟩
theorem zm56 : (Jvm.Cond.fieldLink "SluiceStream$Timer" (27 : Nat) "SluiceStream$Timer" "deviation" "I") ∈ zT := List.mem_filter.mpr ⟨List.mem_of_getElem? (i := 92) (by decide +kernel), by decide +kernel⟩
theorem zm637 : (Jvm.Cond.methodLink "SluiceStream$Timer" (60 : Nat) ({ cls := "java/lang/Math", name := "max", desc := "(II)I" } : Jvm.MethodName)) ∈ zT := List.mem_filter.mpr ⟨List.mem_of_getElem? (i := 673) (by decide +kernel), by decide +kernel⟩
theorem zm634 : (Jvm.Cond.methodLink "SluiceStream$Timer" (56 : Nat) ({ cls := "java/lang/Math", name := "abs", desc := "(I)I" } : Jvm.MethodName)) ∈ zT := List.mem_filter.mpr ⟨List.mem_of_getElem? (i := 670) (by decide +kernel), by decide +kernel⟩
theorem zm635 : (Jvm.Cond.static ({ cls := "java/lang/Math", name := "abs", desc := "(I)I" } : Jvm.MethodName)) ∈ zT := List.mem_filter.mpr ⟨List.mem_of_getElem? (i := 671) (by decide +kernel), by decide +kernel⟩
theorem zm636 : (Jvm.Cond.code ({ cls := "java/lang/Math", name := "abs", desc := "(I)I" } : Jvm.MethodName) prog_13_method_59_code (1 : Nat) (Option.some Jvm.ClassFile.FieldType.int)) ∈ zT := List.mem_filter.mpr ⟨List.mem_of_getElem? (i := 672) (by decide +kernel), by decide +kernel⟩
theorem zm630 : (Jvm.Cond.methodLink "SluiceStream$Timer" (52 : Nat) ({ cls := "SluiceStream$Timer", name := "takeSample", desc := "(I)V" } : Jvm.MethodName)) ∈ zT := List.mem_filter.mpr ⟨List.mem_of_getElem? (i := 666) (by decide +kernel), by decide +kernel⟩
theorem zm633 : (Jvm.Cond.code ({ cls := "SluiceStream$Timer", name := "takeSample", desc := "(I)V" } : Jvm.MethodName) prog_6_method_10_code (3 : Nat) (Option.none : Option Jvm.ClassFile.FieldType)) ∈ zT := List.mem_filter.mpr ⟨List.mem_of_getElem? (i := 669) (by decide +kernel), by decide +kernel⟩
theorem zm632 : (Jvm.Cond.instanceMethod ({ cls := "SluiceStream$Timer", name := "takeSample", desc := "(I)V" } : Jvm.MethodName)) ∈ zT := List.mem_filter.mpr ⟨List.mem_of_getElem? (i := 668) (by decide +kernel), by decide +kernel⟩
theorem zms11 : Jvm.Cond.selects "SluiceStream$Timer" ({ cls := "SluiceStream$Timer", name := "takeSample", desc := "(I)V" } : Jvm.MethodName) ({ cls := "SluiceStream$Timer", name := "takeSample", desc := "(I)V" } : Jvm.MethodName) ∈ zT := List.mem_filter.mpr ⟨List.mem_of_getElem? (i := 11) (by decide +kernel), by decide +kernel⟩
theorem zm626 : (Jvm.Cond.methodLink "SluiceStream$Sender" (145 : Nat) ({ cls := "SluiceStream$Timer", name := "endTiming", desc := "(I)V" } : Jvm.MethodName)) ∈ zT := List.mem_filter.mpr ⟨List.mem_of_getElem? (i := 662) (by decide +kernel), by decide +kernel⟩
theorem zm629 : (Jvm.Cond.code ({ cls := "SluiceStream$Timer", name := "endTiming", desc := "(I)V" } : Jvm.MethodName) prog_6_method_9_code (2 : Nat) (Option.none : Option Jvm.ClassFile.FieldType)) ∈ zT := List.mem_filter.mpr ⟨List.mem_of_getElem? (i := 665) (by decide +kernel), by decide +kernel⟩
theorem zm627 : (Jvm.Cond.instanceMethod ({ cls := "SluiceStream$Timer", name := "endTiming", desc := "(I)V" } : Jvm.MethodName)) ∈ zT := List.mem_filter.mpr ⟨List.mem_of_getElem? (i := 663) (by decide +kernel), by decide +kernel⟩
theorem zm628 : (Jvm.Cond.selects "SluiceStream$Timer" ({ cls := "SluiceStream$Timer", name := "endTiming", desc := "(I)V" } : Jvm.MethodName) ({ cls := "SluiceStream$Timer", name := "endTiming", desc := "(I)V" } : Jvm.MethodName)) ∈ zT := List.mem_filter.mpr ⟨List.mem_of_getElem? (i := 664) (by decide +kernel), by decide +kernel⟩
theorem zm643 : (Jvm.Cond.methodLink "SluiceStream$Sender" (154 : Nat) ({ cls := "SluiceStream$Timer", name := "startAnew", desc := "()V" } : Jvm.MethodName)) ∈ zT := List.mem_filter.mpr ⟨List.mem_of_getElem? (i := 679) (by decide +kernel), by decide +kernel⟩
theorem zm642 : (Jvm.Cond.methodLink "SluiceStream$Sender" (151 : Nat) ({ cls := "SluiceStream$Timer", name := "stop", desc := "()V" } : Jvm.MethodName)) ∈ zT := List.mem_filter.mpr ⟨List.mem_of_getElem? (i := 678) (by decide +kernel), by decide +kernel⟩
theorem zm638 : (Jvm.Cond.methodLink "SluiceStream$Sender" (148 : Nat) ({ cls := "SluiceStream$Sender", name := "growCongestion", desc := "()V" } : Jvm.MethodName)) ∈ zT := List.mem_filter.mpr ⟨List.mem_of_getElem? (i := 674) (by decide +kernel), by decide +kernel⟩
theorem zm641 : (Jvm.Cond.code ({ cls := "SluiceStream$Sender", name := "growCongestion", desc := "()V" } : Jvm.MethodName) prog_5_method_13_code (2 : Nat) (Option.none : Option Jvm.ClassFile.FieldType)) ∈ zT := List.mem_filter.mpr ⟨List.mem_of_getElem? (i := 677) (by decide +kernel), by decide +kernel⟩
theorem zm640 : (Jvm.Cond.instanceMethod ({ cls := "SluiceStream$Sender", name := "growCongestion", desc := "()V" } : Jvm.MethodName)) ∈ zT := List.mem_filter.mpr ⟨List.mem_of_getElem? (i := 676) (by decide +kernel), by decide +kernel⟩
theorem zms12 : Jvm.Cond.selects "SluiceStream$Sender" ({ cls := "SluiceStream$Sender", name := "growCongestion", desc := "()V" } : Jvm.MethodName) ({ cls := "SluiceStream$Sender", name := "growCongestion", desc := "()V" } : Jvm.MethodName) ∈ zT := List.mem_filter.mpr ⟨List.mem_of_getElem? (i := 12) (by decide +kernel), by decide +kernel⟩
theorem zm621 : (Jvm.Cond.methodLink "SluiceStream$Sender" (132 : Nat) ({ cls := "SluiceStream$Rows", name := "cell", desc := "(II)I" } : Jvm.MethodName)) ∈ zT := List.mem_filter.mpr ⟨List.mem_of_getElem? (i := 657) (by decide +kernel), by decide +kernel⟩
theorem zm583 : (Jvm.Cond.code ({ cls := "SluiceStream$Rows", name := "cell", desc := "(II)I" } : Jvm.MethodName) prog_4_method_4_code (4 : Nat) (Option.some Jvm.ClassFile.FieldType.int)) ∈ zT := List.mem_filter.mpr ⟨List.mem_of_getElem? (i := 619) (by decide +kernel), by decide +kernel⟩
theorem zm581 : (Jvm.Cond.instanceMethod ({ cls := "SluiceStream$Rows", name := "cell", desc := "(II)I" } : Jvm.MethodName)) ∈ zT := List.mem_filter.mpr ⟨List.mem_of_getElem? (i := 617) (by decide +kernel), by decide +kernel⟩
theorem zm582 : (Jvm.Cond.selects "SluiceStream$Rows" ({ cls := "SluiceStream$Rows", name := "cell", desc := "(II)I" } : Jvm.MethodName) ({ cls := "SluiceStream$Rows", name := "cell", desc := "(II)I" } : Jvm.MethodName)) ∈ zT := List.mem_filter.mpr ⟨List.mem_of_getElem? (i := 618) (by decide +kernel), by decide +kernel⟩
theorem zm648 : (Jvm.Cond.methodLink "SluiceStream$Sender" (157 : Nat) ({ cls := "SluiceStream$Positions", name := "fillEmpty", desc := "(III)I" } : Jvm.MethodName)) ∈ zT := List.mem_filter.mpr ⟨List.mem_of_getElem? (i := 684) (by decide +kernel), by decide +kernel⟩
theorem zm653 : (Jvm.Cond.methodLink "SluiceStream$Sender" (161 : Nat) ({ cls := "SluiceStream$Timer", name := "forgetTiming", desc := "()V" } : Jvm.MethodName)) ∈ zT := List.mem_filter.mpr ⟨List.mem_of_getElem? (i := 689) (by decide +kernel), by decide +kernel⟩
theorem zm644 : (Jvm.Cond.methodLink "SluiceStream$Sender" (138 : Nat) ({ cls := "SluiceStream$Sender", name := "markBlocks", desc := "(LSluiceStream$Rows;I)V" } : Jvm.MethodName)) ∈ zT := List.mem_filter.mpr ⟨List.mem_of_getElem? (i := 680) (by decide +kernel), by decide +kernel⟩
theorem zm647 : (Jvm.Cond.code ({ cls := "SluiceStream$Sender", name := "markBlocks", desc := "(LSluiceStream$Rows;I)V" } : Jvm.MethodName) prog_5_method_14_code (7 : Nat) (Option.none : Option Jvm.ClassFile.FieldType)) ∈ zT := List.mem_filter.mpr ⟨List.mem_of_getElem? (i := 683) (by decide +kernel), by decide +kernel⟩
theorem zm646 : (Jvm.Cond.instanceMethod ({ cls := "SluiceStream$Sender", name := "markBlocks", desc := "(LSluiceStream$Rows;I)V" } : Jvm.MethodName)) ∈ zT := List.mem_filter.mpr ⟨List.mem_of_getElem? (i := 682) (by decide +kernel), by decide +kernel⟩
theorem zms13 : Jvm.Cond.selects "SluiceStream$Sender" ({ cls := "SluiceStream$Sender", name := "markBlocks", desc := "(LSluiceStream$Rows;I)V" } : Jvm.MethodName) ({ cls := "SluiceStream$Sender", name := "markBlocks", desc := "(LSluiceStream$Rows;I)V" } : Jvm.MethodName) ∈ zT := List.mem_filter.mpr ⟨List.mem_of_getElem? (i := 13) (by decide +kernel), by decide +kernel⟩
theorem zm649 : (Jvm.Cond.methodLink "SluiceStream$Sender" (142 : Nat) ({ cls := "SluiceStream$Sender", name := "countDuplicate", desc := "()V" } : Jvm.MethodName)) ∈ zT := List.mem_filter.mpr ⟨List.mem_of_getElem? (i := 685) (by decide +kernel), by decide +kernel⟩
theorem zm652 : (Jvm.Cond.code ({ cls := "SluiceStream$Sender", name := "countDuplicate", desc := "()V" } : Jvm.MethodName) prog_5_method_15_code (1 : Nat) (Option.none : Option Jvm.ClassFile.FieldType)) ∈ zT := List.mem_filter.mpr ⟨List.mem_of_getElem? (i := 688) (by decide +kernel), by decide +kernel⟩
theorem zm651 : (Jvm.Cond.instanceMethod ({ cls := "SluiceStream$Sender", name := "countDuplicate", desc := "()V" } : Jvm.MethodName)) ∈ zT := List.mem_filter.mpr ⟨List.mem_of_getElem? (i := 687) (by decide +kernel), by decide +kernel⟩
theorem zms14 : Jvm.Cond.selects "SluiceStream$Sender" ({ cls := "SluiceStream$Sender", name := "countDuplicate", desc := "()V" } : Jvm.MethodName) ({ cls := "SluiceStream$Sender", name := "countDuplicate", desc := "()V" } : Jvm.MethodName) ∈ zT := List.mem_filter.mpr ⟨List.mem_of_getElem? (i := 14) (by decide +kernel), by decide +kernel⟩
theorem zm622 : (Jvm.Cond.methodLink "SluiceStream$Sender" (135 : Nat) ({ cls := "SluiceStream$Sender", name := "advanceTo", desc := "(I)V" } : Jvm.MethodName)) ∈ zT := List.mem_filter.mpr ⟨List.mem_of_getElem? (i := 658) (by decide +kernel), by decide +kernel⟩
theorem zm625 : (Jvm.Cond.code ({ cls := "SluiceStream$Sender", name := "advanceTo", desc := "(I)V" } : Jvm.MethodName) prog_5_method_12_code (2 : Nat) (Option.none : Option Jvm.ClassFile.FieldType)) ∈ zT := List.mem_filter.mpr ⟨List.mem_of_getElem? (i := 661) (by decide +kernel), by decide +kernel⟩
theorem zm624 : (Jvm.Cond.instanceMethod ({ cls := "SluiceStream$Sender", name := "advanceTo", desc := "(I)V" } : Jvm.MethodName)) ∈ zT := List.mem_filter.mpr ⟨List.mem_of_getElem? (i := 660) (by decide +kernel), by decide +kernel⟩
theorem zms10 : Jvm.Cond.selects "SluiceStream$Sender" ({ cls := "SluiceStream$Sender", name := "advanceTo", desc := "(I)V" } : Jvm.MethodName) ({ cls := "SluiceStream$Sender", name := "advanceTo", desc := "(I)V" } : Jvm.MethodName) ∈ zT := List.mem_filter.mpr ⟨List.mem_of_getElem? (i := 10) (by decide +kernel), by decide +kernel⟩
theorem zm736 : (Jvm.Cond.fieldLink "SluiceStreamModel" (66 : Nat) "SluiceStreamModel" "thrown" "I") ∈ zT := List.mem_filter.mpr ⟨List.mem_of_getElem? (i := 772) (by decide +kernel), by decide +kernel⟩
theorem zm775 : (Jvm.Cond.lays "SluiceStreamModel" "SluiceStreamModel" "thrown" "I") ∈ zT := List.mem_filter.mpr ⟨List.mem_of_getElem? (i := 811) (by decide +kernel), by decide +kernel⟩
theorem zm777 : (Jvm.Cond.lays "SluiceStreamModel" "SluiceStreamModel" "time" "I") ∈ zT := List.mem_filter.mpr ⟨List.mem_of_getElem? (i := 813) (by decide +kernel), by decide +kernel⟩
theorem zm779 : (Jvm.Cond.lays "SluiceStreamModel" "SluiceStreamModel" "a" "I") ∈ zT := List.mem_filter.mpr ⟨List.mem_of_getElem? (i := 815) (by decide +kernel), by decide +kernel⟩
theorem zm781 : (Jvm.Cond.lays "SluiceStreamModel" "SluiceStreamModel" "n" "I") ∈ zT := List.mem_filter.mpr ⟨List.mem_of_getElem? (i := 817) (by decide +kernel), by decide +kernel⟩
theorem zm783 : (Jvm.Cond.lays "SluiceStreamModel" "SluiceStreamModel" "h" "I") ∈ zT := List.mem_filter.mpr ⟨List.mem_of_getElem? (i := 819) (by decide +kernel), by decide +kernel⟩
theorem zm785 : (Jvm.Cond.lays "SluiceStreamModel" "SluiceStreamModel" "w" "I") ∈ zT := List.mem_filter.mpr ⟨List.mem_of_getElem? (i := 821) (by decide +kernel), by decide +kernel⟩
theorem zm787 : (Jvm.Cond.lays "SluiceStreamModel" "SluiceStreamModel" "edge" "I") ∈ zT := List.mem_filter.mpr ⟨List.mem_of_getElem? (i := 823) (by decide +kernel), by decide +kernel⟩
theorem zm789 : (Jvm.Cond.lays "SluiceStreamModel" "SluiceStreamModel" "c" "I") ∈ zT := List.mem_filter.mpr ⟨List.mem_of_getElem? (i := 825) (by decide +kernel), by decide +kernel⟩
theorem zm791 : (Jvm.Cond.lays "SluiceStreamModel" "SluiceStreamModel" "t" "I") ∈ zT := List.mem_filter.mpr ⟨List.mem_of_getElem? (i := 827) (by decide +kernel), by decide +kernel⟩
theorem zm793 : (Jvm.Cond.lays "SluiceStreamModel" "SluiceStreamModel" "l" "I") ∈ zT := List.mem_filter.mpr ⟨List.mem_of_getElem? (i := 829) (by decide +kernel), by decide +kernel⟩
theorem zm795 : (Jvm.Cond.lays "SluiceStreamModel" "SluiceStreamModel" "isRecovering" "Z") ∈ zT := List.mem_filter.mpr ⟨List.mem_of_getElem? (i := 831) (by decide +kernel), by decide +kernel⟩
theorem zm797 : (Jvm.Cond.lays "SluiceStreamModel" "SluiceStreamModel" "r" "I") ∈ zT := List.mem_filter.mpr ⟨List.mem_of_getElem? (i := 833) (by decide +kernel), by decide +kernel⟩
theorem zm799 : (Jvm.Cond.lays "SluiceStreamModel" "SluiceStreamModel" "x" "I") ∈ zT := List.mem_filter.mpr ⟨List.mem_of_getElem? (i := 835) (by decide +kernel), by decide +kernel⟩
theorem zm801 : (Jvm.Cond.lays "SluiceStreamModel" "SluiceStreamModel" "duplicates" "I") ∈ zT := List.mem_filter.mpr ⟨List.mem_of_getElem? (i := 837) (by decide +kernel), by decide +kernel⟩
theorem zm803 : (Jvm.Cond.lays "SluiceStreamModel" "SluiceStreamModel" "timeout" "I") ∈ zT := List.mem_filter.mpr ⟨List.mem_of_getElem? (i := 839) (by decide +kernel), by decide +kernel⟩
theorem zm805 : (Jvm.Cond.lays "SluiceStreamModel" "SluiceStreamModel" "timerEnd" "I") ∈ zT := List.mem_filter.mpr ⟨List.mem_of_getElem? (i := 841) (by decide +kernel), by decide +kernel⟩
theorem zm807 : (Jvm.Cond.lays "SluiceStreamModel" "SluiceStreamModel" "timedEnd" "I") ∈ zT := List.mem_filter.mpr ⟨List.mem_of_getElem? (i := 843) (by decide +kernel), by decide +kernel⟩
theorem zm809 : (Jvm.Cond.lays "SluiceStreamModel" "SluiceStreamModel" "timedAt" "I") ∈ zT := List.mem_filter.mpr ⟨List.mem_of_getElem? (i := 845) (by decide +kernel), by decide +kernel⟩
theorem zm811 : (Jvm.Cond.lays "SluiceStreamModel" "SluiceStreamModel" "roundTrip" "I") ∈ zT := List.mem_filter.mpr ⟨List.mem_of_getElem? (i := 847) (by decide +kernel), by decide +kernel⟩
theorem zm813 : (Jvm.Cond.lays "SluiceStreamModel" "SluiceStreamModel" "variation" "I") ∈ zT := List.mem_filter.mpr ⟨List.mem_of_getElem? (i := 849) (by decide +kernel), by decide +kernel⟩
theorem zm815 : (Jvm.Cond.lays "SluiceStreamModel" "SluiceStreamModel" "isSampled" "Z") ∈ zT := List.mem_filter.mpr ⟨List.mem_of_getElem? (i := 851) (by decide +kernel), by decide +kernel⟩
theorem zm817 : (Jvm.Cond.lays "SluiceStreamModel" "SluiceStreamModel" "sent" "I") ∈ zT := List.mem_filter.mpr ⟨List.mem_of_getElem? (i := 853) (by decide +kernel), by decide +kernel⟩
theorem zm819 : (Jvm.Cond.lays "SluiceStreamModel" "SluiceStreamModel" "sentAgain" "I") ∈ zT := List.mem_filter.mpr ⟨List.mem_of_getElem? (i := 855) (by decide +kernel), by decide +kernel⟩
theorem zm821 : (Jvm.Cond.laysFinal "SluiceStreamModel" "SluiceStreamModel" "written" "[I") ∈ zT := List.mem_filter.mpr ⟨List.mem_of_getElem? (i := 857) (by decide +kernel), by decide +kernel⟩
theorem zm823 : (Jvm.Cond.laysFinal "SluiceStreamModel" "SluiceStreamModel" "isMarked" "[Z") ∈ zT := List.mem_filter.mpr ⟨List.mem_of_getElem? (i := 859) (by decide +kernel), by decide +kernel⟩
theorem zm825 : (Jvm.Cond.laysFinal "SluiceStreamModel" "SluiceStreamModel" "has" "[Z") ∈ zT := List.mem_filter.mpr ⟨List.mem_of_getElem? (i := 861) (by decide +kernel), by decide +kernel⟩
theorem zm827 : (Jvm.Cond.laysFinal "SluiceStreamModel" "SluiceStreamModel" "came" "[I") ∈ zT := List.mem_filter.mpr ⟨List.mem_of_getElem? (i := 863) (by decide +kernel), by decide +kernel⟩
theorem zm829 : (Jvm.Cond.lays "SluiceStreamModel" "SluiceStreamModel" "deliveries" "I") ∈ zT := List.mem_filter.mpr ⟨List.mem_of_getElem? (i := 865) (by decide +kernel), by decide +kernel⟩
theorem zm831 : (Jvm.Cond.lays "SluiceStreamModel" "SluiceStreamModel" "b" "I") ∈ zT := List.mem_filter.mpr ⟨List.mem_of_getElem? (i := 867) (by decide +kernel), by decide +kernel⟩
theorem zm833 : (Jvm.Cond.lays "SluiceStreamModel" "SluiceStreamModel" "readPosition" "I") ∈ zT := List.mem_filter.mpr ⟨List.mem_of_getElem? (i := 869) (by decide +kernel), by decide +kernel⟩
theorem zm835 : (Jvm.Cond.laysFinal "SluiceStreamModel" "SluiceStreamModel" "start" "[I") ∈ zT := List.mem_filter.mpr ⟨List.mem_of_getElem? (i := 871) (by decide +kernel), by decide +kernel⟩
theorem zm837 : (Jvm.Cond.laysFinal "SluiceStreamModel" "SluiceStreamModel" "end" "[I") ∈ zT := List.mem_filter.mpr ⟨List.mem_of_getElem? (i := 873) (by decide +kernel), by decide +kernel⟩
theorem zm839 : (Jvm.Cond.lays "SluiceStreamModel" "SluiceStreamModel" "segments" "I") ∈ zT := List.mem_filter.mpr ⟨List.mem_of_getElem? (i := 875) (by decide +kernel), by decide +kernel⟩
theorem zm841 : (Jvm.Cond.laysFinal "SluiceStreamModel" "SluiceStreamModel" "number" "[I") ∈ zT := List.mem_filter.mpr ⟨List.mem_of_getElem? (i := 877) (by decide +kernel), by decide +kernel⟩
theorem zm843 : (Jvm.Cond.laysFinal "SluiceStreamModel" "SluiceStreamModel" "window" "[I") ∈ zT := List.mem_filter.mpr ⟨List.mem_of_getElem? (i := 879) (by decide +kernel), by decide +kernel⟩
theorem zm845 : (Jvm.Cond.laysFinal "SluiceStreamModel" "SluiceStreamModel" "blocks" "[I") ∈ zT := List.mem_filter.mpr ⟨List.mem_of_getElem? (i := 881) (by decide +kernel), by decide +kernel⟩
theorem zm847 : (Jvm.Cond.laysFinal "SluiceStreamModel" "SluiceStreamModel" "blockFrom" "[I") ∈ zT := List.mem_filter.mpr ⟨List.mem_of_getElem? (i := 883) (by decide +kernel), by decide +kernel⟩
theorem zm849 : (Jvm.Cond.laysFinal "SluiceStreamModel" "SluiceStreamModel" "blockTo" "[I") ∈ zT := List.mem_filter.mpr ⟨List.mem_of_getElem? (i := 885) (by decide +kernel), by decide +kernel⟩
theorem zm851 : (Jvm.Cond.lays "SluiceStreamModel" "SluiceStreamModel" "acks" "I") ∈ zT := List.mem_filter.mpr ⟨List.mem_of_getElem? (i := 887) (by decide +kernel), by decide +kernel⟩
theorem zm759 : (Jvm.Cond.fieldLink "SluiceStreamModel" (31 : Nat) "SluiceStreamModel" "written" "[I") ∈ zT := List.mem_filter.mpr ⟨List.mem_of_getElem? (i := 795) (by decide +kernel), by decide +kernel⟩
theorem zm741 : (Jvm.Cond.fieldLink "SluiceStreamModel" (73 : Nat) "SluiceStreamModel" "w" "I") ∈ zT := List.mem_filter.mpr ⟨List.mem_of_getElem? (i := 777) (by decide +kernel), by decide +kernel⟩
theorem zm863 : (Jvm.Cond.methodLink "SluiceStreamModel" (69 : Nat) ({ cls := "SluiceStreamModel", name := "isIn", desc := "(III)Z" } : Jvm.MethodName)) ∈ zT := List.mem_filter.mpr ⟨List.mem_of_getElem? (i := 899) (by decide +kernel), by decide +kernel⟩
theorem zm7 : (Jvm.Cond.initialized "SluiceStreamModel") ∈ zT := List.mem_filter.mpr ⟨List.mem_of_getElem? (i := 43) (by decide +kernel), by decide +kernel⟩
theorem zm865 : (Jvm.Cond.code ({ cls := "SluiceStreamModel", name := "isIn", desc := "(III)Z" } : Jvm.MethodName) prog_8_method_4_code (3 : Nat) (Option.some Jvm.ClassFile.FieldType.boolean)) ∈ zT := List.mem_filter.mpr ⟨List.mem_of_getElem? (i := 901) (by decide +kernel), by decide +kernel⟩
theorem zm864 : (Jvm.Cond.static ({ cls := "SluiceStreamModel", name := "isIn", desc := "(III)Z" } : Jvm.MethodName)) ∈ zT := List.mem_filter.mpr ⟨List.mem_of_getElem? (i := 900) (by decide +kernel), by decide +kernel⟩
theorem zm866 : (Jvm.Cond.methodLink "SluiceStreamModel" (76 : Nat) ({ cls := "SluiceStreamModel", name := "isFine", desc := "(I)Z" } : Jvm.MethodName)) ∈ zT := List.mem_filter.mpr ⟨List.mem_of_getElem? (i := 902) (by decide +kernel), by decide +kernel⟩
theorem zm869 : (Jvm.Cond.code ({ cls := "SluiceStreamModel", name := "isFine", desc := "(I)Z" } : Jvm.MethodName) prog_8_method_3_code (2 : Nat) (Option.some Jvm.ClassFile.FieldType.boolean)) ∈ zT := List.mem_filter.mpr ⟨List.mem_of_getElem? (i := 905) (by decide +kernel), by decide +kernel⟩
theorem zm868 : (Jvm.Cond.instanceMethod ({ cls := "SluiceStreamModel", name := "isFine", desc := "(I)Z" } : Jvm.MethodName)) ∈ zT := List.mem_filter.mpr ⟨List.mem_of_getElem? (i := 904) (by decide +kernel), by decide +kernel⟩
theorem zms15 : Jvm.Cond.selects "SluiceStreamModel" ({ cls := "SluiceStreamModel", name := "isFine", desc := "(I)Z" } : Jvm.MethodName) ({ cls := "SluiceStreamModel", name := "isFine", desc := "(I)Z" } : Jvm.MethodName) ∈ zT := List.mem_filter.mpr ⟨List.mem_of_getElem? (i := 15) (by decide +kernel), by decide +kernel⟩
theorem zm765 : (Jvm.Cond.fieldLink "SluiceStreamModel" (80 : Nat) "SluiceStreamModel" "readPosition" "I") ∈ zT := List.mem_filter.mpr ⟨List.mem_of_getElem? (i := 801) (by decide +kernel), by decide +kernel⟩
theorem zm764 : (Jvm.Cond.fieldLink "SluiceStreamModel" (83 : Nat) "SluiceStreamModel" "b" "I") ∈ zT := List.mem_filter.mpr ⟨List.mem_of_getElem? (i := 800) (by decide +kernel), by decide +kernel⟩
theorem zm774 : (Jvm.Cond.fieldLink "SluiceStreamModel" (174 : Nat) "SluiceStreamModel" "acks" "I") ∈ zT := List.mem_filter.mpr ⟨List.mem_of_getElem? (i := 810) (by decide +kernel), by decide +kernel⟩
theorem zm769 : (Jvm.Cond.fieldLink "SluiceStreamModel" (51 : Nat) "SluiceStreamModel" "number" "[I") ∈ zT := List.mem_filter.mpr ⟨List.mem_of_getElem? (i := 805) (by decide +kernel), by decide +kernel⟩
theorem zm770 : (Jvm.Cond.fieldLink "SluiceStreamModel" (54 : Nat) "SluiceStreamModel" "window" "[I") ∈ zT := List.mem_filter.mpr ⟨List.mem_of_getElem? (i := 806) (by decide +kernel), by decide +kernel⟩
theorem zm771 : (Jvm.Cond.fieldLink "SluiceStreamModel" (57 : Nat) "SluiceStreamModel" "blocks" "[I") ∈ zT := List.mem_filter.mpr ⟨List.mem_of_getElem? (i := 807) (by decide +kernel), by decide +kernel⟩
theorem zm772 : (Jvm.Cond.fieldLink "SluiceStreamModel" (60 : Nat) "SluiceStreamModel" "blockFrom" "[I") ∈ zT := List.mem_filter.mpr ⟨List.mem_of_getElem? (i := 808) (by decide +kernel), by decide +kernel⟩
theorem zm773 : (Jvm.Cond.fieldLink "SluiceStreamModel" (63 : Nat) "SluiceStreamModel" "blockTo" "[I") ∈ zT := List.mem_filter.mpr ⟨List.mem_of_getElem? (i := 809) (by decide +kernel), by decide +kernel⟩
theorem zm761 : (Jvm.Cond.fieldLink "SluiceStreamModel" (39 : Nat) "SluiceStreamModel" "has" "[Z") ∈ zT := List.mem_filter.mpr ⟨List.mem_of_getElem? (i := 797) (by decide +kernel), by decide +kernel⟩
theorem zm762 : (Jvm.Cond.fieldLink "SluiceStreamModel" (42 : Nat) "SluiceStreamModel" "came" "[I") ∈ zT := List.mem_filter.mpr ⟨List.mem_of_getElem? (i := 798) (by decide +kernel), by decide +kernel⟩
theorem zm894 : (Jvm.Cond.methodLink "SluiceStreamModel" (102 : Nat) ({ cls := "SluiceStreamModel", name := "greater", desc := "(II)I" } : Jvm.MethodName)) ∈ zT := List.mem_filter.mpr ⟨List.mem_of_getElem? (i := 930) (by decide +kernel), by decide +kernel⟩
theorem zm896 : (Jvm.Cond.code ({ cls := "SluiceStreamModel", name := "greater", desc := "(II)I" } : Jvm.MethodName) prog_8_method_6_code (2 : Nat) (Option.some Jvm.ClassFile.FieldType.int)) ∈ zT := List.mem_filter.mpr ⟨List.mem_of_getElem? (i := 932) (by decide +kernel), by decide +kernel⟩
theorem zm895 : (Jvm.Cond.static ({ cls := "SluiceStreamModel", name := "greater", desc := "(II)I" } : Jvm.MethodName)) ∈ zT := List.mem_filter.mpr ⟨List.mem_of_getElem? (i := 931) (by decide +kernel), by decide +kernel⟩
theorem zm886 : (Jvm.Cond.methodLink "SluiceStreamModel" (183 : Nat) ({ cls := "SluiceStreamModel", name := "isStart", desc := "(I)Z" } : Jvm.MethodName)) ∈ zT := List.mem_filter.mpr ⟨List.mem_of_getElem? (i := 922) (by decide +kernel), by decide +kernel⟩
theorem zm889 : (Jvm.Cond.code ({ cls := "SluiceStreamModel", name := "isStart", desc := "(I)Z" } : Jvm.MethodName) prog_8_method_24_code (2 : Nat) (Option.some Jvm.ClassFile.FieldType.boolean)) ∈ zT := List.mem_filter.mpr ⟨List.mem_of_getElem? (i := 925) (by decide +kernel), by decide +kernel⟩
theorem zm888 : (Jvm.Cond.instanceMethod ({ cls := "SluiceStreamModel", name := "isStart", desc := "(I)Z" } : Jvm.MethodName)) ∈ zT := List.mem_filter.mpr ⟨List.mem_of_getElem? (i := 924) (by decide +kernel), by decide +kernel⟩
theorem zms19 : Jvm.Cond.selects "SluiceStreamModel" ({ cls := "SluiceStreamModel", name := "isStart", desc := "(I)Z" } : Jvm.MethodName) ({ cls := "SluiceStreamModel", name := "isStart", desc := "(I)Z" } : Jvm.MethodName) ∈ zT := List.mem_filter.mpr ⟨List.mem_of_getElem? (i := 19) (by decide +kernel), by decide +kernel⟩
theorem zm890 : (Jvm.Cond.methodLink "SluiceStreamModel" (186 : Nat) ({ cls := "SluiceStreamModel", name := "latest", desc := "(I)I" } : Jvm.MethodName)) ∈ zT := List.mem_filter.mpr ⟨List.mem_of_getElem? (i := 926) (by decide +kernel), by decide +kernel⟩
theorem zm893 : (Jvm.Cond.code ({ cls := "SluiceStreamModel", name := "latest", desc := "(I)I" } : Jvm.MethodName) prog_8_method_23_code (4 : Nat) (Option.some Jvm.ClassFile.FieldType.int)) ∈ zT := List.mem_filter.mpr ⟨List.mem_of_getElem? (i := 929) (by decide +kernel), by decide +kernel⟩
theorem zm892 : (Jvm.Cond.instanceMethod ({ cls := "SluiceStreamModel", name := "latest", desc := "(I)I" } : Jvm.MethodName)) ∈ zT := List.mem_filter.mpr ⟨List.mem_of_getElem? (i := 928) (by decide +kernel), by decide +kernel⟩
theorem zms20 : Jvm.Cond.selects "SluiceStreamModel" ({ cls := "SluiceStreamModel", name := "latest", desc := "(I)I" } : Jvm.MethodName) ({ cls := "SluiceStreamModel", name := "latest", desc := "(I)I" } : Jvm.MethodName) ∈ zT := List.mem_filter.mpr ⟨List.mem_of_getElem? (i := 20) (by decide +kernel), by decide +kernel⟩
theorem zm897 : (Jvm.Cond.methodLink "SluiceStreamModel" (190 : Nat) ({ cls := "SluiceStreamModel", name := "runEnd", desc := "(I)I" } : Jvm.MethodName)) ∈ zT := List.mem_filter.mpr ⟨List.mem_of_getElem? (i := 933) (by decide +kernel), by decide +kernel⟩
theorem zm900 : (Jvm.Cond.code ({ cls := "SluiceStreamModel", name := "runEnd", desc := "(I)I" } : Jvm.MethodName) prog_8_method_25_code (3 : Nat) (Option.some Jvm.ClassFile.FieldType.int)) ∈ zT := List.mem_filter.mpr ⟨List.mem_of_getElem? (i := 936) (by decide +kernel), by decide +kernel⟩
theorem zm899 : (Jvm.Cond.instanceMethod ({ cls := "SluiceStreamModel", name := "runEnd", desc := "(I)I" } : Jvm.MethodName)) ∈ zT := List.mem_filter.mpr ⟨List.mem_of_getElem? (i := 935) (by decide +kernel), by decide +kernel⟩
theorem zms21 : Jvm.Cond.selects "SluiceStreamModel" ({ cls := "SluiceStreamModel", name := "runEnd", desc := "(I)I" } : Jvm.MethodName) ({ cls := "SluiceStreamModel", name := "runEnd", desc := "(I)I" } : Jvm.MethodName) ∈ zT := List.mem_filter.mpr ⟨List.mem_of_getElem? (i := 21) (by decide +kernel), by decide +kernel⟩
theorem zm874 : (Jvm.Cond.methodLink "SluiceStreamModel" (86 : Nat) ({ cls := "SluiceStreamModel", name := "room", desc := "()I" } : Jvm.MethodName)) ∈ zT := List.mem_filter.mpr ⟨List.mem_of_getElem? (i := 910) (by decide +kernel), by decide +kernel⟩
theorem zm877 : (Jvm.Cond.code ({ cls := "SluiceStreamModel", name := "room", desc := "()I" } : Jvm.MethodName) prog_8_method_8_code (1 : Nat) (Option.some Jvm.ClassFile.FieldType.int)) ∈ zT := List.mem_filter.mpr ⟨List.mem_of_getElem? (i := 913) (by decide +kernel), by decide +kernel⟩
theorem zm876 : (Jvm.Cond.instanceMethod ({ cls := "SluiceStreamModel", name := "room", desc := "()I" } : Jvm.MethodName)) ∈ zT := List.mem_filter.mpr ⟨List.mem_of_getElem? (i := 912) (by decide +kernel), by decide +kernel⟩
theorem zms16 : Jvm.Cond.selects "SluiceStreamModel" ({ cls := "SluiceStreamModel", name := "room", desc := "()I" } : Jvm.MethodName) ({ cls := "SluiceStreamModel", name := "room", desc := "()I" } : Jvm.MethodName) ∈ zT := List.mem_filter.mpr ⟨List.mem_of_getElem? (i := 16) (by decide +kernel), by decide +kernel⟩
theorem zm763 : (Jvm.Cond.fieldLink "SluiceStreamModel" (180 : Nat) "SluiceStreamModel" "deliveries" "I") ∈ zT := List.mem_filter.mpr ⟨List.mem_of_getElem? (i := 799) (by decide +kernel), by decide +kernel⟩
theorem zm882 : (Jvm.Cond.methodLink "SluiceStreamModel" (177 : Nat) ({ cls := "SluiceStreamModel", name := "leaves", desc := "(I)V" } : Jvm.MethodName)) ∈ zT := List.mem_filter.mpr ⟨List.mem_of_getElem? (i := 918) (by decide +kernel), by decide +kernel⟩
theorem zm885 : (Jvm.Cond.code ({ cls := "SluiceStreamModel", name := "leaves", desc := "(I)V" } : Jvm.MethodName) prog_8_method_27_code (3 : Nat) (Option.none : Option Jvm.ClassFile.FieldType)) ∈ zT := List.mem_filter.mpr ⟨List.mem_of_getElem? (i := 921) (by decide +kernel), by decide +kernel⟩
theorem zm884 : (Jvm.Cond.instanceMethod ({ cls := "SluiceStreamModel", name := "leaves", desc := "(I)V" } : Jvm.MethodName)) ∈ zT := List.mem_filter.mpr ⟨List.mem_of_getElem? (i := 920) (by decide +kernel), by decide +kernel⟩
theorem zms18 : Jvm.Cond.selects "SluiceStreamModel" ({ cls := "SluiceStreamModel", name := "leaves", desc := "(I)V" } : Jvm.MethodName) ({ cls := "SluiceStreamModel", name := "leaves", desc := "(I)V" } : Jvm.MethodName) ∈ zT := List.mem_filter.mpr ⟨List.mem_of_getElem? (i := 18) (by decide +kernel), by decide +kernel⟩
theorem zm878 : (Jvm.Cond.methodLink "SluiceStreamModel" (90 : Nat) ({ cls := "SluiceStreamModel", name := "answers", desc := "()V" } : Jvm.MethodName)) ∈ zT := List.mem_filter.mpr ⟨List.mem_of_getElem? (i := 914) (by decide +kernel), by decide +kernel⟩
theorem zm881 : (Jvm.Cond.code ({ cls := "SluiceStreamModel", name := "answers", desc := "()V" } : Jvm.MethodName) prog_8_method_26_code (6 : Nat) (Option.none : Option Jvm.ClassFile.FieldType)) ∈ zT := List.mem_filter.mpr ⟨List.mem_of_getElem? (i := 917) (by decide +kernel), by decide +kernel⟩
theorem zm880 : (Jvm.Cond.instanceMethod ({ cls := "SluiceStreamModel", name := "answers", desc := "()V" } : Jvm.MethodName)) ∈ zT := List.mem_filter.mpr ⟨List.mem_of_getElem? (i := 916) (by decide +kernel), by decide +kernel⟩
theorem zms17 : Jvm.Cond.selects "SluiceStreamModel" ({ cls := "SluiceStreamModel", name := "answers", desc := "()V" } : Jvm.MethodName) ({ cls := "SluiceStreamModel", name := "answers", desc := "()V" } : Jvm.MethodName) ∈ zT := List.mem_filter.mpr ⟨List.mem_of_getElem? (i := 17) (by decide +kernel), by decide +kernel⟩
theorem zm745 : (Jvm.Cond.fieldLink "SluiceStreamModel" (19 : Nat) "SluiceStreamModel" "l" "I") ∈ zT := List.mem_filter.mpr ⟨List.mem_of_getElem? (i := 781) (by decide +kernel), by decide +kernel⟩
theorem zm739 : (Jvm.Cond.fieldLink "SluiceStreamModel" (96 : Nat) "SluiceStreamModel" "n" "I") ∈ zT := List.mem_filter.mpr ⟨List.mem_of_getElem? (i := 775) (by decide +kernel), by decide +kernel⟩
theorem zm760 : (Jvm.Cond.fieldLink "SluiceStreamModel" (35 : Nat) "SluiceStreamModel" "isMarked" "[Z") ∈ zT := List.mem_filter.mpr ⟨List.mem_of_getElem? (i := 796) (by decide +kernel), by decide +kernel⟩
theorem zm738 : (Jvm.Cond.fieldLink "SluiceStreamModel" (93 : Nat) "SluiceStreamModel" "a" "I") ∈ zT := List.mem_filter.mpr ⟨List.mem_of_getElem? (i := 774) (by decide +kernel), by decide +kernel⟩
theorem zm748 : (Jvm.Cond.fieldLink "SluiceStreamModel" (99 : Nat) "SluiceStreamModel" "x" "I") ∈ zT := List.mem_filter.mpr ⟨List.mem_of_getElem? (i := 784) (by decide +kernel), by decide +kernel⟩
theorem zm913 : (Jvm.Cond.methodLink "SluiceStreamModel" (106 : Nat) ({ cls := "SluiceStreamModel", name := "lastMark", desc := "()I" } : Jvm.MethodName)) ∈ zT := List.mem_filter.mpr ⟨List.mem_of_getElem? (i := 949) (by decide +kernel), by decide +kernel⟩
theorem zm916 : (Jvm.Cond.code ({ cls := "SluiceStreamModel", name := "lastMark", desc := "()I" } : Jvm.MethodName) prog_8_method_12_code (2 : Nat) (Option.some Jvm.ClassFile.FieldType.int)) ∈ zT := List.mem_filter.mpr ⟨List.mem_of_getElem? (i := 952) (by decide +kernel), by decide +kernel⟩
theorem zm915 : (Jvm.Cond.instanceMethod ({ cls := "SluiceStreamModel", name := "lastMark", desc := "()I" } : Jvm.MethodName)) ∈ zT := List.mem_filter.mpr ⟨List.mem_of_getElem? (i := 951) (by decide +kernel), by decide +kernel⟩
theorem zms23 : Jvm.Cond.selects "SluiceStreamModel" ({ cls := "SluiceStreamModel", name := "lastMark", desc := "()I" } : Jvm.MethodName) ({ cls := "SluiceStreamModel", name := "lastMark", desc := "()I" } : Jvm.MethodName) ∈ zT := List.mem_filter.mpr ⟨List.mem_of_getElem? (i := 23) (by decide +kernel), by decide +kernel⟩
theorem zm766 : (Jvm.Cond.fieldLink "SluiceStreamModel" (45 : Nat) "SluiceStreamModel" "start" "[I") ∈ zT := List.mem_filter.mpr ⟨List.mem_of_getElem? (i := 802) (by decide +kernel), by decide +kernel⟩
theorem zm768 : (Jvm.Cond.fieldLink "SluiceStreamModel" (109 : Nat) "SluiceStreamModel" "segments" "I") ∈ zT := List.mem_filter.mpr ⟨List.mem_of_getElem? (i := 804) (by decide +kernel), by decide +kernel⟩
theorem zm767 : (Jvm.Cond.fieldLink "SluiceStreamModel" (48 : Nat) "SluiceStreamModel" "end" "[I") ∈ zT := List.mem_filter.mpr ⟨List.mem_of_getElem? (i := 803) (by decide +kernel), by decide +kernel⟩
theorem zm757 : (Jvm.Cond.fieldLink "SluiceStreamModel" (112 : Nat) "SluiceStreamModel" "sent" "I") ∈ zT := List.mem_filter.mpr ⟨List.mem_of_getElem? (i := 793) (by decide +kernel), by decide +kernel⟩
theorem zm740 : (Jvm.Cond.fieldLink "SluiceStreamModel" (115 : Nat) "SluiceStreamModel" "h" "I") ∈ zT := List.mem_filter.mpr ⟨List.mem_of_getElem? (i := 776) (by decide +kernel), by decide +kernel⟩
theorem zm752 : (Jvm.Cond.fieldLink "SluiceStreamModel" (28 : Nat) "SluiceStreamModel" "timedEnd" "I") ∈ zT := List.mem_filter.mpr ⟨List.mem_of_getElem? (i := 788) (by decide +kernel), by decide +kernel⟩
theorem zm751 : (Jvm.Cond.fieldLink "SluiceStreamModel" (25 : Nat) "SluiceStreamModel" "timerEnd" "I") ∈ zT := List.mem_filter.mpr ⟨List.mem_of_getElem? (i := 787) (by decide +kernel), by decide +kernel⟩
theorem zm737 : (Jvm.Cond.fieldLink "SluiceStreamModel" (121 : Nat) "SluiceStreamModel" "time" "I") ∈ zT := List.mem_filter.mpr ⟨List.mem_of_getElem? (i := 773) (by decide +kernel), by decide +kernel⟩
theorem zm750 : (Jvm.Cond.fieldLink "SluiceStreamModel" (22 : Nat) "SluiceStreamModel" "timeout" "I") ∈ zT := List.mem_filter.mpr ⟨List.mem_of_getElem? (i := 786) (by decide +kernel), by decide +kernel⟩
theorem zm753 : (Jvm.Cond.fieldLink "SluiceStreamModel" (124 : Nat) "SluiceStreamModel" "timedAt" "I") ∈ zT := List.mem_filter.mpr ⟨List.mem_of_getElem? (i := 789) (by decide +kernel), by decide +kernel⟩
theorem zm758 : (Jvm.Cond.fieldLink "SluiceStreamModel" (118 : Nat) "SluiceStreamModel" "sentAgain" "I") ∈ zT := List.mem_filter.mpr ⟨List.mem_of_getElem? (i := 794) (by decide +kernel), by decide +kernel⟩
theorem zm746 : (Jvm.Cond.fieldLink "SluiceStreamModel" (127 : Nat) "SluiceStreamModel" "isRecovering" "Z") ∈ zT := List.mem_filter.mpr ⟨List.mem_of_getElem? (i := 782) (by decide +kernel), by decide +kernel⟩
theorem zm928 : (Jvm.Cond.methodLink "SluiceStreamModel" (143 : Nat) ({ cls := "SluiceStreamModel", name := "flight", desc := "()I" } : Jvm.MethodName)) ∈ zT := List.mem_filter.mpr ⟨List.mem_of_getElem? (i := 964) (by decide +kernel), by decide +kernel⟩
theorem zm931 : (Jvm.Cond.code ({ cls := "SluiceStreamModel", name := "flight", desc := "()I" } : Jvm.MethodName) prog_8_method_11_code (3 : Nat) (Option.some Jvm.ClassFile.FieldType.int)) ∈ zT := List.mem_filter.mpr ⟨List.mem_of_getElem? (i := 967) (by decide +kernel), by decide +kernel⟩
theorem zm930 : (Jvm.Cond.instanceMethod ({ cls := "SluiceStreamModel", name := "flight", desc := "()I" } : Jvm.MethodName)) ∈ zT := List.mem_filter.mpr ⟨List.mem_of_getElem? (i := 966) (by decide +kernel), by decide +kernel⟩
theorem zms26 : Jvm.Cond.selects "SluiceStreamModel" ({ cls := "SluiceStreamModel", name := "flight", desc := "()I" } : Jvm.MethodName) ({ cls := "SluiceStreamModel", name := "flight", desc := "()I" } : Jvm.MethodName) ∈ zT := List.mem_filter.mpr ⟨List.mem_of_getElem? (i := 26) (by decide +kernel), by decide +kernel⟩
theorem zm742 : (Jvm.Cond.fieldLink "SluiceStreamModel" (9 : Nat) "SluiceStreamModel" "edge" "I") ∈ zT := List.mem_filter.mpr ⟨List.mem_of_getElem? (i := 778) (by decide +kernel), by decide +kernel⟩
theorem zm924 : (Jvm.Cond.methodLink "SluiceStreamModel" (140 : Nat) ({ cls := "SluiceStreamModel", name := "sends", desc := "(II)I" } : Jvm.MethodName)) ∈ zT := List.mem_filter.mpr ⟨List.mem_of_getElem? (i := 960) (by decide +kernel), by decide +kernel⟩
theorem zm927 : (Jvm.Cond.code ({ cls := "SluiceStreamModel", name := "sends", desc := "(II)I" } : Jvm.MethodName) prog_8_method_15_code (3 : Nat) (Option.some Jvm.ClassFile.FieldType.int)) ∈ zT := List.mem_filter.mpr ⟨List.mem_of_getElem? (i := 963) (by decide +kernel), by decide +kernel⟩
theorem zm926 : (Jvm.Cond.instanceMethod ({ cls := "SluiceStreamModel", name := "sends", desc := "(II)I" } : Jvm.MethodName)) ∈ zT := List.mem_filter.mpr ⟨List.mem_of_getElem? (i := 962) (by decide +kernel), by decide +kernel⟩
theorem zms25 : Jvm.Cond.selects "SluiceStreamModel" ({ cls := "SluiceStreamModel", name := "sends", desc := "(II)I" } : Jvm.MethodName) ({ cls := "SluiceStreamModel", name := "sends", desc := "(II)I" } : Jvm.MethodName) ∈ zT := List.mem_filter.mpr ⟨List.mem_of_getElem? (i := 25) (by decide +kernel), by decide +kernel⟩
theorem zm743 : (Jvm.Cond.fieldLink "SluiceStreamModel" (13 : Nat) "SluiceStreamModel" "c" "I") ∈ zT := List.mem_filter.mpr ⟨List.mem_of_getElem? (i := 779) (by decide +kernel), by decide +kernel⟩
theorem zm917 : (Jvm.Cond.methodLink "SluiceStreamModel" (134 : Nat) ({ cls := "SluiceStreamModel", name := "lesser", desc := "(II)I" } : Jvm.MethodName)) ∈ zT := List.mem_filter.mpr ⟨List.mem_of_getElem? (i := 953) (by decide +kernel), by decide +kernel⟩
theorem zm919 : (Jvm.Cond.code ({ cls := "SluiceStreamModel", name := "lesser", desc := "(II)I" } : Jvm.MethodName) prog_8_method_5_code (2 : Nat) (Option.some Jvm.ClassFile.FieldType.int)) ∈ zT := List.mem_filter.mpr ⟨List.mem_of_getElem? (i := 955) (by decide +kernel), by decide +kernel⟩
theorem zm918 : (Jvm.Cond.static ({ cls := "SluiceStreamModel", name := "lesser", desc := "(II)I" } : Jvm.MethodName)) ∈ zT := List.mem_filter.mpr ⟨List.mem_of_getElem? (i := 954) (by decide +kernel), by decide +kernel⟩
theorem zm920 : (Jvm.Cond.methodLink "SluiceStreamModel" (137 : Nat) ({ cls := "SluiceStreamModel", name := "markOr", desc := "(II)I" } : Jvm.MethodName)) ∈ zT := List.mem_filter.mpr ⟨List.mem_of_getElem? (i := 956) (by decide +kernel), by decide +kernel⟩
theorem zm923 : (Jvm.Cond.code ({ cls := "SluiceStreamModel", name := "markOr", desc := "(II)I" } : Jvm.MethodName) prog_8_method_13_code (4 : Nat) (Option.some Jvm.ClassFile.FieldType.int)) ∈ zT := List.mem_filter.mpr ⟨List.mem_of_getElem? (i := 959) (by decide +kernel), by decide +kernel⟩
theorem zm922 : (Jvm.Cond.instanceMethod ({ cls := "SluiceStreamModel", name := "markOr", desc := "(II)I" } : Jvm.MethodName)) ∈ zT := List.mem_filter.mpr ⟨List.mem_of_getElem? (i := 958) (by decide +kernel), by decide +kernel⟩
theorem zms24 : Jvm.Cond.selects "SluiceStreamModel" ({ cls := "SluiceStreamModel", name := "markOr", desc := "(II)I" } : Jvm.MethodName) ({ cls := "SluiceStreamModel", name := "markOr", desc := "(II)I" } : Jvm.MethodName) ∈ zT := List.mem_filter.mpr ⟨List.mem_of_getElem? (i := 24) (by decide +kernel), by decide +kernel⟩
theorem zm909 : (Jvm.Cond.methodLink "SluiceStreamModel" (131 : Nat) ({ cls := "SluiceStreamModel", name := "hole", desc := "()I" } : Jvm.MethodName)) ∈ zT := List.mem_filter.mpr ⟨List.mem_of_getElem? (i := 945) (by decide +kernel), by decide +kernel⟩
theorem zm912 : (Jvm.Cond.code ({ cls := "SluiceStreamModel", name := "hole", desc := "()I" } : Jvm.MethodName) prog_8_method_14_code (2 : Nat) (Option.some Jvm.ClassFile.FieldType.int)) ∈ zT := List.mem_filter.mpr ⟨List.mem_of_getElem? (i := 948) (by decide +kernel), by decide +kernel⟩
theorem zm911 : (Jvm.Cond.instanceMethod ({ cls := "SluiceStreamModel", name := "hole", desc := "()I" } : Jvm.MethodName)) ∈ zT := List.mem_filter.mpr ⟨List.mem_of_getElem? (i := 947) (by decide +kernel), by decide +kernel⟩
theorem zms22 : Jvm.Cond.selects "SluiceStreamModel" ({ cls := "SluiceStreamModel", name := "hole", desc := "()I" } : Jvm.MethodName) ({ cls := "SluiceStreamModel", name := "hole", desc := "()I" } : Jvm.MethodName) ∈ zT := List.mem_filter.mpr ⟨List.mem_of_getElem? (i := 22) (by decide +kernel), by decide +kernel⟩
theorem zm744 : (Jvm.Cond.fieldLink "SluiceStreamModel" (16 : Nat) "SluiceStreamModel" "t" "I") ∈ zT := List.mem_filter.mpr ⟨List.mem_of_getElem? (i := 780) (by decide +kernel), by decide +kernel⟩
theorem zm749 : (Jvm.Cond.fieldLink "SluiceStreamModel" (146 : Nat) "SluiceStreamModel" "duplicates" "I") ∈ zT := List.mem_filter.mpr ⟨List.mem_of_getElem? (i := 785) (by decide +kernel), by decide +kernel⟩
theorem zm936 : (Jvm.Cond.methodLink "SluiceStreamModel" (149 : Nat) ({ cls := "SluiceStreamModel", name := "runsOut", desc := "()V" } : Jvm.MethodName)) ∈ zT := List.mem_filter.mpr ⟨List.mem_of_getElem? (i := 972) (by decide +kernel), by decide +kernel⟩
theorem zm939 : (Jvm.Cond.code ({ cls := "SluiceStreamModel", name := "runsOut", desc := "()V" } : Jvm.MethodName) prog_8_method_17_code (2 : Nat) (Option.none : Option Jvm.ClassFile.FieldType)) ∈ zT := List.mem_filter.mpr ⟨List.mem_of_getElem? (i := 975) (by decide +kernel), by decide +kernel⟩
theorem zm938 : (Jvm.Cond.instanceMethod ({ cls := "SluiceStreamModel", name := "runsOut", desc := "()V" } : Jvm.MethodName)) ∈ zT := List.mem_filter.mpr ⟨List.mem_of_getElem? (i := 974) (by decide +kernel), by decide +kernel⟩
theorem zms27 : Jvm.Cond.selects "SluiceStreamModel" ({ cls := "SluiceStreamModel", name := "runsOut", desc := "()V" } : Jvm.MethodName) ({ cls := "SluiceStreamModel", name := "runsOut", desc := "()V" } : Jvm.MethodName) ∈ zT := List.mem_filter.mpr ⟨List.mem_of_getElem? (i := 27) (by decide +kernel), by decide +kernel⟩
theorem zm756 : (Jvm.Cond.fieldLink "SluiceStreamModel" (152 : Nat) "SluiceStreamModel" "isSampled" "Z") ∈ zT := List.mem_filter.mpr ⟨List.mem_of_getElem? (i := 792) (by decide +kernel), by decide +kernel⟩
theorem zm754 : (Jvm.Cond.fieldLink "SluiceStreamModel" (155 : Nat) "SluiceStreamModel" "roundTrip" "I") ∈ zT := List.mem_filter.mpr ⟨List.mem_of_getElem? (i := 790) (by decide +kernel), by decide +kernel⟩
theorem zm755 : (Jvm.Cond.fieldLink "SluiceStreamModel" (158 : Nat) "SluiceStreamModel" "variation" "I") ∈ zT := List.mem_filter.mpr ⟨List.mem_of_getElem? (i := 791) (by decide +kernel), by decide +kernel⟩
theorem zm747 : (Jvm.Cond.fieldLink "SluiceStreamModel" (165 : Nat) "SluiceStreamModel" "r" "I") ∈ zT := List.mem_filter.mpr ⟨List.mem_of_getElem? (i := 783) (by decide +kernel), by decide +kernel⟩
theorem zm976 : (Jvm.Cond.methodLink "SluiceStreamModel" (161 : Nat) ({ cls := "SluiceStreamModel", name := "samples", desc := "(I)V" } : Jvm.MethodName)) ∈ zT := List.mem_filter.mpr ⟨List.mem_of_getElem? (i := 1012) (by decide +kernel), by decide +kernel⟩
theorem zm979 : (Jvm.Cond.code ({ cls := "SluiceStreamModel", name := "samples", desc := "(I)V" } : Jvm.MethodName) prog_8_method_19_code (3 : Nat) (Option.none : Option Jvm.ClassFile.FieldType)) ∈ zT := List.mem_filter.mpr ⟨List.mem_of_getElem? (i := 1015) (by decide +kernel), by decide +kernel⟩
theorem zm978 : (Jvm.Cond.instanceMethod ({ cls := "SluiceStreamModel", name := "samples", desc := "(I)V" } : Jvm.MethodName)) ∈ zT := List.mem_filter.mpr ⟨List.mem_of_getElem? (i := 1014) (by decide +kernel), by decide +kernel⟩
theorem zms33 : Jvm.Cond.selects "SluiceStreamModel" ({ cls := "SluiceStreamModel", name := "samples", desc := "(I)V" } : Jvm.MethodName) ({ cls := "SluiceStreamModel", name := "samples", desc := "(I)V" } : Jvm.MethodName) ∈ zT := List.mem_filter.mpr ⟨List.mem_of_getElem? (i := 33) (by decide +kernel), by decide +kernel⟩
theorem zm980 : (Jvm.Cond.methodLink "SluiceStreamModel" (171 : Nat) ({ cls := "SluiceStreamModel", name := "recovers", desc := "()V" } : Jvm.MethodName)) ∈ zT := List.mem_filter.mpr ⟨List.mem_of_getElem? (i := 1016) (by decide +kernel), by decide +kernel⟩
theorem zm983 : (Jvm.Cond.code ({ cls := "SluiceStreamModel", name := "recovers", desc := "()V" } : Jvm.MethodName) prog_8_method_21_code (1 : Nat) (Option.none : Option Jvm.ClassFile.FieldType)) ∈ zT := List.mem_filter.mpr ⟨List.mem_of_getElem? (i := 1019) (by decide +kernel), by decide +kernel⟩
theorem zm982 : (Jvm.Cond.instanceMethod ({ cls := "SluiceStreamModel", name := "recovers", desc := "()V" } : Jvm.MethodName)) ∈ zT := List.mem_filter.mpr ⟨List.mem_of_getElem? (i := 1018) (by decide +kernel), by decide +kernel⟩
theorem zms34 : Jvm.Cond.selects "SluiceStreamModel" ({ cls := "SluiceStreamModel", name := "recovers", desc := "()V" } : Jvm.MethodName) ({ cls := "SluiceStreamModel", name := "recovers", desc := "()V" } : Jvm.MethodName) ∈ zT := List.mem_filter.mpr ⟨List.mem_of_getElem? (i := 34) (by decide +kernel), by decide +kernel⟩
theorem zm972 : (Jvm.Cond.methodLink "SluiceStreamModel" (168 : Nat) ({ cls := "SluiceStreamModel", name := "advances", desc := "(I)V" } : Jvm.MethodName)) ∈ zT := List.mem_filter.mpr ⟨List.mem_of_getElem? (i := 1008) (by decide +kernel), by decide +kernel⟩
theorem zm975 : (Jvm.Cond.code ({ cls := "SluiceStreamModel", name := "advances", desc := "(I)V" } : Jvm.MethodName) prog_8_method_20_code (3 : Nat) (Option.none : Option Jvm.ClassFile.FieldType)) ∈ zT := List.mem_filter.mpr ⟨List.mem_of_getElem? (i := 1011) (by decide +kernel), by decide +kernel⟩
theorem zm974 : (Jvm.Cond.instanceMethod ({ cls := "SluiceStreamModel", name := "advances", desc := "(I)V" } : Jvm.MethodName)) ∈ zT := List.mem_filter.mpr ⟨List.mem_of_getElem? (i := 1010) (by decide +kernel), by decide +kernel⟩
theorem zms32 : Jvm.Cond.selects "SluiceStreamModel" ({ cls := "SluiceStreamModel", name := "advances", desc := "(I)V" } : Jvm.MethodName) ({ cls := "SluiceStreamModel", name := "advances", desc := "(I)V" } : Jvm.MethodName) ∈ zT := List.mem_filter.mpr ⟨List.mem_of_getElem? (i := 32) (by decide +kernel), by decide +kernel⟩
theorem zm944 : (Jvm.Cond.methodLink "SluiceStreamModel" (193 : Nat) ({ cls := "SluiceStreamModel", name := "isSegment", desc := "(I)Z" } : Jvm.MethodName)) ∈ zT := List.mem_filter.mpr ⟨List.mem_of_getElem? (i := 980) (by decide +kernel), by decide +kernel⟩
theorem zm947 : (Jvm.Cond.code ({ cls := "SluiceStreamModel", name := "isSegment", desc := "(I)Z" } : Jvm.MethodName) prog_8_method_28_code (2 : Nat) (Option.some Jvm.ClassFile.FieldType.boolean)) ∈ zT := List.mem_filter.mpr ⟨List.mem_of_getElem? (i := 983) (by decide +kernel), by decide +kernel⟩
theorem zm946 : (Jvm.Cond.instanceMethod ({ cls := "SluiceStreamModel", name := "isSegment", desc := "(I)Z" } : Jvm.MethodName)) ∈ zT := List.mem_filter.mpr ⟨List.mem_of_getElem? (i := 982) (by decide +kernel), by decide +kernel⟩
theorem zms28 : Jvm.Cond.selects "SluiceStreamModel" ({ cls := "SluiceStreamModel", name := "isSegment", desc := "(I)Z" } : Jvm.MethodName) ({ cls := "SluiceStreamModel", name := "isSegment", desc := "(I)Z" } : Jvm.MethodName) ∈ zT := List.mem_filter.mpr ⟨List.mem_of_getElem? (i := 28) (by decide +kernel), by decide +kernel⟩
theorem zm948 : (Jvm.Cond.methodLink "SluiceStreamModel" (196 : Nat) ({ cls := "SluiceStreamModel", name := "takes", desc := "(I)V" } : Jvm.MethodName)) ∈ zT := List.mem_filter.mpr ⟨List.mem_of_getElem? (i := 984) (by decide +kernel), by decide +kernel⟩
theorem zm951 : (Jvm.Cond.code ({ cls := "SluiceStreamModel", name := "takes", desc := "(I)V" } : Jvm.MethodName) prog_8_method_30_code (3 : Nat) (Option.none : Option Jvm.ClassFile.FieldType)) ∈ zT := List.mem_filter.mpr ⟨List.mem_of_getElem? (i := 987) (by decide +kernel), by decide +kernel⟩
theorem zm950 : (Jvm.Cond.instanceMethod ({ cls := "SluiceStreamModel", name := "takes", desc := "(I)V" } : Jvm.MethodName)) ∈ zT := List.mem_filter.mpr ⟨List.mem_of_getElem? (i := 986) (by decide +kernel), by decide +kernel⟩
theorem zms29 : Jvm.Cond.selects "SluiceStreamModel" ({ cls := "SluiceStreamModel", name := "takes", desc := "(I)V" } : Jvm.MethodName) ({ cls := "SluiceStreamModel", name := "takes", desc := "(I)V" } : Jvm.MethodName) ∈ zT := List.mem_filter.mpr ⟨List.mem_of_getElem? (i := 29) (by decide +kernel), by decide +kernel⟩
theorem zm964 : (Jvm.Cond.methodLink "SluiceStreamModel" (199 : Nat) ({ cls := "SluiceStreamModel", name := "isAck", desc := "(I)Z" } : Jvm.MethodName)) ∈ zT := List.mem_filter.mpr ⟨List.mem_of_getElem? (i := 1000) (by decide +kernel), by decide +kernel⟩
theorem zm967 : (Jvm.Cond.code ({ cls := "SluiceStreamModel", name := "isAck", desc := "(I)Z" } : Jvm.MethodName) prog_8_method_29_code (2 : Nat) (Option.some Jvm.ClassFile.FieldType.boolean)) ∈ zT := List.mem_filter.mpr ⟨List.mem_of_getElem? (i := 1003) (by decide +kernel), by decide +kernel⟩
theorem zm966 : (Jvm.Cond.instanceMethod ({ cls := "SluiceStreamModel", name := "isAck", desc := "(I)Z" } : Jvm.MethodName)) ∈ zT := List.mem_filter.mpr ⟨List.mem_of_getElem? (i := 1002) (by decide +kernel), by decide +kernel⟩
theorem zms30 : Jvm.Cond.selects "SluiceStreamModel" ({ cls := "SluiceStreamModel", name := "isAck", desc := "(I)Z" } : Jvm.MethodName) ({ cls := "SluiceStreamModel", name := "isAck", desc := "(I)Z" } : Jvm.MethodName) ∈ zT := List.mem_filter.mpr ⟨List.mem_of_getElem? (i := 30) (by decide +kernel), by decide +kernel⟩
theorem zm968 : (Jvm.Cond.methodLink "SluiceStreamModel" (202 : Nat) ({ cls := "SluiceStreamModel", name := "arrives", desc := "(I)V" } : Jvm.MethodName)) ∈ zT := List.mem_filter.mpr ⟨List.mem_of_getElem? (i := 1004) (by decide +kernel), by decide +kernel⟩
theorem zm971 : (Jvm.Cond.code ({ cls := "SluiceStreamModel", name := "arrives", desc := "(I)V" } : Jvm.MethodName) prog_8_method_22_code (6 : Nat) (Option.none : Option Jvm.ClassFile.FieldType)) ∈ zT := List.mem_filter.mpr ⟨List.mem_of_getElem? (i := 1007) (by decide +kernel), by decide +kernel⟩
theorem zm970 : (Jvm.Cond.instanceMethod ({ cls := "SluiceStreamModel", name := "arrives", desc := "(I)V" } : Jvm.MethodName)) ∈ zT := List.mem_filter.mpr ⟨List.mem_of_getElem? (i := 1006) (by decide +kernel), by decide +kernel⟩
theorem zms31 : Jvm.Cond.selects "SluiceStreamModel" ({ cls := "SluiceStreamModel", name := "arrives", desc := "(I)V" } : Jvm.MethodName) ({ cls := "SluiceStreamModel", name := "arrives", desc := "(I)V" } : Jvm.MethodName) ∈ zT := List.mem_filter.mpr ⟨List.mem_of_getElem? (i := 31) (by decide +kernel), by decide +kernel⟩
theorem zm1116 : (Jvm.Cond.methodLink "SluiceStreamModel" (205 : Nat) ({ cls := "SluiceStreamModel", name := "startOfBlock", desc := "(I)I" } : Jvm.MethodName)) ∈ zT := List.mem_filter.mpr ⟨List.mem_of_getElem? (i := 1152) (by decide +kernel), by decide +kernel⟩
theorem zm1119 : (Jvm.Cond.code ({ cls := "SluiceStreamModel", name := "startOfBlock", desc := "(I)I" } : Jvm.MethodName) prog_8_method_66_code (4 : Nat) (Option.some Jvm.ClassFile.FieldType.int)) ∈ zT := List.mem_filter.mpr ⟨List.mem_of_getElem? (i := 1155) (by decide +kernel), by decide +kernel⟩
theorem zm1118 : (Jvm.Cond.instanceMethod ({ cls := "SluiceStreamModel", name := "startOfBlock", desc := "(I)I" } : Jvm.MethodName)) ∈ zT := List.mem_filter.mpr ⟨List.mem_of_getElem? (i := 1154) (by decide +kernel), by decide +kernel⟩
theorem zms35 : Jvm.Cond.selects "SluiceStreamModel" ({ cls := "SluiceStreamModel", name := "startOfBlock", desc := "(I)I" } : Jvm.MethodName) ({ cls := "SluiceStreamModel", name := "startOfBlock", desc := "(I)I" } : Jvm.MethodName) ∈ zT := List.mem_filter.mpr ⟨List.mem_of_getElem? (i := 35) (by decide +kernel), by decide +kernel⟩
theorem zm179 : (Jvm.Cond.fieldLink "SluiceStream" (23 : Nat) "SluiceStream" "receiver" "LSluiceStream$Receiver;") ∈ zT := List.mem_filter.mpr ⟨List.mem_of_getElem? (i := 215) (by decide +kernel), by decide +kernel⟩
theorem zm182 : (Jvm.Cond.laysFinal "SluiceStream" "SluiceStream" "values" "[I") ∈ zT := List.mem_filter.mpr ⟨List.mem_of_getElem? (i := 218) (by decide +kernel), by decide +kernel⟩
theorem zm184 : (Jvm.Cond.laysFinal "SluiceStream" "SluiceStream" "sender" "LSluiceStream$Sender;") ∈ zT := List.mem_filter.mpr ⟨List.mem_of_getElem? (i := 220) (by decide +kernel), by decide +kernel⟩
theorem zm186 : (Jvm.Cond.laysFinal "SluiceStream" "SluiceStream" "receiver" "LSluiceStream$Receiver;") ∈ zT := List.mem_filter.mpr ⟨List.mem_of_getElem? (i := 222) (by decide +kernel), by decide +kernel⟩
theorem zm188 : (Jvm.Cond.laysFinal "SluiceStream" "SluiceStream" "segmentList" "LSluiceStream$Rows;") ∈ zT := List.mem_filter.mpr ⟨List.mem_of_getElem? (i := 224) (by decide +kernel), by decide +kernel⟩
theorem zm190 : (Jvm.Cond.laysFinal "SluiceStream" "SluiceStream" "ackList" "LSluiceStream$Rows;") ∈ zT := List.mem_filter.mpr ⟨List.mem_of_getElem? (i := 226) (by decide +kernel), by decide +kernel⟩
theorem zm150 : (Jvm.Cond.fieldLink "SluiceStream" (49 : Nat) "SluiceStream$Receiver" "readAt" "I") ∈ zT := List.mem_filter.mpr ⟨List.mem_of_getElem? (i := 186) (by decide +kernel), by decide +kernel⟩
theorem zm148 : (Jvm.Cond.fieldLink "SluiceStream" (52 : Nat) "SluiceStream$Receiver" "firstMissing" "I") ∈ zT := List.mem_filter.mpr ⟨List.mem_of_getElem? (i := 184) (by decide +kernel), by decide +kernel⟩
theorem zm177 : (Jvm.Cond.fieldLink "SluiceStream" (9 : Nat) "SluiceStream" "values" "[I") ∈ zT := List.mem_filter.mpr ⟨List.mem_of_getElem? (i := 213) (by decide +kernel), by decide +kernel⟩
theorem zm197 : (Jvm.Cond.methodLink "SluiceStream" (55 : Nat) ({ cls := "SluiceStream$Receiver", name := "passByte", desc := "()Z" } : Jvm.MethodName)) ∈ zT := List.mem_filter.mpr ⟨List.mem_of_getElem? (i := 233) (by decide +kernel), by decide +kernel⟩
theorem zm200 : (Jvm.Cond.code ({ cls := "SluiceStream$Receiver", name := "passByte", desc := "()Z" } : Jvm.MethodName) prog_3_method_4_code (2 : Nat) (Option.some Jvm.ClassFile.FieldType.boolean)) ∈ zT := List.mem_filter.mpr ⟨List.mem_of_getElem? (i := 236) (by decide +kernel), by decide +kernel⟩
theorem zm198 : (Jvm.Cond.instanceMethod ({ cls := "SluiceStream$Receiver", name := "passByte", desc := "()Z" } : Jvm.MethodName)) ∈ zT := List.mem_filter.mpr ⟨List.mem_of_getElem? (i := 234) (by decide +kernel), by decide +kernel⟩
theorem zm199 : (Jvm.Cond.selects "SluiceStream$Receiver" ({ cls := "SluiceStream$Receiver", name := "passByte", desc := "()Z" } : Jvm.MethodName) ({ cls := "SluiceStream$Receiver", name := "passByte", desc := "()Z" } : Jvm.MethodName)) ∈ zT := List.mem_filter.mpr ⟨List.mem_of_getElem? (i := 235) (by decide +kernel), by decide +kernel⟩
theorem zm181 : (Jvm.Cond.fieldLink "SluiceStream" (36 : Nat) "SluiceStream" "ackList" "LSluiceStream$Rows;") ∈ zT := List.mem_filter.mpr ⟨List.mem_of_getElem? (i := 217) (by decide +kernel), by decide +kernel⟩
theorem zm205 : (Jvm.Cond.methodLink "SluiceStream" (59 : Nat) ({ cls := "SluiceStream$Receiver", name := "makeAck", desc := "(LSluiceStream$Rows;)V" } : Jvm.MethodName)) ∈ zT := List.mem_filter.mpr ⟨List.mem_of_getElem? (i := 241) (by decide +kernel), by decide +kernel⟩
theorem zm208 : (Jvm.Cond.code ({ cls := "SluiceStream$Receiver", name := "makeAck", desc := "(LSluiceStream$Rows;)V" } : Jvm.MethodName) prog_3_method_5_code (3 : Nat) (Option.none : Option Jvm.ClassFile.FieldType)) ∈ zT := List.mem_filter.mpr ⟨List.mem_of_getElem? (i := 244) (by decide +kernel), by decide +kernel⟩
theorem zm206 : (Jvm.Cond.instanceMethod ({ cls := "SluiceStream$Receiver", name := "makeAck", desc := "(LSluiceStream$Rows;)V" } : Jvm.MethodName)) ∈ zT := List.mem_filter.mpr ⟨List.mem_of_getElem? (i := 242) (by decide +kernel), by decide +kernel⟩
theorem zm207 : (Jvm.Cond.selects "SluiceStream$Receiver" ({ cls := "SluiceStream$Receiver", name := "makeAck", desc := "(LSluiceStream$Rows;)V" } : Jvm.MethodName) ({ cls := "SluiceStream$Receiver", name := "makeAck", desc := "(LSluiceStream$Rows;)V" } : Jvm.MethodName)) ∈ zT := List.mem_filter.mpr ⟨List.mem_of_getElem? (i := 243) (by decide +kernel), by decide +kernel⟩
theorem zm180 : (Jvm.Cond.fieldLink "SluiceStream" (32 : Nat) "SluiceStream" "segmentList" "LSluiceStream$Rows;") ∈ zT := List.mem_filter.mpr ⟨List.mem_of_getElem? (i := 216) (by decide +kernel), by decide +kernel⟩
theorem zm169 : (Jvm.Cond.fieldLink "SluiceStream" (103 : Nat) "SluiceStream$Rows" "size" "I") ∈ zT := List.mem_filter.mpr ⟨List.mem_of_getElem? (i := 205) (by decide +kernel), by decide +kernel⟩
theorem zm178 : (Jvm.Cond.fieldLink "SluiceStream" (16 : Nat) "SluiceStream" "sender" "LSluiceStream$Sender;") ∈ zT := List.mem_filter.mpr ⟨List.mem_of_getElem? (i := 214) (by decide +kernel), by decide +kernel⟩
theorem zm80 : (Jvm.Cond.fieldLink "SluiceStream" (110 : Nat) "SluiceStream$Sender" "timer" "LSluiceStream$Timer;") ∈ zT := List.mem_filter.mpr ⟨List.mem_of_getElem? (i := 116) (by decide +kernel), by decide +kernel⟩
theorem zm47 : (Jvm.Cond.fieldLink "SluiceStream" (114 : Nat) "SluiceStream$Timer" "now" "I") ∈ zT := List.mem_filter.mpr ⟨List.mem_of_getElem? (i := 83) (by decide +kernel), by decide +kernel⟩
theorem zm82 : (Jvm.Cond.fieldLink "SluiceStream" (119 : Nat) "SluiceStream$Sender" "acked" "I") ∈ zT := List.mem_filter.mpr ⟨List.mem_of_getElem? (i := 118) (by decide +kernel), by decide +kernel⟩
theorem zm84 : (Jvm.Cond.fieldLink "SluiceStream" (122 : Nat) "SluiceStream$Sender" "toSend" "I") ∈ zT := List.mem_filter.mpr ⟨List.mem_of_getElem? (i := 120) (by decide +kernel), by decide +kernel⟩
theorem zm86 : (Jvm.Cond.fieldLink "SluiceStream" (125 : Nat) "SluiceStream$Sender" "sentBelow" "I") ∈ zT := List.mem_filter.mpr ⟨List.mem_of_getElem? (i := 122) (by decide +kernel), by decide +kernel⟩
theorem zm88 : (Jvm.Cond.fieldLink "SluiceStream" (42 : Nat) "SluiceStream$Sender" "writtenBytes" "I") ∈ zT := List.mem_filter.mpr ⟨List.mem_of_getElem? (i := 124) (by decide +kernel), by decide +kernel⟩
theorem zm90 : (Jvm.Cond.fieldLink "SluiceStream" (128 : Nat) "SluiceStream$Sender" "edgeAt" "I") ∈ zT := List.mem_filter.mpr ⟨List.mem_of_getElem? (i := 126) (by decide +kernel), by decide +kernel⟩
theorem zm300 : (Jvm.Cond.methodLink "SluiceStream" (131 : Nat) ({ cls := "SluiceStream$Sender", name := "countFlying", desc := "()I" } : Jvm.MethodName)) ∈ zT := List.mem_filter.mpr ⟨List.mem_of_getElem? (i := 336) (by decide +kernel), by decide +kernel⟩
theorem zm92 : (Jvm.Cond.fieldLink "SluiceStream" (143 : Nat) "SluiceStream$Sender" "congestion" "I") ∈ zT := List.mem_filter.mpr ⟨List.mem_of_getElem? (i := 128) (by decide +kernel), by decide +kernel⟩
theorem zm94 : (Jvm.Cond.fieldLink "SluiceStream" (146 : Nat) "SluiceStream$Sender" "slowFrom" "I") ∈ zT := List.mem_filter.mpr ⟨List.mem_of_getElem? (i := 130) (by decide +kernel), by decide +kernel⟩
theorem zm98 : (Jvm.Cond.fieldLink "SluiceStream" (149 : Nat) "SluiceStream$Sender" "duplicateCount" "I") ∈ zT := List.mem_filter.mpr ⟨List.mem_of_getElem? (i := 134) (by decide +kernel), by decide +kernel⟩
theorem zm100 : (Jvm.Cond.fieldLink "SluiceStream" (152 : Nat) "SluiceStream$Sender" "recoversTo" "I") ∈ zT := List.mem_filter.mpr ⟨List.mem_of_getElem? (i := 136) (by decide +kernel), by decide +kernel⟩
theorem zm49 : (Jvm.Cond.fieldLink "SluiceStream" (155 : Nat) "SluiceStream$Timer" "span" "I") ∈ zT := List.mem_filter.mpr ⟨List.mem_of_getElem? (i := 85) (by decide +kernel), by decide +kernel⟩
theorem zm51 : (Jvm.Cond.fieldLink "SluiceStream" (158 : Nat) "SluiceStream$Timer" "endsAt" "I") ∈ zT := List.mem_filter.mpr ⟨List.mem_of_getElem? (i := 87) (by decide +kernel), by decide +kernel⟩
theorem zm55 : (Jvm.Cond.fieldLink "SluiceStream" (161 : Nat) "SluiceStream$Timer" "smoothed" "I") ∈ zT := List.mem_filter.mpr ⟨List.mem_of_getElem? (i := 91) (by decide +kernel), by decide +kernel⟩
theorem zm57 : (Jvm.Cond.fieldLink "SluiceStream" (164 : Nat) "SluiceStream$Timer" "deviation" "I") ∈ zT := List.mem_filter.mpr ⟨List.mem_of_getElem? (i := 93) (by decide +kernel), by decide +kernel⟩
theorem zm53 : (Jvm.Cond.fieldLink "SluiceStream" (167 : Nat) "SluiceStream$Timer" "timedTo" "I") ∈ zT := List.mem_filter.mpr ⟨List.mem_of_getElem? (i := 89) (by decide +kernel), by decide +kernel⟩
theorem zm103 : (Jvm.Cond.fieldLink "SluiceStream" (170 : Nat) "SluiceStream$Sender" "sentCount" "I") ∈ zT := List.mem_filter.mpr ⟨List.mem_of_getElem? (i := 139) (by decide +kernel), by decide +kernel⟩
theorem zm105 : (Jvm.Cond.fieldLink "SluiceStream" (173 : Nat) "SluiceStream$Sender" "sentAgainCount" "I") ∈ zT := List.mem_filter.mpr ⟨List.mem_of_getElem? (i := 141) (by decide +kernel), by decide +kernel⟩
theorem zm364 : (Jvm.Cond.methodLink "SluiceStream" (176 : Nat) ({ cls := "SluiceStream$Receiver", name := "room", desc := "()I" } : Jvm.MethodName)) ∈ zT := List.mem_filter.mpr ⟨List.mem_of_getElem? (i := 400) (by decide +kernel), by decide +kernel⟩
theorem zm369 : (Jvm.Cond.methodLink "SluiceStream" (179 : Nat) ({ cls := "SluiceStream$Receiver", name := "countBlocks", desc := "()I" } : Jvm.MethodName)) ∈ zT := List.mem_filter.mpr ⟨List.mem_of_getElem? (i := 405) (by decide +kernel), by decide +kernel⟩
theorem zm372 : (Jvm.Cond.code ({ cls := "SluiceStream$Receiver", name := "countBlocks", desc := "()I" } : Jvm.MethodName) prog_3_method_8_code (4 : Nat) (Option.some Jvm.ClassFile.FieldType.int)) ∈ zT := List.mem_filter.mpr ⟨List.mem_of_getElem? (i := 408) (by decide +kernel), by decide +kernel⟩
theorem zm370 : (Jvm.Cond.instanceMethod ({ cls := "SluiceStream$Receiver", name := "countBlocks", desc := "()I" } : Jvm.MethodName)) ∈ zT := List.mem_filter.mpr ⟨List.mem_of_getElem? (i := 406) (by decide +kernel), by decide +kernel⟩
theorem zm371 : (Jvm.Cond.selects "SluiceStream$Receiver" ({ cls := "SluiceStream$Receiver", name := "countBlocks", desc := "()I" } : Jvm.MethodName) ({ cls := "SluiceStream$Receiver", name := "countBlocks", desc := "()I" } : Jvm.MethodName)) ∈ zT := List.mem_filter.mpr ⟨List.mem_of_getElem? (i := 407) (by decide +kernel), by decide +kernel⟩
theorem zin0 : ∀ x ∈ u_ws "SluiceStream$Positions" zF0 1, x ∈ zT := by
  rw [show u_ws "SluiceStream$Positions" zF0 1 = [(Jvm.Cond.laysFinal "SluiceStream$Positions" "SluiceStream$Positions" "numbers" "[I")] from by decide +kernel]
  exact List.forall_mem_cons.mpr ⟨zm36, fun _ h => absurd h List.not_mem_nil⟩
theorem zg_P_9_3 {K : zCx} {w : zWd} {cc : ByteArray} {n fr lo : Nat} {σ : zSt} {lv : List (Nat × Value)} {st : List Value} {pc : Nat} (O : zOk K w cc "SluiceStream$Positions" n fr lo) (hd : decode cc pc = .ok (.getfield 9, 3)) {v : Value} (hv : (zo3 w σ)[0]? = some v) (kk : Z K w σ lv (v :: st) (pc + 3)) : Z K w σ lv (.ref (zq w 3) :: st) pc := z_getf O 3 (T := zF0) (N := 1) (fs := zo3 w σ) rfl rfl zin0 0 (Nat.le_of_ble_eq_true rfl) zm35 rfl hv hd kk
theorem zg_P_9_7 {K : zCx} {w : zWd} {cc : ByteArray} {n fr lo : Nat} {σ : zSt} {lv : List (Nat × Value)} {st : List Value} {pc : Nat} (O : zOk K w cc "SluiceStream$Positions" n fr lo) (hd : decode cc pc = .ok (.getfield 9, 3)) {v : Value} (hv : (zo7 w σ)[0]? = some v) (kk : Z K w σ lv (v :: st) (pc + 3)) : Z K w σ lv (.ref (zq w 7) :: st) pc := z_getf O 7 (T := zF0) (N := 1) (fs := zo7 w σ) rfl rfl zin0 0 (Nat.le_of_ble_eq_true rfl) zm35 rfl hv hd kk
theorem zl_P_21 : zLk "SluiceStream$Positions" 21 ({ cls := "SluiceStream$Positions", name := "at", desc := "(I)I" } : Jvm.MethodName) prog_2_method_2_code 2 (some .int) 1 := ⟨zm245, zm3, zm248, by decide +kernel⟩
theorem zin1 : ∀ x ∈ u_ws "SluiceStream$Receiver" zF1 4, x ∈ zT := by
  rw [show u_ws "SluiceStream$Receiver" zF1 4 = [(Jvm.Cond.laysFinal "SluiceStream$Receiver" "SluiceStream$Receiver" "held" "LSluiceStream$Positions;"), (Jvm.Cond.lays "SluiceStream$Receiver" "SluiceStream$Receiver" "deliveries" "I"), (Jvm.Cond.lays "SluiceStream$Receiver" "SluiceStream$Receiver" "firstMissing" "I"), (Jvm.Cond.lays "SluiceStream$Receiver" "SluiceStream$Receiver" "readAt" "I")] from by decide +kernel]
  exact List.forall_mem_cons.mpr ⟨zm151, List.forall_mem_cons.mpr ⟨zm153, List.forall_mem_cons.mpr ⟨zm155, List.forall_mem_cons.mpr ⟨zm157, fun _ h => absurd h List.not_mem_nil⟩⟩⟩⟩
theorem zg_R_25_6 {K : zCx} {w : zWd} {cc : ByteArray} {n fr lo : Nat} {σ : zSt} {lv : List (Nat × Value)} {st : List Value} {pc : Nat} (O : zOk K w cc "SluiceStream$Receiver" n fr lo) (hd : decode cc pc = .ok (.getfield 25, 3)) {v : Value} (hv : (zo6 w σ)[3]? = some v) (kk : Z K w σ lv (v :: st) (pc + 3)) : Z K w σ lv (.ref (zq w 6) :: st) pc := z_getf O 6 (T := zF1) (N := 4) (fs := zo6 w σ) rfl rfl zin1 3 (Nat.le_of_ble_eq_true rfl) zm149 rfl hv hd kk
theorem zg_R_22_6 {K : zCx} {w : zWd} {cc : ByteArray} {n fr lo : Nat} {σ : zSt} {lv : List (Nat × Value)} {st : List Value} {pc : Nat} (O : zOk K w cc "SluiceStream$Receiver" n fr lo) (hd : decode cc pc = .ok (.getfield 22, 3)) {v : Value} (hv : (zo6 w σ)[2]? = some v) (kk : Z K w σ lv (v :: st) (pc + 3)) : Z K w σ lv (.ref (zq w 6) :: st) pc := z_getf O 6 (T := zF1) (N := 4) (fs := zo6 w σ) rfl rfl zin1 2 (Nat.le_of_ble_eq_true rfl) zm147 rfl hv hd kk
theorem zg_R_18_6 {K : zCx} {w : zWd} {cc : ByteArray} {n fr lo : Nat} {σ : zSt} {lv : List (Nat × Value)} {st : List Value} {pc : Nat} (O : zOk K w cc "SluiceStream$Receiver" n fr lo) (hd : decode cc pc = .ok (.getfield 18, 3)) {v : Value} (hv : (zo6 w σ)[1]? = some v) (kk : Z K w σ lv (v :: st) (pc + 3)) : Z K w σ lv (.ref (zq w 6) :: st) pc := z_getf O 6 (T := zF1) (N := 4) (fs := zo6 w σ) rfl rfl zin1 1 (Nat.le_of_ble_eq_true rfl) zm146 rfl hv hd kk
theorem zp_R_18_6 {K : zCx} {w : zWd} {cc : ByteArray} {n fr lo : Nat} {σ : zSt} {lv : List (Nat × Value)} {st : List Value} {pc : Nat} (O : zOk K w cc "SluiceStream$Receiver" n fr lo) (hd : decode cc pc = .ok (.putfield 18, 3)) {v : Int32} (kk : Z K w (zuf σ 6 1 v) lv st (pc + 3)) : Z K w σ lv (.int v :: .ref (zq w 6) :: st) pc := z_putf O 6 (T := zF1) (N := 4) (fs := zo6 w σ) rfl rfl zin1 zY1 zYo1 zNm1 1 (Nat.le_of_ble_eq_true rfl) zm146 rfl rfl (ty := .int) rfl rfl rfl (Nat.le_of_ble_eq_true rfl) (σ' := zuf σ 6 1 v) rfl hd kk
theorem zg_R_12_6 {K : zCx} {w : zWd} {cc : ByteArray} {n fr lo : Nat} {σ : zSt} {lv : List (Nat × Value)} {st : List Value} {pc : Nat} (O : zOk K w cc "SluiceStream$Receiver" n fr lo) (hd : decode cc pc = .ok (.getfield 12, 3)) {v : Value} (hv : (zo6 w σ)[0]? = some v) (kk : Z K w σ lv (v :: st) (pc + 3)) : Z K w σ lv (.ref (zq w 6) :: st) pc := z_getf O 6 (T := zF1) (N := 4) (fs := zo6 w σ) rfl rfl zin1 0 (Nat.le_of_ble_eq_true rfl) zm145 rfl hv hd kk
theorem zl_R_34 : zLk "SluiceStream$Receiver" 34 ({ cls := "SluiceStream$Positions", name := "fillEmpty", desc := "(III)I" } : Jvm.MethodName) prog_2_method_3_code 6 (some .int) 3 := ⟨zm589, zm3, zm592, by decide +kernel⟩
theorem zl_R_38 : zLk "SluiceStream$Receiver" 38 ({ cls := "SluiceStream$Positions", name := "firstEmpty", desc := "(II)I" } : Jvm.MethodName) prog_2_method_6_code 4 (some .int) 2 := ⟨zm253, zm3, zm256, by decide +kernel⟩
theorem zp_R_22_6 {K : zCx} {w : zWd} {cc : ByteArray} {n fr lo : Nat} {σ : zSt} {lv : List (Nat × Value)} {st : List Value} {pc : Nat} (O : zOk K w cc "SluiceStream$Receiver" n fr lo) (hd : decode cc pc = .ok (.putfield 22, 3)) {v : Int32} (kk : Z K w (zuf σ 6 2 v) lv st (pc + 3)) : Z K w σ lv (.int v :: .ref (zq w 6) :: st) pc := z_putf O 6 (T := zF1) (N := 4) (fs := zo6 w σ) rfl rfl zin1 zY1 zYo1 zNm1 2 (Nat.le_of_ble_eq_true rfl) zm147 rfl rfl (ty := .int) rfl rfl rfl (Nat.le_of_ble_eq_true rfl) (σ' := zuf σ 6 2 v) rfl hd kk
theorem zl_R_41 : zLk "SluiceStream$Receiver" 41 ({ cls := "SluiceStream$Receiver", name := "room", desc := "()I" } : Jvm.MethodName) prog_3_method_2_code 1 (some .int) 0 := ⟨zm201, zm5, zm204, by decide +kernel⟩
theorem zp_R_25_6 {K : zCx} {w : zWd} {cc : ByteArray} {n fr lo : Nat} {σ : zSt} {lv : List (Nat × Value)} {st : List Value} {pc : Nat} (O : zOk K w cc "SluiceStream$Receiver" n fr lo) (hd : decode cc pc = .ok (.putfield 25, 3)) {v : Int32} (kk : Z K w (zuf σ 6 3 v) lv st (pc + 3)) : Z K w σ lv (.int v :: .ref (zq w 6) :: st) pc := z_putf O 6 (T := zF1) (N := 4) (fs := zo6 w σ) rfl rfl zin1 zY1 zYo1 zNm1 3 (Nat.le_of_ble_eq_true rfl) zm149 rfl rfl (ty := .int) rfl rfl rfl (Nat.le_of_ble_eq_true rfl) (σ' := zuf σ 6 3 v) rfl hd kk
theorem zin2 : ∀ x ∈ u_ws "SluiceStream$Rows" zF2 3, x ∈ zT := by
  rw [show u_ws "SluiceStream$Rows" zF2 3 = [(Jvm.Cond.laysFinal "SluiceStream$Rows" "SluiceStream$Rows" "columns" "I"), (Jvm.Cond.laysFinal "SluiceStream$Rows" "SluiceStream$Rows" "cells" "[I"), (Jvm.Cond.lays "SluiceStream$Rows" "SluiceStream$Rows" "size" "I")] from by decide +kernel]
  exact List.forall_mem_cons.mpr ⟨zm170, List.forall_mem_cons.mpr ⟨zm172, List.forall_mem_cons.mpr ⟨zm174, fun _ h => absurd h List.not_mem_nil⟩⟩⟩
theorem zg_W_9_9 {K : zCx} {w : zWd} {cc : ByteArray} {n fr lo : Nat} {σ : zSt} {lv : List (Nat × Value)} {st : List Value} {pc : Nat} (O : zOk K w cc "SluiceStream$Rows" n fr lo) (hd : decode cc pc = .ok (.getfield 9, 3)) {v : Value} (hv : (zo9 w σ)[2]? = some v) (kk : Z K w σ lv (v :: st) (pc + 3)) : Z K w σ lv (.ref (zq w 9) :: st) pc := z_getf O 9 (T := zF2) (N := 3) (fs := zo9 w σ) rfl rfl zin2 2 (Nat.le_of_ble_eq_true rfl) zm168 rfl hv hd kk
theorem zg_W_9_11 {K : zCx} {w : zWd} {cc : ByteArray} {n fr lo : Nat} {σ : zSt} {lv : List (Nat × Value)} {st : List Value} {pc : Nat} (O : zOk K w cc "SluiceStream$Rows" n fr lo) (hd : decode cc pc = .ok (.getfield 9, 3)) {v : Value} (hv : (zo11 w σ)[2]? = some v) (kk : Z K w σ lv (v :: st) (pc + 3)) : Z K w σ lv (.ref (zq w 11) :: st) pc := z_getf O 11 (T := zF2) (N := 3) (fs := zo11 w σ) rfl rfl zin2 2 (Nat.le_of_ble_eq_true rfl) zm168 rfl hv hd kk
theorem zg_W_15_9 {K : zCx} {w : zWd} {cc : ByteArray} {n fr lo : Nat} {σ : zSt} {lv : List (Nat × Value)} {st : List Value} {pc : Nat} (O : zOk K w cc "SluiceStream$Rows" n fr lo) (hd : decode cc pc = .ok (.getfield 15, 3)) {v : Value} (hv : (zo9 w σ)[0]? = some v) (kk : Z K w σ lv (v :: st) (pc + 3)) : Z K w σ lv (.ref (zq w 9) :: st) pc := z_getf O 9 (T := zF2) (N := 3) (fs := zo9 w σ) rfl rfl zin2 0 (Nat.le_of_ble_eq_true rfl) zm166 rfl hv hd kk
theorem zg_W_18_9 {K : zCx} {w : zWd} {cc : ByteArray} {n fr lo : Nat} {σ : zSt} {lv : List (Nat × Value)} {st : List Value} {pc : Nat} (O : zOk K w cc "SluiceStream$Rows" n fr lo) (hd : decode cc pc = .ok (.getfield 18, 3)) {v : Value} (hv : (zo9 w σ)[1]? = some v) (kk : Z K w σ lv (v :: st) (pc + 3)) : Z K w σ lv (.ref (zq w 9) :: st) pc := z_getf O 9 (T := zF2) (N := 3) (fs := zo9 w σ) rfl rfl zin2 1 (Nat.le_of_ble_eq_true rfl) zm167 rfl hv hd kk
theorem zl_W_22 : zLk "SluiceStream$Rows" 22 ({ cls := "SluiceStream$Rows", name := "holds", desc := "(I)Z" } : Jvm.MethodName) prog_4_method_2_code 2 (some .boolean) 1 := ⟨zm217, zm6, zm220, by decide +kernel⟩
theorem zp_W_9_9 {K : zCx} {w : zWd} {cc : ByteArray} {n fr lo : Nat} {σ : zSt} {lv : List (Nat × Value)} {st : List Value} {pc : Nat} (O : zOk K w cc "SluiceStream$Rows" n fr lo) (hd : decode cc pc = .ok (.putfield 9, 3)) {v : Int32} (kk : Z K w (zuf σ 9 2 v) lv st (pc + 3)) : Z K w σ lv (.int v :: .ref (zq w 9) :: st) pc := z_putf O 9 (T := zF2) (N := 3) (fs := zo9 w σ) rfl rfl zin2 zY2 zYo2 zNm2 2 (Nat.le_of_ble_eq_true rfl) zm168 rfl rfl (ty := .int) rfl rfl rfl (Nat.le_of_ble_eq_true rfl) (σ' := zuf σ 9 2 v) rfl hd kk
theorem zg_W_15_11 {K : zCx} {w : zWd} {cc : ByteArray} {n fr lo : Nat} {σ : zSt} {lv : List (Nat × Value)} {st : List Value} {pc : Nat} (O : zOk K w cc "SluiceStream$Rows" n fr lo) (hd : decode cc pc = .ok (.getfield 15, 3)) {v : Value} (hv : (zo11 w σ)[0]? = some v) (kk : Z K w σ lv (v :: st) (pc + 3)) : Z K w σ lv (.ref (zq w 11) :: st) pc := z_getf O 11 (T := zF2) (N := 3) (fs := zo11 w σ) rfl rfl zin2 0 (Nat.le_of_ble_eq_true rfl) zm166 rfl hv hd kk
theorem zg_W_18_11 {K : zCx} {w : zWd} {cc : ByteArray} {n fr lo : Nat} {σ : zSt} {lv : List (Nat × Value)} {st : List Value} {pc : Nat} (O : zOk K w cc "SluiceStream$Rows" n fr lo) (hd : decode cc pc = .ok (.getfield 18, 3)) {v : Value} (hv : (zo11 w σ)[1]? = some v) (kk : Z K w σ lv (v :: st) (pc + 3)) : Z K w σ lv (.ref (zq w 11) :: st) pc := z_getf O 11 (T := zF2) (N := 3) (fs := zo11 w σ) rfl rfl zin2 1 (Nat.le_of_ble_eq_true rfl) zm167 rfl hv hd kk
theorem zp_W_9_11 {K : zCx} {w : zWd} {cc : ByteArray} {n fr lo : Nat} {σ : zSt} {lv : List (Nat × Value)} {st : List Value} {pc : Nat} (O : zOk K w cc "SluiceStream$Rows" n fr lo) (hd : decode cc pc = .ok (.putfield 9, 3)) {v : Int32} (kk : Z K w (zuf σ 11 2 v) lv st (pc + 3)) : Z K w σ lv (.int v :: .ref (zq w 11) :: st) pc := z_putf O 11 (T := zF2) (N := 3) (fs := zo11 w σ) rfl rfl zin2 zY2 zYo2 zNm2 2 (Nat.le_of_ble_eq_true rfl) zm168 rfl rfl (ty := .int) rfl rfl rfl (Nat.le_of_ble_eq_true rfl) (σ' := zuf σ 11 2 v) rfl hd kk
theorem zl_R_79 : zLk "SluiceStream$Receiver" 79 ({ cls := "SluiceStream$Positions", name := "firstFilled", desc := "(II)I" } : Jvm.MethodName) prog_2_method_7_code 4 (some .int) 2 := ⟨zm241, zm3, zm244, by decide +kernel⟩
theorem zl_R_70 : zLk "SluiceStream$Receiver" 70 ({ cls := "SluiceStream$Receiver", name := "endOfRun", desc := "(I)I" } : Jvm.MethodName) prog_3_method_10_code 2 (some .int) 1 := ⟨zm249, zm5, zm252, by decide +kernel⟩
theorem zl_R_73 : zLk "SluiceStream$Receiver" 73 ({ cls := "SluiceStream$Positions", name := "greatest", desc := "(II)I" } : Jvm.MethodName) prog_2_method_8_code 5 (some .int) 2 := ⟨zm257, zm3, zm260, by decide +kernel⟩
theorem zl_R_76 : zLk "SluiceStream$Receiver" 76 ({ cls := "SluiceStream$Receiver", name := "blockFrom", desc := "(I)I" } : Jvm.MethodName) prog_3_method_11_code 4 (some .int) 1 := ⟨zm237, zm5, zm240, by decide +kernel⟩
theorem zl_R_66 : zLk "SluiceStream$Receiver" 66 ({ cls := "SluiceStream$Receiver", name := "newestBlockBefore", desc := "(I)I" } : Jvm.MethodName) prog_3_method_7_code 8 (some .int) 1 := ⟨zm233, zm5, zm236, by decide +kernel⟩
theorem zl_R_58 : zLk "SluiceStream$Receiver" 58 ({ cls := "SluiceStream$Rows", name := "setCell", desc := "(III)V" } : Jvm.MethodName) prog_4_method_5_code 5 none 3 := ⟨zm225, zm6, zm228, by decide +kernel⟩
theorem zl_R_45 : zLk "SluiceStream$Receiver" 45 ({ cls := "SluiceStream$Rows", name := "isFull", desc := "()Z" } : Jvm.MethodName) prog_4_method_3_code 1 (some .boolean) 0 := ⟨zm209, zm6, zm212, by decide +kernel⟩
theorem zl_R_55 : zLk "SluiceStream$Receiver" 55 ({ cls := "SluiceStream$Rows", name := "addRow", desc := "()I" } : Jvm.MethodName) prog_4_method_6_code 1 (some .int) 0 := ⟨zm221, zm6, zm224, by decide +kernel⟩
theorem zl_R_62 : zLk "SluiceStream$Receiver" 62 ({ cls := "SluiceStream$Receiver", name := "tellBlocks", desc := "(LSluiceStream$Rows;I)I" } : Jvm.MethodName) prog_3_method_6_code 8 (some .int) 2 := ⟨zm229, zm5, zm232, by decide +kernel⟩
theorem zl_R_51 : zLk "SluiceStream$Receiver" 51 ({ cls := "SluiceStream$Rows", name := "remove", desc := "(I)V" } : Jvm.MethodName) prog_4_method_7_code 3 none 1 := ⟨zm213, zm6, zm216, by decide +kernel⟩
theorem zin3 : ∀ x ∈ u_ws "SluiceStream$Sender" zF3 15, x ∈ zT := by
  rw [show u_ws "SluiceStream$Sender" zF3 15 = [(Jvm.Cond.laysFinal "SluiceStream$Sender" "SluiceStream$Sender" "marks" "LSluiceStream$Positions;"), (Jvm.Cond.laysFinal "SluiceStream$Sender" "SluiceStream$Sender" "timer" "LSluiceStream$Timer;"), (Jvm.Cond.lays "SluiceStream$Sender" "SluiceStream$Sender" "acked" "I"), (Jvm.Cond.lays "SluiceStream$Sender" "SluiceStream$Sender" "toSend" "I"), (Jvm.Cond.lays "SluiceStream$Sender" "SluiceStream$Sender" "sentBelow" "I"), (Jvm.Cond.lays "SluiceStream$Sender" "SluiceStream$Sender" "writtenBytes" "I"), (Jvm.Cond.lays "SluiceStream$Sender" "SluiceStream$Sender" "edgeAt" "I"), (Jvm.Cond.lays "SluiceStream$Sender" "SluiceStream$Sender" "congestion" "I"), (Jvm.Cond.lays "SluiceStream$Sender" "SluiceStream$Sender" "slowFrom" "I"), (Jvm.Cond.lays "SluiceStream$Sender" "SluiceStream$Sender" "limit" "I"), (Jvm.Cond.lays "SluiceStream$Sender" "SluiceStream$Sender" "duplicateCount" "I"), (Jvm.Cond.lays "SluiceStream$Sender" "SluiceStream$Sender" "recoversTo" "I"), (Jvm.Cond.lays "SluiceStream$Sender" "SluiceStream$Sender" "repairsFrom" "I"), (Jvm.Cond.lays "SluiceStream$Sender" "SluiceStream$Sender" "sentCount" "I"), (Jvm.Cond.lays "SluiceStream$Sender" "SluiceStream$Sender" "sentAgainCount" "I")] from by decide +kernel]
  exact List.forall_mem_cons.mpr ⟨zm106, List.forall_mem_cons.mpr ⟨zm108, List.forall_mem_cons.mpr ⟨zm110, List.forall_mem_cons.mpr ⟨zm112, List.forall_mem_cons.mpr ⟨zm114, List.forall_mem_cons.mpr ⟨zm116, List.forall_mem_cons.mpr ⟨zm118, List.forall_mem_cons.mpr ⟨zm120, List.forall_mem_cons.mpr ⟨zm122, List.forall_mem_cons.mpr ⟨zm124, List.forall_mem_cons.mpr ⟨zm126, List.forall_mem_cons.mpr ⟨zm128, List.forall_mem_cons.mpr ⟨zm130, List.forall_mem_cons.mpr ⟨zm132, List.forall_mem_cons.mpr ⟨zm134, fun _ h => absurd h List.not_mem_nil⟩⟩⟩⟩⟩⟩⟩⟩⟩⟩⟩⟩⟩⟩⟩
theorem zg_S_12_2 {K : zCx} {w : zWd} {cc : ByteArray} {n fr lo : Nat} {σ : zSt} {lv : List (Nat × Value)} {st : List Value} {pc : Nat} (O : zOk K w cc "SluiceStream$Sender" n fr lo) (hd : decode cc pc = .ok (.getfield 12, 3)) {v : Value} (hv : (zo2 w σ)[0]? = some v) (kk : Z K w σ lv (v :: st) (pc + 3)) : Z K w σ lv (.ref (zq w 2) :: st) pc := z_getf O 2 (T := zF3) (N := 15) (fs := zo2 w σ) rfl rfl zin3 0 (Nat.le_of_ble_eq_true rfl) zm77 rfl hv hd kk
theorem zg_S_25_2 {K : zCx} {w : zWd} {cc : ByteArray} {n fr lo : Nat} {σ : zSt} {lv : List (Nat × Value)} {st : List Value} {pc : Nat} (O : zOk K w cc "SluiceStream$Sender" n fr lo) (hd : decode cc pc = .ok (.getfield 25, 3)) {v : Value} (hv : (zo2 w σ)[2]? = some v) (kk : Z K w σ lv (v :: st) (pc + 3)) : Z K w σ lv (.ref (zq w 2) :: st) pc := z_getf O 2 (T := zF3) (N := 15) (fs := zo2 w σ) rfl rfl zin3 2 (Nat.le_of_ble_eq_true rfl) zm81 rfl hv hd kk
theorem zg_S_29_2 {K : zCx} {w : zWd} {cc : ByteArray} {n fr lo : Nat} {σ : zSt} {lv : List (Nat × Value)} {st : List Value} {pc : Nat} (O : zOk K w cc "SluiceStream$Sender" n fr lo) (hd : decode cc pc = .ok (.getfield 29, 3)) {v : Value} (hv : (zo2 w σ)[3]? = some v) (kk : Z K w σ lv (v :: st) (pc + 3)) : Z K w σ lv (.ref (zq w 2) :: st) pc := z_getf O 2 (T := zF3) (N := 15) (fs := zo2 w σ) rfl rfl zin3 3 (Nat.le_of_ble_eq_true rfl) zm83 rfl hv hd kk
theorem zl_S_65 : zLk "SluiceStream$Sender" 65 ({ cls := "SluiceStream$Positions", name := "countEmpty", desc := "(II)I" } : Jvm.MethodName) prog_2_method_5_code 5 (some .int) 2 := ⟨zm304, zm3, zm307, by decide +kernel⟩
theorem zg_S_53_2 {K : zCx} {w : zWd} {cc : ByteArray} {n fr lo : Nat} {σ : zSt} {lv : List (Nat × Value)} {st : List Value} {pc : Nat} (O : zOk K w cc "SluiceStream$Sender" n fr lo) (hd : decode cc pc = .ok (.getfield 53, 3)) {v : Value} (hv : (zo2 w σ)[11]? = some v) (kk : Z K w σ lv (v :: st) (pc + 3)) : Z K w σ lv (.ref (zq w 2) :: st) pc := z_getf O 2 (T := zF3) (N := 15) (fs := zo2 w σ) rfl rfl zin3 11 (Nat.le_of_ble_eq_true rfl) zm99 rfl hv hd kk
theorem zg_S_56_2 {K : zCx} {w : zWd} {cc : ByteArray} {n fr lo : Nat} {σ : zSt} {lv : List (Nat × Value)} {st : List Value} {pc : Nat} (O : zOk K w cc "SluiceStream$Sender" n fr lo) (hd : decode cc pc = .ok (.getfield 56, 3)) {v : Value} (hv : (zo2 w σ)[12]? = some v) (kk : Z K w σ lv (v :: st) (pc + 3)) : Z K w σ lv (.ref (zq w 2) :: st) pc := z_getf O 2 (T := zF3) (N := 15) (fs := zo2 w σ) rfl rfl zin3 12 (Nat.le_of_ble_eq_true rfl) zm101 rfl hv hd kk
theorem zl_S_76 : zLk "SluiceStream$Sender" 76 ({ cls := "SluiceStream$Positions", name := "firstEmpty", desc := "(II)I" } : Jvm.MethodName) prog_2_method_6_code 4 (some .int) 2 := ⟨zm484, zm3, zm256, by decide +kernel⟩
theorem zg_S_32_2 {K : zCx} {w : zWd} {cc : ByteArray} {n fr lo : Nat} {σ : zSt} {lv : List (Nat × Value)} {st : List Value} {pc : Nat} (O : zOk K w cc "SluiceStream$Sender" n fr lo) (hd : decode cc pc = .ok (.getfield 32, 3)) {v : Value} (hv : (zo2 w σ)[4]? = some v) (kk : Z K w σ lv (v :: st) (pc + 3)) : Z K w σ lv (.ref (zq w 2) :: st) pc := z_getf O 2 (T := zF3) (N := 15) (fs := zo2 w σ) rfl rfl zin3 4 (Nat.le_of_ble_eq_true rfl) zm85 rfl hv hd kk
theorem zl_S_100 : zLk "SluiceStream$Sender" 100 ({ cls := "SluiceStream$Positions", name := "firstFilled", desc := "(II)I" } : Jvm.MethodName) prog_2_method_7_code 4 (some .int) 2 := ⟨zm485, zm3, zm244, by decide +kernel⟩
theorem zg_S_35_2 {K : zCx} {w : zWd} {cc : ByteArray} {n fr lo : Nat} {σ : zSt} {lv : List (Nat × Value)} {st : List Value} {pc : Nat} (O : zOk K w cc "SluiceStream$Sender" n fr lo) (hd : decode cc pc = .ok (.getfield 35, 3)) {v : Value} (hv : (zo2 w σ)[5]? = some v) (kk : Z K w σ lv (v :: st) (pc + 3)) : Z K w σ lv (.ref (zq w 2) :: st) pc := z_getf O 2 (T := zF3) (N := 15) (fs := zo2 w σ) rfl rfl zin3 5 (Nat.le_of_ble_eq_true rfl) zm87 rfl hv hd kk
theorem zl_S_106 : zLk "SluiceStream$Sender" 106 ({ cls := "SluiceStream$Sender", name := "countFlying", desc := "()I" } : Jvm.MethodName) prog_5_method_2_code 1 (some .int) 0 := ⟨zm497, zm2, zm303, by decide +kernel⟩
theorem zg_S_38_2 {K : zCx} {w : zWd} {cc : ByteArray} {n fr lo : Nat} {σ : zSt} {lv : List (Nat × Value)} {st : List Value} {pc : Nat} (O : zOk K w cc "SluiceStream$Sender" n fr lo) (hd : decode cc pc = .ok (.getfield 38, 3)) {v : Value} (hv : (zo2 w σ)[6]? = some v) (kk : Z K w σ lv (v :: st) (pc + 3)) : Z K w σ lv (.ref (zq w 2) :: st) pc := z_getf O 2 (T := zF3) (N := 15) (fs := zo2 w σ) rfl rfl zin3 6 (Nat.le_of_ble_eq_true rfl) zm89 rfl hv hd kk
theorem zl_S_73 : zLk "SluiceStream$Sender" 73 ({ cls := "SluiceStream$Sender", name := "endOfRun", desc := "(II)I" } : Jvm.MethodName) prog_5_method_5_code 3 (some .int) 2 := ⟨zm486, zm2, zm489, by decide +kernel⟩
theorem zg_S_41_2 {K : zCx} {w : zWd} {cc : ByteArray} {n fr lo : Nat} {σ : zSt} {lv : List (Nat × Value)} {st : List Value} {pc : Nat} (O : zOk K w cc "SluiceStream$Sender" n fr lo) (hd : decode cc pc = .ok (.getfield 41, 3)) {v : Value} (hv : (zo2 w σ)[7]? = some v) (kk : Z K w σ lv (v :: st) (pc + 3)) : Z K w σ lv (.ref (zq w 2) :: st) pc := z_getf O 2 (T := zF3) (N := 15) (fs := zo2 w σ) rfl rfl zin3 7 (Nat.le_of_ble_eq_true rfl) zm91 rfl hv hd kk
theorem zg_S_47_2 {K : zCx} {w : zWd} {cc : ByteArray} {n fr lo : Nat} {σ : zSt} {lv : List (Nat × Value)} {st : List Value} {pc : Nat} (O : zOk K w cc "SluiceStream$Sender" n fr lo) (hd : decode cc pc = .ok (.getfield 47, 3)) {v : Value} (hv : (zo2 w σ)[9]? = some v) (kk : Z K w σ lv (v :: st) (pc + 3)) : Z K w σ lv (.ref (zq w 2) :: st) pc := z_getf O 2 (T := zF3) (N := 15) (fs := zo2 w σ) rfl rfl zin3 9 (Nat.le_of_ble_eq_true rfl) zm95 rfl hv hd kk
theorem zin4 : ∀ x ∈ u_ws "SluiceStream$Timer" zF4 8, x ∈ zT := by
  rw [show u_ws "SluiceStream$Timer" zF4 8 = [(Jvm.Cond.lays "SluiceStream$Timer" "SluiceStream$Timer" "now" "I"), (Jvm.Cond.lays "SluiceStream$Timer" "SluiceStream$Timer" "span" "I"), (Jvm.Cond.lays "SluiceStream$Timer" "SluiceStream$Timer" "endsAt" "I"), (Jvm.Cond.lays "SluiceStream$Timer" "SluiceStream$Timer" "timedTo" "I"), (Jvm.Cond.lays "SluiceStream$Timer" "SluiceStream$Timer" "smoothed" "I"), (Jvm.Cond.lays "SluiceStream$Timer" "SluiceStream$Timer" "deviation" "I"), (Jvm.Cond.lays "SluiceStream$Timer" "SluiceStream$Timer" "timedSince" "I"), (Jvm.Cond.lays "SluiceStream$Timer" "SluiceStream$Timer" "sampled" "Z")] from by decide +kernel]
  exact List.forall_mem_cons.mpr ⟨zm60, List.forall_mem_cons.mpr ⟨zm62, List.forall_mem_cons.mpr ⟨zm64, List.forall_mem_cons.mpr ⟨zm66, List.forall_mem_cons.mpr ⟨zm68, List.forall_mem_cons.mpr ⟨zm70, List.forall_mem_cons.mpr ⟨zm72, List.forall_mem_cons.mpr ⟨zm74, fun _ h => absurd h List.not_mem_nil⟩⟩⟩⟩⟩⟩⟩⟩
theorem zg_T_21_5 {K : zCx} {w : zWd} {cc : ByteArray} {n fr lo : Nat} {σ : zSt} {lv : List (Nat × Value)} {st : List Value} {pc : Nat} (O : zOk K w cc "SluiceStream$Timer" n fr lo) (hd : decode cc pc = .ok (.getfield 21, 3)) {v : Value} (hv : (zo5 w σ)[3]? = some v) (kk : Z K w σ lv (v :: st) (pc + 3)) : Z K w σ lv (.ref (zq w 5) :: st) pc := z_getf O 5 (T := zF4) (N := 8) (fs := zo5 w σ) rfl rfl zin4 3 (Nat.le_of_ble_eq_true rfl) zm52 rfl hv hd kk
theorem zp_T_21_5 {K : zCx} {w : zWd} {cc : ByteArray} {n fr lo : Nat} {σ : zSt} {lv : List (Nat × Value)} {st : List Value} {pc : Nat} (O : zOk K w cc "SluiceStream$Timer" n fr lo) (hd : decode cc pc = .ok (.putfield 21, 3)) {v : Int32} (kk : Z K w (zuf σ 5 3 v) lv st (pc + 3)) : Z K w σ lv (.int v :: .ref (zq w 5) :: st) pc := z_putf O 5 (T := zF4) (N := 8) (fs := zo5 w σ) rfl rfl zin4 zY4 zYo4 zNm4 3 (Nat.le_of_ble_eq_true rfl) zm52 rfl rfl (ty := .int) rfl rfl rfl (Nat.le_of_ble_eq_true rfl) (σ' := zuf σ 5 3 v) rfl hd kk
theorem zg_T_9_5 {K : zCx} {w : zWd} {cc : ByteArray} {n fr lo : Nat} {σ : zSt} {lv : List (Nat × Value)} {st : List Value} {pc : Nat} (O : zOk K w cc "SluiceStream$Timer" n fr lo) (hd : decode cc pc = .ok (.getfield 9, 3)) {v : Value} (hv : (zo5 w σ)[0]? = some v) (kk : Z K w σ lv (v :: st) (pc + 3)) : Z K w σ lv (.ref (zq w 5) :: st) pc := z_getf O 5 (T := zF4) (N := 8) (fs := zo5 w σ) rfl rfl zin4 0 (Nat.le_of_ble_eq_true rfl) zm46 rfl hv hd kk
theorem zp_T_30_5 {K : zCx} {w : zWd} {cc : ByteArray} {n fr lo : Nat} {σ : zSt} {lv : List (Nat × Value)} {st : List Value} {pc : Nat} (O : zOk K w cc "SluiceStream$Timer" n fr lo) (hd : decode cc pc = .ok (.putfield 30, 3)) {v : Int32} (kk : Z K w (zuf σ 5 6 v) lv st (pc + 3)) : Z K w σ lv (.int v :: .ref (zq w 5) :: st) pc := z_putf O 5 (T := zF4) (N := 8) (fs := zo5 w σ) rfl rfl zin4 zY4 zYo4 zNm4 6 (Nat.le_of_ble_eq_true rfl) zm58 rfl rfl (ty := .int) rfl rfl rfl (Nat.le_of_ble_eq_true rfl) (σ' := zuf σ 5 6 v) rfl hd kk
theorem zg_T_15_5 {K : zCx} {w : zWd} {cc : ByteArray} {n fr lo : Nat} {σ : zSt} {lv : List (Nat × Value)} {st : List Value} {pc : Nat} (O : zOk K w cc "SluiceStream$Timer" n fr lo) (hd : decode cc pc = .ok (.getfield 15, 3)) {v : Value} (hv : (zo5 w σ)[1]? = some v) (kk : Z K w σ lv (v :: st) (pc + 3)) : Z K w σ lv (.ref (zq w 5) :: st) pc := z_getf O 5 (T := zF4) (N := 8) (fs := zo5 w σ) rfl rfl zin4 1 (Nat.le_of_ble_eq_true rfl) zm48 rfl hv hd kk
theorem zp_T_18_5 {K : zCx} {w : zWd} {cc : ByteArray} {n fr lo : Nat} {σ : zSt} {lv : List (Nat × Value)} {st : List Value} {pc : Nat} (O : zOk K w cc "SluiceStream$Timer" n fr lo) (hd : decode cc pc = .ok (.putfield 18, 3)) {v : Int32} (kk : Z K w (zuf σ 5 2 v) lv st (pc + 3)) : Z K w σ lv (.int v :: .ref (zq w 5) :: st) pc := z_putf O 5 (T := zF4) (N := 8) (fs := zo5 w σ) rfl rfl zin4 zY4 zYo4 zNm4 2 (Nat.le_of_ble_eq_true rfl) zm50 rfl rfl (ty := .int) rfl rfl rfl (Nat.le_of_ble_eq_true rfl) (σ' := zuf σ 5 2 v) rfl hd kk
theorem zg_T_18_5 {K : zCx} {w : zWd} {cc : ByteArray} {n fr lo : Nat} {σ : zSt} {lv : List (Nat × Value)} {st : List Value} {pc : Nat} (O : zOk K w cc "SluiceStream$Timer" n fr lo) (hd : decode cc pc = .ok (.getfield 18, 3)) {v : Value} (hv : (zo5 w σ)[2]? = some v) (kk : Z K w σ lv (v :: st) (pc + 3)) : Z K w σ lv (.ref (zq w 5) :: st) pc := z_getf O 5 (T := zF4) (N := 8) (fs := zo5 w σ) rfl rfl zin4 2 (Nat.le_of_ble_eq_true rfl) zm50 rfl hv hd kk
theorem zl_T_37 : zLk "SluiceStream$Timer" 37 ({ cls := "SluiceStream$Timer", name := "startAnew", desc := "()V" } : Jvm.MethodName) prog_6_method_3_code 1 none 0 := ⟨zm510, zm4, zm513, by decide +kernel⟩
theorem zg_S_59_2 {K : zCx} {w : zWd} {cc : ByteArray} {n fr lo : Nat} {σ : zSt} {lv : List (Nat × Value)} {st : List Value} {pc : Nat} (O : zOk K w cc "SluiceStream$Sender" n fr lo) (hd : decode cc pc = .ok (.getfield 59, 3)) {v : Value} (hv : (zo2 w σ)[13]? = some v) (kk : Z K w σ lv (v :: st) (pc + 3)) : Z K w σ lv (.ref (zq w 2) :: st) pc := z_getf O 2 (T := zF3) (N := 15) (fs := zo2 w σ) rfl rfl zin3 13 (Nat.le_of_ble_eq_true rfl) zm102 rfl hv hd kk
theorem zp_S_59_2 {K : zCx} {w : zWd} {cc : ByteArray} {n fr lo : Nat} {σ : zSt} {lv : List (Nat × Value)} {st : List Value} {pc : Nat} (O : zOk K w cc "SluiceStream$Sender" n fr lo) (hd : decode cc pc = .ok (.putfield 59, 3)) {v : Int32} (kk : Z K w (zuf σ 2 13 v) lv st (pc + 3)) : Z K w σ lv (.int v :: .ref (zq w 2) :: st) pc := z_putf O 2 (T := zF3) (N := 15) (fs := zo2 w σ) rfl rfl zin3 zY3 zYo3 zNm3 13 (Nat.le_of_ble_eq_true rfl) zm102 rfl rfl (ty := .int) rfl rfl rfl (Nat.le_of_ble_eq_true rfl) (σ' := zuf σ 2 13 v) rfl hd kk
theorem zg_S_21_2 {K : zCx} {w : zWd} {cc : ByteArray} {n fr lo : Nat} {σ : zSt} {lv : List (Nat × Value)} {st : List Value} {pc : Nat} (O : zOk K w cc "SluiceStream$Sender" n fr lo) (hd : decode cc pc = .ok (.getfield 21, 3)) {v : Value} (hv : (zo2 w σ)[1]? = some v) (kk : Z K w σ lv (v :: st) (pc + 3)) : Z K w σ lv (.ref (zq w 2) :: st) pc := z_getf O 2 (T := zF3) (N := 15) (fs := zo2 w σ) rfl rfl zin3 1 (Nat.le_of_ble_eq_true rfl) zm79 rfl hv hd kk
theorem zl_S_109 : zLk "SluiceStream$Sender" 109 ({ cls := "SluiceStream$Timer", name := "timeSegment", desc := "(I)V" } : Jvm.MethodName) prog_6_method_7_code 2 none 1 := ⟨zm502, zm4, zm505, by decide +kernel⟩
theorem zp_S_32_2 {K : zCx} {w : zWd} {cc : ByteArray} {n fr lo : Nat} {σ : zSt} {lv : List (Nat × Value)} {st : List Value} {pc : Nat} (O : zOk K w cc "SluiceStream$Sender" n fr lo) (hd : decode cc pc = .ok (.putfield 32, 3)) {v : Int32} (kk : Z K w (zuf σ 2 4 v) lv st (pc + 3)) : Z K w σ lv (.int v :: .ref (zq w 2) :: st) pc := z_putf O 2 (T := zF3) (N := 15) (fs := zo2 w σ) rfl rfl zin3 zY3 zYo3 zNm3 4 (Nat.le_of_ble_eq_true rfl) zm85 rfl rfl (ty := .int) rfl rfl rfl (Nat.le_of_ble_eq_true rfl) (σ' := zuf σ 2 4 v) rfl hd kk
theorem zl_S_113 : zLk "SluiceStream$Sender" 113 ({ cls := "SluiceStream$Timer", name := "startIfStopped", desc := "()V" } : Jvm.MethodName) prog_6_method_4_code 1 none 0 := ⟨zm506, zm4, zm509, by decide +kernel⟩
theorem zg_S_62_2 {K : zCx} {w : zWd} {cc : ByteArray} {n fr lo : Nat} {σ : zSt} {lv : List (Nat × Value)} {st : List Value} {pc : Nat} (O : zOk K w cc "SluiceStream$Sender" n fr lo) (hd : decode cc pc = .ok (.getfield 62, 3)) {v : Value} (hv : (zo2 w σ)[14]? = some v) (kk : Z K w σ lv (v :: st) (pc + 3)) : Z K w σ lv (.ref (zq w 2) :: st) pc := z_getf O 2 (T := zF3) (N := 15) (fs := zo2 w σ) rfl rfl zin3 14 (Nat.le_of_ble_eq_true rfl) zm104 rfl hv hd kk
theorem zp_S_62_2 {K : zCx} {w : zWd} {cc : ByteArray} {n fr lo : Nat} {σ : zSt} {lv : List (Nat × Value)} {st : List Value} {pc : Nat} (O : zOk K w cc "SluiceStream$Sender" n fr lo) (hd : decode cc pc = .ok (.putfield 62, 3)) {v : Int32} (kk : Z K w (zuf σ 2 14 v) lv st (pc + 3)) : Z K w σ lv (.int v :: .ref (zq w 2) :: st) pc := z_putf O 2 (T := zF3) (N := 15) (fs := zo2 w σ) rfl rfl zin3 zY3 zYo3 zNm3 14 (Nat.le_of_ble_eq_true rfl) zm104 rfl rfl (ty := .int) rfl rfl rfl (Nat.le_of_ble_eq_true rfl) (σ' := zuf σ 2 14 v) rfl hd kk
theorem zl_S_69 : zLk "SluiceStream$Sender" 69 ({ cls := "SluiceStream$Sender", name := "startOfRepair", desc := "()I" } : Jvm.MethodName) prog_5_method_4_code 3 (some .int) 0 := ⟨zm479, zm2, zm482, by decide +kernel⟩
theorem zp_S_29_2 {K : zCx} {w : zWd} {cc : ByteArray} {n fr lo : Nat} {σ : zSt} {lv : List (Nat × Value)} {st : List Value} {pc : Nat} (O : zOk K w cc "SluiceStream$Sender" n fr lo) (hd : decode cc pc = .ok (.putfield 29, 3)) {v : Int32} (kk : Z K w (zuf σ 2 3 v) lv st (pc + 3)) : Z K w σ lv (.int v :: .ref (zq w 2) :: st) pc := z_putf O 2 (T := zF3) (N := 15) (fs := zo2 w σ) rfl rfl zin3 zY3 zYo3 zNm3 3 (Nat.le_of_ble_eq_true rfl) zm83 rfl rfl (ty := .int) rfl rfl rfl (Nat.le_of_ble_eq_true rfl) (σ' := zuf σ 2 3 v) rfl hd kk
theorem zl_S_79 : zLk "SluiceStream$Sender" 79 ({ cls := "SluiceStream$Sender", name := "endOfFresh", desc := "()I" } : Jvm.MethodName) prog_5_method_6_code 4 (some .int) 0 := ⟨zm493, zm2, zm496, by decide +kernel⟩
theorem zl_S_82 : zLk "SluiceStream$Sender" 82 ({ cls := "SluiceStream$Sender", name := "noteSent", desc := "(II)V" } : Jvm.MethodName) prog_5_method_7_code 3 none 2 := ⟨zm498, zm2, zm501, by decide +kernel⟩
theorem zl_S_86 : zLk "SluiceStream$Sender" 86 ({ cls := "SluiceStream$Rows", name := "addRow", desc := "()I" } : Jvm.MethodName) prog_4_method_6_code 1 (some .int) 0 := ⟨zm514, zm6, zm224, by decide +kernel⟩
theorem zl_S_91 : zLk "SluiceStream$Sender" 91 ({ cls := "SluiceStream$Rows", name := "setCell", desc := "(III)V" } : Jvm.MethodName) prog_4_method_5_code 5 none 3 := ⟨zm515, zm6, zm228, by decide +kernel⟩
theorem zp_S_56_2 {K : zCx} {w : zWd} {cc : ByteArray} {n fr lo : Nat} {σ : zSt} {lv : List (Nat × Value)} {st : List Value} {pc : Nat} (O : zOk K w cc "SluiceStream$Sender" n fr lo) (hd : decode cc pc = .ok (.putfield 56, 3)) {v : Int32} (kk : Z K w (zuf σ 2 12 v) lv st (pc + 3)) : Z K w σ lv (.int v :: .ref (zq w 2) :: st) pc := z_putf O 2 (T := zF3) (N := 15) (fs := zo2 w σ) rfl rfl zin3 zY3 zYo3 zNm3 12 (Nat.le_of_ble_eq_true rfl) zm101 rfl rfl (ty := .int) rfl rfl rfl (Nat.le_of_ble_eq_true rfl) (σ' := zuf σ 2 12 v) rfl hd kk
theorem zp_T_9_5 {K : zCx} {w : zWd} {cc : ByteArray} {n fr lo : Nat} {σ : zSt} {lv : List (Nat × Value)} {st : List Value} {pc : Nat} (O : zOk K w cc "SluiceStream$Timer" n fr lo) (hd : decode cc pc = .ok (.putfield 9, 3)) {v : Int32} (kk : Z K w (zuf σ 5 0 v) lv st (pc + 3)) : Z K w σ lv (.int v :: .ref (zq w 5) :: st) pc := z_putf O 5 (T := zF4) (N := 8) (fs := zo5 w σ) rfl rfl zin4 zY4 zYo4 zNm4 0 (Nat.le_of_ble_eq_true rfl) zm46 rfl rfl (ty := .int) rfl rfl rfl (Nat.le_of_ble_eq_true rfl) (σ' := zuf σ 5 0 v) rfl hd kk
theorem zp_T_15_5 {K : zCx} {w : zWd} {cc : ByteArray} {n fr lo : Nat} {σ : zSt} {lv : List (Nat × Value)} {st : List Value} {pc : Nat} (O : zOk K w cc "SluiceStream$Timer" n fr lo) (hd : decode cc pc = .ok (.putfield 15, 3)) {v : Int32} (kk : Z K w (zuf σ 5 1 v) lv st (pc + 3)) : Z K w σ lv (.int v :: .ref (zq w 5) :: st) pc := z_putf O 5 (T := zF4) (N := 8) (fs := zo5 w σ) rfl rfl zin4 zY4 zYo4 zNm4 1 (Nat.le_of_ble_eq_true rfl) zm48 rfl rfl (ty := .int) rfl rfl rfl (Nat.le_of_ble_eq_true rfl) (σ' := zuf σ 5 1 v) rfl hd kk
theorem zl_T_46 : zLk "SluiceStream$Timer" 46 ({ cls := "SluiceStream$Timer", name := "forgetTiming", desc := "()V" } : Jvm.MethodName) prog_6_method_8_code 1 none 0 := ⟨zm544, zm4, zm547, by decide +kernel⟩
theorem zl_T_49 : zLk "SluiceStream$Timer" 49 ({ cls := "SluiceStream$Timer", name := "stop", desc := "()V" } : Jvm.MethodName) prog_6_method_5_code 1 none 0 := ⟨zm548, zm4, zm551, by decide +kernel⟩
theorem zl_S_123 : zLk "SluiceStream$Sender" 123 ({ cls := "SluiceStream$Sender", name := "halfOfFlying", desc := "()I" } : Jvm.MethodName) prog_5_method_10_code 1 (some .int) 0 := ⟨zm535, zm2, zm538, by decide +kernel⟩
theorem zp_S_44_2 {K : zCx} {w : zWd} {cc : ByteArray} {n fr lo : Nat} {σ : zSt} {lv : List (Nat × Value)} {st : List Value} {pc : Nat} (O : zOk K w cc "SluiceStream$Sender" n fr lo) (hd : decode cc pc = .ok (.putfield 44, 3)) {v : Int32} (kk : Z K w (zuf σ 2 8 v) lv st (pc + 3)) : Z K w σ lv (.int v :: .ref (zq w 2) :: st) pc := z_putf O 2 (T := zF3) (N := 15) (fs := zo2 w σ) rfl rfl zin3 zY3 zYo3 zNm3 8 (Nat.le_of_ble_eq_true rfl) zm93 rfl rfl (ty := .int) rfl rfl rfl (Nat.le_of_ble_eq_true rfl) (σ' := zuf σ 2 8 v) rfl hd kk
theorem zp_S_41_2 {K : zCx} {w : zWd} {cc : ByteArray} {n fr lo : Nat} {σ : zSt} {lv : List (Nat × Value)} {st : List Value} {pc : Nat} (O : zOk K w cc "SluiceStream$Sender" n fr lo) (hd : decode cc pc = .ok (.putfield 41, 3)) {v : Int32} (kk : Z K w (zuf σ 2 7 v) lv st (pc + 3)) : Z K w σ lv (.int v :: .ref (zq w 2) :: st) pc := z_putf O 2 (T := zF3) (N := 15) (fs := zo2 w σ) rfl rfl zin3 zY3 zYo3 zNm3 7 (Nat.le_of_ble_eq_true rfl) zm91 rfl rfl (ty := .int) rfl rfl rfl (Nat.le_of_ble_eq_true rfl) (σ' := zuf σ 2 7 v) rfl hd kk
theorem zl_S_126 : zLk "SluiceStream$Sender" 126 ({ cls := "SluiceStream$Timer", name := "backOff", desc := "()V" } : Jvm.MethodName) prog_6_method_6_code 1 none 0 := ⟨zm539, zm4, zm542, by decide +kernel⟩
theorem zl_S_129 : zLk "SluiceStream$Sender" 129 ({ cls := "SluiceStream$Positions", name := "empty", desc := "(II)V" } : Jvm.MethodName) prog_2_method_4_code 4 none 2 := ⟨zm552, zm3, zm555, by decide +kernel⟩
theorem zp_S_53_2 {K : zCx} {w : zWd} {cc : ByteArray} {n fr lo : Nat} {σ : zSt} {lv : List (Nat × Value)} {st : List Value} {pc : Nat} (O : zOk K w cc "SluiceStream$Sender" n fr lo) (hd : decode cc pc = .ok (.putfield 53, 3)) {v : Int32} (kk : Z K w (zuf σ 2 11 v) lv st (pc + 3)) : Z K w σ lv (.int v :: .ref (zq w 2) :: st) pc := z_putf O 2 (T := zF3) (N := 15) (fs := zo2 w σ) rfl rfl zin3 zY3 zYo3 zNm3 11 (Nat.le_of_ble_eq_true rfl) zm99 rfl rfl (ty := .int) rfl rfl rfl (Nat.le_of_ble_eq_true rfl) (σ' := zuf σ 2 11 v) rfl hd kk
theorem zp_S_50_2 {K : zCx} {w : zWd} {cc : ByteArray} {n fr lo : Nat} {σ : zSt} {lv : List (Nat × Value)} {st : List Value} {pc : Nat} (O : zOk K w cc "SluiceStream$Sender" n fr lo) (hd : decode cc pc = .ok (.putfield 50, 3)) {v : Int32} (kk : Z K w (zuf σ 2 10 v) lv st (pc + 3)) : Z K w σ lv (.int v :: .ref (zq w 2) :: st) pc := z_putf O 2 (T := zF3) (N := 15) (fs := zo2 w σ) rfl rfl zin3 zY3 zYo3 zNm3 10 (Nat.le_of_ble_eq_true rfl) zm97 rfl rfl (ty := .int) rfl rfl rfl (Nat.le_of_ble_eq_true rfl) (σ' := zuf σ 2 10 v) rfl hd kk
theorem zl_S_116 : zLk "SluiceStream$Sender" 116 ({ cls := "SluiceStream$Timer", name := "passTick", desc := "()Z" } : Jvm.MethodName) prog_6_method_2_code 1 (some .boolean) 0 := ⟨zm527, zm4, zm530, by decide +kernel⟩
theorem zl_S_120 : zLk "SluiceStream$Sender" 120 ({ cls := "SluiceStream$Sender", name := "startOver", desc := "()V" } : Jvm.MethodName) prog_5_method_9_code 1 none 0 := ⟨zm531, zm2, zm534, by decide +kernel⟩
theorem zg_T_33_5 {K : zCx} {w : zWd} {cc : ByteArray} {n fr lo : Nat} {σ : zSt} {lv : List (Nat × Value)} {st : List Value} {pc : Nat} (O : zOk K w cc "SluiceStream$Timer" n fr lo) (hd : decode cc pc = .ok (.getfield 33, 3)) {v : Value} (hv : (zo5 w σ)[7]? = some v) (kk : Z K w σ lv (v :: st) (pc + 3)) : Z K w σ lv (.ref (zq w 5) :: st) pc := z_getf O 5 (T := zF4) (N := 8) (fs := zo5 w σ) rfl rfl zin4 7 (Nat.le_of_ble_eq_true rfl) zm59 rfl hv hd kk
theorem zp_T_24_5 {K : zCx} {w : zWd} {cc : ByteArray} {n fr lo : Nat} {σ : zSt} {lv : List (Nat × Value)} {st : List Value} {pc : Nat} (O : zOk K w cc "SluiceStream$Timer" n fr lo) (hd : decode cc pc = .ok (.putfield 24, 3)) {v : Int32} (kk : Z K w (zuf σ 5 4 v) lv st (pc + 3)) : Z K w σ lv (.int v :: .ref (zq w 5) :: st) pc := z_putf O 5 (T := zF4) (N := 8) (fs := zo5 w σ) rfl rfl zin4 zY4 zYo4 zNm4 4 (Nat.le_of_ble_eq_true rfl) zm54 rfl rfl (ty := .int) rfl rfl rfl (Nat.le_of_ble_eq_true rfl) (σ' := zuf σ 5 4 v) rfl hd kk
theorem zp_T_27_5 {K : zCx} {w : zWd} {cc : ByteArray} {n fr lo : Nat} {σ : zSt} {lv : List (Nat × Value)} {st : List Value} {pc : Nat} (O : zOk K w cc "SluiceStream$Timer" n fr lo) (hd : decode cc pc = .ok (.putfield 27, 3)) {v : Int32} (kk : Z K w (zuf σ 5 5 v) lv st (pc + 3)) : Z K w σ lv (.int v :: .ref (zq w 5) :: st) pc := z_putf O 5 (T := zF4) (N := 8) (fs := zo5 w σ) rfl rfl zin4 zY4 zYo4 zNm4 5 (Nat.le_of_ble_eq_true rfl) zm56 rfl rfl (ty := .int) rfl rfl rfl (Nat.le_of_ble_eq_true rfl) (σ' := zuf σ 5 5 v) rfl hd kk
theorem zp_T_33_5 {K : zCx} {w : zWd} {cc : ByteArray} {n fr lo : Nat} {σ : zSt} {lv : List (Nat × Value)} {st : List Value} {pc : Nat} (O : zOk K w cc "SluiceStream$Timer" n fr lo) (hd : decode cc pc = .ok (.putfield 33, 3)) {v : Int32} (hn : narrow .boolean (.int v) = .int v) (hf : fits .boolean (.int v) = true) (kk : Z K w (zuf σ 5 7 v) lv st (pc + 3)) : Z K w σ lv (.int v :: .ref (zq w 5) :: st) pc := z_putf O 5 (T := zF4) (N := 8) (fs := zo5 w σ) rfl rfl zin4 zY4 zYo4 zNm4 7 (Nat.le_of_ble_eq_true rfl) zm59 rfl rfl (ty := .boolean) rfl hn hf (Nat.le_of_ble_eq_true rfl) (σ' := zuf σ 5 7 v) rfl hd kk
theorem zg_T_24_5 {K : zCx} {w : zWd} {cc : ByteArray} {n fr lo : Nat} {σ : zSt} {lv : List (Nat × Value)} {st : List Value} {pc : Nat} (O : zOk K w cc "SluiceStream$Timer" n fr lo) (hd : decode cc pc = .ok (.getfield 24, 3)) {v : Value} (hv : (zo5 w σ)[4]? = some v) (kk : Z K w σ lv (v :: st) (pc + 3)) : Z K w σ lv (.ref (zq w 5) :: st) pc := z_getf O 5 (T := zF4) (N := 8) (fs := zo5 w σ) rfl rfl zin4 4 (Nat.le_of_ble_eq_true rfl) zm54 rfl hv hd kk
theorem zg_T_27_5 {K : zCx} {w : zWd} {cc : ByteArray} {n fr lo : Nat} {σ : zSt} {lv : List (Nat × Value)} {st : List Value} {pc : Nat} (O : zOk K w cc "SluiceStream$Timer" n fr lo) (hd : decode cc pc = .ok (.getfield 27, 3)) {v : Value} (hv : (zo5 w σ)[5]? = some v) (kk : Z K w σ lv (v :: st) (pc + 3)) : Z K w σ lv (.ref (zq w 5) :: st) pc := z_getf O 5 (T := zF4) (N := 8) (fs := zo5 w σ) rfl rfl zin4 5 (Nat.le_of_ble_eq_true rfl) zm56 rfl hv hd kk
theorem zg_T_30_5 {K : zCx} {w : zWd} {cc : ByteArray} {n fr lo : Nat} {σ : zSt} {lv : List (Nat × Value)} {st : List Value} {pc : Nat} (O : zOk K w cc "SluiceStream$Timer" n fr lo) (hd : decode cc pc = .ok (.getfield 30, 3)) {v : Value} (hv : (zo5 w σ)[6]? = some v) (kk : Z K w σ lv (v :: st) (pc + 3)) : Z K w σ lv (.ref (zq w 5) :: st) pc := z_getf O 5 (T := zF4) (N := 8) (fs := zo5 w σ) rfl rfl zin4 6 (Nat.le_of_ble_eq_true rfl) zm58 rfl hv hd kk
theorem zl_T_52 : zLk "SluiceStream$Timer" 52 ({ cls := "SluiceStream$Timer", name := "takeSample", desc := "(I)V" } : Jvm.MethodName) prog_6_method_10_code 3 none 1 := ⟨zm630, zm4, zm633, by decide +kernel⟩
theorem zg_S_44_2 {K : zCx} {w : zWd} {cc : ByteArray} {n fr lo : Nat} {σ : zSt} {lv : List (Nat × Value)} {st : List Value} {pc : Nat} (O : zOk K w cc "SluiceStream$Sender" n fr lo) (hd : decode cc pc = .ok (.getfield 44, 3)) {v : Value} (hv : (zo2 w σ)[8]? = some v) (kk : Z K w σ lv (v :: st) (pc + 3)) : Z K w σ lv (.ref (zq w 2) :: st) pc := z_getf O 2 (T := zF3) (N := 15) (fs := zo2 w σ) rfl rfl zin3 8 (Nat.le_of_ble_eq_true rfl) zm93 rfl hv hd kk
theorem zl_S_145 : zLk "SluiceStream$Sender" 145 ({ cls := "SluiceStream$Timer", name := "endTiming", desc := "(I)V" } : Jvm.MethodName) prog_6_method_9_code 2 none 1 := ⟨zm626, zm4, zm629, by decide +kernel⟩
theorem zp_S_25_2 {K : zCx} {w : zWd} {cc : ByteArray} {n fr lo : Nat} {σ : zSt} {lv : List (Nat × Value)} {st : List Value} {pc : Nat} (O : zOk K w cc "SluiceStream$Sender" n fr lo) (hd : decode cc pc = .ok (.putfield 25, 3)) {v : Int32} (kk : Z K w (zuf σ 2 2 v) lv st (pc + 3)) : Z K w σ lv (.int v :: .ref (zq w 2) :: st) pc := z_putf O 2 (T := zF3) (N := 15) (fs := zo2 w σ) rfl rfl zin3 zY3 zYo3 zNm3 2 (Nat.le_of_ble_eq_true rfl) zm81 rfl rfl (ty := .int) rfl rfl rfl (Nat.le_of_ble_eq_true rfl) (σ' := zuf σ 2 2 v) rfl hd kk
theorem zl_S_154 : zLk "SluiceStream$Sender" 154 ({ cls := "SluiceStream$Timer", name := "startAnew", desc := "()V" } : Jvm.MethodName) prog_6_method_3_code 1 none 0 := ⟨zm643, zm4, zm513, by decide +kernel⟩
theorem zl_S_151 : zLk "SluiceStream$Sender" 151 ({ cls := "SluiceStream$Timer", name := "stop", desc := "()V" } : Jvm.MethodName) prog_6_method_5_code 1 none 0 := ⟨zm642, zm4, zm551, by decide +kernel⟩
theorem zl_S_148 : zLk "SluiceStream$Sender" 148 ({ cls := "SluiceStream$Sender", name := "growCongestion", desc := "()V" } : Jvm.MethodName) prog_5_method_13_code 2 none 0 := ⟨zm638, zm2, zm641, by decide +kernel⟩
theorem zl_S_132 : zLk "SluiceStream$Sender" 132 ({ cls := "SluiceStream$Rows", name := "cell", desc := "(II)I" } : Jvm.MethodName) prog_4_method_4_code 4 (some .int) 2 := ⟨zm621, zm6, zm583, by decide +kernel⟩
theorem zl_S_157 : zLk "SluiceStream$Sender" 157 ({ cls := "SluiceStream$Positions", name := "fillEmpty", desc := "(III)I" } : Jvm.MethodName) prog_2_method_3_code 6 (some .int) 3 := ⟨zm648, zm3, zm592, by decide +kernel⟩
theorem zg_S_50_2 {K : zCx} {w : zWd} {cc : ByteArray} {n fr lo : Nat} {σ : zSt} {lv : List (Nat × Value)} {st : List Value} {pc : Nat} (O : zOk K w cc "SluiceStream$Sender" n fr lo) (hd : decode cc pc = .ok (.getfield 50, 3)) {v : Value} (hv : (zo2 w σ)[10]? = some v) (kk : Z K w σ lv (v :: st) (pc + 3)) : Z K w σ lv (.ref (zq w 2) :: st) pc := z_getf O 2 (T := zF3) (N := 15) (fs := zo2 w σ) rfl rfl zin3 10 (Nat.le_of_ble_eq_true rfl) zm97 rfl hv hd kk
theorem zl_S_161 : zLk "SluiceStream$Sender" 161 ({ cls := "SluiceStream$Timer", name := "forgetTiming", desc := "()V" } : Jvm.MethodName) prog_6_method_8_code 1 none 0 := ⟨zm653, zm4, zm547, by decide +kernel⟩
theorem zp_S_38_2 {K : zCx} {w : zWd} {cc : ByteArray} {n fr lo : Nat} {σ : zSt} {lv : List (Nat × Value)} {st : List Value} {pc : Nat} (O : zOk K w cc "SluiceStream$Sender" n fr lo) (hd : decode cc pc = .ok (.putfield 38, 3)) {v : Int32} (kk : Z K w (zuf σ 2 6 v) lv st (pc + 3)) : Z K w σ lv (.int v :: .ref (zq w 2) :: st) pc := z_putf O 2 (T := zF3) (N := 15) (fs := zo2 w σ) rfl rfl zin3 zY3 zYo3 zNm3 6 (Nat.le_of_ble_eq_true rfl) zm89 rfl rfl (ty := .int) rfl rfl rfl (Nat.le_of_ble_eq_true rfl) (σ' := zuf σ 2 6 v) rfl hd kk
theorem zl_S_138 : zLk "SluiceStream$Sender" 138 ({ cls := "SluiceStream$Sender", name := "markBlocks", desc := "(LSluiceStream$Rows;I)V" } : Jvm.MethodName) prog_5_method_14_code 7 none 2 := ⟨zm644, zm2, zm647, by decide +kernel⟩
theorem zl_S_142 : zLk "SluiceStream$Sender" 142 ({ cls := "SluiceStream$Sender", name := "countDuplicate", desc := "()V" } : Jvm.MethodName) prog_5_method_15_code 1 none 0 := ⟨zm649, zm2, zm652, by decide +kernel⟩
theorem zl_S_135 : zLk "SluiceStream$Sender" 135 ({ cls := "SluiceStream$Sender", name := "advanceTo", desc := "(I)V" } : Jvm.MethodName) prog_5_method_12_code 2 none 1 := ⟨zm622, zm2, zm625, by decide +kernel⟩
theorem zin6 : ∀ x ∈ u_ws "SluiceStreamModel" zF6 39, x ∈ zT := by
  rw [show u_ws "SluiceStreamModel" zF6 39 = [(Jvm.Cond.lays "SluiceStreamModel" "SluiceStreamModel" "thrown" "I"), (Jvm.Cond.lays "SluiceStreamModel" "SluiceStreamModel" "time" "I"), (Jvm.Cond.lays "SluiceStreamModel" "SluiceStreamModel" "a" "I"), (Jvm.Cond.lays "SluiceStreamModel" "SluiceStreamModel" "n" "I"), (Jvm.Cond.lays "SluiceStreamModel" "SluiceStreamModel" "h" "I"), (Jvm.Cond.lays "SluiceStreamModel" "SluiceStreamModel" "w" "I"), (Jvm.Cond.lays "SluiceStreamModel" "SluiceStreamModel" "edge" "I"), (Jvm.Cond.lays "SluiceStreamModel" "SluiceStreamModel" "c" "I"), (Jvm.Cond.lays "SluiceStreamModel" "SluiceStreamModel" "t" "I"), (Jvm.Cond.lays "SluiceStreamModel" "SluiceStreamModel" "l" "I"), (Jvm.Cond.lays "SluiceStreamModel" "SluiceStreamModel" "isRecovering" "Z"), (Jvm.Cond.lays "SluiceStreamModel" "SluiceStreamModel" "r" "I"), (Jvm.Cond.lays "SluiceStreamModel" "SluiceStreamModel" "x" "I"), (Jvm.Cond.lays "SluiceStreamModel" "SluiceStreamModel" "duplicates" "I"), (Jvm.Cond.lays "SluiceStreamModel" "SluiceStreamModel" "timeout" "I"), (Jvm.Cond.lays "SluiceStreamModel" "SluiceStreamModel" "timerEnd" "I"), (Jvm.Cond.lays "SluiceStreamModel" "SluiceStreamModel" "timedEnd" "I"), (Jvm.Cond.lays "SluiceStreamModel" "SluiceStreamModel" "timedAt" "I"), (Jvm.Cond.lays "SluiceStreamModel" "SluiceStreamModel" "roundTrip" "I"), (Jvm.Cond.lays "SluiceStreamModel" "SluiceStreamModel" "variation" "I"), (Jvm.Cond.lays "SluiceStreamModel" "SluiceStreamModel" "isSampled" "Z"), (Jvm.Cond.lays "SluiceStreamModel" "SluiceStreamModel" "sent" "I"), (Jvm.Cond.lays "SluiceStreamModel" "SluiceStreamModel" "sentAgain" "I"), (Jvm.Cond.laysFinal "SluiceStreamModel" "SluiceStreamModel" "written" "[I"), (Jvm.Cond.laysFinal "SluiceStreamModel" "SluiceStreamModel" "isMarked" "[Z"), (Jvm.Cond.laysFinal "SluiceStreamModel" "SluiceStreamModel" "has" "[Z"), (Jvm.Cond.laysFinal "SluiceStreamModel" "SluiceStreamModel" "came" "[I"), (Jvm.Cond.lays "SluiceStreamModel" "SluiceStreamModel" "deliveries" "I"), (Jvm.Cond.lays "SluiceStreamModel" "SluiceStreamModel" "b" "I"), (Jvm.Cond.lays "SluiceStreamModel" "SluiceStreamModel" "readPosition" "I"), (Jvm.Cond.laysFinal "SluiceStreamModel" "SluiceStreamModel" "start" "[I"), (Jvm.Cond.laysFinal "SluiceStreamModel" "SluiceStreamModel" "end" "[I"), (Jvm.Cond.lays "SluiceStreamModel" "SluiceStreamModel" "segments" "I"), (Jvm.Cond.laysFinal "SluiceStreamModel" "SluiceStreamModel" "number" "[I"), (Jvm.Cond.laysFinal "SluiceStreamModel" "SluiceStreamModel" "window" "[I"), (Jvm.Cond.laysFinal "SluiceStreamModel" "SluiceStreamModel" "blocks" "[I"), (Jvm.Cond.laysFinal "SluiceStreamModel" "SluiceStreamModel" "blockFrom" "[I"), (Jvm.Cond.laysFinal "SluiceStreamModel" "SluiceStreamModel" "blockTo" "[I"), (Jvm.Cond.lays "SluiceStreamModel" "SluiceStreamModel" "acks" "I")] from by decide +kernel]
  exact List.forall_mem_cons.mpr ⟨zm775, List.forall_mem_cons.mpr ⟨zm777, List.forall_mem_cons.mpr ⟨zm779, List.forall_mem_cons.mpr ⟨zm781, List.forall_mem_cons.mpr ⟨zm783, List.forall_mem_cons.mpr ⟨zm785, List.forall_mem_cons.mpr ⟨zm787, List.forall_mem_cons.mpr ⟨zm789, List.forall_mem_cons.mpr ⟨zm791, List.forall_mem_cons.mpr ⟨zm793, List.forall_mem_cons.mpr ⟨zm795, List.forall_mem_cons.mpr ⟨zm797, List.forall_mem_cons.mpr ⟨zm799, List.forall_mem_cons.mpr ⟨zm801, List.forall_mem_cons.mpr ⟨zm803, List.forall_mem_cons.mpr ⟨zm805, List.forall_mem_cons.mpr ⟨zm807, List.forall_mem_cons.mpr ⟨zm809, List.forall_mem_cons.mpr ⟨zm811, List.forall_mem_cons.mpr ⟨zm813, List.forall_mem_cons.mpr ⟨zm815, List.forall_mem_cons.mpr ⟨zm817, List.forall_mem_cons.mpr ⟨zm819, List.forall_mem_cons.mpr ⟨zm821, List.forall_mem_cons.mpr ⟨zm823, List.forall_mem_cons.mpr ⟨zm825, List.forall_mem_cons.mpr ⟨zm827, List.forall_mem_cons.mpr ⟨zm829, List.forall_mem_cons.mpr ⟨zm831, List.forall_mem_cons.mpr ⟨zm833, List.forall_mem_cons.mpr ⟨zm835, List.forall_mem_cons.mpr ⟨zm837, List.forall_mem_cons.mpr ⟨zm839, List.forall_mem_cons.mpr ⟨zm841, List.forall_mem_cons.mpr ⟨zm843, List.forall_mem_cons.mpr ⟨zm845, List.forall_mem_cons.mpr ⟨zm847, List.forall_mem_cons.mpr ⟨zm849, List.forall_mem_cons.mpr ⟨zm851, fun _ h => absurd h List.not_mem_nil⟩⟩⟩⟩⟩⟩⟩⟩⟩⟩⟩⟩⟩⟩⟩⟩⟩⟩⟩⟩⟩⟩⟩⟩⟩⟩⟩⟩⟩⟩⟩⟩⟩⟩⟩⟩⟩⟩⟩
theorem zg_M_66_13 {K : zCx} {w : zWd} {cc : ByteArray} {n fr lo : Nat} {σ : zSt} {lv : List (Nat × Value)} {st : List Value} {pc : Nat} (O : zOk K w cc "SluiceStreamModel" n fr lo) (hd : decode cc pc = .ok (.getfield 66, 3)) {v : Value} (hv : (zo13 w σ)[0]? = some v) (kk : Z K w σ lv (v :: st) (pc + 3)) : Z K w σ lv (.ref (zq w 13) :: st) pc := z_getf O 13 (T := zF6) (N := 39) (fs := zo13 w σ) rfl rfl zin6 0 (Nat.le_of_ble_eq_true rfl) zm736 rfl hv hd kk
theorem zp_M_66_13 {K : zCx} {w : zWd} {cc : ByteArray} {n fr lo : Nat} {σ : zSt} {lv : List (Nat × Value)} {st : List Value} {pc : Nat} (O : zOk K w cc "SluiceStreamModel" n fr lo) (hd : decode cc pc = .ok (.putfield 66, 3)) {v : Int32} (kk : Z K w (zuf σ 13 0 v) lv st (pc + 3)) : Z K w σ lv (.int v :: .ref (zq w 13) :: st) pc := z_putf O 13 (T := zF6) (N := 39) (fs := zo13 w σ) rfl rfl zin6 zY6 zYo6 zNm6 0 (Nat.le_of_ble_eq_true rfl) zm736 rfl rfl (ty := .int) rfl rfl rfl (Nat.le_of_ble_eq_true rfl) (σ' := zuf σ 13 0 v) rfl hd kk
theorem zg_M_31_13 {K : zCx} {w : zWd} {cc : ByteArray} {n fr lo : Nat} {σ : zSt} {lv : List (Nat × Value)} {st : List Value} {pc : Nat} (O : zOk K w cc "SluiceStreamModel" n fr lo) (hd : decode cc pc = .ok (.getfield 31, 3)) {v : Value} (hv : (zo13 w σ)[23]? = some v) (kk : Z K w σ lv (v :: st) (pc + 3)) : Z K w σ lv (.ref (zq w 13) :: st) pc := z_getf O 13 (T := zF6) (N := 39) (fs := zo13 w σ) rfl rfl zin6 23 (Nat.le_of_ble_eq_true rfl) zm759 rfl hv hd kk
theorem zg_M_73_13 {K : zCx} {w : zWd} {cc : ByteArray} {n fr lo : Nat} {σ : zSt} {lv : List (Nat × Value)} {st : List Value} {pc : Nat} (O : zOk K w cc "SluiceStreamModel" n fr lo) (hd : decode cc pc = .ok (.getfield 73, 3)) {v : Value} (hv : (zo13 w σ)[5]? = some v) (kk : Z K w σ lv (v :: st) (pc + 3)) : Z K w σ lv (.ref (zq w 13) :: st) pc := z_getf O 13 (T := zF6) (N := 39) (fs := zo13 w σ) rfl rfl zin6 5 (Nat.le_of_ble_eq_true rfl) zm741 rfl hv hd kk
theorem zl_M_69 : zLk "SluiceStreamModel" 69 ({ cls := "SluiceStreamModel", name := "isIn", desc := "(III)Z" } : Jvm.MethodName) prog_8_method_4_code 3 (some .boolean) 3 := ⟨zm863, zm7, zm865, by decide +kernel⟩
theorem zl_M_76 : zLk "SluiceStreamModel" 76 ({ cls := "SluiceStreamModel", name := "isFine", desc := "(I)Z" } : Jvm.MethodName) prog_8_method_3_code 2 (some .boolean) 1 := ⟨zm866, zm7, zm869, by decide +kernel⟩
theorem zp_M_73_13 {K : zCx} {w : zWd} {cc : ByteArray} {n fr lo : Nat} {σ : zSt} {lv : List (Nat × Value)} {st : List Value} {pc : Nat} (O : zOk K w cc "SluiceStreamModel" n fr lo) (hd : decode cc pc = .ok (.putfield 73, 3)) {v : Int32} (kk : Z K w (zuf σ 13 5 v) lv st (pc + 3)) : Z K w σ lv (.int v :: .ref (zq w 13) :: st) pc := z_putf O 13 (T := zF6) (N := 39) (fs := zo13 w σ) rfl rfl zin6 zY6 zYo6 zNm6 5 (Nat.le_of_ble_eq_true rfl) zm741 rfl rfl (ty := .int) rfl rfl rfl (Nat.le_of_ble_eq_true rfl) (σ' := zuf σ 13 5 v) rfl hd kk
theorem zg_M_80_13 {K : zCx} {w : zWd} {cc : ByteArray} {n fr lo : Nat} {σ : zSt} {lv : List (Nat × Value)} {st : List Value} {pc : Nat} (O : zOk K w cc "SluiceStreamModel" n fr lo) (hd : decode cc pc = .ok (.getfield 80, 3)) {v : Value} (hv : (zo13 w σ)[29]? = some v) (kk : Z K w σ lv (v :: st) (pc + 3)) : Z K w σ lv (.ref (zq w 13) :: st) pc := z_getf O 13 (T := zF6) (N := 39) (fs := zo13 w σ) rfl rfl zin6 29 (Nat.le_of_ble_eq_true rfl) zm765 rfl hv hd kk
theorem zg_M_83_13 {K : zCx} {w : zWd} {cc : ByteArray} {n fr lo : Nat} {σ : zSt} {lv : List (Nat × Value)} {st : List Value} {pc : Nat} (O : zOk K w cc "SluiceStreamModel" n fr lo) (hd : decode cc pc = .ok (.getfield 83, 3)) {v : Value} (hv : (zo13 w σ)[28]? = some v) (kk : Z K w σ lv (v :: st) (pc + 3)) : Z K w σ lv (.ref (zq w 13) :: st) pc := z_getf O 13 (T := zF6) (N := 39) (fs := zo13 w σ) rfl rfl zin6 28 (Nat.le_of_ble_eq_true rfl) zm764 rfl hv hd kk
theorem zg_M_174_13 {K : zCx} {w : zWd} {cc : ByteArray} {n fr lo : Nat} {σ : zSt} {lv : List (Nat × Value)} {st : List Value} {pc : Nat} (O : zOk K w cc "SluiceStreamModel" n fr lo) (hd : decode cc pc = .ok (.getfield 174, 3)) {v : Value} (hv : (zo13 w σ)[38]? = some v) (kk : Z K w σ lv (v :: st) (pc + 3)) : Z K w σ lv (.ref (zq w 13) :: st) pc := z_getf O 13 (T := zF6) (N := 39) (fs := zo13 w σ) rfl rfl zin6 38 (Nat.le_of_ble_eq_true rfl) zm774 rfl hv hd kk
theorem zg_M_51_13 {K : zCx} {w : zWd} {cc : ByteArray} {n fr lo : Nat} {σ : zSt} {lv : List (Nat × Value)} {st : List Value} {pc : Nat} (O : zOk K w cc "SluiceStreamModel" n fr lo) (hd : decode cc pc = .ok (.getfield 51, 3)) {v : Value} (hv : (zo13 w σ)[33]? = some v) (kk : Z K w σ lv (v :: st) (pc + 3)) : Z K w σ lv (.ref (zq w 13) :: st) pc := z_getf O 13 (T := zF6) (N := 39) (fs := zo13 w σ) rfl rfl zin6 33 (Nat.le_of_ble_eq_true rfl) zm769 rfl hv hd kk
theorem zg_M_54_13 {K : zCx} {w : zWd} {cc : ByteArray} {n fr lo : Nat} {σ : zSt} {lv : List (Nat × Value)} {st : List Value} {pc : Nat} (O : zOk K w cc "SluiceStreamModel" n fr lo) (hd : decode cc pc = .ok (.getfield 54, 3)) {v : Value} (hv : (zo13 w σ)[34]? = some v) (kk : Z K w σ lv (v :: st) (pc + 3)) : Z K w σ lv (.ref (zq w 13) :: st) pc := z_getf O 13 (T := zF6) (N := 39) (fs := zo13 w σ) rfl rfl zin6 34 (Nat.le_of_ble_eq_true rfl) zm770 rfl hv hd kk
theorem zg_M_57_13 {K : zCx} {w : zWd} {cc : ByteArray} {n fr lo : Nat} {σ : zSt} {lv : List (Nat × Value)} {st : List Value} {pc : Nat} (O : zOk K w cc "SluiceStreamModel" n fr lo) (hd : decode cc pc = .ok (.getfield 57, 3)) {v : Value} (hv : (zo13 w σ)[35]? = some v) (kk : Z K w σ lv (v :: st) (pc + 3)) : Z K w σ lv (.ref (zq w 13) :: st) pc := z_getf O 13 (T := zF6) (N := 39) (fs := zo13 w σ) rfl rfl zin6 35 (Nat.le_of_ble_eq_true rfl) zm771 rfl hv hd kk
theorem zg_M_60_13 {K : zCx} {w : zWd} {cc : ByteArray} {n fr lo : Nat} {σ : zSt} {lv : List (Nat × Value)} {st : List Value} {pc : Nat} (O : zOk K w cc "SluiceStreamModel" n fr lo) (hd : decode cc pc = .ok (.getfield 60, 3)) {v : Value} (hv : (zo13 w σ)[36]? = some v) (kk : Z K w σ lv (v :: st) (pc + 3)) : Z K w σ lv (.ref (zq w 13) :: st) pc := z_getf O 13 (T := zF6) (N := 39) (fs := zo13 w σ) rfl rfl zin6 36 (Nat.le_of_ble_eq_true rfl) zm772 rfl hv hd kk
theorem zg_M_63_13 {K : zCx} {w : zWd} {cc : ByteArray} {n fr lo : Nat} {σ : zSt} {lv : List (Nat × Value)} {st : List Value} {pc : Nat} (O : zOk K w cc "SluiceStreamModel" n fr lo) (hd : decode cc pc = .ok (.getfield 63, 3)) {v : Value} (hv : (zo13 w σ)[37]? = some v) (kk : Z K w σ lv (v :: st) (pc + 3)) : Z K w σ lv (.ref (zq w 13) :: st) pc := z_getf O 13 (T := zF6) (N := 39) (fs := zo13 w σ) rfl rfl zin6 37 (Nat.le_of_ble_eq_true rfl) zm773 rfl hv hd kk
theorem zp_M_174_13 {K : zCx} {w : zWd} {cc : ByteArray} {n fr lo : Nat} {σ : zSt} {lv : List (Nat × Value)} {st : List Value} {pc : Nat} (O : zOk K w cc "SluiceStreamModel" n fr lo) (hd : decode cc pc = .ok (.putfield 174, 3)) {v : Int32} (kk : Z K w (zuf σ 13 38 v) lv st (pc + 3)) : Z K w σ lv (.int v :: .ref (zq w 13) :: st) pc := z_putf O 13 (T := zF6) (N := 39) (fs := zo13 w σ) rfl rfl zin6 zY6 zYo6 zNm6 38 (Nat.le_of_ble_eq_true rfl) zm774 rfl rfl (ty := .int) rfl rfl rfl (Nat.le_of_ble_eq_true rfl) (σ' := zuf σ 13 38 v) rfl hd kk
theorem zg_M_39_13 {K : zCx} {w : zWd} {cc : ByteArray} {n fr lo : Nat} {σ : zSt} {lv : List (Nat × Value)} {st : List Value} {pc : Nat} (O : zOk K w cc "SluiceStreamModel" n fr lo) (hd : decode cc pc = .ok (.getfield 39, 3)) {v : Value} (hv : (zo13 w σ)[25]? = some v) (kk : Z K w σ lv (v :: st) (pc + 3)) : Z K w σ lv (.ref (zq w 13) :: st) pc := z_getf O 13 (T := zF6) (N := 39) (fs := zo13 w σ) rfl rfl zin6 25 (Nat.le_of_ble_eq_true rfl) zm761 rfl hv hd kk
theorem zg_M_42_13 {K : zCx} {w : zWd} {cc : ByteArray} {n fr lo : Nat} {σ : zSt} {lv : List (Nat × Value)} {st : List Value} {pc : Nat} (O : zOk K w cc "SluiceStreamModel" n fr lo) (hd : decode cc pc = .ok (.getfield 42, 3)) {v : Value} (hv : (zo13 w σ)[26]? = some v) (kk : Z K w σ lv (v :: st) (pc + 3)) : Z K w σ lv (.ref (zq w 13) :: st) pc := z_getf O 13 (T := zF6) (N := 39) (fs := zo13 w σ) rfl rfl zin6 26 (Nat.le_of_ble_eq_true rfl) zm762 rfl hv hd kk
theorem zl_M_102 : zLk "SluiceStreamModel" 102 ({ cls := "SluiceStreamModel", name := "greater", desc := "(II)I" } : Jvm.MethodName) prog_8_method_6_code 2 (some .int) 2 := ⟨zm894, zm7, zm896, by decide +kernel⟩
theorem zl_M_183 : zLk "SluiceStreamModel" 183 ({ cls := "SluiceStreamModel", name := "isStart", desc := "(I)Z" } : Jvm.MethodName) prog_8_method_24_code 2 (some .boolean) 1 := ⟨zm886, zm7, zm889, by decide +kernel⟩
theorem zl_M_186 : zLk "SluiceStreamModel" 186 ({ cls := "SluiceStreamModel", name := "latest", desc := "(I)I" } : Jvm.MethodName) prog_8_method_23_code 4 (some .int) 1 := ⟨zm890, zm7, zm893, by decide +kernel⟩
theorem zl_M_190 : zLk "SluiceStreamModel" 190 ({ cls := "SluiceStreamModel", name := "runEnd", desc := "(I)I" } : Jvm.MethodName) prog_8_method_25_code 3 (some .int) 1 := ⟨zm897, zm7, zm900, by decide +kernel⟩
theorem zl_M_86 : zLk "SluiceStreamModel" 86 ({ cls := "SluiceStreamModel", name := "room", desc := "()I" } : Jvm.MethodName) prog_8_method_8_code 1 (some .int) 0 := ⟨zm874, zm7, zm877, by decide +kernel⟩
theorem zg_M_180_13 {K : zCx} {w : zWd} {cc : ByteArray} {n fr lo : Nat} {σ : zSt} {lv : List (Nat × Value)} {st : List Value} {pc : Nat} (O : zOk K w cc "SluiceStreamModel" n fr lo) (hd : decode cc pc = .ok (.getfield 180, 3)) {v : Value} (hv : (zo13 w σ)[27]? = some v) (kk : Z K w σ lv (v :: st) (pc + 3)) : Z K w σ lv (.ref (zq w 13) :: st) pc := z_getf O 13 (T := zF6) (N := 39) (fs := zo13 w σ) rfl rfl zin6 27 (Nat.le_of_ble_eq_true rfl) zm763 rfl hv hd kk
theorem zl_M_177 : zLk "SluiceStreamModel" 177 ({ cls := "SluiceStreamModel", name := "leaves", desc := "(I)V" } : Jvm.MethodName) prog_8_method_27_code 3 none 1 := ⟨zm882, zm7, zm885, by decide +kernel⟩
theorem zp_M_80_13 {K : zCx} {w : zWd} {cc : ByteArray} {n fr lo : Nat} {σ : zSt} {lv : List (Nat × Value)} {st : List Value} {pc : Nat} (O : zOk K w cc "SluiceStreamModel" n fr lo) (hd : decode cc pc = .ok (.putfield 80, 3)) {v : Int32} (kk : Z K w (zuf σ 13 29 v) lv st (pc + 3)) : Z K w σ lv (.int v :: .ref (zq w 13) :: st) pc := z_putf O 13 (T := zF6) (N := 39) (fs := zo13 w σ) rfl rfl zin6 zY6 zYo6 zNm6 29 (Nat.le_of_ble_eq_true rfl) zm765 rfl rfl (ty := .int) rfl rfl rfl (Nat.le_of_ble_eq_true rfl) (σ' := zuf σ 13 29 v) rfl hd kk
theorem zl_M_90 : zLk "SluiceStreamModel" 90 ({ cls := "SluiceStreamModel", name := "answers", desc := "()V" } : Jvm.MethodName) prog_8_method_26_code 6 none 0 := ⟨zm878, zm7, zm881, by decide +kernel⟩
theorem zg_M_19_13 {K : zCx} {w : zWd} {cc : ByteArray} {n fr lo : Nat} {σ : zSt} {lv : List (Nat × Value)} {st : List Value} {pc : Nat} (O : zOk K w cc "SluiceStreamModel" n fr lo) (hd : decode cc pc = .ok (.getfield 19, 3)) {v : Value} (hv : (zo13 w σ)[9]? = some v) (kk : Z K w σ lv (v :: st) (pc + 3)) : Z K w σ lv (.ref (zq w 13) :: st) pc := z_getf O 13 (T := zF6) (N := 39) (fs := zo13 w σ) rfl rfl zin6 9 (Nat.le_of_ble_eq_true rfl) zm745 rfl hv hd kk
theorem zp_M_19_13 {K : zCx} {w : zWd} {cc : ByteArray} {n fr lo : Nat} {σ : zSt} {lv : List (Nat × Value)} {st : List Value} {pc : Nat} (O : zOk K w cc "SluiceStreamModel" n fr lo) (hd : decode cc pc = .ok (.putfield 19, 3)) {v : Int32} (kk : Z K w (zuf σ 13 9 v) lv st (pc + 3)) : Z K w σ lv (.int v :: .ref (zq w 13) :: st) pc := z_putf O 13 (T := zF6) (N := 39) (fs := zo13 w σ) rfl rfl zin6 zY6 zYo6 zNm6 9 (Nat.le_of_ble_eq_true rfl) zm745 rfl rfl (ty := .int) rfl rfl rfl (Nat.le_of_ble_eq_true rfl) (σ' := zuf σ 13 9 v) rfl hd kk
theorem zg_M_96_13 {K : zCx} {w : zWd} {cc : ByteArray} {n fr lo : Nat} {σ : zSt} {lv : List (Nat × Value)} {st : List Value} {pc : Nat} (O : zOk K w cc "SluiceStreamModel" n fr lo) (hd : decode cc pc = .ok (.getfield 96, 3)) {v : Value} (hv : (zo13 w σ)[3]? = some v) (kk : Z K w σ lv (v :: st) (pc + 3)) : Z K w σ lv (.ref (zq w 13) :: st) pc := z_getf O 13 (T := zF6) (N := 39) (fs := zo13 w σ) rfl rfl zin6 3 (Nat.le_of_ble_eq_true rfl) zm739 rfl hv hd kk
theorem zg_M_35_13 {K : zCx} {w : zWd} {cc : ByteArray} {n fr lo : Nat} {σ : zSt} {lv : List (Nat × Value)} {st : List Value} {pc : Nat} (O : zOk K w cc "SluiceStreamModel" n fr lo) (hd : decode cc pc = .ok (.getfield 35, 3)) {v : Value} (hv : (zo13 w σ)[24]? = some v) (kk : Z K w σ lv (v :: st) (pc + 3)) : Z K w σ lv (.ref (zq w 13) :: st) pc := z_getf O 13 (T := zF6) (N := 39) (fs := zo13 w σ) rfl rfl zin6 24 (Nat.le_of_ble_eq_true rfl) zm760 rfl hv hd kk
theorem zg_M_93_13 {K : zCx} {w : zWd} {cc : ByteArray} {n fr lo : Nat} {σ : zSt} {lv : List (Nat × Value)} {st : List Value} {pc : Nat} (O : zOk K w cc "SluiceStreamModel" n fr lo) (hd : decode cc pc = .ok (.getfield 93, 3)) {v : Value} (hv : (zo13 w σ)[2]? = some v) (kk : Z K w σ lv (v :: st) (pc + 3)) : Z K w σ lv (.ref (zq w 13) :: st) pc := z_getf O 13 (T := zF6) (N := 39) (fs := zo13 w σ) rfl rfl zin6 2 (Nat.le_of_ble_eq_true rfl) zm738 rfl hv hd kk
theorem zg_M_99_13 {K : zCx} {w : zWd} {cc : ByteArray} {n fr lo : Nat} {σ : zSt} {lv : List (Nat × Value)} {st : List Value} {pc : Nat} (O : zOk K w cc "SluiceStreamModel" n fr lo) (hd : decode cc pc = .ok (.getfield 99, 3)) {v : Value} (hv : (zo13 w σ)[12]? = some v) (kk : Z K w σ lv (v :: st) (pc + 3)) : Z K w σ lv (.ref (zq w 13) :: st) pc := z_getf O 13 (T := zF6) (N := 39) (fs := zo13 w σ) rfl rfl zin6 12 (Nat.le_of_ble_eq_true rfl) zm748 rfl hv hd kk
theorem zl_M_106 : zLk "SluiceStreamModel" 106 ({ cls := "SluiceStreamModel", name := "lastMark", desc := "()I" } : Jvm.MethodName) prog_8_method_12_code 2 (some .int) 0 := ⟨zm913, zm7, zm916, by decide +kernel⟩
theorem zg_M_45_13 {K : zCx} {w : zWd} {cc : ByteArray} {n fr lo : Nat} {σ : zSt} {lv : List (Nat × Value)} {st : List Value} {pc : Nat} (O : zOk K w cc "SluiceStreamModel" n fr lo) (hd : decode cc pc = .ok (.getfield 45, 3)) {v : Value} (hv : (zo13 w σ)[30]? = some v) (kk : Z K w σ lv (v :: st) (pc + 3)) : Z K w σ lv (.ref (zq w 13) :: st) pc := z_getf O 13 (T := zF6) (N := 39) (fs := zo13 w σ) rfl rfl zin6 30 (Nat.le_of_ble_eq_true rfl) zm766 rfl hv hd kk
theorem zg_M_109_13 {K : zCx} {w : zWd} {cc : ByteArray} {n fr lo : Nat} {σ : zSt} {lv : List (Nat × Value)} {st : List Value} {pc : Nat} (O : zOk K w cc "SluiceStreamModel" n fr lo) (hd : decode cc pc = .ok (.getfield 109, 3)) {v : Value} (hv : (zo13 w σ)[32]? = some v) (kk : Z K w σ lv (v :: st) (pc + 3)) : Z K w σ lv (.ref (zq w 13) :: st) pc := z_getf O 13 (T := zF6) (N := 39) (fs := zo13 w σ) rfl rfl zin6 32 (Nat.le_of_ble_eq_true rfl) zm768 rfl hv hd kk
theorem zg_M_48_13 {K : zCx} {w : zWd} {cc : ByteArray} {n fr lo : Nat} {σ : zSt} {lv : List (Nat × Value)} {st : List Value} {pc : Nat} (O : zOk K w cc "SluiceStreamModel" n fr lo) (hd : decode cc pc = .ok (.getfield 48, 3)) {v : Value} (hv : (zo13 w σ)[31]? = some v) (kk : Z K w σ lv (v :: st) (pc + 3)) : Z K w σ lv (.ref (zq w 13) :: st) pc := z_getf O 13 (T := zF6) (N := 39) (fs := zo13 w σ) rfl rfl zin6 31 (Nat.le_of_ble_eq_true rfl) zm767 rfl hv hd kk
theorem zp_M_109_13 {K : zCx} {w : zWd} {cc : ByteArray} {n fr lo : Nat} {σ : zSt} {lv : List (Nat × Value)} {st : List Value} {pc : Nat} (O : zOk K w cc "SluiceStreamModel" n fr lo) (hd : decode cc pc = .ok (.putfield 109, 3)) {v : Int32} (kk : Z K w (zuf σ 13 32 v) lv st (pc + 3)) : Z K w σ lv (.int v :: .ref (zq w 13) :: st) pc := z_putf O 13 (T := zF6) (N := 39) (fs := zo13 w σ) rfl rfl zin6 zY6 zYo6 zNm6 32 (Nat.le_of_ble_eq_true rfl) zm768 rfl rfl (ty := .int) rfl rfl rfl (Nat.le_of_ble_eq_true rfl) (σ' := zuf σ 13 32 v) rfl hd kk
theorem zg_M_112_13 {K : zCx} {w : zWd} {cc : ByteArray} {n fr lo : Nat} {σ : zSt} {lv : List (Nat × Value)} {st : List Value} {pc : Nat} (O : zOk K w cc "SluiceStreamModel" n fr lo) (hd : decode cc pc = .ok (.getfield 112, 3)) {v : Value} (hv : (zo13 w σ)[21]? = some v) (kk : Z K w σ lv (v :: st) (pc + 3)) : Z K w σ lv (.ref (zq w 13) :: st) pc := z_getf O 13 (T := zF6) (N := 39) (fs := zo13 w σ) rfl rfl zin6 21 (Nat.le_of_ble_eq_true rfl) zm757 rfl hv hd kk
theorem zp_M_112_13 {K : zCx} {w : zWd} {cc : ByteArray} {n fr lo : Nat} {σ : zSt} {lv : List (Nat × Value)} {st : List Value} {pc : Nat} (O : zOk K w cc "SluiceStreamModel" n fr lo) (hd : decode cc pc = .ok (.putfield 112, 3)) {v : Int32} (kk : Z K w (zuf σ 13 21 v) lv st (pc + 3)) : Z K w σ lv (.int v :: .ref (zq w 13) :: st) pc := z_putf O 13 (T := zF6) (N := 39) (fs := zo13 w σ) rfl rfl zin6 zY6 zYo6 zNm6 21 (Nat.le_of_ble_eq_true rfl) zm757 rfl rfl (ty := .int) rfl rfl rfl (Nat.le_of_ble_eq_true rfl) (σ' := zuf σ 13 21 v) rfl hd kk
theorem zg_M_115_13 {K : zCx} {w : zWd} {cc : ByteArray} {n fr lo : Nat} {σ : zSt} {lv : List (Nat × Value)} {st : List Value} {pc : Nat} (O : zOk K w cc "SluiceStreamModel" n fr lo) (hd : decode cc pc = .ok (.getfield 115, 3)) {v : Value} (hv : (zo13 w σ)[4]? = some v) (kk : Z K w σ lv (v :: st) (pc + 3)) : Z K w σ lv (.ref (zq w 13) :: st) pc := z_getf O 13 (T := zF6) (N := 39) (fs := zo13 w σ) rfl rfl zin6 4 (Nat.le_of_ble_eq_true rfl) zm740 rfl hv hd kk
theorem zg_M_28_13 {K : zCx} {w : zWd} {cc : ByteArray} {n fr lo : Nat} {σ : zSt} {lv : List (Nat × Value)} {st : List Value} {pc : Nat} (O : zOk K w cc "SluiceStreamModel" n fr lo) (hd : decode cc pc = .ok (.getfield 28, 3)) {v : Value} (hv : (zo13 w σ)[16]? = some v) (kk : Z K w σ lv (v :: st) (pc + 3)) : Z K w σ lv (.ref (zq w 13) :: st) pc := z_getf O 13 (T := zF6) (N := 39) (fs := zo13 w σ) rfl rfl zin6 16 (Nat.le_of_ble_eq_true rfl) zm752 rfl hv hd kk
theorem zp_M_115_13 {K : zCx} {w : zWd} {cc : ByteArray} {n fr lo : Nat} {σ : zSt} {lv : List (Nat × Value)} {st : List Value} {pc : Nat} (O : zOk K w cc "SluiceStreamModel" n fr lo) (hd : decode cc pc = .ok (.putfield 115, 3)) {v : Int32} (kk : Z K w (zuf σ 13 4 v) lv st (pc + 3)) : Z K w σ lv (.int v :: .ref (zq w 13) :: st) pc := z_putf O 13 (T := zF6) (N := 39) (fs := zo13 w σ) rfl rfl zin6 zY6 zYo6 zNm6 4 (Nat.le_of_ble_eq_true rfl) zm740 rfl rfl (ty := .int) rfl rfl rfl (Nat.le_of_ble_eq_true rfl) (σ' := zuf σ 13 4 v) rfl hd kk
theorem zg_M_25_13 {K : zCx} {w : zWd} {cc : ByteArray} {n fr lo : Nat} {σ : zSt} {lv : List (Nat × Value)} {st : List Value} {pc : Nat} (O : zOk K w cc "SluiceStreamModel" n fr lo) (hd : decode cc pc = .ok (.getfield 25, 3)) {v : Value} (hv : (zo13 w σ)[15]? = some v) (kk : Z K w σ lv (v :: st) (pc + 3)) : Z K w σ lv (.ref (zq w 13) :: st) pc := z_getf O 13 (T := zF6) (N := 39) (fs := zo13 w σ) rfl rfl zin6 15 (Nat.le_of_ble_eq_true rfl) zm751 rfl hv hd kk
theorem zg_M_121_13 {K : zCx} {w : zWd} {cc : ByteArray} {n fr lo : Nat} {σ : zSt} {lv : List (Nat × Value)} {st : List Value} {pc : Nat} (O : zOk K w cc "SluiceStreamModel" n fr lo) (hd : decode cc pc = .ok (.getfield 121, 3)) {v : Value} (hv : (zo13 w σ)[1]? = some v) (kk : Z K w σ lv (v :: st) (pc + 3)) : Z K w σ lv (.ref (zq w 13) :: st) pc := z_getf O 13 (T := zF6) (N := 39) (fs := zo13 w σ) rfl rfl zin6 1 (Nat.le_of_ble_eq_true rfl) zm737 rfl hv hd kk
theorem zg_M_22_13 {K : zCx} {w : zWd} {cc : ByteArray} {n fr lo : Nat} {σ : zSt} {lv : List (Nat × Value)} {st : List Value} {pc : Nat} (O : zOk K w cc "SluiceStreamModel" n fr lo) (hd : decode cc pc = .ok (.getfield 22, 3)) {v : Value} (hv : (zo13 w σ)[14]? = some v) (kk : Z K w σ lv (v :: st) (pc + 3)) : Z K w σ lv (.ref (zq w 13) :: st) pc := z_getf O 13 (T := zF6) (N := 39) (fs := zo13 w σ) rfl rfl zin6 14 (Nat.le_of_ble_eq_true rfl) zm750 rfl hv hd kk
theorem zp_M_25_13 {K : zCx} {w : zWd} {cc : ByteArray} {n fr lo : Nat} {σ : zSt} {lv : List (Nat × Value)} {st : List Value} {pc : Nat} (O : zOk K w cc "SluiceStreamModel" n fr lo) (hd : decode cc pc = .ok (.putfield 25, 3)) {v : Int32} (kk : Z K w (zuf σ 13 15 v) lv st (pc + 3)) : Z K w σ lv (.int v :: .ref (zq w 13) :: st) pc := z_putf O 13 (T := zF6) (N := 39) (fs := zo13 w σ) rfl rfl zin6 zY6 zYo6 zNm6 15 (Nat.le_of_ble_eq_true rfl) zm751 rfl rfl (ty := .int) rfl rfl rfl (Nat.le_of_ble_eq_true rfl) (σ' := zuf σ 13 15 v) rfl hd kk
theorem zp_M_28_13 {K : zCx} {w : zWd} {cc : ByteArray} {n fr lo : Nat} {σ : zSt} {lv : List (Nat × Value)} {st : List Value} {pc : Nat} (O : zOk K w cc "SluiceStreamModel" n fr lo) (hd : decode cc pc = .ok (.putfield 28, 3)) {v : Int32} (kk : Z K w (zuf σ 13 16 v) lv st (pc + 3)) : Z K w σ lv (.int v :: .ref (zq w 13) :: st) pc := z_putf O 13 (T := zF6) (N := 39) (fs := zo13 w σ) rfl rfl zin6 zY6 zYo6 zNm6 16 (Nat.le_of_ble_eq_true rfl) zm752 rfl rfl (ty := .int) rfl rfl rfl (Nat.le_of_ble_eq_true rfl) (σ' := zuf σ 13 16 v) rfl hd kk
theorem zp_M_124_13 {K : zCx} {w : zWd} {cc : ByteArray} {n fr lo : Nat} {σ : zSt} {lv : List (Nat × Value)} {st : List Value} {pc : Nat} (O : zOk K w cc "SluiceStreamModel" n fr lo) (hd : decode cc pc = .ok (.putfield 124, 3)) {v : Int32} (kk : Z K w (zuf σ 13 17 v) lv st (pc + 3)) : Z K w σ lv (.int v :: .ref (zq w 13) :: st) pc := z_putf O 13 (T := zF6) (N := 39) (fs := zo13 w σ) rfl rfl zin6 zY6 zYo6 zNm6 17 (Nat.le_of_ble_eq_true rfl) zm753 rfl rfl (ty := .int) rfl rfl rfl (Nat.le_of_ble_eq_true rfl) (σ' := zuf σ 13 17 v) rfl hd kk
theorem zg_M_118_13 {K : zCx} {w : zWd} {cc : ByteArray} {n fr lo : Nat} {σ : zSt} {lv : List (Nat × Value)} {st : List Value} {pc : Nat} (O : zOk K w cc "SluiceStreamModel" n fr lo) (hd : decode cc pc = .ok (.getfield 118, 3)) {v : Value} (hv : (zo13 w σ)[22]? = some v) (kk : Z K w σ lv (v :: st) (pc + 3)) : Z K w σ lv (.ref (zq w 13) :: st) pc := z_getf O 13 (T := zF6) (N := 39) (fs := zo13 w σ) rfl rfl zin6 22 (Nat.le_of_ble_eq_true rfl) zm758 rfl hv hd kk
theorem zp_M_118_13 {K : zCx} {w : zWd} {cc : ByteArray} {n fr lo : Nat} {σ : zSt} {lv : List (Nat × Value)} {st : List Value} {pc : Nat} (O : zOk K w cc "SluiceStreamModel" n fr lo) (hd : decode cc pc = .ok (.putfield 118, 3)) {v : Int32} (kk : Z K w (zuf σ 13 22 v) lv st (pc + 3)) : Z K w σ lv (.int v :: .ref (zq w 13) :: st) pc := z_putf O 13 (T := zF6) (N := 39) (fs := zo13 w σ) rfl rfl zin6 zY6 zYo6 zNm6 22 (Nat.le_of_ble_eq_true rfl) zm758 rfl rfl (ty := .int) rfl rfl rfl (Nat.le_of_ble_eq_true rfl) (σ' := zuf σ 13 22 v) rfl hd kk
theorem zp_M_96_13 {K : zCx} {w : zWd} {cc : ByteArray} {n fr lo : Nat} {σ : zSt} {lv : List (Nat × Value)} {st : List Value} {pc : Nat} (O : zOk K w cc "SluiceStreamModel" n fr lo) (hd : decode cc pc = .ok (.putfield 96, 3)) {v : Int32} (kk : Z K w (zuf σ 13 3 v) lv st (pc + 3)) : Z K w σ lv (.int v :: .ref (zq w 13) :: st) pc := z_putf O 13 (T := zF6) (N := 39) (fs := zo13 w σ) rfl rfl zin6 zY6 zYo6 zNm6 3 (Nat.le_of_ble_eq_true rfl) zm739 rfl rfl (ty := .int) rfl rfl rfl (Nat.le_of_ble_eq_true rfl) (σ' := zuf σ 13 3 v) rfl hd kk
theorem zg_M_127_13 {K : zCx} {w : zWd} {cc : ByteArray} {n fr lo : Nat} {σ : zSt} {lv : List (Nat × Value)} {st : List Value} {pc : Nat} (O : zOk K w cc "SluiceStreamModel" n fr lo) (hd : decode cc pc = .ok (.getfield 127, 3)) {v : Value} (hv : (zo13 w σ)[10]? = some v) (kk : Z K w σ lv (v :: st) (pc + 3)) : Z K w σ lv (.ref (zq w 13) :: st) pc := z_getf O 13 (T := zF6) (N := 39) (fs := zo13 w σ) rfl rfl zin6 10 (Nat.le_of_ble_eq_true rfl) zm746 rfl hv hd kk
theorem zl_M_143 : zLk "SluiceStreamModel" 143 ({ cls := "SluiceStreamModel", name := "flight", desc := "()I" } : Jvm.MethodName) prog_8_method_11_code 3 (some .int) 0 := ⟨zm928, zm7, zm931, by decide +kernel⟩
theorem zg_M_9_13 {K : zCx} {w : zWd} {cc : ByteArray} {n fr lo : Nat} {σ : zSt} {lv : List (Nat × Value)} {st : List Value} {pc : Nat} (O : zOk K w cc "SluiceStreamModel" n fr lo) (hd : decode cc pc = .ok (.getfield 9, 3)) {v : Value} (hv : (zo13 w σ)[6]? = some v) (kk : Z K w σ lv (v :: st) (pc + 3)) : Z K w σ lv (.ref (zq w 13) :: st) pc := z_getf O 13 (T := zF6) (N := 39) (fs := zo13 w σ) rfl rfl zin6 6 (Nat.le_of_ble_eq_true rfl) zm742 rfl hv hd kk
theorem zl_M_140 : zLk "SluiceStreamModel" 140 ({ cls := "SluiceStreamModel", name := "sends", desc := "(II)I" } : Jvm.MethodName) prog_8_method_15_code 3 (some .int) 2 := ⟨zm924, zm7, zm927, by decide +kernel⟩
theorem zg_M_13_13 {K : zCx} {w : zWd} {cc : ByteArray} {n fr lo : Nat} {σ : zSt} {lv : List (Nat × Value)} {st : List Value} {pc : Nat} (O : zOk K w cc "SluiceStreamModel" n fr lo) (hd : decode cc pc = .ok (.getfield 13, 3)) {v : Value} (hv : (zo13 w σ)[7]? = some v) (kk : Z K w σ lv (v :: st) (pc + 3)) : Z K w σ lv (.ref (zq w 13) :: st) pc := z_getf O 13 (T := zF6) (N := 39) (fs := zo13 w σ) rfl rfl zin6 7 (Nat.le_of_ble_eq_true rfl) zm743 rfl hv hd kk
theorem zl_M_134 : zLk "SluiceStreamModel" 134 ({ cls := "SluiceStreamModel", name := "lesser", desc := "(II)I" } : Jvm.MethodName) prog_8_method_5_code 2 (some .int) 2 := ⟨zm917, zm7, zm919, by decide +kernel⟩
theorem zl_M_137 : zLk "SluiceStreamModel" 137 ({ cls := "SluiceStreamModel", name := "markOr", desc := "(II)I" } : Jvm.MethodName) prog_8_method_13_code 4 (some .int) 2 := ⟨zm920, zm7, zm923, by decide +kernel⟩
theorem zl_M_131 : zLk "SluiceStreamModel" 131 ({ cls := "SluiceStreamModel", name := "hole", desc := "()I" } : Jvm.MethodName) prog_8_method_14_code 2 (some .int) 0 := ⟨zm909, zm7, zm912, by decide +kernel⟩
theorem zp_M_99_13 {K : zCx} {w : zWd} {cc : ByteArray} {n fr lo : Nat} {σ : zSt} {lv : List (Nat × Value)} {st : List Value} {pc : Nat} (O : zOk K w cc "SluiceStreamModel" n fr lo) (hd : decode cc pc = .ok (.putfield 99, 3)) {v : Int32} (kk : Z K w (zuf σ 13 12 v) lv st (pc + 3)) : Z K w σ lv (.int v :: .ref (zq w 13) :: st) pc := z_putf O 13 (T := zF6) (N := 39) (fs := zo13 w σ) rfl rfl zin6 zY6 zYo6 zNm6 12 (Nat.le_of_ble_eq_true rfl) zm748 rfl rfl (ty := .int) rfl rfl rfl (Nat.le_of_ble_eq_true rfl) (σ' := zuf σ 13 12 v) rfl hd kk
theorem zp_M_16_13 {K : zCx} {w : zWd} {cc : ByteArray} {n fr lo : Nat} {σ : zSt} {lv : List (Nat × Value)} {st : List Value} {pc : Nat} (O : zOk K w cc "SluiceStreamModel" n fr lo) (hd : decode cc pc = .ok (.putfield 16, 3)) {v : Int32} (kk : Z K w (zuf σ 13 8 v) lv st (pc + 3)) : Z K w σ lv (.int v :: .ref (zq w 13) :: st) pc := z_putf O 13 (T := zF6) (N := 39) (fs := zo13 w σ) rfl rfl zin6 zY6 zYo6 zNm6 8 (Nat.le_of_ble_eq_true rfl) zm744 rfl rfl (ty := .int) rfl rfl rfl (Nat.le_of_ble_eq_true rfl) (σ' := zuf σ 13 8 v) rfl hd kk
theorem zp_M_13_13 {K : zCx} {w : zWd} {cc : ByteArray} {n fr lo : Nat} {σ : zSt} {lv : List (Nat × Value)} {st : List Value} {pc : Nat} (O : zOk K w cc "SluiceStreamModel" n fr lo) (hd : decode cc pc = .ok (.putfield 13, 3)) {v : Int32} (kk : Z K w (zuf σ 13 7 v) lv st (pc + 3)) : Z K w σ lv (.int v :: .ref (zq w 13) :: st) pc := z_putf O 13 (T := zF6) (N := 39) (fs := zo13 w σ) rfl rfl zin6 zY6 zYo6 zNm6 7 (Nat.le_of_ble_eq_true rfl) zm743 rfl rfl (ty := .int) rfl rfl rfl (Nat.le_of_ble_eq_true rfl) (σ' := zuf σ 13 7 v) rfl hd kk
theorem zp_M_22_13 {K : zCx} {w : zWd} {cc : ByteArray} {n fr lo : Nat} {σ : zSt} {lv : List (Nat × Value)} {st : List Value} {pc : Nat} (O : zOk K w cc "SluiceStreamModel" n fr lo) (hd : decode cc pc = .ok (.putfield 22, 3)) {v : Int32} (kk : Z K w (zuf σ 13 14 v) lv st (pc + 3)) : Z K w σ lv (.int v :: .ref (zq w 13) :: st) pc := z_putf O 13 (T := zF6) (N := 39) (fs := zo13 w σ) rfl rfl zin6 zY6 zYo6 zNm6 14 (Nat.le_of_ble_eq_true rfl) zm750 rfl rfl (ty := .int) rfl rfl rfl (Nat.le_of_ble_eq_true rfl) (σ' := zuf σ 13 14 v) rfl hd kk
theorem zp_M_127_13 {K : zCx} {w : zWd} {cc : ByteArray} {n fr lo : Nat} {σ : zSt} {lv : List (Nat × Value)} {st : List Value} {pc : Nat} (O : zOk K w cc "SluiceStreamModel" n fr lo) (hd : decode cc pc = .ok (.putfield 127, 3)) {v : Int32} (hn : narrow .boolean (.int v) = .int v) (hf : fits .boolean (.int v) = true) (kk : Z K w (zuf σ 13 10 v) lv st (pc + 3)) : Z K w σ lv (.int v :: .ref (zq w 13) :: st) pc := z_putf O 13 (T := zF6) (N := 39) (fs := zo13 w σ) rfl rfl zin6 zY6 zYo6 zNm6 10 (Nat.le_of_ble_eq_true rfl) zm746 rfl rfl (ty := .boolean) rfl hn hf (Nat.le_of_ble_eq_true rfl) (σ' := zuf σ 13 10 v) rfl hd kk
theorem zp_M_146_13 {K : zCx} {w : zWd} {cc : ByteArray} {n fr lo : Nat} {σ : zSt} {lv : List (Nat × Value)} {st : List Value} {pc : Nat} (O : zOk K w cc "SluiceStreamModel" n fr lo) (hd : decode cc pc = .ok (.putfield 146, 3)) {v : Int32} (kk : Z K w (zuf σ 13 13 v) lv st (pc + 3)) : Z K w σ lv (.int v :: .ref (zq w 13) :: st) pc := z_putf O 13 (T := zF6) (N := 39) (fs := zo13 w σ) rfl rfl zin6 zY6 zYo6 zNm6 13 (Nat.le_of_ble_eq_true rfl) zm749 rfl rfl (ty := .int) rfl rfl rfl (Nat.le_of_ble_eq_true rfl) (σ' := zuf σ 13 13 v) rfl hd kk
theorem zp_M_121_13 {K : zCx} {w : zWd} {cc : ByteArray} {n fr lo : Nat} {σ : zSt} {lv : List (Nat × Value)} {st : List Value} {pc : Nat} (O : zOk K w cc "SluiceStreamModel" n fr lo) (hd : decode cc pc = .ok (.putfield 121, 3)) {v : Int32} (kk : Z K w (zuf σ 13 1 v) lv st (pc + 3)) : Z K w σ lv (.int v :: .ref (zq w 13) :: st) pc := z_putf O 13 (T := zF6) (N := 39) (fs := zo13 w σ) rfl rfl zin6 zY6 zYo6 zNm6 1 (Nat.le_of_ble_eq_true rfl) zm737 rfl rfl (ty := .int) rfl rfl rfl (Nat.le_of_ble_eq_true rfl) (σ' := zuf σ 13 1 v) rfl hd kk
theorem zl_M_149 : zLk "SluiceStreamModel" 149 ({ cls := "SluiceStreamModel", name := "runsOut", desc := "()V" } : Jvm.MethodName) prog_8_method_17_code 2 none 0 := ⟨zm936, zm7, zm939, by decide +kernel⟩
theorem zg_M_152_13 {K : zCx} {w : zWd} {cc : ByteArray} {n fr lo : Nat} {σ : zSt} {lv : List (Nat × Value)} {st : List Value} {pc : Nat} (O : zOk K w cc "SluiceStreamModel" n fr lo) (hd : decode cc pc = .ok (.getfield 152, 3)) {v : Value} (hv : (zo13 w σ)[20]? = some v) (kk : Z K w σ lv (v :: st) (pc + 3)) : Z K w σ lv (.ref (zq w 13) :: st) pc := z_getf O 13 (T := zF6) (N := 39) (fs := zo13 w σ) rfl rfl zin6 20 (Nat.le_of_ble_eq_true rfl) zm756 rfl hv hd kk
theorem zp_M_155_13 {K : zCx} {w : zWd} {cc : ByteArray} {n fr lo : Nat} {σ : zSt} {lv : List (Nat × Value)} {st : List Value} {pc : Nat} (O : zOk K w cc "SluiceStreamModel" n fr lo) (hd : decode cc pc = .ok (.putfield 155, 3)) {v : Int32} (kk : Z K w (zuf σ 13 18 v) lv st (pc + 3)) : Z K w σ lv (.int v :: .ref (zq w 13) :: st) pc := z_putf O 13 (T := zF6) (N := 39) (fs := zo13 w σ) rfl rfl zin6 zY6 zYo6 zNm6 18 (Nat.le_of_ble_eq_true rfl) zm754 rfl rfl (ty := .int) rfl rfl rfl (Nat.le_of_ble_eq_true rfl) (σ' := zuf σ 13 18 v) rfl hd kk
theorem zp_M_158_13 {K : zCx} {w : zWd} {cc : ByteArray} {n fr lo : Nat} {σ : zSt} {lv : List (Nat × Value)} {st : List Value} {pc : Nat} (O : zOk K w cc "SluiceStreamModel" n fr lo) (hd : decode cc pc = .ok (.putfield 158, 3)) {v : Int32} (kk : Z K w (zuf σ 13 19 v) lv st (pc + 3)) : Z K w σ lv (.int v :: .ref (zq w 13) :: st) pc := z_putf O 13 (T := zF6) (N := 39) (fs := zo13 w σ) rfl rfl zin6 zY6 zYo6 zNm6 19 (Nat.le_of_ble_eq_true rfl) zm755 rfl rfl (ty := .int) rfl rfl rfl (Nat.le_of_ble_eq_true rfl) (σ' := zuf σ 13 19 v) rfl hd kk
theorem zp_M_152_13 {K : zCx} {w : zWd} {cc : ByteArray} {n fr lo : Nat} {σ : zSt} {lv : List (Nat × Value)} {st : List Value} {pc : Nat} (O : zOk K w cc "SluiceStreamModel" n fr lo) (hd : decode cc pc = .ok (.putfield 152, 3)) {v : Int32} (hn : narrow .boolean (.int v) = .int v) (hf : fits .boolean (.int v) = true) (kk : Z K w (zuf σ 13 20 v) lv st (pc + 3)) : Z K w σ lv (.int v :: .ref (zq w 13) :: st) pc := z_putf O 13 (T := zF6) (N := 39) (fs := zo13 w σ) rfl rfl zin6 zY6 zYo6 zNm6 20 (Nat.le_of_ble_eq_true rfl) zm756 rfl rfl (ty := .boolean) rfl hn hf (Nat.le_of_ble_eq_true rfl) (σ' := zuf σ 13 20 v) rfl hd kk
theorem zg_M_155_13 {K : zCx} {w : zWd} {cc : ByteArray} {n fr lo : Nat} {σ : zSt} {lv : List (Nat × Value)} {st : List Value} {pc : Nat} (O : zOk K w cc "SluiceStreamModel" n fr lo) (hd : decode cc pc = .ok (.getfield 155, 3)) {v : Value} (hv : (zo13 w σ)[18]? = some v) (kk : Z K w σ lv (v :: st) (pc + 3)) : Z K w σ lv (.ref (zq w 13) :: st) pc := z_getf O 13 (T := zF6) (N := 39) (fs := zo13 w σ) rfl rfl zin6 18 (Nat.le_of_ble_eq_true rfl) zm754 rfl hv hd kk
theorem zg_M_158_13 {K : zCx} {w : zWd} {cc : ByteArray} {n fr lo : Nat} {σ : zSt} {lv : List (Nat × Value)} {st : List Value} {pc : Nat} (O : zOk K w cc "SluiceStreamModel" n fr lo) (hd : decode cc pc = .ok (.getfield 158, 3)) {v : Value} (hv : (zo13 w σ)[19]? = some v) (kk : Z K w σ lv (v :: st) (pc + 3)) : Z K w σ lv (.ref (zq w 13) :: st) pc := z_getf O 13 (T := zF6) (N := 39) (fs := zo13 w σ) rfl rfl zin6 19 (Nat.le_of_ble_eq_true rfl) zm755 rfl hv hd kk
theorem zp_M_93_13 {K : zCx} {w : zWd} {cc : ByteArray} {n fr lo : Nat} {σ : zSt} {lv : List (Nat × Value)} {st : List Value} {pc : Nat} (O : zOk K w cc "SluiceStreamModel" n fr lo) (hd : decode cc pc = .ok (.putfield 93, 3)) {v : Int32} (kk : Z K w (zuf σ 13 2 v) lv st (pc + 3)) : Z K w σ lv (.int v :: .ref (zq w 13) :: st) pc := z_putf O 13 (T := zF6) (N := 39) (fs := zo13 w σ) rfl rfl zin6 zY6 zYo6 zNm6 2 (Nat.le_of_ble_eq_true rfl) zm738 rfl rfl (ty := .int) rfl rfl rfl (Nat.le_of_ble_eq_true rfl) (σ' := zuf σ 13 2 v) rfl hd kk
theorem zg_M_165_13 {K : zCx} {w : zWd} {cc : ByteArray} {n fr lo : Nat} {σ : zSt} {lv : List (Nat × Value)} {st : List Value} {pc : Nat} (O : zOk K w cc "SluiceStreamModel" n fr lo) (hd : decode cc pc = .ok (.getfield 165, 3)) {v : Value} (hv : (zo13 w σ)[11]? = some v) (kk : Z K w σ lv (v :: st) (pc + 3)) : Z K w σ lv (.ref (zq w 13) :: st) pc := z_getf O 13 (T := zF6) (N := 39) (fs := zo13 w σ) rfl rfl zin6 11 (Nat.le_of_ble_eq_true rfl) zm747 rfl hv hd kk
theorem zg_M_16_13 {K : zCx} {w : zWd} {cc : ByteArray} {n fr lo : Nat} {σ : zSt} {lv : List (Nat × Value)} {st : List Value} {pc : Nat} (O : zOk K w cc "SluiceStreamModel" n fr lo) (hd : decode cc pc = .ok (.getfield 16, 3)) {v : Value} (hv : (zo13 w σ)[8]? = some v) (kk : Z K w σ lv (v :: st) (pc + 3)) : Z K w σ lv (.ref (zq w 13) :: st) pc := z_getf O 13 (T := zF6) (N := 39) (fs := zo13 w σ) rfl rfl zin6 8 (Nat.le_of_ble_eq_true rfl) zm744 rfl hv hd kk
theorem zg_M_124_13 {K : zCx} {w : zWd} {cc : ByteArray} {n fr lo : Nat} {σ : zSt} {lv : List (Nat × Value)} {st : List Value} {pc : Nat} (O : zOk K w cc "SluiceStreamModel" n fr lo) (hd : decode cc pc = .ok (.getfield 124, 3)) {v : Value} (hv : (zo13 w σ)[17]? = some v) (kk : Z K w σ lv (v :: st) (pc + 3)) : Z K w σ lv (.ref (zq w 13) :: st) pc := z_getf O 13 (T := zF6) (N := 39) (fs := zo13 w σ) rfl rfl zin6 17 (Nat.le_of_ble_eq_true rfl) zm753 rfl hv hd kk
theorem zl_M_161 : zLk "SluiceStreamModel" 161 ({ cls := "SluiceStreamModel", name := "samples", desc := "(I)V" } : Jvm.MethodName) prog_8_method_19_code 3 none 1 := ⟨zm976, zm7, zm979, by decide +kernel⟩
theorem zp_M_165_13 {K : zCx} {w : zWd} {cc : ByteArray} {n fr lo : Nat} {σ : zSt} {lv : List (Nat × Value)} {st : List Value} {pc : Nat} (O : zOk K w cc "SluiceStreamModel" n fr lo) (hd : decode cc pc = .ok (.putfield 165, 3)) {v : Int32} (kk : Z K w (zuf σ 13 11 v) lv st (pc + 3)) : Z K w σ lv (.int v :: .ref (zq w 13) :: st) pc := z_putf O 13 (T := zF6) (N := 39) (fs := zo13 w σ) rfl rfl zin6 zY6 zYo6 zNm6 11 (Nat.le_of_ble_eq_true rfl) zm747 rfl rfl (ty := .int) rfl rfl rfl (Nat.le_of_ble_eq_true rfl) (σ' := zuf σ 13 11 v) rfl hd kk
theorem zp_M_9_13 {K : zCx} {w : zWd} {cc : ByteArray} {n fr lo : Nat} {σ : zSt} {lv : List (Nat × Value)} {st : List Value} {pc : Nat} (O : zOk K w cc "SluiceStreamModel" n fr lo) (hd : decode cc pc = .ok (.putfield 9, 3)) {v : Int32} (kk : Z K w (zuf σ 13 6 v) lv st (pc + 3)) : Z K w σ lv (.int v :: .ref (zq w 13) :: st) pc := z_putf O 13 (T := zF6) (N := 39) (fs := zo13 w σ) rfl rfl zin6 zY6 zYo6 zNm6 6 (Nat.le_of_ble_eq_true rfl) zm742 rfl rfl (ty := .int) rfl rfl rfl (Nat.le_of_ble_eq_true rfl) (σ' := zuf σ 13 6 v) rfl hd kk
theorem zg_M_146_13 {K : zCx} {w : zWd} {cc : ByteArray} {n fr lo : Nat} {σ : zSt} {lv : List (Nat × Value)} {st : List Value} {pc : Nat} (O : zOk K w cc "SluiceStreamModel" n fr lo) (hd : decode cc pc = .ok (.getfield 146, 3)) {v : Value} (hv : (zo13 w σ)[13]? = some v) (kk : Z K w σ lv (v :: st) (pc + 3)) : Z K w σ lv (.ref (zq w 13) :: st) pc := z_getf O 13 (T := zF6) (N := 39) (fs := zo13 w σ) rfl rfl zin6 13 (Nat.le_of_ble_eq_true rfl) zm749 rfl hv hd kk
theorem zl_M_171 : zLk "SluiceStreamModel" 171 ({ cls := "SluiceStreamModel", name := "recovers", desc := "()V" } : Jvm.MethodName) prog_8_method_21_code 1 none 0 := ⟨zm980, zm7, zm983, by decide +kernel⟩
theorem zl_M_168 : zLk "SluiceStreamModel" 168 ({ cls := "SluiceStreamModel", name := "advances", desc := "(I)V" } : Jvm.MethodName) prog_8_method_20_code 3 none 1 := ⟨zm972, zm7, zm975, by decide +kernel⟩
theorem zl_M_193 : zLk "SluiceStreamModel" 193 ({ cls := "SluiceStreamModel", name := "isSegment", desc := "(I)Z" } : Jvm.MethodName) prog_8_method_28_code 2 (some .boolean) 1 := ⟨zm944, zm7, zm947, by decide +kernel⟩
theorem zp_M_180_13 {K : zCx} {w : zWd} {cc : ByteArray} {n fr lo : Nat} {σ : zSt} {lv : List (Nat × Value)} {st : List Value} {pc : Nat} (O : zOk K w cc "SluiceStreamModel" n fr lo) (hd : decode cc pc = .ok (.putfield 180, 3)) {v : Int32} (kk : Z K w (zuf σ 13 27 v) lv st (pc + 3)) : Z K w σ lv (.int v :: .ref (zq w 13) :: st) pc := z_putf O 13 (T := zF6) (N := 39) (fs := zo13 w σ) rfl rfl zin6 zY6 zYo6 zNm6 27 (Nat.le_of_ble_eq_true rfl) zm763 rfl rfl (ty := .int) rfl rfl rfl (Nat.le_of_ble_eq_true rfl) (σ' := zuf σ 13 27 v) rfl hd kk
theorem zp_M_83_13 {K : zCx} {w : zWd} {cc : ByteArray} {n fr lo : Nat} {σ : zSt} {lv : List (Nat × Value)} {st : List Value} {pc : Nat} (O : zOk K w cc "SluiceStreamModel" n fr lo) (hd : decode cc pc = .ok (.putfield 83, 3)) {v : Int32} (kk : Z K w (zuf σ 13 28 v) lv st (pc + 3)) : Z K w σ lv (.int v :: .ref (zq w 13) :: st) pc := z_putf O 13 (T := zF6) (N := 39) (fs := zo13 w σ) rfl rfl zin6 zY6 zYo6 zNm6 28 (Nat.le_of_ble_eq_true rfl) zm764 rfl rfl (ty := .int) rfl rfl rfl (Nat.le_of_ble_eq_true rfl) (σ' := zuf σ 13 28 v) rfl hd kk
theorem zl_M_196 : zLk "SluiceStreamModel" 196 ({ cls := "SluiceStreamModel", name := "takes", desc := "(I)V" } : Jvm.MethodName) prog_8_method_30_code 3 none 1 := ⟨zm948, zm7, zm951, by decide +kernel⟩
theorem zl_M_199 : zLk "SluiceStreamModel" 199 ({ cls := "SluiceStreamModel", name := "isAck", desc := "(I)Z" } : Jvm.MethodName) prog_8_method_29_code 2 (some .boolean) 1 := ⟨zm964, zm7, zm967, by decide +kernel⟩
theorem zl_M_202 : zLk "SluiceStreamModel" 202 ({ cls := "SluiceStreamModel", name := "arrives", desc := "(I)V" } : Jvm.MethodName) prog_8_method_22_code 6 none 1 := ⟨zm968, zm7, zm971, by decide +kernel⟩
theorem zl_M_205 : zLk "SluiceStreamModel" 205 ({ cls := "SluiceStreamModel", name := "startOfBlock", desc := "(I)I" } : Jvm.MethodName) prog_8_method_66_code 4 (some .int) 1 := ⟨zm1116, zm7, zm1119, by decide +kernel⟩
theorem zin5 : ∀ x ∈ u_ws "SluiceStream" zF5 5, x ∈ zT := by
  rw [show u_ws "SluiceStream" zF5 5 = [(Jvm.Cond.laysFinal "SluiceStream" "SluiceStream" "values" "[I"), (Jvm.Cond.laysFinal "SluiceStream" "SluiceStream" "sender" "LSluiceStream$Sender;"), (Jvm.Cond.laysFinal "SluiceStream" "SluiceStream" "receiver" "LSluiceStream$Receiver;"), (Jvm.Cond.laysFinal "SluiceStream" "SluiceStream" "segmentList" "LSluiceStream$Rows;"), (Jvm.Cond.laysFinal "SluiceStream" "SluiceStream" "ackList" "LSluiceStream$Rows;")] from by decide +kernel]
  exact List.forall_mem_cons.mpr ⟨zm182, List.forall_mem_cons.mpr ⟨zm184, List.forall_mem_cons.mpr ⟨zm186, List.forall_mem_cons.mpr ⟨zm188, List.forall_mem_cons.mpr ⟨zm190, fun _ h => absurd h List.not_mem_nil⟩⟩⟩⟩⟩
theorem zg_X_23_0 {K : zCx} {w : zWd} {cc : ByteArray} {n fr lo : Nat} {σ : zSt} {lv : List (Nat × Value)} {st : List Value} {pc : Nat} (O : zOk K w cc "SluiceStream" n fr lo) (hd : decode cc pc = .ok (.getfield 23, 3)) {v : Value} (hv : (zo0 w σ)[2]? = some v) (kk : Z K w σ lv (v :: st) (pc + 3)) : Z K w σ lv (.ref (zq w 0) :: st) pc := z_getf O 0 (T := zF5) (N := 5) (fs := zo0 w σ) rfl rfl zin5 2 (Nat.le_of_ble_eq_true rfl) zm179 rfl hv hd kk
theorem zg_X_49_6 {K : zCx} {w : zWd} {cc : ByteArray} {n fr lo : Nat} {σ : zSt} {lv : List (Nat × Value)} {st : List Value} {pc : Nat} (O : zOk K w cc "SluiceStream" n fr lo) (hd : decode cc pc = .ok (.getfield 49, 3)) {v : Value} (hv : (zo6 w σ)[3]? = some v) (kk : Z K w σ lv (v :: st) (pc + 3)) : Z K w σ lv (.ref (zq w 6) :: st) pc := z_getf O 6 (T := zF1) (N := 4) (fs := zo6 w σ) rfl rfl zin1 3 (Nat.le_of_ble_eq_true rfl) zm150 rfl hv hd kk
theorem zg_X_52_6 {K : zCx} {w : zWd} {cc : ByteArray} {n fr lo : Nat} {σ : zSt} {lv : List (Nat × Value)} {st : List Value} {pc : Nat} (O : zOk K w cc "SluiceStream" n fr lo) (hd : decode cc pc = .ok (.getfield 52, 3)) {v : Value} (hv : (zo6 w σ)[2]? = some v) (kk : Z K w σ lv (v :: st) (pc + 3)) : Z K w σ lv (.ref (zq w 6) :: st) pc := z_getf O 6 (T := zF1) (N := 4) (fs := zo6 w σ) rfl rfl zin1 2 (Nat.le_of_ble_eq_true rfl) zm148 rfl hv hd kk
theorem zg_X_9_0 {K : zCx} {w : zWd} {cc : ByteArray} {n fr lo : Nat} {σ : zSt} {lv : List (Nat × Value)} {st : List Value} {pc : Nat} (O : zOk K w cc "SluiceStream" n fr lo) (hd : decode cc pc = .ok (.getfield 9, 3)) {v : Value} (hv : (zo0 w σ)[0]? = some v) (kk : Z K w σ lv (v :: st) (pc + 3)) : Z K w σ lv (.ref (zq w 0) :: st) pc := z_getf O 0 (T := zF5) (N := 5) (fs := zo0 w σ) rfl rfl zin5 0 (Nat.le_of_ble_eq_true rfl) zm177 rfl hv hd kk
theorem zl_X_55 : zLk "SluiceStream" 55 ({ cls := "SluiceStream$Receiver", name := "passByte", desc := "()Z" } : Jvm.MethodName) prog_3_method_4_code 2 (some .boolean) 0 := ⟨zm197, zm5, zm200, by decide +kernel⟩
theorem zg_X_36_0 {K : zCx} {w : zWd} {cc : ByteArray} {n fr lo : Nat} {σ : zSt} {lv : List (Nat × Value)} {st : List Value} {pc : Nat} (O : zOk K w cc "SluiceStream" n fr lo) (hd : decode cc pc = .ok (.getfield 36, 3)) {v : Value} (hv : (zo0 w σ)[4]? = some v) (kk : Z K w σ lv (v :: st) (pc + 3)) : Z K w σ lv (.ref (zq w 0) :: st) pc := z_getf O 0 (T := zF5) (N := 5) (fs := zo0 w σ) rfl rfl zin5 4 (Nat.le_of_ble_eq_true rfl) zm181 rfl hv hd kk
theorem zl_X_59 : zLk "SluiceStream" 59 ({ cls := "SluiceStream$Receiver", name := "makeAck", desc := "(LSluiceStream$Rows;)V" } : Jvm.MethodName) prog_3_method_5_code 3 none 1 := ⟨zm205, zm5, zm208, by decide +kernel⟩
theorem zg_X_32_0 {K : zCx} {w : zWd} {cc : ByteArray} {n fr lo : Nat} {σ : zSt} {lv : List (Nat × Value)} {st : List Value} {pc : Nat} (O : zOk K w cc "SluiceStream" n fr lo) (hd : decode cc pc = .ok (.getfield 32, 3)) {v : Value} (hv : (zo0 w σ)[3]? = some v) (kk : Z K w σ lv (v :: st) (pc + 3)) : Z K w σ lv (.ref (zq w 0) :: st) pc := z_getf O 0 (T := zF5) (N := 5) (fs := zo0 w σ) rfl rfl zin5 3 (Nat.le_of_ble_eq_true rfl) zm180 rfl hv hd kk
theorem zg_X_103_9 {K : zCx} {w : zWd} {cc : ByteArray} {n fr lo : Nat} {σ : zSt} {lv : List (Nat × Value)} {st : List Value} {pc : Nat} (O : zOk K w cc "SluiceStream" n fr lo) (hd : decode cc pc = .ok (.getfield 103, 3)) {v : Value} (hv : (zo9 w σ)[2]? = some v) (kk : Z K w σ lv (v :: st) (pc + 3)) : Z K w σ lv (.ref (zq w 9) :: st) pc := z_getf O 9 (T := zF2) (N := 3) (fs := zo9 w σ) rfl rfl zin2 2 (Nat.le_of_ble_eq_true rfl) zm169 rfl hv hd kk
theorem zg_X_103_11 {K : zCx} {w : zWd} {cc : ByteArray} {n fr lo : Nat} {σ : zSt} {lv : List (Nat × Value)} {st : List Value} {pc : Nat} (O : zOk K w cc "SluiceStream" n fr lo) (hd : decode cc pc = .ok (.getfield 103, 3)) {v : Value} (hv : (zo11 w σ)[2]? = some v) (kk : Z K w σ lv (v :: st) (pc + 3)) : Z K w σ lv (.ref (zq w 11) :: st) pc := z_getf O 11 (T := zF2) (N := 3) (fs := zo11 w σ) rfl rfl zin2 2 (Nat.le_of_ble_eq_true rfl) zm169 rfl hv hd kk
theorem zg_X_16_0 {K : zCx} {w : zWd} {cc : ByteArray} {n fr lo : Nat} {σ : zSt} {lv : List (Nat × Value)} {st : List Value} {pc : Nat} (O : zOk K w cc "SluiceStream" n fr lo) (hd : decode cc pc = .ok (.getfield 16, 3)) {v : Value} (hv : (zo0 w σ)[1]? = some v) (kk : Z K w σ lv (v :: st) (pc + 3)) : Z K w σ lv (.ref (zq w 0) :: st) pc := z_getf O 0 (T := zF5) (N := 5) (fs := zo0 w σ) rfl rfl zin5 1 (Nat.le_of_ble_eq_true rfl) zm178 rfl hv hd kk
theorem zg_X_110_2 {K : zCx} {w : zWd} {cc : ByteArray} {n fr lo : Nat} {σ : zSt} {lv : List (Nat × Value)} {st : List Value} {pc : Nat} (O : zOk K w cc "SluiceStream" n fr lo) (hd : decode cc pc = .ok (.getfield 110, 3)) {v : Value} (hv : (zo2 w σ)[1]? = some v) (kk : Z K w σ lv (v :: st) (pc + 3)) : Z K w σ lv (.ref (zq w 2) :: st) pc := z_getf O 2 (T := zF3) (N := 15) (fs := zo2 w σ) rfl rfl zin3 1 (Nat.le_of_ble_eq_true rfl) zm80 rfl hv hd kk
theorem zg_X_114_5 {K : zCx} {w : zWd} {cc : ByteArray} {n fr lo : Nat} {σ : zSt} {lv : List (Nat × Value)} {st : List Value} {pc : Nat} (O : zOk K w cc "SluiceStream" n fr lo) (hd : decode cc pc = .ok (.getfield 114, 3)) {v : Value} (hv : (zo5 w σ)[0]? = some v) (kk : Z K w σ lv (v :: st) (pc + 3)) : Z K w σ lv (.ref (zq w 5) :: st) pc := z_getf O 5 (T := zF4) (N := 8) (fs := zo5 w σ) rfl rfl zin4 0 (Nat.le_of_ble_eq_true rfl) zm47 rfl hv hd kk
theorem zg_X_119_2 {K : zCx} {w : zWd} {cc : ByteArray} {n fr lo : Nat} {σ : zSt} {lv : List (Nat × Value)} {st : List Value} {pc : Nat} (O : zOk K w cc "SluiceStream" n fr lo) (hd : decode cc pc = .ok (.getfield 119, 3)) {v : Value} (hv : (zo2 w σ)[2]? = some v) (kk : Z K w σ lv (v :: st) (pc + 3)) : Z K w σ lv (.ref (zq w 2) :: st) pc := z_getf O 2 (T := zF3) (N := 15) (fs := zo2 w σ) rfl rfl zin3 2 (Nat.le_of_ble_eq_true rfl) zm82 rfl hv hd kk
theorem zg_X_122_2 {K : zCx} {w : zWd} {cc : ByteArray} {n fr lo : Nat} {σ : zSt} {lv : List (Nat × Value)} {st : List Value} {pc : Nat} (O : zOk K w cc "SluiceStream" n fr lo) (hd : decode cc pc = .ok (.getfield 122, 3)) {v : Value} (hv : (zo2 w σ)[3]? = some v) (kk : Z K w σ lv (v :: st) (pc + 3)) : Z K w σ lv (.ref (zq w 2) :: st) pc := z_getf O 2 (T := zF3) (N := 15) (fs := zo2 w σ) rfl rfl zin3 3 (Nat.le_of_ble_eq_true rfl) zm84 rfl hv hd kk
theorem zg_X_125_2 {K : zCx} {w : zWd} {cc : ByteArray} {n fr lo : Nat} {σ : zSt} {lv : List (Nat × Value)} {st : List Value} {pc : Nat} (O : zOk K w cc "SluiceStream" n fr lo) (hd : decode cc pc = .ok (.getfield 125, 3)) {v : Value} (hv : (zo2 w σ)[4]? = some v) (kk : Z K w σ lv (v :: st) (pc + 3)) : Z K w σ lv (.ref (zq w 2) :: st) pc := z_getf O 2 (T := zF3) (N := 15) (fs := zo2 w σ) rfl rfl zin3 4 (Nat.le_of_ble_eq_true rfl) zm86 rfl hv hd kk
theorem zg_X_42_2 {K : zCx} {w : zWd} {cc : ByteArray} {n fr lo : Nat} {σ : zSt} {lv : List (Nat × Value)} {st : List Value} {pc : Nat} (O : zOk K w cc "SluiceStream" n fr lo) (hd : decode cc pc = .ok (.getfield 42, 3)) {v : Value} (hv : (zo2 w σ)[5]? = some v) (kk : Z K w σ lv (v :: st) (pc + 3)) : Z K w σ lv (.ref (zq w 2) :: st) pc := z_getf O 2 (T := zF3) (N := 15) (fs := zo2 w σ) rfl rfl zin3 5 (Nat.le_of_ble_eq_true rfl) zm88 rfl hv hd kk
theorem zg_X_128_2 {K : zCx} {w : zWd} {cc : ByteArray} {n fr lo : Nat} {σ : zSt} {lv : List (Nat × Value)} {st : List Value} {pc : Nat} (O : zOk K w cc "SluiceStream" n fr lo) (hd : decode cc pc = .ok (.getfield 128, 3)) {v : Value} (hv : (zo2 w σ)[6]? = some v) (kk : Z K w σ lv (v :: st) (pc + 3)) : Z K w σ lv (.ref (zq w 2) :: st) pc := z_getf O 2 (T := zF3) (N := 15) (fs := zo2 w σ) rfl rfl zin3 6 (Nat.le_of_ble_eq_true rfl) zm90 rfl hv hd kk
theorem zl_X_131 : zLk "SluiceStream" 131 ({ cls := "SluiceStream$Sender", name := "countFlying", desc := "()I" } : Jvm.MethodName) prog_5_method_2_code 1 (some .int) 0 := ⟨zm300, zm2, zm303, by decide +kernel⟩
theorem zg_X_143_2 {K : zCx} {w : zWd} {cc : ByteArray} {n fr lo : Nat} {σ : zSt} {lv : List (Nat × Value)} {st : List Value} {pc : Nat} (O : zOk K w cc "SluiceStream" n fr lo) (hd : decode cc pc = .ok (.getfield 143, 3)) {v : Value} (hv : (zo2 w σ)[7]? = some v) (kk : Z K w σ lv (v :: st) (pc + 3)) : Z K w σ lv (.ref (zq w 2) :: st) pc := z_getf O 2 (T := zF3) (N := 15) (fs := zo2 w σ) rfl rfl zin3 7 (Nat.le_of_ble_eq_true rfl) zm92 rfl hv hd kk
theorem zg_X_146_2 {K : zCx} {w : zWd} {cc : ByteArray} {n fr lo : Nat} {σ : zSt} {lv : List (Nat × Value)} {st : List Value} {pc : Nat} (O : zOk K w cc "SluiceStream" n fr lo) (hd : decode cc pc = .ok (.getfield 146, 3)) {v : Value} (hv : (zo2 w σ)[8]? = some v) (kk : Z K w σ lv (v :: st) (pc + 3)) : Z K w σ lv (.ref (zq w 2) :: st) pc := z_getf O 2 (T := zF3) (N := 15) (fs := zo2 w σ) rfl rfl zin3 8 (Nat.le_of_ble_eq_true rfl) zm94 rfl hv hd kk
theorem zg_X_149_2 {K : zCx} {w : zWd} {cc : ByteArray} {n fr lo : Nat} {σ : zSt} {lv : List (Nat × Value)} {st : List Value} {pc : Nat} (O : zOk K w cc "SluiceStream" n fr lo) (hd : decode cc pc = .ok (.getfield 149, 3)) {v : Value} (hv : (zo2 w σ)[10]? = some v) (kk : Z K w σ lv (v :: st) (pc + 3)) : Z K w σ lv (.ref (zq w 2) :: st) pc := z_getf O 2 (T := zF3) (N := 15) (fs := zo2 w σ) rfl rfl zin3 10 (Nat.le_of_ble_eq_true rfl) zm98 rfl hv hd kk
theorem zg_X_152_2 {K : zCx} {w : zWd} {cc : ByteArray} {n fr lo : Nat} {σ : zSt} {lv : List (Nat × Value)} {st : List Value} {pc : Nat} (O : zOk K w cc "SluiceStream" n fr lo) (hd : decode cc pc = .ok (.getfield 152, 3)) {v : Value} (hv : (zo2 w σ)[11]? = some v) (kk : Z K w σ lv (v :: st) (pc + 3)) : Z K w σ lv (.ref (zq w 2) :: st) pc := z_getf O 2 (T := zF3) (N := 15) (fs := zo2 w σ) rfl rfl zin3 11 (Nat.le_of_ble_eq_true rfl) zm100 rfl hv hd kk
theorem zg_X_155_5 {K : zCx} {w : zWd} {cc : ByteArray} {n fr lo : Nat} {σ : zSt} {lv : List (Nat × Value)} {st : List Value} {pc : Nat} (O : zOk K w cc "SluiceStream" n fr lo) (hd : decode cc pc = .ok (.getfield 155, 3)) {v : Value} (hv : (zo5 w σ)[1]? = some v) (kk : Z K w σ lv (v :: st) (pc + 3)) : Z K w σ lv (.ref (zq w 5) :: st) pc := z_getf O 5 (T := zF4) (N := 8) (fs := zo5 w σ) rfl rfl zin4 1 (Nat.le_of_ble_eq_true rfl) zm49 rfl hv hd kk
theorem zg_X_158_5 {K : zCx} {w : zWd} {cc : ByteArray} {n fr lo : Nat} {σ : zSt} {lv : List (Nat × Value)} {st : List Value} {pc : Nat} (O : zOk K w cc "SluiceStream" n fr lo) (hd : decode cc pc = .ok (.getfield 158, 3)) {v : Value} (hv : (zo5 w σ)[2]? = some v) (kk : Z K w σ lv (v :: st) (pc + 3)) : Z K w σ lv (.ref (zq w 5) :: st) pc := z_getf O 5 (T := zF4) (N := 8) (fs := zo5 w σ) rfl rfl zin4 2 (Nat.le_of_ble_eq_true rfl) zm51 rfl hv hd kk
theorem zg_X_161_5 {K : zCx} {w : zWd} {cc : ByteArray} {n fr lo : Nat} {σ : zSt} {lv : List (Nat × Value)} {st : List Value} {pc : Nat} (O : zOk K w cc "SluiceStream" n fr lo) (hd : decode cc pc = .ok (.getfield 161, 3)) {v : Value} (hv : (zo5 w σ)[4]? = some v) (kk : Z K w σ lv (v :: st) (pc + 3)) : Z K w σ lv (.ref (zq w 5) :: st) pc := z_getf O 5 (T := zF4) (N := 8) (fs := zo5 w σ) rfl rfl zin4 4 (Nat.le_of_ble_eq_true rfl) zm55 rfl hv hd kk
theorem zg_X_164_5 {K : zCx} {w : zWd} {cc : ByteArray} {n fr lo : Nat} {σ : zSt} {lv : List (Nat × Value)} {st : List Value} {pc : Nat} (O : zOk K w cc "SluiceStream" n fr lo) (hd : decode cc pc = .ok (.getfield 164, 3)) {v : Value} (hv : (zo5 w σ)[5]? = some v) (kk : Z K w σ lv (v :: st) (pc + 3)) : Z K w σ lv (.ref (zq w 5) :: st) pc := z_getf O 5 (T := zF4) (N := 8) (fs := zo5 w σ) rfl rfl zin4 5 (Nat.le_of_ble_eq_true rfl) zm57 rfl hv hd kk
theorem zg_X_167_5 {K : zCx} {w : zWd} {cc : ByteArray} {n fr lo : Nat} {σ : zSt} {lv : List (Nat × Value)} {st : List Value} {pc : Nat} (O : zOk K w cc "SluiceStream" n fr lo) (hd : decode cc pc = .ok (.getfield 167, 3)) {v : Value} (hv : (zo5 w σ)[3]? = some v) (kk : Z K w σ lv (v :: st) (pc + 3)) : Z K w σ lv (.ref (zq w 5) :: st) pc := z_getf O 5 (T := zF4) (N := 8) (fs := zo5 w σ) rfl rfl zin4 3 (Nat.le_of_ble_eq_true rfl) zm53 rfl hv hd kk
theorem zg_X_170_2 {K : zCx} {w : zWd} {cc : ByteArray} {n fr lo : Nat} {σ : zSt} {lv : List (Nat × Value)} {st : List Value} {pc : Nat} (O : zOk K w cc "SluiceStream" n fr lo) (hd : decode cc pc = .ok (.getfield 170, 3)) {v : Value} (hv : (zo2 w σ)[13]? = some v) (kk : Z K w σ lv (v :: st) (pc + 3)) : Z K w σ lv (.ref (zq w 2) :: st) pc := z_getf O 2 (T := zF3) (N := 15) (fs := zo2 w σ) rfl rfl zin3 13 (Nat.le_of_ble_eq_true rfl) zm103 rfl hv hd kk
theorem zg_X_173_2 {K : zCx} {w : zWd} {cc : ByteArray} {n fr lo : Nat} {σ : zSt} {lv : List (Nat × Value)} {st : List Value} {pc : Nat} (O : zOk K w cc "SluiceStream" n fr lo) (hd : decode cc pc = .ok (.getfield 173, 3)) {v : Value} (hv : (zo2 w σ)[14]? = some v) (kk : Z K w σ lv (v :: st) (pc + 3)) : Z K w σ lv (.ref (zq w 2) :: st) pc := z_getf O 2 (T := zF3) (N := 15) (fs := zo2 w σ) rfl rfl zin3 14 (Nat.le_of_ble_eq_true rfl) zm105 rfl hv hd kk
theorem zl_X_176 : zLk "SluiceStream" 176 ({ cls := "SluiceStream$Receiver", name := "room", desc := "()I" } : Jvm.MethodName) prog_3_method_2_code 1 (some .int) 0 := ⟨zm364, zm5, zm204, by decide +kernel⟩
theorem zl_X_179 : zLk "SluiceStream" 179 ({ cls := "SluiceStream$Receiver", name := "countBlocks", desc := "()I" } : Jvm.MethodName) prog_3_method_8_code 4 (some .int) 0 := ⟨zm369, zm5, zm372, by decide +kernel⟩
theorem zd_P_at_0 : decode prog_2_method_2_code 0 = .ok (.iload_n 1, 1) := by decide +kernel
theorem zd_P_at_1 : decode prog_2_method_2_code 1 = .ok (.ifCond .lt 21, 3) := by decide +kernel
theorem zd_P_at_22 : decode prog_2_method_2_code 22 = .ok (.iconst 0, 1) := by decide +kernel
theorem zd_P_at_23 : decode prog_2_method_2_code 23 = .ok (.ireturn, 1) := by decide +kernel
theorem zd_P_at_4 : decode prog_2_method_2_code 4 = .ok (.iload_n 1, 1) := by decide +kernel
theorem zd_P_at_5 : decode prog_2_method_2_code 5 = .ok (.aload_n 0, 1) := by decide +kernel
theorem zd_P_at_6 : decode prog_2_method_2_code 6 = .ok (.getfield 9, 3) := by decide +kernel
theorem zd_P_at_9 : decode prog_2_method_2_code 9 = .ok (.arraylength, 1) := by decide +kernel
theorem zd_P_at_10 : decode prog_2_method_2_code 10 = .ok (.if_icmp .ge 12, 3) := by decide +kernel
theorem zd_P_at_13 : decode prog_2_method_2_code 13 = .ok (.aload_n 0, 1) := by decide +kernel
theorem zd_P_at_14 : decode prog_2_method_2_code 14 = .ok (.getfield 9, 3) := by decide +kernel
theorem zd_P_at_17 : decode prog_2_method_2_code 17 = .ok (.iload_n 1, 1) := by decide +kernel
theorem zd_P_at_18 : decode prog_2_method_2_code 18 = .ok (.iaload, 1) := by decide +kernel
theorem zd_P_at_19 : decode prog_2_method_2_code 19 = .ok (.goto 4, 3) := by decide +kernel
theorem zd_P_fillEmpty_10 : decode prog_2_method_3_code 10 = .ok (.iload 5, 2) := by decide +kernel
theorem zd_P_fillEmpty_12 : decode prog_2_method_3_code 12 = .ok (.iload_n 2, 1) := by decide +kernel
theorem zd_P_fillEmpty_13 : decode prog_2_method_3_code 13 = .ok (.if_icmp .ge 40, 3) := by decide +kernel
theorem zd_P_fillEmpty_16 : decode prog_2_method_3_code 16 = .ok (.iload 5, 2) := by decide +kernel
theorem zd_P_fillEmpty_18 : decode prog_2_method_3_code 18 = .ok (.aload_n 0, 1) := by decide +kernel
theorem zd_P_fillEmpty_19 : decode prog_2_method_3_code 19 = .ok (.getfield 9, 3) := by decide +kernel
theorem zd_P_fillEmpty_22 : decode prog_2_method_3_code 22 = .ok (.arraylength, 1) := by decide +kernel
theorem zd_P_fillEmpty_23 : decode prog_2_method_3_code 23 = .ok (.if_icmp .ge 30, 3) := by decide +kernel
theorem zd_P_fillEmpty_26 : decode prog_2_method_3_code 26 = .ok (.aload_n 0, 1) := by decide +kernel
theorem zd_P_fillEmpty_27 : decode prog_2_method_3_code 27 = .ok (.getfield 9, 3) := by decide +kernel
theorem zd_P_fillEmpty_30 : decode prog_2_method_3_code 30 = .ok (.iload 5, 2) := by decide +kernel
theorem zd_P_fillEmpty_32 : decode prog_2_method_3_code 32 = .ok (.iaload, 1) := by decide +kernel
theorem zd_P_fillEmpty_33 : decode prog_2_method_3_code 33 = .ok (.ifCond .ne 14, 3) := by decide +kernel
theorem zd_P_fillEmpty_47 : decode prog_2_method_3_code 47 = .ok (.iinc 5 1, 3) := by decide +kernel
theorem zd_P_fillEmpty_50 : decode prog_2_method_3_code 50 = .ok (.goto (-40), 3) := by decide +kernel
theorem zd_P_fillEmpty_36 : decode prog_2_method_3_code 36 = .ok (.aload_n 0, 1) := by decide +kernel
theorem zd_P_fillEmpty_37 : decode prog_2_method_3_code 37 = .ok (.getfield 9, 3) := by decide +kernel
theorem zd_P_fillEmpty_40 : decode prog_2_method_3_code 40 = .ok (.iload 5, 2) := by decide +kernel
theorem zd_P_fillEmpty_42 : decode prog_2_method_3_code 42 = .ok (.iload_n 3, 1) := by decide +kernel
theorem zd_P_fillEmpty_43 : decode prog_2_method_3_code 43 = .ok (.iastore, 1) := by decide +kernel
theorem zd_P_fillEmpty_44 : decode prog_2_method_3_code 44 = .ok (.iinc 4 1, 3) := by decide +kernel
theorem zd_P_fillEmpty_0 : decode prog_2_method_3_code 0 = .ok (.iconst 0, 1) := by decide +kernel
theorem zd_P_fillEmpty_1 : decode prog_2_method_3_code 1 = .ok (.istore 4, 2) := by decide +kernel
theorem zd_P_fillEmpty_3 : decode prog_2_method_3_code 3 = .ok (.iload_n 1, 1) := by decide +kernel
theorem zd_P_fillEmpty_4 : decode prog_2_method_3_code 4 = .ok (.iconst 0, 1) := by decide +kernel
theorem zd_P_fillEmpty_5 : decode prog_2_method_3_code 5 = .ok (.invokestatic 15, 3) := by decide +kernel
theorem zd_P_fillEmpty_8 : decode prog_2_method_3_code 8 = .ok (.istore 5, 2) := by decide +kernel
theorem zd_P_fillEmpty_53 : decode prog_2_method_3_code 53 = .ok (.iload 4, 2) := by decide +kernel
theorem zd_P_fillEmpty_55 : decode prog_2_method_3_code 55 = .ok (.ireturn, 1) := by decide +kernel
theorem zd_P_empty_6 : decode prog_2_method_4_code 6 = .ok (.iload_n 3, 1) := by decide +kernel
theorem zd_P_empty_7 : decode prog_2_method_4_code 7 = .ok (.iload_n 2, 1) := by decide +kernel
theorem zd_P_empty_8 : decode prog_2_method_4_code 8 = .ok (.if_icmp .ge 25, 3) := by decide +kernel
theorem zd_P_empty_11 : decode prog_2_method_4_code 11 = .ok (.iload_n 3, 1) := by decide +kernel
theorem zd_P_empty_12 : decode prog_2_method_4_code 12 = .ok (.aload_n 0, 1) := by decide +kernel
theorem zd_P_empty_13 : decode prog_2_method_4_code 13 = .ok (.getfield 9, 3) := by decide +kernel
theorem zd_P_empty_16 : decode prog_2_method_4_code 16 = .ok (.arraylength, 1) := by decide +kernel
theorem zd_P_empty_17 : decode prog_2_method_4_code 17 = .ok (.if_icmp .ge 16, 3) := by decide +kernel
theorem zd_P_empty_20 : decode prog_2_method_4_code 20 = .ok (.aload_n 0, 1) := by decide +kernel
theorem zd_P_empty_21 : decode prog_2_method_4_code 21 = .ok (.getfield 9, 3) := by decide +kernel
theorem zd_P_empty_24 : decode prog_2_method_4_code 24 = .ok (.iload_n 3, 1) := by decide +kernel
theorem zd_P_empty_25 : decode prog_2_method_4_code 25 = .ok (.iconst 0, 1) := by decide +kernel
theorem zd_P_empty_26 : decode prog_2_method_4_code 26 = .ok (.iastore, 1) := by decide +kernel
theorem zd_P_empty_27 : decode prog_2_method_4_code 27 = .ok (.iinc 3 1, 3) := by decide +kernel
theorem zd_P_empty_30 : decode prog_2_method_4_code 30 = .ok (.goto (-24), 3) := by decide +kernel
theorem zd_P_empty_0 : decode prog_2_method_4_code 0 = .ok (.iload_n 1, 1) := by decide +kernel
theorem zd_P_empty_1 : decode prog_2_method_4_code 1 = .ok (.iconst 0, 1) := by decide +kernel
theorem zd_P_empty_2 : decode prog_2_method_4_code 2 = .ok (.invokestatic 15, 3) := by decide +kernel
theorem zd_P_empty_5 : decode prog_2_method_4_code 5 = .ok (.istore_n 3, 1) := by decide +kernel
theorem zd_P_empty_33 : decode prog_2_method_4_code 33 = .ok (.return_, 1) := by decide +kernel
theorem zd_P_countEmpty_5 : decode prog_2_method_5_code 5 = .ok (.iload 4, 2) := by decide +kernel
theorem zd_P_countEmpty_7 : decode prog_2_method_5_code 7 = .ok (.iload_n 2, 1) := by decide +kernel
theorem zd_P_countEmpty_8 : decode prog_2_method_5_code 8 = .ok (.if_icmp .ge 21, 3) := by decide +kernel
theorem zd_P_countEmpty_11 : decode prog_2_method_5_code 11 = .ok (.aload_n 0, 1) := by decide +kernel
theorem zd_P_countEmpty_12 : decode prog_2_method_5_code 12 = .ok (.iload 4, 2) := by decide +kernel
theorem zd_P_countEmpty_14 : decode prog_2_method_5_code 14 = .ok (.invokevirtual 21, 3) := by decide +kernel
theorem zd_P_countEmpty_17 : decode prog_2_method_5_code 17 = .ok (.ifCond .ne 6, 3) := by decide +kernel
theorem zd_P_countEmpty_23 : decode prog_2_method_5_code 23 = .ok (.iinc 4 1, 3) := by decide +kernel
theorem zd_P_countEmpty_26 : decode prog_2_method_5_code 26 = .ok (.goto (-21), 3) := by decide +kernel
theorem zd_P_countEmpty_20 : decode prog_2_method_5_code 20 = .ok (.iinc 3 1, 3) := by decide +kernel
theorem zd_P_countEmpty_0 : decode prog_2_method_5_code 0 = .ok (.iconst 0, 1) := by decide +kernel
theorem zd_P_countEmpty_1 : decode prog_2_method_5_code 1 = .ok (.istore_n 3, 1) := by decide +kernel
theorem zd_P_countEmpty_2 : decode prog_2_method_5_code 2 = .ok (.iload_n 1, 1) := by decide +kernel
theorem zd_P_countEmpty_3 : decode prog_2_method_5_code 3 = .ok (.istore 4, 2) := by decide +kernel
theorem zd_P_countEmpty_29 : decode prog_2_method_5_code 29 = .ok (.iload_n 3, 1) := by decide +kernel
theorem zd_P_countEmpty_30 : decode prog_2_method_5_code 30 = .ok (.ireturn, 1) := by decide +kernel
theorem zd_P_firstEmpty_2 : decode prog_2_method_6_code 2 = .ok (.iload_n 3, 1) := by decide +kernel
theorem zd_P_firstEmpty_3 : decode prog_2_method_6_code 3 = .ok (.iload_n 2, 1) := by decide +kernel
theorem zd_P_firstEmpty_4 : decode prog_2_method_6_code 4 = .ok (.if_icmp .ge 17, 3) := by decide +kernel
theorem zd_P_firstEmpty_7 : decode prog_2_method_6_code 7 = .ok (.aload_n 0, 1) := by decide +kernel
theorem zd_P_firstEmpty_8 : decode prog_2_method_6_code 8 = .ok (.iload_n 3, 1) := by decide +kernel
theorem zd_P_firstEmpty_9 : decode prog_2_method_6_code 9 = .ok (.invokevirtual 21, 3) := by decide +kernel
theorem zd_P_firstEmpty_12 : decode prog_2_method_6_code 12 = .ok (.ifCond .eq 9, 3) := by decide +kernel
theorem zd_P_firstEmpty_15 : decode prog_2_method_6_code 15 = .ok (.iinc 3 1, 3) := by decide +kernel
theorem zd_P_firstEmpty_18 : decode prog_2_method_6_code 18 = .ok (.goto (-16), 3) := by decide +kernel
theorem zd_P_firstEmpty_0 : decode prog_2_method_6_code 0 = .ok (.iload_n 1, 1) := by decide +kernel
theorem zd_P_firstEmpty_1 : decode prog_2_method_6_code 1 = .ok (.istore_n 3, 1) := by decide +kernel
theorem zd_P_firstEmpty_21 : decode prog_2_method_6_code 21 = .ok (.iload_n 3, 1) := by decide +kernel
theorem zd_P_firstEmpty_22 : decode prog_2_method_6_code 22 = .ok (.ireturn, 1) := by decide +kernel
theorem zd_P_firstFilled_2 : decode prog_2_method_7_code 2 = .ok (.iload_n 3, 1) := by decide +kernel
theorem zd_P_firstFilled_3 : decode prog_2_method_7_code 3 = .ok (.iload_n 2, 1) := by decide +kernel
theorem zd_P_firstFilled_4 : decode prog_2_method_7_code 4 = .ok (.if_icmp .ge 17, 3) := by decide +kernel
theorem zd_P_firstFilled_7 : decode prog_2_method_7_code 7 = .ok (.aload_n 0, 1) := by decide +kernel
theorem zd_P_firstFilled_8 : decode prog_2_method_7_code 8 = .ok (.iload_n 3, 1) := by decide +kernel
theorem zd_P_firstFilled_9 : decode prog_2_method_7_code 9 = .ok (.invokevirtual 21, 3) := by decide +kernel
theorem zd_P_firstFilled_12 : decode prog_2_method_7_code 12 = .ok (.ifCond .ne 9, 3) := by decide +kernel
theorem zd_P_firstFilled_15 : decode prog_2_method_7_code 15 = .ok (.iinc 3 1, 3) := by decide +kernel
theorem zd_P_firstFilled_18 : decode prog_2_method_7_code 18 = .ok (.goto (-16), 3) := by decide +kernel
theorem zd_P_firstFilled_0 : decode prog_2_method_7_code 0 = .ok (.iload_n 1, 1) := by decide +kernel
theorem zd_P_firstFilled_1 : decode prog_2_method_7_code 1 = .ok (.istore_n 3, 1) := by decide +kernel
theorem zd_P_firstFilled_21 : decode prog_2_method_7_code 21 = .ok (.iload_n 3, 1) := by decide +kernel
theorem zd_P_firstFilled_22 : decode prog_2_method_7_code 22 = .ok (.ireturn, 1) := by decide +kernel
theorem zd_P_greatest_5 : decode prog_2_method_8_code 5 = .ok (.iload 4, 2) := by decide +kernel
theorem zd_P_greatest_7 : decode prog_2_method_8_code 7 = .ok (.iload_n 2, 1) := by decide +kernel
theorem zd_P_greatest_8 : decode prog_2_method_8_code 8 = .ok (.if_icmp .ge 20, 3) := by decide +kernel
theorem zd_P_greatest_11 : decode prog_2_method_8_code 11 = .ok (.iload_n 3, 1) := by decide +kernel
theorem zd_P_greatest_12 : decode prog_2_method_8_code 12 = .ok (.aload_n 0, 1) := by decide +kernel
theorem zd_P_greatest_13 : decode prog_2_method_8_code 13 = .ok (.iload 4, 2) := by decide +kernel
theorem zd_P_greatest_15 : decode prog_2_method_8_code 15 = .ok (.invokevirtual 21, 3) := by decide +kernel
theorem zd_P_greatest_18 : decode prog_2_method_8_code 18 = .ok (.invokestatic 15, 3) := by decide +kernel
theorem zd_P_greatest_21 : decode prog_2_method_8_code 21 = .ok (.istore_n 3, 1) := by decide +kernel
theorem zd_P_greatest_22 : decode prog_2_method_8_code 22 = .ok (.iinc 4 1, 3) := by decide +kernel
theorem zd_P_greatest_25 : decode prog_2_method_8_code 25 = .ok (.goto (-20), 3) := by decide +kernel
theorem zd_P_greatest_0 : decode prog_2_method_8_code 0 = .ok (.iconst 0, 1) := by decide +kernel
theorem zd_P_greatest_1 : decode prog_2_method_8_code 1 = .ok (.istore_n 3, 1) := by decide +kernel
theorem zd_P_greatest_2 : decode prog_2_method_8_code 2 = .ok (.iload_n 1, 1) := by decide +kernel
theorem zd_P_greatest_3 : decode prog_2_method_8_code 3 = .ok (.istore 4, 2) := by decide +kernel
theorem zd_P_greatest_28 : decode prog_2_method_8_code 28 = .ok (.iload_n 3, 1) := by decide +kernel
theorem zd_P_greatest_29 : decode prog_2_method_8_code 29 = .ok (.ireturn, 1) := by decide +kernel
theorem zd_R_room_0 : decode prog_3_method_2_code 0 = .ok (.aload_n 0, 1) := by decide +kernel
theorem zd_R_room_1 : decode prog_3_method_2_code 1 = .ok (.getfield 25, 3) := by decide +kernel
theorem zd_R_room_4 : decode prog_3_method_2_code 4 = .ok (.bipush 32, 2) := by decide +kernel
theorem zd_R_room_6 : decode prog_3_method_2_code 6 = .ok (.iadd, 1) := by decide +kernel
theorem zd_R_room_7 : decode prog_3_method_2_code 7 = .ok (.aload_n 0, 1) := by decide +kernel
theorem zd_R_room_8 : decode prog_3_method_2_code 8 = .ok (.getfield 22, 3) := by decide +kernel
theorem zd_R_room_11 : decode prog_3_method_2_code 11 = .ok (.isub, 1) := by decide +kernel
theorem zd_R_room_12 : decode prog_3_method_2_code 12 = .ok (.ireturn, 1) := by decide +kernel
theorem zd_R_takeBytes_0 : decode prog_3_method_3_code 0 = .ok (.aload_n 0, 1) := by decide +kernel
theorem zd_R_takeBytes_1 : decode prog_3_method_3_code 1 = .ok (.dup, 1) := by decide +kernel
theorem zd_R_takeBytes_2 : decode prog_3_method_3_code 2 = .ok (.getfield 18, 3) := by decide +kernel
theorem zd_R_takeBytes_5 : decode prog_3_method_3_code 5 = .ok (.iconst 1, 1) := by decide +kernel
theorem zd_R_takeBytes_6 : decode prog_3_method_3_code 6 = .ok (.iadd, 1) := by decide +kernel
theorem zd_R_takeBytes_7 : decode prog_3_method_3_code 7 = .ok (.putfield 18, 3) := by decide +kernel
theorem zd_R_takeBytes_10 : decode prog_3_method_3_code 10 = .ok (.aload_n 0, 1) := by decide +kernel
theorem zd_R_takeBytes_11 : decode prog_3_method_3_code 11 = .ok (.getfield 12, 3) := by decide +kernel
theorem zd_R_takeBytes_14 : decode prog_3_method_3_code 14 = .ok (.iload_n 1, 1) := by decide +kernel
theorem zd_R_takeBytes_15 : decode prog_3_method_3_code 15 = .ok (.iload_n 2, 1) := by decide +kernel
theorem zd_R_takeBytes_16 : decode prog_3_method_3_code 16 = .ok (.aload_n 0, 1) := by decide +kernel
theorem zd_R_takeBytes_17 : decode prog_3_method_3_code 17 = .ok (.getfield 25, 3) := by decide +kernel
theorem zd_R_takeBytes_20 : decode prog_3_method_3_code 20 = .ok (.bipush 32, 2) := by decide +kernel
theorem zd_R_takeBytes_22 : decode prog_3_method_3_code 22 = .ok (.iadd, 1) := by decide +kernel
theorem zd_R_takeBytes_23 : decode prog_3_method_3_code 23 = .ok (.invokestatic 28, 3) := by decide +kernel
theorem zd_R_takeBytes_26 : decode prog_3_method_3_code 26 = .ok (.aload_n 0, 1) := by decide +kernel
theorem zd_R_takeBytes_27 : decode prog_3_method_3_code 27 = .ok (.getfield 18, 3) := by decide +kernel
theorem zd_R_takeBytes_30 : decode prog_3_method_3_code 30 = .ok (.invokevirtual 34, 3) := by decide +kernel
theorem zd_R_takeBytes_33 : decode prog_3_method_3_code 33 = .ok (.istore_n 3, 1) := by decide +kernel
theorem zd_R_takeBytes_34 : decode prog_3_method_3_code 34 = .ok (.aload_n 0, 1) := by decide +kernel
theorem zd_R_takeBytes_35 : decode prog_3_method_3_code 35 = .ok (.aload_n 0, 1) := by decide +kernel
theorem zd_R_takeBytes_36 : decode prog_3_method_3_code 36 = .ok (.getfield 12, 3) := by decide +kernel
theorem zd_R_takeBytes_39 : decode prog_3_method_3_code 39 = .ok (.aload_n 0, 1) := by decide +kernel
theorem zd_R_takeBytes_40 : decode prog_3_method_3_code 40 = .ok (.getfield 22, 3) := by decide +kernel
theorem zd_R_takeBytes_43 : decode prog_3_method_3_code 43 = .ok (.sipush 600, 3) := by decide +kernel
theorem zd_R_takeBytes_46 : decode prog_3_method_3_code 46 = .ok (.invokevirtual 38, 3) := by decide +kernel
theorem zd_R_takeBytes_49 : decode prog_3_method_3_code 49 = .ok (.putfield 22, 3) := by decide +kernel
theorem zd_R_takeBytes_52 : decode prog_3_method_3_code 52 = .ok (.iload_n 3, 1) := by decide +kernel
theorem zd_R_takeBytes_53 : decode prog_3_method_3_code 53 = .ok (.ireturn, 1) := by decide +kernel
theorem zd_R_passByte_0 : decode prog_3_method_4_code 0 = .ok (.aload_n 0, 1) := by decide +kernel
theorem zd_R_passByte_1 : decode prog_3_method_4_code 1 = .ok (.invokevirtual 41, 3) := by decide +kernel
theorem zd_R_passByte_4 : decode prog_3_method_4_code 4 = .ok (.istore_n 1, 1) := by decide +kernel
theorem zd_R_passByte_5 : decode prog_3_method_4_code 5 = .ok (.aload_n 0, 1) := by decide +kernel
theorem zd_R_passByte_6 : decode prog_3_method_4_code 6 = .ok (.dup, 1) := by decide +kernel
theorem zd_R_passByte_7 : decode prog_3_method_4_code 7 = .ok (.getfield 25, 3) := by decide +kernel
theorem zd_R_passByte_10 : decode prog_3_method_4_code 10 = .ok (.iconst 1, 1) := by decide +kernel
theorem zd_R_passByte_11 : decode prog_3_method_4_code 11 = .ok (.iadd, 1) := by decide +kernel
theorem zd_R_passByte_12 : decode prog_3_method_4_code 12 = .ok (.putfield 25, 3) := by decide +kernel
theorem zd_R_passByte_15 : decode prog_3_method_4_code 15 = .ok (.iload_n 1, 1) := by decide +kernel
theorem zd_R_passByte_16 : decode prog_3_method_4_code 16 = .ok (.iconst 4, 1) := by decide +kernel
theorem zd_R_passByte_17 : decode prog_3_method_4_code 17 = .ok (.if_icmp .ge 15, 3) := by decide +kernel
theorem zd_R_passByte_32 : decode prog_3_method_4_code 32 = .ok (.iconst 0, 1) := by decide +kernel
theorem zd_R_passByte_33 : decode prog_3_method_4_code 33 = .ok (.ireturn, 1) := by decide +kernel
theorem zd_R_passByte_20 : decode prog_3_method_4_code 20 = .ok (.aload_n 0, 1) := by decide +kernel
theorem zd_R_passByte_21 : decode prog_3_method_4_code 21 = .ok (.invokevirtual 41, 3) := by decide +kernel
theorem zd_R_passByte_24 : decode prog_3_method_4_code 24 = .ok (.iconst 4, 1) := by decide +kernel
theorem zd_R_passByte_25 : decode prog_3_method_4_code 25 = .ok (.if_icmp .lt 7, 3) := by decide +kernel
theorem zd_R_passByte_28 : decode prog_3_method_4_code 28 = .ok (.iconst 1, 1) := by decide +kernel
theorem zd_R_passByte_29 : decode prog_3_method_4_code 29 = .ok (.goto 4, 3) := by decide +kernel
theorem zd_W_isFull_0 : decode prog_4_method_3_code 0 = .ok (.aload_n 0, 1) := by decide +kernel
theorem zd_W_isFull_1 : decode prog_4_method_3_code 1 = .ok (.getfield 9, 3) := by decide +kernel
theorem zd_W_isFull_4 : decode prog_4_method_3_code 4 = .ok (.bipush 40, 2) := by decide +kernel
theorem zd_W_isFull_6 : decode prog_4_method_3_code 6 = .ok (.if_icmp .lt 7, 3) := by decide +kernel
theorem zd_W_isFull_13 : decode prog_4_method_3_code 13 = .ok (.iconst 0, 1) := by decide +kernel
theorem zd_W_isFull_14 : decode prog_4_method_3_code 14 = .ok (.ireturn, 1) := by decide +kernel
theorem zd_W_isFull_9 : decode prog_4_method_3_code 9 = .ok (.iconst 1, 1) := by decide +kernel
theorem zd_W_isFull_10 : decode prog_4_method_3_code 10 = .ok (.goto 4, 3) := by decide +kernel
theorem zd_W_holds_0 : decode prog_4_method_2_code 0 = .ok (.iload_n 1, 1) := by decide +kernel
theorem zd_W_holds_1 : decode prog_4_method_2_code 1 = .ok (.ifCond .lt 15, 3) := by decide +kernel
theorem zd_W_holds_16 : decode prog_4_method_2_code 16 = .ok (.iconst 0, 1) := by decide +kernel
theorem zd_W_holds_17 : decode prog_4_method_2_code 17 = .ok (.ireturn, 1) := by decide +kernel
theorem zd_W_holds_4 : decode prog_4_method_2_code 4 = .ok (.iload_n 1, 1) := by decide +kernel
theorem zd_W_holds_5 : decode prog_4_method_2_code 5 = .ok (.aload_n 0, 1) := by decide +kernel
theorem zd_W_holds_6 : decode prog_4_method_2_code 6 = .ok (.getfield 9, 3) := by decide +kernel
theorem zd_W_holds_9 : decode prog_4_method_2_code 9 = .ok (.if_icmp .ge 7, 3) := by decide +kernel
theorem zd_W_holds_12 : decode prog_4_method_2_code 12 = .ok (.iconst 1, 1) := by decide +kernel
theorem zd_W_holds_13 : decode prog_4_method_2_code 13 = .ok (.goto 4, 3) := by decide +kernel
theorem zd_W_remove_26 : decode prog_4_method_7_code 26 = .ok (.iload_n 2, 1) := by decide +kernel
theorem zd_W_remove_27 : decode prog_4_method_7_code 27 = .ok (.aload_n 0, 1) := by decide +kernel
theorem zd_W_remove_28 : decode prog_4_method_7_code 28 = .ok (.getfield 9, 3) := by decide +kernel
theorem zd_W_remove_31 : decode prog_4_method_7_code 31 = .ok (.aload_n 0, 1) := by decide +kernel
theorem zd_W_remove_32 : decode prog_4_method_7_code 32 = .ok (.getfield 15, 3) := by decide +kernel
theorem zd_W_remove_35 : decode prog_4_method_7_code 35 = .ok (.imul, 1) := by decide +kernel
theorem zd_W_remove_36 : decode prog_4_method_7_code 36 = .ok (.if_icmp .ge 44, 3) := by decide +kernel
theorem zd_W_remove_39 : decode prog_4_method_7_code 39 = .ok (.iload_n 2, 1) := by decide +kernel
theorem zd_W_remove_40 : decode prog_4_method_7_code 40 = .ok (.ifCond .lt 40, 3) := by decide +kernel
theorem zd_W_remove_43 : decode prog_4_method_7_code 43 = .ok (.iload_n 2, 1) := by decide +kernel
theorem zd_W_remove_44 : decode prog_4_method_7_code 44 = .ok (.aload_n 0, 1) := by decide +kernel
theorem zd_W_remove_45 : decode prog_4_method_7_code 45 = .ok (.getfield 15, 3) := by decide +kernel
theorem zd_W_remove_48 : decode prog_4_method_7_code 48 = .ok (.iadd, 1) := by decide +kernel
theorem zd_W_remove_49 : decode prog_4_method_7_code 49 = .ok (.aload_n 0, 1) := by decide +kernel
theorem zd_W_remove_50 : decode prog_4_method_7_code 50 = .ok (.getfield 18, 3) := by decide +kernel
theorem zd_W_remove_53 : decode prog_4_method_7_code 53 = .ok (.arraylength, 1) := by decide +kernel
theorem zd_W_remove_54 : decode prog_4_method_7_code 54 = .ok (.if_icmp .ge 26, 3) := by decide +kernel
theorem zd_W_remove_57 : decode prog_4_method_7_code 57 = .ok (.aload_n 0, 1) := by decide +kernel
theorem zd_W_remove_58 : decode prog_4_method_7_code 58 = .ok (.getfield 18, 3) := by decide +kernel
theorem zd_W_remove_61 : decode prog_4_method_7_code 61 = .ok (.iload_n 2, 1) := by decide +kernel
theorem zd_W_remove_62 : decode prog_4_method_7_code 62 = .ok (.aload_n 0, 1) := by decide +kernel
theorem zd_W_remove_63 : decode prog_4_method_7_code 63 = .ok (.getfield 18, 3) := by decide +kernel
theorem zd_W_remove_66 : decode prog_4_method_7_code 66 = .ok (.iload_n 2, 1) := by decide +kernel
theorem zd_W_remove_67 : decode prog_4_method_7_code 67 = .ok (.aload_n 0, 1) := by decide +kernel
theorem zd_W_remove_68 : decode prog_4_method_7_code 68 = .ok (.getfield 15, 3) := by decide +kernel
theorem zd_W_remove_71 : decode prog_4_method_7_code 71 = .ok (.iadd, 1) := by decide +kernel
theorem zd_W_remove_72 : decode prog_4_method_7_code 72 = .ok (.iaload, 1) := by decide +kernel
theorem zd_W_remove_73 : decode prog_4_method_7_code 73 = .ok (.iastore, 1) := by decide +kernel
theorem zd_W_remove_74 : decode prog_4_method_7_code 74 = .ok (.iinc 2 1, 3) := by decide +kernel
theorem zd_W_remove_77 : decode prog_4_method_7_code 77 = .ok (.goto (-51), 3) := by decide +kernel
theorem zd_W_remove_0 : decode prog_4_method_7_code 0 = .ok (.aload_n 0, 1) := by decide +kernel
theorem zd_W_remove_1 : decode prog_4_method_7_code 1 = .ok (.iload_n 1, 1) := by decide +kernel
theorem zd_W_remove_2 : decode prog_4_method_7_code 2 = .ok (.invokevirtual 22, 3) := by decide +kernel
theorem zd_W_remove_5 : decode prog_4_method_7_code 5 = .ok (.ifCond .ne 4, 3) := by decide +kernel
theorem zd_W_remove_9 : decode prog_4_method_7_code 9 = .ok (.aload_n 0, 1) := by decide +kernel
theorem zd_W_remove_10 : decode prog_4_method_7_code 10 = .ok (.dup, 1) := by decide +kernel
theorem zd_W_remove_11 : decode prog_4_method_7_code 11 = .ok (.getfield 9, 3) := by decide +kernel
theorem zd_W_remove_14 : decode prog_4_method_7_code 14 = .ok (.iconst 1, 1) := by decide +kernel
theorem zd_W_remove_15 : decode prog_4_method_7_code 15 = .ok (.isub, 1) := by decide +kernel
theorem zd_W_remove_16 : decode prog_4_method_7_code 16 = .ok (.putfield 9, 3) := by decide +kernel
theorem zd_W_remove_19 : decode prog_4_method_7_code 19 = .ok (.iload_n 1, 1) := by decide +kernel
theorem zd_W_remove_20 : decode prog_4_method_7_code 20 = .ok (.aload_n 0, 1) := by decide +kernel
theorem zd_W_remove_21 : decode prog_4_method_7_code 21 = .ok (.getfield 15, 3) := by decide +kernel
theorem zd_W_remove_24 : decode prog_4_method_7_code 24 = .ok (.imul, 1) := by decide +kernel
theorem zd_W_remove_25 : decode prog_4_method_7_code 25 = .ok (.istore_n 2, 1) := by decide +kernel
theorem zd_W_remove_80 : decode prog_4_method_7_code 80 = .ok (.return_, 1) := by decide +kernel
theorem zd_W_remove_8 : decode prog_4_method_7_code 8 = .ok (.return_, 1) := by decide +kernel
theorem zd_W_addRow_0 : decode prog_4_method_6_code 0 = .ok (.aload_n 0, 1) := by decide +kernel
theorem zd_W_addRow_1 : decode prog_4_method_6_code 1 = .ok (.getfield 9, 3) := by decide +kernel
theorem zd_W_addRow_4 : decode prog_4_method_6_code 4 = .ok (.bipush 40, 2) := by decide +kernel
theorem zd_W_addRow_6 : decode prog_4_method_6_code 6 = .ok (.if_icmp .ge 13, 3) := by decide +kernel
theorem zd_W_addRow_19 : decode prog_4_method_6_code 19 = .ok (.aload_n 0, 1) := by decide +kernel
theorem zd_W_addRow_20 : decode prog_4_method_6_code 20 = .ok (.getfield 9, 3) := by decide +kernel
theorem zd_W_addRow_23 : decode prog_4_method_6_code 23 = .ok (.iconst 1, 1) := by decide +kernel
theorem zd_W_addRow_24 : decode prog_4_method_6_code 24 = .ok (.isub, 1) := by decide +kernel
theorem zd_W_addRow_25 : decode prog_4_method_6_code 25 = .ok (.ireturn, 1) := by decide +kernel
theorem zd_W_addRow_9 : decode prog_4_method_6_code 9 = .ok (.aload_n 0, 1) := by decide +kernel
theorem zd_W_addRow_10 : decode prog_4_method_6_code 10 = .ok (.dup, 1) := by decide +kernel
theorem zd_W_addRow_11 : decode prog_4_method_6_code 11 = .ok (.getfield 9, 3) := by decide +kernel
theorem zd_W_addRow_14 : decode prog_4_method_6_code 14 = .ok (.iconst 1, 1) := by decide +kernel
theorem zd_W_addRow_15 : decode prog_4_method_6_code 15 = .ok (.iadd, 1) := by decide +kernel
theorem zd_W_addRow_16 : decode prog_4_method_6_code 16 = .ok (.putfield 9, 3) := by decide +kernel
theorem zd_W_setCell_0 : decode prog_4_method_5_code 0 = .ok (.iload_n 1, 1) := by decide +kernel
theorem zd_W_setCell_1 : decode prog_4_method_5_code 1 = .ok (.aload_n 0, 1) := by decide +kernel
theorem zd_W_setCell_2 : decode prog_4_method_5_code 2 = .ok (.getfield 15, 3) := by decide +kernel
theorem zd_W_setCell_5 : decode prog_4_method_5_code 5 = .ok (.imul, 1) := by decide +kernel
theorem zd_W_setCell_6 : decode prog_4_method_5_code 6 = .ok (.iload_n 2, 1) := by decide +kernel
theorem zd_W_setCell_7 : decode prog_4_method_5_code 7 = .ok (.iadd, 1) := by decide +kernel
theorem zd_W_setCell_8 : decode prog_4_method_5_code 8 = .ok (.istore 4, 2) := by decide +kernel
theorem zd_W_setCell_10 : decode prog_4_method_5_code 10 = .ok (.iload 4, 2) := by decide +kernel
theorem zd_W_setCell_12 : decode prog_4_method_5_code 12 = .ok (.ifCond .lt 21, 3) := by decide +kernel
theorem zd_W_setCell_33 : decode prog_4_method_5_code 33 = .ok (.return_, 1) := by decide +kernel
theorem zd_W_setCell_15 : decode prog_4_method_5_code 15 = .ok (.iload 4, 2) := by decide +kernel
theorem zd_W_setCell_17 : decode prog_4_method_5_code 17 = .ok (.aload_n 0, 1) := by decide +kernel
theorem zd_W_setCell_18 : decode prog_4_method_5_code 18 = .ok (.getfield 18, 3) := by decide +kernel
theorem zd_W_setCell_21 : decode prog_4_method_5_code 21 = .ok (.arraylength, 1) := by decide +kernel
theorem zd_W_setCell_22 : decode prog_4_method_5_code 22 = .ok (.if_icmp .ge 11, 3) := by decide +kernel
theorem zd_W_setCell_25 : decode prog_4_method_5_code 25 = .ok (.aload_n 0, 1) := by decide +kernel
theorem zd_W_setCell_26 : decode prog_4_method_5_code 26 = .ok (.getfield 18, 3) := by decide +kernel
theorem zd_W_setCell_29 : decode prog_4_method_5_code 29 = .ok (.iload 4, 2) := by decide +kernel
theorem zd_W_setCell_31 : decode prog_4_method_5_code 31 = .ok (.iload_n 3, 1) := by decide +kernel
theorem zd_W_setCell_32 : decode prog_4_method_5_code 32 = .ok (.iastore, 1) := by decide +kernel
theorem zd_R_blockFrom_0 : decode prog_3_method_11_code 0 = .ok (.aload_n 0, 1) := by decide +kernel
theorem zd_R_blockFrom_1 : decode prog_3_method_11_code 1 = .ok (.getfield 25, 3) := by decide +kernel
theorem zd_R_blockFrom_4 : decode prog_3_method_11_code 4 = .ok (.bipush 32, 2) := by decide +kernel
theorem zd_R_blockFrom_6 : decode prog_3_method_11_code 6 = .ok (.iadd, 1) := by decide +kernel
theorem zd_R_blockFrom_7 : decode prog_3_method_11_code 7 = .ok (.istore_n 2, 1) := by decide +kernel
theorem zd_R_blockFrom_8 : decode prog_3_method_11_code 8 = .ok (.aload_n 0, 1) := by decide +kernel
theorem zd_R_blockFrom_9 : decode prog_3_method_11_code 9 = .ok (.getfield 12, 3) := by decide +kernel
theorem zd_R_blockFrom_12 : decode prog_3_method_11_code 12 = .ok (.iload_n 1, 1) := by decide +kernel
theorem zd_R_blockFrom_13 : decode prog_3_method_11_code 13 = .ok (.iload_n 2, 1) := by decide +kernel
theorem zd_R_blockFrom_14 : decode prog_3_method_11_code 14 = .ok (.invokevirtual 79, 3) := by decide +kernel
theorem zd_R_blockFrom_17 : decode prog_3_method_11_code 17 = .ok (.istore_n 3, 1) := by decide +kernel
theorem zd_R_blockFrom_18 : decode prog_3_method_11_code 18 = .ok (.iload_n 3, 1) := by decide +kernel
theorem zd_R_blockFrom_19 : decode prog_3_method_11_code 19 = .ok (.iload_n 2, 1) := by decide +kernel
theorem zd_R_blockFrom_20 : decode prog_3_method_11_code 20 = .ok (.if_icmp .ge 7, 3) := by decide +kernel
theorem zd_R_blockFrom_27 : decode prog_3_method_11_code 27 = .ok (.iconst (-1), 1) := by decide +kernel
theorem zd_R_blockFrom_28 : decode prog_3_method_11_code 28 = .ok (.ireturn, 1) := by decide +kernel
theorem zd_R_blockFrom_23 : decode prog_3_method_11_code 23 = .ok (.iload_n 3, 1) := by decide +kernel
theorem zd_R_blockFrom_24 : decode prog_3_method_11_code 24 = .ok (.goto 4, 3) := by decide +kernel
theorem zd_R_endOfRun_0 : decode prog_3_method_10_code 0 = .ok (.aload_n 0, 1) := by decide +kernel
theorem zd_R_endOfRun_1 : decode prog_3_method_10_code 1 = .ok (.getfield 12, 3) := by decide +kernel
theorem zd_R_endOfRun_4 : decode prog_3_method_10_code 4 = .ok (.iload_n 1, 1) := by decide +kernel
theorem zd_R_endOfRun_5 : decode prog_3_method_10_code 5 = .ok (.sipush 600, 3) := by decide +kernel
theorem zd_R_endOfRun_8 : decode prog_3_method_10_code 8 = .ok (.invokevirtual 38, 3) := by decide +kernel
theorem zd_R_endOfRun_11 : decode prog_3_method_10_code 11 = .ok (.ireturn, 1) := by decide +kernel
theorem zd_R_newestBlockBefore_17 : decode prog_3_method_7_code 17 = .ok (.iload 5, 2) := by decide +kernel
theorem zd_R_newestBlockBefore_19 : decode prog_3_method_7_code 19 = .ok (.bipush 32, 2) := by decide +kernel
theorem zd_R_newestBlockBefore_21 : decode prog_3_method_7_code 21 = .ok (.if_icmp .ge 62, 3) := by decide +kernel
theorem zd_R_newestBlockBefore_24 : decode prog_3_method_7_code 24 = .ok (.iload 4, 2) := by decide +kernel
theorem zd_R_newestBlockBefore_26 : decode prog_3_method_7_code 26 = .ok (.iconst (-1), 1) := by decide +kernel
theorem zd_R_newestBlockBefore_27 : decode prog_3_method_7_code 27 = .ok (.if_icmp .eq 56, 3) := by decide +kernel
theorem zd_R_newestBlockBefore_30 : decode prog_3_method_7_code 30 = .ok (.aload_n 0, 1) := by decide +kernel
theorem zd_R_newestBlockBefore_31 : decode prog_3_method_7_code 31 = .ok (.iload 4, 2) := by decide +kernel
theorem zd_R_newestBlockBefore_33 : decode prog_3_method_7_code 33 = .ok (.invokevirtual 70, 3) := by decide +kernel
theorem zd_R_newestBlockBefore_36 : decode prog_3_method_7_code 36 = .ok (.istore 6, 2) := by decide +kernel
theorem zd_R_newestBlockBefore_38 : decode prog_3_method_7_code 38 = .ok (.aload_n 0, 1) := by decide +kernel
theorem zd_R_newestBlockBefore_39 : decode prog_3_method_7_code 39 = .ok (.getfield 12, 3) := by decide +kernel
theorem zd_R_newestBlockBefore_42 : decode prog_3_method_7_code 42 = .ok (.iload 4, 2) := by decide +kernel
theorem zd_R_newestBlockBefore_44 : decode prog_3_method_7_code 44 = .ok (.iload 6, 2) := by decide +kernel
theorem zd_R_newestBlockBefore_46 : decode prog_3_method_7_code 46 = .ok (.invokevirtual 73, 3) := by decide +kernel
theorem zd_R_newestBlockBefore_49 : decode prog_3_method_7_code 49 = .ok (.istore 7, 2) := by decide +kernel
theorem zd_R_newestBlockBefore_51 : decode prog_3_method_7_code 51 = .ok (.iload 7, 2) := by decide +kernel
theorem zd_R_newestBlockBefore_53 : decode prog_3_method_7_code 53 = .ok (.iload_n 2, 1) := by decide +kernel
theorem zd_R_newestBlockBefore_54 : decode prog_3_method_7_code 54 = .ok (.if_icmp .le 15, 3) := by decide +kernel
theorem zd_R_newestBlockBefore_69 : decode prog_3_method_7_code 69 = .ok (.aload_n 0, 1) := by decide +kernel
theorem zd_R_newestBlockBefore_70 : decode prog_3_method_7_code 70 = .ok (.iload 6, 2) := by decide +kernel
theorem zd_R_newestBlockBefore_72 : decode prog_3_method_7_code 72 = .ok (.invokevirtual 76, 3) := by decide +kernel
theorem zd_R_newestBlockBefore_75 : decode prog_3_method_7_code 75 = .ok (.istore 4, 2) := by decide +kernel
theorem zd_R_newestBlockBefore_77 : decode prog_3_method_7_code 77 = .ok (.iinc 5 1, 3) := by decide +kernel
theorem zd_R_newestBlockBefore_80 : decode prog_3_method_7_code 80 = .ok (.goto (-63), 3) := by decide +kernel
theorem zd_R_newestBlockBefore_57 : decode prog_3_method_7_code 57 = .ok (.iload 7, 2) := by decide +kernel
theorem zd_R_newestBlockBefore_59 : decode prog_3_method_7_code 59 = .ok (.iload_n 1, 1) := by decide +kernel
theorem zd_R_newestBlockBefore_60 : decode prog_3_method_7_code 60 = .ok (.if_icmp .ge 9, 3) := by decide +kernel
theorem zd_R_newestBlockBefore_63 : decode prog_3_method_7_code 63 = .ok (.iload 7, 2) := by decide +kernel
theorem zd_R_newestBlockBefore_65 : decode prog_3_method_7_code 65 = .ok (.istore_n 2, 1) := by decide +kernel
theorem zd_R_newestBlockBefore_66 : decode prog_3_method_7_code 66 = .ok (.iload 4, 2) := by decide +kernel
theorem zd_R_newestBlockBefore_68 : decode prog_3_method_7_code 68 = .ok (.istore_n 3, 1) := by decide +kernel
theorem zd_R_newestBlockBefore_0 : decode prog_3_method_7_code 0 = .ok (.iconst 0, 1) := by decide +kernel
theorem zd_R_newestBlockBefore_1 : decode prog_3_method_7_code 1 = .ok (.istore_n 2, 1) := by decide +kernel
theorem zd_R_newestBlockBefore_2 : decode prog_3_method_7_code 2 = .ok (.iconst (-1), 1) := by decide +kernel
theorem zd_R_newestBlockBefore_3 : decode prog_3_method_7_code 3 = .ok (.istore_n 3, 1) := by decide +kernel
theorem zd_R_newestBlockBefore_4 : decode prog_3_method_7_code 4 = .ok (.aload_n 0, 1) := by decide +kernel
theorem zd_R_newestBlockBefore_5 : decode prog_3_method_7_code 5 = .ok (.aload_n 0, 1) := by decide +kernel
theorem zd_R_newestBlockBefore_6 : decode prog_3_method_7_code 6 = .ok (.getfield 22, 3) := by decide +kernel
theorem zd_R_newestBlockBefore_9 : decode prog_3_method_7_code 9 = .ok (.invokevirtual 76, 3) := by decide +kernel
theorem zd_R_newestBlockBefore_12 : decode prog_3_method_7_code 12 = .ok (.istore 4, 2) := by decide +kernel
theorem zd_R_newestBlockBefore_14 : decode prog_3_method_7_code 14 = .ok (.iconst 0, 1) := by decide +kernel
theorem zd_R_newestBlockBefore_15 : decode prog_3_method_7_code 15 = .ok (.istore 5, 2) := by decide +kernel
theorem zd_R_newestBlockBefore_83 : decode prog_3_method_7_code 83 = .ok (.iload_n 3, 1) := by decide +kernel
theorem zd_R_newestBlockBefore_84 : decode prog_3_method_7_code 84 = .ok (.ireturn, 1) := by decide +kernel
theorem zd_R_tellBlocks_13 : decode prog_3_method_6_code 13 = .ok (.iload 5, 2) := by decide +kernel
theorem zd_R_tellBlocks_15 : decode prog_3_method_6_code 15 = .ok (.iconst 3, 1) := by decide +kernel
theorem zd_R_tellBlocks_16 : decode prog_3_method_6_code 16 = .ok (.if_icmp .ge 75, 3) := by decide +kernel
theorem zd_R_tellBlocks_19 : decode prog_3_method_6_code 19 = .ok (.aload_n 0, 1) := by decide +kernel
theorem zd_R_tellBlocks_20 : decode prog_3_method_6_code 20 = .ok (.iload 4, 2) := by decide +kernel
theorem zd_R_tellBlocks_22 : decode prog_3_method_6_code 22 = .ok (.invokevirtual 66, 3) := by decide +kernel
theorem zd_R_tellBlocks_25 : decode prog_3_method_6_code 25 = .ok (.istore 6, 2) := by decide +kernel
theorem zd_R_tellBlocks_27 : decode prog_3_method_6_code 27 = .ok (.iload 6, 2) := by decide +kernel
theorem zd_R_tellBlocks_29 : decode prog_3_method_6_code 29 = .ok (.iconst (-1), 1) := by decide +kernel
theorem zd_R_tellBlocks_30 : decode prog_3_method_6_code 30 = .ok (.if_icmp .eq 55, 3) := by decide +kernel
theorem zd_R_tellBlocks_85 : decode prog_3_method_6_code 85 = .ok (.iinc 5 1, 3) := by decide +kernel
theorem zd_R_tellBlocks_88 : decode prog_3_method_6_code 88 = .ok (.goto (-75), 3) := by decide +kernel
theorem zd_R_tellBlocks_33 : decode prog_3_method_6_code 33 = .ok (.aload_n 0, 1) := by decide +kernel
theorem zd_R_tellBlocks_34 : decode prog_3_method_6_code 34 = .ok (.iload 6, 2) := by decide +kernel
theorem zd_R_tellBlocks_36 : decode prog_3_method_6_code 36 = .ok (.invokevirtual 70, 3) := by decide +kernel
theorem zd_R_tellBlocks_39 : decode prog_3_method_6_code 39 = .ok (.istore 7, 2) := by decide +kernel
theorem zd_R_tellBlocks_41 : decode prog_3_method_6_code 41 = .ok (.aload_n 1, 1) := by decide +kernel
theorem zd_R_tellBlocks_42 : decode prog_3_method_6_code 42 = .ok (.iload_n 2, 1) := by decide +kernel
theorem zd_R_tellBlocks_43 : decode prog_3_method_6_code 43 = .ok (.iconst 3, 1) := by decide +kernel
theorem zd_R_tellBlocks_44 : decode prog_3_method_6_code 44 = .ok (.iconst 2, 1) := by decide +kernel
theorem zd_R_tellBlocks_45 : decode prog_3_method_6_code 45 = .ok (.iload 5, 2) := by decide +kernel
theorem zd_R_tellBlocks_47 : decode prog_3_method_6_code 47 = .ok (.imul, 1) := by decide +kernel
theorem zd_R_tellBlocks_48 : decode prog_3_method_6_code 48 = .ok (.iadd, 1) := by decide +kernel
theorem zd_R_tellBlocks_49 : decode prog_3_method_6_code 49 = .ok (.iload 6, 2) := by decide +kernel
theorem zd_R_tellBlocks_51 : decode prog_3_method_6_code 51 = .ok (.invokevirtual 58, 3) := by decide +kernel
theorem zd_R_tellBlocks_54 : decode prog_3_method_6_code 54 = .ok (.aload_n 1, 1) := by decide +kernel
theorem zd_R_tellBlocks_55 : decode prog_3_method_6_code 55 = .ok (.iload_n 2, 1) := by decide +kernel
theorem zd_R_tellBlocks_56 : decode prog_3_method_6_code 56 = .ok (.iconst 3, 1) := by decide +kernel
theorem zd_R_tellBlocks_57 : decode prog_3_method_6_code 57 = .ok (.iconst 2, 1) := by decide +kernel
theorem zd_R_tellBlocks_58 : decode prog_3_method_6_code 58 = .ok (.iload 5, 2) := by decide +kernel
theorem zd_R_tellBlocks_60 : decode prog_3_method_6_code 60 = .ok (.imul, 1) := by decide +kernel
theorem zd_R_tellBlocks_61 : decode prog_3_method_6_code 61 = .ok (.iadd, 1) := by decide +kernel
theorem zd_R_tellBlocks_62 : decode prog_3_method_6_code 62 = .ok (.iconst 1, 1) := by decide +kernel
theorem zd_R_tellBlocks_63 : decode prog_3_method_6_code 63 = .ok (.iadd, 1) := by decide +kernel
theorem zd_R_tellBlocks_64 : decode prog_3_method_6_code 64 = .ok (.iload 7, 2) := by decide +kernel
theorem zd_R_tellBlocks_66 : decode prog_3_method_6_code 66 = .ok (.invokevirtual 58, 3) := by decide +kernel
theorem zd_R_tellBlocks_69 : decode prog_3_method_6_code 69 = .ok (.aload_n 0, 1) := by decide +kernel
theorem zd_R_tellBlocks_70 : decode prog_3_method_6_code 70 = .ok (.getfield 12, 3) := by decide +kernel
theorem zd_R_tellBlocks_73 : decode prog_3_method_6_code 73 = .ok (.iload 6, 2) := by decide +kernel
theorem zd_R_tellBlocks_75 : decode prog_3_method_6_code 75 = .ok (.iload 7, 2) := by decide +kernel
theorem zd_R_tellBlocks_77 : decode prog_3_method_6_code 77 = .ok (.invokevirtual 73, 3) := by decide +kernel
theorem zd_R_tellBlocks_80 : decode prog_3_method_6_code 80 = .ok (.istore 4, 2) := by decide +kernel
theorem zd_R_tellBlocks_82 : decode prog_3_method_6_code 82 = .ok (.iinc 3 1, 3) := by decide +kernel
theorem zd_R_tellBlocks_0 : decode prog_3_method_6_code 0 = .ok (.iconst 0, 1) := by decide +kernel
theorem zd_R_tellBlocks_1 : decode prog_3_method_6_code 1 = .ok (.istore_n 3, 1) := by decide +kernel
theorem zd_R_tellBlocks_2 : decode prog_3_method_6_code 2 = .ok (.aload_n 0, 1) := by decide +kernel
theorem zd_R_tellBlocks_3 : decode prog_3_method_6_code 3 = .ok (.getfield 18, 3) := by decide +kernel
theorem zd_R_tellBlocks_6 : decode prog_3_method_6_code 6 = .ok (.iconst 1, 1) := by decide +kernel
theorem zd_R_tellBlocks_7 : decode prog_3_method_6_code 7 = .ok (.iadd, 1) := by decide +kernel
theorem zd_R_tellBlocks_8 : decode prog_3_method_6_code 8 = .ok (.istore 4, 2) := by decide +kernel
theorem zd_R_tellBlocks_10 : decode prog_3_method_6_code 10 = .ok (.iconst 0, 1) := by decide +kernel
theorem zd_R_tellBlocks_11 : decode prog_3_method_6_code 11 = .ok (.istore 5, 2) := by decide +kernel
theorem zd_R_tellBlocks_91 : decode prog_3_method_6_code 91 = .ok (.iload_n 3, 1) := by decide +kernel
theorem zd_R_tellBlocks_92 : decode prog_3_method_6_code 92 = .ok (.ireturn, 1) := by decide +kernel
theorem zd_R_makeAck_0 : decode prog_3_method_5_code 0 = .ok (.aload_n 1, 1) := by decide +kernel
theorem zd_R_makeAck_1 : decode prog_3_method_5_code 1 = .ok (.invokevirtual 45, 3) := by decide +kernel
theorem zd_R_makeAck_4 : decode prog_3_method_5_code 4 = .ok (.ifCond .eq 8, 3) := by decide +kernel
theorem zd_R_makeAck_12 : decode prog_3_method_5_code 12 = .ok (.aload_n 1, 1) := by decide +kernel
theorem zd_R_makeAck_13 : decode prog_3_method_5_code 13 = .ok (.invokevirtual 55, 3) := by decide +kernel
theorem zd_R_makeAck_16 : decode prog_3_method_5_code 16 = .ok (.istore_n 2, 1) := by decide +kernel
theorem zd_R_makeAck_17 : decode prog_3_method_5_code 17 = .ok (.aload_n 1, 1) := by decide +kernel
theorem zd_R_makeAck_18 : decode prog_3_method_5_code 18 = .ok (.iload_n 2, 1) := by decide +kernel
theorem zd_R_makeAck_19 : decode prog_3_method_5_code 19 = .ok (.iconst 0, 1) := by decide +kernel
theorem zd_R_makeAck_20 : decode prog_3_method_5_code 20 = .ok (.aload_n 0, 1) := by decide +kernel
theorem zd_R_makeAck_21 : decode prog_3_method_5_code 21 = .ok (.getfield 22, 3) := by decide +kernel
theorem zd_R_makeAck_24 : decode prog_3_method_5_code 24 = .ok (.invokevirtual 58, 3) := by decide +kernel
theorem zd_R_makeAck_27 : decode prog_3_method_5_code 27 = .ok (.aload_n 1, 1) := by decide +kernel
theorem zd_R_makeAck_28 : decode prog_3_method_5_code 28 = .ok (.iload_n 2, 1) := by decide +kernel
theorem zd_R_makeAck_29 : decode prog_3_method_5_code 29 = .ok (.iconst 1, 1) := by decide +kernel
theorem zd_R_makeAck_30 : decode prog_3_method_5_code 30 = .ok (.aload_n 0, 1) := by decide +kernel
theorem zd_R_makeAck_31 : decode prog_3_method_5_code 31 = .ok (.invokevirtual 41, 3) := by decide +kernel
theorem zd_R_makeAck_34 : decode prog_3_method_5_code 34 = .ok (.invokevirtual 58, 3) := by decide +kernel
theorem zd_R_makeAck_37 : decode prog_3_method_5_code 37 = .ok (.aload_n 1, 1) := by decide +kernel
theorem zd_R_makeAck_38 : decode prog_3_method_5_code 38 = .ok (.iload_n 2, 1) := by decide +kernel
theorem zd_R_makeAck_39 : decode prog_3_method_5_code 39 = .ok (.iconst 2, 1) := by decide +kernel
theorem zd_R_makeAck_40 : decode prog_3_method_5_code 40 = .ok (.aload_n 0, 1) := by decide +kernel
theorem zd_R_makeAck_41 : decode prog_3_method_5_code 41 = .ok (.aload_n 1, 1) := by decide +kernel
theorem zd_R_makeAck_42 : decode prog_3_method_5_code 42 = .ok (.iload_n 2, 1) := by decide +kernel
theorem zd_R_makeAck_43 : decode prog_3_method_5_code 43 = .ok (.invokevirtual 62, 3) := by decide +kernel
theorem zd_R_makeAck_46 : decode prog_3_method_5_code 46 = .ok (.invokevirtual 58, 3) := by decide +kernel
theorem zd_R_makeAck_49 : decode prog_3_method_5_code 49 = .ok (.return_, 1) := by decide +kernel
theorem zd_R_makeAck_7 : decode prog_3_method_5_code 7 = .ok (.aload_n 1, 1) := by decide +kernel
theorem zd_R_makeAck_8 : decode prog_3_method_5_code 8 = .ok (.iconst 0, 1) := by decide +kernel
theorem zd_R_makeAck_9 : decode prog_3_method_5_code 9 = .ok (.invokevirtual 51, 3) := by decide +kernel
theorem zd_R_countBlocks_13 : decode prog_3_method_8_code 13 = .ok (.iload_n 3, 1) := by decide +kernel
theorem zd_R_countBlocks_14 : decode prog_3_method_8_code 14 = .ok (.bipush 32, 2) := by decide +kernel
theorem zd_R_countBlocks_16 : decode prog_3_method_8_code 16 = .ok (.if_icmp .ge 27, 3) := by decide +kernel
theorem zd_R_countBlocks_19 : decode prog_3_method_8_code 19 = .ok (.iload_n 2, 1) := by decide +kernel
theorem zd_R_countBlocks_20 : decode prog_3_method_8_code 20 = .ok (.iconst (-1), 1) := by decide +kernel
theorem zd_R_countBlocks_21 : decode prog_3_method_8_code 21 = .ok (.if_icmp .eq 22, 3) := by decide +kernel
theorem zd_R_countBlocks_24 : decode prog_3_method_8_code 24 = .ok (.iinc 1 1, 3) := by decide +kernel
theorem zd_R_countBlocks_27 : decode prog_3_method_8_code 27 = .ok (.aload_n 0, 1) := by decide +kernel
theorem zd_R_countBlocks_28 : decode prog_3_method_8_code 28 = .ok (.aload_n 0, 1) := by decide +kernel
theorem zd_R_countBlocks_29 : decode prog_3_method_8_code 29 = .ok (.iload_n 2, 1) := by decide +kernel
theorem zd_R_countBlocks_30 : decode prog_3_method_8_code 30 = .ok (.invokevirtual 70, 3) := by decide +kernel
theorem zd_R_countBlocks_33 : decode prog_3_method_8_code 33 = .ok (.invokevirtual 76, 3) := by decide +kernel
theorem zd_R_countBlocks_36 : decode prog_3_method_8_code 36 = .ok (.istore_n 2, 1) := by decide +kernel
theorem zd_R_countBlocks_37 : decode prog_3_method_8_code 37 = .ok (.iinc 3 1, 3) := by decide +kernel
theorem zd_R_countBlocks_40 : decode prog_3_method_8_code 40 = .ok (.goto (-27), 3) := by decide +kernel
theorem zd_R_countBlocks_0 : decode prog_3_method_8_code 0 = .ok (.iconst 0, 1) := by decide +kernel
theorem zd_R_countBlocks_1 : decode prog_3_method_8_code 1 = .ok (.istore_n 1, 1) := by decide +kernel
theorem zd_R_countBlocks_2 : decode prog_3_method_8_code 2 = .ok (.aload_n 0, 1) := by decide +kernel
theorem zd_R_countBlocks_3 : decode prog_3_method_8_code 3 = .ok (.aload_n 0, 1) := by decide +kernel
theorem zd_R_countBlocks_4 : decode prog_3_method_8_code 4 = .ok (.getfield 22, 3) := by decide +kernel
theorem zd_R_countBlocks_7 : decode prog_3_method_8_code 7 = .ok (.invokevirtual 76, 3) := by decide +kernel
theorem zd_R_countBlocks_10 : decode prog_3_method_8_code 10 = .ok (.istore_n 2, 1) := by decide +kernel
theorem zd_R_countBlocks_11 : decode prog_3_method_8_code 11 = .ok (.iconst 0, 1) := by decide +kernel
theorem zd_R_countBlocks_12 : decode prog_3_method_8_code 12 = .ok (.istore_n 3, 1) := by decide +kernel
theorem zd_R_countBlocks_43 : decode prog_3_method_8_code 43 = .ok (.iload_n 1, 1) := by decide +kernel
theorem zd_R_countBlocks_44 : decode prog_3_method_8_code 44 = .ok (.ireturn, 1) := by decide +kernel
theorem zd_R_startOfBlock_11 : decode prog_3_method_9_code 11 = .ok (.iload_n 3, 1) := by decide +kernel
theorem zd_R_startOfBlock_12 : decode prog_3_method_9_code 12 = .ok (.iload_n 1, 1) := by decide +kernel
theorem zd_R_startOfBlock_13 : decode prog_3_method_9_code 13 = .ok (.if_icmp .ge 24, 3) := by decide +kernel
theorem zd_R_startOfBlock_16 : decode prog_3_method_9_code 16 = .ok (.iload_n 2, 1) := by decide +kernel
theorem zd_R_startOfBlock_17 : decode prog_3_method_9_code 17 = .ok (.iconst (-1), 1) := by decide +kernel
theorem zd_R_startOfBlock_18 : decode prog_3_method_9_code 18 = .ok (.if_icmp .eq 19, 3) := by decide +kernel
theorem zd_R_startOfBlock_21 : decode prog_3_method_9_code 21 = .ok (.aload_n 0, 1) := by decide +kernel
theorem zd_R_startOfBlock_22 : decode prog_3_method_9_code 22 = .ok (.aload_n 0, 1) := by decide +kernel
theorem zd_R_startOfBlock_23 : decode prog_3_method_9_code 23 = .ok (.iload_n 2, 1) := by decide +kernel
theorem zd_R_startOfBlock_24 : decode prog_3_method_9_code 24 = .ok (.invokevirtual 70, 3) := by decide +kernel
theorem zd_R_startOfBlock_27 : decode prog_3_method_9_code 27 = .ok (.invokevirtual 76, 3) := by decide +kernel
theorem zd_R_startOfBlock_30 : decode prog_3_method_9_code 30 = .ok (.istore_n 2, 1) := by decide +kernel
theorem zd_R_startOfBlock_31 : decode prog_3_method_9_code 31 = .ok (.iinc 3 1, 3) := by decide +kernel
theorem zd_R_startOfBlock_34 : decode prog_3_method_9_code 34 = .ok (.goto (-23), 3) := by decide +kernel
theorem zd_R_startOfBlock_0 : decode prog_3_method_9_code 0 = .ok (.aload_n 0, 1) := by decide +kernel
theorem zd_R_startOfBlock_1 : decode prog_3_method_9_code 1 = .ok (.aload_n 0, 1) := by decide +kernel
theorem zd_R_startOfBlock_2 : decode prog_3_method_9_code 2 = .ok (.getfield 22, 3) := by decide +kernel
theorem zd_R_startOfBlock_5 : decode prog_3_method_9_code 5 = .ok (.invokevirtual 76, 3) := by decide +kernel
theorem zd_R_startOfBlock_8 : decode prog_3_method_9_code 8 = .ok (.istore_n 2, 1) := by decide +kernel
theorem zd_R_startOfBlock_9 : decode prog_3_method_9_code 9 = .ok (.iconst 0, 1) := by decide +kernel
theorem zd_R_startOfBlock_10 : decode prog_3_method_9_code 10 = .ok (.istore_n 3, 1) := by decide +kernel
theorem zd_R_startOfBlock_37 : decode prog_3_method_9_code 37 = .ok (.iload_n 2, 1) := by decide +kernel
theorem zd_R_startOfBlock_38 : decode prog_3_method_9_code 38 = .ok (.ireturn, 1) := by decide +kernel
theorem zd_W_cell_0 : decode prog_4_method_4_code 0 = .ok (.iload_n 1, 1) := by decide +kernel
theorem zd_W_cell_1 : decode prog_4_method_4_code 1 = .ok (.aload_n 0, 1) := by decide +kernel
theorem zd_W_cell_2 : decode prog_4_method_4_code 2 = .ok (.getfield 15, 3) := by decide +kernel
theorem zd_W_cell_5 : decode prog_4_method_4_code 5 = .ok (.imul, 1) := by decide +kernel
theorem zd_W_cell_6 : decode prog_4_method_4_code 6 = .ok (.iload_n 2, 1) := by decide +kernel
theorem zd_W_cell_7 : decode prog_4_method_4_code 7 = .ok (.iadd, 1) := by decide +kernel
theorem zd_W_cell_8 : decode prog_4_method_4_code 8 = .ok (.istore_n 3, 1) := by decide +kernel
theorem zd_W_cell_9 : decode prog_4_method_4_code 9 = .ok (.iload_n 3, 1) := by decide +kernel
theorem zd_W_cell_10 : decode prog_4_method_4_code 10 = .ok (.ifCond .lt 21, 3) := by decide +kernel
theorem zd_W_cell_31 : decode prog_4_method_4_code 31 = .ok (.iconst (-1), 1) := by decide +kernel
theorem zd_W_cell_32 : decode prog_4_method_4_code 32 = .ok (.ireturn, 1) := by decide +kernel
theorem zd_W_cell_13 : decode prog_4_method_4_code 13 = .ok (.iload_n 3, 1) := by decide +kernel
theorem zd_W_cell_14 : decode prog_4_method_4_code 14 = .ok (.aload_n 0, 1) := by decide +kernel
theorem zd_W_cell_15 : decode prog_4_method_4_code 15 = .ok (.getfield 18, 3) := by decide +kernel
theorem zd_W_cell_18 : decode prog_4_method_4_code 18 = .ok (.arraylength, 1) := by decide +kernel
theorem zd_W_cell_19 : decode prog_4_method_4_code 19 = .ok (.if_icmp .ge 12, 3) := by decide +kernel
theorem zd_W_cell_22 : decode prog_4_method_4_code 22 = .ok (.aload_n 0, 1) := by decide +kernel
theorem zd_W_cell_23 : decode prog_4_method_4_code 23 = .ok (.getfield 18, 3) := by decide +kernel
theorem zd_W_cell_26 : decode prog_4_method_4_code 26 = .ok (.iload_n 3, 1) := by decide +kernel
theorem zd_W_cell_27 : decode prog_4_method_4_code 27 = .ok (.iaload, 1) := by decide +kernel
theorem zd_W_cell_28 : decode prog_4_method_4_code 28 = .ok (.goto 4, 3) := by decide +kernel
theorem zd_S_countFlying_0 : decode prog_5_method_2_code 0 = .ok (.aload_n 0, 1) := by decide +kernel
theorem zd_S_countFlying_1 : decode prog_5_method_2_code 1 = .ok (.getfield 12, 3) := by decide +kernel
theorem zd_S_countFlying_4 : decode prog_5_method_2_code 4 = .ok (.aload_n 0, 1) := by decide +kernel
theorem zd_S_countFlying_5 : decode prog_5_method_2_code 5 = .ok (.getfield 25, 3) := by decide +kernel
theorem zd_S_countFlying_8 : decode prog_5_method_2_code 8 = .ok (.aload_n 0, 1) := by decide +kernel
theorem zd_S_countFlying_9 : decode prog_5_method_2_code 9 = .ok (.getfield 29, 3) := by decide +kernel
theorem zd_S_countFlying_12 : decode prog_5_method_2_code 12 = .ok (.invokevirtual 65, 3) := by decide +kernel
theorem zd_S_countFlying_15 : decode prog_5_method_2_code 15 = .ok (.ireturn, 1) := by decide +kernel
theorem zd_S_startOfRepair_0 : decode prog_5_method_4_code 0 = .ok (.aload_n 0, 1) := by decide +kernel
theorem zd_S_startOfRepair_1 : decode prog_5_method_4_code 1 = .ok (.getfield 53, 3) := by decide +kernel
theorem zd_S_startOfRepair_4 : decode prog_5_method_4_code 4 = .ok (.iconst (-1), 1) := by decide +kernel
theorem zd_S_startOfRepair_5 : decode prog_5_method_4_code 5 = .ok (.if_icmp .ne 5, 3) := by decide +kernel
theorem zd_S_startOfRepair_10 : decode prog_5_method_4_code 10 = .ok (.aload_n 0, 1) := by decide +kernel
theorem zd_S_startOfRepair_11 : decode prog_5_method_4_code 11 = .ok (.getfield 12, 3) := by decide +kernel
theorem zd_S_startOfRepair_14 : decode prog_5_method_4_code 14 = .ok (.aload_n 0, 1) := by decide +kernel
theorem zd_S_startOfRepair_15 : decode prog_5_method_4_code 15 = .ok (.getfield 25, 3) := by decide +kernel
theorem zd_S_startOfRepair_18 : decode prog_5_method_4_code 18 = .ok (.aload_n 0, 1) := by decide +kernel
theorem zd_S_startOfRepair_19 : decode prog_5_method_4_code 19 = .ok (.getfield 56, 3) := by decide +kernel
theorem zd_S_startOfRepair_22 : decode prog_5_method_4_code 22 = .ok (.invokestatic 95, 3) := by decide +kernel
theorem zd_S_startOfRepair_25 : decode prog_5_method_4_code 25 = .ok (.aload_n 0, 1) := by decide +kernel
theorem zd_S_startOfRepair_26 : decode prog_5_method_4_code 26 = .ok (.getfield 29, 3) := by decide +kernel
theorem zd_S_startOfRepair_29 : decode prog_5_method_4_code 29 = .ok (.invokevirtual 76, 3) := by decide +kernel
theorem zd_S_startOfRepair_32 : decode prog_5_method_4_code 32 = .ok (.istore_n 1, 1) := by decide +kernel
theorem zd_S_startOfRepair_33 : decode prog_5_method_4_code 33 = .ok (.iload_n 1, 1) := by decide +kernel
theorem zd_S_startOfRepair_34 : decode prog_5_method_4_code 34 = .ok (.aload_n 0, 1) := by decide +kernel
theorem zd_S_startOfRepair_35 : decode prog_5_method_4_code 35 = .ok (.getfield 29, 3) := by decide +kernel
theorem zd_S_startOfRepair_38 : decode prog_5_method_4_code 38 = .ok (.if_icmp .lt 5, 3) := by decide +kernel
theorem zd_S_startOfRepair_43 : decode prog_5_method_4_code 43 = .ok (.aload_n 0, 1) := by decide +kernel
theorem zd_S_startOfRepair_44 : decode prog_5_method_4_code 44 = .ok (.getfield 12, 3) := by decide +kernel
theorem zd_S_startOfRepair_47 : decode prog_5_method_4_code 47 = .ok (.iload_n 1, 1) := by decide +kernel
theorem zd_S_startOfRepair_48 : decode prog_5_method_4_code 48 = .ok (.aload_n 0, 1) := by decide +kernel
theorem zd_S_startOfRepair_49 : decode prog_5_method_4_code 49 = .ok (.getfield 32, 3) := by decide +kernel
theorem zd_S_startOfRepair_52 : decode prog_5_method_4_code 52 = .ok (.invokevirtual 100, 3) := by decide +kernel
theorem zd_S_startOfRepair_55 : decode prog_5_method_4_code 55 = .ok (.aload_n 0, 1) := by decide +kernel
theorem zd_S_startOfRepair_56 : decode prog_5_method_4_code 56 = .ok (.getfield 32, 3) := by decide +kernel
theorem zd_S_startOfRepair_59 : decode prog_5_method_4_code 59 = .ok (.if_icmp .ge 7, 3) := by decide +kernel
theorem zd_S_startOfRepair_66 : decode prog_5_method_4_code 66 = .ok (.iconst 0, 1) := by decide +kernel
theorem zd_S_startOfRepair_67 : decode prog_5_method_4_code 67 = .ok (.istore_n 2, 1) := by decide +kernel
theorem zd_S_startOfRepair_68 : decode prog_5_method_4_code 68 = .ok (.iload_n 1, 1) := by decide +kernel
theorem zd_S_startOfRepair_69 : decode prog_5_method_4_code 69 = .ok (.aload_n 0, 1) := by decide +kernel
theorem zd_S_startOfRepair_70 : decode prog_5_method_4_code 70 = .ok (.getfield 25, 3) := by decide +kernel
theorem zd_S_startOfRepair_73 : decode prog_5_method_4_code 73 = .ok (.if_icmp .eq 7, 3) := by decide +kernel
theorem zd_S_startOfRepair_80 : decode prog_5_method_4_code 80 = .ok (.iload_n 1, 1) := by decide +kernel
theorem zd_S_startOfRepair_81 : decode prog_5_method_4_code 81 = .ok (.goto 4, 3) := by decide +kernel
theorem zd_S_startOfRepair_85 : decode prog_5_method_4_code 85 = .ok (.ireturn, 1) := by decide +kernel
theorem zd_S_startOfRepair_76 : decode prog_5_method_4_code 76 = .ok (.iload_n 2, 1) := by decide +kernel
theorem zd_S_startOfRepair_77 : decode prog_5_method_4_code 77 = .ok (.ifCond .eq 7, 3) := by decide +kernel
theorem zd_S_startOfRepair_84 : decode prog_5_method_4_code 84 = .ok (.iconst (-1), 1) := by decide +kernel
theorem zd_S_startOfRepair_62 : decode prog_5_method_4_code 62 = .ok (.iconst 1, 1) := by decide +kernel
theorem zd_S_startOfRepair_63 : decode prog_5_method_4_code 63 = .ok (.goto 4, 3) := by decide +kernel
theorem zd_S_startOfRepair_41 : decode prog_5_method_4_code 41 = .ok (.iconst (-1), 1) := by decide +kernel
theorem zd_S_startOfRepair_42 : decode prog_5_method_4_code 42 = .ok (.ireturn, 1) := by decide +kernel
theorem zd_S_startOfRepair_8 : decode prog_5_method_4_code 8 = .ok (.iconst (-1), 1) := by decide +kernel
theorem zd_S_startOfRepair_9 : decode prog_5_method_4_code 9 = .ok (.ireturn, 1) := by decide +kernel
theorem zd_S_endOfRun_0 : decode prog_5_method_5_code 0 = .ok (.aload_n 0, 1) := by decide +kernel
theorem zd_S_endOfRun_1 : decode prog_5_method_5_code 1 = .ok (.getfield 12, 3) := by decide +kernel
theorem zd_S_endOfRun_4 : decode prog_5_method_5_code 4 = .ok (.iload_n 1, 1) := by decide +kernel
theorem zd_S_endOfRun_5 : decode prog_5_method_5_code 5 = .ok (.iload_n 1, 1) := by decide +kernel
theorem zd_S_endOfRun_6 : decode prog_5_method_5_code 6 = .ok (.iconst 4, 1) := by decide +kernel
theorem zd_S_endOfRun_7 : decode prog_5_method_5_code 7 = .ok (.iadd, 1) := by decide +kernel
theorem zd_S_endOfRun_8 : decode prog_5_method_5_code 8 = .ok (.iload_n 2, 1) := by decide +kernel
theorem zd_S_endOfRun_9 : decode prog_5_method_5_code 9 = .ok (.invokestatic 103, 3) := by decide +kernel
theorem zd_S_endOfRun_12 : decode prog_5_method_5_code 12 = .ok (.invokevirtual 100, 3) := by decide +kernel
theorem zd_S_endOfRun_15 : decode prog_5_method_5_code 15 = .ok (.ireturn, 1) := by decide +kernel
theorem zd_S_endOfFresh_0 : decode prog_5_method_6_code 0 = .ok (.aload_n 0, 1) := by decide +kernel
theorem zd_S_endOfFresh_1 : decode prog_5_method_6_code 1 = .ok (.getfield 29, 3) := by decide +kernel
theorem zd_S_endOfFresh_4 : decode prog_5_method_6_code 4 = .ok (.aload_n 0, 1) := by decide +kernel
theorem zd_S_endOfFresh_5 : decode prog_5_method_6_code 5 = .ok (.getfield 35, 3) := by decide +kernel
theorem zd_S_endOfFresh_8 : decode prog_5_method_6_code 8 = .ok (.if_icmp .lt 8, 3) := by decide +kernel
theorem zd_S_endOfFresh_16 : decode prog_5_method_6_code 16 = .ok (.aload_n 0, 1) := by decide +kernel
theorem zd_S_endOfFresh_17 : decode prog_5_method_6_code 17 = .ok (.invokevirtual 106, 3) := by decide +kernel
theorem zd_S_endOfFresh_20 : decode prog_5_method_6_code 20 = .ok (.istore_n 1, 1) := by decide +kernel
theorem zd_S_endOfFresh_21 : decode prog_5_method_6_code 21 = .ok (.aload_n 0, 1) := by decide +kernel
theorem zd_S_endOfFresh_22 : decode prog_5_method_6_code 22 = .ok (.getfield 29, 3) := by decide +kernel
theorem zd_S_endOfFresh_25 : decode prog_5_method_6_code 25 = .ok (.aload_n 0, 1) := by decide +kernel
theorem zd_S_endOfFresh_26 : decode prog_5_method_6_code 26 = .ok (.getfield 38, 3) := by decide +kernel
theorem zd_S_endOfFresh_29 : decode prog_5_method_6_code 29 = .ok (.if_icmp .lt 21, 3) := by decide +kernel
theorem zd_S_endOfFresh_50 : decode prog_5_method_6_code 50 = .ok (.aload_n 0, 1) := by decide +kernel
theorem zd_S_endOfFresh_51 : decode prog_5_method_6_code 51 = .ok (.aload_n 0, 1) := by decide +kernel
theorem zd_S_endOfFresh_52 : decode prog_5_method_6_code 52 = .ok (.getfield 29, 3) := by decide +kernel
theorem zd_S_endOfFresh_55 : decode prog_5_method_6_code 55 = .ok (.aload_n 0, 1) := by decide +kernel
theorem zd_S_endOfFresh_56 : decode prog_5_method_6_code 56 = .ok (.getfield 35, 3) := by decide +kernel
theorem zd_S_endOfFresh_59 : decode prog_5_method_6_code 59 = .ok (.aload_n 0, 1) := by decide +kernel
theorem zd_S_endOfFresh_60 : decode prog_5_method_6_code 60 = .ok (.getfield 38, 3) := by decide +kernel
theorem zd_S_endOfFresh_63 : decode prog_5_method_6_code 63 = .ok (.invokestatic 103, 3) := by decide +kernel
theorem zd_S_endOfFresh_66 : decode prog_5_method_6_code 66 = .ok (.invokevirtual 73, 3) := by decide +kernel
theorem zd_S_endOfFresh_69 : decode prog_5_method_6_code 69 = .ok (.istore_n 2, 1) := by decide +kernel
theorem zd_S_endOfFresh_70 : decode prog_5_method_6_code 70 = .ok (.iload_n 1, 1) := by decide +kernel
theorem zd_S_endOfFresh_71 : decode prog_5_method_6_code 71 = .ok (.iload_n 2, 1) := by decide +kernel
theorem zd_S_endOfFresh_72 : decode prog_5_method_6_code 72 = .ok (.iadd, 1) := by decide +kernel
theorem zd_S_endOfFresh_73 : decode prog_5_method_6_code 73 = .ok (.aload_n 0, 1) := by decide +kernel
theorem zd_S_endOfFresh_74 : decode prog_5_method_6_code 74 = .ok (.getfield 29, 3) := by decide +kernel
theorem zd_S_endOfFresh_77 : decode prog_5_method_6_code 77 = .ok (.isub, 1) := by decide +kernel
theorem zd_S_endOfFresh_78 : decode prog_5_method_6_code 78 = .ok (.aload_n 0, 1) := by decide +kernel
theorem zd_S_endOfFresh_79 : decode prog_5_method_6_code 79 = .ok (.getfield 41, 3) := by decide +kernel
theorem zd_S_endOfFresh_82 : decode prog_5_method_6_code 82 = .ok (.aload_n 0, 1) := by decide +kernel
theorem zd_S_endOfFresh_83 : decode prog_5_method_6_code 83 = .ok (.getfield 47, 3) := by decide +kernel
theorem zd_S_endOfFresh_86 : decode prog_5_method_6_code 86 = .ok (.invokestatic 103, 3) := by decide +kernel
theorem zd_S_endOfFresh_89 : decode prog_5_method_6_code 89 = .ok (.if_icmp .gt 7, 3) := by decide +kernel
theorem zd_S_endOfFresh_96 : decode prog_5_method_6_code 96 = .ok (.iconst 0, 1) := by decide +kernel
theorem zd_S_endOfFresh_97 : decode prog_5_method_6_code 97 = .ok (.istore_n 3, 1) := by decide +kernel
theorem zd_S_endOfFresh_98 : decode prog_5_method_6_code 98 = .ok (.iload_n 1, 1) := by decide +kernel
theorem zd_S_endOfFresh_99 : decode prog_5_method_6_code 99 = .ok (.ifCond .eq 7, 3) := by decide +kernel
theorem zd_S_endOfFresh_106 : decode prog_5_method_6_code 106 = .ok (.iload_n 2, 1) := by decide +kernel
theorem zd_S_endOfFresh_107 : decode prog_5_method_6_code 107 = .ok (.goto 7, 3) := by decide +kernel
theorem zd_S_endOfFresh_114 : decode prog_5_method_6_code 114 = .ok (.ireturn, 1) := by decide +kernel
theorem zd_S_endOfFresh_102 : decode prog_5_method_6_code 102 = .ok (.iload_n 3, 1) := by decide +kernel
theorem zd_S_endOfFresh_103 : decode prog_5_method_6_code 103 = .ok (.ifCond .eq 7, 3) := by decide +kernel
theorem zd_S_endOfFresh_110 : decode prog_5_method_6_code 110 = .ok (.aload_n 0, 1) := by decide +kernel
theorem zd_S_endOfFresh_111 : decode prog_5_method_6_code 111 = .ok (.getfield 29, 3) := by decide +kernel
theorem zd_S_endOfFresh_92 : decode prog_5_method_6_code 92 = .ok (.iconst 1, 1) := by decide +kernel
theorem zd_S_endOfFresh_93 : decode prog_5_method_6_code 93 = .ok (.goto 4, 3) := by decide +kernel
theorem zd_S_endOfFresh_32 : decode prog_5_method_6_code 32 = .ok (.iload_n 1, 1) := by decide +kernel
theorem zd_S_endOfFresh_33 : decode prog_5_method_6_code 33 = .ok (.ifCond .ne 12, 3) := by decide +kernel
theorem zd_S_endOfFresh_45 : decode prog_5_method_6_code 45 = .ok (.aload_n 0, 1) := by decide +kernel
theorem zd_S_endOfFresh_46 : decode prog_5_method_6_code 46 = .ok (.getfield 29, 3) := by decide +kernel
theorem zd_S_endOfFresh_49 : decode prog_5_method_6_code 49 = .ok (.ireturn, 1) := by decide +kernel
theorem zd_S_endOfFresh_36 : decode prog_5_method_6_code 36 = .ok (.aload_n 0, 1) := by decide +kernel
theorem zd_S_endOfFresh_37 : decode prog_5_method_6_code 37 = .ok (.getfield 29, 3) := by decide +kernel
theorem zd_S_endOfFresh_40 : decode prog_5_method_6_code 40 = .ok (.iconst 1, 1) := by decide +kernel
theorem zd_S_endOfFresh_41 : decode prog_5_method_6_code 41 = .ok (.iadd, 1) := by decide +kernel
theorem zd_S_endOfFresh_42 : decode prog_5_method_6_code 42 = .ok (.goto 7, 3) := by decide +kernel
theorem zd_S_endOfFresh_11 : decode prog_5_method_6_code 11 = .ok (.aload_n 0, 1) := by decide +kernel
theorem zd_S_endOfFresh_12 : decode prog_5_method_6_code 12 = .ok (.getfield 29, 3) := by decide +kernel
theorem zd_S_endOfFresh_15 : decode prog_5_method_6_code 15 = .ok (.ireturn, 1) := by decide +kernel
theorem zd_T_timeSegment_0 : decode prog_6_method_7_code 0 = .ok (.aload_n 0, 1) := by decide +kernel
theorem zd_T_timeSegment_1 : decode prog_6_method_7_code 1 = .ok (.getfield 21, 3) := by decide +kernel
theorem zd_T_timeSegment_4 : decode prog_6_method_7_code 4 = .ok (.iconst (-1), 1) := by decide +kernel
theorem zd_T_timeSegment_5 : decode prog_6_method_7_code 5 = .ok (.if_icmp .ne 16, 3) := by decide +kernel
theorem zd_T_timeSegment_21 : decode prog_6_method_7_code 21 = .ok (.return_, 1) := by decide +kernel
theorem zd_T_timeSegment_8 : decode prog_6_method_7_code 8 = .ok (.aload_n 0, 1) := by decide +kernel
theorem zd_T_timeSegment_9 : decode prog_6_method_7_code 9 = .ok (.iload_n 1, 1) := by decide +kernel
theorem zd_T_timeSegment_10 : decode prog_6_method_7_code 10 = .ok (.putfield 21, 3) := by decide +kernel
theorem zd_T_timeSegment_13 : decode prog_6_method_7_code 13 = .ok (.aload_n 0, 1) := by decide +kernel
theorem zd_T_timeSegment_14 : decode prog_6_method_7_code 14 = .ok (.aload_n 0, 1) := by decide +kernel
theorem zd_T_timeSegment_15 : decode prog_6_method_7_code 15 = .ok (.getfield 9, 3) := by decide +kernel
theorem zd_T_timeSegment_18 : decode prog_6_method_7_code 18 = .ok (.putfield 30, 3) := by decide +kernel
theorem zd_T_startAnew_0 : decode prog_6_method_3_code 0 = .ok (.aload_n 0, 1) := by decide +kernel
theorem zd_T_startAnew_1 : decode prog_6_method_3_code 1 = .ok (.aload_n 0, 1) := by decide +kernel
theorem zd_T_startAnew_2 : decode prog_6_method_3_code 2 = .ok (.getfield 9, 3) := by decide +kernel
theorem zd_T_startAnew_5 : decode prog_6_method_3_code 5 = .ok (.aload_n 0, 1) := by decide +kernel
theorem zd_T_startAnew_6 : decode prog_6_method_3_code 6 = .ok (.getfield 15, 3) := by decide +kernel
theorem zd_T_startAnew_9 : decode prog_6_method_3_code 9 = .ok (.iadd, 1) := by decide +kernel
theorem zd_T_startAnew_10 : decode prog_6_method_3_code 10 = .ok (.putfield 18, 3) := by decide +kernel
theorem zd_T_startAnew_13 : decode prog_6_method_3_code 13 = .ok (.return_, 1) := by decide +kernel
theorem zd_T_startIfStopped_0 : decode prog_6_method_4_code 0 = .ok (.aload_n 0, 1) := by decide +kernel
theorem zd_T_startIfStopped_1 : decode prog_6_method_4_code 1 = .ok (.getfield 18, 3) := by decide +kernel
theorem zd_T_startIfStopped_4 : decode prog_6_method_4_code 4 = .ok (.iconst (-1), 1) := by decide +kernel
theorem zd_T_startIfStopped_5 : decode prog_6_method_4_code 5 = .ok (.if_icmp .ne 7, 3) := by decide +kernel
theorem zd_T_startIfStopped_12 : decode prog_6_method_4_code 12 = .ok (.return_, 1) := by decide +kernel
theorem zd_T_startIfStopped_8 : decode prog_6_method_4_code 8 = .ok (.aload_n 0, 1) := by decide +kernel
theorem zd_T_startIfStopped_9 : decode prog_6_method_4_code 9 = .ok (.invokevirtual 37, 3) := by decide +kernel
theorem zd_S_noteSent_0 : decode prog_5_method_7_code 0 = .ok (.aload_n 0, 1) := by decide +kernel
theorem zd_S_noteSent_1 : decode prog_5_method_7_code 1 = .ok (.dup, 1) := by decide +kernel
theorem zd_S_noteSent_2 : decode prog_5_method_7_code 2 = .ok (.getfield 59, 3) := by decide +kernel
theorem zd_S_noteSent_5 : decode prog_5_method_7_code 5 = .ok (.iconst 1, 1) := by decide +kernel
theorem zd_S_noteSent_6 : decode prog_5_method_7_code 6 = .ok (.iadd, 1) := by decide +kernel
theorem zd_S_noteSent_7 : decode prog_5_method_7_code 7 = .ok (.putfield 59, 3) := by decide +kernel
theorem zd_S_noteSent_10 : decode prog_5_method_7_code 10 = .ok (.iload_n 1, 1) := by decide +kernel
theorem zd_S_noteSent_11 : decode prog_5_method_7_code 11 = .ok (.aload_n 0, 1) := by decide +kernel
theorem zd_S_noteSent_12 : decode prog_5_method_7_code 12 = .ok (.getfield 32, 3) := by decide +kernel
theorem zd_S_noteSent_15 : decode prog_5_method_7_code 15 = .ok (.if_icmp .ge 16, 3) := by decide +kernel
theorem zd_S_noteSent_31 : decode prog_5_method_7_code 31 = .ok (.aload_n 0, 1) := by decide +kernel
theorem zd_S_noteSent_32 : decode prog_5_method_7_code 32 = .ok (.getfield 21, 3) := by decide +kernel
theorem zd_S_noteSent_35 : decode prog_5_method_7_code 35 = .ok (.iload_n 2, 1) := by decide +kernel
theorem zd_S_noteSent_36 : decode prog_5_method_7_code 36 = .ok (.invokevirtual 109, 3) := by decide +kernel
theorem zd_S_noteSent_39 : decode prog_5_method_7_code 39 = .ok (.aload_n 0, 1) := by decide +kernel
theorem zd_S_noteSent_40 : decode prog_5_method_7_code 40 = .ok (.aload_n 0, 1) := by decide +kernel
theorem zd_S_noteSent_41 : decode prog_5_method_7_code 41 = .ok (.getfield 32, 3) := by decide +kernel
theorem zd_S_noteSent_44 : decode prog_5_method_7_code 44 = .ok (.aload_n 0, 1) := by decide +kernel
theorem zd_S_noteSent_45 : decode prog_5_method_7_code 45 = .ok (.getfield 29, 3) := by decide +kernel
theorem zd_S_noteSent_48 : decode prog_5_method_7_code 48 = .ok (.invokestatic 95, 3) := by decide +kernel
theorem zd_S_noteSent_51 : decode prog_5_method_7_code 51 = .ok (.putfield 32, 3) := by decide +kernel
theorem zd_S_noteSent_54 : decode prog_5_method_7_code 54 = .ok (.aload_n 0, 1) := by decide +kernel
theorem zd_S_noteSent_55 : decode prog_5_method_7_code 55 = .ok (.getfield 21, 3) := by decide +kernel
theorem zd_S_noteSent_58 : decode prog_5_method_7_code 58 = .ok (.invokevirtual 113, 3) := by decide +kernel
theorem zd_S_noteSent_61 : decode prog_5_method_7_code 61 = .ok (.return_, 1) := by decide +kernel
theorem zd_S_noteSent_18 : decode prog_5_method_7_code 18 = .ok (.aload_n 0, 1) := by decide +kernel
theorem zd_S_noteSent_19 : decode prog_5_method_7_code 19 = .ok (.dup, 1) := by decide +kernel
theorem zd_S_noteSent_20 : decode prog_5_method_7_code 20 = .ok (.getfield 62, 3) := by decide +kernel
theorem zd_S_noteSent_23 : decode prog_5_method_7_code 23 = .ok (.iconst 1, 1) := by decide +kernel
theorem zd_S_noteSent_24 : decode prog_5_method_7_code 24 = .ok (.iadd, 1) := by decide +kernel
theorem zd_S_noteSent_25 : decode prog_5_method_7_code 25 = .ok (.putfield 62, 3) := by decide +kernel
theorem zd_S_noteSent_28 : decode prog_5_method_7_code 28 = .ok (.goto 11, 3) := by decide +kernel
theorem zd_S_sendInto_0 : decode prog_5_method_3_code 0 = .ok (.aload_n 0, 1) := by decide +kernel
theorem zd_S_sendInto_1 : decode prog_5_method_3_code 1 = .ok (.invokevirtual 69, 3) := by decide +kernel
theorem zd_S_sendInto_4 : decode prog_5_method_3_code 4 = .ok (.istore_n 2, 1) := by decide +kernel
theorem zd_S_sendInto_5 : decode prog_5_method_3_code 5 = .ok (.iload_n 2, 1) := by decide +kernel
theorem zd_S_sendInto_6 : decode prog_5_method_3_code 6 = .ok (.iconst (-1), 1) := by decide +kernel
theorem zd_S_sendInto_7 : decode prog_5_method_3_code 7 = .ok (.if_icmp .eq 21, 3) := by decide +kernel
theorem zd_S_sendInto_28 : decode prog_5_method_3_code 28 = .ok (.aload_n 0, 1) := by decide +kernel
theorem zd_S_sendInto_29 : decode prog_5_method_3_code 29 = .ok (.aload_n 0, 1) := by decide +kernel
theorem zd_S_sendInto_30 : decode prog_5_method_3_code 30 = .ok (.getfield 12, 3) := by decide +kernel
theorem zd_S_sendInto_33 : decode prog_5_method_3_code 33 = .ok (.aload_n 0, 1) := by decide +kernel
theorem zd_S_sendInto_34 : decode prog_5_method_3_code 34 = .ok (.getfield 29, 3) := by decide +kernel
theorem zd_S_sendInto_37 : decode prog_5_method_3_code 37 = .ok (.aload_n 0, 1) := by decide +kernel
theorem zd_S_sendInto_38 : decode prog_5_method_3_code 38 = .ok (.getfield 35, 3) := by decide +kernel
theorem zd_S_sendInto_41 : decode prog_5_method_3_code 41 = .ok (.invokevirtual 76, 3) := by decide +kernel
theorem zd_S_sendInto_44 : decode prog_5_method_3_code 44 = .ok (.putfield 29, 3) := by decide +kernel
theorem zd_S_sendInto_47 : decode prog_5_method_3_code 47 = .ok (.aload_n 0, 1) := by decide +kernel
theorem zd_S_sendInto_48 : decode prog_5_method_3_code 48 = .ok (.getfield 29, 3) := by decide +kernel
theorem zd_S_sendInto_51 : decode prog_5_method_3_code 51 = .ok (.istore_n 2, 1) := by decide +kernel
theorem zd_S_sendInto_52 : decode prog_5_method_3_code 52 = .ok (.aload_n 0, 1) := by decide +kernel
theorem zd_S_sendInto_53 : decode prog_5_method_3_code 53 = .ok (.invokevirtual 79, 3) := by decide +kernel
theorem zd_S_sendInto_56 : decode prog_5_method_3_code 56 = .ok (.istore_n 3, 1) := by decide +kernel
theorem zd_S_sendInto_57 : decode prog_5_method_3_code 57 = .ok (.aload_n 0, 1) := by decide +kernel
theorem zd_S_sendInto_58 : decode prog_5_method_3_code 58 = .ok (.iload_n 3, 1) := by decide +kernel
theorem zd_S_sendInto_59 : decode prog_5_method_3_code 59 = .ok (.putfield 29, 3) := by decide +kernel
theorem zd_S_sendInto_62 : decode prog_5_method_3_code 62 = .ok (.iload_n 3, 1) := by decide +kernel
theorem zd_S_sendInto_63 : decode prog_5_method_3_code 63 = .ok (.iload_n 2, 1) := by decide +kernel
theorem zd_S_sendInto_64 : decode prog_5_method_3_code 64 = .ok (.if_icmp .le 31, 3) := by decide +kernel
theorem zd_S_sendInto_95 : decode prog_5_method_3_code 95 = .ok (.iload_n 3, 1) := by decide +kernel
theorem zd_S_sendInto_96 : decode prog_5_method_3_code 96 = .ok (.iload_n 2, 1) := by decide +kernel
theorem zd_S_sendInto_97 : decode prog_5_method_3_code 97 = .ok (.isub, 1) := by decide +kernel
theorem zd_S_sendInto_98 : decode prog_5_method_3_code 98 = .ok (.ireturn, 1) := by decide +kernel
theorem zd_S_sendInto_67 : decode prog_5_method_3_code 67 = .ok (.aload_n 0, 1) := by decide +kernel
theorem zd_S_sendInto_68 : decode prog_5_method_3_code 68 = .ok (.iload_n 2, 1) := by decide +kernel
theorem zd_S_sendInto_69 : decode prog_5_method_3_code 69 = .ok (.iload_n 3, 1) := by decide +kernel
theorem zd_S_sendInto_70 : decode prog_5_method_3_code 70 = .ok (.invokevirtual 82, 3) := by decide +kernel
theorem zd_S_sendInto_73 : decode prog_5_method_3_code 73 = .ok (.aload_n 1, 1) := by decide +kernel
theorem zd_S_sendInto_74 : decode prog_5_method_3_code 74 = .ok (.invokevirtual 86, 3) := by decide +kernel
theorem zd_S_sendInto_77 : decode prog_5_method_3_code 77 = .ok (.istore 4, 2) := by decide +kernel
theorem zd_S_sendInto_79 : decode prog_5_method_3_code 79 = .ok (.aload_n 1, 1) := by decide +kernel
theorem zd_S_sendInto_80 : decode prog_5_method_3_code 80 = .ok (.iload 4, 2) := by decide +kernel
theorem zd_S_sendInto_82 : decode prog_5_method_3_code 82 = .ok (.iconst 0, 1) := by decide +kernel
theorem zd_S_sendInto_83 : decode prog_5_method_3_code 83 = .ok (.iload_n 2, 1) := by decide +kernel
theorem zd_S_sendInto_84 : decode prog_5_method_3_code 84 = .ok (.invokevirtual 91, 3) := by decide +kernel
theorem zd_S_sendInto_87 : decode prog_5_method_3_code 87 = .ok (.aload_n 1, 1) := by decide +kernel
theorem zd_S_sendInto_88 : decode prog_5_method_3_code 88 = .ok (.iload 4, 2) := by decide +kernel
theorem zd_S_sendInto_90 : decode prog_5_method_3_code 90 = .ok (.iconst 1, 1) := by decide +kernel
theorem zd_S_sendInto_91 : decode prog_5_method_3_code 91 = .ok (.iload_n 3, 1) := by decide +kernel
theorem zd_S_sendInto_92 : decode prog_5_method_3_code 92 = .ok (.invokevirtual 91, 3) := by decide +kernel
theorem zd_S_sendInto_10 : decode prog_5_method_3_code 10 = .ok (.aload_n 0, 1) := by decide +kernel
theorem zd_S_sendInto_11 : decode prog_5_method_3_code 11 = .ok (.iload_n 2, 1) := by decide +kernel
theorem zd_S_sendInto_12 : decode prog_5_method_3_code 12 = .ok (.aload_n 0, 1) := by decide +kernel
theorem zd_S_sendInto_13 : decode prog_5_method_3_code 13 = .ok (.getfield 29, 3) := by decide +kernel
theorem zd_S_sendInto_16 : decode prog_5_method_3_code 16 = .ok (.invokevirtual 73, 3) := by decide +kernel
theorem zd_S_sendInto_19 : decode prog_5_method_3_code 19 = .ok (.istore_n 3, 1) := by decide +kernel
theorem zd_S_sendInto_20 : decode prog_5_method_3_code 20 = .ok (.aload_n 0, 1) := by decide +kernel
theorem zd_S_sendInto_21 : decode prog_5_method_3_code 21 = .ok (.iload_n 3, 1) := by decide +kernel
theorem zd_S_sendInto_22 : decode prog_5_method_3_code 22 = .ok (.putfield 56, 3) := by decide +kernel
theorem zd_S_sendInto_25 : decode prog_5_method_3_code 25 = .ok (.goto 37, 3) := by decide +kernel
theorem zd_T_passTick_0 : decode prog_6_method_2_code 0 = .ok (.aload_n 0, 1) := by decide +kernel
theorem zd_T_passTick_1 : decode prog_6_method_2_code 1 = .ok (.dup, 1) := by decide +kernel
theorem zd_T_passTick_2 : decode prog_6_method_2_code 2 = .ok (.getfield 9, 3) := by decide +kernel
theorem zd_T_passTick_5 : decode prog_6_method_2_code 5 = .ok (.iconst 1, 1) := by decide +kernel
theorem zd_T_passTick_6 : decode prog_6_method_2_code 6 = .ok (.iadd, 1) := by decide +kernel
theorem zd_T_passTick_7 : decode prog_6_method_2_code 7 = .ok (.putfield 9, 3) := by decide +kernel
theorem zd_T_passTick_10 : decode prog_6_method_2_code 10 = .ok (.aload_n 0, 1) := by decide +kernel
theorem zd_T_passTick_11 : decode prog_6_method_2_code 11 = .ok (.getfield 18, 3) := by decide +kernel
theorem zd_T_passTick_14 : decode prog_6_method_2_code 14 = .ok (.iconst (-1), 1) := by decide +kernel
theorem zd_T_passTick_15 : decode prog_6_method_2_code 15 = .ok (.if_icmp .eq 18, 3) := by decide +kernel
theorem zd_T_passTick_33 : decode prog_6_method_2_code 33 = .ok (.iconst 0, 1) := by decide +kernel
theorem zd_T_passTick_34 : decode prog_6_method_2_code 34 = .ok (.ireturn, 1) := by decide +kernel
theorem zd_T_passTick_18 : decode prog_6_method_2_code 18 = .ok (.aload_n 0, 1) := by decide +kernel
theorem zd_T_passTick_19 : decode prog_6_method_2_code 19 = .ok (.getfield 9, 3) := by decide +kernel
theorem zd_T_passTick_22 : decode prog_6_method_2_code 22 = .ok (.aload_n 0, 1) := by decide +kernel
theorem zd_T_passTick_23 : decode prog_6_method_2_code 23 = .ok (.getfield 18, 3) := by decide +kernel
theorem zd_T_passTick_26 : decode prog_6_method_2_code 26 = .ok (.if_icmp .ne 7, 3) := by decide +kernel
theorem zd_T_passTick_29 : decode prog_6_method_2_code 29 = .ok (.iconst 1, 1) := by decide +kernel
theorem zd_T_passTick_30 : decode prog_6_method_2_code 30 = .ok (.goto 4, 3) := by decide +kernel
theorem zd_S_halfOfFlying_0 : decode prog_5_method_10_code 0 = .ok (.bipush 8, 2) := by decide +kernel
theorem zd_S_halfOfFlying_2 : decode prog_5_method_10_code 2 = .ok (.aload_n 0, 1) := by decide +kernel
theorem zd_S_halfOfFlying_3 : decode prog_5_method_10_code 3 = .ok (.invokevirtual 106, 3) := by decide +kernel
theorem zd_S_halfOfFlying_6 : decode prog_5_method_10_code 6 = .ok (.iconst 2, 1) := by decide +kernel
theorem zd_S_halfOfFlying_7 : decode prog_5_method_10_code 7 = .ok (.idiv, 1) := by decide +kernel
theorem zd_S_halfOfFlying_8 : decode prog_5_method_10_code 8 = .ok (.invokestatic 95, 3) := by decide +kernel
theorem zd_S_halfOfFlying_11 : decode prog_5_method_10_code 11 = .ok (.ireturn, 1) := by decide +kernel
theorem zd_T_forgetTiming_0 : decode prog_6_method_8_code 0 = .ok (.aload_n 0, 1) := by decide +kernel
theorem zd_T_forgetTiming_1 : decode prog_6_method_8_code 1 = .ok (.iconst (-1), 1) := by decide +kernel
theorem zd_T_forgetTiming_2 : decode prog_6_method_8_code 2 = .ok (.putfield 21, 3) := by decide +kernel
theorem zd_T_forgetTiming_5 : decode prog_6_method_8_code 5 = .ok (.return_, 1) := by decide +kernel
theorem zd_T_stop_0 : decode prog_6_method_5_code 0 = .ok (.aload_n 0, 1) := by decide +kernel
theorem zd_T_stop_1 : decode prog_6_method_5_code 1 = .ok (.iconst (-1), 1) := by decide +kernel
theorem zd_T_stop_2 : decode prog_6_method_5_code 2 = .ok (.putfield 18, 3) := by decide +kernel
theorem zd_T_stop_5 : decode prog_6_method_5_code 5 = .ok (.return_, 1) := by decide +kernel
theorem zd_T_backOff_0 : decode prog_6_method_6_code 0 = .ok (.aload_n 0, 1) := by decide +kernel
theorem zd_T_backOff_1 : decode prog_6_method_6_code 1 = .ok (.bipush 64, 2) := by decide +kernel
theorem zd_T_backOff_3 : decode prog_6_method_6_code 3 = .ok (.iconst 2, 1) := by decide +kernel
theorem zd_T_backOff_4 : decode prog_6_method_6_code 4 = .ok (.aload_n 0, 1) := by decide +kernel
theorem zd_T_backOff_5 : decode prog_6_method_6_code 5 = .ok (.getfield 15, 3) := by decide +kernel
theorem zd_T_backOff_8 : decode prog_6_method_6_code 8 = .ok (.imul, 1) := by decide +kernel
theorem zd_T_backOff_9 : decode prog_6_method_6_code 9 = .ok (.invokestatic 40, 3) := by decide +kernel
theorem zd_T_backOff_12 : decode prog_6_method_6_code 12 = .ok (.putfield 15, 3) := by decide +kernel
theorem zd_T_backOff_15 : decode prog_6_method_6_code 15 = .ok (.aload_n 0, 1) := by decide +kernel
theorem zd_T_backOff_16 : decode prog_6_method_6_code 16 = .ok (.invokevirtual 46, 3) := by decide +kernel
theorem zd_T_backOff_19 : decode prog_6_method_6_code 19 = .ok (.aload_n 0, 1) := by decide +kernel
theorem zd_T_backOff_20 : decode prog_6_method_6_code 20 = .ok (.invokevirtual 49, 3) := by decide +kernel
theorem zd_T_backOff_23 : decode prog_6_method_6_code 23 = .ok (.return_, 1) := by decide +kernel
theorem zd_S_startOver_0 : decode prog_5_method_9_code 0 = .ok (.aload_n 0, 1) := by decide +kernel
theorem zd_S_startOver_1 : decode prog_5_method_9_code 1 = .ok (.aload_n 0, 1) := by decide +kernel
theorem zd_S_startOver_2 : decode prog_5_method_9_code 2 = .ok (.invokevirtual 123, 3) := by decide +kernel
theorem zd_S_startOver_5 : decode prog_5_method_9_code 5 = .ok (.putfield 44, 3) := by decide +kernel
theorem zd_S_startOver_8 : decode prog_5_method_9_code 8 = .ok (.aload_n 0, 1) := by decide +kernel
theorem zd_S_startOver_9 : decode prog_5_method_9_code 9 = .ok (.iconst 4, 1) := by decide +kernel
theorem zd_S_startOver_10 : decode prog_5_method_9_code 10 = .ok (.putfield 41, 3) := by decide +kernel
theorem zd_S_startOver_13 : decode prog_5_method_9_code 13 = .ok (.aload_n 0, 1) := by decide +kernel
theorem zd_S_startOver_14 : decode prog_5_method_9_code 14 = .ok (.getfield 21, 3) := by decide +kernel
theorem zd_S_startOver_17 : decode prog_5_method_9_code 17 = .ok (.invokevirtual 126, 3) := by decide +kernel
theorem zd_S_startOver_20 : decode prog_5_method_9_code 20 = .ok (.aload_n 0, 1) := by decide +kernel
theorem zd_S_startOver_21 : decode prog_5_method_9_code 21 = .ok (.getfield 12, 3) := by decide +kernel
theorem zd_S_startOver_24 : decode prog_5_method_9_code 24 = .ok (.aload_n 0, 1) := by decide +kernel
theorem zd_S_startOver_25 : decode prog_5_method_9_code 25 = .ok (.getfield 25, 3) := by decide +kernel
theorem zd_S_startOver_28 : decode prog_5_method_9_code 28 = .ok (.aload_n 0, 1) := by decide +kernel
theorem zd_S_startOver_29 : decode prog_5_method_9_code 29 = .ok (.getfield 32, 3) := by decide +kernel
theorem zd_S_startOver_32 : decode prog_5_method_9_code 32 = .ok (.invokevirtual 129, 3) := by decide +kernel
theorem zd_S_startOver_35 : decode prog_5_method_9_code 35 = .ok (.aload_n 0, 1) := by decide +kernel
theorem zd_S_startOver_36 : decode prog_5_method_9_code 36 = .ok (.aload_n 0, 1) := by decide +kernel
theorem zd_S_startOver_37 : decode prog_5_method_9_code 37 = .ok (.getfield 25, 3) := by decide +kernel
theorem zd_S_startOver_40 : decode prog_5_method_9_code 40 = .ok (.putfield 29, 3) := by decide +kernel
theorem zd_S_startOver_43 : decode prog_5_method_9_code 43 = .ok (.aload_n 0, 1) := by decide +kernel
theorem zd_S_startOver_44 : decode prog_5_method_9_code 44 = .ok (.iconst (-1), 1) := by decide +kernel
theorem zd_S_startOver_45 : decode prog_5_method_9_code 45 = .ok (.putfield 53, 3) := by decide +kernel
theorem zd_S_startOver_48 : decode prog_5_method_9_code 48 = .ok (.aload_n 0, 1) := by decide +kernel
theorem zd_S_startOver_49 : decode prog_5_method_9_code 49 = .ok (.iconst 0, 1) := by decide +kernel
theorem zd_S_startOver_50 : decode prog_5_method_9_code 50 = .ok (.putfield 50, 3) := by decide +kernel
theorem zd_S_startOver_53 : decode prog_5_method_9_code 53 = .ok (.return_, 1) := by decide +kernel
theorem zd_S_passTicks_4 : decode prog_5_method_8_code 4 = .ok (.iload_n 3, 1) := by decide +kernel
theorem zd_S_passTicks_5 : decode prog_5_method_8_code 5 = .ok (.iload_n 1, 1) := by decide +kernel
theorem zd_S_passTicks_6 : decode prog_5_method_8_code 6 = .ok (.if_icmp .ge 26, 3) := by decide +kernel
theorem zd_S_passTicks_9 : decode prog_5_method_8_code 9 = .ok (.aload_n 0, 1) := by decide +kernel
theorem zd_S_passTicks_10 : decode prog_5_method_8_code 10 = .ok (.getfield 21, 3) := by decide +kernel
theorem zd_S_passTicks_13 : decode prog_5_method_8_code 13 = .ok (.invokevirtual 116, 3) := by decide +kernel
theorem zd_S_passTicks_16 : decode prog_5_method_8_code 16 = .ok (.ifCond .eq 10, 3) := by decide +kernel
theorem zd_S_passTicks_26 : decode prog_5_method_8_code 26 = .ok (.iinc 3 1, 3) := by decide +kernel
theorem zd_S_passTicks_29 : decode prog_5_method_8_code 29 = .ok (.goto (-25), 3) := by decide +kernel
theorem zd_S_passTicks_19 : decode prog_5_method_8_code 19 = .ok (.aload_n 0, 1) := by decide +kernel
theorem zd_S_passTicks_20 : decode prog_5_method_8_code 20 = .ok (.invokevirtual 120, 3) := by decide +kernel
theorem zd_S_passTicks_23 : decode prog_5_method_8_code 23 = .ok (.iinc 2 1, 3) := by decide +kernel
theorem zd_S_passTicks_0 : decode prog_5_method_8_code 0 = .ok (.iconst 0, 1) := by decide +kernel
theorem zd_S_passTicks_1 : decode prog_5_method_8_code 1 = .ok (.istore_n 2, 1) := by decide +kernel
theorem zd_S_passTicks_2 : decode prog_5_method_8_code 2 = .ok (.iconst 0, 1) := by decide +kernel
theorem zd_S_passTicks_3 : decode prog_5_method_8_code 3 = .ok (.istore_n 3, 1) := by decide +kernel
theorem zd_S_passTicks_32 : decode prog_5_method_8_code 32 = .ok (.iload_n 2, 1) := by decide +kernel
theorem zd_S_passTicks_33 : decode prog_5_method_8_code 33 = .ok (.ireturn, 1) := by decide +kernel
theorem zd_T_takeSample_0 : decode prog_6_method_10_code 0 = .ok (.aload_n 0, 1) := by decide +kernel
theorem zd_T_takeSample_1 : decode prog_6_method_10_code 1 = .ok (.getfield 33, 3) := by decide +kernel
theorem zd_T_takeSample_4 : decode prog_6_method_10_code 4 = .ok (.ifCond .eq 46, 3) := by decide +kernel
theorem zd_T_takeSample_50 : decode prog_6_method_10_code 50 = .ok (.aload_n 0, 1) := by decide +kernel
theorem zd_T_takeSample_51 : decode prog_6_method_10_code 51 = .ok (.bipush 8, 2) := by decide +kernel
theorem zd_T_takeSample_53 : decode prog_6_method_10_code 53 = .ok (.iload_n 1, 1) := by decide +kernel
theorem zd_T_takeSample_54 : decode prog_6_method_10_code 54 = .ok (.imul, 1) := by decide +kernel
theorem zd_T_takeSample_55 : decode prog_6_method_10_code 55 = .ok (.putfield 24, 3) := by decide +kernel
theorem zd_T_takeSample_58 : decode prog_6_method_10_code 58 = .ok (.aload_n 0, 1) := by decide +kernel
theorem zd_T_takeSample_59 : decode prog_6_method_10_code 59 = .ok (.iconst 2, 1) := by decide +kernel
theorem zd_T_takeSample_60 : decode prog_6_method_10_code 60 = .ok (.iload_n 1, 1) := by decide +kernel
theorem zd_T_takeSample_61 : decode prog_6_method_10_code 61 = .ok (.imul, 1) := by decide +kernel
theorem zd_T_takeSample_62 : decode prog_6_method_10_code 62 = .ok (.putfield 27, 3) := by decide +kernel
theorem zd_T_takeSample_65 : decode prog_6_method_10_code 65 = .ok (.aload_n 0, 1) := by decide +kernel
theorem zd_T_takeSample_66 : decode prog_6_method_10_code 66 = .ok (.iconst 1, 1) := by decide +kernel
theorem zd_T_takeSample_67 : decode prog_6_method_10_code 67 = .ok (.putfield 33, 3) := by decide +kernel
theorem zd_T_takeSample_70 : decode prog_6_method_10_code 70 = .ok (.aload_n 0, 1) := by decide +kernel
theorem zd_T_takeSample_71 : decode prog_6_method_10_code 71 = .ok (.getfield 24, 3) := by decide +kernel
theorem zd_T_takeSample_74 : decode prog_6_method_10_code 74 = .ok (.bipush 8, 2) := by decide +kernel
theorem zd_T_takeSample_76 : decode prog_6_method_10_code 76 = .ok (.idiv, 1) := by decide +kernel
theorem zd_T_takeSample_77 : decode prog_6_method_10_code 77 = .ok (.aload_n 0, 1) := by decide +kernel
theorem zd_T_takeSample_78 : decode prog_6_method_10_code 78 = .ok (.getfield 27, 3) := by decide +kernel
theorem zd_T_takeSample_81 : decode prog_6_method_10_code 81 = .ok (.iconst 1, 1) := by decide +kernel
theorem zd_T_takeSample_82 : decode prog_6_method_10_code 82 = .ok (.invokestatic 60, 3) := by decide +kernel
theorem zd_T_takeSample_85 : decode prog_6_method_10_code 85 = .ok (.iadd, 1) := by decide +kernel
theorem zd_T_takeSample_86 : decode prog_6_method_10_code 86 = .ok (.istore_n 2, 1) := by decide +kernel
theorem zd_T_takeSample_87 : decode prog_6_method_10_code 87 = .ok (.aload_n 0, 1) := by decide +kernel
theorem zd_T_takeSample_88 : decode prog_6_method_10_code 88 = .ok (.bipush 64, 2) := by decide +kernel
theorem zd_T_takeSample_90 : decode prog_6_method_10_code 90 = .ok (.iconst 2, 1) := by decide +kernel
theorem zd_T_takeSample_91 : decode prog_6_method_10_code 91 = .ok (.iload_n 2, 1) := by decide +kernel
theorem zd_T_takeSample_92 : decode prog_6_method_10_code 92 = .ok (.invokestatic 60, 3) := by decide +kernel
theorem zd_T_takeSample_95 : decode prog_6_method_10_code 95 = .ok (.invokestatic 40, 3) := by decide +kernel
theorem zd_T_takeSample_98 : decode prog_6_method_10_code 98 = .ok (.putfield 15, 3) := by decide +kernel
theorem zd_T_takeSample_101 : decode prog_6_method_10_code 101 = .ok (.return_, 1) := by decide +kernel
theorem zd_T_takeSample_7 : decode prog_6_method_10_code 7 = .ok (.iload_n 1, 1) := by decide +kernel
theorem zd_T_takeSample_8 : decode prog_6_method_10_code 8 = .ok (.aload_n 0, 1) := by decide +kernel
theorem zd_T_takeSample_9 : decode prog_6_method_10_code 9 = .ok (.getfield 24, 3) := by decide +kernel
theorem zd_T_takeSample_12 : decode prog_6_method_10_code 12 = .ok (.bipush 8, 2) := by decide +kernel
theorem zd_T_takeSample_14 : decode prog_6_method_10_code 14 = .ok (.idiv, 1) := by decide +kernel
theorem zd_T_takeSample_15 : decode prog_6_method_10_code 15 = .ok (.isub, 1) := by decide +kernel
theorem zd_T_takeSample_16 : decode prog_6_method_10_code 16 = .ok (.istore_n 2, 1) := by decide +kernel
theorem zd_T_takeSample_17 : decode prog_6_method_10_code 17 = .ok (.aload_n 0, 1) := by decide +kernel
theorem zd_T_takeSample_18 : decode prog_6_method_10_code 18 = .ok (.dup, 1) := by decide +kernel
theorem zd_T_takeSample_19 : decode prog_6_method_10_code 19 = .ok (.getfield 24, 3) := by decide +kernel
theorem zd_T_takeSample_22 : decode prog_6_method_10_code 22 = .ok (.iload_n 2, 1) := by decide +kernel
theorem zd_T_takeSample_23 : decode prog_6_method_10_code 23 = .ok (.iadd, 1) := by decide +kernel
theorem zd_T_takeSample_24 : decode prog_6_method_10_code 24 = .ok (.putfield 24, 3) := by decide +kernel
theorem zd_T_takeSample_27 : decode prog_6_method_10_code 27 = .ok (.aload_n 0, 1) := by decide +kernel
theorem zd_T_takeSample_28 : decode prog_6_method_10_code 28 = .ok (.dup, 1) := by decide +kernel
theorem zd_T_takeSample_29 : decode prog_6_method_10_code 29 = .ok (.getfield 27, 3) := by decide +kernel
theorem zd_T_takeSample_32 : decode prog_6_method_10_code 32 = .ok (.iload_n 2, 1) := by decide +kernel
theorem zd_T_takeSample_33 : decode prog_6_method_10_code 33 = .ok (.invokestatic 56, 3) := by decide +kernel
theorem zd_T_takeSample_36 : decode prog_6_method_10_code 36 = .ok (.aload_n 0, 1) := by decide +kernel
theorem zd_T_takeSample_37 : decode prog_6_method_10_code 37 = .ok (.getfield 27, 3) := by decide +kernel
theorem zd_T_takeSample_40 : decode prog_6_method_10_code 40 = .ok (.iconst 4, 1) := by decide +kernel
theorem zd_T_takeSample_41 : decode prog_6_method_10_code 41 = .ok (.idiv, 1) := by decide +kernel
theorem zd_T_takeSample_42 : decode prog_6_method_10_code 42 = .ok (.isub, 1) := by decide +kernel
theorem zd_T_takeSample_43 : decode prog_6_method_10_code 43 = .ok (.iadd, 1) := by decide +kernel
theorem zd_T_takeSample_44 : decode prog_6_method_10_code 44 = .ok (.putfield 27, 3) := by decide +kernel
theorem zd_T_takeSample_47 : decode prog_6_method_10_code 47 = .ok (.goto 23, 3) := by decide +kernel
theorem zd_T_endTiming_0 : decode prog_6_method_9_code 0 = .ok (.aload_n 0, 1) := by decide +kernel
theorem zd_T_endTiming_1 : decode prog_6_method_9_code 1 = .ok (.getfield 21, 3) := by decide +kernel
theorem zd_T_endTiming_4 : decode prog_6_method_9_code 4 = .ok (.iconst (-1), 1) := by decide +kernel
theorem zd_T_endTiming_5 : decode prog_6_method_9_code 5 = .ok (.if_icmp .eq 28, 3) := by decide +kernel
theorem zd_T_endTiming_33 : decode prog_6_method_9_code 33 = .ok (.return_, 1) := by decide +kernel
theorem zd_T_endTiming_8 : decode prog_6_method_9_code 8 = .ok (.iload_n 1, 1) := by decide +kernel
theorem zd_T_endTiming_9 : decode prog_6_method_9_code 9 = .ok (.aload_n 0, 1) := by decide +kernel
theorem zd_T_endTiming_10 : decode prog_6_method_9_code 10 = .ok (.getfield 21, 3) := by decide +kernel
theorem zd_T_endTiming_13 : decode prog_6_method_9_code 13 = .ok (.if_icmp .lt 20, 3) := by decide +kernel
theorem zd_T_endTiming_16 : decode prog_6_method_9_code 16 = .ok (.aload_n 0, 1) := by decide +kernel
theorem zd_T_endTiming_17 : decode prog_6_method_9_code 17 = .ok (.aload_n 0, 1) := by decide +kernel
theorem zd_T_endTiming_18 : decode prog_6_method_9_code 18 = .ok (.getfield 9, 3) := by decide +kernel
theorem zd_T_endTiming_21 : decode prog_6_method_9_code 21 = .ok (.aload_n 0, 1) := by decide +kernel
theorem zd_T_endTiming_22 : decode prog_6_method_9_code 22 = .ok (.getfield 30, 3) := by decide +kernel
theorem zd_T_endTiming_25 : decode prog_6_method_9_code 25 = .ok (.isub, 1) := by decide +kernel
theorem zd_T_endTiming_26 : decode prog_6_method_9_code 26 = .ok (.invokevirtual 52, 3) := by decide +kernel
theorem zd_T_endTiming_29 : decode prog_6_method_9_code 29 = .ok (.aload_n 0, 1) := by decide +kernel
theorem zd_T_endTiming_30 : decode prog_6_method_9_code 30 = .ok (.invokevirtual 46, 3) := by decide +kernel
theorem zd_S_growCongestion_0 : decode prog_5_method_13_code 0 = .ok (.iconst 1, 1) := by decide +kernel
theorem zd_S_growCongestion_1 : decode prog_5_method_13_code 1 = .ok (.istore_n 1, 1) := by decide +kernel
theorem zd_S_growCongestion_2 : decode prog_5_method_13_code 2 = .ok (.aload_n 0, 1) := by decide +kernel
theorem zd_S_growCongestion_3 : decode prog_5_method_13_code 3 = .ok (.getfield 41, 3) := by decide +kernel
theorem zd_S_growCongestion_6 : decode prog_5_method_13_code 6 = .ok (.aload_n 0, 1) := by decide +kernel
theorem zd_S_growCongestion_7 : decode prog_5_method_13_code 7 = .ok (.getfield 44, 3) := by decide +kernel
theorem zd_S_growCongestion_10 : decode prog_5_method_13_code 10 = .ok (.if_icmp .ge 8, 3) := by decide +kernel
theorem zd_S_growCongestion_18 : decode prog_5_method_13_code 18 = .ok (.aload_n 0, 1) := by decide +kernel
theorem zd_S_growCongestion_19 : decode prog_5_method_13_code 19 = .ok (.getfield 41, 3) := by decide +kernel
theorem zd_S_growCongestion_22 : decode prog_5_method_13_code 22 = .ok (.ifCond .le 15, 3) := by decide +kernel
theorem zd_S_growCongestion_37 : decode prog_5_method_13_code 37 = .ok (.aload_n 0, 1) := by decide +kernel
theorem zd_S_growCongestion_38 : decode prog_5_method_13_code 38 = .ok (.sipush 256, 3) := by decide +kernel
theorem zd_S_growCongestion_41 : decode prog_5_method_13_code 41 = .ok (.aload_n 0, 1) := by decide +kernel
theorem zd_S_growCongestion_42 : decode prog_5_method_13_code 42 = .ok (.getfield 41, 3) := by decide +kernel
theorem zd_S_growCongestion_45 : decode prog_5_method_13_code 45 = .ok (.iload_n 1, 1) := by decide +kernel
theorem zd_S_growCongestion_46 : decode prog_5_method_13_code 46 = .ok (.iadd, 1) := by decide +kernel
theorem zd_S_growCongestion_47 : decode prog_5_method_13_code 47 = .ok (.invokestatic 103, 3) := by decide +kernel
theorem zd_S_growCongestion_50 : decode prog_5_method_13_code 50 = .ok (.putfield 41, 3) := by decide +kernel
theorem zd_S_growCongestion_53 : decode prog_5_method_13_code 53 = .ok (.return_, 1) := by decide +kernel
theorem zd_S_growCongestion_25 : decode prog_5_method_13_code 25 = .ok (.iconst 1, 1) := by decide +kernel
theorem zd_S_growCongestion_26 : decode prog_5_method_13_code 26 = .ok (.bipush 16, 2) := by decide +kernel
theorem zd_S_growCongestion_28 : decode prog_5_method_13_code 28 = .ok (.aload_n 0, 1) := by decide +kernel
theorem zd_S_growCongestion_29 : decode prog_5_method_13_code 29 = .ok (.getfield 41, 3) := by decide +kernel
theorem zd_S_growCongestion_32 : decode prog_5_method_13_code 32 = .ok (.idiv, 1) := by decide +kernel
theorem zd_S_growCongestion_33 : decode prog_5_method_13_code 33 = .ok (.invokestatic 95, 3) := by decide +kernel
theorem zd_S_growCongestion_36 : decode prog_5_method_13_code 36 = .ok (.istore_n 1, 1) := by decide +kernel
theorem zd_S_growCongestion_13 : decode prog_5_method_13_code 13 = .ok (.iconst 4, 1) := by decide +kernel
theorem zd_S_growCongestion_14 : decode prog_5_method_13_code 14 = .ok (.istore_n 1, 1) := by decide +kernel
theorem zd_S_growCongestion_15 : decode prog_5_method_13_code 15 = .ok (.goto 22, 3) := by decide +kernel
theorem zd_S_advanceTo_0 : decode prog_5_method_12_code 0 = .ok (.aload_n 0, 1) := by decide +kernel
theorem zd_S_advanceTo_1 : decode prog_5_method_12_code 1 = .ok (.getfield 21, 3) := by decide +kernel
theorem zd_S_advanceTo_4 : decode prog_5_method_12_code 4 = .ok (.iload_n 1, 1) := by decide +kernel
theorem zd_S_advanceTo_5 : decode prog_5_method_12_code 5 = .ok (.invokevirtual 145, 3) := by decide +kernel
theorem zd_S_advanceTo_8 : decode prog_5_method_12_code 8 = .ok (.aload_n 0, 1) := by decide +kernel
theorem zd_S_advanceTo_9 : decode prog_5_method_12_code 9 = .ok (.getfield 12, 3) := by decide +kernel
theorem zd_S_advanceTo_12 : decode prog_5_method_12_code 12 = .ok (.aload_n 0, 1) := by decide +kernel
theorem zd_S_advanceTo_13 : decode prog_5_method_12_code 13 = .ok (.getfield 25, 3) := by decide +kernel
theorem zd_S_advanceTo_16 : decode prog_5_method_12_code 16 = .ok (.iload_n 1, 1) := by decide +kernel
theorem zd_S_advanceTo_17 : decode prog_5_method_12_code 17 = .ok (.invokevirtual 129, 3) := by decide +kernel
theorem zd_S_advanceTo_20 : decode prog_5_method_12_code 20 = .ok (.aload_n 0, 1) := by decide +kernel
theorem zd_S_advanceTo_21 : decode prog_5_method_12_code 21 = .ok (.iload_n 1, 1) := by decide +kernel
theorem zd_S_advanceTo_22 : decode prog_5_method_12_code 22 = .ok (.putfield 25, 3) := by decide +kernel
theorem zd_S_advanceTo_25 : decode prog_5_method_12_code 25 = .ok (.aload_n 0, 1) := by decide +kernel
theorem zd_S_advanceTo_26 : decode prog_5_method_12_code 26 = .ok (.aload_n 0, 1) := by decide +kernel
theorem zd_S_advanceTo_27 : decode prog_5_method_12_code 27 = .ok (.getfield 29, 3) := by decide +kernel
theorem zd_S_advanceTo_30 : decode prog_5_method_12_code 30 = .ok (.aload_n 0, 1) := by decide +kernel
theorem zd_S_advanceTo_31 : decode prog_5_method_12_code 31 = .ok (.getfield 25, 3) := by decide +kernel
theorem zd_S_advanceTo_34 : decode prog_5_method_12_code 34 = .ok (.invokestatic 95, 3) := by decide +kernel
theorem zd_S_advanceTo_37 : decode prog_5_method_12_code 37 = .ok (.putfield 29, 3) := by decide +kernel
theorem zd_S_advanceTo_40 : decode prog_5_method_12_code 40 = .ok (.aload_n 0, 1) := by decide +kernel
theorem zd_S_advanceTo_41 : decode prog_5_method_12_code 41 = .ok (.iconst 0, 1) := by decide +kernel
theorem zd_S_advanceTo_42 : decode prog_5_method_12_code 42 = .ok (.putfield 50, 3) := by decide +kernel
theorem zd_S_advanceTo_45 : decode prog_5_method_12_code 45 = .ok (.aload_n 0, 1) := by decide +kernel
theorem zd_S_advanceTo_46 : decode prog_5_method_12_code 46 = .ok (.getfield 53, 3) := by decide +kernel
theorem zd_S_advanceTo_49 : decode prog_5_method_12_code 49 = .ok (.iconst (-1), 1) := by decide +kernel
theorem zd_S_advanceTo_50 : decode prog_5_method_12_code 50 = .ok (.if_icmp .ne 10, 3) := by decide +kernel
theorem zd_S_advanceTo_60 : decode prog_5_method_12_code 60 = .ok (.aload_n 0, 1) := by decide +kernel
theorem zd_S_advanceTo_61 : decode prog_5_method_12_code 61 = .ok (.getfield 25, 3) := by decide +kernel
theorem zd_S_advanceTo_64 : decode prog_5_method_12_code 64 = .ok (.aload_n 0, 1) := by decide +kernel
theorem zd_S_advanceTo_65 : decode prog_5_method_12_code 65 = .ok (.getfield 53, 3) := by decide +kernel
theorem zd_S_advanceTo_68 : decode prog_5_method_12_code 68 = .ok (.if_icmp .lt 16, 3) := by decide +kernel
theorem zd_S_advanceTo_84 : decode prog_5_method_12_code 84 = .ok (.aload_n 0, 1) := by decide +kernel
theorem zd_S_advanceTo_85 : decode prog_5_method_12_code 85 = .ok (.getfield 25, 3) := by decide +kernel
theorem zd_S_advanceTo_88 : decode prog_5_method_12_code 88 = .ok (.aload_n 0, 1) := by decide +kernel
theorem zd_S_advanceTo_89 : decode prog_5_method_12_code 89 = .ok (.getfield 29, 3) := by decide +kernel
theorem zd_S_advanceTo_92 : decode prog_5_method_12_code 92 = .ok (.if_icmp .ne 13, 3) := by decide +kernel
theorem zd_S_advanceTo_105 : decode prog_5_method_12_code 105 = .ok (.aload_n 0, 1) := by decide +kernel
theorem zd_S_advanceTo_106 : decode prog_5_method_12_code 106 = .ok (.getfield 21, 3) := by decide +kernel
theorem zd_S_advanceTo_109 : decode prog_5_method_12_code 109 = .ok (.invokevirtual 154, 3) := by decide +kernel
theorem zd_S_advanceTo_112 : decode prog_5_method_12_code 112 = .ok (.return_, 1) := by decide +kernel
theorem zd_S_advanceTo_95 : decode prog_5_method_12_code 95 = .ok (.aload_n 0, 1) := by decide +kernel
theorem zd_S_advanceTo_96 : decode prog_5_method_12_code 96 = .ok (.getfield 21, 3) := by decide +kernel
theorem zd_S_advanceTo_99 : decode prog_5_method_12_code 99 = .ok (.invokevirtual 151, 3) := by decide +kernel
theorem zd_S_advanceTo_102 : decode prog_5_method_12_code 102 = .ok (.goto 10, 3) := by decide +kernel
theorem zd_S_advanceTo_71 : decode prog_5_method_12_code 71 = .ok (.aload_n 0, 1) := by decide +kernel
theorem zd_S_advanceTo_72 : decode prog_5_method_12_code 72 = .ok (.iconst (-1), 1) := by decide +kernel
theorem zd_S_advanceTo_73 : decode prog_5_method_12_code 73 = .ok (.putfield 53, 3) := by decide +kernel
theorem zd_S_advanceTo_76 : decode prog_5_method_12_code 76 = .ok (.aload_n 0, 1) := by decide +kernel
theorem zd_S_advanceTo_77 : decode prog_5_method_12_code 77 = .ok (.aload_n 0, 1) := by decide +kernel
theorem zd_S_advanceTo_78 : decode prog_5_method_12_code 78 = .ok (.getfield 44, 3) := by decide +kernel
theorem zd_S_advanceTo_81 : decode prog_5_method_12_code 81 = .ok (.putfield 41, 3) := by decide +kernel
theorem zd_S_advanceTo_53 : decode prog_5_method_12_code 53 = .ok (.aload_n 0, 1) := by decide +kernel
theorem zd_S_advanceTo_54 : decode prog_5_method_12_code 54 = .ok (.invokevirtual 148, 3) := by decide +kernel
theorem zd_S_advanceTo_57 : decode prog_5_method_12_code 57 = .ok (.goto 27, 3) := by decide +kernel
theorem zd_S_markBlocks_14 : decode prog_5_method_14_code 14 = .ok (.iload 4, 2) := by decide +kernel
theorem zd_S_markBlocks_16 : decode prog_5_method_14_code 16 = .ok (.iload_n 3, 1) := by decide +kernel
theorem zd_S_markBlocks_17 : decode prog_5_method_14_code 17 = .ok (.if_icmp .ge 57, 3) := by decide +kernel
theorem zd_S_markBlocks_20 : decode prog_5_method_14_code 20 = .ok (.aload_n 1, 1) := by decide +kernel
theorem zd_S_markBlocks_21 : decode prog_5_method_14_code 21 = .ok (.iload_n 2, 1) := by decide +kernel
theorem zd_S_markBlocks_22 : decode prog_5_method_14_code 22 = .ok (.iconst 3, 1) := by decide +kernel
theorem zd_S_markBlocks_23 : decode prog_5_method_14_code 23 = .ok (.iconst 2, 1) := by decide +kernel
theorem zd_S_markBlocks_24 : decode prog_5_method_14_code 24 = .ok (.iload 4, 2) := by decide +kernel
theorem zd_S_markBlocks_26 : decode prog_5_method_14_code 26 = .ok (.imul, 1) := by decide +kernel
theorem zd_S_markBlocks_27 : decode prog_5_method_14_code 27 = .ok (.iadd, 1) := by decide +kernel
theorem zd_S_markBlocks_28 : decode prog_5_method_14_code 28 = .ok (.invokevirtual 132, 3) := by decide +kernel
theorem zd_S_markBlocks_31 : decode prog_5_method_14_code 31 = .ok (.istore 5, 2) := by decide +kernel
theorem zd_S_markBlocks_33 : decode prog_5_method_14_code 33 = .ok (.aload_n 1, 1) := by decide +kernel
theorem zd_S_markBlocks_34 : decode prog_5_method_14_code 34 = .ok (.iload_n 2, 1) := by decide +kernel
theorem zd_S_markBlocks_35 : decode prog_5_method_14_code 35 = .ok (.iconst 3, 1) := by decide +kernel
theorem zd_S_markBlocks_36 : decode prog_5_method_14_code 36 = .ok (.iconst 2, 1) := by decide +kernel
theorem zd_S_markBlocks_37 : decode prog_5_method_14_code 37 = .ok (.iload 4, 2) := by decide +kernel
theorem zd_S_markBlocks_39 : decode prog_5_method_14_code 39 = .ok (.imul, 1) := by decide +kernel
theorem zd_S_markBlocks_40 : decode prog_5_method_14_code 40 = .ok (.iadd, 1) := by decide +kernel
theorem zd_S_markBlocks_41 : decode prog_5_method_14_code 41 = .ok (.iconst 1, 1) := by decide +kernel
theorem zd_S_markBlocks_42 : decode prog_5_method_14_code 42 = .ok (.iadd, 1) := by decide +kernel
theorem zd_S_markBlocks_43 : decode prog_5_method_14_code 43 = .ok (.invokevirtual 132, 3) := by decide +kernel
theorem zd_S_markBlocks_46 : decode prog_5_method_14_code 46 = .ok (.istore 6, 2) := by decide +kernel
theorem zd_S_markBlocks_48 : decode prog_5_method_14_code 48 = .ok (.aload_n 0, 1) := by decide +kernel
theorem zd_S_markBlocks_49 : decode prog_5_method_14_code 49 = .ok (.getfield 12, 3) := by decide +kernel
theorem zd_S_markBlocks_52 : decode prog_5_method_14_code 52 = .ok (.aload_n 0, 1) := by decide +kernel
theorem zd_S_markBlocks_53 : decode prog_5_method_14_code 53 = .ok (.getfield 25, 3) := by decide +kernel
theorem zd_S_markBlocks_56 : decode prog_5_method_14_code 56 = .ok (.iload 5, 2) := by decide +kernel
theorem zd_S_markBlocks_58 : decode prog_5_method_14_code 58 = .ok (.invokestatic 95, 3) := by decide +kernel
theorem zd_S_markBlocks_61 : decode prog_5_method_14_code 61 = .ok (.iload 6, 2) := by decide +kernel
theorem zd_S_markBlocks_63 : decode prog_5_method_14_code 63 = .ok (.iconst 1, 1) := by decide +kernel
theorem zd_S_markBlocks_64 : decode prog_5_method_14_code 64 = .ok (.invokevirtual 157, 3) := by decide +kernel
theorem zd_S_markBlocks_67 : decode prog_5_method_14_code 67 = .ok (.pop, 1) := by decide +kernel
theorem zd_S_markBlocks_68 : decode prog_5_method_14_code 68 = .ok (.iinc 4 1, 3) := by decide +kernel
theorem zd_S_markBlocks_71 : decode prog_5_method_14_code 71 = .ok (.goto (-57), 3) := by decide +kernel
theorem zd_S_markBlocks_0 : decode prog_5_method_14_code 0 = .ok (.iconst 3, 1) := by decide +kernel
theorem zd_S_markBlocks_1 : decode prog_5_method_14_code 1 = .ok (.aload_n 1, 1) := by decide +kernel
theorem zd_S_markBlocks_2 : decode prog_5_method_14_code 2 = .ok (.iload_n 2, 1) := by decide +kernel
theorem zd_S_markBlocks_3 : decode prog_5_method_14_code 3 = .ok (.iconst 2, 1) := by decide +kernel
theorem zd_S_markBlocks_4 : decode prog_5_method_14_code 4 = .ok (.invokevirtual 132, 3) := by decide +kernel
theorem zd_S_markBlocks_7 : decode prog_5_method_14_code 7 = .ok (.invokestatic 103, 3) := by decide +kernel
theorem zd_S_markBlocks_10 : decode prog_5_method_14_code 10 = .ok (.istore_n 3, 1) := by decide +kernel
theorem zd_S_markBlocks_11 : decode prog_5_method_14_code 11 = .ok (.iconst 0, 1) := by decide +kernel
theorem zd_S_markBlocks_12 : decode prog_5_method_14_code 12 = .ok (.istore 4, 2) := by decide +kernel
theorem zd_S_markBlocks_74 : decode prog_5_method_14_code 74 = .ok (.return_, 1) := by decide +kernel
theorem zd_S_countDuplicate_0 : decode prog_5_method_15_code 0 = .ok (.aload_n 0, 1) := by decide +kernel
theorem zd_S_countDuplicate_1 : decode prog_5_method_15_code 1 = .ok (.dup, 1) := by decide +kernel
theorem zd_S_countDuplicate_2 : decode prog_5_method_15_code 2 = .ok (.getfield 50, 3) := by decide +kernel
theorem zd_S_countDuplicate_5 : decode prog_5_method_15_code 5 = .ok (.iconst 1, 1) := by decide +kernel
theorem zd_S_countDuplicate_6 : decode prog_5_method_15_code 6 = .ok (.iadd, 1) := by decide +kernel
theorem zd_S_countDuplicate_7 : decode prog_5_method_15_code 7 = .ok (.putfield 50, 3) := by decide +kernel
theorem zd_S_countDuplicate_10 : decode prog_5_method_15_code 10 = .ok (.aload_n 0, 1) := by decide +kernel
theorem zd_S_countDuplicate_11 : decode prog_5_method_15_code 11 = .ok (.getfield 50, 3) := by decide +kernel
theorem zd_S_countDuplicate_14 : decode prog_5_method_15_code 14 = .ok (.iconst 3, 1) := by decide +kernel
theorem zd_S_countDuplicate_15 : decode prog_5_method_15_code 15 = .ok (.if_icmp .ne 50, 3) := by decide +kernel
theorem zd_S_countDuplicate_65 : decode prog_5_method_15_code 65 = .ok (.return_, 1) := by decide +kernel
theorem zd_S_countDuplicate_18 : decode prog_5_method_15_code 18 = .ok (.aload_n 0, 1) := by decide +kernel
theorem zd_S_countDuplicate_19 : decode prog_5_method_15_code 19 = .ok (.getfield 53, 3) := by decide +kernel
theorem zd_S_countDuplicate_22 : decode prog_5_method_15_code 22 = .ok (.iconst (-1), 1) := by decide +kernel
theorem zd_S_countDuplicate_23 : decode prog_5_method_15_code 23 = .ok (.if_icmp .ne 42, 3) := by decide +kernel
theorem zd_S_countDuplicate_26 : decode prog_5_method_15_code 26 = .ok (.aload_n 0, 1) := by decide +kernel
theorem zd_S_countDuplicate_27 : decode prog_5_method_15_code 27 = .ok (.aload_n 0, 1) := by decide +kernel
theorem zd_S_countDuplicate_28 : decode prog_5_method_15_code 28 = .ok (.invokevirtual 123, 3) := by decide +kernel
theorem zd_S_countDuplicate_31 : decode prog_5_method_15_code 31 = .ok (.putfield 44, 3) := by decide +kernel
theorem zd_S_countDuplicate_34 : decode prog_5_method_15_code 34 = .ok (.aload_n 0, 1) := by decide +kernel
theorem zd_S_countDuplicate_35 : decode prog_5_method_15_code 35 = .ok (.aload_n 0, 1) := by decide +kernel
theorem zd_S_countDuplicate_36 : decode prog_5_method_15_code 36 = .ok (.getfield 44, 3) := by decide +kernel
theorem zd_S_countDuplicate_39 : decode prog_5_method_15_code 39 = .ok (.putfield 41, 3) := by decide +kernel
theorem zd_S_countDuplicate_42 : decode prog_5_method_15_code 42 = .ok (.aload_n 0, 1) := by decide +kernel
theorem zd_S_countDuplicate_43 : decode prog_5_method_15_code 43 = .ok (.aload_n 0, 1) := by decide +kernel
theorem zd_S_countDuplicate_44 : decode prog_5_method_15_code 44 = .ok (.getfield 29, 3) := by decide +kernel
theorem zd_S_countDuplicate_47 : decode prog_5_method_15_code 47 = .ok (.putfield 53, 3) := by decide +kernel
theorem zd_S_countDuplicate_50 : decode prog_5_method_15_code 50 = .ok (.aload_n 0, 1) := by decide +kernel
theorem zd_S_countDuplicate_51 : decode prog_5_method_15_code 51 = .ok (.aload_n 0, 1) := by decide +kernel
theorem zd_S_countDuplicate_52 : decode prog_5_method_15_code 52 = .ok (.getfield 25, 3) := by decide +kernel
theorem zd_S_countDuplicate_55 : decode prog_5_method_15_code 55 = .ok (.putfield 56, 3) := by decide +kernel
theorem zd_S_countDuplicate_58 : decode prog_5_method_15_code 58 = .ok (.aload_n 0, 1) := by decide +kernel
theorem zd_S_countDuplicate_59 : decode prog_5_method_15_code 59 = .ok (.getfield 21, 3) := by decide +kernel
theorem zd_S_countDuplicate_62 : decode prog_5_method_15_code 62 = .ok (.invokevirtual 161, 3) := by decide +kernel
theorem zd_S_takeAck_0 : decode prog_5_method_11_code 0 = .ok (.aload_n 1, 1) := by decide +kernel
theorem zd_S_takeAck_1 : decode prog_5_method_11_code 1 = .ok (.iload_n 2, 1) := by decide +kernel
theorem zd_S_takeAck_2 : decode prog_5_method_11_code 2 = .ok (.iconst 0, 1) := by decide +kernel
theorem zd_S_takeAck_3 : decode prog_5_method_11_code 3 = .ok (.invokevirtual 132, 3) := by decide +kernel
theorem zd_S_takeAck_6 : decode prog_5_method_11_code 6 = .ok (.istore_n 3, 1) := by decide +kernel
theorem zd_S_takeAck_7 : decode prog_5_method_11_code 7 = .ok (.iload_n 3, 1) := by decide +kernel
theorem zd_S_takeAck_8 : decode prog_5_method_11_code 8 = .ok (.aload_n 0, 1) := by decide +kernel
theorem zd_S_takeAck_9 : decode prog_5_method_11_code 9 = .ok (.getfield 25, 3) := by decide +kernel
theorem zd_S_takeAck_12 : decode prog_5_method_11_code 12 = .ok (.if_icmp .ge 5, 3) := by decide +kernel
theorem zd_S_takeAck_17 : decode prog_5_method_11_code 17 = .ok (.iload_n 3, 1) := by decide +kernel
theorem zd_S_takeAck_18 : decode prog_5_method_11_code 18 = .ok (.aload_n 1, 1) := by decide +kernel
theorem zd_S_takeAck_19 : decode prog_5_method_11_code 19 = .ok (.iload_n 2, 1) := by decide +kernel
theorem zd_S_takeAck_20 : decode prog_5_method_11_code 20 = .ok (.iconst 1, 1) := by decide +kernel
theorem zd_S_takeAck_21 : decode prog_5_method_11_code 21 = .ok (.invokevirtual 132, 3) := by decide +kernel
theorem zd_S_takeAck_24 : decode prog_5_method_11_code 24 = .ok (.iadd, 1) := by decide +kernel
theorem zd_S_takeAck_25 : decode prog_5_method_11_code 25 = .ok (.istore 4, 2) := by decide +kernel
theorem zd_S_takeAck_27 : decode prog_5_method_11_code 27 = .ok (.iload 4, 2) := by decide +kernel
theorem zd_S_takeAck_29 : decode prog_5_method_11_code 29 = .ok (.aload_n 0, 1) := by decide +kernel
theorem zd_S_takeAck_30 : decode prog_5_method_11_code 30 = .ok (.getfield 38, 3) := by decide +kernel
theorem zd_S_takeAck_33 : decode prog_5_method_11_code 33 = .ok (.if_icmp .le 7, 3) := by decide +kernel
theorem zd_S_takeAck_40 : decode prog_5_method_11_code 40 = .ok (.iconst 0, 1) := by decide +kernel
theorem zd_S_takeAck_41 : decode prog_5_method_11_code 41 = .ok (.istore 5, 2) := by decide +kernel
theorem zd_S_takeAck_43 : decode prog_5_method_11_code 43 = .ok (.aload_n 0, 1) := by decide +kernel
theorem zd_S_takeAck_44 : decode prog_5_method_11_code 44 = .ok (.aload_n 0, 1) := by decide +kernel
theorem zd_S_takeAck_45 : decode prog_5_method_11_code 45 = .ok (.getfield 38, 3) := by decide +kernel
theorem zd_S_takeAck_48 : decode prog_5_method_11_code 48 = .ok (.iload 4, 2) := by decide +kernel
theorem zd_S_takeAck_50 : decode prog_5_method_11_code 50 = .ok (.invokestatic 95, 3) := by decide +kernel
theorem zd_S_takeAck_53 : decode prog_5_method_11_code 53 = .ok (.putfield 38, 3) := by decide +kernel
theorem zd_S_takeAck_56 : decode prog_5_method_11_code 56 = .ok (.iload_n 3, 1) := by decide +kernel
theorem zd_S_takeAck_57 : decode prog_5_method_11_code 57 = .ok (.aload_n 0, 1) := by decide +kernel
theorem zd_S_takeAck_58 : decode prog_5_method_11_code 58 = .ok (.getfield 25, 3) := by decide +kernel
theorem zd_S_takeAck_61 : decode prog_5_method_11_code 61 = .ok (.isub, 1) := by decide +kernel
theorem zd_S_takeAck_62 : decode prog_5_method_11_code 62 = .ok (.istore 6, 2) := by decide +kernel
theorem zd_S_takeAck_64 : decode prog_5_method_11_code 64 = .ok (.iload 6, 2) := by decide +kernel
theorem zd_S_takeAck_66 : decode prog_5_method_11_code 66 = .ok (.ifCond .le 8, 3) := by decide +kernel
theorem zd_S_takeAck_74 : decode prog_5_method_11_code 74 = .ok (.aload_n 0, 1) := by decide +kernel
theorem zd_S_takeAck_75 : decode prog_5_method_11_code 75 = .ok (.aload_n 1, 1) := by decide +kernel
theorem zd_S_takeAck_76 : decode prog_5_method_11_code 76 = .ok (.iload_n 2, 1) := by decide +kernel
theorem zd_S_takeAck_77 : decode prog_5_method_11_code 77 = .ok (.invokevirtual 138, 3) := by decide +kernel
theorem zd_S_takeAck_80 : decode prog_5_method_11_code 80 = .ok (.iload 6, 2) := by decide +kernel
theorem zd_S_takeAck_82 : decode prog_5_method_11_code 82 = .ok (.ifCond .ne 23, 3) := by decide +kernel
theorem zd_S_takeAck_105 : decode prog_5_method_11_code 105 = .ok (.iload 6, 2) := by decide +kernel
theorem zd_S_takeAck_107 : decode prog_5_method_11_code 107 = .ok (.ireturn, 1) := by decide +kernel
theorem zd_S_takeAck_85 : decode prog_5_method_11_code 85 = .ok (.aload_n 0, 1) := by decide +kernel
theorem zd_S_takeAck_86 : decode prog_5_method_11_code 86 = .ok (.getfield 25, 3) := by decide +kernel
theorem zd_S_takeAck_89 : decode prog_5_method_11_code 89 = .ok (.aload_n 0, 1) := by decide +kernel
theorem zd_S_takeAck_90 : decode prog_5_method_11_code 90 = .ok (.getfield 29, 3) := by decide +kernel
theorem zd_S_takeAck_93 : decode prog_5_method_11_code 93 = .ok (.if_icmp .ge 12, 3) := by decide +kernel
theorem zd_S_takeAck_96 : decode prog_5_method_11_code 96 = .ok (.iload 5, 2) := by decide +kernel
theorem zd_S_takeAck_98 : decode prog_5_method_11_code 98 = .ok (.ifCond .ne 7, 3) := by decide +kernel
theorem zd_S_takeAck_101 : decode prog_5_method_11_code 101 = .ok (.aload_n 0, 1) := by decide +kernel
theorem zd_S_takeAck_102 : decode prog_5_method_11_code 102 = .ok (.invokevirtual 142, 3) := by decide +kernel
theorem zd_S_takeAck_69 : decode prog_5_method_11_code 69 = .ok (.aload_n 0, 1) := by decide +kernel
theorem zd_S_takeAck_70 : decode prog_5_method_11_code 70 = .ok (.iload_n 3, 1) := by decide +kernel
theorem zd_S_takeAck_71 : decode prog_5_method_11_code 71 = .ok (.invokevirtual 135, 3) := by decide +kernel
theorem zd_S_takeAck_36 : decode prog_5_method_11_code 36 = .ok (.iconst 1, 1) := by decide +kernel
theorem zd_S_takeAck_37 : decode prog_5_method_11_code 37 = .ok (.goto 4, 3) := by decide +kernel
theorem zd_S_takeAck_15 : decode prog_5_method_11_code 15 = .ok (.iconst 0, 1) := by decide +kernel
theorem zd_S_takeAck_16 : decode prog_5_method_11_code 16 = .ok (.ireturn, 1) := by decide +kernel
theorem zd_M_thrown_0 : decode prog_8_method_2_code 0 = .ok (.aload_n 0, 1) := by decide +kernel
theorem zd_M_thrown_1 : decode prog_8_method_2_code 1 = .ok (.getfield 66, 3) := by decide +kernel
theorem zd_M_thrown_4 : decode prog_8_method_2_code 4 = .ok (.ireturn, 1) := by decide +kernel
theorem zd_M_isFine_0 : decode prog_8_method_3_code 0 = .ok (.aload_n 0, 1) := by decide +kernel
theorem zd_M_isFine_1 : decode prog_8_method_3_code 1 = .ok (.iload_n 1, 1) := by decide +kernel
theorem zd_M_isFine_2 : decode prog_8_method_3_code 2 = .ok (.putfield 66, 3) := by decide +kernel
theorem zd_M_isFine_5 : decode prog_8_method_3_code 5 = .ok (.iload_n 1, 1) := by decide +kernel
theorem zd_M_isFine_6 : decode prog_8_method_3_code 6 = .ok (.ifCond .ne 7, 3) := by decide +kernel
theorem zd_M_isFine_13 : decode prog_8_method_3_code 13 = .ok (.iconst 0, 1) := by decide +kernel
theorem zd_M_isFine_14 : decode prog_8_method_3_code 14 = .ok (.ireturn, 1) := by decide +kernel
theorem zd_M_isFine_9 : decode prog_8_method_3_code 9 = .ok (.iconst 1, 1) := by decide +kernel
theorem zd_M_isFine_10 : decode prog_8_method_3_code 10 = .ok (.goto 4, 3) := by decide +kernel
theorem zd_M_isIn_0 : decode prog_8_method_4_code 0 = .ok (.iload_n 0, 1) := by decide +kernel
theorem zd_M_isIn_1 : decode prog_8_method_4_code 1 = .ok (.iload_n 1, 1) := by decide +kernel
theorem zd_M_isIn_2 : decode prog_8_method_4_code 2 = .ok (.if_icmp .lt 12, 3) := by decide +kernel
theorem zd_M_isIn_14 : decode prog_8_method_4_code 14 = .ok (.iconst 0, 1) := by decide +kernel
theorem zd_M_isIn_15 : decode prog_8_method_4_code 15 = .ok (.ireturn, 1) := by decide +kernel
theorem zd_M_isIn_5 : decode prog_8_method_4_code 5 = .ok (.iload_n 0, 1) := by decide +kernel
theorem zd_M_isIn_6 : decode prog_8_method_4_code 6 = .ok (.iload_n 2, 1) := by decide +kernel
theorem zd_M_isIn_7 : decode prog_8_method_4_code 7 = .ok (.if_icmp .gt 7, 3) := by decide +kernel
theorem zd_M_isIn_10 : decode prog_8_method_4_code 10 = .ok (.iconst 1, 1) := by decide +kernel
theorem zd_M_isIn_11 : decode prog_8_method_4_code 11 = .ok (.goto 4, 3) := by decide +kernel
theorem zd_M_lesser_0 : decode prog_8_method_5_code 0 = .ok (.iload_n 0, 1) := by decide +kernel
theorem zd_M_lesser_1 : decode prog_8_method_5_code 1 = .ok (.iload_n 1, 1) := by decide +kernel
theorem zd_M_lesser_2 : decode prog_8_method_5_code 2 = .ok (.if_icmp .ge 7, 3) := by decide +kernel
theorem zd_M_lesser_9 : decode prog_8_method_5_code 9 = .ok (.iload_n 1, 1) := by decide +kernel
theorem zd_M_lesser_10 : decode prog_8_method_5_code 10 = .ok (.ireturn, 1) := by decide +kernel
theorem zd_M_lesser_5 : decode prog_8_method_5_code 5 = .ok (.iload_n 0, 1) := by decide +kernel
theorem zd_M_lesser_6 : decode prog_8_method_5_code 6 = .ok (.goto 4, 3) := by decide +kernel
theorem zd_M_greater_0 : decode prog_8_method_6_code 0 = .ok (.iload_n 0, 1) := by decide +kernel
theorem zd_M_greater_1 : decode prog_8_method_6_code 1 = .ok (.iload_n 1, 1) := by decide +kernel
theorem zd_M_greater_2 : decode prog_8_method_6_code 2 = .ok (.if_icmp .le 7, 3) := by decide +kernel
theorem zd_M_greater_9 : decode prog_8_method_6_code 9 = .ok (.iload_n 1, 1) := by decide +kernel
theorem zd_M_greater_10 : decode prog_8_method_6_code 10 = .ok (.ireturn, 1) := by decide +kernel
theorem zd_M_greater_5 : decode prog_8_method_6_code 5 = .ok (.iload_n 0, 1) := by decide +kernel
theorem zd_M_greater_6 : decode prog_8_method_6_code 6 = .ok (.goto 4, 3) := by decide +kernel
theorem zd_M_write_53 : decode prog_8_method_7_code 53 = .ok (.iload_n 3, 1) := by decide +kernel
theorem zd_M_write_54 : decode prog_8_method_7_code 54 = .ok (.iload_n 2, 1) := by decide +kernel
theorem zd_M_write_55 : decode prog_8_method_7_code 55 = .ok (.if_icmp .ge 27, 3) := by decide +kernel
theorem zd_M_write_58 : decode prog_8_method_7_code 58 = .ok (.aload_n 0, 1) := by decide +kernel
theorem zd_M_write_59 : decode prog_8_method_7_code 59 = .ok (.getfield 31, 3) := by decide +kernel
theorem zd_M_write_62 : decode prog_8_method_7_code 62 = .ok (.aload_n 0, 1) := by decide +kernel
theorem zd_M_write_63 : decode prog_8_method_7_code 63 = .ok (.getfield 73, 3) := by decide +kernel
theorem zd_M_write_66 : decode prog_8_method_7_code 66 = .ok (.iload_n 3, 1) := by decide +kernel
theorem zd_M_write_67 : decode prog_8_method_7_code 67 = .ok (.iadd, 1) := by decide +kernel
theorem zd_M_write_68 : decode prog_8_method_7_code 68 = .ok (.iload_n 1, 1) := by decide +kernel
theorem zd_M_write_69 : decode prog_8_method_7_code 69 = .ok (.iload_n 3, 1) := by decide +kernel
theorem zd_M_write_70 : decode prog_8_method_7_code 70 = .ok (.iadd, 1) := by decide +kernel
theorem zd_M_write_71 : decode prog_8_method_7_code 71 = .ok (.sipush 256, 3) := by decide +kernel
theorem zd_M_write_74 : decode prog_8_method_7_code 74 = .ok (.irem, 1) := by decide +kernel
theorem zd_M_write_75 : decode prog_8_method_7_code 75 = .ok (.iastore, 1) := by decide +kernel
theorem zd_M_write_76 : decode prog_8_method_7_code 76 = .ok (.iinc 3 1, 3) := by decide +kernel
theorem zd_M_write_79 : decode prog_8_method_7_code 79 = .ok (.goto (-26), 3) := by decide +kernel
theorem zd_M_write_0 : decode prog_8_method_7_code 0 = .ok (.aload_n 0, 1) := by decide +kernel
theorem zd_M_write_1 : decode prog_8_method_7_code 1 = .ok (.iload_n 1, 1) := by decide +kernel
theorem zd_M_write_2 : decode prog_8_method_7_code 2 = .ok (.iconst 0, 1) := by decide +kernel
theorem zd_M_write_3 : decode prog_8_method_7_code 3 = .ok (.sipush 255, 3) := by decide +kernel
theorem zd_M_write_6 : decode prog_8_method_7_code 6 = .ok (.invokestatic 69, 3) := by decide +kernel
theorem zd_M_write_9 : decode prog_8_method_7_code 9 = .ok (.ifCond .eq 13, 3) := by decide +kernel
theorem zd_M_write_22 : decode prog_8_method_7_code 22 = .ok (.iconst 1, 1) := by decide +kernel
theorem zd_M_write_23 : decode prog_8_method_7_code 23 = .ok (.goto 20, 3) := by decide +kernel
theorem zd_M_write_43 : decode prog_8_method_7_code 43 = .ok (.invokevirtual 76, 3) := by decide +kernel
theorem zd_M_write_46 : decode prog_8_method_7_code 46 = .ok (.ifCond .ne 5, 3) := by decide +kernel
theorem zd_M_write_51 : decode prog_8_method_7_code 51 = .ok (.iconst 0, 1) := by decide +kernel
theorem zd_M_write_52 : decode prog_8_method_7_code 52 = .ok (.istore_n 3, 1) := by decide +kernel
theorem zd_M_write_82 : decode prog_8_method_7_code 82 = .ok (.aload_n 0, 1) := by decide +kernel
theorem zd_M_write_83 : decode prog_8_method_7_code 83 = .ok (.dup, 1) := by decide +kernel
theorem zd_M_write_84 : decode prog_8_method_7_code 84 = .ok (.getfield 73, 3) := by decide +kernel
theorem zd_M_write_87 : decode prog_8_method_7_code 87 = .ok (.iload_n 2, 1) := by decide +kernel
theorem zd_M_write_88 : decode prog_8_method_7_code 88 = .ok (.iadd, 1) := by decide +kernel
theorem zd_M_write_89 : decode prog_8_method_7_code 89 = .ok (.putfield 73, 3) := by decide +kernel
theorem zd_M_write_92 : decode prog_8_method_7_code 92 = .ok (.aload_n 0, 1) := by decide +kernel
theorem zd_M_write_93 : decode prog_8_method_7_code 93 = .ok (.getfield 73, 3) := by decide +kernel
theorem zd_M_write_96 : decode prog_8_method_7_code 96 = .ok (.ireturn, 1) := by decide +kernel
theorem zd_M_write_49 : decode prog_8_method_7_code 49 = .ok (.iconst 0, 1) := by decide +kernel
theorem zd_M_write_50 : decode prog_8_method_7_code 50 = .ok (.ireturn, 1) := by decide +kernel
theorem zd_M_write_12 : decode prog_8_method_7_code 12 = .ok (.iload_n 2, 1) := by decide +kernel
theorem zd_M_write_13 : decode prog_8_method_7_code 13 = .ok (.iconst 1, 1) := by decide +kernel
theorem zd_M_write_14 : decode prog_8_method_7_code 14 = .ok (.bipush 100, 2) := by decide +kernel
theorem zd_M_write_16 : decode prog_8_method_7_code 16 = .ok (.invokestatic 69, 3) := by decide +kernel
theorem zd_M_write_19 : decode prog_8_method_7_code 19 = .ok (.ifCond .ne 7, 3) := by decide +kernel
theorem zd_M_write_26 : decode prog_8_method_7_code 26 = .ok (.aload_n 0, 1) := by decide +kernel
theorem zd_M_write_27 : decode prog_8_method_7_code 27 = .ok (.getfield 73, 3) := by decide +kernel
theorem zd_M_write_30 : decode prog_8_method_7_code 30 = .ok (.iload_n 2, 1) := by decide +kernel
theorem zd_M_write_31 : decode prog_8_method_7_code 31 = .ok (.iadd, 1) := by decide +kernel
theorem zd_M_write_32 : decode prog_8_method_7_code 32 = .ok (.sipush 600, 3) := by decide +kernel
theorem zd_M_write_35 : decode prog_8_method_7_code 35 = .ok (.if_icmp .le 7, 3) := by decide +kernel
theorem zd_M_write_42 : decode prog_8_method_7_code 42 = .ok (.iconst 0, 1) := by decide +kernel
theorem zd_M_write_38 : decode prog_8_method_7_code 38 = .ok (.iconst 2, 1) := by decide +kernel
theorem zd_M_write_39 : decode prog_8_method_7_code 39 = .ok (.goto 4, 3) := by decide +kernel
theorem zd_M_room_0 : decode prog_8_method_8_code 0 = .ok (.aload_n 0, 1) := by decide +kernel
theorem zd_M_room_1 : decode prog_8_method_8_code 1 = .ok (.getfield 80, 3) := by decide +kernel
theorem zd_M_room_4 : decode prog_8_method_8_code 4 = .ok (.bipush 32, 2) := by decide +kernel
theorem zd_M_room_6 : decode prog_8_method_8_code 6 = .ok (.iadd, 1) := by decide +kernel
theorem zd_M_room_7 : decode prog_8_method_8_code 7 = .ok (.aload_n 0, 1) := by decide +kernel
theorem zd_M_room_8 : decode prog_8_method_8_code 8 = .ok (.getfield 83, 3) := by decide +kernel
theorem zd_M_room_11 : decode prog_8_method_8_code 11 = .ok (.isub, 1) := by decide +kernel
theorem zd_M_room_12 : decode prog_8_method_8_code 12 = .ok (.ireturn, 1) := by decide +kernel
theorem zd_M_leaves_12 : decode prog_8_method_27_code 12 = .ok (.iload_n 2, 1) := by decide +kernel
theorem zd_M_leaves_13 : decode prog_8_method_27_code 13 = .ok (.aload_n 0, 1) := by decide +kernel
theorem zd_M_leaves_14 : decode prog_8_method_27_code 14 = .ok (.getfield 174, 3) := by decide +kernel
theorem zd_M_leaves_17 : decode prog_8_method_27_code 17 = .ok (.if_icmp .ge 51, 3) := by decide +kernel
theorem zd_M_leaves_20 : decode prog_8_method_27_code 20 = .ok (.aload_n 0, 1) := by decide +kernel
theorem zd_M_leaves_21 : decode prog_8_method_27_code 21 = .ok (.getfield 51, 3) := by decide +kernel
theorem zd_M_leaves_24 : decode prog_8_method_27_code 24 = .ok (.iload_n 2, 1) := by decide +kernel
theorem zd_M_leaves_25 : decode prog_8_method_27_code 25 = .ok (.aload_n 0, 1) := by decide +kernel
theorem zd_M_leaves_26 : decode prog_8_method_27_code 26 = .ok (.getfield 51, 3) := by decide +kernel
theorem zd_M_leaves_29 : decode prog_8_method_27_code 29 = .ok (.iload_n 2, 1) := by decide +kernel
theorem zd_M_leaves_30 : decode prog_8_method_27_code 30 = .ok (.iconst 1, 1) := by decide +kernel
theorem zd_M_leaves_31 : decode prog_8_method_27_code 31 = .ok (.iadd, 1) := by decide +kernel
theorem zd_M_leaves_32 : decode prog_8_method_27_code 32 = .ok (.iaload, 1) := by decide +kernel
theorem zd_M_leaves_33 : decode prog_8_method_27_code 33 = .ok (.iastore, 1) := by decide +kernel
theorem zd_M_leaves_34 : decode prog_8_method_27_code 34 = .ok (.aload_n 0, 1) := by decide +kernel
theorem zd_M_leaves_35 : decode prog_8_method_27_code 35 = .ok (.getfield 54, 3) := by decide +kernel
theorem zd_M_leaves_38 : decode prog_8_method_27_code 38 = .ok (.iload_n 2, 1) := by decide +kernel
theorem zd_M_leaves_39 : decode prog_8_method_27_code 39 = .ok (.aload_n 0, 1) := by decide +kernel
theorem zd_M_leaves_40 : decode prog_8_method_27_code 40 = .ok (.getfield 54, 3) := by decide +kernel
theorem zd_M_leaves_43 : decode prog_8_method_27_code 43 = .ok (.iload_n 2, 1) := by decide +kernel
theorem zd_M_leaves_44 : decode prog_8_method_27_code 44 = .ok (.iconst 1, 1) := by decide +kernel
theorem zd_M_leaves_45 : decode prog_8_method_27_code 45 = .ok (.iadd, 1) := by decide +kernel
theorem zd_M_leaves_46 : decode prog_8_method_27_code 46 = .ok (.iaload, 1) := by decide +kernel
theorem zd_M_leaves_47 : decode prog_8_method_27_code 47 = .ok (.iastore, 1) := by decide +kernel
theorem zd_M_leaves_48 : decode prog_8_method_27_code 48 = .ok (.aload_n 0, 1) := by decide +kernel
theorem zd_M_leaves_49 : decode prog_8_method_27_code 49 = .ok (.getfield 57, 3) := by decide +kernel
theorem zd_M_leaves_52 : decode prog_8_method_27_code 52 = .ok (.iload_n 2, 1) := by decide +kernel
theorem zd_M_leaves_53 : decode prog_8_method_27_code 53 = .ok (.aload_n 0, 1) := by decide +kernel
theorem zd_M_leaves_54 : decode prog_8_method_27_code 54 = .ok (.getfield 57, 3) := by decide +kernel
theorem zd_M_leaves_57 : decode prog_8_method_27_code 57 = .ok (.iload_n 2, 1) := by decide +kernel
theorem zd_M_leaves_58 : decode prog_8_method_27_code 58 = .ok (.iconst 1, 1) := by decide +kernel
theorem zd_M_leaves_59 : decode prog_8_method_27_code 59 = .ok (.iadd, 1) := by decide +kernel
theorem zd_M_leaves_60 : decode prog_8_method_27_code 60 = .ok (.iaload, 1) := by decide +kernel
theorem zd_M_leaves_61 : decode prog_8_method_27_code 61 = .ok (.iastore, 1) := by decide +kernel
theorem zd_M_leaves_62 : decode prog_8_method_27_code 62 = .ok (.iinc 2 1, 3) := by decide +kernel
theorem zd_M_leaves_65 : decode prog_8_method_27_code 65 = .ok (.goto (-53), 3) := by decide +kernel
theorem zd_M_leaves_72 : decode prog_8_method_27_code 72 = .ok (.iload_n 2, 1) := by decide +kernel
theorem zd_M_leaves_73 : decode prog_8_method_27_code 73 = .ok (.iconst 3, 1) := by decide +kernel
theorem zd_M_leaves_74 : decode prog_8_method_27_code 74 = .ok (.aload_n 0, 1) := by decide +kernel
theorem zd_M_leaves_75 : decode prog_8_method_27_code 75 = .ok (.getfield 174, 3) := by decide +kernel
theorem zd_M_leaves_78 : decode prog_8_method_27_code 78 = .ok (.imul, 1) := by decide +kernel
theorem zd_M_leaves_79 : decode prog_8_method_27_code 79 = .ok (.if_icmp .ge 37, 3) := by decide +kernel
theorem zd_M_leaves_82 : decode prog_8_method_27_code 82 = .ok (.aload_n 0, 1) := by decide +kernel
theorem zd_M_leaves_83 : decode prog_8_method_27_code 83 = .ok (.getfield 60, 3) := by decide +kernel
theorem zd_M_leaves_86 : decode prog_8_method_27_code 86 = .ok (.iload_n 2, 1) := by decide +kernel
theorem zd_M_leaves_87 : decode prog_8_method_27_code 87 = .ok (.aload_n 0, 1) := by decide +kernel
theorem zd_M_leaves_88 : decode prog_8_method_27_code 88 = .ok (.getfield 60, 3) := by decide +kernel
theorem zd_M_leaves_91 : decode prog_8_method_27_code 91 = .ok (.iload_n 2, 1) := by decide +kernel
theorem zd_M_leaves_92 : decode prog_8_method_27_code 92 = .ok (.iconst 3, 1) := by decide +kernel
theorem zd_M_leaves_93 : decode prog_8_method_27_code 93 = .ok (.iadd, 1) := by decide +kernel
theorem zd_M_leaves_94 : decode prog_8_method_27_code 94 = .ok (.iaload, 1) := by decide +kernel
theorem zd_M_leaves_95 : decode prog_8_method_27_code 95 = .ok (.iastore, 1) := by decide +kernel
theorem zd_M_leaves_96 : decode prog_8_method_27_code 96 = .ok (.aload_n 0, 1) := by decide +kernel
theorem zd_M_leaves_97 : decode prog_8_method_27_code 97 = .ok (.getfield 63, 3) := by decide +kernel
theorem zd_M_leaves_100 : decode prog_8_method_27_code 100 = .ok (.iload_n 2, 1) := by decide +kernel
theorem zd_M_leaves_101 : decode prog_8_method_27_code 101 = .ok (.aload_n 0, 1) := by decide +kernel
theorem zd_M_leaves_102 : decode prog_8_method_27_code 102 = .ok (.getfield 63, 3) := by decide +kernel
theorem zd_M_leaves_105 : decode prog_8_method_27_code 105 = .ok (.iload_n 2, 1) := by decide +kernel
theorem zd_M_leaves_106 : decode prog_8_method_27_code 106 = .ok (.iconst 3, 1) := by decide +kernel
theorem zd_M_leaves_107 : decode prog_8_method_27_code 107 = .ok (.iadd, 1) := by decide +kernel
theorem zd_M_leaves_108 : decode prog_8_method_27_code 108 = .ok (.iaload, 1) := by decide +kernel
theorem zd_M_leaves_109 : decode prog_8_method_27_code 109 = .ok (.iastore, 1) := by decide +kernel
theorem zd_M_leaves_110 : decode prog_8_method_27_code 110 = .ok (.iinc 2 1, 3) := by decide +kernel
theorem zd_M_leaves_113 : decode prog_8_method_27_code 113 = .ok (.goto (-41), 3) := by decide +kernel
theorem zd_M_leaves_0 : decode prog_8_method_27_code 0 = .ok (.aload_n 0, 1) := by decide +kernel
theorem zd_M_leaves_1 : decode prog_8_method_27_code 1 = .ok (.dup, 1) := by decide +kernel
theorem zd_M_leaves_2 : decode prog_8_method_27_code 2 = .ok (.getfield 174, 3) := by decide +kernel
theorem zd_M_leaves_5 : decode prog_8_method_27_code 5 = .ok (.iconst 1, 1) := by decide +kernel
theorem zd_M_leaves_6 : decode prog_8_method_27_code 6 = .ok (.isub, 1) := by decide +kernel
theorem zd_M_leaves_7 : decode prog_8_method_27_code 7 = .ok (.putfield 174, 3) := by decide +kernel
theorem zd_M_leaves_10 : decode prog_8_method_27_code 10 = .ok (.iload_n 1, 1) := by decide +kernel
theorem zd_M_leaves_11 : decode prog_8_method_27_code 11 = .ok (.istore_n 2, 1) := by decide +kernel
theorem zd_M_leaves_68 : decode prog_8_method_27_code 68 = .ok (.iconst 3, 1) := by decide +kernel
theorem zd_M_leaves_69 : decode prog_8_method_27_code 69 = .ok (.iload_n 1, 1) := by decide +kernel
theorem zd_M_leaves_70 : decode prog_8_method_27_code 70 = .ok (.imul, 1) := by decide +kernel
theorem zd_M_leaves_71 : decode prog_8_method_27_code 71 = .ok (.istore_n 2, 1) := by decide +kernel
theorem zd_M_leaves_116 : decode prog_8_method_27_code 116 = .ok (.return_, 1) := by decide +kernel
theorem zd_M_isStart_0 : decode prog_8_method_24_code 0 = .ok (.iload_n 1, 1) := by decide +kernel
theorem zd_M_isStart_1 : decode prog_8_method_24_code 1 = .ok (.aload_n 0, 1) := by decide +kernel
theorem zd_M_isStart_2 : decode prog_8_method_24_code 2 = .ok (.getfield 83, 3) := by decide +kernel
theorem zd_M_isStart_5 : decode prog_8_method_24_code 5 = .ok (.if_icmp .le 27, 3) := by decide +kernel
theorem zd_M_isStart_32 : decode prog_8_method_24_code 32 = .ok (.iconst 0, 1) := by decide +kernel
theorem zd_M_isStart_33 : decode prog_8_method_24_code 33 = .ok (.ireturn, 1) := by decide +kernel
theorem zd_M_isStart_8 : decode prog_8_method_24_code 8 = .ok (.aload_n 0, 1) := by decide +kernel
theorem zd_M_isStart_9 : decode prog_8_method_24_code 9 = .ok (.getfield 39, 3) := by decide +kernel
theorem zd_M_isStart_12 : decode prog_8_method_24_code 12 = .ok (.iload_n 1, 1) := by decide +kernel
theorem zd_M_isStart_13 : decode prog_8_method_24_code 13 = .ok (.baload, 1) := by decide +kernel
theorem zd_M_isStart_14 : decode prog_8_method_24_code 14 = .ok (.ifCond .eq 18, 3) := by decide +kernel
theorem zd_M_isStart_17 : decode prog_8_method_24_code 17 = .ok (.aload_n 0, 1) := by decide +kernel
theorem zd_M_isStart_18 : decode prog_8_method_24_code 18 = .ok (.getfield 39, 3) := by decide +kernel
theorem zd_M_isStart_21 : decode prog_8_method_24_code 21 = .ok (.iload_n 1, 1) := by decide +kernel
theorem zd_M_isStart_22 : decode prog_8_method_24_code 22 = .ok (.iconst 1, 1) := by decide +kernel
theorem zd_M_isStart_23 : decode prog_8_method_24_code 23 = .ok (.isub, 1) := by decide +kernel
theorem zd_M_isStart_24 : decode prog_8_method_24_code 24 = .ok (.baload, 1) := by decide +kernel
theorem zd_M_isStart_25 : decode prog_8_method_24_code 25 = .ok (.ifCond .ne 7, 3) := by decide +kernel
theorem zd_M_isStart_28 : decode prog_8_method_24_code 28 = .ok (.iconst 1, 1) := by decide +kernel
theorem zd_M_isStart_29 : decode prog_8_method_24_code 29 = .ok (.goto 4, 3) := by decide +kernel
theorem zd_M_latest_4 : decode prog_8_method_23_code 4 = .ok (.iload_n 3, 1) := by decide +kernel
theorem zd_M_latest_5 : decode prog_8_method_23_code 5 = .ok (.sipush 600, 3) := by decide +kernel
theorem zd_M_latest_8 : decode prog_8_method_23_code 8 = .ok (.if_icmp .ge 29, 3) := by decide +kernel
theorem zd_M_latest_11 : decode prog_8_method_23_code 11 = .ok (.aload_n 0, 1) := by decide +kernel
theorem zd_M_latest_12 : decode prog_8_method_23_code 12 = .ok (.getfield 39, 3) := by decide +kernel
theorem zd_M_latest_15 : decode prog_8_method_23_code 15 = .ok (.iload_n 3, 1) := by decide +kernel
theorem zd_M_latest_16 : decode prog_8_method_23_code 16 = .ok (.baload, 1) := by decide +kernel
theorem zd_M_latest_17 : decode prog_8_method_23_code 17 = .ok (.ifCond .eq 20, 3) := by decide +kernel
theorem zd_M_latest_20 : decode prog_8_method_23_code 20 = .ok (.iload_n 2, 1) := by decide +kernel
theorem zd_M_latest_21 : decode prog_8_method_23_code 21 = .ok (.aload_n 0, 1) := by decide +kernel
theorem zd_M_latest_22 : decode prog_8_method_23_code 22 = .ok (.getfield 42, 3) := by decide +kernel
theorem zd_M_latest_25 : decode prog_8_method_23_code 25 = .ok (.iload_n 3, 1) := by decide +kernel
theorem zd_M_latest_26 : decode prog_8_method_23_code 26 = .ok (.iaload, 1) := by decide +kernel
theorem zd_M_latest_27 : decode prog_8_method_23_code 27 = .ok (.invokestatic 102, 3) := by decide +kernel
theorem zd_M_latest_30 : decode prog_8_method_23_code 30 = .ok (.istore_n 2, 1) := by decide +kernel
theorem zd_M_latest_31 : decode prog_8_method_23_code 31 = .ok (.iinc 3 1, 3) := by decide +kernel
theorem zd_M_latest_34 : decode prog_8_method_23_code 34 = .ok (.goto (-30), 3) := by decide +kernel
theorem zd_M_latest_0 : decode prog_8_method_23_code 0 = .ok (.iconst 0, 1) := by decide +kernel
theorem zd_M_latest_1 : decode prog_8_method_23_code 1 = .ok (.istore_n 2, 1) := by decide +kernel
theorem zd_M_latest_2 : decode prog_8_method_23_code 2 = .ok (.iload_n 1, 1) := by decide +kernel
theorem zd_M_latest_3 : decode prog_8_method_23_code 3 = .ok (.istore_n 3, 1) := by decide +kernel
theorem zd_M_latest_37 : decode prog_8_method_23_code 37 = .ok (.iload_n 2, 1) := by decide +kernel
theorem zd_M_latest_38 : decode prog_8_method_23_code 38 = .ok (.ireturn, 1) := by decide +kernel
theorem zd_M_runEnd_2 : decode prog_8_method_25_code 2 = .ok (.iload_n 2, 1) := by decide +kernel
theorem zd_M_runEnd_3 : decode prog_8_method_25_code 3 = .ok (.sipush 600, 3) := by decide +kernel
theorem zd_M_runEnd_6 : decode prog_8_method_25_code 6 = .ok (.if_icmp .ge 18, 3) := by decide +kernel
theorem zd_M_runEnd_9 : decode prog_8_method_25_code 9 = .ok (.aload_n 0, 1) := by decide +kernel
theorem zd_M_runEnd_10 : decode prog_8_method_25_code 10 = .ok (.getfield 39, 3) := by decide +kernel
theorem zd_M_runEnd_13 : decode prog_8_method_25_code 13 = .ok (.iload_n 2, 1) := by decide +kernel
theorem zd_M_runEnd_14 : decode prog_8_method_25_code 14 = .ok (.baload, 1) := by decide +kernel
theorem zd_M_runEnd_15 : decode prog_8_method_25_code 15 = .ok (.ifCond .eq 9, 3) := by decide +kernel
theorem zd_M_runEnd_18 : decode prog_8_method_25_code 18 = .ok (.iinc 2 1, 3) := by decide +kernel
theorem zd_M_runEnd_21 : decode prog_8_method_25_code 21 = .ok (.goto (-19), 3) := by decide +kernel
theorem zd_M_runEnd_0 : decode prog_8_method_25_code 0 = .ok (.iload_n 1, 1) := by decide +kernel
theorem zd_M_runEnd_1 : decode prog_8_method_25_code 1 = .ok (.istore_n 2, 1) := by decide +kernel
theorem zd_M_runEnd_24 : decode prog_8_method_25_code 24 = .ok (.iload_n 2, 1) := by decide +kernel
theorem zd_M_runEnd_25 : decode prog_8_method_25_code 25 = .ok (.ireturn, 1) := by decide +kernel
theorem zd_M_answers_74 : decode prog_8_method_26_code 74 = .ok (.iload 4, 2) := by decide +kernel
theorem zd_M_answers_76 : decode prog_8_method_26_code 76 = .ok (.sipush 600, 3) := by decide +kernel
theorem zd_M_answers_79 : decode prog_8_method_26_code 79 = .ok (.if_icmp .ge 66, 3) := by decide +kernel
theorem zd_M_answers_82 : decode prog_8_method_26_code 82 = .ok (.aload_n 0, 1) := by decide +kernel
theorem zd_M_answers_83 : decode prog_8_method_26_code 83 = .ok (.iload 4, 2) := by decide +kernel
theorem zd_M_answers_85 : decode prog_8_method_26_code 85 = .ok (.invokevirtual 183, 3) := by decide +kernel
theorem zd_M_answers_88 : decode prog_8_method_26_code 88 = .ok (.ifCond .eq 36, 3) := by decide +kernel
theorem zd_M_answers_124 : decode prog_8_method_26_code 124 = .ok (.iconst 0, 1) := by decide +kernel
theorem zd_M_answers_125 : decode prog_8_method_26_code 125 = .ok (.istore 5, 2) := by decide +kernel
theorem zd_M_answers_127 : decode prog_8_method_26_code 127 = .ok (.iload 5, 2) := by decide +kernel
theorem zd_M_answers_129 : decode prog_8_method_26_code 129 = .ok (.ifCond .eq 8, 3) := by decide +kernel
theorem zd_M_answers_137 : decode prog_8_method_26_code 137 = .ok (.iload_n 3, 1) := by decide +kernel
theorem zd_M_answers_138 : decode prog_8_method_26_code 138 = .ok (.istore_n 3, 1) := by decide +kernel
theorem zd_M_answers_139 : decode prog_8_method_26_code 139 = .ok (.iinc 4 1, 3) := by decide +kernel
theorem zd_M_answers_142 : decode prog_8_method_26_code 142 = .ok (.goto (-68), 3) := by decide +kernel
theorem zd_M_answers_91 : decode prog_8_method_26_code 91 = .ok (.aload_n 0, 1) := by decide +kernel
theorem zd_M_answers_92 : decode prog_8_method_26_code 92 = .ok (.iload 4, 2) := by decide +kernel
theorem zd_M_answers_94 : decode prog_8_method_26_code 94 = .ok (.invokevirtual 186, 3) := by decide +kernel
theorem zd_M_answers_97 : decode prog_8_method_26_code 97 = .ok (.iload_n 1, 1) := by decide +kernel
theorem zd_M_answers_98 : decode prog_8_method_26_code 98 = .ok (.if_icmp .ge 26, 3) := by decide +kernel
theorem zd_M_answers_101 : decode prog_8_method_26_code 101 = .ok (.iload_n 3, 1) := by decide +kernel
theorem zd_M_answers_102 : decode prog_8_method_26_code 102 = .ok (.iconst (-1), 1) := by decide +kernel
theorem zd_M_answers_103 : decode prog_8_method_26_code 103 = .ok (.if_icmp .eq 17, 3) := by decide +kernel
theorem zd_M_answers_120 : decode prog_8_method_26_code 120 = .ok (.iconst 1, 1) := by decide +kernel
theorem zd_M_answers_121 : decode prog_8_method_26_code 121 = .ok (.goto 4, 3) := by decide +kernel
theorem zd_M_answers_132 : decode prog_8_method_26_code 132 = .ok (.iload 4, 2) := by decide +kernel
theorem zd_M_answers_134 : decode prog_8_method_26_code 134 = .ok (.goto 4, 3) := by decide +kernel
theorem zd_M_answers_106 : decode prog_8_method_26_code 106 = .ok (.aload_n 0, 1) := by decide +kernel
theorem zd_M_answers_107 : decode prog_8_method_26_code 107 = .ok (.iload 4, 2) := by decide +kernel
theorem zd_M_answers_109 : decode prog_8_method_26_code 109 = .ok (.invokevirtual 186, 3) := by decide +kernel
theorem zd_M_answers_112 : decode prog_8_method_26_code 112 = .ok (.aload_n 0, 1) := by decide +kernel
theorem zd_M_answers_113 : decode prog_8_method_26_code 113 = .ok (.iload_n 3, 1) := by decide +kernel
theorem zd_M_answers_114 : decode prog_8_method_26_code 114 = .ok (.invokevirtual 186, 3) := by decide +kernel
theorem zd_M_answers_117 : decode prog_8_method_26_code 117 = .ok (.if_icmp .le 7, 3) := by decide +kernel
theorem zd_M_answers_59 : decode prog_8_method_26_code 59 = .ok (.iload_n 2, 1) := by decide +kernel
theorem zd_M_answers_60 : decode prog_8_method_26_code 60 = .ok (.iconst 3, 1) := by decide +kernel
theorem zd_M_answers_61 : decode prog_8_method_26_code 61 = .ok (.if_icmp .ge 146, 3) := by decide +kernel
theorem zd_M_answers_64 : decode prog_8_method_26_code 64 = .ok (.iconst (-1), 1) := by decide +kernel
theorem zd_M_answers_65 : decode prog_8_method_26_code 65 = .ok (.istore_n 3, 1) := by decide +kernel
theorem zd_M_answers_66 : decode prog_8_method_26_code 66 = .ok (.aload_n 0, 1) := by decide +kernel
theorem zd_M_answers_67 : decode prog_8_method_26_code 67 = .ok (.getfield 83, 3) := by decide +kernel
theorem zd_M_answers_70 : decode prog_8_method_26_code 70 = .ok (.iconst 1, 1) := by decide +kernel
theorem zd_M_answers_71 : decode prog_8_method_26_code 71 = .ok (.iadd, 1) := by decide +kernel
theorem zd_M_answers_72 : decode prog_8_method_26_code 72 = .ok (.istore 4, 2) := by decide +kernel
theorem zd_M_answers_145 : decode prog_8_method_26_code 145 = .ok (.iload_n 3, 1) := by decide +kernel
theorem zd_M_answers_146 : decode prog_8_method_26_code 146 = .ok (.iconst (-1), 1) := by decide +kernel
theorem zd_M_answers_147 : decode prog_8_method_26_code 147 = .ok (.if_icmp .eq 54, 3) := by decide +kernel
theorem zd_M_answers_201 : decode prog_8_method_26_code 201 = .ok (.iinc 2 1, 3) := by decide +kernel
theorem zd_M_answers_204 : decode prog_8_method_26_code 204 = .ok (.goto (-145), 3) := by decide +kernel
theorem zd_M_answers_150 : decode prog_8_method_26_code 150 = .ok (.aload_n 0, 1) := by decide +kernel
theorem zd_M_answers_151 : decode prog_8_method_26_code 151 = .ok (.getfield 60, 3) := by decide +kernel
theorem zd_M_answers_154 : decode prog_8_method_26_code 154 = .ok (.iconst 3, 1) := by decide +kernel
theorem zd_M_answers_155 : decode prog_8_method_26_code 155 = .ok (.aload_n 0, 1) := by decide +kernel
theorem zd_M_answers_156 : decode prog_8_method_26_code 156 = .ok (.getfield 174, 3) := by decide +kernel
theorem zd_M_answers_159 : decode prog_8_method_26_code 159 = .ok (.imul, 1) := by decide +kernel
theorem zd_M_answers_160 : decode prog_8_method_26_code 160 = .ok (.iload_n 2, 1) := by decide +kernel
theorem zd_M_answers_161 : decode prog_8_method_26_code 161 = .ok (.iadd, 1) := by decide +kernel
theorem zd_M_answers_162 : decode prog_8_method_26_code 162 = .ok (.iload_n 3, 1) := by decide +kernel
theorem zd_M_answers_163 : decode prog_8_method_26_code 163 = .ok (.iastore, 1) := by decide +kernel
theorem zd_M_answers_164 : decode prog_8_method_26_code 164 = .ok (.aload_n 0, 1) := by decide +kernel
theorem zd_M_answers_165 : decode prog_8_method_26_code 165 = .ok (.getfield 63, 3) := by decide +kernel
theorem zd_M_answers_168 : decode prog_8_method_26_code 168 = .ok (.iconst 3, 1) := by decide +kernel
theorem zd_M_answers_169 : decode prog_8_method_26_code 169 = .ok (.aload_n 0, 1) := by decide +kernel
theorem zd_M_answers_170 : decode prog_8_method_26_code 170 = .ok (.getfield 174, 3) := by decide +kernel
theorem zd_M_answers_173 : decode prog_8_method_26_code 173 = .ok (.imul, 1) := by decide +kernel
theorem zd_M_answers_174 : decode prog_8_method_26_code 174 = .ok (.iload_n 2, 1) := by decide +kernel
theorem zd_M_answers_175 : decode prog_8_method_26_code 175 = .ok (.iadd, 1) := by decide +kernel
theorem zd_M_answers_176 : decode prog_8_method_26_code 176 = .ok (.aload_n 0, 1) := by decide +kernel
theorem zd_M_answers_177 : decode prog_8_method_26_code 177 = .ok (.iload_n 3, 1) := by decide +kernel
theorem zd_M_answers_178 : decode prog_8_method_26_code 178 = .ok (.invokevirtual 190, 3) := by decide +kernel
theorem zd_M_answers_181 : decode prog_8_method_26_code 181 = .ok (.iastore, 1) := by decide +kernel
theorem zd_M_answers_182 : decode prog_8_method_26_code 182 = .ok (.aload_n 0, 1) := by decide +kernel
theorem zd_M_answers_183 : decode prog_8_method_26_code 183 = .ok (.getfield 57, 3) := by decide +kernel
theorem zd_M_answers_186 : decode prog_8_method_26_code 186 = .ok (.aload_n 0, 1) := by decide +kernel
theorem zd_M_answers_187 : decode prog_8_method_26_code 187 = .ok (.getfield 174, 3) := by decide +kernel
theorem zd_M_answers_190 : decode prog_8_method_26_code 190 = .ok (.dup2, 1) := by decide +kernel
theorem zd_M_answers_191 : decode prog_8_method_26_code 191 = .ok (.iaload, 1) := by decide +kernel
theorem zd_M_answers_192 : decode prog_8_method_26_code 192 = .ok (.iconst 1, 1) := by decide +kernel
theorem zd_M_answers_193 : decode prog_8_method_26_code 193 = .ok (.iadd, 1) := by decide +kernel
theorem zd_M_answers_194 : decode prog_8_method_26_code 194 = .ok (.iastore, 1) := by decide +kernel
theorem zd_M_answers_195 : decode prog_8_method_26_code 195 = .ok (.aload_n 0, 1) := by decide +kernel
theorem zd_M_answers_196 : decode prog_8_method_26_code 196 = .ok (.iload_n 3, 1) := by decide +kernel
theorem zd_M_answers_197 : decode prog_8_method_26_code 197 = .ok (.invokevirtual 186, 3) := by decide +kernel
theorem zd_M_answers_200 : decode prog_8_method_26_code 200 = .ok (.istore_n 1, 1) := by decide +kernel
theorem zd_M_answers_0 : decode prog_8_method_26_code 0 = .ok (.aload_n 0, 1) := by decide +kernel
theorem zd_M_answers_1 : decode prog_8_method_26_code 1 = .ok (.getfield 174, 3) := by decide +kernel
theorem zd_M_answers_4 : decode prog_8_method_26_code 4 = .ok (.bipush 40, 2) := by decide +kernel
theorem zd_M_answers_6 : decode prog_8_method_26_code 6 = .ok (.if_icmp .ne 8, 3) := by decide +kernel
theorem zd_M_answers_14 : decode prog_8_method_26_code 14 = .ok (.aload_n 0, 1) := by decide +kernel
theorem zd_M_answers_15 : decode prog_8_method_26_code 15 = .ok (.getfield 51, 3) := by decide +kernel
theorem zd_M_answers_18 : decode prog_8_method_26_code 18 = .ok (.aload_n 0, 1) := by decide +kernel
theorem zd_M_answers_19 : decode prog_8_method_26_code 19 = .ok (.getfield 174, 3) := by decide +kernel
theorem zd_M_answers_22 : decode prog_8_method_26_code 22 = .ok (.aload_n 0, 1) := by decide +kernel
theorem zd_M_answers_23 : decode prog_8_method_26_code 23 = .ok (.getfield 83, 3) := by decide +kernel
theorem zd_M_answers_26 : decode prog_8_method_26_code 26 = .ok (.iastore, 1) := by decide +kernel
theorem zd_M_answers_27 : decode prog_8_method_26_code 27 = .ok (.aload_n 0, 1) := by decide +kernel
theorem zd_M_answers_28 : decode prog_8_method_26_code 28 = .ok (.getfield 54, 3) := by decide +kernel
theorem zd_M_answers_31 : decode prog_8_method_26_code 31 = .ok (.aload_n 0, 1) := by decide +kernel
theorem zd_M_answers_32 : decode prog_8_method_26_code 32 = .ok (.getfield 174, 3) := by decide +kernel
theorem zd_M_answers_35 : decode prog_8_method_26_code 35 = .ok (.aload_n 0, 1) := by decide +kernel
theorem zd_M_answers_36 : decode prog_8_method_26_code 36 = .ok (.invokevirtual 86, 3) := by decide +kernel
theorem zd_M_answers_39 : decode prog_8_method_26_code 39 = .ok (.iastore, 1) := by decide +kernel
theorem zd_M_answers_40 : decode prog_8_method_26_code 40 = .ok (.aload_n 0, 1) := by decide +kernel
theorem zd_M_answers_41 : decode prog_8_method_26_code 41 = .ok (.getfield 57, 3) := by decide +kernel
theorem zd_M_answers_44 : decode prog_8_method_26_code 44 = .ok (.aload_n 0, 1) := by decide +kernel
theorem zd_M_answers_45 : decode prog_8_method_26_code 45 = .ok (.getfield 174, 3) := by decide +kernel
theorem zd_M_answers_48 : decode prog_8_method_26_code 48 = .ok (.iconst 0, 1) := by decide +kernel
theorem zd_M_answers_49 : decode prog_8_method_26_code 49 = .ok (.iastore, 1) := by decide +kernel
theorem zd_M_answers_50 : decode prog_8_method_26_code 50 = .ok (.aload_n 0, 1) := by decide +kernel
theorem zd_M_answers_51 : decode prog_8_method_26_code 51 = .ok (.getfield 180, 3) := by decide +kernel
theorem zd_M_answers_54 : decode prog_8_method_26_code 54 = .ok (.iconst 1, 1) := by decide +kernel
theorem zd_M_answers_55 : decode prog_8_method_26_code 55 = .ok (.iadd, 1) := by decide +kernel
theorem zd_M_answers_56 : decode prog_8_method_26_code 56 = .ok (.istore_n 1, 1) := by decide +kernel
theorem zd_M_answers_57 : decode prog_8_method_26_code 57 = .ok (.iconst 0, 1) := by decide +kernel
theorem zd_M_answers_58 : decode prog_8_method_26_code 58 = .ok (.istore_n 2, 1) := by decide +kernel
theorem zd_M_answers_207 : decode prog_8_method_26_code 207 = .ok (.aload_n 0, 1) := by decide +kernel
theorem zd_M_answers_208 : decode prog_8_method_26_code 208 = .ok (.dup, 1) := by decide +kernel
theorem zd_M_answers_209 : decode prog_8_method_26_code 209 = .ok (.getfield 174, 3) := by decide +kernel
theorem zd_M_answers_212 : decode prog_8_method_26_code 212 = .ok (.iconst 1, 1) := by decide +kernel
theorem zd_M_answers_213 : decode prog_8_method_26_code 213 = .ok (.iadd, 1) := by decide +kernel
theorem zd_M_answers_214 : decode prog_8_method_26_code 214 = .ok (.putfield 174, 3) := by decide +kernel
theorem zd_M_answers_217 : decode prog_8_method_26_code 217 = .ok (.return_, 1) := by decide +kernel
theorem zd_M_answers_9 : decode prog_8_method_26_code 9 = .ok (.aload_n 0, 1) := by decide +kernel
theorem zd_M_answers_10 : decode prog_8_method_26_code 10 = .ok (.iconst 0, 1) := by decide +kernel
theorem zd_M_answers_11 : decode prog_8_method_26_code 11 = .ok (.invokevirtual 177, 3) := by decide +kernel
theorem zd_M_read_0 : decode prog_8_method_9_code 0 = .ok (.aload_n 0, 1) := by decide +kernel
theorem zd_M_read_1 : decode prog_8_method_9_code 1 = .ok (.iconst 0, 1) := by decide +kernel
theorem zd_M_read_2 : decode prog_8_method_9_code 2 = .ok (.putfield 66, 3) := by decide +kernel
theorem zd_M_read_5 : decode prog_8_method_9_code 5 = .ok (.aload_n 0, 1) := by decide +kernel
theorem zd_M_read_6 : decode prog_8_method_9_code 6 = .ok (.getfield 80, 3) := by decide +kernel
theorem zd_M_read_9 : decode prog_8_method_9_code 9 = .ok (.aload_n 0, 1) := by decide +kernel
theorem zd_M_read_10 : decode prog_8_method_9_code 10 = .ok (.getfield 83, 3) := by decide +kernel
theorem zd_M_read_13 : decode prog_8_method_9_code 13 = .ok (.if_icmp .ne 5, 3) := by decide +kernel
theorem zd_M_read_18 : decode prog_8_method_9_code 18 = .ok (.aload_n 0, 1) := by decide +kernel
theorem zd_M_read_19 : decode prog_8_method_9_code 19 = .ok (.dup, 1) := by decide +kernel
theorem zd_M_read_20 : decode prog_8_method_9_code 20 = .ok (.getfield 80, 3) := by decide +kernel
theorem zd_M_read_23 : decode prog_8_method_9_code 23 = .ok (.iconst 1, 1) := by decide +kernel
theorem zd_M_read_24 : decode prog_8_method_9_code 24 = .ok (.iadd, 1) := by decide +kernel
theorem zd_M_read_25 : decode prog_8_method_9_code 25 = .ok (.putfield 80, 3) := by decide +kernel
theorem zd_M_read_28 : decode prog_8_method_9_code 28 = .ok (.aload_n 0, 1) := by decide +kernel
theorem zd_M_read_29 : decode prog_8_method_9_code 29 = .ok (.invokevirtual 86, 3) := by decide +kernel
theorem zd_M_read_32 : decode prog_8_method_9_code 32 = .ok (.iconst 4, 1) := by decide +kernel
theorem zd_M_read_33 : decode prog_8_method_9_code 33 = .ok (.if_icmp .ne 7, 3) := by decide +kernel
theorem zd_M_read_40 : decode prog_8_method_9_code 40 = .ok (.aload_n 0, 1) := by decide +kernel
theorem zd_M_read_41 : decode prog_8_method_9_code 41 = .ok (.getfield 31, 3) := by decide +kernel
theorem zd_M_read_44 : decode prog_8_method_9_code 44 = .ok (.aload_n 0, 1) := by decide +kernel
theorem zd_M_read_45 : decode prog_8_method_9_code 45 = .ok (.getfield 80, 3) := by decide +kernel
theorem zd_M_read_48 : decode prog_8_method_9_code 48 = .ok (.iconst 1, 1) := by decide +kernel
theorem zd_M_read_49 : decode prog_8_method_9_code 49 = .ok (.isub, 1) := by decide +kernel
theorem zd_M_read_50 : decode prog_8_method_9_code 50 = .ok (.iaload, 1) := by decide +kernel
theorem zd_M_read_51 : decode prog_8_method_9_code 51 = .ok (.ireturn, 1) := by decide +kernel
theorem zd_M_read_36 : decode prog_8_method_9_code 36 = .ok (.aload_n 0, 1) := by decide +kernel
theorem zd_M_read_37 : decode prog_8_method_9_code 37 = .ok (.invokevirtual 90, 3) := by decide +kernel
theorem zd_M_read_16 : decode prog_8_method_9_code 16 = .ok (.iconst (-1), 1) := by decide +kernel
theorem zd_M_read_17 : decode prog_8_method_9_code 17 = .ok (.ireturn, 1) := by decide +kernel
theorem zd_M_setLimit_0 : decode prog_8_method_10_code 0 = .ok (.aload_n 0, 1) := by decide +kernel
theorem zd_M_setLimit_1 : decode prog_8_method_10_code 1 = .ok (.iload_n 1, 1) := by decide +kernel
theorem zd_M_setLimit_2 : decode prog_8_method_10_code 2 = .ok (.iconst 4, 1) := by decide +kernel
theorem zd_M_setLimit_3 : decode prog_8_method_10_code 3 = .ok (.sipush 256, 3) := by decide +kernel
theorem zd_M_setLimit_6 : decode prog_8_method_10_code 6 = .ok (.invokestatic 69, 3) := by decide +kernel
theorem zd_M_setLimit_9 : decode prog_8_method_10_code 9 = .ok (.ifCond .eq 7, 3) := by decide +kernel
theorem zd_M_setLimit_16 : decode prog_8_method_10_code 16 = .ok (.iconst 1, 1) := by decide +kernel
theorem zd_M_setLimit_17 : decode prog_8_method_10_code 17 = .ok (.invokevirtual 76, 3) := by decide +kernel
theorem zd_M_setLimit_20 : decode prog_8_method_10_code 20 = .ok (.ifCond .ne 5, 3) := by decide +kernel
theorem zd_M_setLimit_25 : decode prog_8_method_10_code 25 = .ok (.aload_n 0, 1) := by decide +kernel
theorem zd_M_setLimit_26 : decode prog_8_method_10_code 26 = .ok (.getfield 19, 3) := by decide +kernel
theorem zd_M_setLimit_29 : decode prog_8_method_10_code 29 = .ok (.istore_n 2, 1) := by decide +kernel
theorem zd_M_setLimit_30 : decode prog_8_method_10_code 30 = .ok (.aload_n 0, 1) := by decide +kernel
theorem zd_M_setLimit_31 : decode prog_8_method_10_code 31 = .ok (.iload_n 1, 1) := by decide +kernel
theorem zd_M_setLimit_32 : decode prog_8_method_10_code 32 = .ok (.putfield 19, 3) := by decide +kernel
theorem zd_M_setLimit_35 : decode prog_8_method_10_code 35 = .ok (.iload_n 2, 1) := by decide +kernel
theorem zd_M_setLimit_36 : decode prog_8_method_10_code 36 = .ok (.ireturn, 1) := by decide +kernel
theorem zd_M_setLimit_23 : decode prog_8_method_10_code 23 = .ok (.iconst 0, 1) := by decide +kernel
theorem zd_M_setLimit_24 : decode prog_8_method_10_code 24 = .ok (.ireturn, 1) := by decide +kernel
theorem zd_M_setLimit_12 : decode prog_8_method_10_code 12 = .ok (.iconst 0, 1) := by decide +kernel
theorem zd_M_setLimit_13 : decode prog_8_method_10_code 13 = .ok (.goto 4, 3) := by decide +kernel
theorem zd_M_flight_7 : decode prog_8_method_11_code 7 = .ok (.iload_n 2, 1) := by decide +kernel
theorem zd_M_flight_8 : decode prog_8_method_11_code 8 = .ok (.aload_n 0, 1) := by decide +kernel
theorem zd_M_flight_9 : decode prog_8_method_11_code 9 = .ok (.getfield 96, 3) := by decide +kernel
theorem zd_M_flight_12 : decode prog_8_method_11_code 12 = .ok (.if_icmp .ge 26, 3) := by decide +kernel
theorem zd_M_flight_15 : decode prog_8_method_11_code 15 = .ok (.iload_n 1, 1) := by decide +kernel
theorem zd_M_flight_16 : decode prog_8_method_11_code 16 = .ok (.aload_n 0, 1) := by decide +kernel
theorem zd_M_flight_17 : decode prog_8_method_11_code 17 = .ok (.getfield 35, 3) := by decide +kernel
theorem zd_M_flight_20 : decode prog_8_method_11_code 20 = .ok (.iload_n 2, 1) := by decide +kernel
theorem zd_M_flight_21 : decode prog_8_method_11_code 21 = .ok (.baload, 1) := by decide +kernel
theorem zd_M_flight_22 : decode prog_8_method_11_code 22 = .ok (.ifCond .eq 7, 3) := by decide +kernel
theorem zd_M_flight_29 : decode prog_8_method_11_code 29 = .ok (.iconst 1, 1) := by decide +kernel
theorem zd_M_flight_30 : decode prog_8_method_11_code 30 = .ok (.iadd, 1) := by decide +kernel
theorem zd_M_flight_31 : decode prog_8_method_11_code 31 = .ok (.istore_n 1, 1) := by decide +kernel
theorem zd_M_flight_32 : decode prog_8_method_11_code 32 = .ok (.iinc 2 1, 3) := by decide +kernel
theorem zd_M_flight_35 : decode prog_8_method_11_code 35 = .ok (.goto (-28), 3) := by decide +kernel
theorem zd_M_flight_25 : decode prog_8_method_11_code 25 = .ok (.iconst 0, 1) := by decide +kernel
theorem zd_M_flight_26 : decode prog_8_method_11_code 26 = .ok (.goto 4, 3) := by decide +kernel
theorem zd_M_flight_0 : decode prog_8_method_11_code 0 = .ok (.iconst 0, 1) := by decide +kernel
theorem zd_M_flight_1 : decode prog_8_method_11_code 1 = .ok (.istore_n 1, 1) := by decide +kernel
theorem zd_M_flight_2 : decode prog_8_method_11_code 2 = .ok (.aload_n 0, 1) := by decide +kernel
theorem zd_M_flight_3 : decode prog_8_method_11_code 3 = .ok (.getfield 93, 3) := by decide +kernel
theorem zd_M_flight_6 : decode prog_8_method_11_code 6 = .ok (.istore_n 2, 1) := by decide +kernel
theorem zd_M_flight_38 : decode prog_8_method_11_code 38 = .ok (.iload_n 1, 1) := by decide +kernel
theorem zd_M_flight_39 : decode prog_8_method_11_code 39 = .ok (.ireturn, 1) := by decide +kernel
theorem zd_M_lastMark_7 : decode prog_8_method_12_code 7 = .ok (.iload_n 1, 1) := by decide +kernel
theorem zd_M_lastMark_8 : decode prog_8_method_12_code 8 = .ok (.ifCond .lt 18, 3) := by decide +kernel
theorem zd_M_lastMark_11 : decode prog_8_method_12_code 11 = .ok (.aload_n 0, 1) := by decide +kernel
theorem zd_M_lastMark_12 : decode prog_8_method_12_code 12 = .ok (.getfield 35, 3) := by decide +kernel
theorem zd_M_lastMark_15 : decode prog_8_method_12_code 15 = .ok (.iload_n 1, 1) := by decide +kernel
theorem zd_M_lastMark_16 : decode prog_8_method_12_code 16 = .ok (.baload, 1) := by decide +kernel
theorem zd_M_lastMark_17 : decode prog_8_method_12_code 17 = .ok (.ifCond .ne 9, 3) := by decide +kernel
theorem zd_M_lastMark_20 : decode prog_8_method_12_code 20 = .ok (.iinc 1 (-1), 3) := by decide +kernel
theorem zd_M_lastMark_23 : decode prog_8_method_12_code 23 = .ok (.goto (-16), 3) := by decide +kernel
theorem zd_M_lastMark_0 : decode prog_8_method_12_code 0 = .ok (.aload_n 0, 1) := by decide +kernel
theorem zd_M_lastMark_1 : decode prog_8_method_12_code 1 = .ok (.getfield 73, 3) := by decide +kernel
theorem zd_M_lastMark_4 : decode prog_8_method_12_code 4 = .ok (.iconst 1, 1) := by decide +kernel
theorem zd_M_lastMark_5 : decode prog_8_method_12_code 5 = .ok (.isub, 1) := by decide +kernel
theorem zd_M_lastMark_6 : decode prog_8_method_12_code 6 = .ok (.istore_n 1, 1) := by decide +kernel
theorem zd_M_lastMark_26 : decode prog_8_method_12_code 26 = .ok (.iload_n 1, 1) := by decide +kernel
theorem zd_M_lastMark_27 : decode prog_8_method_12_code 27 = .ok (.ireturn, 1) := by decide +kernel
theorem zd_M_markOr_2 : decode prog_8_method_13_code 2 = .ok (.iload_n 3, 1) := by decide +kernel
theorem zd_M_markOr_3 : decode prog_8_method_13_code 3 = .ok (.iload_n 2, 1) := by decide +kernel
theorem zd_M_markOr_4 : decode prog_8_method_13_code 4 = .ok (.if_icmp .ge 18, 3) := by decide +kernel
theorem zd_M_markOr_7 : decode prog_8_method_13_code 7 = .ok (.aload_n 0, 1) := by decide +kernel
theorem zd_M_markOr_8 : decode prog_8_method_13_code 8 = .ok (.getfield 35, 3) := by decide +kernel
theorem zd_M_markOr_11 : decode prog_8_method_13_code 11 = .ok (.iload_n 3, 1) := by decide +kernel
theorem zd_M_markOr_12 : decode prog_8_method_13_code 12 = .ok (.baload, 1) := by decide +kernel
theorem zd_M_markOr_13 : decode prog_8_method_13_code 13 = .ok (.ifCond .ne 9, 3) := by decide +kernel
theorem zd_M_markOr_16 : decode prog_8_method_13_code 16 = .ok (.iinc 3 1, 3) := by decide +kernel
theorem zd_M_markOr_19 : decode prog_8_method_13_code 19 = .ok (.goto (-17), 3) := by decide +kernel
theorem zd_M_markOr_0 : decode prog_8_method_13_code 0 = .ok (.iload_n 1, 1) := by decide +kernel
theorem zd_M_markOr_1 : decode prog_8_method_13_code 1 = .ok (.istore_n 3, 1) := by decide +kernel
theorem zd_M_markOr_22 : decode prog_8_method_13_code 22 = .ok (.iload_n 3, 1) := by decide +kernel
theorem zd_M_markOr_23 : decode prog_8_method_13_code 23 = .ok (.ireturn, 1) := by decide +kernel
theorem zd_M_hole_12 : decode prog_8_method_14_code 12 = .ok (.iload_n 1, 1) := by decide +kernel
theorem zd_M_hole_13 : decode prog_8_method_14_code 13 = .ok (.aload_n 0, 1) := by decide +kernel
theorem zd_M_hole_14 : decode prog_8_method_14_code 14 = .ok (.getfield 96, 3) := by decide +kernel
theorem zd_M_hole_17 : decode prog_8_method_14_code 17 = .ok (.if_icmp .ge 18, 3) := by decide +kernel
theorem zd_M_hole_20 : decode prog_8_method_14_code 20 = .ok (.aload_n 0, 1) := by decide +kernel
theorem zd_M_hole_21 : decode prog_8_method_14_code 21 = .ok (.getfield 35, 3) := by decide +kernel
theorem zd_M_hole_24 : decode prog_8_method_14_code 24 = .ok (.iload_n 1, 1) := by decide +kernel
theorem zd_M_hole_25 : decode prog_8_method_14_code 25 = .ok (.baload, 1) := by decide +kernel
theorem zd_M_hole_26 : decode prog_8_method_14_code 26 = .ok (.ifCond .eq 9, 3) := by decide +kernel
theorem zd_M_hole_29 : decode prog_8_method_14_code 29 = .ok (.iinc 1 1, 3) := by decide +kernel
theorem zd_M_hole_32 : decode prog_8_method_14_code 32 = .ok (.goto (-20), 3) := by decide +kernel
theorem zd_M_hole_0 : decode prog_8_method_14_code 0 = .ok (.aload_n 0, 1) := by decide +kernel
theorem zd_M_hole_1 : decode prog_8_method_14_code 1 = .ok (.getfield 93, 3) := by decide +kernel
theorem zd_M_hole_4 : decode prog_8_method_14_code 4 = .ok (.aload_n 0, 1) := by decide +kernel
theorem zd_M_hole_5 : decode prog_8_method_14_code 5 = .ok (.getfield 99, 3) := by decide +kernel
theorem zd_M_hole_8 : decode prog_8_method_14_code 8 = .ok (.invokestatic 102, 3) := by decide +kernel
theorem zd_M_hole_11 : decode prog_8_method_14_code 11 = .ok (.istore_n 1, 1) := by decide +kernel
theorem zd_M_hole_35 : decode prog_8_method_14_code 35 = .ok (.iload_n 1, 1) := by decide +kernel
theorem zd_M_hole_36 : decode prog_8_method_14_code 36 = .ok (.aload_n 0, 1) := by decide +kernel
theorem zd_M_hole_37 : decode prog_8_method_14_code 37 = .ok (.getfield 96, 3) := by decide +kernel
theorem zd_M_hole_40 : decode prog_8_method_14_code 40 = .ok (.if_icmp .ge 23, 3) := by decide +kernel
theorem zd_M_hole_63 : decode prog_8_method_14_code 63 = .ok (.iconst (-1), 1) := by decide +kernel
theorem zd_M_hole_64 : decode prog_8_method_14_code 64 = .ok (.ireturn, 1) := by decide +kernel
theorem zd_M_hole_43 : decode prog_8_method_14_code 43 = .ok (.iload_n 1, 1) := by decide +kernel
theorem zd_M_hole_44 : decode prog_8_method_14_code 44 = .ok (.aload_n 0, 1) := by decide +kernel
theorem zd_M_hole_45 : decode prog_8_method_14_code 45 = .ok (.getfield 93, 3) := by decide +kernel
theorem zd_M_hole_48 : decode prog_8_method_14_code 48 = .ok (.if_icmp .eq 11, 3) := by decide +kernel
theorem zd_M_hole_59 : decode prog_8_method_14_code 59 = .ok (.iload_n 1, 1) := by decide +kernel
theorem zd_M_hole_60 : decode prog_8_method_14_code 60 = .ok (.goto 4, 3) := by decide +kernel
theorem zd_M_hole_51 : decode prog_8_method_14_code 51 = .ok (.iload_n 1, 1) := by decide +kernel
theorem zd_M_hole_52 : decode prog_8_method_14_code 52 = .ok (.aload_n 0, 1) := by decide +kernel
theorem zd_M_hole_53 : decode prog_8_method_14_code 53 = .ok (.invokevirtual 106, 3) := by decide +kernel
theorem zd_M_hole_56 : decode prog_8_method_14_code 56 = .ok (.if_icmp .ge 7, 3) := by decide +kernel
theorem zd_M_sends_0 : decode prog_8_method_15_code 0 = .ok (.aload_n 0, 1) := by decide +kernel
theorem zd_M_sends_1 : decode prog_8_method_15_code 1 = .ok (.getfield 45, 3) := by decide +kernel
theorem zd_M_sends_4 : decode prog_8_method_15_code 4 = .ok (.aload_n 0, 1) := by decide +kernel
theorem zd_M_sends_5 : decode prog_8_method_15_code 5 = .ok (.getfield 109, 3) := by decide +kernel
theorem zd_M_sends_8 : decode prog_8_method_15_code 8 = .ok (.iload_n 1, 1) := by decide +kernel
theorem zd_M_sends_9 : decode prog_8_method_15_code 9 = .ok (.iastore, 1) := by decide +kernel
theorem zd_M_sends_10 : decode prog_8_method_15_code 10 = .ok (.aload_n 0, 1) := by decide +kernel
theorem zd_M_sends_11 : decode prog_8_method_15_code 11 = .ok (.getfield 48, 3) := by decide +kernel
theorem zd_M_sends_14 : decode prog_8_method_15_code 14 = .ok (.aload_n 0, 1) := by decide +kernel
theorem zd_M_sends_15 : decode prog_8_method_15_code 15 = .ok (.getfield 109, 3) := by decide +kernel
theorem zd_M_sends_18 : decode prog_8_method_15_code 18 = .ok (.iload_n 2, 1) := by decide +kernel
theorem zd_M_sends_19 : decode prog_8_method_15_code 19 = .ok (.iastore, 1) := by decide +kernel
theorem zd_M_sends_20 : decode prog_8_method_15_code 20 = .ok (.aload_n 0, 1) := by decide +kernel
theorem zd_M_sends_21 : decode prog_8_method_15_code 21 = .ok (.dup, 1) := by decide +kernel
theorem zd_M_sends_22 : decode prog_8_method_15_code 22 = .ok (.getfield 109, 3) := by decide +kernel
theorem zd_M_sends_25 : decode prog_8_method_15_code 25 = .ok (.iconst 1, 1) := by decide +kernel
theorem zd_M_sends_26 : decode prog_8_method_15_code 26 = .ok (.iadd, 1) := by decide +kernel
theorem zd_M_sends_27 : decode prog_8_method_15_code 27 = .ok (.putfield 109, 3) := by decide +kernel
theorem zd_M_sends_30 : decode prog_8_method_15_code 30 = .ok (.aload_n 0, 1) := by decide +kernel
theorem zd_M_sends_31 : decode prog_8_method_15_code 31 = .ok (.dup, 1) := by decide +kernel
theorem zd_M_sends_32 : decode prog_8_method_15_code 32 = .ok (.getfield 112, 3) := by decide +kernel
theorem zd_M_sends_35 : decode prog_8_method_15_code 35 = .ok (.iconst 1, 1) := by decide +kernel
theorem zd_M_sends_36 : decode prog_8_method_15_code 36 = .ok (.iadd, 1) := by decide +kernel
theorem zd_M_sends_37 : decode prog_8_method_15_code 37 = .ok (.putfield 112, 3) := by decide +kernel
theorem zd_M_sends_40 : decode prog_8_method_15_code 40 = .ok (.iload_n 1, 1) := by decide +kernel
theorem zd_M_sends_41 : decode prog_8_method_15_code 41 = .ok (.aload_n 0, 1) := by decide +kernel
theorem zd_M_sends_42 : decode prog_8_method_15_code 42 = .ok (.getfield 115, 3) := by decide +kernel
theorem zd_M_sends_45 : decode prog_8_method_15_code 45 = .ok (.if_icmp .ge 16, 3) := by decide +kernel
theorem zd_M_sends_61 : decode prog_8_method_15_code 61 = .ok (.aload_n 0, 1) := by decide +kernel
theorem zd_M_sends_62 : decode prog_8_method_15_code 62 = .ok (.getfield 28, 3) := by decide +kernel
theorem zd_M_sends_65 : decode prog_8_method_15_code 65 = .ok (.iconst (-1), 1) := by decide +kernel
theorem zd_M_sends_66 : decode prog_8_method_15_code 66 = .ok (.if_icmp .ne 16, 3) := by decide +kernel
theorem zd_M_sends_82 : decode prog_8_method_15_code 82 = .ok (.aload_n 0, 1) := by decide +kernel
theorem zd_M_sends_83 : decode prog_8_method_15_code 83 = .ok (.aload_n 0, 1) := by decide +kernel
theorem zd_M_sends_84 : decode prog_8_method_15_code 84 = .ok (.getfield 115, 3) := by decide +kernel
theorem zd_M_sends_87 : decode prog_8_method_15_code 87 = .ok (.aload_n 0, 1) := by decide +kernel
theorem zd_M_sends_88 : decode prog_8_method_15_code 88 = .ok (.getfield 96, 3) := by decide +kernel
theorem zd_M_sends_91 : decode prog_8_method_15_code 91 = .ok (.invokestatic 102, 3) := by decide +kernel
theorem zd_M_sends_94 : decode prog_8_method_15_code 94 = .ok (.putfield 115, 3) := by decide +kernel
theorem zd_M_sends_97 : decode prog_8_method_15_code 97 = .ok (.aload_n 0, 1) := by decide +kernel
theorem zd_M_sends_98 : decode prog_8_method_15_code 98 = .ok (.getfield 25, 3) := by decide +kernel
theorem zd_M_sends_101 : decode prog_8_method_15_code 101 = .ok (.iconst (-1), 1) := by decide +kernel
theorem zd_M_sends_102 : decode prog_8_method_15_code 102 = .ok (.if_icmp .ne 16, 3) := by decide +kernel
theorem zd_M_sends_118 : decode prog_8_method_15_code 118 = .ok (.iload_n 2, 1) := by decide +kernel
theorem zd_M_sends_119 : decode prog_8_method_15_code 119 = .ok (.iload_n 1, 1) := by decide +kernel
theorem zd_M_sends_120 : decode prog_8_method_15_code 120 = .ok (.isub, 1) := by decide +kernel
theorem zd_M_sends_121 : decode prog_8_method_15_code 121 = .ok (.ireturn, 1) := by decide +kernel
theorem zd_M_sends_105 : decode prog_8_method_15_code 105 = .ok (.aload_n 0, 1) := by decide +kernel
theorem zd_M_sends_106 : decode prog_8_method_15_code 106 = .ok (.aload_n 0, 1) := by decide +kernel
theorem zd_M_sends_107 : decode prog_8_method_15_code 107 = .ok (.getfield 121, 3) := by decide +kernel
theorem zd_M_sends_110 : decode prog_8_method_15_code 110 = .ok (.aload_n 0, 1) := by decide +kernel
theorem zd_M_sends_111 : decode prog_8_method_15_code 111 = .ok (.getfield 22, 3) := by decide +kernel
theorem zd_M_sends_114 : decode prog_8_method_15_code 114 = .ok (.iadd, 1) := by decide +kernel
theorem zd_M_sends_115 : decode prog_8_method_15_code 115 = .ok (.putfield 25, 3) := by decide +kernel
theorem zd_M_sends_69 : decode prog_8_method_15_code 69 = .ok (.aload_n 0, 1) := by decide +kernel
theorem zd_M_sends_70 : decode prog_8_method_15_code 70 = .ok (.iload_n 2, 1) := by decide +kernel
theorem zd_M_sends_71 : decode prog_8_method_15_code 71 = .ok (.putfield 28, 3) := by decide +kernel
theorem zd_M_sends_74 : decode prog_8_method_15_code 74 = .ok (.aload_n 0, 1) := by decide +kernel
theorem zd_M_sends_75 : decode prog_8_method_15_code 75 = .ok (.aload_n 0, 1) := by decide +kernel
theorem zd_M_sends_76 : decode prog_8_method_15_code 76 = .ok (.getfield 121, 3) := by decide +kernel
theorem zd_M_sends_79 : decode prog_8_method_15_code 79 = .ok (.putfield 124, 3) := by decide +kernel
theorem zd_M_sends_48 : decode prog_8_method_15_code 48 = .ok (.aload_n 0, 1) := by decide +kernel
theorem zd_M_sends_49 : decode prog_8_method_15_code 49 = .ok (.dup, 1) := by decide +kernel
theorem zd_M_sends_50 : decode prog_8_method_15_code 50 = .ok (.getfield 118, 3) := by decide +kernel
theorem zd_M_sends_53 : decode prog_8_method_15_code 53 = .ok (.iconst 1, 1) := by decide +kernel
theorem zd_M_sends_54 : decode prog_8_method_15_code 54 = .ok (.iadd, 1) := by decide +kernel
theorem zd_M_sends_55 : decode prog_8_method_15_code 55 = .ok (.putfield 118, 3) := by decide +kernel
theorem zd_M_sends_58 : decode prog_8_method_15_code 58 = .ok (.goto 24, 3) := by decide +kernel
theorem zd_M_send_73 : decode prog_8_method_16_code 73 = .ok (.aload_n 0, 1) := by decide +kernel
theorem zd_M_send_74 : decode prog_8_method_16_code 74 = .ok (.getfield 96, 3) := by decide +kernel
theorem zd_M_send_77 : decode prog_8_method_16_code 77 = .ok (.aload_n 0, 1) := by decide +kernel
theorem zd_M_send_78 : decode prog_8_method_16_code 78 = .ok (.getfield 73, 3) := by decide +kernel
theorem zd_M_send_81 : decode prog_8_method_16_code 81 = .ok (.if_icmp .ge 28, 3) := by decide +kernel
theorem zd_M_send_84 : decode prog_8_method_16_code 84 = .ok (.aload_n 0, 1) := by decide +kernel
theorem zd_M_send_85 : decode prog_8_method_16_code 85 = .ok (.getfield 35, 3) := by decide +kernel
theorem zd_M_send_88 : decode prog_8_method_16_code 88 = .ok (.aload_n 0, 1) := by decide +kernel
theorem zd_M_send_89 : decode prog_8_method_16_code 89 = .ok (.getfield 96, 3) := by decide +kernel
theorem zd_M_send_92 : decode prog_8_method_16_code 92 = .ok (.baload, 1) := by decide +kernel
theorem zd_M_send_93 : decode prog_8_method_16_code 93 = .ok (.ifCond .eq 16, 3) := by decide +kernel
theorem zd_M_send_96 : decode prog_8_method_16_code 96 = .ok (.aload_n 0, 1) := by decide +kernel
theorem zd_M_send_97 : decode prog_8_method_16_code 97 = .ok (.dup, 1) := by decide +kernel
theorem zd_M_send_98 : decode prog_8_method_16_code 98 = .ok (.getfield 96, 3) := by decide +kernel
theorem zd_M_send_101 : decode prog_8_method_16_code 101 = .ok (.iconst 1, 1) := by decide +kernel
theorem zd_M_send_102 : decode prog_8_method_16_code 102 = .ok (.iadd, 1) := by decide +kernel
theorem zd_M_send_103 : decode prog_8_method_16_code 103 = .ok (.putfield 96, 3) := by decide +kernel
theorem zd_M_send_106 : decode prog_8_method_16_code 106 = .ok (.goto (-33), 3) := by decide +kernel
theorem zd_M_send_0 : decode prog_8_method_16_code 0 = .ok (.aload_n 0, 1) := by decide +kernel
theorem zd_M_send_1 : decode prog_8_method_16_code 1 = .ok (.aload_n 0, 1) := by decide +kernel
theorem zd_M_send_2 : decode prog_8_method_16_code 2 = .ok (.getfield 109, 3) := by decide +kernel
theorem zd_M_send_5 : decode prog_8_method_16_code 5 = .ok (.bipush 40, 2) := by decide +kernel
theorem zd_M_send_7 : decode prog_8_method_16_code 7 = .ok (.if_icmp .ne 7, 3) := by decide +kernel
theorem zd_M_send_14 : decode prog_8_method_16_code 14 = .ok (.iconst 0, 1) := by decide +kernel
theorem zd_M_send_15 : decode prog_8_method_16_code 15 = .ok (.invokevirtual 76, 3) := by decide +kernel
theorem zd_M_send_18 : decode prog_8_method_16_code 18 = .ok (.ifCond .ne 5, 3) := by decide +kernel
theorem zd_M_send_23 : decode prog_8_method_16_code 23 = .ok (.aload_n 0, 1) := by decide +kernel
theorem zd_M_send_24 : decode prog_8_method_16_code 24 = .ok (.getfield 127, 3) := by decide +kernel
theorem zd_M_send_27 : decode prog_8_method_16_code 27 = .ok (.ifCond .eq 10, 3) := by decide +kernel
theorem zd_M_send_37 : decode prog_8_method_16_code 37 = .ok (.iconst (-1), 1) := by decide +kernel
theorem zd_M_send_38 : decode prog_8_method_16_code 38 = .ok (.istore_n 1, 1) := by decide +kernel
theorem zd_M_send_39 : decode prog_8_method_16_code 39 = .ok (.iload_n 1, 1) := by decide +kernel
theorem zd_M_send_40 : decode prog_8_method_16_code 40 = .ok (.iconst (-1), 1) := by decide +kernel
theorem zd_M_send_41 : decode prog_8_method_16_code 41 = .ok (.if_icmp .eq 32, 3) := by decide +kernel
theorem zd_M_send_109 : decode prog_8_method_16_code 109 = .ok (.aload_n 0, 1) := by decide +kernel
theorem zd_M_send_110 : decode prog_8_method_16_code 110 = .ok (.getfield 96, 3) := by decide +kernel
theorem zd_M_send_113 : decode prog_8_method_16_code 113 = .ok (.aload_n 0, 1) := by decide +kernel
theorem zd_M_send_114 : decode prog_8_method_16_code 114 = .ok (.getfield 73, 3) := by decide +kernel
theorem zd_M_send_117 : decode prog_8_method_16_code 117 = .ok (.if_icmp .ne 5, 3) := by decide +kernel
theorem zd_M_send_122 : decode prog_8_method_16_code 122 = .ok (.aload_n 0, 1) := by decide +kernel
theorem zd_M_send_123 : decode prog_8_method_16_code 123 = .ok (.invokevirtual 143, 3) := by decide +kernel
theorem zd_M_send_126 : decode prog_8_method_16_code 126 = .ok (.istore_n 2, 1) := by decide +kernel
theorem zd_M_send_127 : decode prog_8_method_16_code 127 = .ok (.aload_n 0, 1) := by decide +kernel
theorem zd_M_send_128 : decode prog_8_method_16_code 128 = .ok (.getfield 96, 3) := by decide +kernel
theorem zd_M_send_131 : decode prog_8_method_16_code 131 = .ok (.istore_n 3, 1) := by decide +kernel
theorem zd_M_send_132 : decode prog_8_method_16_code 132 = .ok (.aload_n 0, 1) := by decide +kernel
theorem zd_M_send_133 : decode prog_8_method_16_code 133 = .ok (.getfield 96, 3) := by decide +kernel
theorem zd_M_send_136 : decode prog_8_method_16_code 136 = .ok (.aload_n 0, 1) := by decide +kernel
theorem zd_M_send_137 : decode prog_8_method_16_code 137 = .ok (.getfield 9, 3) := by decide +kernel
theorem zd_M_send_140 : decode prog_8_method_16_code 140 = .ok (.if_icmp .ge 34, 3) := by decide +kernel
theorem zd_M_send_174 : decode prog_8_method_16_code 174 = .ok (.aload_n 0, 1) := by decide +kernel
theorem zd_M_send_175 : decode prog_8_method_16_code 175 = .ok (.getfield 96, 3) := by decide +kernel
theorem zd_M_send_178 : decode prog_8_method_16_code 178 = .ok (.iconst 1, 1) := by decide +kernel
theorem zd_M_send_179 : decode prog_8_method_16_code 179 = .ok (.iadd, 1) := by decide +kernel
theorem zd_M_send_180 : decode prog_8_method_16_code 180 = .ok (.istore 4, 2) := by decide +kernel
theorem zd_M_send_182 : decode prog_8_method_16_code 182 = .ok (.iload_n 2, 1) := by decide +kernel
theorem zd_M_send_183 : decode prog_8_method_16_code 183 = .ok (.ifCond .eq 34, 3) := by decide +kernel
theorem zd_M_send_217 : decode prog_8_method_16_code 217 = .ok (.iconst 1, 1) := by decide +kernel
theorem zd_M_send_218 : decode prog_8_method_16_code 218 = .ok (.goto 4, 3) := by decide +kernel
theorem zd_M_send_222 : decode prog_8_method_16_code 222 = .ok (.istore 5, 2) := by decide +kernel
theorem zd_M_send_224 : decode prog_8_method_16_code 224 = .ok (.iload 5, 2) := by decide +kernel
theorem zd_M_send_226 : decode prog_8_method_16_code 226 = .ok (.ifCond .ne 5, 3) := by decide +kernel
theorem zd_M_send_231 : decode prog_8_method_16_code 231 = .ok (.aload_n 0, 1) := by decide +kernel
theorem zd_M_send_232 : decode prog_8_method_16_code 232 = .ok (.iload 4, 2) := by decide +kernel
theorem zd_M_send_234 : decode prog_8_method_16_code 234 = .ok (.putfield 96, 3) := by decide +kernel
theorem zd_M_send_237 : decode prog_8_method_16_code 237 = .ok (.aload_n 0, 1) := by decide +kernel
theorem zd_M_send_238 : decode prog_8_method_16_code 238 = .ok (.iload_n 3, 1) := by decide +kernel
theorem zd_M_send_239 : decode prog_8_method_16_code 239 = .ok (.iload 4, 2) := by decide +kernel
theorem zd_M_send_241 : decode prog_8_method_16_code 241 = .ok (.invokevirtual 140, 3) := by decide +kernel
theorem zd_M_send_244 : decode prog_8_method_16_code 244 = .ok (.ireturn, 1) := by decide +kernel
theorem zd_M_send_186 : decode prog_8_method_16_code 186 = .ok (.aload_n 0, 1) := by decide +kernel
theorem zd_M_send_187 : decode prog_8_method_16_code 187 = .ok (.getfield 96, 3) := by decide +kernel
theorem zd_M_send_190 : decode prog_8_method_16_code 190 = .ok (.aload_n 0, 1) := by decide +kernel
theorem zd_M_send_191 : decode prog_8_method_16_code 191 = .ok (.getfield 9, 3) := by decide +kernel
theorem zd_M_send_194 : decode prog_8_method_16_code 194 = .ok (.if_icmp .ge 27, 3) := by decide +kernel
theorem zd_M_send_221 : decode prog_8_method_16_code 221 = .ok (.iconst 0, 1) := by decide +kernel
theorem zd_M_send_229 : decode prog_8_method_16_code 229 = .ok (.iconst 0, 1) := by decide +kernel
theorem zd_M_send_230 : decode prog_8_method_16_code 230 = .ok (.ireturn, 1) := by decide +kernel
theorem zd_M_send_197 : decode prog_8_method_16_code 197 = .ok (.iload_n 2, 1) := by decide +kernel
theorem zd_M_send_198 : decode prog_8_method_16_code 198 = .ok (.iload 4, 2) := by decide +kernel
theorem zd_M_send_200 : decode prog_8_method_16_code 200 = .ok (.iadd, 1) := by decide +kernel
theorem zd_M_send_201 : decode prog_8_method_16_code 201 = .ok (.iload_n 3, 1) := by decide +kernel
theorem zd_M_send_202 : decode prog_8_method_16_code 202 = .ok (.isub, 1) := by decide +kernel
theorem zd_M_send_203 : decode prog_8_method_16_code 203 = .ok (.aload_n 0, 1) := by decide +kernel
theorem zd_M_send_204 : decode prog_8_method_16_code 204 = .ok (.getfield 13, 3) := by decide +kernel
theorem zd_M_send_207 : decode prog_8_method_16_code 207 = .ok (.aload_n 0, 1) := by decide +kernel
theorem zd_M_send_208 : decode prog_8_method_16_code 208 = .ok (.getfield 19, 3) := by decide +kernel
theorem zd_M_send_211 : decode prog_8_method_16_code 211 = .ok (.invokestatic 134, 3) := by decide +kernel
theorem zd_M_send_214 : decode prog_8_method_16_code 214 = .ok (.if_icmp .gt 7, 3) := by decide +kernel
theorem zd_M_send_143 : decode prog_8_method_16_code 143 = .ok (.aload_n 0, 1) := by decide +kernel
theorem zd_M_send_144 : decode prog_8_method_16_code 144 = .ok (.aload_n 0, 1) := by decide +kernel
theorem zd_M_send_145 : decode prog_8_method_16_code 145 = .ok (.getfield 96, 3) := by decide +kernel
theorem zd_M_send_148 : decode prog_8_method_16_code 148 = .ok (.aload_n 0, 1) := by decide +kernel
theorem zd_M_send_149 : decode prog_8_method_16_code 149 = .ok (.getfield 96, 3) := by decide +kernel
theorem zd_M_send_152 : decode prog_8_method_16_code 152 = .ok (.iconst 4, 1) := by decide +kernel
theorem zd_M_send_153 : decode prog_8_method_16_code 153 = .ok (.iadd, 1) := by decide +kernel
theorem zd_M_send_154 : decode prog_8_method_16_code 154 = .ok (.aload_n 0, 1) := by decide +kernel
theorem zd_M_send_155 : decode prog_8_method_16_code 155 = .ok (.getfield 73, 3) := by decide +kernel
theorem zd_M_send_158 : decode prog_8_method_16_code 158 = .ok (.aload_n 0, 1) := by decide +kernel
theorem zd_M_send_159 : decode prog_8_method_16_code 159 = .ok (.getfield 9, 3) := by decide +kernel
theorem zd_M_send_162 : decode prog_8_method_16_code 162 = .ok (.invokestatic 134, 3) := by decide +kernel
theorem zd_M_send_165 : decode prog_8_method_16_code 165 = .ok (.invokestatic 134, 3) := by decide +kernel
theorem zd_M_send_168 : decode prog_8_method_16_code 168 = .ok (.invokevirtual 137, 3) := by decide +kernel
theorem zd_M_send_171 : decode prog_8_method_16_code 171 = .ok (.goto 9, 3) := by decide +kernel
theorem zd_M_send_120 : decode prog_8_method_16_code 120 = .ok (.iconst 0, 1) := by decide +kernel
theorem zd_M_send_121 : decode prog_8_method_16_code 121 = .ok (.ireturn, 1) := by decide +kernel
theorem zd_M_send_30 : decode prog_8_method_16_code 30 = .ok (.aload_n 0, 1) := by decide +kernel
theorem zd_M_send_31 : decode prog_8_method_16_code 31 = .ok (.invokevirtual 131, 3) := by decide +kernel
theorem zd_M_send_34 : decode prog_8_method_16_code 34 = .ok (.goto 4, 3) := by decide +kernel
theorem zd_M_send_44 : decode prog_8_method_16_code 44 = .ok (.aload_n 0, 1) := by decide +kernel
theorem zd_M_send_45 : decode prog_8_method_16_code 45 = .ok (.aload_n 0, 1) := by decide +kernel
theorem zd_M_send_46 : decode prog_8_method_16_code 46 = .ok (.iload_n 1, 1) := by decide +kernel
theorem zd_M_send_47 : decode prog_8_method_16_code 47 = .ok (.iload_n 1, 1) := by decide +kernel
theorem zd_M_send_48 : decode prog_8_method_16_code 48 = .ok (.iconst 4, 1) := by decide +kernel
theorem zd_M_send_49 : decode prog_8_method_16_code 49 = .ok (.iadd, 1) := by decide +kernel
theorem zd_M_send_50 : decode prog_8_method_16_code 50 = .ok (.aload_n 0, 1) := by decide +kernel
theorem zd_M_send_51 : decode prog_8_method_16_code 51 = .ok (.getfield 96, 3) := by decide +kernel
theorem zd_M_send_54 : decode prog_8_method_16_code 54 = .ok (.invokestatic 134, 3) := by decide +kernel
theorem zd_M_send_57 : decode prog_8_method_16_code 57 = .ok (.invokevirtual 137, 3) := by decide +kernel
theorem zd_M_send_60 : decode prog_8_method_16_code 60 = .ok (.putfield 99, 3) := by decide +kernel
theorem zd_M_send_63 : decode prog_8_method_16_code 63 = .ok (.aload_n 0, 1) := by decide +kernel
theorem zd_M_send_64 : decode prog_8_method_16_code 64 = .ok (.iload_n 1, 1) := by decide +kernel
theorem zd_M_send_65 : decode prog_8_method_16_code 65 = .ok (.aload_n 0, 1) := by decide +kernel
theorem zd_M_send_66 : decode prog_8_method_16_code 66 = .ok (.getfield 99, 3) := by decide +kernel
theorem zd_M_send_69 : decode prog_8_method_16_code 69 = .ok (.invokevirtual 140, 3) := by decide +kernel
theorem zd_M_send_72 : decode prog_8_method_16_code 72 = .ok (.ireturn, 1) := by decide +kernel
theorem zd_M_send_21 : decode prog_8_method_16_code 21 = .ok (.iconst 0, 1) := by decide +kernel
theorem zd_M_send_22 : decode prog_8_method_16_code 22 = .ok (.ireturn, 1) := by decide +kernel
theorem zd_M_send_10 : decode prog_8_method_16_code 10 = .ok (.iconst 1, 1) := by decide +kernel
theorem zd_M_send_11 : decode prog_8_method_16_code 11 = .ok (.goto 4, 3) := by decide +kernel
theorem zd_M_runsOut_37 : decode prog_8_method_17_code 37 = .ok (.iload_n 1, 1) := by decide +kernel
theorem zd_M_runsOut_38 : decode prog_8_method_17_code 38 = .ok (.sipush 600, 3) := by decide +kernel
theorem zd_M_runsOut_41 : decode prog_8_method_17_code 41 = .ok (.if_icmp .ge 16, 3) := by decide +kernel
theorem zd_M_runsOut_44 : decode prog_8_method_17_code 44 = .ok (.aload_n 0, 1) := by decide +kernel
theorem zd_M_runsOut_45 : decode prog_8_method_17_code 45 = .ok (.getfield 35, 3) := by decide +kernel
theorem zd_M_runsOut_48 : decode prog_8_method_17_code 48 = .ok (.iload_n 1, 1) := by decide +kernel
theorem zd_M_runsOut_49 : decode prog_8_method_17_code 49 = .ok (.iconst 0, 1) := by decide +kernel
theorem zd_M_runsOut_50 : decode prog_8_method_17_code 50 = .ok (.bastore, 1) := by decide +kernel
theorem zd_M_runsOut_51 : decode prog_8_method_17_code 51 = .ok (.iinc 1 1, 3) := by decide +kernel
theorem zd_M_runsOut_54 : decode prog_8_method_17_code 54 = .ok (.goto (-17), 3) := by decide +kernel
theorem zd_M_runsOut_0 : decode prog_8_method_17_code 0 = .ok (.aload_n 0, 1) := by decide +kernel
theorem zd_M_runsOut_1 : decode prog_8_method_17_code 1 = .ok (.aload_n 0, 1) := by decide +kernel
theorem zd_M_runsOut_2 : decode prog_8_method_17_code 2 = .ok (.invokevirtual 143, 3) := by decide +kernel
theorem zd_M_runsOut_5 : decode prog_8_method_17_code 5 = .ok (.iconst 2, 1) := by decide +kernel
theorem zd_M_runsOut_6 : decode prog_8_method_17_code 6 = .ok (.idiv, 1) := by decide +kernel
theorem zd_M_runsOut_7 : decode prog_8_method_17_code 7 = .ok (.bipush 8, 2) := by decide +kernel
theorem zd_M_runsOut_9 : decode prog_8_method_17_code 9 = .ok (.invokestatic 102, 3) := by decide +kernel
theorem zd_M_runsOut_12 : decode prog_8_method_17_code 12 = .ok (.putfield 16, 3) := by decide +kernel
theorem zd_M_runsOut_15 : decode prog_8_method_17_code 15 = .ok (.aload_n 0, 1) := by decide +kernel
theorem zd_M_runsOut_16 : decode prog_8_method_17_code 16 = .ok (.iconst 4, 1) := by decide +kernel
theorem zd_M_runsOut_17 : decode prog_8_method_17_code 17 = .ok (.putfield 13, 3) := by decide +kernel
theorem zd_M_runsOut_20 : decode prog_8_method_17_code 20 = .ok (.aload_n 0, 1) := by decide +kernel
theorem zd_M_runsOut_21 : decode prog_8_method_17_code 21 = .ok (.iconst 2, 1) := by decide +kernel
theorem zd_M_runsOut_22 : decode prog_8_method_17_code 22 = .ok (.aload_n 0, 1) := by decide +kernel
theorem zd_M_runsOut_23 : decode prog_8_method_17_code 23 = .ok (.getfield 22, 3) := by decide +kernel
theorem zd_M_runsOut_26 : decode prog_8_method_17_code 26 = .ok (.imul, 1) := by decide +kernel
theorem zd_M_runsOut_27 : decode prog_8_method_17_code 27 = .ok (.bipush 64, 2) := by decide +kernel
theorem zd_M_runsOut_29 : decode prog_8_method_17_code 29 = .ok (.invokestatic 134, 3) := by decide +kernel
theorem zd_M_runsOut_32 : decode prog_8_method_17_code 32 = .ok (.putfield 22, 3) := by decide +kernel
theorem zd_M_runsOut_35 : decode prog_8_method_17_code 35 = .ok (.iconst 0, 1) := by decide +kernel
theorem zd_M_runsOut_36 : decode prog_8_method_17_code 36 = .ok (.istore_n 1, 1) := by decide +kernel
theorem zd_M_runsOut_57 : decode prog_8_method_17_code 57 = .ok (.aload_n 0, 1) := by decide +kernel
theorem zd_M_runsOut_58 : decode prog_8_method_17_code 58 = .ok (.aload_n 0, 1) := by decide +kernel
theorem zd_M_runsOut_59 : decode prog_8_method_17_code 59 = .ok (.getfield 93, 3) := by decide +kernel
theorem zd_M_runsOut_62 : decode prog_8_method_17_code 62 = .ok (.putfield 96, 3) := by decide +kernel
theorem zd_M_runsOut_65 : decode prog_8_method_17_code 65 = .ok (.aload_n 0, 1) := by decide +kernel
theorem zd_M_runsOut_66 : decode prog_8_method_17_code 66 = .ok (.iconst 0, 1) := by decide +kernel
theorem zd_M_runsOut_67 : decode prog_8_method_17_code 67 = .ok (.putfield 127, 3) := by decide +kernel
theorem zd_M_runsOut_70 : decode prog_8_method_17_code 70 = .ok (.aload_n 0, 1) := by decide +kernel
theorem zd_M_runsOut_71 : decode prog_8_method_17_code 71 = .ok (.iconst 0, 1) := by decide +kernel
theorem zd_M_runsOut_72 : decode prog_8_method_17_code 72 = .ok (.putfield 146, 3) := by decide +kernel
theorem zd_M_runsOut_75 : decode prog_8_method_17_code 75 = .ok (.aload_n 0, 1) := by decide +kernel
theorem zd_M_runsOut_76 : decode prog_8_method_17_code 76 = .ok (.iconst (-1), 1) := by decide +kernel
theorem zd_M_runsOut_77 : decode prog_8_method_17_code 77 = .ok (.putfield 28, 3) := by decide +kernel
theorem zd_M_runsOut_80 : decode prog_8_method_17_code 80 = .ok (.aload_n 0, 1) := by decide +kernel
theorem zd_M_runsOut_81 : decode prog_8_method_17_code 81 = .ok (.iconst (-1), 1) := by decide +kernel
theorem zd_M_runsOut_82 : decode prog_8_method_17_code 82 = .ok (.putfield 25, 3) := by decide +kernel
theorem zd_M_runsOut_85 : decode prog_8_method_17_code 85 = .ok (.return_, 1) := by decide +kernel
theorem zd_M_tick_28 : decode prog_8_method_18_code 28 = .ok (.iload_n 3, 1) := by decide +kernel
theorem zd_M_tick_29 : decode prog_8_method_18_code 29 = .ok (.iload_n 1, 1) := by decide +kernel
theorem zd_M_tick_30 : decode prog_8_method_18_code 30 = .ok (.if_icmp .ge 37, 3) := by decide +kernel
theorem zd_M_tick_33 : decode prog_8_method_18_code 33 = .ok (.aload_n 0, 1) := by decide +kernel
theorem zd_M_tick_34 : decode prog_8_method_18_code 34 = .ok (.dup, 1) := by decide +kernel
theorem zd_M_tick_35 : decode prog_8_method_18_code 35 = .ok (.getfield 121, 3) := by decide +kernel
theorem zd_M_tick_38 : decode prog_8_method_18_code 38 = .ok (.iconst 1, 1) := by decide +kernel
theorem zd_M_tick_39 : decode prog_8_method_18_code 39 = .ok (.iadd, 1) := by decide +kernel
theorem zd_M_tick_40 : decode prog_8_method_18_code 40 = .ok (.putfield 121, 3) := by decide +kernel
theorem zd_M_tick_43 : decode prog_8_method_18_code 43 = .ok (.aload_n 0, 1) := by decide +kernel
theorem zd_M_tick_44 : decode prog_8_method_18_code 44 = .ok (.getfield 121, 3) := by decide +kernel
theorem zd_M_tick_47 : decode prog_8_method_18_code 47 = .ok (.aload_n 0, 1) := by decide +kernel
theorem zd_M_tick_48 : decode prog_8_method_18_code 48 = .ok (.getfield 25, 3) := by decide +kernel
theorem zd_M_tick_51 : decode prog_8_method_18_code 51 = .ok (.if_icmp .ne 10, 3) := by decide +kernel
theorem zd_M_tick_61 : decode prog_8_method_18_code 61 = .ok (.iinc 3 1, 3) := by decide +kernel
theorem zd_M_tick_64 : decode prog_8_method_18_code 64 = .ok (.goto (-36), 3) := by decide +kernel
theorem zd_M_tick_54 : decode prog_8_method_18_code 54 = .ok (.aload_n 0, 1) := by decide +kernel
theorem zd_M_tick_55 : decode prog_8_method_18_code 55 = .ok (.invokevirtual 149, 3) := by decide +kernel
theorem zd_M_tick_58 : decode prog_8_method_18_code 58 = .ok (.iinc 2 1, 3) := by decide +kernel
theorem zd_M_tick_0 : decode prog_8_method_18_code 0 = .ok (.aload_n 0, 1) := by decide +kernel
theorem zd_M_tick_1 : decode prog_8_method_18_code 1 = .ok (.iload_n 1, 1) := by decide +kernel
theorem zd_M_tick_2 : decode prog_8_method_18_code 2 = .ok (.iconst 1, 1) := by decide +kernel
theorem zd_M_tick_3 : decode prog_8_method_18_code 3 = .ok (.bipush 100, 2) := by decide +kernel
theorem zd_M_tick_5 : decode prog_8_method_18_code 5 = .ok (.invokestatic 69, 3) := by decide +kernel
theorem zd_M_tick_8 : decode prog_8_method_18_code 8 = .ok (.ifCond .eq 7, 3) := by decide +kernel
theorem zd_M_tick_15 : decode prog_8_method_18_code 15 = .ok (.iconst 1, 1) := by decide +kernel
theorem zd_M_tick_16 : decode prog_8_method_18_code 16 = .ok (.invokevirtual 76, 3) := by decide +kernel
theorem zd_M_tick_19 : decode prog_8_method_18_code 19 = .ok (.ifCond .ne 5, 3) := by decide +kernel
theorem zd_M_tick_24 : decode prog_8_method_18_code 24 = .ok (.iconst 0, 1) := by decide +kernel
theorem zd_M_tick_25 : decode prog_8_method_18_code 25 = .ok (.istore_n 2, 1) := by decide +kernel
theorem zd_M_tick_26 : decode prog_8_method_18_code 26 = .ok (.iconst 0, 1) := by decide +kernel
theorem zd_M_tick_27 : decode prog_8_method_18_code 27 = .ok (.istore_n 3, 1) := by decide +kernel
theorem zd_M_tick_67 : decode prog_8_method_18_code 67 = .ok (.iload_n 2, 1) := by decide +kernel
theorem zd_M_tick_68 : decode prog_8_method_18_code 68 = .ok (.ireturn, 1) := by decide +kernel
theorem zd_M_tick_22 : decode prog_8_method_18_code 22 = .ok (.iconst 0, 1) := by decide +kernel
theorem zd_M_tick_23 : decode prog_8_method_18_code 23 = .ok (.ireturn, 1) := by decide +kernel
theorem zd_M_tick_11 : decode prog_8_method_18_code 11 = .ok (.iconst 0, 1) := by decide +kernel
theorem zd_M_tick_12 : decode prog_8_method_18_code 12 = .ok (.goto 4, 3) := by decide +kernel
theorem zd_M_samples_0 : decode prog_8_method_19_code 0 = .ok (.aload_n 0, 1) := by decide +kernel
theorem zd_M_samples_1 : decode prog_8_method_19_code 1 = .ok (.getfield 152, 3) := by decide +kernel
theorem zd_M_samples_4 : decode prog_8_method_19_code 4 = .ok (.ifCond .eq 52, 3) := by decide +kernel
theorem zd_M_samples_56 : decode prog_8_method_19_code 56 = .ok (.aload_n 0, 1) := by decide +kernel
theorem zd_M_samples_57 : decode prog_8_method_19_code 57 = .ok (.bipush 8, 2) := by decide +kernel
theorem zd_M_samples_59 : decode prog_8_method_19_code 59 = .ok (.iload_n 1, 1) := by decide +kernel
theorem zd_M_samples_60 : decode prog_8_method_19_code 60 = .ok (.imul, 1) := by decide +kernel
theorem zd_M_samples_61 : decode prog_8_method_19_code 61 = .ok (.putfield 155, 3) := by decide +kernel
theorem zd_M_samples_64 : decode prog_8_method_19_code 64 = .ok (.aload_n 0, 1) := by decide +kernel
theorem zd_M_samples_65 : decode prog_8_method_19_code 65 = .ok (.iconst 2, 1) := by decide +kernel
theorem zd_M_samples_66 : decode prog_8_method_19_code 66 = .ok (.iload_n 1, 1) := by decide +kernel
theorem zd_M_samples_67 : decode prog_8_method_19_code 67 = .ok (.imul, 1) := by decide +kernel
theorem zd_M_samples_68 : decode prog_8_method_19_code 68 = .ok (.putfield 158, 3) := by decide +kernel
theorem zd_M_samples_71 : decode prog_8_method_19_code 71 = .ok (.aload_n 0, 1) := by decide +kernel
theorem zd_M_samples_72 : decode prog_8_method_19_code 72 = .ok (.iconst 1, 1) := by decide +kernel
theorem zd_M_samples_73 : decode prog_8_method_19_code 73 = .ok (.putfield 152, 3) := by decide +kernel
theorem zd_M_samples_76 : decode prog_8_method_19_code 76 = .ok (.aload_n 0, 1) := by decide +kernel
theorem zd_M_samples_77 : decode prog_8_method_19_code 77 = .ok (.aload_n 0, 1) := by decide +kernel
theorem zd_M_samples_78 : decode prog_8_method_19_code 78 = .ok (.getfield 155, 3) := by decide +kernel
theorem zd_M_samples_81 : decode prog_8_method_19_code 81 = .ok (.bipush 8, 2) := by decide +kernel
theorem zd_M_samples_83 : decode prog_8_method_19_code 83 = .ok (.idiv, 1) := by decide +kernel
theorem zd_M_samples_84 : decode prog_8_method_19_code 84 = .ok (.aload_n 0, 1) := by decide +kernel
theorem zd_M_samples_85 : decode prog_8_method_19_code 85 = .ok (.getfield 158, 3) := by decide +kernel
theorem zd_M_samples_88 : decode prog_8_method_19_code 88 = .ok (.iconst 1, 1) := by decide +kernel
theorem zd_M_samples_89 : decode prog_8_method_19_code 89 = .ok (.invokestatic 102, 3) := by decide +kernel
theorem zd_M_samples_92 : decode prog_8_method_19_code 92 = .ok (.iadd, 1) := by decide +kernel
theorem zd_M_samples_93 : decode prog_8_method_19_code 93 = .ok (.iconst 2, 1) := by decide +kernel
theorem zd_M_samples_94 : decode prog_8_method_19_code 94 = .ok (.invokestatic 102, 3) := by decide +kernel
theorem zd_M_samples_97 : decode prog_8_method_19_code 97 = .ok (.bipush 64, 2) := by decide +kernel
theorem zd_M_samples_99 : decode prog_8_method_19_code 99 = .ok (.invokestatic 134, 3) := by decide +kernel
theorem zd_M_samples_102 : decode prog_8_method_19_code 102 = .ok (.putfield 22, 3) := by decide +kernel
theorem zd_M_samples_105 : decode prog_8_method_19_code 105 = .ok (.return_, 1) := by decide +kernel
theorem zd_M_samples_7 : decode prog_8_method_19_code 7 = .ok (.iload_n 1, 1) := by decide +kernel
theorem zd_M_samples_8 : decode prog_8_method_19_code 8 = .ok (.aload_n 0, 1) := by decide +kernel
theorem zd_M_samples_9 : decode prog_8_method_19_code 9 = .ok (.getfield 155, 3) := by decide +kernel
theorem zd_M_samples_12 : decode prog_8_method_19_code 12 = .ok (.bipush 8, 2) := by decide +kernel
theorem zd_M_samples_14 : decode prog_8_method_19_code 14 = .ok (.idiv, 1) := by decide +kernel
theorem zd_M_samples_15 : decode prog_8_method_19_code 15 = .ok (.isub, 1) := by decide +kernel
theorem zd_M_samples_16 : decode prog_8_method_19_code 16 = .ok (.istore_n 2, 1) := by decide +kernel
theorem zd_M_samples_17 : decode prog_8_method_19_code 17 = .ok (.aload_n 0, 1) := by decide +kernel
theorem zd_M_samples_18 : decode prog_8_method_19_code 18 = .ok (.dup, 1) := by decide +kernel
theorem zd_M_samples_19 : decode prog_8_method_19_code 19 = .ok (.getfield 155, 3) := by decide +kernel
theorem zd_M_samples_22 : decode prog_8_method_19_code 22 = .ok (.iload_n 2, 1) := by decide +kernel
theorem zd_M_samples_23 : decode prog_8_method_19_code 23 = .ok (.iadd, 1) := by decide +kernel
theorem zd_M_samples_24 : decode prog_8_method_19_code 24 = .ok (.putfield 155, 3) := by decide +kernel
theorem zd_M_samples_27 : decode prog_8_method_19_code 27 = .ok (.aload_n 0, 1) := by decide +kernel
theorem zd_M_samples_28 : decode prog_8_method_19_code 28 = .ok (.dup, 1) := by decide +kernel
theorem zd_M_samples_29 : decode prog_8_method_19_code 29 = .ok (.getfield 158, 3) := by decide +kernel
theorem zd_M_samples_32 : decode prog_8_method_19_code 32 = .ok (.iload_n 2, 1) := by decide +kernel
theorem zd_M_samples_33 : decode prog_8_method_19_code 33 = .ok (.ifCond .ge 8, 3) := by decide +kernel
theorem zd_M_samples_41 : decode prog_8_method_19_code 41 = .ok (.iload_n 2, 1) := by decide +kernel
theorem zd_M_samples_42 : decode prog_8_method_19_code 42 = .ok (.aload_n 0, 1) := by decide +kernel
theorem zd_M_samples_43 : decode prog_8_method_19_code 43 = .ok (.getfield 158, 3) := by decide +kernel
theorem zd_M_samples_46 : decode prog_8_method_19_code 46 = .ok (.iconst 4, 1) := by decide +kernel
theorem zd_M_samples_47 : decode prog_8_method_19_code 47 = .ok (.idiv, 1) := by decide +kernel
theorem zd_M_samples_48 : decode prog_8_method_19_code 48 = .ok (.isub, 1) := by decide +kernel
theorem zd_M_samples_49 : decode prog_8_method_19_code 49 = .ok (.iadd, 1) := by decide +kernel
theorem zd_M_samples_50 : decode prog_8_method_19_code 50 = .ok (.putfield 158, 3) := by decide +kernel
theorem zd_M_samples_53 : decode prog_8_method_19_code 53 = .ok (.goto 23, 3) := by decide +kernel
theorem zd_M_samples_36 : decode prog_8_method_19_code 36 = .ok (.iload_n 2, 1) := by decide +kernel
theorem zd_M_samples_37 : decode prog_8_method_19_code 37 = .ok (.ineg, 1) := by decide +kernel
theorem zd_M_samples_38 : decode prog_8_method_19_code 38 = .ok (.goto 4, 3) := by decide +kernel
theorem zd_M_advances_56 : decode prog_8_method_20_code 56 = .ok (.iload_n 2, 1) := by decide +kernel
theorem zd_M_advances_57 : decode prog_8_method_20_code 57 = .ok (.aload_n 0, 1) := by decide +kernel
theorem zd_M_advances_58 : decode prog_8_method_20_code 58 = .ok (.getfield 93, 3) := by decide +kernel
theorem zd_M_advances_61 : decode prog_8_method_20_code 61 = .ok (.if_icmp .ge 16, 3) := by decide +kernel
theorem zd_M_advances_64 : decode prog_8_method_20_code 64 = .ok (.aload_n 0, 1) := by decide +kernel
theorem zd_M_advances_65 : decode prog_8_method_20_code 65 = .ok (.getfield 35, 3) := by decide +kernel
theorem zd_M_advances_68 : decode prog_8_method_20_code 68 = .ok (.iload_n 2, 1) := by decide +kernel
theorem zd_M_advances_69 : decode prog_8_method_20_code 69 = .ok (.iconst 0, 1) := by decide +kernel
theorem zd_M_advances_70 : decode prog_8_method_20_code 70 = .ok (.bastore, 1) := by decide +kernel
theorem zd_M_advances_71 : decode prog_8_method_20_code 71 = .ok (.iinc 2 1, 3) := by decide +kernel
theorem zd_M_advances_74 : decode prog_8_method_20_code 74 = .ok (.goto (-18), 3) := by decide +kernel
theorem zd_M_advances_0 : decode prog_8_method_20_code 0 = .ok (.aload_n 0, 1) := by decide +kernel
theorem zd_M_advances_1 : decode prog_8_method_20_code 1 = .ok (.getfield 28, 3) := by decide +kernel
theorem zd_M_advances_4 : decode prog_8_method_20_code 4 = .ok (.iconst (-1), 1) := by decide +kernel
theorem zd_M_advances_5 : decode prog_8_method_20_code 5 = .ok (.if_icmp .eq 29, 3) := by decide +kernel
theorem zd_M_advances_34 : decode prog_8_method_20_code 34 = .ok (.aload_n 0, 1) := by decide +kernel
theorem zd_M_advances_35 : decode prog_8_method_20_code 35 = .ok (.iload_n 1, 1) := by decide +kernel
theorem zd_M_advances_36 : decode prog_8_method_20_code 36 = .ok (.putfield 93, 3) := by decide +kernel
theorem zd_M_advances_39 : decode prog_8_method_20_code 39 = .ok (.aload_n 0, 1) := by decide +kernel
theorem zd_M_advances_40 : decode prog_8_method_20_code 40 = .ok (.aload_n 0, 1) := by decide +kernel
theorem zd_M_advances_41 : decode prog_8_method_20_code 41 = .ok (.getfield 96, 3) := by decide +kernel
theorem zd_M_advances_44 : decode prog_8_method_20_code 44 = .ok (.aload_n 0, 1) := by decide +kernel
theorem zd_M_advances_45 : decode prog_8_method_20_code 45 = .ok (.getfield 93, 3) := by decide +kernel
theorem zd_M_advances_48 : decode prog_8_method_20_code 48 = .ok (.invokestatic 102, 3) := by decide +kernel
theorem zd_M_advances_51 : decode prog_8_method_20_code 51 = .ok (.putfield 96, 3) := by decide +kernel
theorem zd_M_advances_54 : decode prog_8_method_20_code 54 = .ok (.iconst 0, 1) := by decide +kernel
theorem zd_M_advances_55 : decode prog_8_method_20_code 55 = .ok (.istore_n 2, 1) := by decide +kernel
theorem zd_M_advances_77 : decode prog_8_method_20_code 77 = .ok (.aload_n 0, 1) := by decide +kernel
theorem zd_M_advances_78 : decode prog_8_method_20_code 78 = .ok (.iconst 0, 1) := by decide +kernel
theorem zd_M_advances_79 : decode prog_8_method_20_code 79 = .ok (.putfield 146, 3) := by decide +kernel
theorem zd_M_advances_82 : decode prog_8_method_20_code 82 = .ok (.aload_n 0, 1) := by decide +kernel
theorem zd_M_advances_83 : decode prog_8_method_20_code 83 = .ok (.getfield 127, 3) := by decide +kernel
theorem zd_M_advances_86 : decode prog_8_method_20_code 86 = .ok (.ifCond .ne 47, 3) := by decide +kernel
theorem zd_M_advances_133 : decode prog_8_method_20_code 133 = .ok (.aload_n 0, 1) := by decide +kernel
theorem zd_M_advances_134 : decode prog_8_method_20_code 134 = .ok (.getfield 93, 3) := by decide +kernel
theorem zd_M_advances_137 : decode prog_8_method_20_code 137 = .ok (.aload_n 0, 1) := by decide +kernel
theorem zd_M_advances_138 : decode prog_8_method_20_code 138 = .ok (.getfield 165, 3) := by decide +kernel
theorem zd_M_advances_141 : decode prog_8_method_20_code 141 = .ok (.if_icmp .lt 16, 3) := by decide +kernel
theorem zd_M_advances_157 : decode prog_8_method_20_code 157 = .ok (.aload_n 0, 1) := by decide +kernel
theorem zd_M_advances_158 : decode prog_8_method_20_code 158 = .ok (.aload_n 0, 1) := by decide +kernel
theorem zd_M_advances_159 : decode prog_8_method_20_code 159 = .ok (.getfield 93, 3) := by decide +kernel
theorem zd_M_advances_162 : decode prog_8_method_20_code 162 = .ok (.aload_n 0, 1) := by decide +kernel
theorem zd_M_advances_163 : decode prog_8_method_20_code 163 = .ok (.getfield 96, 3) := by decide +kernel
theorem zd_M_advances_166 : decode prog_8_method_20_code 166 = .ok (.if_icmp .ne 7, 3) := by decide +kernel
theorem zd_M_advances_173 : decode prog_8_method_20_code 173 = .ok (.aload_n 0, 1) := by decide +kernel
theorem zd_M_advances_174 : decode prog_8_method_20_code 174 = .ok (.getfield 121, 3) := by decide +kernel
theorem zd_M_advances_177 : decode prog_8_method_20_code 177 = .ok (.aload_n 0, 1) := by decide +kernel
theorem zd_M_advances_178 : decode prog_8_method_20_code 178 = .ok (.getfield 22, 3) := by decide +kernel
theorem zd_M_advances_181 : decode prog_8_method_20_code 181 = .ok (.iadd, 1) := by decide +kernel
theorem zd_M_advances_182 : decode prog_8_method_20_code 182 = .ok (.putfield 25, 3) := by decide +kernel
theorem zd_M_advances_185 : decode prog_8_method_20_code 185 = .ok (.return_, 1) := by decide +kernel
theorem zd_M_advances_169 : decode prog_8_method_20_code 169 = .ok (.iconst (-1), 1) := by decide +kernel
theorem zd_M_advances_170 : decode prog_8_method_20_code 170 = .ok (.goto 12, 3) := by decide +kernel
theorem zd_M_advances_144 : decode prog_8_method_20_code 144 = .ok (.aload_n 0, 1) := by decide +kernel
theorem zd_M_advances_145 : decode prog_8_method_20_code 145 = .ok (.iconst 0, 1) := by decide +kernel
theorem zd_M_advances_146 : decode prog_8_method_20_code 146 = .ok (.putfield 127, 3) := by decide +kernel
theorem zd_M_advances_149 : decode prog_8_method_20_code 149 = .ok (.aload_n 0, 1) := by decide +kernel
theorem zd_M_advances_150 : decode prog_8_method_20_code 150 = .ok (.aload_n 0, 1) := by decide +kernel
theorem zd_M_advances_151 : decode prog_8_method_20_code 151 = .ok (.getfield 16, 3) := by decide +kernel
theorem zd_M_advances_154 : decode prog_8_method_20_code 154 = .ok (.putfield 13, 3) := by decide +kernel
theorem zd_M_advances_89 : decode prog_8_method_20_code 89 = .ok (.aload_n 0, 1) := by decide +kernel
theorem zd_M_advances_90 : decode prog_8_method_20_code 90 = .ok (.aload_n 0, 1) := by decide +kernel
theorem zd_M_advances_91 : decode prog_8_method_20_code 91 = .ok (.getfield 13, 3) := by decide +kernel
theorem zd_M_advances_94 : decode prog_8_method_20_code 94 = .ok (.aload_n 0, 1) := by decide +kernel
theorem zd_M_advances_95 : decode prog_8_method_20_code 95 = .ok (.getfield 13, 3) := by decide +kernel
theorem zd_M_advances_98 : decode prog_8_method_20_code 98 = .ok (.aload_n 0, 1) := by decide +kernel
theorem zd_M_advances_99 : decode prog_8_method_20_code 99 = .ok (.getfield 16, 3) := by decide +kernel
theorem zd_M_advances_102 : decode prog_8_method_20_code 102 = .ok (.if_icmp .ge 7, 3) := by decide +kernel
theorem zd_M_advances_109 : decode prog_8_method_20_code 109 = .ok (.bipush 16, 2) := by decide +kernel
theorem zd_M_advances_111 : decode prog_8_method_20_code 111 = .ok (.aload_n 0, 1) := by decide +kernel
theorem zd_M_advances_112 : decode prog_8_method_20_code 112 = .ok (.getfield 13, 3) := by decide +kernel
theorem zd_M_advances_115 : decode prog_8_method_20_code 115 = .ok (.idiv, 1) := by decide +kernel
theorem zd_M_advances_116 : decode prog_8_method_20_code 116 = .ok (.iconst 1, 1) := by decide +kernel
theorem zd_M_advances_117 : decode prog_8_method_20_code 117 = .ok (.invokestatic 102, 3) := by decide +kernel
theorem zd_M_advances_120 : decode prog_8_method_20_code 120 = .ok (.iadd, 1) := by decide +kernel
theorem zd_M_advances_121 : decode prog_8_method_20_code 121 = .ok (.sipush 256, 3) := by decide +kernel
theorem zd_M_advances_124 : decode prog_8_method_20_code 124 = .ok (.invokestatic 134, 3) := by decide +kernel
theorem zd_M_advances_127 : decode prog_8_method_20_code 127 = .ok (.putfield 13, 3) := by decide +kernel
theorem zd_M_advances_130 : decode prog_8_method_20_code 130 = .ok (.goto 27, 3) := by decide +kernel
theorem zd_M_advances_105 : decode prog_8_method_20_code 105 = .ok (.iconst 4, 1) := by decide +kernel
theorem zd_M_advances_106 : decode prog_8_method_20_code 106 = .ok (.goto 14, 3) := by decide +kernel
theorem zd_M_advances_8 : decode prog_8_method_20_code 8 = .ok (.iload_n 1, 1) := by decide +kernel
theorem zd_M_advances_9 : decode prog_8_method_20_code 9 = .ok (.aload_n 0, 1) := by decide +kernel
theorem zd_M_advances_10 : decode prog_8_method_20_code 10 = .ok (.getfield 28, 3) := by decide +kernel
theorem zd_M_advances_13 : decode prog_8_method_20_code 13 = .ok (.if_icmp .lt 21, 3) := by decide +kernel
theorem zd_M_advances_16 : decode prog_8_method_20_code 16 = .ok (.aload_n 0, 1) := by decide +kernel
theorem zd_M_advances_17 : decode prog_8_method_20_code 17 = .ok (.aload_n 0, 1) := by decide +kernel
theorem zd_M_advances_18 : decode prog_8_method_20_code 18 = .ok (.getfield 121, 3) := by decide +kernel
theorem zd_M_advances_21 : decode prog_8_method_20_code 21 = .ok (.aload_n 0, 1) := by decide +kernel
theorem zd_M_advances_22 : decode prog_8_method_20_code 22 = .ok (.getfield 124, 3) := by decide +kernel
theorem zd_M_advances_25 : decode prog_8_method_20_code 25 = .ok (.isub, 1) := by decide +kernel
theorem zd_M_advances_26 : decode prog_8_method_20_code 26 = .ok (.invokevirtual 161, 3) := by decide +kernel
theorem zd_M_advances_29 : decode prog_8_method_20_code 29 = .ok (.aload_n 0, 1) := by decide +kernel
theorem zd_M_advances_30 : decode prog_8_method_20_code 30 = .ok (.iconst (-1), 1) := by decide +kernel
theorem zd_M_advances_31 : decode prog_8_method_20_code 31 = .ok (.putfield 28, 3) := by decide +kernel
theorem zd_M_recovers_0 : decode prog_8_method_21_code 0 = .ok (.aload_n 0, 1) := by decide +kernel
theorem zd_M_recovers_1 : decode prog_8_method_21_code 1 = .ok (.iconst 1, 1) := by decide +kernel
theorem zd_M_recovers_2 : decode prog_8_method_21_code 2 = .ok (.putfield 127, 3) := by decide +kernel
theorem zd_M_recovers_5 : decode prog_8_method_21_code 5 = .ok (.aload_n 0, 1) := by decide +kernel
theorem zd_M_recovers_6 : decode prog_8_method_21_code 6 = .ok (.aload_n 0, 1) := by decide +kernel
theorem zd_M_recovers_7 : decode prog_8_method_21_code 7 = .ok (.invokevirtual 143, 3) := by decide +kernel
theorem zd_M_recovers_10 : decode prog_8_method_21_code 10 = .ok (.iconst 2, 1) := by decide +kernel
theorem zd_M_recovers_11 : decode prog_8_method_21_code 11 = .ok (.idiv, 1) := by decide +kernel
theorem zd_M_recovers_12 : decode prog_8_method_21_code 12 = .ok (.bipush 8, 2) := by decide +kernel
theorem zd_M_recovers_14 : decode prog_8_method_21_code 14 = .ok (.invokestatic 102, 3) := by decide +kernel
theorem zd_M_recovers_17 : decode prog_8_method_21_code 17 = .ok (.putfield 16, 3) := by decide +kernel
theorem zd_M_recovers_20 : decode prog_8_method_21_code 20 = .ok (.aload_n 0, 1) := by decide +kernel
theorem zd_M_recovers_21 : decode prog_8_method_21_code 21 = .ok (.aload_n 0, 1) := by decide +kernel
theorem zd_M_recovers_22 : decode prog_8_method_21_code 22 = .ok (.getfield 16, 3) := by decide +kernel
theorem zd_M_recovers_25 : decode prog_8_method_21_code 25 = .ok (.putfield 13, 3) := by decide +kernel
theorem zd_M_recovers_28 : decode prog_8_method_21_code 28 = .ok (.aload_n 0, 1) := by decide +kernel
theorem zd_M_recovers_29 : decode prog_8_method_21_code 29 = .ok (.aload_n 0, 1) := by decide +kernel
theorem zd_M_recovers_30 : decode prog_8_method_21_code 30 = .ok (.getfield 96, 3) := by decide +kernel
theorem zd_M_recovers_33 : decode prog_8_method_21_code 33 = .ok (.putfield 165, 3) := by decide +kernel
theorem zd_M_recovers_36 : decode prog_8_method_21_code 36 = .ok (.aload_n 0, 1) := by decide +kernel
theorem zd_M_recovers_37 : decode prog_8_method_21_code 37 = .ok (.aload_n 0, 1) := by decide +kernel
theorem zd_M_recovers_38 : decode prog_8_method_21_code 38 = .ok (.getfield 93, 3) := by decide +kernel
theorem zd_M_recovers_41 : decode prog_8_method_21_code 41 = .ok (.putfield 99, 3) := by decide +kernel
theorem zd_M_recovers_44 : decode prog_8_method_21_code 44 = .ok (.aload_n 0, 1) := by decide +kernel
theorem zd_M_recovers_45 : decode prog_8_method_21_code 45 = .ok (.iconst (-1), 1) := by decide +kernel
theorem zd_M_recovers_46 : decode prog_8_method_21_code 46 = .ok (.putfield 28, 3) := by decide +kernel
theorem zd_M_recovers_49 : decode prog_8_method_21_code 49 = .ok (.return_, 1) := by decide +kernel
theorem zd_M_arrives_123 : decode prog_8_method_22_code 123 = .ok (.iload 5, 2) := by decide +kernel
theorem zd_M_arrives_125 : decode prog_8_method_22_code 125 = .ok (.aload_n 0, 1) := by decide +kernel
theorem zd_M_arrives_126 : decode prog_8_method_22_code 126 = .ok (.getfield 63, 3) := by decide +kernel
theorem zd_M_arrives_129 : decode prog_8_method_22_code 129 = .ok (.iload 4, 2) := by decide +kernel
theorem zd_M_arrives_131 : decode prog_8_method_22_code 131 = .ok (.iaload, 1) := by decide +kernel
theorem zd_M_arrives_132 : decode prog_8_method_22_code 132 = .ok (.if_icmp .ge 17, 3) := by decide +kernel
theorem zd_M_arrives_135 : decode prog_8_method_22_code 135 = .ok (.aload_n 0, 1) := by decide +kernel
theorem zd_M_arrives_136 : decode prog_8_method_22_code 136 = .ok (.getfield 35, 3) := by decide +kernel
theorem zd_M_arrives_139 : decode prog_8_method_22_code 139 = .ok (.iload 5, 2) := by decide +kernel
theorem zd_M_arrives_141 : decode prog_8_method_22_code 141 = .ok (.iconst 1, 1) := by decide +kernel
theorem zd_M_arrives_142 : decode prog_8_method_22_code 142 = .ok (.bastore, 1) := by decide +kernel
theorem zd_M_arrives_143 : decode prog_8_method_22_code 143 = .ok (.iinc 5 1, 3) := by decide +kernel
theorem zd_M_arrives_146 : decode prog_8_method_22_code 146 = .ok (.goto (-23), 3) := by decide +kernel
theorem zd_M_arrives_92 : decode prog_8_method_22_code 92 = .ok (.iload 4, 2) := by decide +kernel
theorem zd_M_arrives_94 : decode prog_8_method_22_code 94 = .ok (.iconst 3, 1) := by decide +kernel
theorem zd_M_arrives_95 : decode prog_8_method_22_code 95 = .ok (.iload_n 1, 1) := by decide +kernel
theorem zd_M_arrives_96 : decode prog_8_method_22_code 96 = .ok (.imul, 1) := by decide +kernel
theorem zd_M_arrives_97 : decode prog_8_method_22_code 97 = .ok (.aload_n 0, 1) := by decide +kernel
theorem zd_M_arrives_98 : decode prog_8_method_22_code 98 = .ok (.getfield 57, 3) := by decide +kernel
theorem zd_M_arrives_101 : decode prog_8_method_22_code 101 = .ok (.iload_n 1, 1) := by decide +kernel
theorem zd_M_arrives_102 : decode prog_8_method_22_code 102 = .ok (.iaload, 1) := by decide +kernel
theorem zd_M_arrives_103 : decode prog_8_method_22_code 103 = .ok (.iadd, 1) := by decide +kernel
theorem zd_M_arrives_104 : decode prog_8_method_22_code 104 = .ok (.if_icmp .ge 51, 3) := by decide +kernel
theorem zd_M_arrives_107 : decode prog_8_method_22_code 107 = .ok (.aload_n 0, 1) := by decide +kernel
theorem zd_M_arrives_108 : decode prog_8_method_22_code 108 = .ok (.getfield 93, 3) := by decide +kernel
theorem zd_M_arrives_111 : decode prog_8_method_22_code 111 = .ok (.aload_n 0, 1) := by decide +kernel
theorem zd_M_arrives_112 : decode prog_8_method_22_code 112 = .ok (.getfield 60, 3) := by decide +kernel
theorem zd_M_arrives_115 : decode prog_8_method_22_code 115 = .ok (.iload 4, 2) := by decide +kernel
theorem zd_M_arrives_117 : decode prog_8_method_22_code 117 = .ok (.iaload, 1) := by decide +kernel
theorem zd_M_arrives_118 : decode prog_8_method_22_code 118 = .ok (.invokestatic 102, 3) := by decide +kernel
theorem zd_M_arrives_121 : decode prog_8_method_22_code 121 = .ok (.istore 5, 2) := by decide +kernel
theorem zd_M_arrives_149 : decode prog_8_method_22_code 149 = .ok (.iinc 4 1, 3) := by decide +kernel
theorem zd_M_arrives_152 : decode prog_8_method_22_code 152 = .ok (.goto (-60), 3) := by decide +kernel
theorem zd_M_arrives_0 : decode prog_8_method_22_code 0 = .ok (.aload_n 0, 1) := by decide +kernel
theorem zd_M_arrives_1 : decode prog_8_method_22_code 1 = .ok (.getfield 51, 3) := by decide +kernel
theorem zd_M_arrives_4 : decode prog_8_method_22_code 4 = .ok (.iload_n 1, 1) := by decide +kernel
theorem zd_M_arrives_5 : decode prog_8_method_22_code 5 = .ok (.iaload, 1) := by decide +kernel
theorem zd_M_arrives_6 : decode prog_8_method_22_code 6 = .ok (.aload_n 0, 1) := by decide +kernel
theorem zd_M_arrives_7 : decode prog_8_method_22_code 7 = .ok (.getfield 54, 3) := by decide +kernel
theorem zd_M_arrives_10 : decode prog_8_method_22_code 10 = .ok (.iload_n 1, 1) := by decide +kernel
theorem zd_M_arrives_11 : decode prog_8_method_22_code 11 = .ok (.iaload, 1) := by decide +kernel
theorem zd_M_arrives_12 : decode prog_8_method_22_code 12 = .ok (.iadd, 1) := by decide +kernel
theorem zd_M_arrives_13 : decode prog_8_method_22_code 13 = .ok (.aload_n 0, 1) := by decide +kernel
theorem zd_M_arrives_14 : decode prog_8_method_22_code 14 = .ok (.getfield 9, 3) := by decide +kernel
theorem zd_M_arrives_17 : decode prog_8_method_22_code 17 = .ok (.if_icmp .le 7, 3) := by decide +kernel
theorem zd_M_arrives_24 : decode prog_8_method_22_code 24 = .ok (.iconst 0, 1) := by decide +kernel
theorem zd_M_arrives_25 : decode prog_8_method_22_code 25 = .ok (.istore_n 2, 1) := by decide +kernel
theorem zd_M_arrives_26 : decode prog_8_method_22_code 26 = .ok (.aload_n 0, 1) := by decide +kernel
theorem zd_M_arrives_27 : decode prog_8_method_22_code 27 = .ok (.getfield 51, 3) := by decide +kernel
theorem zd_M_arrives_30 : decode prog_8_method_22_code 30 = .ok (.iload_n 1, 1) := by decide +kernel
theorem zd_M_arrives_31 : decode prog_8_method_22_code 31 = .ok (.iaload, 1) := by decide +kernel
theorem zd_M_arrives_32 : decode prog_8_method_22_code 32 = .ok (.aload_n 0, 1) := by decide +kernel
theorem zd_M_arrives_33 : decode prog_8_method_22_code 33 = .ok (.getfield 93, 3) := by decide +kernel
theorem zd_M_arrives_36 : decode prog_8_method_22_code 36 = .ok (.if_icmp .le 7, 3) := by decide +kernel
theorem zd_M_arrives_43 : decode prog_8_method_22_code 43 = .ok (.iconst 0, 1) := by decide +kernel
theorem zd_M_arrives_44 : decode prog_8_method_22_code 44 = .ok (.istore_n 3, 1) := by decide +kernel
theorem zd_M_arrives_45 : decode prog_8_method_22_code 45 = .ok (.aload_n 0, 1) := by decide +kernel
theorem zd_M_arrives_46 : decode prog_8_method_22_code 46 = .ok (.iload_n 2, 1) := by decide +kernel
theorem zd_M_arrives_47 : decode prog_8_method_22_code 47 = .ok (.ifCond .eq 19, 3) := by decide +kernel
theorem zd_M_arrives_66 : decode prog_8_method_22_code 66 = .ok (.aload_n 0, 1) := by decide +kernel
theorem zd_M_arrives_67 : decode prog_8_method_22_code 67 = .ok (.getfield 9, 3) := by decide +kernel
theorem zd_M_arrives_70 : decode prog_8_method_22_code 70 = .ok (.putfield 9, 3) := by decide +kernel
theorem zd_M_arrives_73 : decode prog_8_method_22_code 73 = .ok (.iload_n 3, 1) := by decide +kernel
theorem zd_M_arrives_74 : decode prog_8_method_22_code 74 = .ok (.ifCond .eq 13, 3) := by decide +kernel
theorem zd_M_arrives_87 : decode prog_8_method_22_code 87 = .ok (.iconst 3, 1) := by decide +kernel
theorem zd_M_arrives_88 : decode prog_8_method_22_code 88 = .ok (.iload_n 1, 1) := by decide +kernel
theorem zd_M_arrives_89 : decode prog_8_method_22_code 89 = .ok (.imul, 1) := by decide +kernel
theorem zd_M_arrives_90 : decode prog_8_method_22_code 90 = .ok (.istore 4, 2) := by decide +kernel
theorem zd_M_arrives_155 : decode prog_8_method_22_code 155 = .ok (.iload_n 3, 1) := by decide +kernel
theorem zd_M_arrives_156 : decode prog_8_method_22_code 156 = .ok (.ifCond .ne 47, 3) := by decide +kernel
theorem zd_M_arrives_159 : decode prog_8_method_22_code 159 = .ok (.aload_n 0, 1) := by decide +kernel
theorem zd_M_arrives_160 : decode prog_8_method_22_code 160 = .ok (.getfield 93, 3) := by decide +kernel
theorem zd_M_arrives_163 : decode prog_8_method_22_code 163 = .ok (.aload_n 0, 1) := by decide +kernel
theorem zd_M_arrives_164 : decode prog_8_method_22_code 164 = .ok (.getfield 96, 3) := by decide +kernel
theorem zd_M_arrives_167 : decode prog_8_method_22_code 167 = .ok (.if_icmp .ge 36, 3) := by decide +kernel
theorem zd_M_arrives_203 : decode prog_8_method_22_code 203 = .ok (.return_, 1) := by decide +kernel
theorem zd_M_arrives_170 : decode prog_8_method_22_code 170 = .ok (.iload_n 2, 1) := by decide +kernel
theorem zd_M_arrives_171 : decode prog_8_method_22_code 171 = .ok (.ifCond .ne 32, 3) := by decide +kernel
theorem zd_M_arrives_174 : decode prog_8_method_22_code 174 = .ok (.aload_n 0, 1) := by decide +kernel
theorem zd_M_arrives_175 : decode prog_8_method_22_code 175 = .ok (.dup, 1) := by decide +kernel
theorem zd_M_arrives_176 : decode prog_8_method_22_code 176 = .ok (.getfield 146, 3) := by decide +kernel
theorem zd_M_arrives_179 : decode prog_8_method_22_code 179 = .ok (.iconst 1, 1) := by decide +kernel
theorem zd_M_arrives_180 : decode prog_8_method_22_code 180 = .ok (.iadd, 1) := by decide +kernel
theorem zd_M_arrives_181 : decode prog_8_method_22_code 181 = .ok (.putfield 146, 3) := by decide +kernel
theorem zd_M_arrives_184 : decode prog_8_method_22_code 184 = .ok (.aload_n 0, 1) := by decide +kernel
theorem zd_M_arrives_185 : decode prog_8_method_22_code 185 = .ok (.getfield 146, 3) := by decide +kernel
theorem zd_M_arrives_188 : decode prog_8_method_22_code 188 = .ok (.iconst 3, 1) := by decide +kernel
theorem zd_M_arrives_189 : decode prog_8_method_22_code 189 = .ok (.if_icmp .ne 14, 3) := by decide +kernel
theorem zd_M_arrives_192 : decode prog_8_method_22_code 192 = .ok (.aload_n 0, 1) := by decide +kernel
theorem zd_M_arrives_193 : decode prog_8_method_22_code 193 = .ok (.getfield 127, 3) := by decide +kernel
theorem zd_M_arrives_196 : decode prog_8_method_22_code 196 = .ok (.ifCond .ne 7, 3) := by decide +kernel
theorem zd_M_arrives_199 : decode prog_8_method_22_code 199 = .ok (.aload_n 0, 1) := by decide +kernel
theorem zd_M_arrives_200 : decode prog_8_method_22_code 200 = .ok (.invokevirtual 171, 3) := by decide +kernel
theorem zd_M_arrives_39 : decode prog_8_method_22_code 39 = .ok (.iconst 1, 1) := by decide +kernel
theorem zd_M_arrives_40 : decode prog_8_method_22_code 40 = .ok (.goto 4, 3) := by decide +kernel
theorem zd_M_arrives_77 : decode prog_8_method_22_code 77 = .ok (.aload_n 0, 1) := by decide +kernel
theorem zd_M_arrives_78 : decode prog_8_method_22_code 78 = .ok (.aload_n 0, 1) := by decide +kernel
theorem zd_M_arrives_79 : decode prog_8_method_22_code 79 = .ok (.getfield 51, 3) := by decide +kernel
theorem zd_M_arrives_82 : decode prog_8_method_22_code 82 = .ok (.iload_n 1, 1) := by decide +kernel
theorem zd_M_arrives_83 : decode prog_8_method_22_code 83 = .ok (.iaload, 1) := by decide +kernel
theorem zd_M_arrives_84 : decode prog_8_method_22_code 84 = .ok (.invokevirtual 168, 3) := by decide +kernel
theorem zd_M_arrives_20 : decode prog_8_method_22_code 20 = .ok (.iconst 1, 1) := by decide +kernel
theorem zd_M_arrives_21 : decode prog_8_method_22_code 21 = .ok (.goto 4, 3) := by decide +kernel
theorem zd_M_arrives_50 : decode prog_8_method_22_code 50 = .ok (.aload_n 0, 1) := by decide +kernel
theorem zd_M_arrives_51 : decode prog_8_method_22_code 51 = .ok (.getfield 51, 3) := by decide +kernel
theorem zd_M_arrives_54 : decode prog_8_method_22_code 54 = .ok (.iload_n 1, 1) := by decide +kernel
theorem zd_M_arrives_55 : decode prog_8_method_22_code 55 = .ok (.iaload, 1) := by decide +kernel
theorem zd_M_arrives_56 : decode prog_8_method_22_code 56 = .ok (.aload_n 0, 1) := by decide +kernel
theorem zd_M_arrives_57 : decode prog_8_method_22_code 57 = .ok (.getfield 54, 3) := by decide +kernel
theorem zd_M_arrives_60 : decode prog_8_method_22_code 60 = .ok (.iload_n 1, 1) := by decide +kernel
theorem zd_M_arrives_61 : decode prog_8_method_22_code 61 = .ok (.iaload, 1) := by decide +kernel
theorem zd_M_arrives_62 : decode prog_8_method_22_code 62 = .ok (.iadd, 1) := by decide +kernel
theorem zd_M_arrives_63 : decode prog_8_method_22_code 63 = .ok (.goto 7, 3) := by decide +kernel
theorem zd_M_isSegment_0 : decode prog_8_method_28_code 0 = .ok (.iload_n 1, 1) := by decide +kernel
theorem zd_M_isSegment_1 : decode prog_8_method_28_code 1 = .ok (.iconst 0, 1) := by decide +kernel
theorem zd_M_isSegment_2 : decode prog_8_method_28_code 2 = .ok (.aload_n 0, 1) := by decide +kernel
theorem zd_M_isSegment_3 : decode prog_8_method_28_code 3 = .ok (.getfield 109, 3) := by decide +kernel
theorem zd_M_isSegment_6 : decode prog_8_method_28_code 6 = .ok (.iconst 1, 1) := by decide +kernel
theorem zd_M_isSegment_7 : decode prog_8_method_28_code 7 = .ok (.isub, 1) := by decide +kernel
theorem zd_M_isSegment_8 : decode prog_8_method_28_code 8 = .ok (.invokestatic 69, 3) := by decide +kernel
theorem zd_M_isSegment_11 : decode prog_8_method_28_code 11 = .ok (.ireturn, 1) := by decide +kernel
theorem zd_M_isAck_0 : decode prog_8_method_29_code 0 = .ok (.iload_n 1, 1) := by decide +kernel
theorem zd_M_isAck_1 : decode prog_8_method_29_code 1 = .ok (.iconst 0, 1) := by decide +kernel
theorem zd_M_isAck_2 : decode prog_8_method_29_code 2 = .ok (.aload_n 0, 1) := by decide +kernel
theorem zd_M_isAck_3 : decode prog_8_method_29_code 3 = .ok (.getfield 174, 3) := by decide +kernel
theorem zd_M_isAck_6 : decode prog_8_method_29_code 6 = .ok (.iconst 1, 1) := by decide +kernel
theorem zd_M_isAck_7 : decode prog_8_method_29_code 7 = .ok (.isub, 1) := by decide +kernel
theorem zd_M_isAck_8 : decode prog_8_method_29_code 8 = .ok (.invokestatic 69, 3) := by decide +kernel
theorem zd_M_isAck_11 : decode prog_8_method_29_code 11 = .ok (.ireturn, 1) := by decide +kernel
theorem zd_M_takes_12 : decode prog_8_method_30_code 12 = .ok (.iload_n 2, 1) := by decide +kernel
theorem zd_M_takes_13 : decode prog_8_method_30_code 13 = .ok (.aload_n 0, 1) := by decide +kernel
theorem zd_M_takes_14 : decode prog_8_method_30_code 14 = .ok (.getfield 109, 3) := by decide +kernel
theorem zd_M_takes_17 : decode prog_8_method_30_code 17 = .ok (.if_icmp .ge 37, 3) := by decide +kernel
theorem zd_M_takes_20 : decode prog_8_method_30_code 20 = .ok (.aload_n 0, 1) := by decide +kernel
theorem zd_M_takes_21 : decode prog_8_method_30_code 21 = .ok (.getfield 45, 3) := by decide +kernel
theorem zd_M_takes_24 : decode prog_8_method_30_code 24 = .ok (.iload_n 2, 1) := by decide +kernel
theorem zd_M_takes_25 : decode prog_8_method_30_code 25 = .ok (.aload_n 0, 1) := by decide +kernel
theorem zd_M_takes_26 : decode prog_8_method_30_code 26 = .ok (.getfield 45, 3) := by decide +kernel
theorem zd_M_takes_29 : decode prog_8_method_30_code 29 = .ok (.iload_n 2, 1) := by decide +kernel
theorem zd_M_takes_30 : decode prog_8_method_30_code 30 = .ok (.iconst 1, 1) := by decide +kernel
theorem zd_M_takes_31 : decode prog_8_method_30_code 31 = .ok (.iadd, 1) := by decide +kernel
theorem zd_M_takes_32 : decode prog_8_method_30_code 32 = .ok (.iaload, 1) := by decide +kernel
theorem zd_M_takes_33 : decode prog_8_method_30_code 33 = .ok (.iastore, 1) := by decide +kernel
theorem zd_M_takes_34 : decode prog_8_method_30_code 34 = .ok (.aload_n 0, 1) := by decide +kernel
theorem zd_M_takes_35 : decode prog_8_method_30_code 35 = .ok (.getfield 48, 3) := by decide +kernel
theorem zd_M_takes_38 : decode prog_8_method_30_code 38 = .ok (.iload_n 2, 1) := by decide +kernel
theorem zd_M_takes_39 : decode prog_8_method_30_code 39 = .ok (.aload_n 0, 1) := by decide +kernel
theorem zd_M_takes_40 : decode prog_8_method_30_code 40 = .ok (.getfield 48, 3) := by decide +kernel
theorem zd_M_takes_43 : decode prog_8_method_30_code 43 = .ok (.iload_n 2, 1) := by decide +kernel
theorem zd_M_takes_44 : decode prog_8_method_30_code 44 = .ok (.iconst 1, 1) := by decide +kernel
theorem zd_M_takes_45 : decode prog_8_method_30_code 45 = .ok (.iadd, 1) := by decide +kernel
theorem zd_M_takes_46 : decode prog_8_method_30_code 46 = .ok (.iaload, 1) := by decide +kernel
theorem zd_M_takes_47 : decode prog_8_method_30_code 47 = .ok (.iastore, 1) := by decide +kernel
theorem zd_M_takes_48 : decode prog_8_method_30_code 48 = .ok (.iinc 2 1, 3) := by decide +kernel
theorem zd_M_takes_51 : decode prog_8_method_30_code 51 = .ok (.goto (-39), 3) := by decide +kernel
theorem zd_M_takes_0 : decode prog_8_method_30_code 0 = .ok (.aload_n 0, 1) := by decide +kernel
theorem zd_M_takes_1 : decode prog_8_method_30_code 1 = .ok (.dup, 1) := by decide +kernel
theorem zd_M_takes_2 : decode prog_8_method_30_code 2 = .ok (.getfield 109, 3) := by decide +kernel
theorem zd_M_takes_5 : decode prog_8_method_30_code 5 = .ok (.iconst 1, 1) := by decide +kernel
theorem zd_M_takes_6 : decode prog_8_method_30_code 6 = .ok (.isub, 1) := by decide +kernel
theorem zd_M_takes_7 : decode prog_8_method_30_code 7 = .ok (.putfield 109, 3) := by decide +kernel
theorem zd_M_takes_10 : decode prog_8_method_30_code 10 = .ok (.iload_n 1, 1) := by decide +kernel
theorem zd_M_takes_11 : decode prog_8_method_30_code 11 = .ok (.istore_n 2, 1) := by decide +kernel
theorem zd_M_takes_54 : decode prog_8_method_30_code 54 = .ok (.return_, 1) := by decide +kernel
theorem zd_M_deliver_41 : decode prog_8_method_31_code 41 = .ok (.iload_n 3, 1) := by decide +kernel
theorem zd_M_deliver_42 : decode prog_8_method_31_code 42 = .ok (.aload_n 0, 1) := by decide +kernel
theorem zd_M_deliver_43 : decode prog_8_method_31_code 43 = .ok (.getfield 48, 3) := by decide +kernel
theorem zd_M_deliver_46 : decode prog_8_method_31_code 46 = .ok (.iload_n 1, 1) := by decide +kernel
theorem zd_M_deliver_47 : decode prog_8_method_31_code 47 = .ok (.iaload, 1) := by decide +kernel
theorem zd_M_deliver_48 : decode prog_8_method_31_code 48 = .ok (.if_icmp .ge 49, 3) := by decide +kernel
theorem zd_M_deliver_51 : decode prog_8_method_31_code 51 = .ok (.iload_n 3, 1) := by decide +kernel
theorem zd_M_deliver_52 : decode prog_8_method_31_code 52 = .ok (.aload_n 0, 1) := by decide +kernel
theorem zd_M_deliver_53 : decode prog_8_method_31_code 53 = .ok (.getfield 80, 3) := by decide +kernel
theorem zd_M_deliver_56 : decode prog_8_method_31_code 56 = .ok (.bipush 32, 2) := by decide +kernel
theorem zd_M_deliver_58 : decode prog_8_method_31_code 58 = .ok (.iadd, 1) := by decide +kernel
theorem zd_M_deliver_59 : decode prog_8_method_31_code 59 = .ok (.if_icmp .ge 38, 3) := by decide +kernel
theorem zd_M_deliver_62 : decode prog_8_method_31_code 62 = .ok (.aload_n 0, 1) := by decide +kernel
theorem zd_M_deliver_63 : decode prog_8_method_31_code 63 = .ok (.getfield 39, 3) := by decide +kernel
theorem zd_M_deliver_66 : decode prog_8_method_31_code 66 = .ok (.iload_n 3, 1) := by decide +kernel
theorem zd_M_deliver_67 : decode prog_8_method_31_code 67 = .ok (.baload, 1) := by decide +kernel
theorem zd_M_deliver_68 : decode prog_8_method_31_code 68 = .ok (.ifCond .ne 23, 3) := by decide +kernel
theorem zd_M_deliver_91 : decode prog_8_method_31_code 91 = .ok (.iinc 3 1, 3) := by decide +kernel
theorem zd_M_deliver_94 : decode prog_8_method_31_code 94 = .ok (.goto (-53), 3) := by decide +kernel
theorem zd_M_deliver_71 : decode prog_8_method_31_code 71 = .ok (.aload_n 0, 1) := by decide +kernel
theorem zd_M_deliver_72 : decode prog_8_method_31_code 72 = .ok (.getfield 39, 3) := by decide +kernel
theorem zd_M_deliver_75 : decode prog_8_method_31_code 75 = .ok (.iload_n 3, 1) := by decide +kernel
theorem zd_M_deliver_76 : decode prog_8_method_31_code 76 = .ok (.iconst 1, 1) := by decide +kernel
theorem zd_M_deliver_77 : decode prog_8_method_31_code 77 = .ok (.bastore, 1) := by decide +kernel
theorem zd_M_deliver_78 : decode prog_8_method_31_code 78 = .ok (.aload_n 0, 1) := by decide +kernel
theorem zd_M_deliver_79 : decode prog_8_method_31_code 79 = .ok (.getfield 42, 3) := by decide +kernel
theorem zd_M_deliver_82 : decode prog_8_method_31_code 82 = .ok (.iload_n 3, 1) := by decide +kernel
theorem zd_M_deliver_83 : decode prog_8_method_31_code 83 = .ok (.aload_n 0, 1) := by decide +kernel
theorem zd_M_deliver_84 : decode prog_8_method_31_code 84 = .ok (.getfield 180, 3) := by decide +kernel
theorem zd_M_deliver_87 : decode prog_8_method_31_code 87 = .ok (.iastore, 1) := by decide +kernel
theorem zd_M_deliver_88 : decode prog_8_method_31_code 88 = .ok (.iinc 2 1, 3) := by decide +kernel
theorem zd_M_deliver_0 : decode prog_8_method_31_code 0 = .ok (.aload_n 0, 1) := by decide +kernel
theorem zd_M_deliver_1 : decode prog_8_method_31_code 1 = .ok (.aload_n 0, 1) := by decide +kernel
theorem zd_M_deliver_2 : decode prog_8_method_31_code 2 = .ok (.iload_n 1, 1) := by decide +kernel
theorem zd_M_deliver_3 : decode prog_8_method_31_code 3 = .ok (.invokevirtual 193, 3) := by decide +kernel
theorem zd_M_deliver_6 : decode prog_8_method_31_code 6 = .ok (.ifCond .eq 7, 3) := by decide +kernel
theorem zd_M_deliver_13 : decode prog_8_method_31_code 13 = .ok (.iconst 1, 1) := by decide +kernel
theorem zd_M_deliver_14 : decode prog_8_method_31_code 14 = .ok (.invokevirtual 76, 3) := by decide +kernel
theorem zd_M_deliver_17 : decode prog_8_method_31_code 17 = .ok (.ifCond .ne 5, 3) := by decide +kernel
theorem zd_M_deliver_22 : decode prog_8_method_31_code 22 = .ok (.aload_n 0, 1) := by decide +kernel
theorem zd_M_deliver_23 : decode prog_8_method_31_code 23 = .ok (.dup, 1) := by decide +kernel
theorem zd_M_deliver_24 : decode prog_8_method_31_code 24 = .ok (.getfield 180, 3) := by decide +kernel
theorem zd_M_deliver_27 : decode prog_8_method_31_code 27 = .ok (.iconst 1, 1) := by decide +kernel
theorem zd_M_deliver_28 : decode prog_8_method_31_code 28 = .ok (.iadd, 1) := by decide +kernel
theorem zd_M_deliver_29 : decode prog_8_method_31_code 29 = .ok (.putfield 180, 3) := by decide +kernel
theorem zd_M_deliver_32 : decode prog_8_method_31_code 32 = .ok (.iconst 0, 1) := by decide +kernel
theorem zd_M_deliver_33 : decode prog_8_method_31_code 33 = .ok (.istore_n 2, 1) := by decide +kernel
theorem zd_M_deliver_34 : decode prog_8_method_31_code 34 = .ok (.aload_n 0, 1) := by decide +kernel
theorem zd_M_deliver_35 : decode prog_8_method_31_code 35 = .ok (.getfield 45, 3) := by decide +kernel
theorem zd_M_deliver_38 : decode prog_8_method_31_code 38 = .ok (.iload_n 1, 1) := by decide +kernel
theorem zd_M_deliver_39 : decode prog_8_method_31_code 39 = .ok (.iaload, 1) := by decide +kernel
theorem zd_M_deliver_40 : decode prog_8_method_31_code 40 = .ok (.istore_n 3, 1) := by decide +kernel
theorem zd_M_deliver_97 : decode prog_8_method_31_code 97 = .ok (.aload_n 0, 1) := by decide +kernel
theorem zd_M_deliver_98 : decode prog_8_method_31_code 98 = .ok (.aload_n 0, 1) := by decide +kernel
theorem zd_M_deliver_99 : decode prog_8_method_31_code 99 = .ok (.aload_n 0, 1) := by decide +kernel
theorem zd_M_deliver_100 : decode prog_8_method_31_code 100 = .ok (.getfield 83, 3) := by decide +kernel
theorem zd_M_deliver_103 : decode prog_8_method_31_code 103 = .ok (.invokevirtual 190, 3) := by decide +kernel
theorem zd_M_deliver_106 : decode prog_8_method_31_code 106 = .ok (.putfield 83, 3) := by decide +kernel
theorem zd_M_deliver_109 : decode prog_8_method_31_code 109 = .ok (.aload_n 0, 1) := by decide +kernel
theorem zd_M_deliver_110 : decode prog_8_method_31_code 110 = .ok (.iload_n 1, 1) := by decide +kernel
theorem zd_M_deliver_111 : decode prog_8_method_31_code 111 = .ok (.invokevirtual 196, 3) := by decide +kernel
theorem zd_M_deliver_114 : decode prog_8_method_31_code 114 = .ok (.aload_n 0, 1) := by decide +kernel
theorem zd_M_deliver_115 : decode prog_8_method_31_code 115 = .ok (.invokevirtual 90, 3) := by decide +kernel
theorem zd_M_deliver_118 : decode prog_8_method_31_code 118 = .ok (.iload_n 2, 1) := by decide +kernel
theorem zd_M_deliver_119 : decode prog_8_method_31_code 119 = .ok (.ireturn, 1) := by decide +kernel
theorem zd_M_deliver_20 : decode prog_8_method_31_code 20 = .ok (.iconst 0, 1) := by decide +kernel
theorem zd_M_deliver_21 : decode prog_8_method_31_code 21 = .ok (.ireturn, 1) := by decide +kernel
theorem zd_M_deliver_9 : decode prog_8_method_31_code 9 = .ok (.iconst 0, 1) := by decide +kernel
theorem zd_M_deliver_10 : decode prog_8_method_31_code 10 = .ok (.goto 4, 3) := by decide +kernel
theorem zd_M_lose_0 : decode prog_8_method_32_code 0 = .ok (.aload_n 0, 1) := by decide +kernel
theorem zd_M_lose_1 : decode prog_8_method_32_code 1 = .ok (.aload_n 0, 1) := by decide +kernel
theorem zd_M_lose_2 : decode prog_8_method_32_code 2 = .ok (.iload_n 1, 1) := by decide +kernel
theorem zd_M_lose_3 : decode prog_8_method_32_code 3 = .ok (.invokevirtual 193, 3) := by decide +kernel
theorem zd_M_lose_6 : decode prog_8_method_32_code 6 = .ok (.ifCond .eq 7, 3) := by decide +kernel
theorem zd_M_lose_13 : decode prog_8_method_32_code 13 = .ok (.iconst 1, 1) := by decide +kernel
theorem zd_M_lose_14 : decode prog_8_method_32_code 14 = .ok (.invokevirtual 76, 3) := by decide +kernel
theorem zd_M_lose_17 : decode prog_8_method_32_code 17 = .ok (.ifCond .ne 5, 3) := by decide +kernel
theorem zd_M_lose_22 : decode prog_8_method_32_code 22 = .ok (.aload_n 0, 1) := by decide +kernel
theorem zd_M_lose_23 : decode prog_8_method_32_code 23 = .ok (.getfield 45, 3) := by decide +kernel
theorem zd_M_lose_26 : decode prog_8_method_32_code 26 = .ok (.iload_n 1, 1) := by decide +kernel
theorem zd_M_lose_27 : decode prog_8_method_32_code 27 = .ok (.iaload, 1) := by decide +kernel
theorem zd_M_lose_28 : decode prog_8_method_32_code 28 = .ok (.istore_n 2, 1) := by decide +kernel
theorem zd_M_lose_29 : decode prog_8_method_32_code 29 = .ok (.aload_n 0, 1) := by decide +kernel
theorem zd_M_lose_30 : decode prog_8_method_32_code 30 = .ok (.iload_n 1, 1) := by decide +kernel
theorem zd_M_lose_31 : decode prog_8_method_32_code 31 = .ok (.invokevirtual 196, 3) := by decide +kernel
theorem zd_M_lose_34 : decode prog_8_method_32_code 34 = .ok (.iload_n 2, 1) := by decide +kernel
theorem zd_M_lose_35 : decode prog_8_method_32_code 35 = .ok (.ireturn, 1) := by decide +kernel
theorem zd_M_lose_20 : decode prog_8_method_32_code 20 = .ok (.iconst 0, 1) := by decide +kernel
theorem zd_M_lose_21 : decode prog_8_method_32_code 21 = .ok (.ireturn, 1) := by decide +kernel
theorem zd_M_lose_9 : decode prog_8_method_32_code 9 = .ok (.iconst 0, 1) := by decide +kernel
theorem zd_M_lose_10 : decode prog_8_method_32_code 10 = .ok (.goto 4, 3) := by decide +kernel
theorem zd_M_duplicate_0 : decode prog_8_method_33_code 0 = .ok (.aload_n 0, 1) := by decide +kernel
theorem zd_M_duplicate_1 : decode prog_8_method_33_code 1 = .ok (.aload_n 0, 1) := by decide +kernel
theorem zd_M_duplicate_2 : decode prog_8_method_33_code 2 = .ok (.iload_n 1, 1) := by decide +kernel
theorem zd_M_duplicate_3 : decode prog_8_method_33_code 3 = .ok (.invokevirtual 193, 3) := by decide +kernel
theorem zd_M_duplicate_6 : decode prog_8_method_33_code 6 = .ok (.ifCond .ne 7, 3) := by decide +kernel
theorem zd_M_duplicate_13 : decode prog_8_method_33_code 13 = .ok (.aload_n 0, 1) := by decide +kernel
theorem zd_M_duplicate_14 : decode prog_8_method_33_code 14 = .ok (.getfield 109, 3) := by decide +kernel
theorem zd_M_duplicate_17 : decode prog_8_method_33_code 17 = .ok (.bipush 40, 2) := by decide +kernel
theorem zd_M_duplicate_19 : decode prog_8_method_33_code 19 = .ok (.if_icmp .ne 7, 3) := by decide +kernel
theorem zd_M_duplicate_26 : decode prog_8_method_33_code 26 = .ok (.iconst 0, 1) := by decide +kernel
theorem zd_M_duplicate_27 : decode prog_8_method_33_code 27 = .ok (.invokevirtual 76, 3) := by decide +kernel
theorem zd_M_duplicate_30 : decode prog_8_method_33_code 30 = .ok (.ifCond .ne 5, 3) := by decide +kernel
theorem zd_M_duplicate_35 : decode prog_8_method_33_code 35 = .ok (.aload_n 0, 1) := by decide +kernel
theorem zd_M_duplicate_36 : decode prog_8_method_33_code 36 = .ok (.getfield 45, 3) := by decide +kernel
theorem zd_M_duplicate_39 : decode prog_8_method_33_code 39 = .ok (.aload_n 0, 1) := by decide +kernel
theorem zd_M_duplicate_40 : decode prog_8_method_33_code 40 = .ok (.getfield 109, 3) := by decide +kernel
theorem zd_M_duplicate_43 : decode prog_8_method_33_code 43 = .ok (.aload_n 0, 1) := by decide +kernel
theorem zd_M_duplicate_44 : decode prog_8_method_33_code 44 = .ok (.getfield 45, 3) := by decide +kernel
theorem zd_M_duplicate_47 : decode prog_8_method_33_code 47 = .ok (.iload_n 1, 1) := by decide +kernel
theorem zd_M_duplicate_48 : decode prog_8_method_33_code 48 = .ok (.iaload, 1) := by decide +kernel
theorem zd_M_duplicate_49 : decode prog_8_method_33_code 49 = .ok (.iastore, 1) := by decide +kernel
theorem zd_M_duplicate_50 : decode prog_8_method_33_code 50 = .ok (.aload_n 0, 1) := by decide +kernel
theorem zd_M_duplicate_51 : decode prog_8_method_33_code 51 = .ok (.getfield 48, 3) := by decide +kernel
theorem zd_M_duplicate_54 : decode prog_8_method_33_code 54 = .ok (.aload_n 0, 1) := by decide +kernel
theorem zd_M_duplicate_55 : decode prog_8_method_33_code 55 = .ok (.getfield 109, 3) := by decide +kernel
theorem zd_M_duplicate_58 : decode prog_8_method_33_code 58 = .ok (.aload_n 0, 1) := by decide +kernel
theorem zd_M_duplicate_59 : decode prog_8_method_33_code 59 = .ok (.getfield 48, 3) := by decide +kernel
theorem zd_M_duplicate_62 : decode prog_8_method_33_code 62 = .ok (.iload_n 1, 1) := by decide +kernel
theorem zd_M_duplicate_63 : decode prog_8_method_33_code 63 = .ok (.iaload, 1) := by decide +kernel
theorem zd_M_duplicate_64 : decode prog_8_method_33_code 64 = .ok (.iastore, 1) := by decide +kernel
theorem zd_M_duplicate_65 : decode prog_8_method_33_code 65 = .ok (.aload_n 0, 1) := by decide +kernel
theorem zd_M_duplicate_66 : decode prog_8_method_33_code 66 = .ok (.dup, 1) := by decide +kernel
theorem zd_M_duplicate_67 : decode prog_8_method_33_code 67 = .ok (.getfield 109, 3) := by decide +kernel
theorem zd_M_duplicate_70 : decode prog_8_method_33_code 70 = .ok (.iconst 1, 1) := by decide +kernel
theorem zd_M_duplicate_71 : decode prog_8_method_33_code 71 = .ok (.iadd, 1) := by decide +kernel
theorem zd_M_duplicate_72 : decode prog_8_method_33_code 72 = .ok (.putfield 109, 3) := by decide +kernel
theorem zd_M_duplicate_75 : decode prog_8_method_33_code 75 = .ok (.aload_n 0, 1) := by decide +kernel
theorem zd_M_duplicate_76 : decode prog_8_method_33_code 76 = .ok (.getfield 109, 3) := by decide +kernel
theorem zd_M_duplicate_79 : decode prog_8_method_33_code 79 = .ok (.ireturn, 1) := by decide +kernel
theorem zd_M_duplicate_33 : decode prog_8_method_33_code 33 = .ok (.iconst 0, 1) := by decide +kernel
theorem zd_M_duplicate_34 : decode prog_8_method_33_code 34 = .ok (.ireturn, 1) := by decide +kernel
theorem zd_M_duplicate_22 : decode prog_8_method_33_code 22 = .ok (.iconst 2, 1) := by decide +kernel
theorem zd_M_duplicate_23 : decode prog_8_method_33_code 23 = .ok (.goto 4, 3) := by decide +kernel
theorem zd_M_duplicate_9 : decode prog_8_method_33_code 9 = .ok (.iconst 1, 1) := by decide +kernel
theorem zd_M_duplicate_10 : decode prog_8_method_33_code 10 = .ok (.goto 17, 3) := by decide +kernel
theorem zd_M_deliverAck_0 : decode prog_8_method_34_code 0 = .ok (.aload_n 0, 1) := by decide +kernel
theorem zd_M_deliverAck_1 : decode prog_8_method_34_code 1 = .ok (.aload_n 0, 1) := by decide +kernel
theorem zd_M_deliverAck_2 : decode prog_8_method_34_code 2 = .ok (.iload_n 1, 1) := by decide +kernel
theorem zd_M_deliverAck_3 : decode prog_8_method_34_code 3 = .ok (.invokevirtual 199, 3) := by decide +kernel
theorem zd_M_deliverAck_6 : decode prog_8_method_34_code 6 = .ok (.ifCond .eq 7, 3) := by decide +kernel
theorem zd_M_deliverAck_13 : decode prog_8_method_34_code 13 = .ok (.iconst 1, 1) := by decide +kernel
theorem zd_M_deliverAck_14 : decode prog_8_method_34_code 14 = .ok (.invokevirtual 76, 3) := by decide +kernel
theorem zd_M_deliverAck_17 : decode prog_8_method_34_code 17 = .ok (.ifCond .ne 5, 3) := by decide +kernel
theorem zd_M_deliverAck_22 : decode prog_8_method_34_code 22 = .ok (.aload_n 0, 1) := by decide +kernel
theorem zd_M_deliverAck_23 : decode prog_8_method_34_code 23 = .ok (.getfield 93, 3) := by decide +kernel
theorem zd_M_deliverAck_26 : decode prog_8_method_34_code 26 = .ok (.istore_n 2, 1) := by decide +kernel
theorem zd_M_deliverAck_27 : decode prog_8_method_34_code 27 = .ok (.aload_n 0, 1) := by decide +kernel
theorem zd_M_deliverAck_28 : decode prog_8_method_34_code 28 = .ok (.getfield 51, 3) := by decide +kernel
theorem zd_M_deliverAck_31 : decode prog_8_method_34_code 31 = .ok (.iload_n 1, 1) := by decide +kernel
theorem zd_M_deliverAck_32 : decode prog_8_method_34_code 32 = .ok (.iaload, 1) := by decide +kernel
theorem zd_M_deliverAck_33 : decode prog_8_method_34_code 33 = .ok (.aload_n 0, 1) := by decide +kernel
theorem zd_M_deliverAck_34 : decode prog_8_method_34_code 34 = .ok (.getfield 93, 3) := by decide +kernel
theorem zd_M_deliverAck_37 : decode prog_8_method_34_code 37 = .ok (.if_icmp .lt 8, 3) := by decide +kernel
theorem zd_M_deliverAck_45 : decode prog_8_method_34_code 45 = .ok (.aload_n 0, 1) := by decide +kernel
theorem zd_M_deliverAck_46 : decode prog_8_method_34_code 46 = .ok (.iload_n 1, 1) := by decide +kernel
theorem zd_M_deliverAck_47 : decode prog_8_method_34_code 47 = .ok (.invokevirtual 177, 3) := by decide +kernel
theorem zd_M_deliverAck_50 : decode prog_8_method_34_code 50 = .ok (.aload_n 0, 1) := by decide +kernel
theorem zd_M_deliverAck_51 : decode prog_8_method_34_code 51 = .ok (.getfield 93, 3) := by decide +kernel
theorem zd_M_deliverAck_54 : decode prog_8_method_34_code 54 = .ok (.iload_n 2, 1) := by decide +kernel
theorem zd_M_deliverAck_55 : decode prog_8_method_34_code 55 = .ok (.isub, 1) := by decide +kernel
theorem zd_M_deliverAck_56 : decode prog_8_method_34_code 56 = .ok (.ireturn, 1) := by decide +kernel
theorem zd_M_deliverAck_40 : decode prog_8_method_34_code 40 = .ok (.aload_n 0, 1) := by decide +kernel
theorem zd_M_deliverAck_41 : decode prog_8_method_34_code 41 = .ok (.iload_n 1, 1) := by decide +kernel
theorem zd_M_deliverAck_42 : decode prog_8_method_34_code 42 = .ok (.invokevirtual 202, 3) := by decide +kernel
theorem zd_M_deliverAck_20 : decode prog_8_method_34_code 20 = .ok (.iconst 0, 1) := by decide +kernel
theorem zd_M_deliverAck_21 : decode prog_8_method_34_code 21 = .ok (.ireturn, 1) := by decide +kernel
theorem zd_M_deliverAck_9 : decode prog_8_method_34_code 9 = .ok (.iconst 0, 1) := by decide +kernel
theorem zd_M_deliverAck_10 : decode prog_8_method_34_code 10 = .ok (.goto 4, 3) := by decide +kernel
theorem zd_M_loseAck_0 : decode prog_8_method_35_code 0 = .ok (.aload_n 0, 1) := by decide +kernel
theorem zd_M_loseAck_1 : decode prog_8_method_35_code 1 = .ok (.aload_n 0, 1) := by decide +kernel
theorem zd_M_loseAck_2 : decode prog_8_method_35_code 2 = .ok (.iload_n 1, 1) := by decide +kernel
theorem zd_M_loseAck_3 : decode prog_8_method_35_code 3 = .ok (.invokevirtual 199, 3) := by decide +kernel
theorem zd_M_loseAck_6 : decode prog_8_method_35_code 6 = .ok (.ifCond .eq 7, 3) := by decide +kernel
theorem zd_M_loseAck_13 : decode prog_8_method_35_code 13 = .ok (.iconst 1, 1) := by decide +kernel
theorem zd_M_loseAck_14 : decode prog_8_method_35_code 14 = .ok (.invokevirtual 76, 3) := by decide +kernel
theorem zd_M_loseAck_17 : decode prog_8_method_35_code 17 = .ok (.ifCond .ne 5, 3) := by decide +kernel
theorem zd_M_loseAck_22 : decode prog_8_method_35_code 22 = .ok (.aload_n 0, 1) := by decide +kernel
theorem zd_M_loseAck_23 : decode prog_8_method_35_code 23 = .ok (.getfield 51, 3) := by decide +kernel
theorem zd_M_loseAck_26 : decode prog_8_method_35_code 26 = .ok (.iload_n 1, 1) := by decide +kernel
theorem zd_M_loseAck_27 : decode prog_8_method_35_code 27 = .ok (.iaload, 1) := by decide +kernel
theorem zd_M_loseAck_28 : decode prog_8_method_35_code 28 = .ok (.istore_n 2, 1) := by decide +kernel
theorem zd_M_loseAck_29 : decode prog_8_method_35_code 29 = .ok (.aload_n 0, 1) := by decide +kernel
theorem zd_M_loseAck_30 : decode prog_8_method_35_code 30 = .ok (.iload_n 1, 1) := by decide +kernel
theorem zd_M_loseAck_31 : decode prog_8_method_35_code 31 = .ok (.invokevirtual 177, 3) := by decide +kernel
theorem zd_M_loseAck_34 : decode prog_8_method_35_code 34 = .ok (.iload_n 2, 1) := by decide +kernel
theorem zd_M_loseAck_35 : decode prog_8_method_35_code 35 = .ok (.ireturn, 1) := by decide +kernel
theorem zd_M_loseAck_20 : decode prog_8_method_35_code 20 = .ok (.iconst 0, 1) := by decide +kernel
theorem zd_M_loseAck_21 : decode prog_8_method_35_code 21 = .ok (.ireturn, 1) := by decide +kernel
theorem zd_M_loseAck_9 : decode prog_8_method_35_code 9 = .ok (.iconst 0, 1) := by decide +kernel
theorem zd_M_loseAck_10 : decode prog_8_method_35_code 10 = .ok (.goto 4, 3) := by decide +kernel
theorem zd_M_segments_0 : decode prog_8_method_36_code 0 = .ok (.aload_n 0, 1) := by decide +kernel
theorem zd_M_segments_1 : decode prog_8_method_36_code 1 = .ok (.iconst 0, 1) := by decide +kernel
theorem zd_M_segments_2 : decode prog_8_method_36_code 2 = .ok (.putfield 66, 3) := by decide +kernel
theorem zd_M_segments_5 : decode prog_8_method_36_code 5 = .ok (.aload_n 0, 1) := by decide +kernel
theorem zd_M_segments_6 : decode prog_8_method_36_code 6 = .ok (.getfield 109, 3) := by decide +kernel
theorem zd_M_segments_9 : decode prog_8_method_36_code 9 = .ok (.ireturn, 1) := by decide +kernel
theorem zd_M_startOf_0 : decode prog_8_method_37_code 0 = .ok (.aload_n 0, 1) := by decide +kernel
theorem zd_M_startOf_1 : decode prog_8_method_37_code 1 = .ok (.aload_n 0, 1) := by decide +kernel
theorem zd_M_startOf_2 : decode prog_8_method_37_code 2 = .ok (.iload_n 1, 1) := by decide +kernel
theorem zd_M_startOf_3 : decode prog_8_method_37_code 3 = .ok (.invokevirtual 193, 3) := by decide +kernel
theorem zd_M_startOf_6 : decode prog_8_method_37_code 6 = .ok (.ifCond .eq 7, 3) := by decide +kernel
theorem zd_M_startOf_13 : decode prog_8_method_37_code 13 = .ok (.iconst 1, 1) := by decide +kernel
theorem zd_M_startOf_14 : decode prog_8_method_37_code 14 = .ok (.invokevirtual 76, 3) := by decide +kernel
theorem zd_M_startOf_17 : decode prog_8_method_37_code 17 = .ok (.ifCond .eq 12, 3) := by decide +kernel
theorem zd_M_startOf_29 : decode prog_8_method_37_code 29 = .ok (.iconst 0, 1) := by decide +kernel
theorem zd_M_startOf_30 : decode prog_8_method_37_code 30 = .ok (.ireturn, 1) := by decide +kernel
theorem zd_M_startOf_20 : decode prog_8_method_37_code 20 = .ok (.aload_n 0, 1) := by decide +kernel
theorem zd_M_startOf_21 : decode prog_8_method_37_code 21 = .ok (.getfield 45, 3) := by decide +kernel
theorem zd_M_startOf_24 : decode prog_8_method_37_code 24 = .ok (.iload_n 1, 1) := by decide +kernel
theorem zd_M_startOf_25 : decode prog_8_method_37_code 25 = .ok (.iaload, 1) := by decide +kernel
theorem zd_M_startOf_26 : decode prog_8_method_37_code 26 = .ok (.goto 4, 3) := by decide +kernel
theorem zd_M_startOf_9 : decode prog_8_method_37_code 9 = .ok (.iconst 0, 1) := by decide +kernel
theorem zd_M_startOf_10 : decode prog_8_method_37_code 10 = .ok (.goto 4, 3) := by decide +kernel
theorem zd_M_endOf_0 : decode prog_8_method_38_code 0 = .ok (.aload_n 0, 1) := by decide +kernel
theorem zd_M_endOf_1 : decode prog_8_method_38_code 1 = .ok (.aload_n 0, 1) := by decide +kernel
theorem zd_M_endOf_2 : decode prog_8_method_38_code 2 = .ok (.iload_n 1, 1) := by decide +kernel
theorem zd_M_endOf_3 : decode prog_8_method_38_code 3 = .ok (.invokevirtual 193, 3) := by decide +kernel
theorem zd_M_endOf_6 : decode prog_8_method_38_code 6 = .ok (.ifCond .eq 7, 3) := by decide +kernel
theorem zd_M_endOf_13 : decode prog_8_method_38_code 13 = .ok (.iconst 1, 1) := by decide +kernel
theorem zd_M_endOf_14 : decode prog_8_method_38_code 14 = .ok (.invokevirtual 76, 3) := by decide +kernel
theorem zd_M_endOf_17 : decode prog_8_method_38_code 17 = .ok (.ifCond .eq 12, 3) := by decide +kernel
theorem zd_M_endOf_29 : decode prog_8_method_38_code 29 = .ok (.iconst 0, 1) := by decide +kernel
theorem zd_M_endOf_30 : decode prog_8_method_38_code 30 = .ok (.ireturn, 1) := by decide +kernel
theorem zd_M_endOf_20 : decode prog_8_method_38_code 20 = .ok (.aload_n 0, 1) := by decide +kernel
theorem zd_M_endOf_21 : decode prog_8_method_38_code 21 = .ok (.getfield 48, 3) := by decide +kernel
theorem zd_M_endOf_24 : decode prog_8_method_38_code 24 = .ok (.iload_n 1, 1) := by decide +kernel
theorem zd_M_endOf_25 : decode prog_8_method_38_code 25 = .ok (.iaload, 1) := by decide +kernel
theorem zd_M_endOf_26 : decode prog_8_method_38_code 26 = .ok (.goto 4, 3) := by decide +kernel
theorem zd_M_endOf_9 : decode prog_8_method_38_code 9 = .ok (.iconst 0, 1) := by decide +kernel
theorem zd_M_endOf_10 : decode prog_8_method_38_code 10 = .ok (.goto 4, 3) := by decide +kernel
theorem zd_M_acks_0 : decode prog_8_method_39_code 0 = .ok (.aload_n 0, 1) := by decide +kernel
theorem zd_M_acks_1 : decode prog_8_method_39_code 1 = .ok (.iconst 0, 1) := by decide +kernel
theorem zd_M_acks_2 : decode prog_8_method_39_code 2 = .ok (.putfield 66, 3) := by decide +kernel
theorem zd_M_acks_5 : decode prog_8_method_39_code 5 = .ok (.aload_n 0, 1) := by decide +kernel
theorem zd_M_acks_6 : decode prog_8_method_39_code 6 = .ok (.getfield 174, 3) := by decide +kernel
theorem zd_M_acks_9 : decode prog_8_method_39_code 9 = .ok (.ireturn, 1) := by decide +kernel
theorem zd_M_ackNumber_0 : decode prog_8_method_40_code 0 = .ok (.aload_n 0, 1) := by decide +kernel
theorem zd_M_ackNumber_1 : decode prog_8_method_40_code 1 = .ok (.aload_n 0, 1) := by decide +kernel
theorem zd_M_ackNumber_2 : decode prog_8_method_40_code 2 = .ok (.iload_n 1, 1) := by decide +kernel
theorem zd_M_ackNumber_3 : decode prog_8_method_40_code 3 = .ok (.invokevirtual 199, 3) := by decide +kernel
theorem zd_M_ackNumber_6 : decode prog_8_method_40_code 6 = .ok (.ifCond .eq 7, 3) := by decide +kernel
theorem zd_M_ackNumber_13 : decode prog_8_method_40_code 13 = .ok (.iconst 1, 1) := by decide +kernel
theorem zd_M_ackNumber_14 : decode prog_8_method_40_code 14 = .ok (.invokevirtual 76, 3) := by decide +kernel
theorem zd_M_ackNumber_17 : decode prog_8_method_40_code 17 = .ok (.ifCond .eq 12, 3) := by decide +kernel
theorem zd_M_ackNumber_29 : decode prog_8_method_40_code 29 = .ok (.iconst 0, 1) := by decide +kernel
theorem zd_M_ackNumber_30 : decode prog_8_method_40_code 30 = .ok (.ireturn, 1) := by decide +kernel
theorem zd_M_ackNumber_20 : decode prog_8_method_40_code 20 = .ok (.aload_n 0, 1) := by decide +kernel
theorem zd_M_ackNumber_21 : decode prog_8_method_40_code 21 = .ok (.getfield 51, 3) := by decide +kernel
theorem zd_M_ackNumber_24 : decode prog_8_method_40_code 24 = .ok (.iload_n 1, 1) := by decide +kernel
theorem zd_M_ackNumber_25 : decode prog_8_method_40_code 25 = .ok (.iaload, 1) := by decide +kernel
theorem zd_M_ackNumber_26 : decode prog_8_method_40_code 26 = .ok (.goto 4, 3) := by decide +kernel
theorem zd_M_ackNumber_9 : decode prog_8_method_40_code 9 = .ok (.iconst 0, 1) := by decide +kernel
theorem zd_M_ackNumber_10 : decode prog_8_method_40_code 10 = .ok (.goto 4, 3) := by decide +kernel
theorem zd_M_ackWindow_0 : decode prog_8_method_41_code 0 = .ok (.aload_n 0, 1) := by decide +kernel
theorem zd_M_ackWindow_1 : decode prog_8_method_41_code 1 = .ok (.aload_n 0, 1) := by decide +kernel
theorem zd_M_ackWindow_2 : decode prog_8_method_41_code 2 = .ok (.iload_n 1, 1) := by decide +kernel
theorem zd_M_ackWindow_3 : decode prog_8_method_41_code 3 = .ok (.invokevirtual 199, 3) := by decide +kernel
theorem zd_M_ackWindow_6 : decode prog_8_method_41_code 6 = .ok (.ifCond .eq 7, 3) := by decide +kernel
theorem zd_M_ackWindow_13 : decode prog_8_method_41_code 13 = .ok (.iconst 1, 1) := by decide +kernel
theorem zd_M_ackWindow_14 : decode prog_8_method_41_code 14 = .ok (.invokevirtual 76, 3) := by decide +kernel
theorem zd_M_ackWindow_17 : decode prog_8_method_41_code 17 = .ok (.ifCond .eq 12, 3) := by decide +kernel
theorem zd_M_ackWindow_29 : decode prog_8_method_41_code 29 = .ok (.iconst 0, 1) := by decide +kernel
theorem zd_M_ackWindow_30 : decode prog_8_method_41_code 30 = .ok (.ireturn, 1) := by decide +kernel
theorem zd_M_ackWindow_20 : decode prog_8_method_41_code 20 = .ok (.aload_n 0, 1) := by decide +kernel
theorem zd_M_ackWindow_21 : decode prog_8_method_41_code 21 = .ok (.getfield 54, 3) := by decide +kernel
theorem zd_M_ackWindow_24 : decode prog_8_method_41_code 24 = .ok (.iload_n 1, 1) := by decide +kernel
theorem zd_M_ackWindow_25 : decode prog_8_method_41_code 25 = .ok (.iaload, 1) := by decide +kernel
theorem zd_M_ackWindow_26 : decode prog_8_method_41_code 26 = .ok (.goto 4, 3) := by decide +kernel
theorem zd_M_ackWindow_9 : decode prog_8_method_41_code 9 = .ok (.iconst 0, 1) := by decide +kernel
theorem zd_M_ackWindow_10 : decode prog_8_method_41_code 10 = .ok (.goto 4, 3) := by decide +kernel
theorem zd_M_ackBlocks_0 : decode prog_8_method_42_code 0 = .ok (.aload_n 0, 1) := by decide +kernel
theorem zd_M_ackBlocks_1 : decode prog_8_method_42_code 1 = .ok (.aload_n 0, 1) := by decide +kernel
theorem zd_M_ackBlocks_2 : decode prog_8_method_42_code 2 = .ok (.iload_n 1, 1) := by decide +kernel
theorem zd_M_ackBlocks_3 : decode prog_8_method_42_code 3 = .ok (.invokevirtual 199, 3) := by decide +kernel
theorem zd_M_ackBlocks_6 : decode prog_8_method_42_code 6 = .ok (.ifCond .eq 7, 3) := by decide +kernel
theorem zd_M_ackBlocks_13 : decode prog_8_method_42_code 13 = .ok (.iconst 1, 1) := by decide +kernel
theorem zd_M_ackBlocks_14 : decode prog_8_method_42_code 14 = .ok (.invokevirtual 76, 3) := by decide +kernel
theorem zd_M_ackBlocks_17 : decode prog_8_method_42_code 17 = .ok (.ifCond .eq 12, 3) := by decide +kernel
theorem zd_M_ackBlocks_29 : decode prog_8_method_42_code 29 = .ok (.iconst 0, 1) := by decide +kernel
theorem zd_M_ackBlocks_30 : decode prog_8_method_42_code 30 = .ok (.ireturn, 1) := by decide +kernel
theorem zd_M_ackBlocks_20 : decode prog_8_method_42_code 20 = .ok (.aload_n 0, 1) := by decide +kernel
theorem zd_M_ackBlocks_21 : decode prog_8_method_42_code 21 = .ok (.getfield 57, 3) := by decide +kernel
theorem zd_M_ackBlocks_24 : decode prog_8_method_42_code 24 = .ok (.iload_n 1, 1) := by decide +kernel
theorem zd_M_ackBlocks_25 : decode prog_8_method_42_code 25 = .ok (.iaload, 1) := by decide +kernel
theorem zd_M_ackBlocks_26 : decode prog_8_method_42_code 26 = .ok (.goto 4, 3) := by decide +kernel
theorem zd_M_ackBlocks_9 : decode prog_8_method_42_code 9 = .ok (.iconst 0, 1) := by decide +kernel
theorem zd_M_ackBlocks_10 : decode prog_8_method_42_code 10 = .ok (.goto 4, 3) := by decide +kernel
theorem zd_M_ackBlock_0 : decode prog_8_method_43_code 0 = .ok (.aload_n 0, 1) := by decide +kernel
theorem zd_M_ackBlock_1 : decode prog_8_method_43_code 1 = .ok (.aload_n 0, 1) := by decide +kernel
theorem zd_M_ackBlock_2 : decode prog_8_method_43_code 2 = .ok (.iload_n 1, 1) := by decide +kernel
theorem zd_M_ackBlock_3 : decode prog_8_method_43_code 3 = .ok (.invokevirtual 199, 3) := by decide +kernel
theorem zd_M_ackBlock_6 : decode prog_8_method_43_code 6 = .ok (.ifCond .eq 23, 3) := by decide +kernel
theorem zd_M_ackBlock_29 : decode prog_8_method_43_code 29 = .ok (.iconst 1, 1) := by decide +kernel
theorem zd_M_ackBlock_30 : decode prog_8_method_43_code 30 = .ok (.invokevirtual 76, 3) := by decide +kernel
theorem zd_M_ackBlock_33 : decode prog_8_method_43_code 33 = .ok (.ifCond .eq 16, 3) := by decide +kernel
theorem zd_M_ackBlock_49 : decode prog_8_method_43_code 49 = .ok (.iconst 0, 1) := by decide +kernel
theorem zd_M_ackBlock_50 : decode prog_8_method_43_code 50 = .ok (.ireturn, 1) := by decide +kernel
theorem zd_M_ackBlock_36 : decode prog_8_method_43_code 36 = .ok (.aload_n 0, 1) := by decide +kernel
theorem zd_M_ackBlock_37 : decode prog_8_method_43_code 37 = .ok (.getfield 60, 3) := by decide +kernel
theorem zd_M_ackBlock_40 : decode prog_8_method_43_code 40 = .ok (.iconst 3, 1) := by decide +kernel
theorem zd_M_ackBlock_41 : decode prog_8_method_43_code 41 = .ok (.iload_n 1, 1) := by decide +kernel
theorem zd_M_ackBlock_42 : decode prog_8_method_43_code 42 = .ok (.imul, 1) := by decide +kernel
theorem zd_M_ackBlock_43 : decode prog_8_method_43_code 43 = .ok (.iload_n 2, 1) := by decide +kernel
theorem zd_M_ackBlock_44 : decode prog_8_method_43_code 44 = .ok (.iadd, 1) := by decide +kernel
theorem zd_M_ackBlock_45 : decode prog_8_method_43_code 45 = .ok (.iaload, 1) := by decide +kernel
theorem zd_M_ackBlock_46 : decode prog_8_method_43_code 46 = .ok (.goto 4, 3) := by decide +kernel
theorem zd_M_ackBlock_9 : decode prog_8_method_43_code 9 = .ok (.iload_n 2, 1) := by decide +kernel
theorem zd_M_ackBlock_10 : decode prog_8_method_43_code 10 = .ok (.iconst 0, 1) := by decide +kernel
theorem zd_M_ackBlock_11 : decode prog_8_method_43_code 11 = .ok (.aload_n 0, 1) := by decide +kernel
theorem zd_M_ackBlock_12 : decode prog_8_method_43_code 12 = .ok (.getfield 57, 3) := by decide +kernel
theorem zd_M_ackBlock_15 : decode prog_8_method_43_code 15 = .ok (.iload_n 1, 1) := by decide +kernel
theorem zd_M_ackBlock_16 : decode prog_8_method_43_code 16 = .ok (.iaload, 1) := by decide +kernel
theorem zd_M_ackBlock_17 : decode prog_8_method_43_code 17 = .ok (.iconst 1, 1) := by decide +kernel
theorem zd_M_ackBlock_18 : decode prog_8_method_43_code 18 = .ok (.isub, 1) := by decide +kernel
theorem zd_M_ackBlock_19 : decode prog_8_method_43_code 19 = .ok (.invokestatic 69, 3) := by decide +kernel
theorem zd_M_ackBlock_22 : decode prog_8_method_43_code 22 = .ok (.ifCond .eq 7, 3) := by decide +kernel
theorem zd_M_ackBlock_25 : decode prog_8_method_43_code 25 = .ok (.iconst 0, 1) := by decide +kernel
theorem zd_M_ackBlock_26 : decode prog_8_method_43_code 26 = .ok (.goto 4, 3) := by decide +kernel
theorem zd_M_time_0 : decode prog_8_method_44_code 0 = .ok (.aload_n 0, 1) := by decide +kernel
theorem zd_M_time_1 : decode prog_8_method_44_code 1 = .ok (.iconst 0, 1) := by decide +kernel
theorem zd_M_time_2 : decode prog_8_method_44_code 2 = .ok (.putfield 66, 3) := by decide +kernel
theorem zd_M_time_5 : decode prog_8_method_44_code 5 = .ok (.aload_n 0, 1) := by decide +kernel
theorem zd_M_time_6 : decode prog_8_method_44_code 6 = .ok (.getfield 121, 3) := by decide +kernel
theorem zd_M_time_9 : decode prog_8_method_44_code 9 = .ok (.ireturn, 1) := by decide +kernel
theorem zd_M_acknowledged_0 : decode prog_8_method_45_code 0 = .ok (.aload_n 0, 1) := by decide +kernel
theorem zd_M_acknowledged_1 : decode prog_8_method_45_code 1 = .ok (.iconst 0, 1) := by decide +kernel
theorem zd_M_acknowledged_2 : decode prog_8_method_45_code 2 = .ok (.putfield 66, 3) := by decide +kernel
theorem zd_M_acknowledged_5 : decode prog_8_method_45_code 5 = .ok (.aload_n 0, 1) := by decide +kernel
theorem zd_M_acknowledged_6 : decode prog_8_method_45_code 6 = .ok (.getfield 93, 3) := by decide +kernel
theorem zd_M_acknowledged_9 : decode prog_8_method_45_code 9 = .ok (.ireturn, 1) := by decide +kernel
theorem zd_M_next_0 : decode prog_8_method_46_code 0 = .ok (.aload_n 0, 1) := by decide +kernel
theorem zd_M_next_1 : decode prog_8_method_46_code 1 = .ok (.iconst 0, 1) := by decide +kernel
theorem zd_M_next_2 : decode prog_8_method_46_code 2 = .ok (.putfield 66, 3) := by decide +kernel
theorem zd_M_next_5 : decode prog_8_method_46_code 5 = .ok (.aload_n 0, 1) := by decide +kernel
theorem zd_M_next_6 : decode prog_8_method_46_code 6 = .ok (.getfield 96, 3) := by decide +kernel
theorem zd_M_next_9 : decode prog_8_method_46_code 9 = .ok (.ireturn, 1) := by decide +kernel
theorem zd_M_highest_0 : decode prog_8_method_47_code 0 = .ok (.aload_n 0, 1) := by decide +kernel
theorem zd_M_highest_1 : decode prog_8_method_47_code 1 = .ok (.iconst 0, 1) := by decide +kernel
theorem zd_M_highest_2 : decode prog_8_method_47_code 2 = .ok (.putfield 66, 3) := by decide +kernel
theorem zd_M_highest_5 : decode prog_8_method_47_code 5 = .ok (.aload_n 0, 1) := by decide +kernel
theorem zd_M_highest_6 : decode prog_8_method_47_code 6 = .ok (.getfield 115, 3) := by decide +kernel
theorem zd_M_highest_9 : decode prog_8_method_47_code 9 = .ok (.ireturn, 1) := by decide +kernel
theorem zd_M_written_0 : decode prog_8_method_48_code 0 = .ok (.aload_n 0, 1) := by decide +kernel
theorem zd_M_written_1 : decode prog_8_method_48_code 1 = .ok (.iconst 0, 1) := by decide +kernel
theorem zd_M_written_2 : decode prog_8_method_48_code 2 = .ok (.putfield 66, 3) := by decide +kernel
theorem zd_M_written_5 : decode prog_8_method_48_code 5 = .ok (.aload_n 0, 1) := by decide +kernel
theorem zd_M_written_6 : decode prog_8_method_48_code 6 = .ok (.getfield 73, 3) := by decide +kernel
theorem zd_M_written_9 : decode prog_8_method_48_code 9 = .ok (.ireturn, 1) := by decide +kernel
theorem zd_M_edge_0 : decode prog_8_method_49_code 0 = .ok (.aload_n 0, 1) := by decide +kernel
theorem zd_M_edge_1 : decode prog_8_method_49_code 1 = .ok (.iconst 0, 1) := by decide +kernel
theorem zd_M_edge_2 : decode prog_8_method_49_code 2 = .ok (.putfield 66, 3) := by decide +kernel
theorem zd_M_edge_5 : decode prog_8_method_49_code 5 = .ok (.aload_n 0, 1) := by decide +kernel
theorem zd_M_edge_6 : decode prog_8_method_49_code 6 = .ok (.getfield 9, 3) := by decide +kernel
theorem zd_M_edge_9 : decode prog_8_method_49_code 9 = .ok (.ireturn, 1) := by decide +kernel
theorem zd_M_inFlight_0 : decode prog_8_method_50_code 0 = .ok (.aload_n 0, 1) := by decide +kernel
theorem zd_M_inFlight_1 : decode prog_8_method_50_code 1 = .ok (.iconst 0, 1) := by decide +kernel
theorem zd_M_inFlight_2 : decode prog_8_method_50_code 2 = .ok (.putfield 66, 3) := by decide +kernel
theorem zd_M_inFlight_5 : decode prog_8_method_50_code 5 = .ok (.aload_n 0, 1) := by decide +kernel
theorem zd_M_inFlight_6 : decode prog_8_method_50_code 6 = .ok (.invokevirtual 143, 3) := by decide +kernel
theorem zd_M_inFlight_9 : decode prog_8_method_50_code 9 = .ok (.ireturn, 1) := by decide +kernel
theorem zd_M_isMarked_0 : decode prog_8_method_51_code 0 = .ok (.aload_n 0, 1) := by decide +kernel
theorem zd_M_isMarked_1 : decode prog_8_method_51_code 1 = .ok (.iload_n 1, 1) := by decide +kernel
theorem zd_M_isMarked_2 : decode prog_8_method_51_code 2 = .ok (.iconst 0, 1) := by decide +kernel
theorem zd_M_isMarked_3 : decode prog_8_method_51_code 3 = .ok (.aload_n 0, 1) := by decide +kernel
theorem zd_M_isMarked_4 : decode prog_8_method_51_code 4 = .ok (.getfield 73, 3) := by decide +kernel
theorem zd_M_isMarked_7 : decode prog_8_method_51_code 7 = .ok (.iconst 1, 1) := by decide +kernel
theorem zd_M_isMarked_8 : decode prog_8_method_51_code 8 = .ok (.isub, 1) := by decide +kernel
theorem zd_M_isMarked_9 : decode prog_8_method_51_code 9 = .ok (.invokestatic 69, 3) := by decide +kernel
theorem zd_M_isMarked_12 : decode prog_8_method_51_code 12 = .ok (.ifCond .eq 7, 3) := by decide +kernel
theorem zd_M_isMarked_19 : decode prog_8_method_51_code 19 = .ok (.iconst 1, 1) := by decide +kernel
theorem zd_M_isMarked_20 : decode prog_8_method_51_code 20 = .ok (.invokevirtual 76, 3) := by decide +kernel
theorem zd_M_isMarked_23 : decode prog_8_method_51_code 23 = .ok (.ifCond .eq 16, 3) := by decide +kernel
theorem zd_M_isMarked_39 : decode prog_8_method_51_code 39 = .ok (.iconst 0, 1) := by decide +kernel
theorem zd_M_isMarked_40 : decode prog_8_method_51_code 40 = .ok (.ireturn, 1) := by decide +kernel
theorem zd_M_isMarked_26 : decode prog_8_method_51_code 26 = .ok (.aload_n 0, 1) := by decide +kernel
theorem zd_M_isMarked_27 : decode prog_8_method_51_code 27 = .ok (.getfield 35, 3) := by decide +kernel
theorem zd_M_isMarked_30 : decode prog_8_method_51_code 30 = .ok (.iload_n 1, 1) := by decide +kernel
theorem zd_M_isMarked_31 : decode prog_8_method_51_code 31 = .ok (.baload, 1) := by decide +kernel
theorem zd_M_isMarked_32 : decode prog_8_method_51_code 32 = .ok (.ifCond .eq 7, 3) := by decide +kernel
theorem zd_M_isMarked_35 : decode prog_8_method_51_code 35 = .ok (.iconst 1, 1) := by decide +kernel
theorem zd_M_isMarked_36 : decode prog_8_method_51_code 36 = .ok (.goto 4, 3) := by decide +kernel
theorem zd_M_isMarked_15 : decode prog_8_method_51_code 15 = .ok (.iconst 0, 1) := by decide +kernel
theorem zd_M_isMarked_16 : decode prog_8_method_51_code 16 = .ok (.goto 4, 3) := by decide +kernel
theorem zd_M_congestionWindow_0 : decode prog_8_method_52_code 0 = .ok (.aload_n 0, 1) := by decide +kernel
theorem zd_M_congestionWindow_1 : decode prog_8_method_52_code 1 = .ok (.iconst 0, 1) := by decide +kernel
theorem zd_M_congestionWindow_2 : decode prog_8_method_52_code 2 = .ok (.putfield 66, 3) := by decide +kernel
theorem zd_M_congestionWindow_5 : decode prog_8_method_52_code 5 = .ok (.aload_n 0, 1) := by decide +kernel
theorem zd_M_congestionWindow_6 : decode prog_8_method_52_code 6 = .ok (.getfield 13, 3) := by decide +kernel
theorem zd_M_congestionWindow_9 : decode prog_8_method_52_code 9 = .ok (.ireturn, 1) := by decide +kernel
theorem zd_M_threshold_0 : decode prog_8_method_53_code 0 = .ok (.aload_n 0, 1) := by decide +kernel
theorem zd_M_threshold_1 : decode prog_8_method_53_code 1 = .ok (.iconst 0, 1) := by decide +kernel
theorem zd_M_threshold_2 : decode prog_8_method_53_code 2 = .ok (.putfield 66, 3) := by decide +kernel
theorem zd_M_threshold_5 : decode prog_8_method_53_code 5 = .ok (.aload_n 0, 1) := by decide +kernel
theorem zd_M_threshold_6 : decode prog_8_method_53_code 6 = .ok (.getfield 16, 3) := by decide +kernel
theorem zd_M_threshold_9 : decode prog_8_method_53_code 9 = .ok (.ireturn, 1) := by decide +kernel
theorem zd_M_duplicates_0 : decode prog_8_method_54_code 0 = .ok (.aload_n 0, 1) := by decide +kernel
theorem zd_M_duplicates_1 : decode prog_8_method_54_code 1 = .ok (.iconst 0, 1) := by decide +kernel
theorem zd_M_duplicates_2 : decode prog_8_method_54_code 2 = .ok (.putfield 66, 3) := by decide +kernel
theorem zd_M_duplicates_5 : decode prog_8_method_54_code 5 = .ok (.aload_n 0, 1) := by decide +kernel
theorem zd_M_duplicates_6 : decode prog_8_method_54_code 6 = .ok (.getfield 146, 3) := by decide +kernel
theorem zd_M_duplicates_9 : decode prog_8_method_54_code 9 = .ok (.ireturn, 1) := by decide +kernel
theorem zd_M_recoveryEnd_0 : decode prog_8_method_55_code 0 = .ok (.aload_n 0, 1) := by decide +kernel
theorem zd_M_recoveryEnd_1 : decode prog_8_method_55_code 1 = .ok (.iconst 0, 1) := by decide +kernel
theorem zd_M_recoveryEnd_2 : decode prog_8_method_55_code 2 = .ok (.putfield 66, 3) := by decide +kernel
theorem zd_M_recoveryEnd_5 : decode prog_8_method_55_code 5 = .ok (.aload_n 0, 1) := by decide +kernel
theorem zd_M_recoveryEnd_6 : decode prog_8_method_55_code 6 = .ok (.getfield 127, 3) := by decide +kernel
theorem zd_M_recoveryEnd_9 : decode prog_8_method_55_code 9 = .ok (.ifCond .eq 10, 3) := by decide +kernel
theorem zd_M_recoveryEnd_19 : decode prog_8_method_55_code 19 = .ok (.iconst (-1), 1) := by decide +kernel
theorem zd_M_recoveryEnd_20 : decode prog_8_method_55_code 20 = .ok (.ireturn, 1) := by decide +kernel
theorem zd_M_recoveryEnd_12 : decode prog_8_method_55_code 12 = .ok (.aload_n 0, 1) := by decide +kernel
theorem zd_M_recoveryEnd_13 : decode prog_8_method_55_code 13 = .ok (.getfield 165, 3) := by decide +kernel
theorem zd_M_recoveryEnd_16 : decode prog_8_method_55_code 16 = .ok (.goto 4, 3) := by decide +kernel
theorem zd_M_timeout_0 : decode prog_8_method_56_code 0 = .ok (.aload_n 0, 1) := by decide +kernel
theorem zd_M_timeout_1 : decode prog_8_method_56_code 1 = .ok (.iconst 0, 1) := by decide +kernel
theorem zd_M_timeout_2 : decode prog_8_method_56_code 2 = .ok (.putfield 66, 3) := by decide +kernel
theorem zd_M_timeout_5 : decode prog_8_method_56_code 5 = .ok (.aload_n 0, 1) := by decide +kernel
theorem zd_M_timeout_6 : decode prog_8_method_56_code 6 = .ok (.getfield 22, 3) := by decide +kernel
theorem zd_M_timeout_9 : decode prog_8_method_56_code 9 = .ok (.ireturn, 1) := by decide +kernel
theorem zd_M_timerEnd_0 : decode prog_8_method_57_code 0 = .ok (.aload_n 0, 1) := by decide +kernel
theorem zd_M_timerEnd_1 : decode prog_8_method_57_code 1 = .ok (.iconst 0, 1) := by decide +kernel
theorem zd_M_timerEnd_2 : decode prog_8_method_57_code 2 = .ok (.putfield 66, 3) := by decide +kernel
theorem zd_M_timerEnd_5 : decode prog_8_method_57_code 5 = .ok (.aload_n 0, 1) := by decide +kernel
theorem zd_M_timerEnd_6 : decode prog_8_method_57_code 6 = .ok (.getfield 25, 3) := by decide +kernel
theorem zd_M_timerEnd_9 : decode prog_8_method_57_code 9 = .ok (.ireturn, 1) := by decide +kernel
theorem zd_M_roundTrip_0 : decode prog_8_method_58_code 0 = .ok (.aload_n 0, 1) := by decide +kernel
theorem zd_M_roundTrip_1 : decode prog_8_method_58_code 1 = .ok (.iconst 0, 1) := by decide +kernel
theorem zd_M_roundTrip_2 : decode prog_8_method_58_code 2 = .ok (.putfield 66, 3) := by decide +kernel
theorem zd_M_roundTrip_5 : decode prog_8_method_58_code 5 = .ok (.aload_n 0, 1) := by decide +kernel
theorem zd_M_roundTrip_6 : decode prog_8_method_58_code 6 = .ok (.getfield 155, 3) := by decide +kernel
theorem zd_M_roundTrip_9 : decode prog_8_method_58_code 9 = .ok (.ireturn, 1) := by decide +kernel
theorem zd_M_variation_0 : decode prog_8_method_59_code 0 = .ok (.aload_n 0, 1) := by decide +kernel
theorem zd_M_variation_1 : decode prog_8_method_59_code 1 = .ok (.iconst 0, 1) := by decide +kernel
theorem zd_M_variation_2 : decode prog_8_method_59_code 2 = .ok (.putfield 66, 3) := by decide +kernel
theorem zd_M_variation_5 : decode prog_8_method_59_code 5 = .ok (.aload_n 0, 1) := by decide +kernel
theorem zd_M_variation_6 : decode prog_8_method_59_code 6 = .ok (.getfield 158, 3) := by decide +kernel
theorem zd_M_variation_9 : decode prog_8_method_59_code 9 = .ok (.ireturn, 1) := by decide +kernel
theorem zd_M_timedEnd_0 : decode prog_8_method_60_code 0 = .ok (.aload_n 0, 1) := by decide +kernel
theorem zd_M_timedEnd_1 : decode prog_8_method_60_code 1 = .ok (.iconst 0, 1) := by decide +kernel
theorem zd_M_timedEnd_2 : decode prog_8_method_60_code 2 = .ok (.putfield 66, 3) := by decide +kernel
theorem zd_M_timedEnd_5 : decode prog_8_method_60_code 5 = .ok (.aload_n 0, 1) := by decide +kernel
theorem zd_M_timedEnd_6 : decode prog_8_method_60_code 6 = .ok (.getfield 28, 3) := by decide +kernel
theorem zd_M_timedEnd_9 : decode prog_8_method_60_code 9 = .ok (.ireturn, 1) := by decide +kernel
theorem zd_M_sent_0 : decode prog_8_method_61_code 0 = .ok (.aload_n 0, 1) := by decide +kernel
theorem zd_M_sent_1 : decode prog_8_method_61_code 1 = .ok (.iconst 0, 1) := by decide +kernel
theorem zd_M_sent_2 : decode prog_8_method_61_code 2 = .ok (.putfield 66, 3) := by decide +kernel
theorem zd_M_sent_5 : decode prog_8_method_61_code 5 = .ok (.aload_n 0, 1) := by decide +kernel
theorem zd_M_sent_6 : decode prog_8_method_61_code 6 = .ok (.getfield 112, 3) := by decide +kernel
theorem zd_M_sent_9 : decode prog_8_method_61_code 9 = .ok (.ireturn, 1) := by decide +kernel
theorem zd_M_sentAgain_0 : decode prog_8_method_62_code 0 = .ok (.aload_n 0, 1) := by decide +kernel
theorem zd_M_sentAgain_1 : decode prog_8_method_62_code 1 = .ok (.iconst 0, 1) := by decide +kernel
theorem zd_M_sentAgain_2 : decode prog_8_method_62_code 2 = .ok (.putfield 66, 3) := by decide +kernel
theorem zd_M_sentAgain_5 : decode prog_8_method_62_code 5 = .ok (.aload_n 0, 1) := by decide +kernel
theorem zd_M_sentAgain_6 : decode prog_8_method_62_code 6 = .ok (.getfield 118, 3) := by decide +kernel
theorem zd_M_sentAgain_9 : decode prog_8_method_62_code 9 = .ok (.ireturn, 1) := by decide +kernel
theorem zd_M_inOrder_0 : decode prog_8_method_63_code 0 = .ok (.aload_n 0, 1) := by decide +kernel
theorem zd_M_inOrder_1 : decode prog_8_method_63_code 1 = .ok (.iconst 0, 1) := by decide +kernel
theorem zd_M_inOrder_2 : decode prog_8_method_63_code 2 = .ok (.putfield 66, 3) := by decide +kernel
theorem zd_M_inOrder_5 : decode prog_8_method_63_code 5 = .ok (.aload_n 0, 1) := by decide +kernel
theorem zd_M_inOrder_6 : decode prog_8_method_63_code 6 = .ok (.getfield 83, 3) := by decide +kernel
theorem zd_M_inOrder_9 : decode prog_8_method_63_code 9 = .ok (.ireturn, 1) := by decide +kernel
theorem zd_M_readPosition_0 : decode prog_8_method_64_code 0 = .ok (.aload_n 0, 1) := by decide +kernel
theorem zd_M_readPosition_1 : decode prog_8_method_64_code 1 = .ok (.iconst 0, 1) := by decide +kernel
theorem zd_M_readPosition_2 : decode prog_8_method_64_code 2 = .ok (.putfield 66, 3) := by decide +kernel
theorem zd_M_readPosition_5 : decode prog_8_method_64_code 5 = .ok (.aload_n 0, 1) := by decide +kernel
theorem zd_M_readPosition_6 : decode prog_8_method_64_code 6 = .ok (.getfield 80, 3) := by decide +kernel
theorem zd_M_readPosition_9 : decode prog_8_method_64_code 9 = .ok (.ireturn, 1) := by decide +kernel
theorem zd_M_window_0 : decode prog_8_method_65_code 0 = .ok (.aload_n 0, 1) := by decide +kernel
theorem zd_M_window_1 : decode prog_8_method_65_code 1 = .ok (.iconst 0, 1) := by decide +kernel
theorem zd_M_window_2 : decode prog_8_method_65_code 2 = .ok (.putfield 66, 3) := by decide +kernel
theorem zd_M_window_5 : decode prog_8_method_65_code 5 = .ok (.aload_n 0, 1) := by decide +kernel
theorem zd_M_window_6 : decode prog_8_method_65_code 6 = .ok (.invokevirtual 86, 3) := by decide +kernel
theorem zd_M_window_9 : decode prog_8_method_65_code 9 = .ok (.ireturn, 1) := by decide +kernel
theorem zd_M_startOfBlock_9 : decode prog_8_method_66_code 9 = .ok (.iload_n 3, 1) := by decide +kernel
theorem zd_M_startOfBlock_10 : decode prog_8_method_66_code 10 = .ok (.sipush 600, 3) := by decide +kernel
theorem zd_M_startOfBlock_13 : decode prog_8_method_66_code 13 = .ok (.if_icmp .ge 26, 3) := by decide +kernel
theorem zd_M_startOfBlock_39 : decode prog_8_method_66_code 39 = .ok (.iconst (-1), 1) := by decide +kernel
theorem zd_M_startOfBlock_40 : decode prog_8_method_66_code 40 = .ok (.ireturn, 1) := by decide +kernel
theorem zd_M_startOfBlock_16 : decode prog_8_method_66_code 16 = .ok (.aload_n 0, 1) := by decide +kernel
theorem zd_M_startOfBlock_17 : decode prog_8_method_66_code 17 = .ok (.iload_n 3, 1) := by decide +kernel
theorem zd_M_startOfBlock_18 : decode prog_8_method_66_code 18 = .ok (.invokevirtual 183, 3) := by decide +kernel
theorem zd_M_startOfBlock_21 : decode prog_8_method_66_code 21 = .ok (.ifCond .eq 12, 3) := by decide +kernel
theorem zd_M_startOfBlock_33 : decode prog_8_method_66_code 33 = .ok (.iinc 3 1, 3) := by decide +kernel
theorem zd_M_startOfBlock_36 : decode prog_8_method_66_code 36 = .ok (.goto (-27), 3) := by decide +kernel
theorem zd_M_startOfBlock_24 : decode prog_8_method_66_code 24 = .ok (.iload_n 2, 1) := by decide +kernel
theorem zd_M_startOfBlock_25 : decode prog_8_method_66_code 25 = .ok (.ifCond .ne 5, 3) := by decide +kernel
theorem zd_M_startOfBlock_30 : decode prog_8_method_66_code 30 = .ok (.iinc 2 (-1), 3) := by decide +kernel
theorem zd_M_startOfBlock_28 : decode prog_8_method_66_code 28 = .ok (.iload_n 3, 1) := by decide +kernel
theorem zd_M_startOfBlock_29 : decode prog_8_method_66_code 29 = .ok (.ireturn, 1) := by decide +kernel
theorem zd_M_startOfBlock_0 : decode prog_8_method_66_code 0 = .ok (.iload_n 1, 1) := by decide +kernel
theorem zd_M_startOfBlock_1 : decode prog_8_method_66_code 1 = .ok (.istore_n 2, 1) := by decide +kernel
theorem zd_M_startOfBlock_2 : decode prog_8_method_66_code 2 = .ok (.aload_n 0, 1) := by decide +kernel
theorem zd_M_startOfBlock_3 : decode prog_8_method_66_code 3 = .ok (.getfield 83, 3) := by decide +kernel
theorem zd_M_startOfBlock_6 : decode prog_8_method_66_code 6 = .ok (.iconst 1, 1) := by decide +kernel
theorem zd_M_startOfBlock_7 : decode prog_8_method_66_code 7 = .ok (.iadd, 1) := by decide +kernel
theorem zd_M_startOfBlock_8 : decode prog_8_method_66_code 8 = .ok (.istore_n 3, 1) := by decide +kernel
theorem zd_M_blocks_14 : decode prog_8_method_67_code 14 = .ok (.iload_n 2, 1) := by decide +kernel
theorem zd_M_blocks_15 : decode prog_8_method_67_code 15 = .ok (.sipush 600, 3) := by decide +kernel
theorem zd_M_blocks_18 : decode prog_8_method_67_code 18 = .ok (.if_icmp .ge 25, 3) := by decide +kernel
theorem zd_M_blocks_21 : decode prog_8_method_67_code 21 = .ok (.iload_n 1, 1) := by decide +kernel
theorem zd_M_blocks_22 : decode prog_8_method_67_code 22 = .ok (.aload_n 0, 1) := by decide +kernel
theorem zd_M_blocks_23 : decode prog_8_method_67_code 23 = .ok (.iload_n 2, 1) := by decide +kernel
theorem zd_M_blocks_24 : decode prog_8_method_67_code 24 = .ok (.invokevirtual 183, 3) := by decide +kernel
theorem zd_M_blocks_27 : decode prog_8_method_67_code 27 = .ok (.ifCond .eq 7, 3) := by decide +kernel
theorem zd_M_blocks_34 : decode prog_8_method_67_code 34 = .ok (.iconst 0, 1) := by decide +kernel
theorem zd_M_blocks_35 : decode prog_8_method_67_code 35 = .ok (.iadd, 1) := by decide +kernel
theorem zd_M_blocks_36 : decode prog_8_method_67_code 36 = .ok (.istore_n 1, 1) := by decide +kernel
theorem zd_M_blocks_37 : decode prog_8_method_67_code 37 = .ok (.iinc 2 1, 3) := by decide +kernel
theorem zd_M_blocks_40 : decode prog_8_method_67_code 40 = .ok (.goto (-26), 3) := by decide +kernel
theorem zd_M_blocks_30 : decode prog_8_method_67_code 30 = .ok (.iconst 1, 1) := by decide +kernel
theorem zd_M_blocks_31 : decode prog_8_method_67_code 31 = .ok (.goto 4, 3) := by decide +kernel
theorem zd_M_blocks_0 : decode prog_8_method_67_code 0 = .ok (.aload_n 0, 1) := by decide +kernel
theorem zd_M_blocks_1 : decode prog_8_method_67_code 1 = .ok (.iconst 0, 1) := by decide +kernel
theorem zd_M_blocks_2 : decode prog_8_method_67_code 2 = .ok (.putfield 66, 3) := by decide +kernel
theorem zd_M_blocks_5 : decode prog_8_method_67_code 5 = .ok (.iconst 0, 1) := by decide +kernel
theorem zd_M_blocks_6 : decode prog_8_method_67_code 6 = .ok (.istore_n 1, 1) := by decide +kernel
theorem zd_M_blocks_7 : decode prog_8_method_67_code 7 = .ok (.aload_n 0, 1) := by decide +kernel
theorem zd_M_blocks_8 : decode prog_8_method_67_code 8 = .ok (.getfield 83, 3) := by decide +kernel
theorem zd_M_blocks_11 : decode prog_8_method_67_code 11 = .ok (.iconst 1, 1) := by decide +kernel
theorem zd_M_blocks_12 : decode prog_8_method_67_code 12 = .ok (.iadd, 1) := by decide +kernel
theorem zd_M_blocks_13 : decode prog_8_method_67_code 13 = .ok (.istore_n 2, 1) := by decide +kernel
theorem zd_M_blocks_43 : decode prog_8_method_67_code 43 = .ok (.iload_n 1, 1) := by decide +kernel
theorem zd_M_blocks_44 : decode prog_8_method_67_code 44 = .ok (.ireturn, 1) := by decide +kernel
theorem zd_M_blockStart_0 : decode prog_8_method_68_code 0 = .ok (.iload_n 1, 1) := by decide +kernel
theorem zd_M_blockStart_1 : decode prog_8_method_68_code 1 = .ok (.ifCond .ge 7, 3) := by decide +kernel
theorem zd_M_blockStart_8 : decode prog_8_method_68_code 8 = .ok (.aload_n 0, 1) := by decide +kernel
theorem zd_M_blockStart_9 : decode prog_8_method_68_code 9 = .ok (.iload_n 1, 1) := by decide +kernel
theorem zd_M_blockStart_10 : decode prog_8_method_68_code 10 = .ok (.invokevirtual 205, 3) := by decide +kernel
theorem zd_M_blockStart_13 : decode prog_8_method_68_code 13 = .ok (.istore_n 2, 1) := by decide +kernel
theorem zd_M_blockStart_14 : decode prog_8_method_68_code 14 = .ok (.aload_n 0, 1) := by decide +kernel
theorem zd_M_blockStart_15 : decode prog_8_method_68_code 15 = .ok (.iload_n 2, 1) := by decide +kernel
theorem zd_M_blockStart_16 : decode prog_8_method_68_code 16 = .ok (.iconst (-1), 1) := by decide +kernel
theorem zd_M_blockStart_17 : decode prog_8_method_68_code 17 = .ok (.if_icmp .ne 7, 3) := by decide +kernel
theorem zd_M_blockStart_24 : decode prog_8_method_68_code 24 = .ok (.iconst 0, 1) := by decide +kernel
theorem zd_M_blockStart_25 : decode prog_8_method_68_code 25 = .ok (.invokevirtual 76, 3) := by decide +kernel
theorem zd_M_blockStart_28 : decode prog_8_method_68_code 28 = .ok (.ifCond .eq 7, 3) := by decide +kernel
theorem zd_M_blockStart_35 : decode prog_8_method_68_code 35 = .ok (.iconst 0, 1) := by decide +kernel
theorem zd_M_blockStart_36 : decode prog_8_method_68_code 36 = .ok (.ireturn, 1) := by decide +kernel
theorem zd_M_blockStart_31 : decode prog_8_method_68_code 31 = .ok (.iload_n 2, 1) := by decide +kernel
theorem zd_M_blockStart_32 : decode prog_8_method_68_code 32 = .ok (.goto 4, 3) := by decide +kernel
theorem zd_M_blockStart_20 : decode prog_8_method_68_code 20 = .ok (.iconst 1, 1) := by decide +kernel
theorem zd_M_blockStart_21 : decode prog_8_method_68_code 21 = .ok (.goto 4, 3) := by decide +kernel
theorem zd_M_blockStart_4 : decode prog_8_method_68_code 4 = .ok (.iconst (-1), 1) := by decide +kernel
theorem zd_M_blockStart_5 : decode prog_8_method_68_code 5 = .ok (.goto 8, 3) := by decide +kernel
theorem zd_M_blockEnd_0 : decode prog_8_method_69_code 0 = .ok (.iload_n 1, 1) := by decide +kernel
theorem zd_M_blockEnd_1 : decode prog_8_method_69_code 1 = .ok (.ifCond .ge 7, 3) := by decide +kernel
theorem zd_M_blockEnd_8 : decode prog_8_method_69_code 8 = .ok (.aload_n 0, 1) := by decide +kernel
theorem zd_M_blockEnd_9 : decode prog_8_method_69_code 9 = .ok (.iload_n 1, 1) := by decide +kernel
theorem zd_M_blockEnd_10 : decode prog_8_method_69_code 10 = .ok (.invokevirtual 205, 3) := by decide +kernel
theorem zd_M_blockEnd_13 : decode prog_8_method_69_code 13 = .ok (.istore_n 2, 1) := by decide +kernel
theorem zd_M_blockEnd_14 : decode prog_8_method_69_code 14 = .ok (.aload_n 0, 1) := by decide +kernel
theorem zd_M_blockEnd_15 : decode prog_8_method_69_code 15 = .ok (.iload_n 2, 1) := by decide +kernel
theorem zd_M_blockEnd_16 : decode prog_8_method_69_code 16 = .ok (.iconst (-1), 1) := by decide +kernel
theorem zd_M_blockEnd_17 : decode prog_8_method_69_code 17 = .ok (.if_icmp .ne 7, 3) := by decide +kernel
theorem zd_M_blockEnd_24 : decode prog_8_method_69_code 24 = .ok (.iconst 0, 1) := by decide +kernel
theorem zd_M_blockEnd_25 : decode prog_8_method_69_code 25 = .ok (.invokevirtual 76, 3) := by decide +kernel
theorem zd_M_blockEnd_28 : decode prog_8_method_69_code 28 = .ok (.ifCond .eq 11, 3) := by decide +kernel
theorem zd_M_blockEnd_39 : decode prog_8_method_69_code 39 = .ok (.iconst 0, 1) := by decide +kernel
theorem zd_M_blockEnd_40 : decode prog_8_method_69_code 40 = .ok (.ireturn, 1) := by decide +kernel
theorem zd_M_blockEnd_31 : decode prog_8_method_69_code 31 = .ok (.aload_n 0, 1) := by decide +kernel
theorem zd_M_blockEnd_32 : decode prog_8_method_69_code 32 = .ok (.iload_n 2, 1) := by decide +kernel
theorem zd_M_blockEnd_33 : decode prog_8_method_69_code 33 = .ok (.invokevirtual 190, 3) := by decide +kernel
theorem zd_M_blockEnd_36 : decode prog_8_method_69_code 36 = .ok (.goto 4, 3) := by decide +kernel
theorem zd_M_blockEnd_20 : decode prog_8_method_69_code 20 = .ok (.iconst 1, 1) := by decide +kernel
theorem zd_M_blockEnd_21 : decode prog_8_method_69_code 21 = .ok (.goto 4, 3) := by decide +kernel
theorem zd_M_blockEnd_4 : decode prog_8_method_69_code 4 = .ok (.iconst (-1), 1) := by decide +kernel
theorem zd_M_blockEnd_5 : decode prog_8_method_69_code 5 = .ok (.goto 8, 3) := by decide +kernel
theorem zd_X_read_0 : decode prog_1_method_3_code 0 = .ok (.aload_n 0, 1) := by decide +kernel
theorem zd_X_read_1 : decode prog_1_method_3_code 1 = .ok (.getfield 23, 3) := by decide +kernel
theorem zd_X_read_4 : decode prog_1_method_3_code 4 = .ok (.getfield 49, 3) := by decide +kernel
theorem zd_X_read_7 : decode prog_1_method_3_code 7 = .ok (.istore_n 1, 1) := by decide +kernel
theorem zd_X_read_8 : decode prog_1_method_3_code 8 = .ok (.iload_n 1, 1) := by decide +kernel
theorem zd_X_read_9 : decode prog_1_method_3_code 9 = .ok (.aload_n 0, 1) := by decide +kernel
theorem zd_X_read_10 : decode prog_1_method_3_code 10 = .ok (.getfield 23, 3) := by decide +kernel
theorem zd_X_read_13 : decode prog_1_method_3_code 13 = .ok (.getfield 52, 3) := by decide +kernel
theorem zd_X_read_16 : decode prog_1_method_3_code 16 = .ok (.if_icmp .ge 16, 3) := by decide +kernel
theorem zd_X_read_32 : decode prog_1_method_3_code 32 = .ok (.iconst (-1), 1) := by decide +kernel
theorem zd_X_read_33 : decode prog_1_method_3_code 33 = .ok (.ireturn, 1) := by decide +kernel
theorem zd_X_read_19 : decode prog_1_method_3_code 19 = .ok (.iload_n 1, 1) := by decide +kernel
theorem zd_X_read_20 : decode prog_1_method_3_code 20 = .ok (.ifCond .lt 12, 3) := by decide +kernel
theorem zd_X_read_23 : decode prog_1_method_3_code 23 = .ok (.iload_n 1, 1) := by decide +kernel
theorem zd_X_read_24 : decode prog_1_method_3_code 24 = .ok (.aload_n 0, 1) := by decide +kernel
theorem zd_X_read_25 : decode prog_1_method_3_code 25 = .ok (.getfield 9, 3) := by decide +kernel
theorem zd_X_read_28 : decode prog_1_method_3_code 28 = .ok (.arraylength, 1) := by decide +kernel
theorem zd_X_read_29 : decode prog_1_method_3_code 29 = .ok (.if_icmp .lt 5, 3) := by decide +kernel
theorem zd_X_read_34 : decode prog_1_method_3_code 34 = .ok (.aload_n 0, 1) := by decide +kernel
theorem zd_X_read_35 : decode prog_1_method_3_code 35 = .ok (.getfield 23, 3) := by decide +kernel
theorem zd_X_read_38 : decode prog_1_method_3_code 38 = .ok (.invokevirtual 55, 3) := by decide +kernel
theorem zd_X_read_41 : decode prog_1_method_3_code 41 = .ok (.ifCond .eq 14, 3) := by decide +kernel
theorem zd_X_read_55 : decode prog_1_method_3_code 55 = .ok (.aload_n 0, 1) := by decide +kernel
theorem zd_X_read_56 : decode prog_1_method_3_code 56 = .ok (.getfield 9, 3) := by decide +kernel
theorem zd_X_read_59 : decode prog_1_method_3_code 59 = .ok (.iload_n 1, 1) := by decide +kernel
theorem zd_X_read_60 : decode prog_1_method_3_code 60 = .ok (.iaload, 1) := by decide +kernel
theorem zd_X_read_61 : decode prog_1_method_3_code 61 = .ok (.ireturn, 1) := by decide +kernel
theorem zd_X_read_44 : decode prog_1_method_3_code 44 = .ok (.aload_n 0, 1) := by decide +kernel
theorem zd_X_read_45 : decode prog_1_method_3_code 45 = .ok (.getfield 23, 3) := by decide +kernel
theorem zd_X_read_48 : decode prog_1_method_3_code 48 = .ok (.aload_n 0, 1) := by decide +kernel
theorem zd_X_read_49 : decode prog_1_method_3_code 49 = .ok (.getfield 36, 3) := by decide +kernel
theorem zd_X_read_52 : decode prog_1_method_3_code 52 = .ok (.invokevirtual 59, 3) := by decide +kernel
theorem zd_X_segments_0 : decode prog_1_method_12_code 0 = .ok (.aload_n 0, 1) := by decide +kernel
theorem zd_X_segments_1 : decode prog_1_method_12_code 1 = .ok (.getfield 32, 3) := by decide +kernel
theorem zd_X_segments_4 : decode prog_1_method_12_code 4 = .ok (.getfield 103, 3) := by decide +kernel
theorem zd_X_segments_7 : decode prog_1_method_12_code 7 = .ok (.ireturn, 1) := by decide +kernel
theorem zd_X_acks_0 : decode prog_1_method_15_code 0 = .ok (.aload_n 0, 1) := by decide +kernel
theorem zd_X_acks_1 : decode prog_1_method_15_code 1 = .ok (.getfield 36, 3) := by decide +kernel
theorem zd_X_acks_4 : decode prog_1_method_15_code 4 = .ok (.getfield 103, 3) := by decide +kernel
theorem zd_X_acks_7 : decode prog_1_method_15_code 7 = .ok (.ireturn, 1) := by decide +kernel
theorem zd_X_time_0 : decode prog_1_method_20_code 0 = .ok (.aload_n 0, 1) := by decide +kernel
theorem zd_X_time_1 : decode prog_1_method_20_code 1 = .ok (.getfield 16, 3) := by decide +kernel
theorem zd_X_time_4 : decode prog_1_method_20_code 4 = .ok (.getfield 110, 3) := by decide +kernel
theorem zd_X_time_7 : decode prog_1_method_20_code 7 = .ok (.getfield 114, 3) := by decide +kernel
theorem zd_X_time_10 : decode prog_1_method_20_code 10 = .ok (.ireturn, 1) := by decide +kernel
theorem zd_X_acknowledged_0 : decode prog_1_method_21_code 0 = .ok (.aload_n 0, 1) := by decide +kernel
theorem zd_X_acknowledged_1 : decode prog_1_method_21_code 1 = .ok (.getfield 16, 3) := by decide +kernel
theorem zd_X_acknowledged_4 : decode prog_1_method_21_code 4 = .ok (.getfield 119, 3) := by decide +kernel
theorem zd_X_acknowledged_7 : decode prog_1_method_21_code 7 = .ok (.ireturn, 1) := by decide +kernel
theorem zd_X_next_0 : decode prog_1_method_22_code 0 = .ok (.aload_n 0, 1) := by decide +kernel
theorem zd_X_next_1 : decode prog_1_method_22_code 1 = .ok (.getfield 16, 3) := by decide +kernel
theorem zd_X_next_4 : decode prog_1_method_22_code 4 = .ok (.getfield 122, 3) := by decide +kernel
theorem zd_X_next_7 : decode prog_1_method_22_code 7 = .ok (.ireturn, 1) := by decide +kernel
theorem zd_X_highest_0 : decode prog_1_method_23_code 0 = .ok (.aload_n 0, 1) := by decide +kernel
theorem zd_X_highest_1 : decode prog_1_method_23_code 1 = .ok (.getfield 16, 3) := by decide +kernel
theorem zd_X_highest_4 : decode prog_1_method_23_code 4 = .ok (.getfield 125, 3) := by decide +kernel
theorem zd_X_highest_7 : decode prog_1_method_23_code 7 = .ok (.ireturn, 1) := by decide +kernel
theorem zd_X_written_0 : decode prog_1_method_24_code 0 = .ok (.aload_n 0, 1) := by decide +kernel
theorem zd_X_written_1 : decode prog_1_method_24_code 1 = .ok (.getfield 16, 3) := by decide +kernel
theorem zd_X_written_4 : decode prog_1_method_24_code 4 = .ok (.getfield 42, 3) := by decide +kernel
theorem zd_X_written_7 : decode prog_1_method_24_code 7 = .ok (.ireturn, 1) := by decide +kernel
theorem zd_X_edge_0 : decode prog_1_method_25_code 0 = .ok (.aload_n 0, 1) := by decide +kernel
theorem zd_X_edge_1 : decode prog_1_method_25_code 1 = .ok (.getfield 16, 3) := by decide +kernel
theorem zd_X_edge_4 : decode prog_1_method_25_code 4 = .ok (.getfield 128, 3) := by decide +kernel
theorem zd_X_edge_7 : decode prog_1_method_25_code 7 = .ok (.ireturn, 1) := by decide +kernel
theorem zd_X_inFlight_0 : decode prog_1_method_26_code 0 = .ok (.aload_n 0, 1) := by decide +kernel
theorem zd_X_inFlight_1 : decode prog_1_method_26_code 1 = .ok (.getfield 16, 3) := by decide +kernel
theorem zd_X_inFlight_4 : decode prog_1_method_26_code 4 = .ok (.invokevirtual 131, 3) := by decide +kernel
theorem zd_X_inFlight_7 : decode prog_1_method_26_code 7 = .ok (.ireturn, 1) := by decide +kernel
theorem zd_X_congestionWindow_0 : decode prog_1_method_28_code 0 = .ok (.aload_n 0, 1) := by decide +kernel
theorem zd_X_congestionWindow_1 : decode prog_1_method_28_code 1 = .ok (.getfield 16, 3) := by decide +kernel
theorem zd_X_congestionWindow_4 : decode prog_1_method_28_code 4 = .ok (.getfield 143, 3) := by decide +kernel
theorem zd_X_congestionWindow_7 : decode prog_1_method_28_code 7 = .ok (.ireturn, 1) := by decide +kernel
theorem zd_X_threshold_0 : decode prog_1_method_29_code 0 = .ok (.aload_n 0, 1) := by decide +kernel
theorem zd_X_threshold_1 : decode prog_1_method_29_code 1 = .ok (.getfield 16, 3) := by decide +kernel
theorem zd_X_threshold_4 : decode prog_1_method_29_code 4 = .ok (.getfield 146, 3) := by decide +kernel
theorem zd_X_threshold_7 : decode prog_1_method_29_code 7 = .ok (.ireturn, 1) := by decide +kernel
theorem zd_X_duplicates_0 : decode prog_1_method_30_code 0 = .ok (.aload_n 0, 1) := by decide +kernel
theorem zd_X_duplicates_1 : decode prog_1_method_30_code 1 = .ok (.getfield 16, 3) := by decide +kernel
theorem zd_X_duplicates_4 : decode prog_1_method_30_code 4 = .ok (.getfield 149, 3) := by decide +kernel
theorem zd_X_duplicates_7 : decode prog_1_method_30_code 7 = .ok (.ireturn, 1) := by decide +kernel
theorem zd_X_recoveryEnd_0 : decode prog_1_method_31_code 0 = .ok (.aload_n 0, 1) := by decide +kernel
theorem zd_X_recoveryEnd_1 : decode prog_1_method_31_code 1 = .ok (.getfield 16, 3) := by decide +kernel
theorem zd_X_recoveryEnd_4 : decode prog_1_method_31_code 4 = .ok (.getfield 152, 3) := by decide +kernel
theorem zd_X_recoveryEnd_7 : decode prog_1_method_31_code 7 = .ok (.ireturn, 1) := by decide +kernel
theorem zd_X_timeout_0 : decode prog_1_method_32_code 0 = .ok (.aload_n 0, 1) := by decide +kernel
theorem zd_X_timeout_1 : decode prog_1_method_32_code 1 = .ok (.getfield 16, 3) := by decide +kernel
theorem zd_X_timeout_4 : decode prog_1_method_32_code 4 = .ok (.getfield 110, 3) := by decide +kernel
theorem zd_X_timeout_7 : decode prog_1_method_32_code 7 = .ok (.getfield 155, 3) := by decide +kernel
theorem zd_X_timeout_10 : decode prog_1_method_32_code 10 = .ok (.ireturn, 1) := by decide +kernel
theorem zd_X_timerEnd_0 : decode prog_1_method_33_code 0 = .ok (.aload_n 0, 1) := by decide +kernel
theorem zd_X_timerEnd_1 : decode prog_1_method_33_code 1 = .ok (.getfield 16, 3) := by decide +kernel
theorem zd_X_timerEnd_4 : decode prog_1_method_33_code 4 = .ok (.getfield 110, 3) := by decide +kernel
theorem zd_X_timerEnd_7 : decode prog_1_method_33_code 7 = .ok (.getfield 158, 3) := by decide +kernel
theorem zd_X_timerEnd_10 : decode prog_1_method_33_code 10 = .ok (.ireturn, 1) := by decide +kernel
theorem zd_X_roundTrip_0 : decode prog_1_method_34_code 0 = .ok (.aload_n 0, 1) := by decide +kernel
theorem zd_X_roundTrip_1 : decode prog_1_method_34_code 1 = .ok (.getfield 16, 3) := by decide +kernel
theorem zd_X_roundTrip_4 : decode prog_1_method_34_code 4 = .ok (.getfield 110, 3) := by decide +kernel
theorem zd_X_roundTrip_7 : decode prog_1_method_34_code 7 = .ok (.getfield 161, 3) := by decide +kernel
theorem zd_X_roundTrip_10 : decode prog_1_method_34_code 10 = .ok (.ireturn, 1) := by decide +kernel
theorem zd_X_variation_0 : decode prog_1_method_35_code 0 = .ok (.aload_n 0, 1) := by decide +kernel
theorem zd_X_variation_1 : decode prog_1_method_35_code 1 = .ok (.getfield 16, 3) := by decide +kernel
theorem zd_X_variation_4 : decode prog_1_method_35_code 4 = .ok (.getfield 110, 3) := by decide +kernel
theorem zd_X_variation_7 : decode prog_1_method_35_code 7 = .ok (.getfield 164, 3) := by decide +kernel
theorem zd_X_variation_10 : decode prog_1_method_35_code 10 = .ok (.ireturn, 1) := by decide +kernel
theorem zd_X_timedEnd_0 : decode prog_1_method_36_code 0 = .ok (.aload_n 0, 1) := by decide +kernel
theorem zd_X_timedEnd_1 : decode prog_1_method_36_code 1 = .ok (.getfield 16, 3) := by decide +kernel
theorem zd_X_timedEnd_4 : decode prog_1_method_36_code 4 = .ok (.getfield 110, 3) := by decide +kernel
theorem zd_X_timedEnd_7 : decode prog_1_method_36_code 7 = .ok (.getfield 167, 3) := by decide +kernel
theorem zd_X_timedEnd_10 : decode prog_1_method_36_code 10 = .ok (.ireturn, 1) := by decide +kernel
theorem zd_X_sent_0 : decode prog_1_method_37_code 0 = .ok (.aload_n 0, 1) := by decide +kernel
theorem zd_X_sent_1 : decode prog_1_method_37_code 1 = .ok (.getfield 16, 3) := by decide +kernel
theorem zd_X_sent_4 : decode prog_1_method_37_code 4 = .ok (.getfield 170, 3) := by decide +kernel
theorem zd_X_sent_7 : decode prog_1_method_37_code 7 = .ok (.ireturn, 1) := by decide +kernel
theorem zd_X_sentAgain_0 : decode prog_1_method_38_code 0 = .ok (.aload_n 0, 1) := by decide +kernel
theorem zd_X_sentAgain_1 : decode prog_1_method_38_code 1 = .ok (.getfield 16, 3) := by decide +kernel
theorem zd_X_sentAgain_4 : decode prog_1_method_38_code 4 = .ok (.getfield 173, 3) := by decide +kernel
theorem zd_X_sentAgain_7 : decode prog_1_method_38_code 7 = .ok (.ireturn, 1) := by decide +kernel
theorem zd_X_inOrder_0 : decode prog_1_method_39_code 0 = .ok (.aload_n 0, 1) := by decide +kernel
theorem zd_X_inOrder_1 : decode prog_1_method_39_code 1 = .ok (.getfield 23, 3) := by decide +kernel
theorem zd_X_inOrder_4 : decode prog_1_method_39_code 4 = .ok (.getfield 52, 3) := by decide +kernel
theorem zd_X_inOrder_7 : decode prog_1_method_39_code 7 = .ok (.ireturn, 1) := by decide +kernel
theorem zd_X_readPosition_0 : decode prog_1_method_40_code 0 = .ok (.aload_n 0, 1) := by decide +kernel
theorem zd_X_readPosition_1 : decode prog_1_method_40_code 1 = .ok (.getfield 23, 3) := by decide +kernel
theorem zd_X_readPosition_4 : decode prog_1_method_40_code 4 = .ok (.getfield 49, 3) := by decide +kernel
theorem zd_X_readPosition_7 : decode prog_1_method_40_code 7 = .ok (.ireturn, 1) := by decide +kernel
theorem zd_X_window_0 : decode prog_1_method_41_code 0 = .ok (.aload_n 0, 1) := by decide +kernel
theorem zd_X_window_1 : decode prog_1_method_41_code 1 = .ok (.getfield 23, 3) := by decide +kernel
theorem zd_X_window_4 : decode prog_1_method_41_code 4 = .ok (.invokevirtual 176, 3) := by decide +kernel
theorem zd_X_window_7 : decode prog_1_method_41_code 7 = .ok (.ireturn, 1) := by decide +kernel
theorem zd_X_blocks_0 : decode prog_1_method_42_code 0 = .ok (.aload_n 0, 1) := by decide +kernel
theorem zd_X_blocks_1 : decode prog_1_method_42_code 1 = .ok (.getfield 23, 3) := by decide +kernel
theorem zd_X_blocks_4 : decode prog_1_method_42_code 4 = .ok (.invokevirtual 179, 3) := by decide +kernel
theorem zd_X_blocks_7 : decode prog_1_method_42_code 7 = .ok (.ireturn, 1) := by decide +kernel
theorem zm382 : (Jvm.Cond.classLink "SluiceStream" (39 : Nat) "java/lang/IllegalArgumentException") ∈ zT := List.mem_filter.mpr ⟨List.mem_of_getElem? (i := 418) (by decide +kernel), by decide +kernel⟩
theorem zm11 : (Jvm.Cond.initialized "java/lang/IllegalArgumentException") ∈ zT := List.mem_filter.mpr ⟨List.mem_of_getElem? (i := 47) (by decide +kernel), by decide +kernel⟩
theorem zm445 : (Jvm.Cond.classLink "SluiceStream" (46 : Nat) "java/lang/IllegalStateException") ∈ zT := List.mem_filter.mpr ⟨List.mem_of_getElem? (i := 481) (by decide +kernel), by decide +kernel⟩
theorem zm12 : (Jvm.Cond.initialized "java/lang/IllegalStateException") ∈ zT := List.mem_filter.mpr ⟨List.mem_of_getElem? (i := 48) (by decide +kernel), by decide +kernel⟩
theorem zm378 : (Jvm.Cond.methodLink "SluiceStreamLaw" (7 : Nat) ({ cls := "SluiceStream", name := "write", desc := "(II)I" } : Jvm.MethodName)) ∈ zT := List.mem_filter.mpr ⟨List.mem_of_getElem? (i := 414) (by decide +kernel), by decide +kernel⟩
theorem zm1 : (Jvm.Cond.initialized "SluiceStream") ∈ zT := List.mem_filter.mpr ⟨List.mem_of_getElem? (i := 37) (by decide +kernel), by decide +kernel⟩
theorem zm381 : (Jvm.Cond.code ({ cls := "SluiceStream", name := "write", desc := "(II)I" } : Jvm.MethodName) prog_1_method_2_code (5 : Nat) (Option.some Jvm.ClassFile.FieldType.int)) ∈ zT := List.mem_filter.mpr ⟨List.mem_of_getElem? (i := 417) (by decide +kernel), by decide +kernel⟩
theorem zm379 : (Jvm.Cond.instanceMethod ({ cls := "SluiceStream", name := "write", desc := "(II)I" } : Jvm.MethodName)) ∈ zT := List.mem_filter.mpr ⟨List.mem_of_getElem? (i := 415) (by decide +kernel), by decide +kernel⟩
theorem zm380 : (Jvm.Cond.selects "SluiceStream" ({ cls := "SluiceStream", name := "write", desc := "(II)I" } : Jvm.MethodName) ({ cls := "SluiceStream", name := "write", desc := "(II)I" } : Jvm.MethodName)) ∈ zT := List.mem_filter.mpr ⟨List.mem_of_getElem? (i := 416) (by decide +kernel), by decide +kernel⟩
theorem zm376 : (Jvm.Cond.classLink "SluiceStreamLaw" (13 : Nat) "java/lang/IllegalArgumentException") ∈ zT := List.mem_filter.mpr ⟨List.mem_of_getElem? (i := 412) (by decide +kernel), by decide +kernel⟩
theorem zm377 : (Jvm.Cond.classLink "SluiceStreamLaw" (15 : Nat) "java/lang/IllegalStateException") ∈ zT := List.mem_filter.mpr ⟨List.mem_of_getElem? (i := 413) (by decide +kernel), by decide +kernel⟩
theorem zm96 : (Jvm.Cond.fieldLink "SluiceStream" (63 : Nat) "SluiceStream$Sender" "limit" "I") ∈ zT := List.mem_filter.mpr ⟨List.mem_of_getElem? (i := 132) (by decide +kernel), by decide +kernel⟩
theorem zm463 : (Jvm.Cond.methodLink "SluiceStreamLaw" (17 : Nat) ({ cls := "SluiceStream", name := "setLimit", desc := "(I)I" } : Jvm.MethodName)) ∈ zT := List.mem_filter.mpr ⟨List.mem_of_getElem? (i := 499) (by decide +kernel), by decide +kernel⟩
theorem zm466 : (Jvm.Cond.code ({ cls := "SluiceStream", name := "setLimit", desc := "(I)I" } : Jvm.MethodName) prog_1_method_4_code (3 : Nat) (Option.some Jvm.ClassFile.FieldType.int)) ∈ zT := List.mem_filter.mpr ⟨List.mem_of_getElem? (i := 502) (by decide +kernel), by decide +kernel⟩
theorem zm464 : (Jvm.Cond.instanceMethod ({ cls := "SluiceStream", name := "setLimit", desc := "(I)I" } : Jvm.MethodName)) ∈ zT := List.mem_filter.mpr ⟨List.mem_of_getElem? (i := 500) (by decide +kernel), by decide +kernel⟩
theorem zm465 : (Jvm.Cond.selects "SluiceStream" ({ cls := "SluiceStream", name := "setLimit", desc := "(I)I" } : Jvm.MethodName) ({ cls := "SluiceStream", name := "setLimit", desc := "(I)I" } : Jvm.MethodName)) ∈ zT := List.mem_filter.mpr ⟨List.mem_of_getElem? (i := 501) (by decide +kernel), by decide +kernel⟩
theorem zm474 : (Jvm.Cond.methodLink "SluiceStream" (66 : Nat) ({ cls := "SluiceStream$Rows", name := "isFull", desc := "()Z" } : Jvm.MethodName)) ∈ zT := List.mem_filter.mpr ⟨List.mem_of_getElem? (i := 510) (by decide +kernel), by decide +kernel⟩
theorem zm475 : (Jvm.Cond.methodLink "SluiceStream" (69 : Nat) ({ cls := "SluiceStream$Sender", name := "sendInto", desc := "(LSluiceStream$Rows;)I" } : Jvm.MethodName)) ∈ zT := List.mem_filter.mpr ⟨List.mem_of_getElem? (i := 511) (by decide +kernel), by decide +kernel⟩
theorem zm478 : (Jvm.Cond.code ({ cls := "SluiceStream$Sender", name := "sendInto", desc := "(LSluiceStream$Rows;)I" } : Jvm.MethodName) prog_5_method_3_code (5 : Nat) (Option.some Jvm.ClassFile.FieldType.int)) ∈ zT := List.mem_filter.mpr ⟨List.mem_of_getElem? (i := 514) (by decide +kernel), by decide +kernel⟩
theorem zm476 : (Jvm.Cond.instanceMethod ({ cls := "SluiceStream$Sender", name := "sendInto", desc := "(LSluiceStream$Rows;)I" } : Jvm.MethodName)) ∈ zT := List.mem_filter.mpr ⟨List.mem_of_getElem? (i := 512) (by decide +kernel), by decide +kernel⟩
theorem zm477 : (Jvm.Cond.selects "SluiceStream$Sender" ({ cls := "SluiceStream$Sender", name := "sendInto", desc := "(LSluiceStream$Rows;)I" } : Jvm.MethodName) ({ cls := "SluiceStream$Sender", name := "sendInto", desc := "(LSluiceStream$Rows;)I" } : Jvm.MethodName)) ∈ zT := List.mem_filter.mpr ⟨List.mem_of_getElem? (i := 513) (by decide +kernel), by decide +kernel⟩
theorem zm470 : (Jvm.Cond.methodLink "SluiceStreamLaw" (21 : Nat) ({ cls := "SluiceStream", name := "send", desc := "()I" } : Jvm.MethodName)) ∈ zT := List.mem_filter.mpr ⟨List.mem_of_getElem? (i := 506) (by decide +kernel), by decide +kernel⟩
theorem zm473 : (Jvm.Cond.code ({ cls := "SluiceStream", name := "send", desc := "()I" } : Jvm.MethodName) prog_1_method_5_code (1 : Nat) (Option.some Jvm.ClassFile.FieldType.int)) ∈ zT := List.mem_filter.mpr ⟨List.mem_of_getElem? (i := 509) (by decide +kernel), by decide +kernel⟩
theorem zm471 : (Jvm.Cond.instanceMethod ({ cls := "SluiceStream", name := "send", desc := "()I" } : Jvm.MethodName)) ∈ zT := List.mem_filter.mpr ⟨List.mem_of_getElem? (i := 507) (by decide +kernel), by decide +kernel⟩
theorem zm472 : (Jvm.Cond.selects "SluiceStream" ({ cls := "SluiceStream", name := "send", desc := "()I" } : Jvm.MethodName) ({ cls := "SluiceStream", name := "send", desc := "()I" } : Jvm.MethodName)) ∈ zT := List.mem_filter.mpr ⟨List.mem_of_getElem? (i := 508) (by decide +kernel), by decide +kernel⟩
theorem zm523 : (Jvm.Cond.methodLink "SluiceStream" (73 : Nat) ({ cls := "SluiceStream$Sender", name := "passTicks", desc := "(I)I" } : Jvm.MethodName)) ∈ zT := List.mem_filter.mpr ⟨List.mem_of_getElem? (i := 559) (by decide +kernel), by decide +kernel⟩
theorem zm526 : (Jvm.Cond.code ({ cls := "SluiceStream$Sender", name := "passTicks", desc := "(I)I" } : Jvm.MethodName) prog_5_method_8_code (4 : Nat) (Option.some Jvm.ClassFile.FieldType.int)) ∈ zT := List.mem_filter.mpr ⟨List.mem_of_getElem? (i := 562) (by decide +kernel), by decide +kernel⟩
theorem zm524 : (Jvm.Cond.instanceMethod ({ cls := "SluiceStream$Sender", name := "passTicks", desc := "(I)I" } : Jvm.MethodName)) ∈ zT := List.mem_filter.mpr ⟨List.mem_of_getElem? (i := 560) (by decide +kernel), by decide +kernel⟩
theorem zm525 : (Jvm.Cond.selects "SluiceStream$Sender" ({ cls := "SluiceStream$Sender", name := "passTicks", desc := "(I)I" } : Jvm.MethodName) ({ cls := "SluiceStream$Sender", name := "passTicks", desc := "(I)I" } : Jvm.MethodName)) ∈ zT := List.mem_filter.mpr ⟨List.mem_of_getElem? (i := 561) (by decide +kernel), by decide +kernel⟩
theorem zm519 : (Jvm.Cond.methodLink "SluiceStreamLaw" (25 : Nat) ({ cls := "SluiceStream", name := "tick", desc := "(I)I" } : Jvm.MethodName)) ∈ zT := List.mem_filter.mpr ⟨List.mem_of_getElem? (i := 555) (by decide +kernel), by decide +kernel⟩
theorem zm522 : (Jvm.Cond.code ({ cls := "SluiceStream", name := "tick", desc := "(I)I" } : Jvm.MethodName) prog_1_method_6_code (2 : Nat) (Option.some Jvm.ClassFile.FieldType.int)) ∈ zT := List.mem_filter.mpr ⟨List.mem_of_getElem? (i := 558) (by decide +kernel), by decide +kernel⟩
theorem zm520 : (Jvm.Cond.instanceMethod ({ cls := "SluiceStream", name := "tick", desc := "(I)I" } : Jvm.MethodName)) ∈ zT := List.mem_filter.mpr ⟨List.mem_of_getElem? (i := 556) (by decide +kernel), by decide +kernel⟩
theorem zm521 : (Jvm.Cond.selects "SluiceStream" ({ cls := "SluiceStream", name := "tick", desc := "(I)I" } : Jvm.MethodName) ({ cls := "SluiceStream", name := "tick", desc := "(I)I" } : Jvm.MethodName)) ∈ zT := List.mem_filter.mpr ⟨List.mem_of_getElem? (i := 557) (by decide +kernel), by decide +kernel⟩
theorem zm564 : (Jvm.Cond.methodLink "SluiceStream" (77 : Nat) ({ cls := "SluiceStream$Rows", name := "holds", desc := "(I)Z" } : Jvm.MethodName)) ∈ zT := List.mem_filter.mpr ⟨List.mem_of_getElem? (i := 600) (by decide +kernel), by decide +kernel⟩
theorem zm580 : (Jvm.Cond.methodLink "SluiceStream" (84 : Nat) ({ cls := "SluiceStream$Rows", name := "cell", desc := "(II)I" } : Jvm.MethodName)) ∈ zT := List.mem_filter.mpr ⟨List.mem_of_getElem? (i := 616) (by decide +kernel), by decide +kernel⟩
theorem zm584 : (Jvm.Cond.methodLink "SluiceStream" (88 : Nat) ({ cls := "SluiceStream$Receiver", name := "takeBytes", desc := "(II)I" } : Jvm.MethodName)) ∈ zT := List.mem_filter.mpr ⟨List.mem_of_getElem? (i := 620) (by decide +kernel), by decide +kernel⟩
theorem zm587 : (Jvm.Cond.code ({ cls := "SluiceStream$Receiver", name := "takeBytes", desc := "(II)I" } : Jvm.MethodName) prog_3_method_3_code (4 : Nat) (Option.some Jvm.ClassFile.FieldType.int)) ∈ zT := List.mem_filter.mpr ⟨List.mem_of_getElem? (i := 623) (by decide +kernel), by decide +kernel⟩
theorem zm585 : (Jvm.Cond.instanceMethod ({ cls := "SluiceStream$Receiver", name := "takeBytes", desc := "(II)I" } : Jvm.MethodName)) ∈ zT := List.mem_filter.mpr ⟨List.mem_of_getElem? (i := 621) (by decide +kernel), by decide +kernel⟩
theorem zm586 : (Jvm.Cond.selects "SluiceStream$Receiver" ({ cls := "SluiceStream$Receiver", name := "takeBytes", desc := "(II)I" } : Jvm.MethodName) ({ cls := "SluiceStream$Receiver", name := "takeBytes", desc := "(II)I" } : Jvm.MethodName)) ∈ zT := List.mem_filter.mpr ⟨List.mem_of_getElem? (i := 622) (by decide +kernel), by decide +kernel⟩
theorem zm593 : (Jvm.Cond.methodLink "SluiceStream" (91 : Nat) ({ cls := "SluiceStream$Rows", name := "remove", desc := "(I)V" } : Jvm.MethodName)) ∈ zT := List.mem_filter.mpr ⟨List.mem_of_getElem? (i := 629) (by decide +kernel), by decide +kernel⟩
theorem zm565 : (Jvm.Cond.classLink "SluiceStream" (81 : Nat) "java/lang/IndexOutOfBoundsException") ∈ zT := List.mem_filter.mpr ⟨List.mem_of_getElem? (i := 601) (by decide +kernel), by decide +kernel⟩
theorem zm14 : (Jvm.Cond.initialized "java/lang/IndexOutOfBoundsException") ∈ zT := List.mem_filter.mpr ⟨List.mem_of_getElem? (i := 50) (by decide +kernel), by decide +kernel⟩
theorem zm560 : (Jvm.Cond.methodLink "SluiceStreamLaw" (28 : Nat) ({ cls := "SluiceStream", name := "deliver", desc := "(I)I" } : Jvm.MethodName)) ∈ zT := List.mem_filter.mpr ⟨List.mem_of_getElem? (i := 596) (by decide +kernel), by decide +kernel⟩
theorem zm563 : (Jvm.Cond.code ({ cls := "SluiceStream", name := "deliver", desc := "(I)I" } : Jvm.MethodName) prog_1_method_7_code (3 : Nat) (Option.some Jvm.ClassFile.FieldType.int)) ∈ zT := List.mem_filter.mpr ⟨List.mem_of_getElem? (i := 599) (by decide +kernel), by decide +kernel⟩
theorem zm561 : (Jvm.Cond.instanceMethod ({ cls := "SluiceStream", name := "deliver", desc := "(I)I" } : Jvm.MethodName)) ∈ zT := List.mem_filter.mpr ⟨List.mem_of_getElem? (i := 597) (by decide +kernel), by decide +kernel⟩
theorem zm562 : (Jvm.Cond.selects "SluiceStream" ({ cls := "SluiceStream", name := "deliver", desc := "(I)I" } : Jvm.MethodName) ({ cls := "SluiceStream", name := "deliver", desc := "(I)I" } : Jvm.MethodName)) ∈ zT := List.mem_filter.mpr ⟨List.mem_of_getElem? (i := 598) (by decide +kernel), by decide +kernel⟩
theorem zm559 : (Jvm.Cond.classLink "SluiceStreamLaw" (31 : Nat) "java/lang/IndexOutOfBoundsException") ∈ zT := List.mem_filter.mpr ⟨List.mem_of_getElem? (i := 595) (by decide +kernel), by decide +kernel⟩
theorem zm597 : (Jvm.Cond.methodLink "SluiceStreamLaw" (33 : Nat) ({ cls := "SluiceStream", name := "lose", desc := "(I)I" } : Jvm.MethodName)) ∈ zT := List.mem_filter.mpr ⟨List.mem_of_getElem? (i := 633) (by decide +kernel), by decide +kernel⟩
theorem zm600 : (Jvm.Cond.code ({ cls := "SluiceStream", name := "lose", desc := "(I)I" } : Jvm.MethodName) prog_1_method_8_code (3 : Nat) (Option.some Jvm.ClassFile.FieldType.int)) ∈ zT := List.mem_filter.mpr ⟨List.mem_of_getElem? (i := 636) (by decide +kernel), by decide +kernel⟩
theorem zm598 : (Jvm.Cond.instanceMethod ({ cls := "SluiceStream", name := "lose", desc := "(I)I" } : Jvm.MethodName)) ∈ zT := List.mem_filter.mpr ⟨List.mem_of_getElem? (i := 634) (by decide +kernel), by decide +kernel⟩
theorem zm599 : (Jvm.Cond.selects "SluiceStream" ({ cls := "SluiceStream", name := "lose", desc := "(I)I" } : Jvm.MethodName) ({ cls := "SluiceStream", name := "lose", desc := "(I)I" } : Jvm.MethodName)) ∈ zT := List.mem_filter.mpr ⟨List.mem_of_getElem? (i := 635) (by decide +kernel), by decide +kernel⟩
theorem zm608 : (Jvm.Cond.methodLink "SluiceStream" (95 : Nat) ({ cls := "SluiceStream$Rows", name := "addRow", desc := "()I" } : Jvm.MethodName)) ∈ zT := List.mem_filter.mpr ⟨List.mem_of_getElem? (i := 644) (by decide +kernel), by decide +kernel⟩
theorem zm609 : (Jvm.Cond.methodLink "SluiceStream" (99 : Nat) ({ cls := "SluiceStream$Rows", name := "setCell", desc := "(III)V" } : Jvm.MethodName)) ∈ zT := List.mem_filter.mpr ⟨List.mem_of_getElem? (i := 645) (by decide +kernel), by decide +kernel⟩
theorem zm604 : (Jvm.Cond.methodLink "SluiceStreamLaw" (36 : Nat) ({ cls := "SluiceStream", name := "duplicate", desc := "(I)I" } : Jvm.MethodName)) ∈ zT := List.mem_filter.mpr ⟨List.mem_of_getElem? (i := 640) (by decide +kernel), by decide +kernel⟩
theorem zm607 : (Jvm.Cond.code ({ cls := "SluiceStream", name := "duplicate", desc := "(I)I" } : Jvm.MethodName) prog_1_method_9_code (3 : Nat) (Option.some Jvm.ClassFile.FieldType.int)) ∈ zT := List.mem_filter.mpr ⟨List.mem_of_getElem? (i := 643) (by decide +kernel), by decide +kernel⟩
theorem zm605 : (Jvm.Cond.instanceMethod ({ cls := "SluiceStream", name := "duplicate", desc := "(I)I" } : Jvm.MethodName)) ∈ zT := List.mem_filter.mpr ⟨List.mem_of_getElem? (i := 641) (by decide +kernel), by decide +kernel⟩
theorem zm606 : (Jvm.Cond.selects "SluiceStream" ({ cls := "SluiceStream", name := "duplicate", desc := "(I)I" } : Jvm.MethodName) ({ cls := "SluiceStream", name := "duplicate", desc := "(I)I" } : Jvm.MethodName)) ∈ zT := List.mem_filter.mpr ⟨List.mem_of_getElem? (i := 642) (by decide +kernel), by decide +kernel⟩
theorem zm617 : (Jvm.Cond.methodLink "SluiceStream" (106 : Nat) ({ cls := "SluiceStream$Sender", name := "takeAck", desc := "(LSluiceStream$Rows;I)I" } : Jvm.MethodName)) ∈ zT := List.mem_filter.mpr ⟨List.mem_of_getElem? (i := 653) (by decide +kernel), by decide +kernel⟩
theorem zm620 : (Jvm.Cond.code ({ cls := "SluiceStream$Sender", name := "takeAck", desc := "(LSluiceStream$Rows;I)I" } : Jvm.MethodName) prog_5_method_11_code (7 : Nat) (Option.some Jvm.ClassFile.FieldType.int)) ∈ zT := List.mem_filter.mpr ⟨List.mem_of_getElem? (i := 656) (by decide +kernel), by decide +kernel⟩
theorem zm618 : (Jvm.Cond.instanceMethod ({ cls := "SluiceStream$Sender", name := "takeAck", desc := "(LSluiceStream$Rows;I)I" } : Jvm.MethodName)) ∈ zT := List.mem_filter.mpr ⟨List.mem_of_getElem? (i := 654) (by decide +kernel), by decide +kernel⟩
theorem zm619 : (Jvm.Cond.selects "SluiceStream$Sender" ({ cls := "SluiceStream$Sender", name := "takeAck", desc := "(LSluiceStream$Rows;I)I" } : Jvm.MethodName) ({ cls := "SluiceStream$Sender", name := "takeAck", desc := "(LSluiceStream$Rows;I)I" } : Jvm.MethodName)) ∈ zT := List.mem_filter.mpr ⟨List.mem_of_getElem? (i := 655) (by decide +kernel), by decide +kernel⟩
theorem zm613 : (Jvm.Cond.methodLink "SluiceStreamLaw" (39 : Nat) ({ cls := "SluiceStream", name := "deliverAck", desc := "(I)I" } : Jvm.MethodName)) ∈ zT := List.mem_filter.mpr ⟨List.mem_of_getElem? (i := 649) (by decide +kernel), by decide +kernel⟩
theorem zm616 : (Jvm.Cond.code ({ cls := "SluiceStream", name := "deliverAck", desc := "(I)I" } : Jvm.MethodName) prog_1_method_10_code (3 : Nat) (Option.some Jvm.ClassFile.FieldType.int)) ∈ zT := List.mem_filter.mpr ⟨List.mem_of_getElem? (i := 652) (by decide +kernel), by decide +kernel⟩
theorem zm614 : (Jvm.Cond.instanceMethod ({ cls := "SluiceStream", name := "deliverAck", desc := "(I)I" } : Jvm.MethodName)) ∈ zT := List.mem_filter.mpr ⟨List.mem_of_getElem? (i := 650) (by decide +kernel), by decide +kernel⟩
theorem zm615 : (Jvm.Cond.selects "SluiceStream" ({ cls := "SluiceStream", name := "deliverAck", desc := "(I)I" } : Jvm.MethodName) ({ cls := "SluiceStream", name := "deliverAck", desc := "(I)I" } : Jvm.MethodName)) ∈ zT := List.mem_filter.mpr ⟨List.mem_of_getElem? (i := 651) (by decide +kernel), by decide +kernel⟩
theorem zm657 : (Jvm.Cond.methodLink "SluiceStreamLaw" (42 : Nat) ({ cls := "SluiceStream", name := "loseAck", desc := "(I)I" } : Jvm.MethodName)) ∈ zT := List.mem_filter.mpr ⟨List.mem_of_getElem? (i := 693) (by decide +kernel), by decide +kernel⟩
theorem zm660 : (Jvm.Cond.code ({ cls := "SluiceStream", name := "loseAck", desc := "(I)I" } : Jvm.MethodName) prog_1_method_11_code (3 : Nat) (Option.some Jvm.ClassFile.FieldType.int)) ∈ zT := List.mem_filter.mpr ⟨List.mem_of_getElem? (i := 696) (by decide +kernel), by decide +kernel⟩
theorem zm658 : (Jvm.Cond.instanceMethod ({ cls := "SluiceStream", name := "loseAck", desc := "(I)I" } : Jvm.MethodName)) ∈ zT := List.mem_filter.mpr ⟨List.mem_of_getElem? (i := 694) (by decide +kernel), by decide +kernel⟩
theorem zm659 : (Jvm.Cond.selects "SluiceStream" ({ cls := "SluiceStream", name := "loseAck", desc := "(I)I" } : Jvm.MethodName) ({ cls := "SluiceStream", name := "loseAck", desc := "(I)I" } : Jvm.MethodName)) ∈ zT := List.mem_filter.mpr ⟨List.mem_of_getElem? (i := 695) (by decide +kernel), by decide +kernel⟩
theorem zm664 : (Jvm.Cond.methodLink "SluiceStreamLaw" (45 : Nat) ({ cls := "SluiceStream", name := "startOf", desc := "(I)I" } : Jvm.MethodName)) ∈ zT := List.mem_filter.mpr ⟨List.mem_of_getElem? (i := 700) (by decide +kernel), by decide +kernel⟩
theorem zm667 : (Jvm.Cond.code ({ cls := "SluiceStream", name := "startOf", desc := "(I)I" } : Jvm.MethodName) prog_1_method_13_code (2 : Nat) (Option.some Jvm.ClassFile.FieldType.int)) ∈ zT := List.mem_filter.mpr ⟨List.mem_of_getElem? (i := 703) (by decide +kernel), by decide +kernel⟩
theorem zm665 : (Jvm.Cond.instanceMethod ({ cls := "SluiceStream", name := "startOf", desc := "(I)I" } : Jvm.MethodName)) ∈ zT := List.mem_filter.mpr ⟨List.mem_of_getElem? (i := 701) (by decide +kernel), by decide +kernel⟩
theorem zm666 : (Jvm.Cond.selects "SluiceStream" ({ cls := "SluiceStream", name := "startOf", desc := "(I)I" } : Jvm.MethodName) ({ cls := "SluiceStream", name := "startOf", desc := "(I)I" } : Jvm.MethodName)) ∈ zT := List.mem_filter.mpr ⟨List.mem_of_getElem? (i := 702) (by decide +kernel), by decide +kernel⟩
theorem zm671 : (Jvm.Cond.methodLink "SluiceStreamLaw" (48 : Nat) ({ cls := "SluiceStream", name := "endOf", desc := "(I)I" } : Jvm.MethodName)) ∈ zT := List.mem_filter.mpr ⟨List.mem_of_getElem? (i := 707) (by decide +kernel), by decide +kernel⟩
theorem zm674 : (Jvm.Cond.code ({ cls := "SluiceStream", name := "endOf", desc := "(I)I" } : Jvm.MethodName) prog_1_method_14_code (2 : Nat) (Option.some Jvm.ClassFile.FieldType.int)) ∈ zT := List.mem_filter.mpr ⟨List.mem_of_getElem? (i := 710) (by decide +kernel), by decide +kernel⟩
theorem zm672 : (Jvm.Cond.instanceMethod ({ cls := "SluiceStream", name := "endOf", desc := "(I)I" } : Jvm.MethodName)) ∈ zT := List.mem_filter.mpr ⟨List.mem_of_getElem? (i := 708) (by decide +kernel), by decide +kernel⟩
theorem zm673 : (Jvm.Cond.selects "SluiceStream" ({ cls := "SluiceStream", name := "endOf", desc := "(I)I" } : Jvm.MethodName) ({ cls := "SluiceStream", name := "endOf", desc := "(I)I" } : Jvm.MethodName)) ∈ zT := List.mem_filter.mpr ⟨List.mem_of_getElem? (i := 709) (by decide +kernel), by decide +kernel⟩
theorem zm678 : (Jvm.Cond.methodLink "SluiceStreamLaw" (51 : Nat) ({ cls := "SluiceStream", name := "ackNumber", desc := "(I)I" } : Jvm.MethodName)) ∈ zT := List.mem_filter.mpr ⟨List.mem_of_getElem? (i := 714) (by decide +kernel), by decide +kernel⟩
theorem zm681 : (Jvm.Cond.code ({ cls := "SluiceStream", name := "ackNumber", desc := "(I)I" } : Jvm.MethodName) prog_1_method_16_code (2 : Nat) (Option.some Jvm.ClassFile.FieldType.int)) ∈ zT := List.mem_filter.mpr ⟨List.mem_of_getElem? (i := 717) (by decide +kernel), by decide +kernel⟩
theorem zm679 : (Jvm.Cond.instanceMethod ({ cls := "SluiceStream", name := "ackNumber", desc := "(I)I" } : Jvm.MethodName)) ∈ zT := List.mem_filter.mpr ⟨List.mem_of_getElem? (i := 715) (by decide +kernel), by decide +kernel⟩
theorem zm680 : (Jvm.Cond.selects "SluiceStream" ({ cls := "SluiceStream", name := "ackNumber", desc := "(I)I" } : Jvm.MethodName) ({ cls := "SluiceStream", name := "ackNumber", desc := "(I)I" } : Jvm.MethodName)) ∈ zT := List.mem_filter.mpr ⟨List.mem_of_getElem? (i := 716) (by decide +kernel), by decide +kernel⟩
theorem zm685 : (Jvm.Cond.methodLink "SluiceStreamLaw" (54 : Nat) ({ cls := "SluiceStream", name := "ackWindow", desc := "(I)I" } : Jvm.MethodName)) ∈ zT := List.mem_filter.mpr ⟨List.mem_of_getElem? (i := 721) (by decide +kernel), by decide +kernel⟩
theorem zm688 : (Jvm.Cond.code ({ cls := "SluiceStream", name := "ackWindow", desc := "(I)I" } : Jvm.MethodName) prog_1_method_17_code (2 : Nat) (Option.some Jvm.ClassFile.FieldType.int)) ∈ zT := List.mem_filter.mpr ⟨List.mem_of_getElem? (i := 724) (by decide +kernel), by decide +kernel⟩
theorem zm686 : (Jvm.Cond.instanceMethod ({ cls := "SluiceStream", name := "ackWindow", desc := "(I)I" } : Jvm.MethodName)) ∈ zT := List.mem_filter.mpr ⟨List.mem_of_getElem? (i := 722) (by decide +kernel), by decide +kernel⟩
theorem zm687 : (Jvm.Cond.selects "SluiceStream" ({ cls := "SluiceStream", name := "ackWindow", desc := "(I)I" } : Jvm.MethodName) ({ cls := "SluiceStream", name := "ackWindow", desc := "(I)I" } : Jvm.MethodName)) ∈ zT := List.mem_filter.mpr ⟨List.mem_of_getElem? (i := 723) (by decide +kernel), by decide +kernel⟩
theorem zm692 : (Jvm.Cond.methodLink "SluiceStreamLaw" (57 : Nat) ({ cls := "SluiceStream", name := "ackBlocks", desc := "(I)I" } : Jvm.MethodName)) ∈ zT := List.mem_filter.mpr ⟨List.mem_of_getElem? (i := 728) (by decide +kernel), by decide +kernel⟩
theorem zm695 : (Jvm.Cond.code ({ cls := "SluiceStream", name := "ackBlocks", desc := "(I)I" } : Jvm.MethodName) prog_1_method_18_code (2 : Nat) (Option.some Jvm.ClassFile.FieldType.int)) ∈ zT := List.mem_filter.mpr ⟨List.mem_of_getElem? (i := 731) (by decide +kernel), by decide +kernel⟩
theorem zm693 : (Jvm.Cond.instanceMethod ({ cls := "SluiceStream", name := "ackBlocks", desc := "(I)I" } : Jvm.MethodName)) ∈ zT := List.mem_filter.mpr ⟨List.mem_of_getElem? (i := 729) (by decide +kernel), by decide +kernel⟩
theorem zm694 : (Jvm.Cond.selects "SluiceStream" ({ cls := "SluiceStream", name := "ackBlocks", desc := "(I)I" } : Jvm.MethodName) ({ cls := "SluiceStream", name := "ackBlocks", desc := "(I)I" } : Jvm.MethodName)) ∈ zT := List.mem_filter.mpr ⟨List.mem_of_getElem? (i := 730) (by decide +kernel), by decide +kernel⟩
theorem zm699 : (Jvm.Cond.methodLink "SluiceStreamLaw" (60 : Nat) ({ cls := "SluiceStream", name := "ackBlock", desc := "(II)I" } : Jvm.MethodName)) ∈ zT := List.mem_filter.mpr ⟨List.mem_of_getElem? (i := 735) (by decide +kernel), by decide +kernel⟩
theorem zm702 : (Jvm.Cond.code ({ cls := "SluiceStream", name := "ackBlock", desc := "(II)I" } : Jvm.MethodName) prog_1_method_19_code (3 : Nat) (Option.some Jvm.ClassFile.FieldType.int)) ∈ zT := List.mem_filter.mpr ⟨List.mem_of_getElem? (i := 738) (by decide +kernel), by decide +kernel⟩
theorem zm700 : (Jvm.Cond.instanceMethod ({ cls := "SluiceStream", name := "ackBlock", desc := "(II)I" } : Jvm.MethodName)) ∈ zT := List.mem_filter.mpr ⟨List.mem_of_getElem? (i := 736) (by decide +kernel), by decide +kernel⟩
theorem zm701 : (Jvm.Cond.selects "SluiceStream" ({ cls := "SluiceStream", name := "ackBlock", desc := "(II)I" } : Jvm.MethodName) ({ cls := "SluiceStream", name := "ackBlock", desc := "(II)I" } : Jvm.MethodName)) ∈ zT := List.mem_filter.mpr ⟨List.mem_of_getElem? (i := 737) (by decide +kernel), by decide +kernel⟩
theorem zm78 : (Jvm.Cond.fieldLink "SluiceStream" (134 : Nat) "SluiceStream$Sender" "marks" "LSluiceStream$Positions;") ∈ zT := List.mem_filter.mpr ⟨List.mem_of_getElem? (i := 114) (by decide +kernel), by decide +kernel⟩
theorem zm710 : (Jvm.Cond.methodLink "SluiceStream" (138 : Nat) ({ cls := "SluiceStream$Positions", name := "at", desc := "(I)I" } : Jvm.MethodName)) ∈ zT := List.mem_filter.mpr ⟨List.mem_of_getElem? (i := 746) (by decide +kernel), by decide +kernel⟩
theorem zm706 : (Jvm.Cond.methodLink "SluiceStreamLaw" (63 : Nat) ({ cls := "SluiceStream", name := "isMarked", desc := "(I)Z" } : Jvm.MethodName)) ∈ zT := List.mem_filter.mpr ⟨List.mem_of_getElem? (i := 742) (by decide +kernel), by decide +kernel⟩
theorem zm709 : (Jvm.Cond.code ({ cls := "SluiceStream", name := "isMarked", desc := "(I)Z" } : Jvm.MethodName) prog_1_method_27_code (2 : Nat) (Option.some Jvm.ClassFile.FieldType.boolean)) ∈ zT := List.mem_filter.mpr ⟨List.mem_of_getElem? (i := 745) (by decide +kernel), by decide +kernel⟩
theorem zm707 : (Jvm.Cond.instanceMethod ({ cls := "SluiceStream", name := "isMarked", desc := "(I)Z" } : Jvm.MethodName)) ∈ zT := List.mem_filter.mpr ⟨List.mem_of_getElem? (i := 743) (by decide +kernel), by decide +kernel⟩
theorem zm708 : (Jvm.Cond.selects "SluiceStream" ({ cls := "SluiceStream", name := "isMarked", desc := "(I)Z" } : Jvm.MethodName) ({ cls := "SluiceStream", name := "isMarked", desc := "(I)Z" } : Jvm.MethodName)) ∈ zT := List.mem_filter.mpr ⟨List.mem_of_getElem? (i := 744) (by decide +kernel), by decide +kernel⟩
theorem zm718 : (Jvm.Cond.methodLink "SluiceStream" (182 : Nat) ({ cls := "SluiceStream$Receiver", name := "startOfBlock", desc := "(I)I" } : Jvm.MethodName)) ∈ zT := List.mem_filter.mpr ⟨List.mem_of_getElem? (i := 754) (by decide +kernel), by decide +kernel⟩
theorem zm721 : (Jvm.Cond.code ({ cls := "SluiceStream$Receiver", name := "startOfBlock", desc := "(I)I" } : Jvm.MethodName) prog_3_method_9_code (4 : Nat) (Option.some Jvm.ClassFile.FieldType.int)) ∈ zT := List.mem_filter.mpr ⟨List.mem_of_getElem? (i := 757) (by decide +kernel), by decide +kernel⟩
theorem zm719 : (Jvm.Cond.instanceMethod ({ cls := "SluiceStream$Receiver", name := "startOfBlock", desc := "(I)I" } : Jvm.MethodName)) ∈ zT := List.mem_filter.mpr ⟨List.mem_of_getElem? (i := 755) (by decide +kernel), by decide +kernel⟩
theorem zm720 : (Jvm.Cond.selects "SluiceStream$Receiver" ({ cls := "SluiceStream$Receiver", name := "startOfBlock", desc := "(I)I" } : Jvm.MethodName) ({ cls := "SluiceStream$Receiver", name := "startOfBlock", desc := "(I)I" } : Jvm.MethodName)) ∈ zT := List.mem_filter.mpr ⟨List.mem_of_getElem? (i := 756) (by decide +kernel), by decide +kernel⟩
theorem zm714 : (Jvm.Cond.methodLink "SluiceStreamLaw" (67 : Nat) ({ cls := "SluiceStream", name := "blockStart", desc := "(I)I" } : Jvm.MethodName)) ∈ zT := List.mem_filter.mpr ⟨List.mem_of_getElem? (i := 750) (by decide +kernel), by decide +kernel⟩
theorem zm717 : (Jvm.Cond.code ({ cls := "SluiceStream", name := "blockStart", desc := "(I)I" } : Jvm.MethodName) prog_1_method_43_code (2 : Nat) (Option.some Jvm.ClassFile.FieldType.int)) ∈ zT := List.mem_filter.mpr ⟨List.mem_of_getElem? (i := 753) (by decide +kernel), by decide +kernel⟩
theorem zm715 : (Jvm.Cond.instanceMethod ({ cls := "SluiceStream", name := "blockStart", desc := "(I)I" } : Jvm.MethodName)) ∈ zT := List.mem_filter.mpr ⟨List.mem_of_getElem? (i := 751) (by decide +kernel), by decide +kernel⟩
theorem zm716 : (Jvm.Cond.selects "SluiceStream" ({ cls := "SluiceStream", name := "blockStart", desc := "(I)I" } : Jvm.MethodName) ({ cls := "SluiceStream", name := "blockStart", desc := "(I)I" } : Jvm.MethodName)) ∈ zT := List.mem_filter.mpr ⟨List.mem_of_getElem? (i := 752) (by decide +kernel), by decide +kernel⟩
theorem zm729 : (Jvm.Cond.methodLink "SluiceStream" (185 : Nat) ({ cls := "SluiceStream$Receiver", name := "endOfRun", desc := "(I)I" } : Jvm.MethodName)) ∈ zT := List.mem_filter.mpr ⟨List.mem_of_getElem? (i := 765) (by decide +kernel), by decide +kernel⟩
theorem zm725 : (Jvm.Cond.methodLink "SluiceStreamLaw" (70 : Nat) ({ cls := "SluiceStream", name := "blockEnd", desc := "(I)I" } : Jvm.MethodName)) ∈ zT := List.mem_filter.mpr ⟨List.mem_of_getElem? (i := 761) (by decide +kernel), by decide +kernel⟩
theorem zm728 : (Jvm.Cond.code ({ cls := "SluiceStream", name := "blockEnd", desc := "(I)I" } : Jvm.MethodName) prog_1_method_44_code (2 : Nat) (Option.some Jvm.ClassFile.FieldType.int)) ∈ zT := List.mem_filter.mpr ⟨List.mem_of_getElem? (i := 764) (by decide +kernel), by decide +kernel⟩
theorem zm726 : (Jvm.Cond.instanceMethod ({ cls := "SluiceStream", name := "blockEnd", desc := "(I)I" } : Jvm.MethodName)) ∈ zT := List.mem_filter.mpr ⟨List.mem_of_getElem? (i := 762) (by decide +kernel), by decide +kernel⟩
theorem zm727 : (Jvm.Cond.selects "SluiceStream" ({ cls := "SluiceStream", name := "blockEnd", desc := "(I)I" } : Jvm.MethodName) ({ cls := "SluiceStream", name := "blockEnd", desc := "(I)I" } : Jvm.MethodName)) ∈ zT := List.mem_filter.mpr ⟨List.mem_of_getElem? (i := 763) (by decide +kernel), by decide +kernel⟩
theorem zt_X_39a : ∀ x ∈ (vx_at0 "SluiceStream" 41 "java/lang/IllegalArgumentException" zNm).filter goodWord, x ∈ lw_tbl := by decide +kernel
theorem zt_X_39 : zTw "SluiceStream" 39 41 "java/lang/IllegalArgumentException" := ⟨zm382, zm11, fun x h => List.mem_filter.mpr ⟨zt_X_39a x h, (List.mem_filter.mp h).2⟩, by decide +kernel, by decide +kernel, by decide +kernel⟩
theorem zp_X_42_2 {K : zCx} {w : zWd} {cc : ByteArray} {n fr lo : Nat} {σ : zSt} {lv : List (Nat × Value)} {st : List Value} {pc : Nat} (O : zOk K w cc "SluiceStream" n fr lo) (hd : decode cc pc = .ok (.putfield 42, 3)) {v : Int32} (kk : Z K w (zuf σ 2 5 v) lv st (pc + 3)) : Z K w σ lv (.int v :: .ref (zq w 2) :: st) pc := z_putf O 2 (T := zF3) (N := 15) (fs := zo2 w σ) rfl rfl zin3 zY3 zYo3 zNm3 5 (Nat.le_of_ble_eq_true rfl) zm88 rfl rfl (ty := .int) rfl rfl rfl (Nat.le_of_ble_eq_true rfl) (σ' := zuf σ 2 5 v) rfl hd kk
theorem zt_X_46a : ∀ x ∈ (vx_at0 "SluiceStream" 48 "java/lang/IllegalStateException" zNm).filter goodWord, x ∈ lw_tbl := by decide +kernel
theorem zt_X_46 : zTw "SluiceStream" 46 48 "java/lang/IllegalStateException" := ⟨zm445, zm12, fun x h => List.mem_filter.mpr ⟨zt_X_46a x h, (List.mem_filter.mp h).2⟩, by decide +kernel, by decide +kernel, by decide +kernel⟩
theorem zl_L_7 : zLk "SluiceStreamLaw" 7 ({ cls := "SluiceStream", name := "write", desc := "(II)I" } : Jvm.MethodName) prog_1_method_2_code 5 (some .int) 2 := ⟨zm378, zm1, zm381, by decide +kernel⟩
theorem zg_X_63_2 {K : zCx} {w : zWd} {cc : ByteArray} {n fr lo : Nat} {σ : zSt} {lv : List (Nat × Value)} {st : List Value} {pc : Nat} (O : zOk K w cc "SluiceStream" n fr lo) (hd : decode cc pc = .ok (.getfield 63, 3)) {v : Value} (hv : (zo2 w σ)[9]? = some v) (kk : Z K w σ lv (v :: st) (pc + 3)) : Z K w σ lv (.ref (zq w 2) :: st) pc := z_getf O 2 (T := zF3) (N := 15) (fs := zo2 w σ) rfl rfl zin3 9 (Nat.le_of_ble_eq_true rfl) zm96 rfl hv hd kk
theorem zp_X_63_2 {K : zCx} {w : zWd} {cc : ByteArray} {n fr lo : Nat} {σ : zSt} {lv : List (Nat × Value)} {st : List Value} {pc : Nat} (O : zOk K w cc "SluiceStream" n fr lo) (hd : decode cc pc = .ok (.putfield 63, 3)) {v : Int32} (kk : Z K w (zuf σ 2 9 v) lv st (pc + 3)) : Z K w σ lv (.int v :: .ref (zq w 2) :: st) pc := z_putf O 2 (T := zF3) (N := 15) (fs := zo2 w σ) rfl rfl zin3 zY3 zYo3 zNm3 9 (Nat.le_of_ble_eq_true rfl) zm96 rfl rfl (ty := .int) rfl rfl rfl (Nat.le_of_ble_eq_true rfl) (σ' := zuf σ 2 9 v) rfl hd kk
theorem zl_L_17 : zLk "SluiceStreamLaw" 17 ({ cls := "SluiceStream", name := "setLimit", desc := "(I)I" } : Jvm.MethodName) prog_1_method_4_code 3 (some .int) 1 := ⟨zm463, zm1, zm466, by decide +kernel⟩
theorem zl_X_66 : zLk "SluiceStream" 66 ({ cls := "SluiceStream$Rows", name := "isFull", desc := "()Z" } : Jvm.MethodName) prog_4_method_3_code 1 (some .boolean) 0 := ⟨zm474, zm6, zm212, by decide +kernel⟩
theorem zl_X_69 : zLk "SluiceStream" 69 ({ cls := "SluiceStream$Sender", name := "sendInto", desc := "(LSluiceStream$Rows;)I" } : Jvm.MethodName) prog_5_method_3_code 5 (some .int) 1 := ⟨zm475, zm2, zm478, by decide +kernel⟩
theorem zl_L_21 : zLk "SluiceStreamLaw" 21 ({ cls := "SluiceStream", name := "send", desc := "()I" } : Jvm.MethodName) prog_1_method_5_code 1 (some .int) 0 := ⟨zm470, zm1, zm473, by decide +kernel⟩
theorem zl_X_73 : zLk "SluiceStream" 73 ({ cls := "SluiceStream$Sender", name := "passTicks", desc := "(I)I" } : Jvm.MethodName) prog_5_method_8_code 4 (some .int) 1 := ⟨zm523, zm2, zm526, by decide +kernel⟩
theorem zl_L_25 : zLk "SluiceStreamLaw" 25 ({ cls := "SluiceStream", name := "tick", desc := "(I)I" } : Jvm.MethodName) prog_1_method_6_code 2 (some .int) 1 := ⟨zm519, zm1, zm522, by decide +kernel⟩
theorem zl_X_77 : zLk "SluiceStream" 77 ({ cls := "SluiceStream$Rows", name := "holds", desc := "(I)Z" } : Jvm.MethodName) prog_4_method_2_code 2 (some .boolean) 1 := ⟨zm564, zm6, zm220, by decide +kernel⟩
theorem zl_X_84 : zLk "SluiceStream" 84 ({ cls := "SluiceStream$Rows", name := "cell", desc := "(II)I" } : Jvm.MethodName) prog_4_method_4_code 4 (some .int) 2 := ⟨zm580, zm6, zm583, by decide +kernel⟩
theorem zl_X_88 : zLk "SluiceStream" 88 ({ cls := "SluiceStream$Receiver", name := "takeBytes", desc := "(II)I" } : Jvm.MethodName) prog_3_method_3_code 4 (some .int) 2 := ⟨zm584, zm5, zm587, by decide +kernel⟩
theorem zl_X_91 : zLk "SluiceStream" 91 ({ cls := "SluiceStream$Rows", name := "remove", desc := "(I)V" } : Jvm.MethodName) prog_4_method_7_code 3 none 1 := ⟨zm593, zm6, zm216, by decide +kernel⟩
theorem zt_X_81a : ∀ x ∈ (vx_at0 "SluiceStream" 83 "java/lang/IndexOutOfBoundsException" zNm).filter goodWord, x ∈ lw_tbl := by decide +kernel
theorem zt_X_81 : zTw "SluiceStream" 81 83 "java/lang/IndexOutOfBoundsException" := ⟨zm565, zm14, fun x h => List.mem_filter.mpr ⟨zt_X_81a x h, (List.mem_filter.mp h).2⟩, by decide +kernel, by decide +kernel, by decide +kernel⟩
theorem zl_L_28 : zLk "SluiceStreamLaw" 28 ({ cls := "SluiceStream", name := "deliver", desc := "(I)I" } : Jvm.MethodName) prog_1_method_7_code 3 (some .int) 1 := ⟨zm560, zm1, zm563, by decide +kernel⟩
theorem zl_L_33 : zLk "SluiceStreamLaw" 33 ({ cls := "SluiceStream", name := "lose", desc := "(I)I" } : Jvm.MethodName) prog_1_method_8_code 3 (some .int) 1 := ⟨zm597, zm1, zm600, by decide +kernel⟩
theorem zl_X_95 : zLk "SluiceStream" 95 ({ cls := "SluiceStream$Rows", name := "addRow", desc := "()I" } : Jvm.MethodName) prog_4_method_6_code 1 (some .int) 0 := ⟨zm608, zm6, zm224, by decide +kernel⟩
theorem zl_X_99 : zLk "SluiceStream" 99 ({ cls := "SluiceStream$Rows", name := "setCell", desc := "(III)V" } : Jvm.MethodName) prog_4_method_5_code 5 none 3 := ⟨zm609, zm6, zm228, by decide +kernel⟩
theorem zl_L_36 : zLk "SluiceStreamLaw" 36 ({ cls := "SluiceStream", name := "duplicate", desc := "(I)I" } : Jvm.MethodName) prog_1_method_9_code 3 (some .int) 1 := ⟨zm604, zm1, zm607, by decide +kernel⟩
theorem zl_X_106 : zLk "SluiceStream" 106 ({ cls := "SluiceStream$Sender", name := "takeAck", desc := "(LSluiceStream$Rows;I)I" } : Jvm.MethodName) prog_5_method_11_code 7 (some .int) 2 := ⟨zm617, zm2, zm620, by decide +kernel⟩
theorem zl_L_39 : zLk "SluiceStreamLaw" 39 ({ cls := "SluiceStream", name := "deliverAck", desc := "(I)I" } : Jvm.MethodName) prog_1_method_10_code 3 (some .int) 1 := ⟨zm613, zm1, zm616, by decide +kernel⟩
theorem zl_L_42 : zLk "SluiceStreamLaw" 42 ({ cls := "SluiceStream", name := "loseAck", desc := "(I)I" } : Jvm.MethodName) prog_1_method_11_code 3 (some .int) 1 := ⟨zm657, zm1, zm660, by decide +kernel⟩
theorem zl_L_45 : zLk "SluiceStreamLaw" 45 ({ cls := "SluiceStream", name := "startOf", desc := "(I)I" } : Jvm.MethodName) prog_1_method_13_code 2 (some .int) 1 := ⟨zm664, zm1, zm667, by decide +kernel⟩
theorem zl_L_48 : zLk "SluiceStreamLaw" 48 ({ cls := "SluiceStream", name := "endOf", desc := "(I)I" } : Jvm.MethodName) prog_1_method_14_code 2 (some .int) 1 := ⟨zm671, zm1, zm674, by decide +kernel⟩
theorem zl_L_51 : zLk "SluiceStreamLaw" 51 ({ cls := "SluiceStream", name := "ackNumber", desc := "(I)I" } : Jvm.MethodName) prog_1_method_16_code 2 (some .int) 1 := ⟨zm678, zm1, zm681, by decide +kernel⟩
theorem zl_L_54 : zLk "SluiceStreamLaw" 54 ({ cls := "SluiceStream", name := "ackWindow", desc := "(I)I" } : Jvm.MethodName) prog_1_method_17_code 2 (some .int) 1 := ⟨zm685, zm1, zm688, by decide +kernel⟩
theorem zl_L_57 : zLk "SluiceStreamLaw" 57 ({ cls := "SluiceStream", name := "ackBlocks", desc := "(I)I" } : Jvm.MethodName) prog_1_method_18_code 2 (some .int) 1 := ⟨zm692, zm1, zm695, by decide +kernel⟩
theorem zl_L_60 : zLk "SluiceStreamLaw" 60 ({ cls := "SluiceStream", name := "ackBlock", desc := "(II)I" } : Jvm.MethodName) prog_1_method_19_code 3 (some .int) 2 := ⟨zm699, zm1, zm702, by decide +kernel⟩
theorem zg_X_134_2 {K : zCx} {w : zWd} {cc : ByteArray} {n fr lo : Nat} {σ : zSt} {lv : List (Nat × Value)} {st : List Value} {pc : Nat} (O : zOk K w cc "SluiceStream" n fr lo) (hd : decode cc pc = .ok (.getfield 134, 3)) {v : Value} (hv : (zo2 w σ)[0]? = some v) (kk : Z K w σ lv (v :: st) (pc + 3)) : Z K w σ lv (.ref (zq w 2) :: st) pc := z_getf O 2 (T := zF3) (N := 15) (fs := zo2 w σ) rfl rfl zin3 0 (Nat.le_of_ble_eq_true rfl) zm78 rfl hv hd kk
theorem zl_X_138 : zLk "SluiceStream" 138 ({ cls := "SluiceStream$Positions", name := "at", desc := "(I)I" } : Jvm.MethodName) prog_2_method_2_code 2 (some .int) 1 := ⟨zm710, zm3, zm248, by decide +kernel⟩
theorem zl_L_63 : zLk "SluiceStreamLaw" 63 ({ cls := "SluiceStream", name := "isMarked", desc := "(I)Z" } : Jvm.MethodName) prog_1_method_27_code 2 (some .boolean) 1 := ⟨zm706, zm1, zm709, by decide +kernel⟩
theorem zl_X_182 : zLk "SluiceStream" 182 ({ cls := "SluiceStream$Receiver", name := "startOfBlock", desc := "(I)I" } : Jvm.MethodName) prog_3_method_9_code 4 (some .int) 1 := ⟨zm718, zm5, zm721, by decide +kernel⟩
theorem zl_L_67 : zLk "SluiceStreamLaw" 67 ({ cls := "SluiceStream", name := "blockStart", desc := "(I)I" } : Jvm.MethodName) prog_1_method_43_code 2 (some .int) 1 := ⟨zm714, zm1, zm717, by decide +kernel⟩
theorem zl_X_185 : zLk "SluiceStream" 185 ({ cls := "SluiceStream$Receiver", name := "endOfRun", desc := "(I)I" } : Jvm.MethodName) prog_3_method_10_code 2 (some .int) 1 := ⟨zm729, zm5, zm252, by decide +kernel⟩
theorem zl_L_70 : zLk "SluiceStreamLaw" 70 ({ cls := "SluiceStream", name := "blockEnd", desc := "(I)I" } : Jvm.MethodName) prog_1_method_44_code 2 (some .int) 1 := ⟨zm725, zm1, zm728, by decide +kernel⟩
theorem zd_X_write_55 : decode prog_1_method_2_code 55 = .ok (.iload_n 3, 1) := by decide +kernel
theorem zd_X_write_56 : decode prog_1_method_2_code 56 = .ok (.iload_n 2, 1) := by decide +kernel
theorem zd_X_write_57 : decode prog_1_method_2_code 57 = .ok (.if_icmp .ge 49, 3) := by decide +kernel
theorem zd_X_write_60 : decode prog_1_method_2_code 60 = .ok (.aload_n 0, 1) := by decide +kernel
theorem zd_X_write_61 : decode prog_1_method_2_code 61 = .ok (.getfield 16, 3) := by decide +kernel
theorem zd_X_write_64 : decode prog_1_method_2_code 64 = .ok (.getfield 42, 3) := by decide +kernel
theorem zd_X_write_67 : decode prog_1_method_2_code 67 = .ok (.iload_n 3, 1) := by decide +kernel
theorem zd_X_write_68 : decode prog_1_method_2_code 68 = .ok (.iadd, 1) := by decide +kernel
theorem zd_X_write_69 : decode prog_1_method_2_code 69 = .ok (.istore 4, 2) := by decide +kernel
theorem zd_X_write_71 : decode prog_1_method_2_code 71 = .ok (.iload 4, 2) := by decide +kernel
theorem zd_X_write_73 : decode prog_1_method_2_code 73 = .ok (.ifCond .lt 27, 3) := by decide +kernel
theorem zd_X_write_100 : decode prog_1_method_2_code 100 = .ok (.iinc 3 1, 3) := by decide +kernel
theorem zd_X_write_103 : decode prog_1_method_2_code 103 = .ok (.goto (-48), 3) := by decide +kernel
theorem zd_X_write_76 : decode prog_1_method_2_code 76 = .ok (.iload 4, 2) := by decide +kernel
theorem zd_X_write_78 : decode prog_1_method_2_code 78 = .ok (.aload_n 0, 1) := by decide +kernel
theorem zd_X_write_79 : decode prog_1_method_2_code 79 = .ok (.getfield 9, 3) := by decide +kernel
theorem zd_X_write_82 : decode prog_1_method_2_code 82 = .ok (.arraylength, 1) := by decide +kernel
theorem zd_X_write_83 : decode prog_1_method_2_code 83 = .ok (.if_icmp .ge 17, 3) := by decide +kernel
theorem zd_X_write_86 : decode prog_1_method_2_code 86 = .ok (.aload_n 0, 1) := by decide +kernel
theorem zd_X_write_87 : decode prog_1_method_2_code 87 = .ok (.getfield 9, 3) := by decide +kernel
theorem zd_X_write_90 : decode prog_1_method_2_code 90 = .ok (.iload 4, 2) := by decide +kernel
theorem zd_X_write_92 : decode prog_1_method_2_code 92 = .ok (.iload_n 1, 1) := by decide +kernel
theorem zd_X_write_93 : decode prog_1_method_2_code 93 = .ok (.iload_n 3, 1) := by decide +kernel
theorem zd_X_write_94 : decode prog_1_method_2_code 94 = .ok (.iadd, 1) := by decide +kernel
theorem zd_X_write_95 : decode prog_1_method_2_code 95 = .ok (.sipush 256, 3) := by decide +kernel
theorem zd_X_write_98 : decode prog_1_method_2_code 98 = .ok (.irem, 1) := by decide +kernel
theorem zd_X_write_99 : decode prog_1_method_2_code 99 = .ok (.iastore, 1) := by decide +kernel
theorem zd_X_write_0 : decode prog_1_method_2_code 0 = .ok (.iload_n 1, 1) := by decide +kernel
theorem zd_X_write_1 : decode prog_1_method_2_code 1 = .ok (.ifCond .lt 21, 3) := by decide +kernel
theorem zd_X_write_22 : decode prog_1_method_2_code 22 = .ok (.new 39, 3) := by decide +kernel
theorem zd_X_write_25 : decode prog_1_method_2_code 25 = .ok (.dup, 1) := by decide +kernel
theorem zd_X_write_26 : decode prog_1_method_2_code 26 = .ok (.invokespecial 41, 3) := by decide +kernel
theorem zd_X_write_29 : decode prog_1_method_2_code 29 = .ok (.athrow, 1) := by decide +kernel
theorem zd_X_write_4 : decode prog_1_method_2_code 4 = .ok (.iload_n 1, 1) := by decide +kernel
theorem zd_X_write_5 : decode prog_1_method_2_code 5 = .ok (.sipush 256, 3) := by decide +kernel
theorem zd_X_write_8 : decode prog_1_method_2_code 8 = .ok (.if_icmp .ge 14, 3) := by decide +kernel
theorem zd_X_write_11 : decode prog_1_method_2_code 11 = .ok (.iload_n 2, 1) := by decide +kernel
theorem zd_X_write_12 : decode prog_1_method_2_code 12 = .ok (.iconst 1, 1) := by decide +kernel
theorem zd_X_write_13 : decode prog_1_method_2_code 13 = .ok (.if_icmp .lt 9, 3) := by decide +kernel
theorem zd_X_write_16 : decode prog_1_method_2_code 16 = .ok (.iload_n 2, 1) := by decide +kernel
theorem zd_X_write_17 : decode prog_1_method_2_code 17 = .ok (.bipush 100, 2) := by decide +kernel
theorem zd_X_write_19 : decode prog_1_method_2_code 19 = .ok (.if_icmp .le 11, 3) := by decide +kernel
theorem zd_X_write_30 : decode prog_1_method_2_code 30 = .ok (.aload_n 0, 1) := by decide +kernel
theorem zd_X_write_31 : decode prog_1_method_2_code 31 = .ok (.getfield 16, 3) := by decide +kernel
theorem zd_X_write_34 : decode prog_1_method_2_code 34 = .ok (.getfield 42, 3) := by decide +kernel
theorem zd_X_write_37 : decode prog_1_method_2_code 37 = .ok (.iload_n 2, 1) := by decide +kernel
theorem zd_X_write_38 : decode prog_1_method_2_code 38 = .ok (.iadd, 1) := by decide +kernel
theorem zd_X_write_39 : decode prog_1_method_2_code 39 = .ok (.sipush 600, 3) := by decide +kernel
theorem zd_X_write_42 : decode prog_1_method_2_code 42 = .ok (.if_icmp .le 11, 3) := by decide +kernel
theorem zd_X_write_53 : decode prog_1_method_2_code 53 = .ok (.iconst 0, 1) := by decide +kernel
theorem zd_X_write_54 : decode prog_1_method_2_code 54 = .ok (.istore_n 3, 1) := by decide +kernel
theorem zd_X_write_106 : decode prog_1_method_2_code 106 = .ok (.aload_n 0, 1) := by decide +kernel
theorem zd_X_write_107 : decode prog_1_method_2_code 107 = .ok (.getfield 16, 3) := by decide +kernel
theorem zd_X_write_110 : decode prog_1_method_2_code 110 = .ok (.dup, 1) := by decide +kernel
theorem zd_X_write_111 : decode prog_1_method_2_code 111 = .ok (.getfield 42, 3) := by decide +kernel
theorem zd_X_write_114 : decode prog_1_method_2_code 114 = .ok (.iload_n 2, 1) := by decide +kernel
theorem zd_X_write_115 : decode prog_1_method_2_code 115 = .ok (.iadd, 1) := by decide +kernel
theorem zd_X_write_116 : decode prog_1_method_2_code 116 = .ok (.putfield 42, 3) := by decide +kernel
theorem zd_X_write_119 : decode prog_1_method_2_code 119 = .ok (.aload_n 0, 1) := by decide +kernel
theorem zd_X_write_120 : decode prog_1_method_2_code 120 = .ok (.getfield 16, 3) := by decide +kernel
theorem zd_X_write_123 : decode prog_1_method_2_code 123 = .ok (.getfield 42, 3) := by decide +kernel
theorem zd_X_write_126 : decode prog_1_method_2_code 126 = .ok (.ireturn, 1) := by decide +kernel
theorem zd_X_write_45 : decode prog_1_method_2_code 45 = .ok (.new 46, 3) := by decide +kernel
theorem zd_X_write_48 : decode prog_1_method_2_code 48 = .ok (.dup, 1) := by decide +kernel
theorem zd_X_write_49 : decode prog_1_method_2_code 49 = .ok (.invokespecial 48, 3) := by decide +kernel
theorem zd_X_write_52 : decode prog_1_method_2_code 52 = .ok (.athrow, 1) := by decide +kernel
theorem zd_L_write_0 : decode method_3_code 0 = .ok (.aload_n 3, 1) := by decide +kernel
theorem zd_L_write_1 : decode method_3_code 1 = .ok (.iconst 0, 1) := by decide +kernel
theorem zd_L_write_2 : decode method_3_code 2 = .ok (.aload_n 0, 1) := by decide +kernel
theorem zd_L_write_3 : decode method_3_code 3 = .ok (.iload_n 1, 1) := by decide +kernel
theorem zd_L_write_4 : decode method_3_code 4 = .ok (.iload_n 2, 1) := by decide +kernel
theorem zd_L_write_5 : decode method_3_code 5 = .ok (.invokevirtual 7, 3) := by decide +kernel
theorem zd_L_write_13 : decode method_3_code 13 = .ok (.astore 4, 2) := by decide +kernel
theorem zd_L_write_15 : decode method_3_code 15 = .ok (.iconst 1, 1) := by decide +kernel
theorem zd_L_write_16 : decode method_3_code 16 = .ok (.ireturn, 1) := by decide +kernel
theorem zd_L_write_17 : decode method_3_code 17 = .ok (.astore 4, 2) := by decide +kernel
theorem zd_L_write_19 : decode method_3_code 19 = .ok (.iconst 2, 1) := by decide +kernel
theorem zd_L_write_20 : decode method_3_code 20 = .ok (.ireturn, 1) := by decide +kernel
theorem zd_L_write_8 : decode method_3_code 8 = .ok (.i2l, 1) := by decide +kernel
theorem zd_L_write_9 : decode method_3_code 9 = .ok (.lastore, 1) := by decide +kernel
theorem zd_L_write_10 : decode method_3_code 10 = .ok (.goto 11, 3) := by decide +kernel
theorem zd_L_write_21 : decode method_3_code 21 = .ok (.iconst 0, 1) := by decide +kernel
theorem zd_L_write_22 : decode method_3_code 22 = .ok (.ireturn, 1) := by decide +kernel
theorem zd_X_setLimit_0 : decode prog_1_method_4_code 0 = .ok (.iload_n 1, 1) := by decide +kernel
theorem zd_X_setLimit_1 : decode prog_1_method_4_code 1 = .ok (.iconst 4, 1) := by decide +kernel
theorem zd_X_setLimit_2 : decode prog_1_method_4_code 2 = .ok (.if_icmp .lt 10, 3) := by decide +kernel
theorem zd_X_setLimit_12 : decode prog_1_method_4_code 12 = .ok (.new 39, 3) := by decide +kernel
theorem zd_X_setLimit_15 : decode prog_1_method_4_code 15 = .ok (.dup, 1) := by decide +kernel
theorem zd_X_setLimit_16 : decode prog_1_method_4_code 16 = .ok (.invokespecial 41, 3) := by decide +kernel
theorem zd_X_setLimit_19 : decode prog_1_method_4_code 19 = .ok (.athrow, 1) := by decide +kernel
theorem zd_X_setLimit_5 : decode prog_1_method_4_code 5 = .ok (.iload_n 1, 1) := by decide +kernel
theorem zd_X_setLimit_6 : decode prog_1_method_4_code 6 = .ok (.sipush 256, 3) := by decide +kernel
theorem zd_X_setLimit_9 : decode prog_1_method_4_code 9 = .ok (.if_icmp .le 11, 3) := by decide +kernel
theorem zd_X_setLimit_20 : decode prog_1_method_4_code 20 = .ok (.aload_n 0, 1) := by decide +kernel
theorem zd_X_setLimit_21 : decode prog_1_method_4_code 21 = .ok (.getfield 16, 3) := by decide +kernel
theorem zd_X_setLimit_24 : decode prog_1_method_4_code 24 = .ok (.getfield 63, 3) := by decide +kernel
theorem zd_X_setLimit_27 : decode prog_1_method_4_code 27 = .ok (.istore_n 2, 1) := by decide +kernel
theorem zd_X_setLimit_28 : decode prog_1_method_4_code 28 = .ok (.aload_n 0, 1) := by decide +kernel
theorem zd_X_setLimit_29 : decode prog_1_method_4_code 29 = .ok (.getfield 16, 3) := by decide +kernel
theorem zd_X_setLimit_32 : decode prog_1_method_4_code 32 = .ok (.iload_n 1, 1) := by decide +kernel
theorem zd_X_setLimit_33 : decode prog_1_method_4_code 33 = .ok (.putfield 63, 3) := by decide +kernel
theorem zd_X_setLimit_36 : decode prog_1_method_4_code 36 = .ok (.iload_n 2, 1) := by decide +kernel
theorem zd_X_setLimit_37 : decode prog_1_method_4_code 37 = .ok (.ireturn, 1) := by decide +kernel
theorem zd_L_setLimit_0 : decode method_4_code 0 = .ok (.aload_n 2, 1) := by decide +kernel
theorem zd_L_setLimit_1 : decode method_4_code 1 = .ok (.iconst 0, 1) := by decide +kernel
theorem zd_L_setLimit_2 : decode method_4_code 2 = .ok (.aload_n 0, 1) := by decide +kernel
theorem zd_L_setLimit_3 : decode method_4_code 3 = .ok (.iload_n 1, 1) := by decide +kernel
theorem zd_L_setLimit_4 : decode method_4_code 4 = .ok (.invokevirtual 17, 3) := by decide +kernel
theorem zd_L_setLimit_12 : decode method_4_code 12 = .ok (.astore_n 3, 1) := by decide +kernel
theorem zd_L_setLimit_13 : decode method_4_code 13 = .ok (.iconst 1, 1) := by decide +kernel
theorem zd_L_setLimit_14 : decode method_4_code 14 = .ok (.ireturn, 1) := by decide +kernel
theorem zd_L_setLimit_7 : decode method_4_code 7 = .ok (.i2l, 1) := by decide +kernel
theorem zd_L_setLimit_8 : decode method_4_code 8 = .ok (.lastore, 1) := by decide +kernel
theorem zd_L_setLimit_9 : decode method_4_code 9 = .ok (.goto 6, 3) := by decide +kernel
theorem zd_L_setLimit_15 : decode method_4_code 15 = .ok (.iconst 0, 1) := by decide +kernel
theorem zd_L_setLimit_16 : decode method_4_code 16 = .ok (.ireturn, 1) := by decide +kernel
theorem zd_X_send_0 : decode prog_1_method_5_code 0 = .ok (.aload_n 0, 1) := by decide +kernel
theorem zd_X_send_1 : decode prog_1_method_5_code 1 = .ok (.getfield 32, 3) := by decide +kernel
theorem zd_X_send_4 : decode prog_1_method_5_code 4 = .ok (.invokevirtual 66, 3) := by decide +kernel
theorem zd_X_send_7 : decode prog_1_method_5_code 7 = .ok (.ifCond .eq 11, 3) := by decide +kernel
theorem zd_X_send_18 : decode prog_1_method_5_code 18 = .ok (.aload_n 0, 1) := by decide +kernel
theorem zd_X_send_19 : decode prog_1_method_5_code 19 = .ok (.getfield 16, 3) := by decide +kernel
theorem zd_X_send_22 : decode prog_1_method_5_code 22 = .ok (.aload_n 0, 1) := by decide +kernel
theorem zd_X_send_23 : decode prog_1_method_5_code 23 = .ok (.getfield 32, 3) := by decide +kernel
theorem zd_X_send_26 : decode prog_1_method_5_code 26 = .ok (.invokevirtual 69, 3) := by decide +kernel
theorem zd_X_send_29 : decode prog_1_method_5_code 29 = .ok (.ireturn, 1) := by decide +kernel
theorem zd_X_send_10 : decode prog_1_method_5_code 10 = .ok (.new 46, 3) := by decide +kernel
theorem zd_X_send_13 : decode prog_1_method_5_code 13 = .ok (.dup, 1) := by decide +kernel
theorem zd_X_send_14 : decode prog_1_method_5_code 14 = .ok (.invokespecial 48, 3) := by decide +kernel
theorem zd_X_send_17 : decode prog_1_method_5_code 17 = .ok (.athrow, 1) := by decide +kernel
theorem zd_L_send_0 : decode method_5_code 0 = .ok (.aload_n 1, 1) := by decide +kernel
theorem zd_L_send_1 : decode method_5_code 1 = .ok (.iconst 0, 1) := by decide +kernel
theorem zd_L_send_2 : decode method_5_code 2 = .ok (.aload_n 0, 1) := by decide +kernel
theorem zd_L_send_3 : decode method_5_code 3 = .ok (.invokevirtual 21, 3) := by decide +kernel
theorem zd_L_send_11 : decode method_5_code 11 = .ok (.astore_n 2, 1) := by decide +kernel
theorem zd_L_send_12 : decode method_5_code 12 = .ok (.iconst 1, 1) := by decide +kernel
theorem zd_L_send_13 : decode method_5_code 13 = .ok (.ireturn, 1) := by decide +kernel
theorem zd_L_send_6 : decode method_5_code 6 = .ok (.i2l, 1) := by decide +kernel
theorem zd_L_send_7 : decode method_5_code 7 = .ok (.lastore, 1) := by decide +kernel
theorem zd_L_send_8 : decode method_5_code 8 = .ok (.goto 6, 3) := by decide +kernel
theorem zd_L_send_14 : decode method_5_code 14 = .ok (.iconst 0, 1) := by decide +kernel
theorem zd_L_send_15 : decode method_5_code 15 = .ok (.ireturn, 1) := by decide +kernel
theorem zd_X_tick_0 : decode prog_1_method_6_code 0 = .ok (.iload_n 1, 1) := by decide +kernel
theorem zd_X_tick_1 : decode prog_1_method_6_code 1 = .ok (.iconst 1, 1) := by decide +kernel
theorem zd_X_tick_2 : decode prog_1_method_6_code 2 = .ok (.if_icmp .lt 9, 3) := by decide +kernel
theorem zd_X_tick_11 : decode prog_1_method_6_code 11 = .ok (.new 39, 3) := by decide +kernel
theorem zd_X_tick_14 : decode prog_1_method_6_code 14 = .ok (.dup, 1) := by decide +kernel
theorem zd_X_tick_15 : decode prog_1_method_6_code 15 = .ok (.invokespecial 41, 3) := by decide +kernel
theorem zd_X_tick_18 : decode prog_1_method_6_code 18 = .ok (.athrow, 1) := by decide +kernel
theorem zd_X_tick_5 : decode prog_1_method_6_code 5 = .ok (.iload_n 1, 1) := by decide +kernel
theorem zd_X_tick_6 : decode prog_1_method_6_code 6 = .ok (.bipush 100, 2) := by decide +kernel
theorem zd_X_tick_8 : decode prog_1_method_6_code 8 = .ok (.if_icmp .le 11, 3) := by decide +kernel
theorem zd_X_tick_19 : decode prog_1_method_6_code 19 = .ok (.aload_n 0, 1) := by decide +kernel
theorem zd_X_tick_20 : decode prog_1_method_6_code 20 = .ok (.getfield 16, 3) := by decide +kernel
theorem zd_X_tick_23 : decode prog_1_method_6_code 23 = .ok (.iload_n 1, 1) := by decide +kernel
theorem zd_X_tick_24 : decode prog_1_method_6_code 24 = .ok (.invokevirtual 73, 3) := by decide +kernel
theorem zd_X_tick_27 : decode prog_1_method_6_code 27 = .ok (.ireturn, 1) := by decide +kernel
theorem zd_L_tick_0 : decode method_6_code 0 = .ok (.aload_n 2, 1) := by decide +kernel
theorem zd_L_tick_1 : decode method_6_code 1 = .ok (.iconst 0, 1) := by decide +kernel
theorem zd_L_tick_2 : decode method_6_code 2 = .ok (.aload_n 0, 1) := by decide +kernel
theorem zd_L_tick_3 : decode method_6_code 3 = .ok (.iload_n 1, 1) := by decide +kernel
theorem zd_L_tick_4 : decode method_6_code 4 = .ok (.invokevirtual 25, 3) := by decide +kernel
theorem zd_L_tick_12 : decode method_6_code 12 = .ok (.astore_n 3, 1) := by decide +kernel
theorem zd_L_tick_13 : decode method_6_code 13 = .ok (.iconst 1, 1) := by decide +kernel
theorem zd_L_tick_14 : decode method_6_code 14 = .ok (.ireturn, 1) := by decide +kernel
theorem zd_L_tick_7 : decode method_6_code 7 = .ok (.i2l, 1) := by decide +kernel
theorem zd_L_tick_8 : decode method_6_code 8 = .ok (.lastore, 1) := by decide +kernel
theorem zd_L_tick_9 : decode method_6_code 9 = .ok (.goto 6, 3) := by decide +kernel
theorem zd_L_tick_15 : decode method_6_code 15 = .ok (.iconst 0, 1) := by decide +kernel
theorem zd_L_tick_16 : decode method_6_code 16 = .ok (.ireturn, 1) := by decide +kernel
theorem zd_X_deliver_0 : decode prog_1_method_7_code 0 = .ok (.aload_n 0, 1) := by decide +kernel
theorem zd_X_deliver_1 : decode prog_1_method_7_code 1 = .ok (.getfield 32, 3) := by decide +kernel
theorem zd_X_deliver_4 : decode prog_1_method_7_code 4 = .ok (.iload_n 1, 1) := by decide +kernel
theorem zd_X_deliver_5 : decode prog_1_method_7_code 5 = .ok (.invokevirtual 77, 3) := by decide +kernel
theorem zd_X_deliver_8 : decode prog_1_method_7_code 8 = .ok (.ifCond .ne 11, 3) := by decide +kernel
theorem zd_X_deliver_19 : decode prog_1_method_7_code 19 = .ok (.aload_n 0, 1) := by decide +kernel
theorem zd_X_deliver_20 : decode prog_1_method_7_code 20 = .ok (.getfield 23, 3) := by decide +kernel
theorem zd_X_deliver_23 : decode prog_1_method_7_code 23 = .ok (.aload_n 0, 1) := by decide +kernel
theorem zd_X_deliver_24 : decode prog_1_method_7_code 24 = .ok (.getfield 32, 3) := by decide +kernel
theorem zd_X_deliver_27 : decode prog_1_method_7_code 27 = .ok (.iload_n 1, 1) := by decide +kernel
theorem zd_X_deliver_28 : decode prog_1_method_7_code 28 = .ok (.iconst 0, 1) := by decide +kernel
theorem zd_X_deliver_29 : decode prog_1_method_7_code 29 = .ok (.invokevirtual 84, 3) := by decide +kernel
theorem zd_X_deliver_32 : decode prog_1_method_7_code 32 = .ok (.aload_n 0, 1) := by decide +kernel
theorem zd_X_deliver_33 : decode prog_1_method_7_code 33 = .ok (.getfield 32, 3) := by decide +kernel
theorem zd_X_deliver_36 : decode prog_1_method_7_code 36 = .ok (.iload_n 1, 1) := by decide +kernel
theorem zd_X_deliver_37 : decode prog_1_method_7_code 37 = .ok (.iconst 1, 1) := by decide +kernel
theorem zd_X_deliver_38 : decode prog_1_method_7_code 38 = .ok (.invokevirtual 84, 3) := by decide +kernel
theorem zd_X_deliver_41 : decode prog_1_method_7_code 41 = .ok (.invokevirtual 88, 3) := by decide +kernel
theorem zd_X_deliver_44 : decode prog_1_method_7_code 44 = .ok (.istore_n 2, 1) := by decide +kernel
theorem zd_X_deliver_45 : decode prog_1_method_7_code 45 = .ok (.aload_n 0, 1) := by decide +kernel
theorem zd_X_deliver_46 : decode prog_1_method_7_code 46 = .ok (.getfield 32, 3) := by decide +kernel
theorem zd_X_deliver_49 : decode prog_1_method_7_code 49 = .ok (.iload_n 1, 1) := by decide +kernel
theorem zd_X_deliver_50 : decode prog_1_method_7_code 50 = .ok (.invokevirtual 91, 3) := by decide +kernel
theorem zd_X_deliver_53 : decode prog_1_method_7_code 53 = .ok (.aload_n 0, 1) := by decide +kernel
theorem zd_X_deliver_54 : decode prog_1_method_7_code 54 = .ok (.getfield 23, 3) := by decide +kernel
theorem zd_X_deliver_57 : decode prog_1_method_7_code 57 = .ok (.aload_n 0, 1) := by decide +kernel
theorem zd_X_deliver_58 : decode prog_1_method_7_code 58 = .ok (.getfield 36, 3) := by decide +kernel
theorem zd_X_deliver_61 : decode prog_1_method_7_code 61 = .ok (.invokevirtual 59, 3) := by decide +kernel
theorem zd_X_deliver_64 : decode prog_1_method_7_code 64 = .ok (.iload_n 2, 1) := by decide +kernel
theorem zd_X_deliver_65 : decode prog_1_method_7_code 65 = .ok (.ireturn, 1) := by decide +kernel
theorem zd_X_deliver_11 : decode prog_1_method_7_code 11 = .ok (.new 81, 3) := by decide +kernel
theorem zd_X_deliver_14 : decode prog_1_method_7_code 14 = .ok (.dup, 1) := by decide +kernel
theorem zd_X_deliver_15 : decode prog_1_method_7_code 15 = .ok (.invokespecial 83, 3) := by decide +kernel
theorem zd_X_deliver_18 : decode prog_1_method_7_code 18 = .ok (.athrow, 1) := by decide +kernel
theorem zd_L_deliver_0 : decode method_7_code 0 = .ok (.aload_n 2, 1) := by decide +kernel
theorem zd_L_deliver_1 : decode method_7_code 1 = .ok (.iconst 0, 1) := by decide +kernel
theorem zd_L_deliver_2 : decode method_7_code 2 = .ok (.aload_n 0, 1) := by decide +kernel
theorem zd_L_deliver_3 : decode method_7_code 3 = .ok (.iload_n 1, 1) := by decide +kernel
theorem zd_L_deliver_4 : decode method_7_code 4 = .ok (.invokevirtual 28, 3) := by decide +kernel
theorem zd_L_deliver_12 : decode method_7_code 12 = .ok (.astore_n 3, 1) := by decide +kernel
theorem zd_L_deliver_13 : decode method_7_code 13 = .ok (.iconst 1, 1) := by decide +kernel
theorem zd_L_deliver_14 : decode method_7_code 14 = .ok (.ireturn, 1) := by decide +kernel
theorem zd_L_deliver_7 : decode method_7_code 7 = .ok (.i2l, 1) := by decide +kernel
theorem zd_L_deliver_8 : decode method_7_code 8 = .ok (.lastore, 1) := by decide +kernel
theorem zd_L_deliver_9 : decode method_7_code 9 = .ok (.goto 6, 3) := by decide +kernel
theorem zd_L_deliver_15 : decode method_7_code 15 = .ok (.iconst 0, 1) := by decide +kernel
theorem zd_L_deliver_16 : decode method_7_code 16 = .ok (.ireturn, 1) := by decide +kernel
theorem zd_X_lose_0 : decode prog_1_method_8_code 0 = .ok (.aload_n 0, 1) := by decide +kernel
theorem zd_X_lose_1 : decode prog_1_method_8_code 1 = .ok (.getfield 32, 3) := by decide +kernel
theorem zd_X_lose_4 : decode prog_1_method_8_code 4 = .ok (.iload_n 1, 1) := by decide +kernel
theorem zd_X_lose_5 : decode prog_1_method_8_code 5 = .ok (.invokevirtual 77, 3) := by decide +kernel
theorem zd_X_lose_8 : decode prog_1_method_8_code 8 = .ok (.ifCond .ne 11, 3) := by decide +kernel
theorem zd_X_lose_19 : decode prog_1_method_8_code 19 = .ok (.aload_n 0, 1) := by decide +kernel
theorem zd_X_lose_20 : decode prog_1_method_8_code 20 = .ok (.getfield 32, 3) := by decide +kernel
theorem zd_X_lose_23 : decode prog_1_method_8_code 23 = .ok (.iload_n 1, 1) := by decide +kernel
theorem zd_X_lose_24 : decode prog_1_method_8_code 24 = .ok (.iconst 0, 1) := by decide +kernel
theorem zd_X_lose_25 : decode prog_1_method_8_code 25 = .ok (.invokevirtual 84, 3) := by decide +kernel
theorem zd_X_lose_28 : decode prog_1_method_8_code 28 = .ok (.istore_n 2, 1) := by decide +kernel
theorem zd_X_lose_29 : decode prog_1_method_8_code 29 = .ok (.aload_n 0, 1) := by decide +kernel
theorem zd_X_lose_30 : decode prog_1_method_8_code 30 = .ok (.getfield 32, 3) := by decide +kernel
theorem zd_X_lose_33 : decode prog_1_method_8_code 33 = .ok (.iload_n 1, 1) := by decide +kernel
theorem zd_X_lose_34 : decode prog_1_method_8_code 34 = .ok (.invokevirtual 91, 3) := by decide +kernel
theorem zd_X_lose_37 : decode prog_1_method_8_code 37 = .ok (.iload_n 2, 1) := by decide +kernel
theorem zd_X_lose_38 : decode prog_1_method_8_code 38 = .ok (.ireturn, 1) := by decide +kernel
theorem zd_X_lose_11 : decode prog_1_method_8_code 11 = .ok (.new 81, 3) := by decide +kernel
theorem zd_X_lose_14 : decode prog_1_method_8_code 14 = .ok (.dup, 1) := by decide +kernel
theorem zd_X_lose_15 : decode prog_1_method_8_code 15 = .ok (.invokespecial 83, 3) := by decide +kernel
theorem zd_X_lose_18 : decode prog_1_method_8_code 18 = .ok (.athrow, 1) := by decide +kernel
theorem zd_L_lose_0 : decode method_8_code 0 = .ok (.aload_n 2, 1) := by decide +kernel
theorem zd_L_lose_1 : decode method_8_code 1 = .ok (.iconst 0, 1) := by decide +kernel
theorem zd_L_lose_2 : decode method_8_code 2 = .ok (.aload_n 0, 1) := by decide +kernel
theorem zd_L_lose_3 : decode method_8_code 3 = .ok (.iload_n 1, 1) := by decide +kernel
theorem zd_L_lose_4 : decode method_8_code 4 = .ok (.invokevirtual 33, 3) := by decide +kernel
theorem zd_L_lose_12 : decode method_8_code 12 = .ok (.astore_n 3, 1) := by decide +kernel
theorem zd_L_lose_13 : decode method_8_code 13 = .ok (.iconst 1, 1) := by decide +kernel
theorem zd_L_lose_14 : decode method_8_code 14 = .ok (.ireturn, 1) := by decide +kernel
theorem zd_L_lose_7 : decode method_8_code 7 = .ok (.i2l, 1) := by decide +kernel
theorem zd_L_lose_8 : decode method_8_code 8 = .ok (.lastore, 1) := by decide +kernel
theorem zd_L_lose_9 : decode method_8_code 9 = .ok (.goto 6, 3) := by decide +kernel
theorem zd_L_lose_15 : decode method_8_code 15 = .ok (.iconst 0, 1) := by decide +kernel
theorem zd_L_lose_16 : decode method_8_code 16 = .ok (.ireturn, 1) := by decide +kernel
theorem zd_X_duplicate_0 : decode prog_1_method_9_code 0 = .ok (.aload_n 0, 1) := by decide +kernel
theorem zd_X_duplicate_1 : decode prog_1_method_9_code 1 = .ok (.getfield 32, 3) := by decide +kernel
theorem zd_X_duplicate_4 : decode prog_1_method_9_code 4 = .ok (.iload_n 1, 1) := by decide +kernel
theorem zd_X_duplicate_5 : decode prog_1_method_9_code 5 = .ok (.invokevirtual 77, 3) := by decide +kernel
theorem zd_X_duplicate_8 : decode prog_1_method_9_code 8 = .ok (.ifCond .ne 11, 3) := by decide +kernel
theorem zd_X_duplicate_19 : decode prog_1_method_9_code 19 = .ok (.aload_n 0, 1) := by decide +kernel
theorem zd_X_duplicate_20 : decode prog_1_method_9_code 20 = .ok (.getfield 32, 3) := by decide +kernel
theorem zd_X_duplicate_23 : decode prog_1_method_9_code 23 = .ok (.invokevirtual 66, 3) := by decide +kernel
theorem zd_X_duplicate_26 : decode prog_1_method_9_code 26 = .ok (.ifCond .eq 11, 3) := by decide +kernel
theorem zd_X_duplicate_37 : decode prog_1_method_9_code 37 = .ok (.aload_n 0, 1) := by decide +kernel
theorem zd_X_duplicate_38 : decode prog_1_method_9_code 38 = .ok (.getfield 32, 3) := by decide +kernel
theorem zd_X_duplicate_41 : decode prog_1_method_9_code 41 = .ok (.invokevirtual 95, 3) := by decide +kernel
theorem zd_X_duplicate_44 : decode prog_1_method_9_code 44 = .ok (.istore_n 2, 1) := by decide +kernel
theorem zd_X_duplicate_45 : decode prog_1_method_9_code 45 = .ok (.aload_n 0, 1) := by decide +kernel
theorem zd_X_duplicate_46 : decode prog_1_method_9_code 46 = .ok (.getfield 32, 3) := by decide +kernel
theorem zd_X_duplicate_49 : decode prog_1_method_9_code 49 = .ok (.iload_n 2, 1) := by decide +kernel
theorem zd_X_duplicate_50 : decode prog_1_method_9_code 50 = .ok (.iconst 0, 1) := by decide +kernel
theorem zd_X_duplicate_51 : decode prog_1_method_9_code 51 = .ok (.aload_n 0, 1) := by decide +kernel
theorem zd_X_duplicate_52 : decode prog_1_method_9_code 52 = .ok (.getfield 32, 3) := by decide +kernel
theorem zd_X_duplicate_55 : decode prog_1_method_9_code 55 = .ok (.iload_n 1, 1) := by decide +kernel
theorem zd_X_duplicate_56 : decode prog_1_method_9_code 56 = .ok (.iconst 0, 1) := by decide +kernel
theorem zd_X_duplicate_57 : decode prog_1_method_9_code 57 = .ok (.invokevirtual 84, 3) := by decide +kernel
theorem zd_X_duplicate_60 : decode prog_1_method_9_code 60 = .ok (.invokevirtual 99, 3) := by decide +kernel
theorem zd_X_duplicate_63 : decode prog_1_method_9_code 63 = .ok (.aload_n 0, 1) := by decide +kernel
theorem zd_X_duplicate_64 : decode prog_1_method_9_code 64 = .ok (.getfield 32, 3) := by decide +kernel
theorem zd_X_duplicate_67 : decode prog_1_method_9_code 67 = .ok (.iload_n 2, 1) := by decide +kernel
theorem zd_X_duplicate_68 : decode prog_1_method_9_code 68 = .ok (.iconst 1, 1) := by decide +kernel
theorem zd_X_duplicate_69 : decode prog_1_method_9_code 69 = .ok (.aload_n 0, 1) := by decide +kernel
theorem zd_X_duplicate_70 : decode prog_1_method_9_code 70 = .ok (.getfield 32, 3) := by decide +kernel
theorem zd_X_duplicate_73 : decode prog_1_method_9_code 73 = .ok (.iload_n 1, 1) := by decide +kernel
theorem zd_X_duplicate_74 : decode prog_1_method_9_code 74 = .ok (.iconst 1, 1) := by decide +kernel
theorem zd_X_duplicate_75 : decode prog_1_method_9_code 75 = .ok (.invokevirtual 84, 3) := by decide +kernel
theorem zd_X_duplicate_78 : decode prog_1_method_9_code 78 = .ok (.invokevirtual 99, 3) := by decide +kernel
theorem zd_X_duplicate_81 : decode prog_1_method_9_code 81 = .ok (.aload_n 0, 1) := by decide +kernel
theorem zd_X_duplicate_82 : decode prog_1_method_9_code 82 = .ok (.getfield 32, 3) := by decide +kernel
theorem zd_X_duplicate_85 : decode prog_1_method_9_code 85 = .ok (.getfield 103, 3) := by decide +kernel
theorem zd_X_duplicate_88 : decode prog_1_method_9_code 88 = .ok (.ireturn, 1) := by decide +kernel
theorem zd_X_duplicate_29 : decode prog_1_method_9_code 29 = .ok (.new 46, 3) := by decide +kernel
theorem zd_X_duplicate_32 : decode prog_1_method_9_code 32 = .ok (.dup, 1) := by decide +kernel
theorem zd_X_duplicate_33 : decode prog_1_method_9_code 33 = .ok (.invokespecial 48, 3) := by decide +kernel
theorem zd_X_duplicate_36 : decode prog_1_method_9_code 36 = .ok (.athrow, 1) := by decide +kernel
theorem zd_X_duplicate_11 : decode prog_1_method_9_code 11 = .ok (.new 81, 3) := by decide +kernel
theorem zd_X_duplicate_14 : decode prog_1_method_9_code 14 = .ok (.dup, 1) := by decide +kernel
theorem zd_X_duplicate_15 : decode prog_1_method_9_code 15 = .ok (.invokespecial 83, 3) := by decide +kernel
theorem zd_X_duplicate_18 : decode prog_1_method_9_code 18 = .ok (.athrow, 1) := by decide +kernel
theorem zd_L_duplicate_0 : decode method_9_code 0 = .ok (.aload_n 2, 1) := by decide +kernel
theorem zd_L_duplicate_1 : decode method_9_code 1 = .ok (.iconst 0, 1) := by decide +kernel
theorem zd_L_duplicate_2 : decode method_9_code 2 = .ok (.aload_n 0, 1) := by decide +kernel
theorem zd_L_duplicate_3 : decode method_9_code 3 = .ok (.iload_n 1, 1) := by decide +kernel
theorem zd_L_duplicate_4 : decode method_9_code 4 = .ok (.invokevirtual 36, 3) := by decide +kernel
theorem zd_L_duplicate_12 : decode method_9_code 12 = .ok (.astore_n 3, 1) := by decide +kernel
theorem zd_L_duplicate_13 : decode method_9_code 13 = .ok (.iconst 1, 1) := by decide +kernel
theorem zd_L_duplicate_14 : decode method_9_code 14 = .ok (.ireturn, 1) := by decide +kernel
theorem zd_L_duplicate_15 : decode method_9_code 15 = .ok (.astore_n 3, 1) := by decide +kernel
theorem zd_L_duplicate_16 : decode method_9_code 16 = .ok (.iconst 2, 1) := by decide +kernel
theorem zd_L_duplicate_17 : decode method_9_code 17 = .ok (.ireturn, 1) := by decide +kernel
theorem zd_L_duplicate_7 : decode method_9_code 7 = .ok (.i2l, 1) := by decide +kernel
theorem zd_L_duplicate_8 : decode method_9_code 8 = .ok (.lastore, 1) := by decide +kernel
theorem zd_L_duplicate_9 : decode method_9_code 9 = .ok (.goto 9, 3) := by decide +kernel
theorem zd_L_duplicate_18 : decode method_9_code 18 = .ok (.iconst 0, 1) := by decide +kernel
theorem zd_L_duplicate_19 : decode method_9_code 19 = .ok (.ireturn, 1) := by decide +kernel
theorem zd_X_deliverAck_0 : decode prog_1_method_10_code 0 = .ok (.aload_n 0, 1) := by decide +kernel
theorem zd_X_deliverAck_1 : decode prog_1_method_10_code 1 = .ok (.getfield 36, 3) := by decide +kernel
theorem zd_X_deliverAck_4 : decode prog_1_method_10_code 4 = .ok (.iload_n 1, 1) := by decide +kernel
theorem zd_X_deliverAck_5 : decode prog_1_method_10_code 5 = .ok (.invokevirtual 77, 3) := by decide +kernel
theorem zd_X_deliverAck_8 : decode prog_1_method_10_code 8 = .ok (.ifCond .ne 11, 3) := by decide +kernel
theorem zd_X_deliverAck_19 : decode prog_1_method_10_code 19 = .ok (.aload_n 0, 1) := by decide +kernel
theorem zd_X_deliverAck_20 : decode prog_1_method_10_code 20 = .ok (.getfield 16, 3) := by decide +kernel
theorem zd_X_deliverAck_23 : decode prog_1_method_10_code 23 = .ok (.aload_n 0, 1) := by decide +kernel
theorem zd_X_deliverAck_24 : decode prog_1_method_10_code 24 = .ok (.getfield 36, 3) := by decide +kernel
theorem zd_X_deliverAck_27 : decode prog_1_method_10_code 27 = .ok (.iload_n 1, 1) := by decide +kernel
theorem zd_X_deliverAck_28 : decode prog_1_method_10_code 28 = .ok (.invokevirtual 106, 3) := by decide +kernel
theorem zd_X_deliverAck_31 : decode prog_1_method_10_code 31 = .ok (.istore_n 2, 1) := by decide +kernel
theorem zd_X_deliverAck_32 : decode prog_1_method_10_code 32 = .ok (.aload_n 0, 1) := by decide +kernel
theorem zd_X_deliverAck_33 : decode prog_1_method_10_code 33 = .ok (.getfield 36, 3) := by decide +kernel
theorem zd_X_deliverAck_36 : decode prog_1_method_10_code 36 = .ok (.iload_n 1, 1) := by decide +kernel
theorem zd_X_deliverAck_37 : decode prog_1_method_10_code 37 = .ok (.invokevirtual 91, 3) := by decide +kernel
theorem zd_X_deliverAck_40 : decode prog_1_method_10_code 40 = .ok (.iload_n 2, 1) := by decide +kernel
theorem zd_X_deliverAck_41 : decode prog_1_method_10_code 41 = .ok (.ireturn, 1) := by decide +kernel
theorem zd_X_deliverAck_11 : decode prog_1_method_10_code 11 = .ok (.new 81, 3) := by decide +kernel
theorem zd_X_deliverAck_14 : decode prog_1_method_10_code 14 = .ok (.dup, 1) := by decide +kernel
theorem zd_X_deliverAck_15 : decode prog_1_method_10_code 15 = .ok (.invokespecial 83, 3) := by decide +kernel
theorem zd_X_deliverAck_18 : decode prog_1_method_10_code 18 = .ok (.athrow, 1) := by decide +kernel
theorem zd_L_deliverAck_0 : decode method_10_code 0 = .ok (.aload_n 2, 1) := by decide +kernel
theorem zd_L_deliverAck_1 : decode method_10_code 1 = .ok (.iconst 0, 1) := by decide +kernel
theorem zd_L_deliverAck_2 : decode method_10_code 2 = .ok (.aload_n 0, 1) := by decide +kernel
theorem zd_L_deliverAck_3 : decode method_10_code 3 = .ok (.iload_n 1, 1) := by decide +kernel
theorem zd_L_deliverAck_4 : decode method_10_code 4 = .ok (.invokevirtual 39, 3) := by decide +kernel
theorem zd_L_deliverAck_12 : decode method_10_code 12 = .ok (.astore_n 3, 1) := by decide +kernel
theorem zd_L_deliverAck_13 : decode method_10_code 13 = .ok (.iconst 1, 1) := by decide +kernel
theorem zd_L_deliverAck_14 : decode method_10_code 14 = .ok (.ireturn, 1) := by decide +kernel
theorem zd_L_deliverAck_7 : decode method_10_code 7 = .ok (.i2l, 1) := by decide +kernel
theorem zd_L_deliverAck_8 : decode method_10_code 8 = .ok (.lastore, 1) := by decide +kernel
theorem zd_L_deliverAck_9 : decode method_10_code 9 = .ok (.goto 6, 3) := by decide +kernel
theorem zd_L_deliverAck_15 : decode method_10_code 15 = .ok (.iconst 0, 1) := by decide +kernel
theorem zd_L_deliverAck_16 : decode method_10_code 16 = .ok (.ireturn, 1) := by decide +kernel
theorem zd_X_loseAck_0 : decode prog_1_method_11_code 0 = .ok (.aload_n 0, 1) := by decide +kernel
theorem zd_X_loseAck_1 : decode prog_1_method_11_code 1 = .ok (.getfield 36, 3) := by decide +kernel
theorem zd_X_loseAck_4 : decode prog_1_method_11_code 4 = .ok (.iload_n 1, 1) := by decide +kernel
theorem zd_X_loseAck_5 : decode prog_1_method_11_code 5 = .ok (.invokevirtual 77, 3) := by decide +kernel
theorem zd_X_loseAck_8 : decode prog_1_method_11_code 8 = .ok (.ifCond .ne 11, 3) := by decide +kernel
theorem zd_X_loseAck_19 : decode prog_1_method_11_code 19 = .ok (.aload_n 0, 1) := by decide +kernel
theorem zd_X_loseAck_20 : decode prog_1_method_11_code 20 = .ok (.getfield 36, 3) := by decide +kernel
theorem zd_X_loseAck_23 : decode prog_1_method_11_code 23 = .ok (.iload_n 1, 1) := by decide +kernel
theorem zd_X_loseAck_24 : decode prog_1_method_11_code 24 = .ok (.iconst 0, 1) := by decide +kernel
theorem zd_X_loseAck_25 : decode prog_1_method_11_code 25 = .ok (.invokevirtual 84, 3) := by decide +kernel
theorem zd_X_loseAck_28 : decode prog_1_method_11_code 28 = .ok (.istore_n 2, 1) := by decide +kernel
theorem zd_X_loseAck_29 : decode prog_1_method_11_code 29 = .ok (.aload_n 0, 1) := by decide +kernel
theorem zd_X_loseAck_30 : decode prog_1_method_11_code 30 = .ok (.getfield 36, 3) := by decide +kernel
theorem zd_X_loseAck_33 : decode prog_1_method_11_code 33 = .ok (.iload_n 1, 1) := by decide +kernel
theorem zd_X_loseAck_34 : decode prog_1_method_11_code 34 = .ok (.invokevirtual 91, 3) := by decide +kernel
theorem zd_X_loseAck_37 : decode prog_1_method_11_code 37 = .ok (.iload_n 2, 1) := by decide +kernel
theorem zd_X_loseAck_38 : decode prog_1_method_11_code 38 = .ok (.ireturn, 1) := by decide +kernel
theorem zd_X_loseAck_11 : decode prog_1_method_11_code 11 = .ok (.new 81, 3) := by decide +kernel
theorem zd_X_loseAck_14 : decode prog_1_method_11_code 14 = .ok (.dup, 1) := by decide +kernel
theorem zd_X_loseAck_15 : decode prog_1_method_11_code 15 = .ok (.invokespecial 83, 3) := by decide +kernel
theorem zd_X_loseAck_18 : decode prog_1_method_11_code 18 = .ok (.athrow, 1) := by decide +kernel
theorem zd_L_loseAck_0 : decode method_11_code 0 = .ok (.aload_n 2, 1) := by decide +kernel
theorem zd_L_loseAck_1 : decode method_11_code 1 = .ok (.iconst 0, 1) := by decide +kernel
theorem zd_L_loseAck_2 : decode method_11_code 2 = .ok (.aload_n 0, 1) := by decide +kernel
theorem zd_L_loseAck_3 : decode method_11_code 3 = .ok (.iload_n 1, 1) := by decide +kernel
theorem zd_L_loseAck_4 : decode method_11_code 4 = .ok (.invokevirtual 42, 3) := by decide +kernel
theorem zd_L_loseAck_12 : decode method_11_code 12 = .ok (.astore_n 3, 1) := by decide +kernel
theorem zd_L_loseAck_13 : decode method_11_code 13 = .ok (.iconst 1, 1) := by decide +kernel
theorem zd_L_loseAck_14 : decode method_11_code 14 = .ok (.ireturn, 1) := by decide +kernel
theorem zd_L_loseAck_7 : decode method_11_code 7 = .ok (.i2l, 1) := by decide +kernel
theorem zd_L_loseAck_8 : decode method_11_code 8 = .ok (.lastore, 1) := by decide +kernel
theorem zd_L_loseAck_9 : decode method_11_code 9 = .ok (.goto 6, 3) := by decide +kernel
theorem zd_L_loseAck_15 : decode method_11_code 15 = .ok (.iconst 0, 1) := by decide +kernel
theorem zd_L_loseAck_16 : decode method_11_code 16 = .ok (.ireturn, 1) := by decide +kernel
theorem zd_X_startOf_0 : decode prog_1_method_13_code 0 = .ok (.aload_n 0, 1) := by decide +kernel
theorem zd_X_startOf_1 : decode prog_1_method_13_code 1 = .ok (.getfield 32, 3) := by decide +kernel
theorem zd_X_startOf_4 : decode prog_1_method_13_code 4 = .ok (.iload_n 1, 1) := by decide +kernel
theorem zd_X_startOf_5 : decode prog_1_method_13_code 5 = .ok (.invokevirtual 77, 3) := by decide +kernel
theorem zd_X_startOf_8 : decode prog_1_method_13_code 8 = .ok (.ifCond .ne 11, 3) := by decide +kernel
theorem zd_X_startOf_19 : decode prog_1_method_13_code 19 = .ok (.aload_n 0, 1) := by decide +kernel
theorem zd_X_startOf_20 : decode prog_1_method_13_code 20 = .ok (.getfield 32, 3) := by decide +kernel
theorem zd_X_startOf_23 : decode prog_1_method_13_code 23 = .ok (.iload_n 1, 1) := by decide +kernel
theorem zd_X_startOf_24 : decode prog_1_method_13_code 24 = .ok (.iconst 0, 1) := by decide +kernel
theorem zd_X_startOf_25 : decode prog_1_method_13_code 25 = .ok (.invokevirtual 84, 3) := by decide +kernel
theorem zd_X_startOf_28 : decode prog_1_method_13_code 28 = .ok (.ireturn, 1) := by decide +kernel
theorem zd_X_startOf_11 : decode prog_1_method_13_code 11 = .ok (.new 81, 3) := by decide +kernel
theorem zd_X_startOf_14 : decode prog_1_method_13_code 14 = .ok (.dup, 1) := by decide +kernel
theorem zd_X_startOf_15 : decode prog_1_method_13_code 15 = .ok (.invokespecial 83, 3) := by decide +kernel
theorem zd_X_startOf_18 : decode prog_1_method_13_code 18 = .ok (.athrow, 1) := by decide +kernel
theorem zd_L_startOf_0 : decode method_12_code 0 = .ok (.aload_n 2, 1) := by decide +kernel
theorem zd_L_startOf_1 : decode method_12_code 1 = .ok (.iconst 0, 1) := by decide +kernel
theorem zd_L_startOf_2 : decode method_12_code 2 = .ok (.aload_n 0, 1) := by decide +kernel
theorem zd_L_startOf_3 : decode method_12_code 3 = .ok (.iload_n 1, 1) := by decide +kernel
theorem zd_L_startOf_4 : decode method_12_code 4 = .ok (.invokevirtual 45, 3) := by decide +kernel
theorem zd_L_startOf_12 : decode method_12_code 12 = .ok (.astore_n 3, 1) := by decide +kernel
theorem zd_L_startOf_13 : decode method_12_code 13 = .ok (.iconst 1, 1) := by decide +kernel
theorem zd_L_startOf_14 : decode method_12_code 14 = .ok (.ireturn, 1) := by decide +kernel
theorem zd_L_startOf_7 : decode method_12_code 7 = .ok (.i2l, 1) := by decide +kernel
theorem zd_L_startOf_8 : decode method_12_code 8 = .ok (.lastore, 1) := by decide +kernel
theorem zd_L_startOf_9 : decode method_12_code 9 = .ok (.goto 6, 3) := by decide +kernel
theorem zd_L_startOf_15 : decode method_12_code 15 = .ok (.iconst 0, 1) := by decide +kernel
theorem zd_L_startOf_16 : decode method_12_code 16 = .ok (.ireturn, 1) := by decide +kernel
theorem zd_X_endOf_0 : decode prog_1_method_14_code 0 = .ok (.aload_n 0, 1) := by decide +kernel
theorem zd_X_endOf_1 : decode prog_1_method_14_code 1 = .ok (.getfield 32, 3) := by decide +kernel
theorem zd_X_endOf_4 : decode prog_1_method_14_code 4 = .ok (.iload_n 1, 1) := by decide +kernel
theorem zd_X_endOf_5 : decode prog_1_method_14_code 5 = .ok (.invokevirtual 77, 3) := by decide +kernel
theorem zd_X_endOf_8 : decode prog_1_method_14_code 8 = .ok (.ifCond .ne 11, 3) := by decide +kernel
theorem zd_X_endOf_19 : decode prog_1_method_14_code 19 = .ok (.aload_n 0, 1) := by decide +kernel
theorem zd_X_endOf_20 : decode prog_1_method_14_code 20 = .ok (.getfield 32, 3) := by decide +kernel
theorem zd_X_endOf_23 : decode prog_1_method_14_code 23 = .ok (.iload_n 1, 1) := by decide +kernel
theorem zd_X_endOf_24 : decode prog_1_method_14_code 24 = .ok (.iconst 1, 1) := by decide +kernel
theorem zd_X_endOf_25 : decode prog_1_method_14_code 25 = .ok (.invokevirtual 84, 3) := by decide +kernel
theorem zd_X_endOf_28 : decode prog_1_method_14_code 28 = .ok (.ireturn, 1) := by decide +kernel
theorem zd_X_endOf_11 : decode prog_1_method_14_code 11 = .ok (.new 81, 3) := by decide +kernel
theorem zd_X_endOf_14 : decode prog_1_method_14_code 14 = .ok (.dup, 1) := by decide +kernel
theorem zd_X_endOf_15 : decode prog_1_method_14_code 15 = .ok (.invokespecial 83, 3) := by decide +kernel
theorem zd_X_endOf_18 : decode prog_1_method_14_code 18 = .ok (.athrow, 1) := by decide +kernel
theorem zd_L_endOf_0 : decode method_13_code 0 = .ok (.aload_n 2, 1) := by decide +kernel
theorem zd_L_endOf_1 : decode method_13_code 1 = .ok (.iconst 0, 1) := by decide +kernel
theorem zd_L_endOf_2 : decode method_13_code 2 = .ok (.aload_n 0, 1) := by decide +kernel
theorem zd_L_endOf_3 : decode method_13_code 3 = .ok (.iload_n 1, 1) := by decide +kernel
theorem zd_L_endOf_4 : decode method_13_code 4 = .ok (.invokevirtual 48, 3) := by decide +kernel
theorem zd_L_endOf_12 : decode method_13_code 12 = .ok (.astore_n 3, 1) := by decide +kernel
theorem zd_L_endOf_13 : decode method_13_code 13 = .ok (.iconst 1, 1) := by decide +kernel
theorem zd_L_endOf_14 : decode method_13_code 14 = .ok (.ireturn, 1) := by decide +kernel
theorem zd_L_endOf_7 : decode method_13_code 7 = .ok (.i2l, 1) := by decide +kernel
theorem zd_L_endOf_8 : decode method_13_code 8 = .ok (.lastore, 1) := by decide +kernel
theorem zd_L_endOf_9 : decode method_13_code 9 = .ok (.goto 6, 3) := by decide +kernel
theorem zd_L_endOf_15 : decode method_13_code 15 = .ok (.iconst 0, 1) := by decide +kernel
theorem zd_L_endOf_16 : decode method_13_code 16 = .ok (.ireturn, 1) := by decide +kernel
theorem zd_X_ackNumber_0 : decode prog_1_method_16_code 0 = .ok (.aload_n 0, 1) := by decide +kernel
theorem zd_X_ackNumber_1 : decode prog_1_method_16_code 1 = .ok (.getfield 36, 3) := by decide +kernel
theorem zd_X_ackNumber_4 : decode prog_1_method_16_code 4 = .ok (.iload_n 1, 1) := by decide +kernel
theorem zd_X_ackNumber_5 : decode prog_1_method_16_code 5 = .ok (.invokevirtual 77, 3) := by decide +kernel
theorem zd_X_ackNumber_8 : decode prog_1_method_16_code 8 = .ok (.ifCond .ne 11, 3) := by decide +kernel
theorem zd_X_ackNumber_19 : decode prog_1_method_16_code 19 = .ok (.aload_n 0, 1) := by decide +kernel
theorem zd_X_ackNumber_20 : decode prog_1_method_16_code 20 = .ok (.getfield 36, 3) := by decide +kernel
theorem zd_X_ackNumber_23 : decode prog_1_method_16_code 23 = .ok (.iload_n 1, 1) := by decide +kernel
theorem zd_X_ackNumber_24 : decode prog_1_method_16_code 24 = .ok (.iconst 0, 1) := by decide +kernel
theorem zd_X_ackNumber_25 : decode prog_1_method_16_code 25 = .ok (.invokevirtual 84, 3) := by decide +kernel
theorem zd_X_ackNumber_28 : decode prog_1_method_16_code 28 = .ok (.ireturn, 1) := by decide +kernel
theorem zd_X_ackNumber_11 : decode prog_1_method_16_code 11 = .ok (.new 81, 3) := by decide +kernel
theorem zd_X_ackNumber_14 : decode prog_1_method_16_code 14 = .ok (.dup, 1) := by decide +kernel
theorem zd_X_ackNumber_15 : decode prog_1_method_16_code 15 = .ok (.invokespecial 83, 3) := by decide +kernel
theorem zd_X_ackNumber_18 : decode prog_1_method_16_code 18 = .ok (.athrow, 1) := by decide +kernel
theorem zd_L_ackNumber_0 : decode method_14_code 0 = .ok (.aload_n 2, 1) := by decide +kernel
theorem zd_L_ackNumber_1 : decode method_14_code 1 = .ok (.iconst 0, 1) := by decide +kernel
theorem zd_L_ackNumber_2 : decode method_14_code 2 = .ok (.aload_n 0, 1) := by decide +kernel
theorem zd_L_ackNumber_3 : decode method_14_code 3 = .ok (.iload_n 1, 1) := by decide +kernel
theorem zd_L_ackNumber_4 : decode method_14_code 4 = .ok (.invokevirtual 51, 3) := by decide +kernel
theorem zd_L_ackNumber_12 : decode method_14_code 12 = .ok (.astore_n 3, 1) := by decide +kernel
theorem zd_L_ackNumber_13 : decode method_14_code 13 = .ok (.iconst 1, 1) := by decide +kernel
theorem zd_L_ackNumber_14 : decode method_14_code 14 = .ok (.ireturn, 1) := by decide +kernel
theorem zd_L_ackNumber_7 : decode method_14_code 7 = .ok (.i2l, 1) := by decide +kernel
theorem zd_L_ackNumber_8 : decode method_14_code 8 = .ok (.lastore, 1) := by decide +kernel
theorem zd_L_ackNumber_9 : decode method_14_code 9 = .ok (.goto 6, 3) := by decide +kernel
theorem zd_L_ackNumber_15 : decode method_14_code 15 = .ok (.iconst 0, 1) := by decide +kernel
theorem zd_L_ackNumber_16 : decode method_14_code 16 = .ok (.ireturn, 1) := by decide +kernel
theorem zd_X_ackWindow_0 : decode prog_1_method_17_code 0 = .ok (.aload_n 0, 1) := by decide +kernel
theorem zd_X_ackWindow_1 : decode prog_1_method_17_code 1 = .ok (.getfield 36, 3) := by decide +kernel
theorem zd_X_ackWindow_4 : decode prog_1_method_17_code 4 = .ok (.iload_n 1, 1) := by decide +kernel
theorem zd_X_ackWindow_5 : decode prog_1_method_17_code 5 = .ok (.invokevirtual 77, 3) := by decide +kernel
theorem zd_X_ackWindow_8 : decode prog_1_method_17_code 8 = .ok (.ifCond .ne 11, 3) := by decide +kernel
theorem zd_X_ackWindow_19 : decode prog_1_method_17_code 19 = .ok (.aload_n 0, 1) := by decide +kernel
theorem zd_X_ackWindow_20 : decode prog_1_method_17_code 20 = .ok (.getfield 36, 3) := by decide +kernel
theorem zd_X_ackWindow_23 : decode prog_1_method_17_code 23 = .ok (.iload_n 1, 1) := by decide +kernel
theorem zd_X_ackWindow_24 : decode prog_1_method_17_code 24 = .ok (.iconst 1, 1) := by decide +kernel
theorem zd_X_ackWindow_25 : decode prog_1_method_17_code 25 = .ok (.invokevirtual 84, 3) := by decide +kernel
theorem zd_X_ackWindow_28 : decode prog_1_method_17_code 28 = .ok (.ireturn, 1) := by decide +kernel
theorem zd_X_ackWindow_11 : decode prog_1_method_17_code 11 = .ok (.new 81, 3) := by decide +kernel
theorem zd_X_ackWindow_14 : decode prog_1_method_17_code 14 = .ok (.dup, 1) := by decide +kernel
theorem zd_X_ackWindow_15 : decode prog_1_method_17_code 15 = .ok (.invokespecial 83, 3) := by decide +kernel
theorem zd_X_ackWindow_18 : decode prog_1_method_17_code 18 = .ok (.athrow, 1) := by decide +kernel
theorem zd_L_ackWindow_0 : decode method_15_code 0 = .ok (.aload_n 2, 1) := by decide +kernel
theorem zd_L_ackWindow_1 : decode method_15_code 1 = .ok (.iconst 0, 1) := by decide +kernel
theorem zd_L_ackWindow_2 : decode method_15_code 2 = .ok (.aload_n 0, 1) := by decide +kernel
theorem zd_L_ackWindow_3 : decode method_15_code 3 = .ok (.iload_n 1, 1) := by decide +kernel
theorem zd_L_ackWindow_4 : decode method_15_code 4 = .ok (.invokevirtual 54, 3) := by decide +kernel
theorem zd_L_ackWindow_12 : decode method_15_code 12 = .ok (.astore_n 3, 1) := by decide +kernel
theorem zd_L_ackWindow_13 : decode method_15_code 13 = .ok (.iconst 1, 1) := by decide +kernel
theorem zd_L_ackWindow_14 : decode method_15_code 14 = .ok (.ireturn, 1) := by decide +kernel
theorem zd_L_ackWindow_7 : decode method_15_code 7 = .ok (.i2l, 1) := by decide +kernel
theorem zd_L_ackWindow_8 : decode method_15_code 8 = .ok (.lastore, 1) := by decide +kernel
theorem zd_L_ackWindow_9 : decode method_15_code 9 = .ok (.goto 6, 3) := by decide +kernel
theorem zd_L_ackWindow_15 : decode method_15_code 15 = .ok (.iconst 0, 1) := by decide +kernel
theorem zd_L_ackWindow_16 : decode method_15_code 16 = .ok (.ireturn, 1) := by decide +kernel
theorem zd_X_ackBlocks_0 : decode prog_1_method_18_code 0 = .ok (.aload_n 0, 1) := by decide +kernel
theorem zd_X_ackBlocks_1 : decode prog_1_method_18_code 1 = .ok (.getfield 36, 3) := by decide +kernel
theorem zd_X_ackBlocks_4 : decode prog_1_method_18_code 4 = .ok (.iload_n 1, 1) := by decide +kernel
theorem zd_X_ackBlocks_5 : decode prog_1_method_18_code 5 = .ok (.invokevirtual 77, 3) := by decide +kernel
theorem zd_X_ackBlocks_8 : decode prog_1_method_18_code 8 = .ok (.ifCond .ne 11, 3) := by decide +kernel
theorem zd_X_ackBlocks_19 : decode prog_1_method_18_code 19 = .ok (.aload_n 0, 1) := by decide +kernel
theorem zd_X_ackBlocks_20 : decode prog_1_method_18_code 20 = .ok (.getfield 36, 3) := by decide +kernel
theorem zd_X_ackBlocks_23 : decode prog_1_method_18_code 23 = .ok (.iload_n 1, 1) := by decide +kernel
theorem zd_X_ackBlocks_24 : decode prog_1_method_18_code 24 = .ok (.iconst 2, 1) := by decide +kernel
theorem zd_X_ackBlocks_25 : decode prog_1_method_18_code 25 = .ok (.invokevirtual 84, 3) := by decide +kernel
theorem zd_X_ackBlocks_28 : decode prog_1_method_18_code 28 = .ok (.ireturn, 1) := by decide +kernel
theorem zd_X_ackBlocks_11 : decode prog_1_method_18_code 11 = .ok (.new 81, 3) := by decide +kernel
theorem zd_X_ackBlocks_14 : decode prog_1_method_18_code 14 = .ok (.dup, 1) := by decide +kernel
theorem zd_X_ackBlocks_15 : decode prog_1_method_18_code 15 = .ok (.invokespecial 83, 3) := by decide +kernel
theorem zd_X_ackBlocks_18 : decode prog_1_method_18_code 18 = .ok (.athrow, 1) := by decide +kernel
theorem zd_L_ackBlocks_0 : decode method_16_code 0 = .ok (.aload_n 2, 1) := by decide +kernel
theorem zd_L_ackBlocks_1 : decode method_16_code 1 = .ok (.iconst 0, 1) := by decide +kernel
theorem zd_L_ackBlocks_2 : decode method_16_code 2 = .ok (.aload_n 0, 1) := by decide +kernel
theorem zd_L_ackBlocks_3 : decode method_16_code 3 = .ok (.iload_n 1, 1) := by decide +kernel
theorem zd_L_ackBlocks_4 : decode method_16_code 4 = .ok (.invokevirtual 57, 3) := by decide +kernel
theorem zd_L_ackBlocks_12 : decode method_16_code 12 = .ok (.astore_n 3, 1) := by decide +kernel
theorem zd_L_ackBlocks_13 : decode method_16_code 13 = .ok (.iconst 1, 1) := by decide +kernel
theorem zd_L_ackBlocks_14 : decode method_16_code 14 = .ok (.ireturn, 1) := by decide +kernel
theorem zd_L_ackBlocks_7 : decode method_16_code 7 = .ok (.i2l, 1) := by decide +kernel
theorem zd_L_ackBlocks_8 : decode method_16_code 8 = .ok (.lastore, 1) := by decide +kernel
theorem zd_L_ackBlocks_9 : decode method_16_code 9 = .ok (.goto 6, 3) := by decide +kernel
theorem zd_L_ackBlocks_15 : decode method_16_code 15 = .ok (.iconst 0, 1) := by decide +kernel
theorem zd_L_ackBlocks_16 : decode method_16_code 16 = .ok (.ireturn, 1) := by decide +kernel
theorem zd_X_ackBlock_0 : decode prog_1_method_19_code 0 = .ok (.aload_n 0, 1) := by decide +kernel
theorem zd_X_ackBlock_1 : decode prog_1_method_19_code 1 = .ok (.getfield 36, 3) := by decide +kernel
theorem zd_X_ackBlock_4 : decode prog_1_method_19_code 4 = .ok (.iload_n 1, 1) := by decide +kernel
theorem zd_X_ackBlock_5 : decode prog_1_method_19_code 5 = .ok (.invokevirtual 77, 3) := by decide +kernel
theorem zd_X_ackBlock_8 : decode prog_1_method_19_code 8 = .ok (.ifCond .eq 20, 3) := by decide +kernel
theorem zd_X_ackBlock_28 : decode prog_1_method_19_code 28 = .ok (.new 81, 3) := by decide +kernel
theorem zd_X_ackBlock_31 : decode prog_1_method_19_code 31 = .ok (.dup, 1) := by decide +kernel
theorem zd_X_ackBlock_32 : decode prog_1_method_19_code 32 = .ok (.invokespecial 83, 3) := by decide +kernel
theorem zd_X_ackBlock_35 : decode prog_1_method_19_code 35 = .ok (.athrow, 1) := by decide +kernel
theorem zd_X_ackBlock_11 : decode prog_1_method_19_code 11 = .ok (.iload_n 2, 1) := by decide +kernel
theorem zd_X_ackBlock_12 : decode prog_1_method_19_code 12 = .ok (.ifCond .lt 16, 3) := by decide +kernel
theorem zd_X_ackBlock_15 : decode prog_1_method_19_code 15 = .ok (.iload_n 2, 1) := by decide +kernel
theorem zd_X_ackBlock_16 : decode prog_1_method_19_code 16 = .ok (.aload_n 0, 1) := by decide +kernel
theorem zd_X_ackBlock_17 : decode prog_1_method_19_code 17 = .ok (.getfield 36, 3) := by decide +kernel
theorem zd_X_ackBlock_20 : decode prog_1_method_19_code 20 = .ok (.iload_n 1, 1) := by decide +kernel
theorem zd_X_ackBlock_21 : decode prog_1_method_19_code 21 = .ok (.iconst 2, 1) := by decide +kernel
theorem zd_X_ackBlock_22 : decode prog_1_method_19_code 22 = .ok (.invokevirtual 84, 3) := by decide +kernel
theorem zd_X_ackBlock_25 : decode prog_1_method_19_code 25 = .ok (.if_icmp .lt 11, 3) := by decide +kernel
theorem zd_X_ackBlock_36 : decode prog_1_method_19_code 36 = .ok (.aload_n 0, 1) := by decide +kernel
theorem zd_X_ackBlock_37 : decode prog_1_method_19_code 37 = .ok (.getfield 36, 3) := by decide +kernel
theorem zd_X_ackBlock_40 : decode prog_1_method_19_code 40 = .ok (.iload_n 1, 1) := by decide +kernel
theorem zd_X_ackBlock_41 : decode prog_1_method_19_code 41 = .ok (.iconst 3, 1) := by decide +kernel
theorem zd_X_ackBlock_42 : decode prog_1_method_19_code 42 = .ok (.iconst 2, 1) := by decide +kernel
theorem zd_X_ackBlock_43 : decode prog_1_method_19_code 43 = .ok (.iload_n 2, 1) := by decide +kernel
theorem zd_X_ackBlock_44 : decode prog_1_method_19_code 44 = .ok (.imul, 1) := by decide +kernel
theorem zd_X_ackBlock_45 : decode prog_1_method_19_code 45 = .ok (.iadd, 1) := by decide +kernel
theorem zd_X_ackBlock_46 : decode prog_1_method_19_code 46 = .ok (.invokevirtual 84, 3) := by decide +kernel
theorem zd_X_ackBlock_49 : decode prog_1_method_19_code 49 = .ok (.ireturn, 1) := by decide +kernel
theorem zd_L_ackBlock_0 : decode method_17_code 0 = .ok (.aload_n 3, 1) := by decide +kernel
theorem zd_L_ackBlock_1 : decode method_17_code 1 = .ok (.iconst 0, 1) := by decide +kernel
theorem zd_L_ackBlock_2 : decode method_17_code 2 = .ok (.aload_n 0, 1) := by decide +kernel
theorem zd_L_ackBlock_3 : decode method_17_code 3 = .ok (.iload_n 1, 1) := by decide +kernel
theorem zd_L_ackBlock_4 : decode method_17_code 4 = .ok (.iload_n 2, 1) := by decide +kernel
theorem zd_L_ackBlock_5 : decode method_17_code 5 = .ok (.invokevirtual 60, 3) := by decide +kernel
theorem zd_L_ackBlock_13 : decode method_17_code 13 = .ok (.astore 4, 2) := by decide +kernel
theorem zd_L_ackBlock_15 : decode method_17_code 15 = .ok (.iconst 1, 1) := by decide +kernel
theorem zd_L_ackBlock_16 : decode method_17_code 16 = .ok (.ireturn, 1) := by decide +kernel
theorem zd_L_ackBlock_8 : decode method_17_code 8 = .ok (.i2l, 1) := by decide +kernel
theorem zd_L_ackBlock_9 : decode method_17_code 9 = .ok (.lastore, 1) := by decide +kernel
theorem zd_L_ackBlock_10 : decode method_17_code 10 = .ok (.goto 7, 3) := by decide +kernel
theorem zd_L_ackBlock_17 : decode method_17_code 17 = .ok (.iconst 0, 1) := by decide +kernel
theorem zd_L_ackBlock_18 : decode method_17_code 18 = .ok (.ireturn, 1) := by decide +kernel
theorem zd_X_isMarked_0 : decode prog_1_method_27_code 0 = .ok (.iload_n 1, 1) := by decide +kernel
theorem zd_X_isMarked_1 : decode prog_1_method_27_code 1 = .ok (.ifCond .lt 14, 3) := by decide +kernel
theorem zd_X_isMarked_15 : decode prog_1_method_27_code 15 = .ok (.new 81, 3) := by decide +kernel
theorem zd_X_isMarked_18 : decode prog_1_method_27_code 18 = .ok (.dup, 1) := by decide +kernel
theorem zd_X_isMarked_19 : decode prog_1_method_27_code 19 = .ok (.invokespecial 83, 3) := by decide +kernel
theorem zd_X_isMarked_22 : decode prog_1_method_27_code 22 = .ok (.athrow, 1) := by decide +kernel
theorem zd_X_isMarked_4 : decode prog_1_method_27_code 4 = .ok (.iload_n 1, 1) := by decide +kernel
theorem zd_X_isMarked_5 : decode prog_1_method_27_code 5 = .ok (.aload_n 0, 1) := by decide +kernel
theorem zd_X_isMarked_6 : decode prog_1_method_27_code 6 = .ok (.getfield 16, 3) := by decide +kernel
theorem zd_X_isMarked_9 : decode prog_1_method_27_code 9 = .ok (.getfield 42, 3) := by decide +kernel
theorem zd_X_isMarked_12 : decode prog_1_method_27_code 12 = .ok (.if_icmp .lt 11, 3) := by decide +kernel
theorem zd_X_isMarked_23 : decode prog_1_method_27_code 23 = .ok (.aload_n 0, 1) := by decide +kernel
theorem zd_X_isMarked_24 : decode prog_1_method_27_code 24 = .ok (.getfield 16, 3) := by decide +kernel
theorem zd_X_isMarked_27 : decode prog_1_method_27_code 27 = .ok (.getfield 134, 3) := by decide +kernel
theorem zd_X_isMarked_30 : decode prog_1_method_27_code 30 = .ok (.iload_n 1, 1) := by decide +kernel
theorem zd_X_isMarked_31 : decode prog_1_method_27_code 31 = .ok (.invokevirtual 138, 3) := by decide +kernel
theorem zd_X_isMarked_34 : decode prog_1_method_27_code 34 = .ok (.ifCond .eq 7, 3) := by decide +kernel
theorem zd_X_isMarked_41 : decode prog_1_method_27_code 41 = .ok (.iconst 0, 1) := by decide +kernel
theorem zd_X_isMarked_42 : decode prog_1_method_27_code 42 = .ok (.ireturn, 1) := by decide +kernel
theorem zd_X_isMarked_37 : decode prog_1_method_27_code 37 = .ok (.iconst 1, 1) := by decide +kernel
theorem zd_X_isMarked_38 : decode prog_1_method_27_code 38 = .ok (.goto 4, 3) := by decide +kernel
theorem zd_L_isMarked_0 : decode method_18_code 0 = .ok (.aload_n 2, 1) := by decide +kernel
theorem zd_L_isMarked_1 : decode method_18_code 1 = .ok (.iconst 0, 1) := by decide +kernel
theorem zd_L_isMarked_2 : decode method_18_code 2 = .ok (.aload_n 0, 1) := by decide +kernel
theorem zd_L_isMarked_3 : decode method_18_code 3 = .ok (.iload_n 1, 1) := by decide +kernel
theorem zd_L_isMarked_4 : decode method_18_code 4 = .ok (.invokevirtual 63, 3) := by decide +kernel
theorem zd_L_isMarked_19 : decode method_18_code 19 = .ok (.astore_n 3, 1) := by decide +kernel
theorem zd_L_isMarked_20 : decode method_18_code 20 = .ok (.iconst 1, 1) := by decide +kernel
theorem zd_L_isMarked_21 : decode method_18_code 21 = .ok (.ireturn, 1) := by decide +kernel
theorem zd_L_isMarked_7 : decode method_18_code 7 = .ok (.ifCond .eq 7, 3) := by decide +kernel
theorem zd_L_isMarked_14 : decode method_18_code 14 = .ok (.lconst 0, 1) := by decide +kernel
theorem zd_L_isMarked_15 : decode method_18_code 15 = .ok (.lastore, 1) := by decide +kernel
theorem zd_L_isMarked_16 : decode method_18_code 16 = .ok (.goto 6, 3) := by decide +kernel
theorem zd_L_isMarked_22 : decode method_18_code 22 = .ok (.iconst 0, 1) := by decide +kernel
theorem zd_L_isMarked_23 : decode method_18_code 23 = .ok (.ireturn, 1) := by decide +kernel
theorem zd_L_isMarked_10 : decode method_18_code 10 = .ok (.lconst 1, 1) := by decide +kernel
theorem zd_L_isMarked_11 : decode method_18_code 11 = .ok (.goto 4, 3) := by decide +kernel
theorem zd_X_blockStart_0 : decode prog_1_method_43_code 0 = .ok (.iload_n 1, 1) := by decide +kernel
theorem zd_X_blockStart_1 : decode prog_1_method_43_code 1 = .ok (.ifCond .lt 14, 3) := by decide +kernel
theorem zd_X_blockStart_15 : decode prog_1_method_43_code 15 = .ok (.new 81, 3) := by decide +kernel
theorem zd_X_blockStart_18 : decode prog_1_method_43_code 18 = .ok (.dup, 1) := by decide +kernel
theorem zd_X_blockStart_19 : decode prog_1_method_43_code 19 = .ok (.invokespecial 83, 3) := by decide +kernel
theorem zd_X_blockStart_22 : decode prog_1_method_43_code 22 = .ok (.athrow, 1) := by decide +kernel
theorem zd_X_blockStart_4 : decode prog_1_method_43_code 4 = .ok (.iload_n 1, 1) := by decide +kernel
theorem zd_X_blockStart_5 : decode prog_1_method_43_code 5 = .ok (.aload_n 0, 1) := by decide +kernel
theorem zd_X_blockStart_6 : decode prog_1_method_43_code 6 = .ok (.getfield 23, 3) := by decide +kernel
theorem zd_X_blockStart_9 : decode prog_1_method_43_code 9 = .ok (.invokevirtual 179, 3) := by decide +kernel
theorem zd_X_blockStart_12 : decode prog_1_method_43_code 12 = .ok (.if_icmp .lt 11, 3) := by decide +kernel
theorem zd_X_blockStart_23 : decode prog_1_method_43_code 23 = .ok (.aload_n 0, 1) := by decide +kernel
theorem zd_X_blockStart_24 : decode prog_1_method_43_code 24 = .ok (.getfield 23, 3) := by decide +kernel
theorem zd_X_blockStart_27 : decode prog_1_method_43_code 27 = .ok (.iload_n 1, 1) := by decide +kernel
theorem zd_X_blockStart_28 : decode prog_1_method_43_code 28 = .ok (.invokevirtual 182, 3) := by decide +kernel
theorem zd_X_blockStart_31 : decode prog_1_method_43_code 31 = .ok (.ireturn, 1) := by decide +kernel
theorem zd_L_blockStart_0 : decode method_19_code 0 = .ok (.aload_n 2, 1) := by decide +kernel
theorem zd_L_blockStart_1 : decode method_19_code 1 = .ok (.iconst 0, 1) := by decide +kernel
theorem zd_L_blockStart_2 : decode method_19_code 2 = .ok (.aload_n 0, 1) := by decide +kernel
theorem zd_L_blockStart_3 : decode method_19_code 3 = .ok (.iload_n 1, 1) := by decide +kernel
theorem zd_L_blockStart_4 : decode method_19_code 4 = .ok (.invokevirtual 67, 3) := by decide +kernel
theorem zd_L_blockStart_12 : decode method_19_code 12 = .ok (.astore_n 3, 1) := by decide +kernel
theorem zd_L_blockStart_13 : decode method_19_code 13 = .ok (.iconst 1, 1) := by decide +kernel
theorem zd_L_blockStart_14 : decode method_19_code 14 = .ok (.ireturn, 1) := by decide +kernel
theorem zd_L_blockStart_7 : decode method_19_code 7 = .ok (.i2l, 1) := by decide +kernel
theorem zd_L_blockStart_8 : decode method_19_code 8 = .ok (.lastore, 1) := by decide +kernel
theorem zd_L_blockStart_9 : decode method_19_code 9 = .ok (.goto 6, 3) := by decide +kernel
theorem zd_L_blockStart_15 : decode method_19_code 15 = .ok (.iconst 0, 1) := by decide +kernel
theorem zd_L_blockStart_16 : decode method_19_code 16 = .ok (.ireturn, 1) := by decide +kernel
theorem zd_X_blockEnd_0 : decode prog_1_method_44_code 0 = .ok (.iload_n 1, 1) := by decide +kernel
theorem zd_X_blockEnd_1 : decode prog_1_method_44_code 1 = .ok (.ifCond .lt 14, 3) := by decide +kernel
theorem zd_X_blockEnd_15 : decode prog_1_method_44_code 15 = .ok (.new 81, 3) := by decide +kernel
theorem zd_X_blockEnd_18 : decode prog_1_method_44_code 18 = .ok (.dup, 1) := by decide +kernel
theorem zd_X_blockEnd_19 : decode prog_1_method_44_code 19 = .ok (.invokespecial 83, 3) := by decide +kernel
theorem zd_X_blockEnd_22 : decode prog_1_method_44_code 22 = .ok (.athrow, 1) := by decide +kernel
theorem zd_X_blockEnd_4 : decode prog_1_method_44_code 4 = .ok (.iload_n 1, 1) := by decide +kernel
theorem zd_X_blockEnd_5 : decode prog_1_method_44_code 5 = .ok (.aload_n 0, 1) := by decide +kernel
theorem zd_X_blockEnd_6 : decode prog_1_method_44_code 6 = .ok (.getfield 23, 3) := by decide +kernel
theorem zd_X_blockEnd_9 : decode prog_1_method_44_code 9 = .ok (.invokevirtual 179, 3) := by decide +kernel
theorem zd_X_blockEnd_12 : decode prog_1_method_44_code 12 = .ok (.if_icmp .lt 11, 3) := by decide +kernel
theorem zd_X_blockEnd_23 : decode prog_1_method_44_code 23 = .ok (.aload_n 0, 1) := by decide +kernel
theorem zd_X_blockEnd_24 : decode prog_1_method_44_code 24 = .ok (.getfield 23, 3) := by decide +kernel
theorem zd_X_blockEnd_27 : decode prog_1_method_44_code 27 = .ok (.aload_n 0, 1) := by decide +kernel
theorem zd_X_blockEnd_28 : decode prog_1_method_44_code 28 = .ok (.getfield 23, 3) := by decide +kernel
theorem zd_X_blockEnd_31 : decode prog_1_method_44_code 31 = .ok (.iload_n 1, 1) := by decide +kernel
theorem zd_X_blockEnd_32 : decode prog_1_method_44_code 32 = .ok (.invokevirtual 182, 3) := by decide +kernel
theorem zd_X_blockEnd_35 : decode prog_1_method_44_code 35 = .ok (.invokevirtual 185, 3) := by decide +kernel
theorem zd_X_blockEnd_38 : decode prog_1_method_44_code 38 = .ok (.ireturn, 1) := by decide +kernel
theorem zd_L_blockEnd_0 : decode method_20_code 0 = .ok (.aload_n 2, 1) := by decide +kernel
theorem zd_L_blockEnd_1 : decode method_20_code 1 = .ok (.iconst 0, 1) := by decide +kernel
theorem zd_L_blockEnd_2 : decode method_20_code 2 = .ok (.aload_n 0, 1) := by decide +kernel
theorem zd_L_blockEnd_3 : decode method_20_code 3 = .ok (.iload_n 1, 1) := by decide +kernel
theorem zd_L_blockEnd_4 : decode method_20_code 4 = .ok (.invokevirtual 70, 3) := by decide +kernel
theorem zd_L_blockEnd_12 : decode method_20_code 12 = .ok (.astore_n 3, 1) := by decide +kernel
theorem zd_L_blockEnd_13 : decode method_20_code 13 = .ok (.iconst 1, 1) := by decide +kernel
theorem zd_L_blockEnd_14 : decode method_20_code 14 = .ok (.ireturn, 1) := by decide +kernel
theorem zd_L_blockEnd_7 : decode method_20_code 7 = .ok (.i2l, 1) := by decide +kernel
theorem zd_L_blockEnd_8 : decode method_20_code 8 = .ok (.lastore, 1) := by decide +kernel
theorem zd_L_blockEnd_9 : decode method_20_code 9 = .ok (.goto 6, 3) := by decide +kernel
theorem zd_L_blockEnd_15 : decode method_20_code 15 = .ok (.iconst 0, 1) := by decide +kernel
theorem zd_L_blockEnd_16 : decode method_20_code 16 = .ok (.ireturn, 1) := by decide +kernel
theorem zm373 : (Jvm.Cond.methodLink "SluiceStreamLaw" (77 : Nat) ({ cls := "SluiceStreamLaw", name := "write", desc := "(LSluiceStream;II[J)I" } : Jvm.MethodName)) ∈ zT := List.mem_filter.mpr ⟨List.mem_of_getElem? (i := 409) (by decide +kernel), by decide +kernel⟩
theorem zm0 : (Jvm.Cond.initialized "SluiceStreamLaw") ∈ zT := List.mem_filter.mpr ⟨List.mem_of_getElem? (i := 36) (by decide +kernel), by decide +kernel⟩
theorem zm375 : (Jvm.Cond.codeWith ({ cls := "SluiceStreamLaw", name := "write", desc := "(LSluiceStream;II[J)I" } : Jvm.MethodName) method_3_code (5 : Nat) (Option.some Jvm.ClassFile.FieldType.int) [((0 : Nat), (10 : Nat), (13 : Nat), (13 : Nat)), ((0 : Nat), (10 : Nat), (17 : Nat), (15 : Nat))]) ∈ zT := List.mem_filter.mpr ⟨List.mem_of_getElem? (i := 411) (by decide +kernel), by decide +kernel⟩
theorem zm374 : (Jvm.Cond.static ({ cls := "SluiceStreamLaw", name := "write", desc := "(LSluiceStream;II[J)I" } : Jvm.MethodName)) ∈ zT := List.mem_filter.mpr ⟨List.mem_of_getElem? (i := 410) (by decide +kernel), by decide +kernel⟩
theorem zm859 : (Jvm.Cond.methodLink "SluiceStreamLaw" (82 : Nat) ({ cls := "SluiceStreamModel", name := "write", desc := "(II)I" } : Jvm.MethodName)) ∈ zT := List.mem_filter.mpr ⟨List.mem_of_getElem? (i := 895) (by decide +kernel), by decide +kernel⟩
theorem zm862 : (Jvm.Cond.code ({ cls := "SluiceStreamModel", name := "write", desc := "(II)I" } : Jvm.MethodName) prog_8_method_7_code (4 : Nat) (Option.some Jvm.ClassFile.FieldType.int)) ∈ zT := List.mem_filter.mpr ⟨List.mem_of_getElem? (i := 898) (by decide +kernel), by decide +kernel⟩
theorem zm860 : (Jvm.Cond.instanceMethod ({ cls := "SluiceStreamModel", name := "write", desc := "(II)I" } : Jvm.MethodName)) ∈ zT := List.mem_filter.mpr ⟨List.mem_of_getElem? (i := 896) (by decide +kernel), by decide +kernel⟩
theorem zm861 : (Jvm.Cond.selects "SluiceStreamModel" ({ cls := "SluiceStreamModel", name := "write", desc := "(II)I" } : Jvm.MethodName) ({ cls := "SluiceStreamModel", name := "write", desc := "(II)I" } : Jvm.MethodName)) ∈ zT := List.mem_filter.mpr ⟨List.mem_of_getElem? (i := 897) (by decide +kernel), by decide +kernel⟩
theorem zm855 : (Jvm.Cond.methodLink "SluiceStreamLaw" (83 : Nat) ({ cls := "SluiceStreamModel", name := "thrown", desc := "()I" } : Jvm.MethodName)) ∈ zT := List.mem_filter.mpr ⟨List.mem_of_getElem? (i := 891) (by decide +kernel), by decide +kernel⟩
theorem zm858 : (Jvm.Cond.code ({ cls := "SluiceStreamModel", name := "thrown", desc := "()I" } : Jvm.MethodName) prog_8_method_2_code (1 : Nat) (Option.some Jvm.ClassFile.FieldType.int)) ∈ zT := List.mem_filter.mpr ⟨List.mem_of_getElem? (i := 894) (by decide +kernel), by decide +kernel⟩
theorem zm856 : (Jvm.Cond.instanceMethod ({ cls := "SluiceStreamModel", name := "thrown", desc := "()I" } : Jvm.MethodName)) ∈ zT := List.mem_filter.mpr ⟨List.mem_of_getElem? (i := 892) (by decide +kernel), by decide +kernel⟩
theorem zm857 : (Jvm.Cond.selects "SluiceStreamModel" ({ cls := "SluiceStreamModel", name := "thrown", desc := "()I" } : Jvm.MethodName) ({ cls := "SluiceStreamModel", name := "thrown", desc := "()I" } : Jvm.MethodName)) ∈ zT := List.mem_filter.mpr ⟨List.mem_of_getElem? (i := 893) (by decide +kernel), by decide +kernel⟩
theorem zm193 : (Jvm.Cond.methodLink "SluiceStreamLaw" (86 : Nat) ({ cls := "SluiceStream", name := "read", desc := "()I" } : Jvm.MethodName)) ∈ zT := List.mem_filter.mpr ⟨List.mem_of_getElem? (i := 229) (by decide +kernel), by decide +kernel⟩
theorem zm196 : (Jvm.Cond.code ({ cls := "SluiceStream", name := "read", desc := "()I" } : Jvm.MethodName) prog_1_method_3_code (2 : Nat) (Option.some Jvm.ClassFile.FieldType.int)) ∈ zT := List.mem_filter.mpr ⟨List.mem_of_getElem? (i := 232) (by decide +kernel), by decide +kernel⟩
theorem zm194 : (Jvm.Cond.instanceMethod ({ cls := "SluiceStream", name := "read", desc := "()I" } : Jvm.MethodName)) ∈ zT := List.mem_filter.mpr ⟨List.mem_of_getElem? (i := 230) (by decide +kernel), by decide +kernel⟩
theorem zm195 : (Jvm.Cond.selects "SluiceStream" ({ cls := "SluiceStream", name := "read", desc := "()I" } : Jvm.MethodName) ({ cls := "SluiceStream", name := "read", desc := "()I" } : Jvm.MethodName)) ∈ zT := List.mem_filter.mpr ⟨List.mem_of_getElem? (i := 231) (by decide +kernel), by decide +kernel⟩
theorem zm870 : (Jvm.Cond.methodLink "SluiceStreamLaw" (89 : Nat) ({ cls := "SluiceStreamModel", name := "read", desc := "()I" } : Jvm.MethodName)) ∈ zT := List.mem_filter.mpr ⟨List.mem_of_getElem? (i := 906) (by decide +kernel), by decide +kernel⟩
theorem zm873 : (Jvm.Cond.code ({ cls := "SluiceStreamModel", name := "read", desc := "()I" } : Jvm.MethodName) prog_8_method_9_code (1 : Nat) (Option.some Jvm.ClassFile.FieldType.int)) ∈ zT := List.mem_filter.mpr ⟨List.mem_of_getElem? (i := 909) (by decide +kernel), by decide +kernel⟩
theorem zm871 : (Jvm.Cond.instanceMethod ({ cls := "SluiceStreamModel", name := "read", desc := "()I" } : Jvm.MethodName)) ∈ zT := List.mem_filter.mpr ⟨List.mem_of_getElem? (i := 907) (by decide +kernel), by decide +kernel⟩
theorem zm872 : (Jvm.Cond.selects "SluiceStreamModel" ({ cls := "SluiceStreamModel", name := "read", desc := "()I" } : Jvm.MethodName) ({ cls := "SluiceStreamModel", name := "read", desc := "()I" } : Jvm.MethodName)) ∈ zT := List.mem_filter.mpr ⟨List.mem_of_getElem? (i := 908) (by decide +kernel), by decide +kernel⟩
theorem zm460 : (Jvm.Cond.methodLink "SluiceStreamLaw" (90 : Nat) ({ cls := "SluiceStreamLaw", name := "setLimit", desc := "(LSluiceStream;I[J)I" } : Jvm.MethodName)) ∈ zT := List.mem_filter.mpr ⟨List.mem_of_getElem? (i := 496) (by decide +kernel), by decide +kernel⟩
theorem zm462 : (Jvm.Cond.codeWith ({ cls := "SluiceStreamLaw", name := "setLimit", desc := "(LSluiceStream;I[J)I" } : Jvm.MethodName) method_4_code (4 : Nat) (Option.some Jvm.ClassFile.FieldType.int) [((0 : Nat), (9 : Nat), (12 : Nat), (13 : Nat))]) ∈ zT := List.mem_filter.mpr ⟨List.mem_of_getElem? (i := 498) (by decide +kernel), by decide +kernel⟩
theorem zm461 : (Jvm.Cond.static ({ cls := "SluiceStreamLaw", name := "setLimit", desc := "(LSluiceStream;I[J)I" } : Jvm.MethodName)) ∈ zT := List.mem_filter.mpr ⟨List.mem_of_getElem? (i := 497) (by decide +kernel), by decide +kernel⟩
theorem zm901 : (Jvm.Cond.methodLink "SluiceStreamLaw" (93 : Nat) ({ cls := "SluiceStreamModel", name := "setLimit", desc := "(I)I" } : Jvm.MethodName)) ∈ zT := List.mem_filter.mpr ⟨List.mem_of_getElem? (i := 937) (by decide +kernel), by decide +kernel⟩
theorem zm904 : (Jvm.Cond.code ({ cls := "SluiceStreamModel", name := "setLimit", desc := "(I)I" } : Jvm.MethodName) prog_8_method_10_code (3 : Nat) (Option.some Jvm.ClassFile.FieldType.int)) ∈ zT := List.mem_filter.mpr ⟨List.mem_of_getElem? (i := 940) (by decide +kernel), by decide +kernel⟩
theorem zm902 : (Jvm.Cond.instanceMethod ({ cls := "SluiceStreamModel", name := "setLimit", desc := "(I)I" } : Jvm.MethodName)) ∈ zT := List.mem_filter.mpr ⟨List.mem_of_getElem? (i := 938) (by decide +kernel), by decide +kernel⟩
theorem zm903 : (Jvm.Cond.selects "SluiceStreamModel" ({ cls := "SluiceStreamModel", name := "setLimit", desc := "(I)I" } : Jvm.MethodName) ({ cls := "SluiceStreamModel", name := "setLimit", desc := "(I)I" } : Jvm.MethodName)) ∈ zT := List.mem_filter.mpr ⟨List.mem_of_getElem? (i := 939) (by decide +kernel), by decide +kernel⟩
theorem zm467 : (Jvm.Cond.methodLink "SluiceStreamLaw" (94 : Nat) ({ cls := "SluiceStreamLaw", name := "send", desc := "(LSluiceStream;[J)I" } : Jvm.MethodName)) ∈ zT := List.mem_filter.mpr ⟨List.mem_of_getElem? (i := 503) (by decide +kernel), by decide +kernel⟩
theorem zm469 : (Jvm.Cond.codeWith ({ cls := "SluiceStreamLaw", name := "send", desc := "(LSluiceStream;[J)I" } : Jvm.MethodName) method_5_code (3 : Nat) (Option.some Jvm.ClassFile.FieldType.int) [((0 : Nat), (8 : Nat), (11 : Nat), (15 : Nat))]) ∈ zT := List.mem_filter.mpr ⟨List.mem_of_getElem? (i := 505) (by decide +kernel), by decide +kernel⟩
theorem zm468 : (Jvm.Cond.static ({ cls := "SluiceStreamLaw", name := "send", desc := "(LSluiceStream;[J)I" } : Jvm.MethodName)) ∈ zT := List.mem_filter.mpr ⟨List.mem_of_getElem? (i := 504) (by decide +kernel), by decide +kernel⟩
theorem zm905 : (Jvm.Cond.methodLink "SluiceStreamLaw" (97 : Nat) ({ cls := "SluiceStreamModel", name := "send", desc := "()I" } : Jvm.MethodName)) ∈ zT := List.mem_filter.mpr ⟨List.mem_of_getElem? (i := 941) (by decide +kernel), by decide +kernel⟩
theorem zm908 : (Jvm.Cond.code ({ cls := "SluiceStreamModel", name := "send", desc := "()I" } : Jvm.MethodName) prog_8_method_16_code (6 : Nat) (Option.some Jvm.ClassFile.FieldType.int)) ∈ zT := List.mem_filter.mpr ⟨List.mem_of_getElem? (i := 944) (by decide +kernel), by decide +kernel⟩
theorem zm906 : (Jvm.Cond.instanceMethod ({ cls := "SluiceStreamModel", name := "send", desc := "()I" } : Jvm.MethodName)) ∈ zT := List.mem_filter.mpr ⟨List.mem_of_getElem? (i := 942) (by decide +kernel), by decide +kernel⟩
theorem zm907 : (Jvm.Cond.selects "SluiceStreamModel" ({ cls := "SluiceStreamModel", name := "send", desc := "()I" } : Jvm.MethodName) ({ cls := "SluiceStreamModel", name := "send", desc := "()I" } : Jvm.MethodName)) ∈ zT := List.mem_filter.mpr ⟨List.mem_of_getElem? (i := 943) (by decide +kernel), by decide +kernel⟩
theorem zm516 : (Jvm.Cond.methodLink "SluiceStreamLaw" (98 : Nat) ({ cls := "SluiceStreamLaw", name := "tick", desc := "(LSluiceStream;I[J)I" } : Jvm.MethodName)) ∈ zT := List.mem_filter.mpr ⟨List.mem_of_getElem? (i := 552) (by decide +kernel), by decide +kernel⟩
theorem zm518 : (Jvm.Cond.codeWith ({ cls := "SluiceStreamLaw", name := "tick", desc := "(LSluiceStream;I[J)I" } : Jvm.MethodName) method_6_code (4 : Nat) (Option.some Jvm.ClassFile.FieldType.int) [((0 : Nat), (9 : Nat), (12 : Nat), (13 : Nat))]) ∈ zT := List.mem_filter.mpr ⟨List.mem_of_getElem? (i := 554) (by decide +kernel), by decide +kernel⟩
theorem zm517 : (Jvm.Cond.static ({ cls := "SluiceStreamLaw", name := "tick", desc := "(LSluiceStream;I[J)I" } : Jvm.MethodName)) ∈ zT := List.mem_filter.mpr ⟨List.mem_of_getElem? (i := 553) (by decide +kernel), by decide +kernel⟩
theorem zm932 : (Jvm.Cond.methodLink "SluiceStreamLaw" (100 : Nat) ({ cls := "SluiceStreamModel", name := "tick", desc := "(I)I" } : Jvm.MethodName)) ∈ zT := List.mem_filter.mpr ⟨List.mem_of_getElem? (i := 968) (by decide +kernel), by decide +kernel⟩
theorem zm935 : (Jvm.Cond.code ({ cls := "SluiceStreamModel", name := "tick", desc := "(I)I" } : Jvm.MethodName) prog_8_method_18_code (4 : Nat) (Option.some Jvm.ClassFile.FieldType.int)) ∈ zT := List.mem_filter.mpr ⟨List.mem_of_getElem? (i := 971) (by decide +kernel), by decide +kernel⟩
theorem zm933 : (Jvm.Cond.instanceMethod ({ cls := "SluiceStreamModel", name := "tick", desc := "(I)I" } : Jvm.MethodName)) ∈ zT := List.mem_filter.mpr ⟨List.mem_of_getElem? (i := 969) (by decide +kernel), by decide +kernel⟩
theorem zm934 : (Jvm.Cond.selects "SluiceStreamModel" ({ cls := "SluiceStreamModel", name := "tick", desc := "(I)I" } : Jvm.MethodName) ({ cls := "SluiceStreamModel", name := "tick", desc := "(I)I" } : Jvm.MethodName)) ∈ zT := List.mem_filter.mpr ⟨List.mem_of_getElem? (i := 970) (by decide +kernel), by decide +kernel⟩
theorem zm556 : (Jvm.Cond.methodLink "SluiceStreamLaw" (101 : Nat) ({ cls := "SluiceStreamLaw", name := "deliver", desc := "(LSluiceStream;I[J)I" } : Jvm.MethodName)) ∈ zT := List.mem_filter.mpr ⟨List.mem_of_getElem? (i := 592) (by decide +kernel), by decide +kernel⟩
theorem zm558 : (Jvm.Cond.codeWith ({ cls := "SluiceStreamLaw", name := "deliver", desc := "(LSluiceStream;I[J)I" } : Jvm.MethodName) method_7_code (4 : Nat) (Option.some Jvm.ClassFile.FieldType.int) [((0 : Nat), (9 : Nat), (12 : Nat), (31 : Nat))]) ∈ zT := List.mem_filter.mpr ⟨List.mem_of_getElem? (i := 594) (by decide +kernel), by decide +kernel⟩
theorem zm557 : (Jvm.Cond.static ({ cls := "SluiceStreamLaw", name := "deliver", desc := "(LSluiceStream;I[J)I" } : Jvm.MethodName)) ∈ zT := List.mem_filter.mpr ⟨List.mem_of_getElem? (i := 593) (by decide +kernel), by decide +kernel⟩
theorem zm940 : (Jvm.Cond.methodLink "SluiceStreamLaw" (103 : Nat) ({ cls := "SluiceStreamModel", name := "deliver", desc := "(I)I" } : Jvm.MethodName)) ∈ zT := List.mem_filter.mpr ⟨List.mem_of_getElem? (i := 976) (by decide +kernel), by decide +kernel⟩
theorem zm943 : (Jvm.Cond.code ({ cls := "SluiceStreamModel", name := "deliver", desc := "(I)I" } : Jvm.MethodName) prog_8_method_31_code (4 : Nat) (Option.some Jvm.ClassFile.FieldType.int)) ∈ zT := List.mem_filter.mpr ⟨List.mem_of_getElem? (i := 979) (by decide +kernel), by decide +kernel⟩
theorem zm941 : (Jvm.Cond.instanceMethod ({ cls := "SluiceStreamModel", name := "deliver", desc := "(I)I" } : Jvm.MethodName)) ∈ zT := List.mem_filter.mpr ⟨List.mem_of_getElem? (i := 977) (by decide +kernel), by decide +kernel⟩
theorem zm942 : (Jvm.Cond.selects "SluiceStreamModel" ({ cls := "SluiceStreamModel", name := "deliver", desc := "(I)I" } : Jvm.MethodName) ({ cls := "SluiceStreamModel", name := "deliver", desc := "(I)I" } : Jvm.MethodName)) ∈ zT := List.mem_filter.mpr ⟨List.mem_of_getElem? (i := 978) (by decide +kernel), by decide +kernel⟩
theorem zm594 : (Jvm.Cond.methodLink "SluiceStreamLaw" (104 : Nat) ({ cls := "SluiceStreamLaw", name := "lose", desc := "(LSluiceStream;I[J)I" } : Jvm.MethodName)) ∈ zT := List.mem_filter.mpr ⟨List.mem_of_getElem? (i := 630) (by decide +kernel), by decide +kernel⟩
theorem zm596 : (Jvm.Cond.codeWith ({ cls := "SluiceStreamLaw", name := "lose", desc := "(LSluiceStream;I[J)I" } : Jvm.MethodName) method_8_code (4 : Nat) (Option.some Jvm.ClassFile.FieldType.int) [((0 : Nat), (9 : Nat), (12 : Nat), (31 : Nat))]) ∈ zT := List.mem_filter.mpr ⟨List.mem_of_getElem? (i := 632) (by decide +kernel), by decide +kernel⟩
theorem zm595 : (Jvm.Cond.static ({ cls := "SluiceStreamLaw", name := "lose", desc := "(LSluiceStream;I[J)I" } : Jvm.MethodName)) ∈ zT := List.mem_filter.mpr ⟨List.mem_of_getElem? (i := 631) (by decide +kernel), by decide +kernel⟩
theorem zm952 : (Jvm.Cond.methodLink "SluiceStreamLaw" (106 : Nat) ({ cls := "SluiceStreamModel", name := "lose", desc := "(I)I" } : Jvm.MethodName)) ∈ zT := List.mem_filter.mpr ⟨List.mem_of_getElem? (i := 988) (by decide +kernel), by decide +kernel⟩
theorem zm955 : (Jvm.Cond.code ({ cls := "SluiceStreamModel", name := "lose", desc := "(I)I" } : Jvm.MethodName) prog_8_method_32_code (3 : Nat) (Option.some Jvm.ClassFile.FieldType.int)) ∈ zT := List.mem_filter.mpr ⟨List.mem_of_getElem? (i := 991) (by decide +kernel), by decide +kernel⟩
theorem zm953 : (Jvm.Cond.instanceMethod ({ cls := "SluiceStreamModel", name := "lose", desc := "(I)I" } : Jvm.MethodName)) ∈ zT := List.mem_filter.mpr ⟨List.mem_of_getElem? (i := 989) (by decide +kernel), by decide +kernel⟩
theorem zm954 : (Jvm.Cond.selects "SluiceStreamModel" ({ cls := "SluiceStreamModel", name := "lose", desc := "(I)I" } : Jvm.MethodName) ({ cls := "SluiceStreamModel", name := "lose", desc := "(I)I" } : Jvm.MethodName)) ∈ zT := List.mem_filter.mpr ⟨List.mem_of_getElem? (i := 990) (by decide +kernel), by decide +kernel⟩
theorem zm601 : (Jvm.Cond.methodLink "SluiceStreamLaw" (107 : Nat) ({ cls := "SluiceStreamLaw", name := "duplicate", desc := "(LSluiceStream;I[J)I" } : Jvm.MethodName)) ∈ zT := List.mem_filter.mpr ⟨List.mem_of_getElem? (i := 637) (by decide +kernel), by decide +kernel⟩
theorem zm603 : (Jvm.Cond.codeWith ({ cls := "SluiceStreamLaw", name := "duplicate", desc := "(LSluiceStream;I[J)I" } : Jvm.MethodName) method_9_code (4 : Nat) (Option.some Jvm.ClassFile.FieldType.int) [((0 : Nat), (9 : Nat), (12 : Nat), (31 : Nat)), ((0 : Nat), (9 : Nat), (15 : Nat), (15 : Nat))]) ∈ zT := List.mem_filter.mpr ⟨List.mem_of_getElem? (i := 639) (by decide +kernel), by decide +kernel⟩
theorem zm602 : (Jvm.Cond.static ({ cls := "SluiceStreamLaw", name := "duplicate", desc := "(LSluiceStream;I[J)I" } : Jvm.MethodName)) ∈ zT := List.mem_filter.mpr ⟨List.mem_of_getElem? (i := 638) (by decide +kernel), by decide +kernel⟩
theorem zm956 : (Jvm.Cond.methodLink "SluiceStreamLaw" (109 : Nat) ({ cls := "SluiceStreamModel", name := "duplicate", desc := "(I)I" } : Jvm.MethodName)) ∈ zT := List.mem_filter.mpr ⟨List.mem_of_getElem? (i := 992) (by decide +kernel), by decide +kernel⟩
theorem zm959 : (Jvm.Cond.code ({ cls := "SluiceStreamModel", name := "duplicate", desc := "(I)I" } : Jvm.MethodName) prog_8_method_33_code (2 : Nat) (Option.some Jvm.ClassFile.FieldType.int)) ∈ zT := List.mem_filter.mpr ⟨List.mem_of_getElem? (i := 995) (by decide +kernel), by decide +kernel⟩
theorem zm957 : (Jvm.Cond.instanceMethod ({ cls := "SluiceStreamModel", name := "duplicate", desc := "(I)I" } : Jvm.MethodName)) ∈ zT := List.mem_filter.mpr ⟨List.mem_of_getElem? (i := 993) (by decide +kernel), by decide +kernel⟩
theorem zm958 : (Jvm.Cond.selects "SluiceStreamModel" ({ cls := "SluiceStreamModel", name := "duplicate", desc := "(I)I" } : Jvm.MethodName) ({ cls := "SluiceStreamModel", name := "duplicate", desc := "(I)I" } : Jvm.MethodName)) ∈ zT := List.mem_filter.mpr ⟨List.mem_of_getElem? (i := 994) (by decide +kernel), by decide +kernel⟩
theorem zm610 : (Jvm.Cond.methodLink "SluiceStreamLaw" (110 : Nat) ({ cls := "SluiceStreamLaw", name := "deliverAck", desc := "(LSluiceStream;I[J)I" } : Jvm.MethodName)) ∈ zT := List.mem_filter.mpr ⟨List.mem_of_getElem? (i := 646) (by decide +kernel), by decide +kernel⟩
theorem zm612 : (Jvm.Cond.codeWith ({ cls := "SluiceStreamLaw", name := "deliverAck", desc := "(LSluiceStream;I[J)I" } : Jvm.MethodName) method_10_code (4 : Nat) (Option.some Jvm.ClassFile.FieldType.int) [((0 : Nat), (9 : Nat), (12 : Nat), (31 : Nat))]) ∈ zT := List.mem_filter.mpr ⟨List.mem_of_getElem? (i := 648) (by decide +kernel), by decide +kernel⟩
theorem zm611 : (Jvm.Cond.static ({ cls := "SluiceStreamLaw", name := "deliverAck", desc := "(LSluiceStream;I[J)I" } : Jvm.MethodName)) ∈ zT := List.mem_filter.mpr ⟨List.mem_of_getElem? (i := 647) (by decide +kernel), by decide +kernel⟩
theorem zm960 : (Jvm.Cond.methodLink "SluiceStreamLaw" (112 : Nat) ({ cls := "SluiceStreamModel", name := "deliverAck", desc := "(I)I" } : Jvm.MethodName)) ∈ zT := List.mem_filter.mpr ⟨List.mem_of_getElem? (i := 996) (by decide +kernel), by decide +kernel⟩
theorem zm963 : (Jvm.Cond.code ({ cls := "SluiceStreamModel", name := "deliverAck", desc := "(I)I" } : Jvm.MethodName) prog_8_method_34_code (3 : Nat) (Option.some Jvm.ClassFile.FieldType.int)) ∈ zT := List.mem_filter.mpr ⟨List.mem_of_getElem? (i := 999) (by decide +kernel), by decide +kernel⟩
theorem zm961 : (Jvm.Cond.instanceMethod ({ cls := "SluiceStreamModel", name := "deliverAck", desc := "(I)I" } : Jvm.MethodName)) ∈ zT := List.mem_filter.mpr ⟨List.mem_of_getElem? (i := 997) (by decide +kernel), by decide +kernel⟩
theorem zm962 : (Jvm.Cond.selects "SluiceStreamModel" ({ cls := "SluiceStreamModel", name := "deliverAck", desc := "(I)I" } : Jvm.MethodName) ({ cls := "SluiceStreamModel", name := "deliverAck", desc := "(I)I" } : Jvm.MethodName)) ∈ zT := List.mem_filter.mpr ⟨List.mem_of_getElem? (i := 998) (by decide +kernel), by decide +kernel⟩
theorem zm654 : (Jvm.Cond.methodLink "SluiceStreamLaw" (113 : Nat) ({ cls := "SluiceStreamLaw", name := "loseAck", desc := "(LSluiceStream;I[J)I" } : Jvm.MethodName)) ∈ zT := List.mem_filter.mpr ⟨List.mem_of_getElem? (i := 690) (by decide +kernel), by decide +kernel⟩
theorem zm656 : (Jvm.Cond.codeWith ({ cls := "SluiceStreamLaw", name := "loseAck", desc := "(LSluiceStream;I[J)I" } : Jvm.MethodName) method_11_code (4 : Nat) (Option.some Jvm.ClassFile.FieldType.int) [((0 : Nat), (9 : Nat), (12 : Nat), (31 : Nat))]) ∈ zT := List.mem_filter.mpr ⟨List.mem_of_getElem? (i := 692) (by decide +kernel), by decide +kernel⟩
theorem zm655 : (Jvm.Cond.static ({ cls := "SluiceStreamLaw", name := "loseAck", desc := "(LSluiceStream;I[J)I" } : Jvm.MethodName)) ∈ zT := List.mem_filter.mpr ⟨List.mem_of_getElem? (i := 691) (by decide +kernel), by decide +kernel⟩
theorem zm984 : (Jvm.Cond.methodLink "SluiceStreamLaw" (115 : Nat) ({ cls := "SluiceStreamModel", name := "loseAck", desc := "(I)I" } : Jvm.MethodName)) ∈ zT := List.mem_filter.mpr ⟨List.mem_of_getElem? (i := 1020) (by decide +kernel), by decide +kernel⟩
theorem zm987 : (Jvm.Cond.code ({ cls := "SluiceStreamModel", name := "loseAck", desc := "(I)I" } : Jvm.MethodName) prog_8_method_35_code (3 : Nat) (Option.some Jvm.ClassFile.FieldType.int)) ∈ zT := List.mem_filter.mpr ⟨List.mem_of_getElem? (i := 1023) (by decide +kernel), by decide +kernel⟩
theorem zm985 : (Jvm.Cond.instanceMethod ({ cls := "SluiceStreamModel", name := "loseAck", desc := "(I)I" } : Jvm.MethodName)) ∈ zT := List.mem_filter.mpr ⟨List.mem_of_getElem? (i := 1021) (by decide +kernel), by decide +kernel⟩
theorem zm986 : (Jvm.Cond.selects "SluiceStreamModel" ({ cls := "SluiceStreamModel", name := "loseAck", desc := "(I)I" } : Jvm.MethodName) ({ cls := "SluiceStreamModel", name := "loseAck", desc := "(I)I" } : Jvm.MethodName)) ∈ zT := List.mem_filter.mpr ⟨List.mem_of_getElem? (i := 1022) (by decide +kernel), by decide +kernel⟩
theorem zm264 : (Jvm.Cond.methodLink "SluiceStreamLaw" (116 : Nat) ({ cls := "SluiceStream", name := "segments", desc := "()I" } : Jvm.MethodName)) ∈ zT := List.mem_filter.mpr ⟨List.mem_of_getElem? (i := 300) (by decide +kernel), by decide +kernel⟩
theorem zm267 : (Jvm.Cond.code ({ cls := "SluiceStream", name := "segments", desc := "()I" } : Jvm.MethodName) prog_1_method_12_code (1 : Nat) (Option.some Jvm.ClassFile.FieldType.int)) ∈ zT := List.mem_filter.mpr ⟨List.mem_of_getElem? (i := 303) (by decide +kernel), by decide +kernel⟩
theorem zm265 : (Jvm.Cond.instanceMethod ({ cls := "SluiceStream", name := "segments", desc := "()I" } : Jvm.MethodName)) ∈ zT := List.mem_filter.mpr ⟨List.mem_of_getElem? (i := 301) (by decide +kernel), by decide +kernel⟩
theorem zm266 : (Jvm.Cond.selects "SluiceStream" ({ cls := "SluiceStream", name := "segments", desc := "()I" } : Jvm.MethodName) ({ cls := "SluiceStream", name := "segments", desc := "()I" } : Jvm.MethodName)) ∈ zT := List.mem_filter.mpr ⟨List.mem_of_getElem? (i := 302) (by decide +kernel), by decide +kernel⟩
theorem zm988 : (Jvm.Cond.methodLink "SluiceStreamLaw" (119 : Nat) ({ cls := "SluiceStreamModel", name := "segments", desc := "()I" } : Jvm.MethodName)) ∈ zT := List.mem_filter.mpr ⟨List.mem_of_getElem? (i := 1024) (by decide +kernel), by decide +kernel⟩
theorem zm991 : (Jvm.Cond.code ({ cls := "SluiceStreamModel", name := "segments", desc := "()I" } : Jvm.MethodName) prog_8_method_36_code (1 : Nat) (Option.some Jvm.ClassFile.FieldType.int)) ∈ zT := List.mem_filter.mpr ⟨List.mem_of_getElem? (i := 1027) (by decide +kernel), by decide +kernel⟩
theorem zm989 : (Jvm.Cond.instanceMethod ({ cls := "SluiceStreamModel", name := "segments", desc := "()I" } : Jvm.MethodName)) ∈ zT := List.mem_filter.mpr ⟨List.mem_of_getElem? (i := 1025) (by decide +kernel), by decide +kernel⟩
theorem zm990 : (Jvm.Cond.selects "SluiceStreamModel" ({ cls := "SluiceStreamModel", name := "segments", desc := "()I" } : Jvm.MethodName) ({ cls := "SluiceStreamModel", name := "segments", desc := "()I" } : Jvm.MethodName)) ∈ zT := List.mem_filter.mpr ⟨List.mem_of_getElem? (i := 1026) (by decide +kernel), by decide +kernel⟩
theorem zm661 : (Jvm.Cond.methodLink "SluiceStreamLaw" (120 : Nat) ({ cls := "SluiceStreamLaw", name := "startOf", desc := "(LSluiceStream;I[J)I" } : Jvm.MethodName)) ∈ zT := List.mem_filter.mpr ⟨List.mem_of_getElem? (i := 697) (by decide +kernel), by decide +kernel⟩
theorem zm663 : (Jvm.Cond.codeWith ({ cls := "SluiceStreamLaw", name := "startOf", desc := "(LSluiceStream;I[J)I" } : Jvm.MethodName) method_12_code (4 : Nat) (Option.some Jvm.ClassFile.FieldType.int) [((0 : Nat), (9 : Nat), (12 : Nat), (31 : Nat))]) ∈ zT := List.mem_filter.mpr ⟨List.mem_of_getElem? (i := 699) (by decide +kernel), by decide +kernel⟩
theorem zm662 : (Jvm.Cond.static ({ cls := "SluiceStreamLaw", name := "startOf", desc := "(LSluiceStream;I[J)I" } : Jvm.MethodName)) ∈ zT := List.mem_filter.mpr ⟨List.mem_of_getElem? (i := 698) (by decide +kernel), by decide +kernel⟩
theorem zm992 : (Jvm.Cond.methodLink "SluiceStreamLaw" (122 : Nat) ({ cls := "SluiceStreamModel", name := "startOf", desc := "(I)I" } : Jvm.MethodName)) ∈ zT := List.mem_filter.mpr ⟨List.mem_of_getElem? (i := 1028) (by decide +kernel), by decide +kernel⟩
theorem zm995 : (Jvm.Cond.code ({ cls := "SluiceStreamModel", name := "startOf", desc := "(I)I" } : Jvm.MethodName) prog_8_method_37_code (2 : Nat) (Option.some Jvm.ClassFile.FieldType.int)) ∈ zT := List.mem_filter.mpr ⟨List.mem_of_getElem? (i := 1031) (by decide +kernel), by decide +kernel⟩
theorem zm993 : (Jvm.Cond.instanceMethod ({ cls := "SluiceStreamModel", name := "startOf", desc := "(I)I" } : Jvm.MethodName)) ∈ zT := List.mem_filter.mpr ⟨List.mem_of_getElem? (i := 1029) (by decide +kernel), by decide +kernel⟩
theorem zm994 : (Jvm.Cond.selects "SluiceStreamModel" ({ cls := "SluiceStreamModel", name := "startOf", desc := "(I)I" } : Jvm.MethodName) ({ cls := "SluiceStreamModel", name := "startOf", desc := "(I)I" } : Jvm.MethodName)) ∈ zT := List.mem_filter.mpr ⟨List.mem_of_getElem? (i := 1030) (by decide +kernel), by decide +kernel⟩
theorem zm668 : (Jvm.Cond.methodLink "SluiceStreamLaw" (123 : Nat) ({ cls := "SluiceStreamLaw", name := "endOf", desc := "(LSluiceStream;I[J)I" } : Jvm.MethodName)) ∈ zT := List.mem_filter.mpr ⟨List.mem_of_getElem? (i := 704) (by decide +kernel), by decide +kernel⟩
theorem zm670 : (Jvm.Cond.codeWith ({ cls := "SluiceStreamLaw", name := "endOf", desc := "(LSluiceStream;I[J)I" } : Jvm.MethodName) method_13_code (4 : Nat) (Option.some Jvm.ClassFile.FieldType.int) [((0 : Nat), (9 : Nat), (12 : Nat), (31 : Nat))]) ∈ zT := List.mem_filter.mpr ⟨List.mem_of_getElem? (i := 706) (by decide +kernel), by decide +kernel⟩
theorem zm669 : (Jvm.Cond.static ({ cls := "SluiceStreamLaw", name := "endOf", desc := "(LSluiceStream;I[J)I" } : Jvm.MethodName)) ∈ zT := List.mem_filter.mpr ⟨List.mem_of_getElem? (i := 705) (by decide +kernel), by decide +kernel⟩
theorem zm996 : (Jvm.Cond.methodLink "SluiceStreamLaw" (125 : Nat) ({ cls := "SluiceStreamModel", name := "endOf", desc := "(I)I" } : Jvm.MethodName)) ∈ zT := List.mem_filter.mpr ⟨List.mem_of_getElem? (i := 1032) (by decide +kernel), by decide +kernel⟩
theorem zm999 : (Jvm.Cond.code ({ cls := "SluiceStreamModel", name := "endOf", desc := "(I)I" } : Jvm.MethodName) prog_8_method_38_code (2 : Nat) (Option.some Jvm.ClassFile.FieldType.int)) ∈ zT := List.mem_filter.mpr ⟨List.mem_of_getElem? (i := 1035) (by decide +kernel), by decide +kernel⟩
theorem zm997 : (Jvm.Cond.instanceMethod ({ cls := "SluiceStreamModel", name := "endOf", desc := "(I)I" } : Jvm.MethodName)) ∈ zT := List.mem_filter.mpr ⟨List.mem_of_getElem? (i := 1033) (by decide +kernel), by decide +kernel⟩
theorem zm998 : (Jvm.Cond.selects "SluiceStreamModel" ({ cls := "SluiceStreamModel", name := "endOf", desc := "(I)I" } : Jvm.MethodName) ({ cls := "SluiceStreamModel", name := "endOf", desc := "(I)I" } : Jvm.MethodName)) ∈ zT := List.mem_filter.mpr ⟨List.mem_of_getElem? (i := 1034) (by decide +kernel), by decide +kernel⟩
theorem zm268 : (Jvm.Cond.methodLink "SluiceStreamLaw" (126 : Nat) ({ cls := "SluiceStream", name := "acks", desc := "()I" } : Jvm.MethodName)) ∈ zT := List.mem_filter.mpr ⟨List.mem_of_getElem? (i := 304) (by decide +kernel), by decide +kernel⟩
theorem zm271 : (Jvm.Cond.code ({ cls := "SluiceStream", name := "acks", desc := "()I" } : Jvm.MethodName) prog_1_method_15_code (1 : Nat) (Option.some Jvm.ClassFile.FieldType.int)) ∈ zT := List.mem_filter.mpr ⟨List.mem_of_getElem? (i := 307) (by decide +kernel), by decide +kernel⟩
theorem zm269 : (Jvm.Cond.instanceMethod ({ cls := "SluiceStream", name := "acks", desc := "()I" } : Jvm.MethodName)) ∈ zT := List.mem_filter.mpr ⟨List.mem_of_getElem? (i := 305) (by decide +kernel), by decide +kernel⟩
theorem zm270 : (Jvm.Cond.selects "SluiceStream" ({ cls := "SluiceStream", name := "acks", desc := "()I" } : Jvm.MethodName) ({ cls := "SluiceStream", name := "acks", desc := "()I" } : Jvm.MethodName)) ∈ zT := List.mem_filter.mpr ⟨List.mem_of_getElem? (i := 306) (by decide +kernel), by decide +kernel⟩
theorem zm1000 : (Jvm.Cond.methodLink "SluiceStreamLaw" (129 : Nat) ({ cls := "SluiceStreamModel", name := "acks", desc := "()I" } : Jvm.MethodName)) ∈ zT := List.mem_filter.mpr ⟨List.mem_of_getElem? (i := 1036) (by decide +kernel), by decide +kernel⟩
theorem zm1003 : (Jvm.Cond.code ({ cls := "SluiceStreamModel", name := "acks", desc := "()I" } : Jvm.MethodName) prog_8_method_39_code (1 : Nat) (Option.some Jvm.ClassFile.FieldType.int)) ∈ zT := List.mem_filter.mpr ⟨List.mem_of_getElem? (i := 1039) (by decide +kernel), by decide +kernel⟩
theorem zm1001 : (Jvm.Cond.instanceMethod ({ cls := "SluiceStreamModel", name := "acks", desc := "()I" } : Jvm.MethodName)) ∈ zT := List.mem_filter.mpr ⟨List.mem_of_getElem? (i := 1037) (by decide +kernel), by decide +kernel⟩
theorem zm1002 : (Jvm.Cond.selects "SluiceStreamModel" ({ cls := "SluiceStreamModel", name := "acks", desc := "()I" } : Jvm.MethodName) ({ cls := "SluiceStreamModel", name := "acks", desc := "()I" } : Jvm.MethodName)) ∈ zT := List.mem_filter.mpr ⟨List.mem_of_getElem? (i := 1038) (by decide +kernel), by decide +kernel⟩
theorem zm675 : (Jvm.Cond.methodLink "SluiceStreamLaw" (130 : Nat) ({ cls := "SluiceStreamLaw", name := "ackNumber", desc := "(LSluiceStream;I[J)I" } : Jvm.MethodName)) ∈ zT := List.mem_filter.mpr ⟨List.mem_of_getElem? (i := 711) (by decide +kernel), by decide +kernel⟩
theorem zm677 : (Jvm.Cond.codeWith ({ cls := "SluiceStreamLaw", name := "ackNumber", desc := "(LSluiceStream;I[J)I" } : Jvm.MethodName) method_14_code (4 : Nat) (Option.some Jvm.ClassFile.FieldType.int) [((0 : Nat), (9 : Nat), (12 : Nat), (31 : Nat))]) ∈ zT := List.mem_filter.mpr ⟨List.mem_of_getElem? (i := 713) (by decide +kernel), by decide +kernel⟩
theorem zm676 : (Jvm.Cond.static ({ cls := "SluiceStreamLaw", name := "ackNumber", desc := "(LSluiceStream;I[J)I" } : Jvm.MethodName)) ∈ zT := List.mem_filter.mpr ⟨List.mem_of_getElem? (i := 712) (by decide +kernel), by decide +kernel⟩
theorem zm1004 : (Jvm.Cond.methodLink "SluiceStreamLaw" (132 : Nat) ({ cls := "SluiceStreamModel", name := "ackNumber", desc := "(I)I" } : Jvm.MethodName)) ∈ zT := List.mem_filter.mpr ⟨List.mem_of_getElem? (i := 1040) (by decide +kernel), by decide +kernel⟩
theorem zm1007 : (Jvm.Cond.code ({ cls := "SluiceStreamModel", name := "ackNumber", desc := "(I)I" } : Jvm.MethodName) prog_8_method_40_code (2 : Nat) (Option.some Jvm.ClassFile.FieldType.int)) ∈ zT := List.mem_filter.mpr ⟨List.mem_of_getElem? (i := 1043) (by decide +kernel), by decide +kernel⟩
theorem zm1005 : (Jvm.Cond.instanceMethod ({ cls := "SluiceStreamModel", name := "ackNumber", desc := "(I)I" } : Jvm.MethodName)) ∈ zT := List.mem_filter.mpr ⟨List.mem_of_getElem? (i := 1041) (by decide +kernel), by decide +kernel⟩
theorem zm1006 : (Jvm.Cond.selects "SluiceStreamModel" ({ cls := "SluiceStreamModel", name := "ackNumber", desc := "(I)I" } : Jvm.MethodName) ({ cls := "SluiceStreamModel", name := "ackNumber", desc := "(I)I" } : Jvm.MethodName)) ∈ zT := List.mem_filter.mpr ⟨List.mem_of_getElem? (i := 1042) (by decide +kernel), by decide +kernel⟩
theorem zm682 : (Jvm.Cond.methodLink "SluiceStreamLaw" (133 : Nat) ({ cls := "SluiceStreamLaw", name := "ackWindow", desc := "(LSluiceStream;I[J)I" } : Jvm.MethodName)) ∈ zT := List.mem_filter.mpr ⟨List.mem_of_getElem? (i := 718) (by decide +kernel), by decide +kernel⟩
theorem zm684 : (Jvm.Cond.codeWith ({ cls := "SluiceStreamLaw", name := "ackWindow", desc := "(LSluiceStream;I[J)I" } : Jvm.MethodName) method_15_code (4 : Nat) (Option.some Jvm.ClassFile.FieldType.int) [((0 : Nat), (9 : Nat), (12 : Nat), (31 : Nat))]) ∈ zT := List.mem_filter.mpr ⟨List.mem_of_getElem? (i := 720) (by decide +kernel), by decide +kernel⟩
theorem zm683 : (Jvm.Cond.static ({ cls := "SluiceStreamLaw", name := "ackWindow", desc := "(LSluiceStream;I[J)I" } : Jvm.MethodName)) ∈ zT := List.mem_filter.mpr ⟨List.mem_of_getElem? (i := 719) (by decide +kernel), by decide +kernel⟩
theorem zm1008 : (Jvm.Cond.methodLink "SluiceStreamLaw" (135 : Nat) ({ cls := "SluiceStreamModel", name := "ackWindow", desc := "(I)I" } : Jvm.MethodName)) ∈ zT := List.mem_filter.mpr ⟨List.mem_of_getElem? (i := 1044) (by decide +kernel), by decide +kernel⟩
theorem zm1011 : (Jvm.Cond.code ({ cls := "SluiceStreamModel", name := "ackWindow", desc := "(I)I" } : Jvm.MethodName) prog_8_method_41_code (2 : Nat) (Option.some Jvm.ClassFile.FieldType.int)) ∈ zT := List.mem_filter.mpr ⟨List.mem_of_getElem? (i := 1047) (by decide +kernel), by decide +kernel⟩
theorem zm1009 : (Jvm.Cond.instanceMethod ({ cls := "SluiceStreamModel", name := "ackWindow", desc := "(I)I" } : Jvm.MethodName)) ∈ zT := List.mem_filter.mpr ⟨List.mem_of_getElem? (i := 1045) (by decide +kernel), by decide +kernel⟩
theorem zm1010 : (Jvm.Cond.selects "SluiceStreamModel" ({ cls := "SluiceStreamModel", name := "ackWindow", desc := "(I)I" } : Jvm.MethodName) ({ cls := "SluiceStreamModel", name := "ackWindow", desc := "(I)I" } : Jvm.MethodName)) ∈ zT := List.mem_filter.mpr ⟨List.mem_of_getElem? (i := 1046) (by decide +kernel), by decide +kernel⟩
theorem zm689 : (Jvm.Cond.methodLink "SluiceStreamLaw" (136 : Nat) ({ cls := "SluiceStreamLaw", name := "ackBlocks", desc := "(LSluiceStream;I[J)I" } : Jvm.MethodName)) ∈ zT := List.mem_filter.mpr ⟨List.mem_of_getElem? (i := 725) (by decide +kernel), by decide +kernel⟩
theorem zm691 : (Jvm.Cond.codeWith ({ cls := "SluiceStreamLaw", name := "ackBlocks", desc := "(LSluiceStream;I[J)I" } : Jvm.MethodName) method_16_code (4 : Nat) (Option.some Jvm.ClassFile.FieldType.int) [((0 : Nat), (9 : Nat), (12 : Nat), (31 : Nat))]) ∈ zT := List.mem_filter.mpr ⟨List.mem_of_getElem? (i := 727) (by decide +kernel), by decide +kernel⟩
theorem zm690 : (Jvm.Cond.static ({ cls := "SluiceStreamLaw", name := "ackBlocks", desc := "(LSluiceStream;I[J)I" } : Jvm.MethodName)) ∈ zT := List.mem_filter.mpr ⟨List.mem_of_getElem? (i := 726) (by decide +kernel), by decide +kernel⟩
theorem zm1012 : (Jvm.Cond.methodLink "SluiceStreamLaw" (138 : Nat) ({ cls := "SluiceStreamModel", name := "ackBlocks", desc := "(I)I" } : Jvm.MethodName)) ∈ zT := List.mem_filter.mpr ⟨List.mem_of_getElem? (i := 1048) (by decide +kernel), by decide +kernel⟩
theorem zm1015 : (Jvm.Cond.code ({ cls := "SluiceStreamModel", name := "ackBlocks", desc := "(I)I" } : Jvm.MethodName) prog_8_method_42_code (2 : Nat) (Option.some Jvm.ClassFile.FieldType.int)) ∈ zT := List.mem_filter.mpr ⟨List.mem_of_getElem? (i := 1051) (by decide +kernel), by decide +kernel⟩
theorem zm1013 : (Jvm.Cond.instanceMethod ({ cls := "SluiceStreamModel", name := "ackBlocks", desc := "(I)I" } : Jvm.MethodName)) ∈ zT := List.mem_filter.mpr ⟨List.mem_of_getElem? (i := 1049) (by decide +kernel), by decide +kernel⟩
theorem zm1014 : (Jvm.Cond.selects "SluiceStreamModel" ({ cls := "SluiceStreamModel", name := "ackBlocks", desc := "(I)I" } : Jvm.MethodName) ({ cls := "SluiceStreamModel", name := "ackBlocks", desc := "(I)I" } : Jvm.MethodName)) ∈ zT := List.mem_filter.mpr ⟨List.mem_of_getElem? (i := 1050) (by decide +kernel), by decide +kernel⟩
theorem zm696 : (Jvm.Cond.methodLink "SluiceStreamLaw" (139 : Nat) ({ cls := "SluiceStreamLaw", name := "ackBlock", desc := "(LSluiceStream;II[J)I" } : Jvm.MethodName)) ∈ zT := List.mem_filter.mpr ⟨List.mem_of_getElem? (i := 732) (by decide +kernel), by decide +kernel⟩
theorem zm698 : (Jvm.Cond.codeWith ({ cls := "SluiceStreamLaw", name := "ackBlock", desc := "(LSluiceStream;II[J)I" } : Jvm.MethodName) method_17_code (5 : Nat) (Option.some Jvm.ClassFile.FieldType.int) [((0 : Nat), (10 : Nat), (13 : Nat), (31 : Nat))]) ∈ zT := List.mem_filter.mpr ⟨List.mem_of_getElem? (i := 734) (by decide +kernel), by decide +kernel⟩
theorem zm697 : (Jvm.Cond.static ({ cls := "SluiceStreamLaw", name := "ackBlock", desc := "(LSluiceStream;II[J)I" } : Jvm.MethodName)) ∈ zT := List.mem_filter.mpr ⟨List.mem_of_getElem? (i := 733) (by decide +kernel), by decide +kernel⟩
theorem zm1016 : (Jvm.Cond.methodLink "SluiceStreamLaw" (141 : Nat) ({ cls := "SluiceStreamModel", name := "ackBlock", desc := "(II)I" } : Jvm.MethodName)) ∈ zT := List.mem_filter.mpr ⟨List.mem_of_getElem? (i := 1052) (by decide +kernel), by decide +kernel⟩
theorem zm1019 : (Jvm.Cond.code ({ cls := "SluiceStreamModel", name := "ackBlock", desc := "(II)I" } : Jvm.MethodName) prog_8_method_43_code (3 : Nat) (Option.some Jvm.ClassFile.FieldType.int)) ∈ zT := List.mem_filter.mpr ⟨List.mem_of_getElem? (i := 1055) (by decide +kernel), by decide +kernel⟩
theorem zm1017 : (Jvm.Cond.instanceMethod ({ cls := "SluiceStreamModel", name := "ackBlock", desc := "(II)I" } : Jvm.MethodName)) ∈ zT := List.mem_filter.mpr ⟨List.mem_of_getElem? (i := 1053) (by decide +kernel), by decide +kernel⟩
theorem zm1018 : (Jvm.Cond.selects "SluiceStreamModel" ({ cls := "SluiceStreamModel", name := "ackBlock", desc := "(II)I" } : Jvm.MethodName) ({ cls := "SluiceStreamModel", name := "ackBlock", desc := "(II)I" } : Jvm.MethodName)) ∈ zT := List.mem_filter.mpr ⟨List.mem_of_getElem? (i := 1054) (by decide +kernel), by decide +kernel⟩
theorem zm272 : (Jvm.Cond.methodLink "SluiceStreamLaw" (142 : Nat) ({ cls := "SluiceStream", name := "time", desc := "()I" } : Jvm.MethodName)) ∈ zT := List.mem_filter.mpr ⟨List.mem_of_getElem? (i := 308) (by decide +kernel), by decide +kernel⟩
theorem zm275 : (Jvm.Cond.code ({ cls := "SluiceStream", name := "time", desc := "()I" } : Jvm.MethodName) prog_1_method_20_code (1 : Nat) (Option.some Jvm.ClassFile.FieldType.int)) ∈ zT := List.mem_filter.mpr ⟨List.mem_of_getElem? (i := 311) (by decide +kernel), by decide +kernel⟩
theorem zm273 : (Jvm.Cond.instanceMethod ({ cls := "SluiceStream", name := "time", desc := "()I" } : Jvm.MethodName)) ∈ zT := List.mem_filter.mpr ⟨List.mem_of_getElem? (i := 309) (by decide +kernel), by decide +kernel⟩
theorem zm274 : (Jvm.Cond.selects "SluiceStream" ({ cls := "SluiceStream", name := "time", desc := "()I" } : Jvm.MethodName) ({ cls := "SluiceStream", name := "time", desc := "()I" } : Jvm.MethodName)) ∈ zT := List.mem_filter.mpr ⟨List.mem_of_getElem? (i := 310) (by decide +kernel), by decide +kernel⟩
theorem zm1020 : (Jvm.Cond.methodLink "SluiceStreamLaw" (145 : Nat) ({ cls := "SluiceStreamModel", name := "time", desc := "()I" } : Jvm.MethodName)) ∈ zT := List.mem_filter.mpr ⟨List.mem_of_getElem? (i := 1056) (by decide +kernel), by decide +kernel⟩
theorem zm1023 : (Jvm.Cond.code ({ cls := "SluiceStreamModel", name := "time", desc := "()I" } : Jvm.MethodName) prog_8_method_44_code (1 : Nat) (Option.some Jvm.ClassFile.FieldType.int)) ∈ zT := List.mem_filter.mpr ⟨List.mem_of_getElem? (i := 1059) (by decide +kernel), by decide +kernel⟩
theorem zm1021 : (Jvm.Cond.instanceMethod ({ cls := "SluiceStreamModel", name := "time", desc := "()I" } : Jvm.MethodName)) ∈ zT := List.mem_filter.mpr ⟨List.mem_of_getElem? (i := 1057) (by decide +kernel), by decide +kernel⟩
theorem zm1022 : (Jvm.Cond.selects "SluiceStreamModel" ({ cls := "SluiceStreamModel", name := "time", desc := "()I" } : Jvm.MethodName) ({ cls := "SluiceStreamModel", name := "time", desc := "()I" } : Jvm.MethodName)) ∈ zT := List.mem_filter.mpr ⟨List.mem_of_getElem? (i := 1058) (by decide +kernel), by decide +kernel⟩
theorem zm276 : (Jvm.Cond.methodLink "SluiceStreamLaw" (146 : Nat) ({ cls := "SluiceStream", name := "acknowledged", desc := "()I" } : Jvm.MethodName)) ∈ zT := List.mem_filter.mpr ⟨List.mem_of_getElem? (i := 312) (by decide +kernel), by decide +kernel⟩
theorem zm279 : (Jvm.Cond.code ({ cls := "SluiceStream", name := "acknowledged", desc := "()I" } : Jvm.MethodName) prog_1_method_21_code (1 : Nat) (Option.some Jvm.ClassFile.FieldType.int)) ∈ zT := List.mem_filter.mpr ⟨List.mem_of_getElem? (i := 315) (by decide +kernel), by decide +kernel⟩
theorem zm277 : (Jvm.Cond.instanceMethod ({ cls := "SluiceStream", name := "acknowledged", desc := "()I" } : Jvm.MethodName)) ∈ zT := List.mem_filter.mpr ⟨List.mem_of_getElem? (i := 313) (by decide +kernel), by decide +kernel⟩
theorem zm278 : (Jvm.Cond.selects "SluiceStream" ({ cls := "SluiceStream", name := "acknowledged", desc := "()I" } : Jvm.MethodName) ({ cls := "SluiceStream", name := "acknowledged", desc := "()I" } : Jvm.MethodName)) ∈ zT := List.mem_filter.mpr ⟨List.mem_of_getElem? (i := 314) (by decide +kernel), by decide +kernel⟩
theorem zm1024 : (Jvm.Cond.methodLink "SluiceStreamLaw" (149 : Nat) ({ cls := "SluiceStreamModel", name := "acknowledged", desc := "()I" } : Jvm.MethodName)) ∈ zT := List.mem_filter.mpr ⟨List.mem_of_getElem? (i := 1060) (by decide +kernel), by decide +kernel⟩
theorem zm1027 : (Jvm.Cond.code ({ cls := "SluiceStreamModel", name := "acknowledged", desc := "()I" } : Jvm.MethodName) prog_8_method_45_code (1 : Nat) (Option.some Jvm.ClassFile.FieldType.int)) ∈ zT := List.mem_filter.mpr ⟨List.mem_of_getElem? (i := 1063) (by decide +kernel), by decide +kernel⟩
theorem zm1025 : (Jvm.Cond.instanceMethod ({ cls := "SluiceStreamModel", name := "acknowledged", desc := "()I" } : Jvm.MethodName)) ∈ zT := List.mem_filter.mpr ⟨List.mem_of_getElem? (i := 1061) (by decide +kernel), by decide +kernel⟩
theorem zm1026 : (Jvm.Cond.selects "SluiceStreamModel" ({ cls := "SluiceStreamModel", name := "acknowledged", desc := "()I" } : Jvm.MethodName) ({ cls := "SluiceStreamModel", name := "acknowledged", desc := "()I" } : Jvm.MethodName)) ∈ zT := List.mem_filter.mpr ⟨List.mem_of_getElem? (i := 1062) (by decide +kernel), by decide +kernel⟩
theorem zm280 : (Jvm.Cond.methodLink "SluiceStreamLaw" (150 : Nat) ({ cls := "SluiceStream", name := "next", desc := "()I" } : Jvm.MethodName)) ∈ zT := List.mem_filter.mpr ⟨List.mem_of_getElem? (i := 316) (by decide +kernel), by decide +kernel⟩
theorem zm283 : (Jvm.Cond.code ({ cls := "SluiceStream", name := "next", desc := "()I" } : Jvm.MethodName) prog_1_method_22_code (1 : Nat) (Option.some Jvm.ClassFile.FieldType.int)) ∈ zT := List.mem_filter.mpr ⟨List.mem_of_getElem? (i := 319) (by decide +kernel), by decide +kernel⟩
theorem zm281 : (Jvm.Cond.instanceMethod ({ cls := "SluiceStream", name := "next", desc := "()I" } : Jvm.MethodName)) ∈ zT := List.mem_filter.mpr ⟨List.mem_of_getElem? (i := 317) (by decide +kernel), by decide +kernel⟩
theorem zm282 : (Jvm.Cond.selects "SluiceStream" ({ cls := "SluiceStream", name := "next", desc := "()I" } : Jvm.MethodName) ({ cls := "SluiceStream", name := "next", desc := "()I" } : Jvm.MethodName)) ∈ zT := List.mem_filter.mpr ⟨List.mem_of_getElem? (i := 318) (by decide +kernel), by decide +kernel⟩
theorem zm1028 : (Jvm.Cond.methodLink "SluiceStreamLaw" (153 : Nat) ({ cls := "SluiceStreamModel", name := "next", desc := "()I" } : Jvm.MethodName)) ∈ zT := List.mem_filter.mpr ⟨List.mem_of_getElem? (i := 1064) (by decide +kernel), by decide +kernel⟩
theorem zm1031 : (Jvm.Cond.code ({ cls := "SluiceStreamModel", name := "next", desc := "()I" } : Jvm.MethodName) prog_8_method_46_code (1 : Nat) (Option.some Jvm.ClassFile.FieldType.int)) ∈ zT := List.mem_filter.mpr ⟨List.mem_of_getElem? (i := 1067) (by decide +kernel), by decide +kernel⟩
theorem zm1029 : (Jvm.Cond.instanceMethod ({ cls := "SluiceStreamModel", name := "next", desc := "()I" } : Jvm.MethodName)) ∈ zT := List.mem_filter.mpr ⟨List.mem_of_getElem? (i := 1065) (by decide +kernel), by decide +kernel⟩
theorem zm1030 : (Jvm.Cond.selects "SluiceStreamModel" ({ cls := "SluiceStreamModel", name := "next", desc := "()I" } : Jvm.MethodName) ({ cls := "SluiceStreamModel", name := "next", desc := "()I" } : Jvm.MethodName)) ∈ zT := List.mem_filter.mpr ⟨List.mem_of_getElem? (i := 1066) (by decide +kernel), by decide +kernel⟩
theorem zm284 : (Jvm.Cond.methodLink "SluiceStreamLaw" (154 : Nat) ({ cls := "SluiceStream", name := "highest", desc := "()I" } : Jvm.MethodName)) ∈ zT := List.mem_filter.mpr ⟨List.mem_of_getElem? (i := 320) (by decide +kernel), by decide +kernel⟩
theorem zm287 : (Jvm.Cond.code ({ cls := "SluiceStream", name := "highest", desc := "()I" } : Jvm.MethodName) prog_1_method_23_code (1 : Nat) (Option.some Jvm.ClassFile.FieldType.int)) ∈ zT := List.mem_filter.mpr ⟨List.mem_of_getElem? (i := 323) (by decide +kernel), by decide +kernel⟩
theorem zm285 : (Jvm.Cond.instanceMethod ({ cls := "SluiceStream", name := "highest", desc := "()I" } : Jvm.MethodName)) ∈ zT := List.mem_filter.mpr ⟨List.mem_of_getElem? (i := 321) (by decide +kernel), by decide +kernel⟩
theorem zm286 : (Jvm.Cond.selects "SluiceStream" ({ cls := "SluiceStream", name := "highest", desc := "()I" } : Jvm.MethodName) ({ cls := "SluiceStream", name := "highest", desc := "()I" } : Jvm.MethodName)) ∈ zT := List.mem_filter.mpr ⟨List.mem_of_getElem? (i := 322) (by decide +kernel), by decide +kernel⟩
theorem zm1032 : (Jvm.Cond.methodLink "SluiceStreamLaw" (157 : Nat) ({ cls := "SluiceStreamModel", name := "highest", desc := "()I" } : Jvm.MethodName)) ∈ zT := List.mem_filter.mpr ⟨List.mem_of_getElem? (i := 1068) (by decide +kernel), by decide +kernel⟩
theorem zm1035 : (Jvm.Cond.code ({ cls := "SluiceStreamModel", name := "highest", desc := "()I" } : Jvm.MethodName) prog_8_method_47_code (1 : Nat) (Option.some Jvm.ClassFile.FieldType.int)) ∈ zT := List.mem_filter.mpr ⟨List.mem_of_getElem? (i := 1071) (by decide +kernel), by decide +kernel⟩
theorem zm1033 : (Jvm.Cond.instanceMethod ({ cls := "SluiceStreamModel", name := "highest", desc := "()I" } : Jvm.MethodName)) ∈ zT := List.mem_filter.mpr ⟨List.mem_of_getElem? (i := 1069) (by decide +kernel), by decide +kernel⟩
theorem zm1034 : (Jvm.Cond.selects "SluiceStreamModel" ({ cls := "SluiceStreamModel", name := "highest", desc := "()I" } : Jvm.MethodName) ({ cls := "SluiceStreamModel", name := "highest", desc := "()I" } : Jvm.MethodName)) ∈ zT := List.mem_filter.mpr ⟨List.mem_of_getElem? (i := 1070) (by decide +kernel), by decide +kernel⟩
theorem zm288 : (Jvm.Cond.methodLink "SluiceStreamLaw" (158 : Nat) ({ cls := "SluiceStream", name := "written", desc := "()I" } : Jvm.MethodName)) ∈ zT := List.mem_filter.mpr ⟨List.mem_of_getElem? (i := 324) (by decide +kernel), by decide +kernel⟩
theorem zm291 : (Jvm.Cond.code ({ cls := "SluiceStream", name := "written", desc := "()I" } : Jvm.MethodName) prog_1_method_24_code (1 : Nat) (Option.some Jvm.ClassFile.FieldType.int)) ∈ zT := List.mem_filter.mpr ⟨List.mem_of_getElem? (i := 327) (by decide +kernel), by decide +kernel⟩
theorem zm289 : (Jvm.Cond.instanceMethod ({ cls := "SluiceStream", name := "written", desc := "()I" } : Jvm.MethodName)) ∈ zT := List.mem_filter.mpr ⟨List.mem_of_getElem? (i := 325) (by decide +kernel), by decide +kernel⟩
theorem zm290 : (Jvm.Cond.selects "SluiceStream" ({ cls := "SluiceStream", name := "written", desc := "()I" } : Jvm.MethodName) ({ cls := "SluiceStream", name := "written", desc := "()I" } : Jvm.MethodName)) ∈ zT := List.mem_filter.mpr ⟨List.mem_of_getElem? (i := 326) (by decide +kernel), by decide +kernel⟩
theorem zm1036 : (Jvm.Cond.methodLink "SluiceStreamLaw" (161 : Nat) ({ cls := "SluiceStreamModel", name := "written", desc := "()I" } : Jvm.MethodName)) ∈ zT := List.mem_filter.mpr ⟨List.mem_of_getElem? (i := 1072) (by decide +kernel), by decide +kernel⟩
theorem zm1039 : (Jvm.Cond.code ({ cls := "SluiceStreamModel", name := "written", desc := "()I" } : Jvm.MethodName) prog_8_method_48_code (1 : Nat) (Option.some Jvm.ClassFile.FieldType.int)) ∈ zT := List.mem_filter.mpr ⟨List.mem_of_getElem? (i := 1075) (by decide +kernel), by decide +kernel⟩
theorem zm1037 : (Jvm.Cond.instanceMethod ({ cls := "SluiceStreamModel", name := "written", desc := "()I" } : Jvm.MethodName)) ∈ zT := List.mem_filter.mpr ⟨List.mem_of_getElem? (i := 1073) (by decide +kernel), by decide +kernel⟩
theorem zm1038 : (Jvm.Cond.selects "SluiceStreamModel" ({ cls := "SluiceStreamModel", name := "written", desc := "()I" } : Jvm.MethodName) ({ cls := "SluiceStreamModel", name := "written", desc := "()I" } : Jvm.MethodName)) ∈ zT := List.mem_filter.mpr ⟨List.mem_of_getElem? (i := 1074) (by decide +kernel), by decide +kernel⟩
theorem zm292 : (Jvm.Cond.methodLink "SluiceStreamLaw" (162 : Nat) ({ cls := "SluiceStream", name := "edge", desc := "()I" } : Jvm.MethodName)) ∈ zT := List.mem_filter.mpr ⟨List.mem_of_getElem? (i := 328) (by decide +kernel), by decide +kernel⟩
theorem zm295 : (Jvm.Cond.code ({ cls := "SluiceStream", name := "edge", desc := "()I" } : Jvm.MethodName) prog_1_method_25_code (1 : Nat) (Option.some Jvm.ClassFile.FieldType.int)) ∈ zT := List.mem_filter.mpr ⟨List.mem_of_getElem? (i := 331) (by decide +kernel), by decide +kernel⟩
theorem zm293 : (Jvm.Cond.instanceMethod ({ cls := "SluiceStream", name := "edge", desc := "()I" } : Jvm.MethodName)) ∈ zT := List.mem_filter.mpr ⟨List.mem_of_getElem? (i := 329) (by decide +kernel), by decide +kernel⟩
theorem zm294 : (Jvm.Cond.selects "SluiceStream" ({ cls := "SluiceStream", name := "edge", desc := "()I" } : Jvm.MethodName) ({ cls := "SluiceStream", name := "edge", desc := "()I" } : Jvm.MethodName)) ∈ zT := List.mem_filter.mpr ⟨List.mem_of_getElem? (i := 330) (by decide +kernel), by decide +kernel⟩
theorem zm1040 : (Jvm.Cond.methodLink "SluiceStreamLaw" (165 : Nat) ({ cls := "SluiceStreamModel", name := "edge", desc := "()I" } : Jvm.MethodName)) ∈ zT := List.mem_filter.mpr ⟨List.mem_of_getElem? (i := 1076) (by decide +kernel), by decide +kernel⟩
theorem zm1043 : (Jvm.Cond.code ({ cls := "SluiceStreamModel", name := "edge", desc := "()I" } : Jvm.MethodName) prog_8_method_49_code (1 : Nat) (Option.some Jvm.ClassFile.FieldType.int)) ∈ zT := List.mem_filter.mpr ⟨List.mem_of_getElem? (i := 1079) (by decide +kernel), by decide +kernel⟩
theorem zm1041 : (Jvm.Cond.instanceMethod ({ cls := "SluiceStreamModel", name := "edge", desc := "()I" } : Jvm.MethodName)) ∈ zT := List.mem_filter.mpr ⟨List.mem_of_getElem? (i := 1077) (by decide +kernel), by decide +kernel⟩
theorem zm1042 : (Jvm.Cond.selects "SluiceStreamModel" ({ cls := "SluiceStreamModel", name := "edge", desc := "()I" } : Jvm.MethodName) ({ cls := "SluiceStreamModel", name := "edge", desc := "()I" } : Jvm.MethodName)) ∈ zT := List.mem_filter.mpr ⟨List.mem_of_getElem? (i := 1078) (by decide +kernel), by decide +kernel⟩
theorem zm296 : (Jvm.Cond.methodLink "SluiceStreamLaw" (166 : Nat) ({ cls := "SluiceStream", name := "inFlight", desc := "()I" } : Jvm.MethodName)) ∈ zT := List.mem_filter.mpr ⟨List.mem_of_getElem? (i := 332) (by decide +kernel), by decide +kernel⟩
theorem zm299 : (Jvm.Cond.code ({ cls := "SluiceStream", name := "inFlight", desc := "()I" } : Jvm.MethodName) prog_1_method_26_code (1 : Nat) (Option.some Jvm.ClassFile.FieldType.int)) ∈ zT := List.mem_filter.mpr ⟨List.mem_of_getElem? (i := 335) (by decide +kernel), by decide +kernel⟩
theorem zm297 : (Jvm.Cond.instanceMethod ({ cls := "SluiceStream", name := "inFlight", desc := "()I" } : Jvm.MethodName)) ∈ zT := List.mem_filter.mpr ⟨List.mem_of_getElem? (i := 333) (by decide +kernel), by decide +kernel⟩
theorem zm298 : (Jvm.Cond.selects "SluiceStream" ({ cls := "SluiceStream", name := "inFlight", desc := "()I" } : Jvm.MethodName) ({ cls := "SluiceStream", name := "inFlight", desc := "()I" } : Jvm.MethodName)) ∈ zT := List.mem_filter.mpr ⟨List.mem_of_getElem? (i := 334) (by decide +kernel), by decide +kernel⟩
theorem zm1044 : (Jvm.Cond.methodLink "SluiceStreamLaw" (169 : Nat) ({ cls := "SluiceStreamModel", name := "inFlight", desc := "()I" } : Jvm.MethodName)) ∈ zT := List.mem_filter.mpr ⟨List.mem_of_getElem? (i := 1080) (by decide +kernel), by decide +kernel⟩
theorem zm1047 : (Jvm.Cond.code ({ cls := "SluiceStreamModel", name := "inFlight", desc := "()I" } : Jvm.MethodName) prog_8_method_50_code (1 : Nat) (Option.some Jvm.ClassFile.FieldType.int)) ∈ zT := List.mem_filter.mpr ⟨List.mem_of_getElem? (i := 1083) (by decide +kernel), by decide +kernel⟩
theorem zm1045 : (Jvm.Cond.instanceMethod ({ cls := "SluiceStreamModel", name := "inFlight", desc := "()I" } : Jvm.MethodName)) ∈ zT := List.mem_filter.mpr ⟨List.mem_of_getElem? (i := 1081) (by decide +kernel), by decide +kernel⟩
theorem zm1046 : (Jvm.Cond.selects "SluiceStreamModel" ({ cls := "SluiceStreamModel", name := "inFlight", desc := "()I" } : Jvm.MethodName) ({ cls := "SluiceStreamModel", name := "inFlight", desc := "()I" } : Jvm.MethodName)) ∈ zT := List.mem_filter.mpr ⟨List.mem_of_getElem? (i := 1082) (by decide +kernel), by decide +kernel⟩
theorem zm703 : (Jvm.Cond.methodLink "SluiceStreamLaw" (170 : Nat) ({ cls := "SluiceStreamLaw", name := "isMarked", desc := "(LSluiceStream;I[J)I" } : Jvm.MethodName)) ∈ zT := List.mem_filter.mpr ⟨List.mem_of_getElem? (i := 739) (by decide +kernel), by decide +kernel⟩
theorem zm705 : (Jvm.Cond.codeWith ({ cls := "SluiceStreamLaw", name := "isMarked", desc := "(LSluiceStream;I[J)I" } : Jvm.MethodName) method_18_code (4 : Nat) (Option.some Jvm.ClassFile.FieldType.int) [((0 : Nat), (16 : Nat), (19 : Nat), (31 : Nat))]) ∈ zT := List.mem_filter.mpr ⟨List.mem_of_getElem? (i := 741) (by decide +kernel), by decide +kernel⟩
theorem zm704 : (Jvm.Cond.static ({ cls := "SluiceStreamLaw", name := "isMarked", desc := "(LSluiceStream;I[J)I" } : Jvm.MethodName)) ∈ zT := List.mem_filter.mpr ⟨List.mem_of_getElem? (i := 740) (by decide +kernel), by decide +kernel⟩
theorem zm1048 : (Jvm.Cond.methodLink "SluiceStreamLaw" (172 : Nat) ({ cls := "SluiceStreamModel", name := "isMarked", desc := "(I)Z" } : Jvm.MethodName)) ∈ zT := List.mem_filter.mpr ⟨List.mem_of_getElem? (i := 1084) (by decide +kernel), by decide +kernel⟩
theorem zm1051 : (Jvm.Cond.code ({ cls := "SluiceStreamModel", name := "isMarked", desc := "(I)Z" } : Jvm.MethodName) prog_8_method_51_code (2 : Nat) (Option.some Jvm.ClassFile.FieldType.boolean)) ∈ zT := List.mem_filter.mpr ⟨List.mem_of_getElem? (i := 1087) (by decide +kernel), by decide +kernel⟩
theorem zm1049 : (Jvm.Cond.instanceMethod ({ cls := "SluiceStreamModel", name := "isMarked", desc := "(I)Z" } : Jvm.MethodName)) ∈ zT := List.mem_filter.mpr ⟨List.mem_of_getElem? (i := 1085) (by decide +kernel), by decide +kernel⟩
theorem zm1050 : (Jvm.Cond.selects "SluiceStreamModel" ({ cls := "SluiceStreamModel", name := "isMarked", desc := "(I)Z" } : Jvm.MethodName) ({ cls := "SluiceStreamModel", name := "isMarked", desc := "(I)Z" } : Jvm.MethodName)) ∈ zT := List.mem_filter.mpr ⟨List.mem_of_getElem? (i := 1086) (by decide +kernel), by decide +kernel⟩
theorem zm308 : (Jvm.Cond.methodLink "SluiceStreamLaw" (173 : Nat) ({ cls := "SluiceStream", name := "congestionWindow", desc := "()I" } : Jvm.MethodName)) ∈ zT := List.mem_filter.mpr ⟨List.mem_of_getElem? (i := 344) (by decide +kernel), by decide +kernel⟩
theorem zm311 : (Jvm.Cond.code ({ cls := "SluiceStream", name := "congestionWindow", desc := "()I" } : Jvm.MethodName) prog_1_method_28_code (1 : Nat) (Option.some Jvm.ClassFile.FieldType.int)) ∈ zT := List.mem_filter.mpr ⟨List.mem_of_getElem? (i := 347) (by decide +kernel), by decide +kernel⟩
theorem zm309 : (Jvm.Cond.instanceMethod ({ cls := "SluiceStream", name := "congestionWindow", desc := "()I" } : Jvm.MethodName)) ∈ zT := List.mem_filter.mpr ⟨List.mem_of_getElem? (i := 345) (by decide +kernel), by decide +kernel⟩
theorem zm310 : (Jvm.Cond.selects "SluiceStream" ({ cls := "SluiceStream", name := "congestionWindow", desc := "()I" } : Jvm.MethodName) ({ cls := "SluiceStream", name := "congestionWindow", desc := "()I" } : Jvm.MethodName)) ∈ zT := List.mem_filter.mpr ⟨List.mem_of_getElem? (i := 346) (by decide +kernel), by decide +kernel⟩
theorem zm1052 : (Jvm.Cond.methodLink "SluiceStreamLaw" (176 : Nat) ({ cls := "SluiceStreamModel", name := "congestionWindow", desc := "()I" } : Jvm.MethodName)) ∈ zT := List.mem_filter.mpr ⟨List.mem_of_getElem? (i := 1088) (by decide +kernel), by decide +kernel⟩
theorem zm1055 : (Jvm.Cond.code ({ cls := "SluiceStreamModel", name := "congestionWindow", desc := "()I" } : Jvm.MethodName) prog_8_method_52_code (1 : Nat) (Option.some Jvm.ClassFile.FieldType.int)) ∈ zT := List.mem_filter.mpr ⟨List.mem_of_getElem? (i := 1091) (by decide +kernel), by decide +kernel⟩
theorem zm1053 : (Jvm.Cond.instanceMethod ({ cls := "SluiceStreamModel", name := "congestionWindow", desc := "()I" } : Jvm.MethodName)) ∈ zT := List.mem_filter.mpr ⟨List.mem_of_getElem? (i := 1089) (by decide +kernel), by decide +kernel⟩
theorem zm1054 : (Jvm.Cond.selects "SluiceStreamModel" ({ cls := "SluiceStreamModel", name := "congestionWindow", desc := "()I" } : Jvm.MethodName) ({ cls := "SluiceStreamModel", name := "congestionWindow", desc := "()I" } : Jvm.MethodName)) ∈ zT := List.mem_filter.mpr ⟨List.mem_of_getElem? (i := 1090) (by decide +kernel), by decide +kernel⟩
theorem zm312 : (Jvm.Cond.methodLink "SluiceStreamLaw" (177 : Nat) ({ cls := "SluiceStream", name := "threshold", desc := "()I" } : Jvm.MethodName)) ∈ zT := List.mem_filter.mpr ⟨List.mem_of_getElem? (i := 348) (by decide +kernel), by decide +kernel⟩
theorem zm315 : (Jvm.Cond.code ({ cls := "SluiceStream", name := "threshold", desc := "()I" } : Jvm.MethodName) prog_1_method_29_code (1 : Nat) (Option.some Jvm.ClassFile.FieldType.int)) ∈ zT := List.mem_filter.mpr ⟨List.mem_of_getElem? (i := 351) (by decide +kernel), by decide +kernel⟩
theorem zm313 : (Jvm.Cond.instanceMethod ({ cls := "SluiceStream", name := "threshold", desc := "()I" } : Jvm.MethodName)) ∈ zT := List.mem_filter.mpr ⟨List.mem_of_getElem? (i := 349) (by decide +kernel), by decide +kernel⟩
theorem zm314 : (Jvm.Cond.selects "SluiceStream" ({ cls := "SluiceStream", name := "threshold", desc := "()I" } : Jvm.MethodName) ({ cls := "SluiceStream", name := "threshold", desc := "()I" } : Jvm.MethodName)) ∈ zT := List.mem_filter.mpr ⟨List.mem_of_getElem? (i := 350) (by decide +kernel), by decide +kernel⟩
theorem zm1056 : (Jvm.Cond.methodLink "SluiceStreamLaw" (180 : Nat) ({ cls := "SluiceStreamModel", name := "threshold", desc := "()I" } : Jvm.MethodName)) ∈ zT := List.mem_filter.mpr ⟨List.mem_of_getElem? (i := 1092) (by decide +kernel), by decide +kernel⟩
theorem zm1059 : (Jvm.Cond.code ({ cls := "SluiceStreamModel", name := "threshold", desc := "()I" } : Jvm.MethodName) prog_8_method_53_code (1 : Nat) (Option.some Jvm.ClassFile.FieldType.int)) ∈ zT := List.mem_filter.mpr ⟨List.mem_of_getElem? (i := 1095) (by decide +kernel), by decide +kernel⟩
theorem zm1057 : (Jvm.Cond.instanceMethod ({ cls := "SluiceStreamModel", name := "threshold", desc := "()I" } : Jvm.MethodName)) ∈ zT := List.mem_filter.mpr ⟨List.mem_of_getElem? (i := 1093) (by decide +kernel), by decide +kernel⟩
theorem zm1058 : (Jvm.Cond.selects "SluiceStreamModel" ({ cls := "SluiceStreamModel", name := "threshold", desc := "()I" } : Jvm.MethodName) ({ cls := "SluiceStreamModel", name := "threshold", desc := "()I" } : Jvm.MethodName)) ∈ zT := List.mem_filter.mpr ⟨List.mem_of_getElem? (i := 1094) (by decide +kernel), by decide +kernel⟩
theorem zm316 : (Jvm.Cond.methodLink "SluiceStreamLaw" (181 : Nat) ({ cls := "SluiceStream", name := "duplicates", desc := "()I" } : Jvm.MethodName)) ∈ zT := List.mem_filter.mpr ⟨List.mem_of_getElem? (i := 352) (by decide +kernel), by decide +kernel⟩
theorem zm319 : (Jvm.Cond.code ({ cls := "SluiceStream", name := "duplicates", desc := "()I" } : Jvm.MethodName) prog_1_method_30_code (1 : Nat) (Option.some Jvm.ClassFile.FieldType.int)) ∈ zT := List.mem_filter.mpr ⟨List.mem_of_getElem? (i := 355) (by decide +kernel), by decide +kernel⟩
theorem zm317 : (Jvm.Cond.instanceMethod ({ cls := "SluiceStream", name := "duplicates", desc := "()I" } : Jvm.MethodName)) ∈ zT := List.mem_filter.mpr ⟨List.mem_of_getElem? (i := 353) (by decide +kernel), by decide +kernel⟩
theorem zm318 : (Jvm.Cond.selects "SluiceStream" ({ cls := "SluiceStream", name := "duplicates", desc := "()I" } : Jvm.MethodName) ({ cls := "SluiceStream", name := "duplicates", desc := "()I" } : Jvm.MethodName)) ∈ zT := List.mem_filter.mpr ⟨List.mem_of_getElem? (i := 354) (by decide +kernel), by decide +kernel⟩
theorem zm1060 : (Jvm.Cond.methodLink "SluiceStreamLaw" (184 : Nat) ({ cls := "SluiceStreamModel", name := "duplicates", desc := "()I" } : Jvm.MethodName)) ∈ zT := List.mem_filter.mpr ⟨List.mem_of_getElem? (i := 1096) (by decide +kernel), by decide +kernel⟩
theorem zm1063 : (Jvm.Cond.code ({ cls := "SluiceStreamModel", name := "duplicates", desc := "()I" } : Jvm.MethodName) prog_8_method_54_code (1 : Nat) (Option.some Jvm.ClassFile.FieldType.int)) ∈ zT := List.mem_filter.mpr ⟨List.mem_of_getElem? (i := 1099) (by decide +kernel), by decide +kernel⟩
theorem zm1061 : (Jvm.Cond.instanceMethod ({ cls := "SluiceStreamModel", name := "duplicates", desc := "()I" } : Jvm.MethodName)) ∈ zT := List.mem_filter.mpr ⟨List.mem_of_getElem? (i := 1097) (by decide +kernel), by decide +kernel⟩
theorem zm1062 : (Jvm.Cond.selects "SluiceStreamModel" ({ cls := "SluiceStreamModel", name := "duplicates", desc := "()I" } : Jvm.MethodName) ({ cls := "SluiceStreamModel", name := "duplicates", desc := "()I" } : Jvm.MethodName)) ∈ zT := List.mem_filter.mpr ⟨List.mem_of_getElem? (i := 1098) (by decide +kernel), by decide +kernel⟩
theorem zm320 : (Jvm.Cond.methodLink "SluiceStreamLaw" (185 : Nat) ({ cls := "SluiceStream", name := "recoveryEnd", desc := "()I" } : Jvm.MethodName)) ∈ zT := List.mem_filter.mpr ⟨List.mem_of_getElem? (i := 356) (by decide +kernel), by decide +kernel⟩
theorem zm323 : (Jvm.Cond.code ({ cls := "SluiceStream", name := "recoveryEnd", desc := "()I" } : Jvm.MethodName) prog_1_method_31_code (1 : Nat) (Option.some Jvm.ClassFile.FieldType.int)) ∈ zT := List.mem_filter.mpr ⟨List.mem_of_getElem? (i := 359) (by decide +kernel), by decide +kernel⟩
theorem zm321 : (Jvm.Cond.instanceMethod ({ cls := "SluiceStream", name := "recoveryEnd", desc := "()I" } : Jvm.MethodName)) ∈ zT := List.mem_filter.mpr ⟨List.mem_of_getElem? (i := 357) (by decide +kernel), by decide +kernel⟩
theorem zm322 : (Jvm.Cond.selects "SluiceStream" ({ cls := "SluiceStream", name := "recoveryEnd", desc := "()I" } : Jvm.MethodName) ({ cls := "SluiceStream", name := "recoveryEnd", desc := "()I" } : Jvm.MethodName)) ∈ zT := List.mem_filter.mpr ⟨List.mem_of_getElem? (i := 358) (by decide +kernel), by decide +kernel⟩
theorem zm1064 : (Jvm.Cond.methodLink "SluiceStreamLaw" (188 : Nat) ({ cls := "SluiceStreamModel", name := "recoveryEnd", desc := "()I" } : Jvm.MethodName)) ∈ zT := List.mem_filter.mpr ⟨List.mem_of_getElem? (i := 1100) (by decide +kernel), by decide +kernel⟩
theorem zm1067 : (Jvm.Cond.code ({ cls := "SluiceStreamModel", name := "recoveryEnd", desc := "()I" } : Jvm.MethodName) prog_8_method_55_code (1 : Nat) (Option.some Jvm.ClassFile.FieldType.int)) ∈ zT := List.mem_filter.mpr ⟨List.mem_of_getElem? (i := 1103) (by decide +kernel), by decide +kernel⟩
theorem zm1065 : (Jvm.Cond.instanceMethod ({ cls := "SluiceStreamModel", name := "recoveryEnd", desc := "()I" } : Jvm.MethodName)) ∈ zT := List.mem_filter.mpr ⟨List.mem_of_getElem? (i := 1101) (by decide +kernel), by decide +kernel⟩
theorem zm1066 : (Jvm.Cond.selects "SluiceStreamModel" ({ cls := "SluiceStreamModel", name := "recoveryEnd", desc := "()I" } : Jvm.MethodName) ({ cls := "SluiceStreamModel", name := "recoveryEnd", desc := "()I" } : Jvm.MethodName)) ∈ zT := List.mem_filter.mpr ⟨List.mem_of_getElem? (i := 1102) (by decide +kernel), by decide +kernel⟩
theorem zm324 : (Jvm.Cond.methodLink "SluiceStreamLaw" (189 : Nat) ({ cls := "SluiceStream", name := "timeout", desc := "()I" } : Jvm.MethodName)) ∈ zT := List.mem_filter.mpr ⟨List.mem_of_getElem? (i := 360) (by decide +kernel), by decide +kernel⟩
theorem zm327 : (Jvm.Cond.code ({ cls := "SluiceStream", name := "timeout", desc := "()I" } : Jvm.MethodName) prog_1_method_32_code (1 : Nat) (Option.some Jvm.ClassFile.FieldType.int)) ∈ zT := List.mem_filter.mpr ⟨List.mem_of_getElem? (i := 363) (by decide +kernel), by decide +kernel⟩
theorem zm325 : (Jvm.Cond.instanceMethod ({ cls := "SluiceStream", name := "timeout", desc := "()I" } : Jvm.MethodName)) ∈ zT := List.mem_filter.mpr ⟨List.mem_of_getElem? (i := 361) (by decide +kernel), by decide +kernel⟩
theorem zm326 : (Jvm.Cond.selects "SluiceStream" ({ cls := "SluiceStream", name := "timeout", desc := "()I" } : Jvm.MethodName) ({ cls := "SluiceStream", name := "timeout", desc := "()I" } : Jvm.MethodName)) ∈ zT := List.mem_filter.mpr ⟨List.mem_of_getElem? (i := 362) (by decide +kernel), by decide +kernel⟩
theorem zm1068 : (Jvm.Cond.methodLink "SluiceStreamLaw" (192 : Nat) ({ cls := "SluiceStreamModel", name := "timeout", desc := "()I" } : Jvm.MethodName)) ∈ zT := List.mem_filter.mpr ⟨List.mem_of_getElem? (i := 1104) (by decide +kernel), by decide +kernel⟩
theorem zm1071 : (Jvm.Cond.code ({ cls := "SluiceStreamModel", name := "timeout", desc := "()I" } : Jvm.MethodName) prog_8_method_56_code (1 : Nat) (Option.some Jvm.ClassFile.FieldType.int)) ∈ zT := List.mem_filter.mpr ⟨List.mem_of_getElem? (i := 1107) (by decide +kernel), by decide +kernel⟩
theorem zm1069 : (Jvm.Cond.instanceMethod ({ cls := "SluiceStreamModel", name := "timeout", desc := "()I" } : Jvm.MethodName)) ∈ zT := List.mem_filter.mpr ⟨List.mem_of_getElem? (i := 1105) (by decide +kernel), by decide +kernel⟩
theorem zm1070 : (Jvm.Cond.selects "SluiceStreamModel" ({ cls := "SluiceStreamModel", name := "timeout", desc := "()I" } : Jvm.MethodName) ({ cls := "SluiceStreamModel", name := "timeout", desc := "()I" } : Jvm.MethodName)) ∈ zT := List.mem_filter.mpr ⟨List.mem_of_getElem? (i := 1106) (by decide +kernel), by decide +kernel⟩
theorem zm328 : (Jvm.Cond.methodLink "SluiceStreamLaw" (193 : Nat) ({ cls := "SluiceStream", name := "timerEnd", desc := "()I" } : Jvm.MethodName)) ∈ zT := List.mem_filter.mpr ⟨List.mem_of_getElem? (i := 364) (by decide +kernel), by decide +kernel⟩
theorem zm331 : (Jvm.Cond.code ({ cls := "SluiceStream", name := "timerEnd", desc := "()I" } : Jvm.MethodName) prog_1_method_33_code (1 : Nat) (Option.some Jvm.ClassFile.FieldType.int)) ∈ zT := List.mem_filter.mpr ⟨List.mem_of_getElem? (i := 367) (by decide +kernel), by decide +kernel⟩
theorem zm329 : (Jvm.Cond.instanceMethod ({ cls := "SluiceStream", name := "timerEnd", desc := "()I" } : Jvm.MethodName)) ∈ zT := List.mem_filter.mpr ⟨List.mem_of_getElem? (i := 365) (by decide +kernel), by decide +kernel⟩
theorem zm330 : (Jvm.Cond.selects "SluiceStream" ({ cls := "SluiceStream", name := "timerEnd", desc := "()I" } : Jvm.MethodName) ({ cls := "SluiceStream", name := "timerEnd", desc := "()I" } : Jvm.MethodName)) ∈ zT := List.mem_filter.mpr ⟨List.mem_of_getElem? (i := 366) (by decide +kernel), by decide +kernel⟩
theorem zm1072 : (Jvm.Cond.methodLink "SluiceStreamLaw" (196 : Nat) ({ cls := "SluiceStreamModel", name := "timerEnd", desc := "()I" } : Jvm.MethodName)) ∈ zT := List.mem_filter.mpr ⟨List.mem_of_getElem? (i := 1108) (by decide +kernel), by decide +kernel⟩
theorem zm1075 : (Jvm.Cond.code ({ cls := "SluiceStreamModel", name := "timerEnd", desc := "()I" } : Jvm.MethodName) prog_8_method_57_code (1 : Nat) (Option.some Jvm.ClassFile.FieldType.int)) ∈ zT := List.mem_filter.mpr ⟨List.mem_of_getElem? (i := 1111) (by decide +kernel), by decide +kernel⟩
theorem zm1073 : (Jvm.Cond.instanceMethod ({ cls := "SluiceStreamModel", name := "timerEnd", desc := "()I" } : Jvm.MethodName)) ∈ zT := List.mem_filter.mpr ⟨List.mem_of_getElem? (i := 1109) (by decide +kernel), by decide +kernel⟩
theorem zm1074 : (Jvm.Cond.selects "SluiceStreamModel" ({ cls := "SluiceStreamModel", name := "timerEnd", desc := "()I" } : Jvm.MethodName) ({ cls := "SluiceStreamModel", name := "timerEnd", desc := "()I" } : Jvm.MethodName)) ∈ zT := List.mem_filter.mpr ⟨List.mem_of_getElem? (i := 1110) (by decide +kernel), by decide +kernel⟩
theorem zm332 : (Jvm.Cond.methodLink "SluiceStreamLaw" (197 : Nat) ({ cls := "SluiceStream", name := "roundTrip", desc := "()I" } : Jvm.MethodName)) ∈ zT := List.mem_filter.mpr ⟨List.mem_of_getElem? (i := 368) (by decide +kernel), by decide +kernel⟩
theorem zm335 : (Jvm.Cond.code ({ cls := "SluiceStream", name := "roundTrip", desc := "()I" } : Jvm.MethodName) prog_1_method_34_code (1 : Nat) (Option.some Jvm.ClassFile.FieldType.int)) ∈ zT := List.mem_filter.mpr ⟨List.mem_of_getElem? (i := 371) (by decide +kernel), by decide +kernel⟩
theorem zm333 : (Jvm.Cond.instanceMethod ({ cls := "SluiceStream", name := "roundTrip", desc := "()I" } : Jvm.MethodName)) ∈ zT := List.mem_filter.mpr ⟨List.mem_of_getElem? (i := 369) (by decide +kernel), by decide +kernel⟩
theorem zm334 : (Jvm.Cond.selects "SluiceStream" ({ cls := "SluiceStream", name := "roundTrip", desc := "()I" } : Jvm.MethodName) ({ cls := "SluiceStream", name := "roundTrip", desc := "()I" } : Jvm.MethodName)) ∈ zT := List.mem_filter.mpr ⟨List.mem_of_getElem? (i := 370) (by decide +kernel), by decide +kernel⟩
theorem zm1076 : (Jvm.Cond.methodLink "SluiceStreamLaw" (200 : Nat) ({ cls := "SluiceStreamModel", name := "roundTrip", desc := "()I" } : Jvm.MethodName)) ∈ zT := List.mem_filter.mpr ⟨List.mem_of_getElem? (i := 1112) (by decide +kernel), by decide +kernel⟩
theorem zm1079 : (Jvm.Cond.code ({ cls := "SluiceStreamModel", name := "roundTrip", desc := "()I" } : Jvm.MethodName) prog_8_method_58_code (1 : Nat) (Option.some Jvm.ClassFile.FieldType.int)) ∈ zT := List.mem_filter.mpr ⟨List.mem_of_getElem? (i := 1115) (by decide +kernel), by decide +kernel⟩
theorem zm1077 : (Jvm.Cond.instanceMethod ({ cls := "SluiceStreamModel", name := "roundTrip", desc := "()I" } : Jvm.MethodName)) ∈ zT := List.mem_filter.mpr ⟨List.mem_of_getElem? (i := 1113) (by decide +kernel), by decide +kernel⟩
theorem zm1078 : (Jvm.Cond.selects "SluiceStreamModel" ({ cls := "SluiceStreamModel", name := "roundTrip", desc := "()I" } : Jvm.MethodName) ({ cls := "SluiceStreamModel", name := "roundTrip", desc := "()I" } : Jvm.MethodName)) ∈ zT := List.mem_filter.mpr ⟨List.mem_of_getElem? (i := 1114) (by decide +kernel), by decide +kernel⟩
theorem zm336 : (Jvm.Cond.methodLink "SluiceStreamLaw" (201 : Nat) ({ cls := "SluiceStream", name := "variation", desc := "()I" } : Jvm.MethodName)) ∈ zT := List.mem_filter.mpr ⟨List.mem_of_getElem? (i := 372) (by decide +kernel), by decide +kernel⟩
theorem zm339 : (Jvm.Cond.code ({ cls := "SluiceStream", name := "variation", desc := "()I" } : Jvm.MethodName) prog_1_method_35_code (1 : Nat) (Option.some Jvm.ClassFile.FieldType.int)) ∈ zT := List.mem_filter.mpr ⟨List.mem_of_getElem? (i := 375) (by decide +kernel), by decide +kernel⟩
theorem zm337 : (Jvm.Cond.instanceMethod ({ cls := "SluiceStream", name := "variation", desc := "()I" } : Jvm.MethodName)) ∈ zT := List.mem_filter.mpr ⟨List.mem_of_getElem? (i := 373) (by decide +kernel), by decide +kernel⟩
theorem zm338 : (Jvm.Cond.selects "SluiceStream" ({ cls := "SluiceStream", name := "variation", desc := "()I" } : Jvm.MethodName) ({ cls := "SluiceStream", name := "variation", desc := "()I" } : Jvm.MethodName)) ∈ zT := List.mem_filter.mpr ⟨List.mem_of_getElem? (i := 374) (by decide +kernel), by decide +kernel⟩
theorem zm1080 : (Jvm.Cond.methodLink "SluiceStreamLaw" (204 : Nat) ({ cls := "SluiceStreamModel", name := "variation", desc := "()I" } : Jvm.MethodName)) ∈ zT := List.mem_filter.mpr ⟨List.mem_of_getElem? (i := 1116) (by decide +kernel), by decide +kernel⟩
theorem zm1083 : (Jvm.Cond.code ({ cls := "SluiceStreamModel", name := "variation", desc := "()I" } : Jvm.MethodName) prog_8_method_59_code (1 : Nat) (Option.some Jvm.ClassFile.FieldType.int)) ∈ zT := List.mem_filter.mpr ⟨List.mem_of_getElem? (i := 1119) (by decide +kernel), by decide +kernel⟩
theorem zm1081 : (Jvm.Cond.instanceMethod ({ cls := "SluiceStreamModel", name := "variation", desc := "()I" } : Jvm.MethodName)) ∈ zT := List.mem_filter.mpr ⟨List.mem_of_getElem? (i := 1117) (by decide +kernel), by decide +kernel⟩
theorem zm1082 : (Jvm.Cond.selects "SluiceStreamModel" ({ cls := "SluiceStreamModel", name := "variation", desc := "()I" } : Jvm.MethodName) ({ cls := "SluiceStreamModel", name := "variation", desc := "()I" } : Jvm.MethodName)) ∈ zT := List.mem_filter.mpr ⟨List.mem_of_getElem? (i := 1118) (by decide +kernel), by decide +kernel⟩
theorem zm340 : (Jvm.Cond.methodLink "SluiceStreamLaw" (205 : Nat) ({ cls := "SluiceStream", name := "timedEnd", desc := "()I" } : Jvm.MethodName)) ∈ zT := List.mem_filter.mpr ⟨List.mem_of_getElem? (i := 376) (by decide +kernel), by decide +kernel⟩
theorem zm343 : (Jvm.Cond.code ({ cls := "SluiceStream", name := "timedEnd", desc := "()I" } : Jvm.MethodName) prog_1_method_36_code (1 : Nat) (Option.some Jvm.ClassFile.FieldType.int)) ∈ zT := List.mem_filter.mpr ⟨List.mem_of_getElem? (i := 379) (by decide +kernel), by decide +kernel⟩
theorem zm341 : (Jvm.Cond.instanceMethod ({ cls := "SluiceStream", name := "timedEnd", desc := "()I" } : Jvm.MethodName)) ∈ zT := List.mem_filter.mpr ⟨List.mem_of_getElem? (i := 377) (by decide +kernel), by decide +kernel⟩
theorem zm342 : (Jvm.Cond.selects "SluiceStream" ({ cls := "SluiceStream", name := "timedEnd", desc := "()I" } : Jvm.MethodName) ({ cls := "SluiceStream", name := "timedEnd", desc := "()I" } : Jvm.MethodName)) ∈ zT := List.mem_filter.mpr ⟨List.mem_of_getElem? (i := 378) (by decide +kernel), by decide +kernel⟩
theorem zm1084 : (Jvm.Cond.methodLink "SluiceStreamLaw" (208 : Nat) ({ cls := "SluiceStreamModel", name := "timedEnd", desc := "()I" } : Jvm.MethodName)) ∈ zT := List.mem_filter.mpr ⟨List.mem_of_getElem? (i := 1120) (by decide +kernel), by decide +kernel⟩
theorem zm1087 : (Jvm.Cond.code ({ cls := "SluiceStreamModel", name := "timedEnd", desc := "()I" } : Jvm.MethodName) prog_8_method_60_code (1 : Nat) (Option.some Jvm.ClassFile.FieldType.int)) ∈ zT := List.mem_filter.mpr ⟨List.mem_of_getElem? (i := 1123) (by decide +kernel), by decide +kernel⟩
theorem zm1085 : (Jvm.Cond.instanceMethod ({ cls := "SluiceStreamModel", name := "timedEnd", desc := "()I" } : Jvm.MethodName)) ∈ zT := List.mem_filter.mpr ⟨List.mem_of_getElem? (i := 1121) (by decide +kernel), by decide +kernel⟩
theorem zm1086 : (Jvm.Cond.selects "SluiceStreamModel" ({ cls := "SluiceStreamModel", name := "timedEnd", desc := "()I" } : Jvm.MethodName) ({ cls := "SluiceStreamModel", name := "timedEnd", desc := "()I" } : Jvm.MethodName)) ∈ zT := List.mem_filter.mpr ⟨List.mem_of_getElem? (i := 1122) (by decide +kernel), by decide +kernel⟩
theorem zm344 : (Jvm.Cond.methodLink "SluiceStreamLaw" (209 : Nat) ({ cls := "SluiceStream", name := "sent", desc := "()I" } : Jvm.MethodName)) ∈ zT := List.mem_filter.mpr ⟨List.mem_of_getElem? (i := 380) (by decide +kernel), by decide +kernel⟩
theorem zm347 : (Jvm.Cond.code ({ cls := "SluiceStream", name := "sent", desc := "()I" } : Jvm.MethodName) prog_1_method_37_code (1 : Nat) (Option.some Jvm.ClassFile.FieldType.int)) ∈ zT := List.mem_filter.mpr ⟨List.mem_of_getElem? (i := 383) (by decide +kernel), by decide +kernel⟩
theorem zm345 : (Jvm.Cond.instanceMethod ({ cls := "SluiceStream", name := "sent", desc := "()I" } : Jvm.MethodName)) ∈ zT := List.mem_filter.mpr ⟨List.mem_of_getElem? (i := 381) (by decide +kernel), by decide +kernel⟩
theorem zm346 : (Jvm.Cond.selects "SluiceStream" ({ cls := "SluiceStream", name := "sent", desc := "()I" } : Jvm.MethodName) ({ cls := "SluiceStream", name := "sent", desc := "()I" } : Jvm.MethodName)) ∈ zT := List.mem_filter.mpr ⟨List.mem_of_getElem? (i := 382) (by decide +kernel), by decide +kernel⟩
theorem zm1088 : (Jvm.Cond.methodLink "SluiceStreamLaw" (212 : Nat) ({ cls := "SluiceStreamModel", name := "sent", desc := "()I" } : Jvm.MethodName)) ∈ zT := List.mem_filter.mpr ⟨List.mem_of_getElem? (i := 1124) (by decide +kernel), by decide +kernel⟩
theorem zm1091 : (Jvm.Cond.code ({ cls := "SluiceStreamModel", name := "sent", desc := "()I" } : Jvm.MethodName) prog_8_method_61_code (1 : Nat) (Option.some Jvm.ClassFile.FieldType.int)) ∈ zT := List.mem_filter.mpr ⟨List.mem_of_getElem? (i := 1127) (by decide +kernel), by decide +kernel⟩
theorem zm1089 : (Jvm.Cond.instanceMethod ({ cls := "SluiceStreamModel", name := "sent", desc := "()I" } : Jvm.MethodName)) ∈ zT := List.mem_filter.mpr ⟨List.mem_of_getElem? (i := 1125) (by decide +kernel), by decide +kernel⟩
theorem zm1090 : (Jvm.Cond.selects "SluiceStreamModel" ({ cls := "SluiceStreamModel", name := "sent", desc := "()I" } : Jvm.MethodName) ({ cls := "SluiceStreamModel", name := "sent", desc := "()I" } : Jvm.MethodName)) ∈ zT := List.mem_filter.mpr ⟨List.mem_of_getElem? (i := 1126) (by decide +kernel), by decide +kernel⟩
theorem zm348 : (Jvm.Cond.methodLink "SluiceStreamLaw" (213 : Nat) ({ cls := "SluiceStream", name := "sentAgain", desc := "()I" } : Jvm.MethodName)) ∈ zT := List.mem_filter.mpr ⟨List.mem_of_getElem? (i := 384) (by decide +kernel), by decide +kernel⟩
theorem zm351 : (Jvm.Cond.code ({ cls := "SluiceStream", name := "sentAgain", desc := "()I" } : Jvm.MethodName) prog_1_method_38_code (1 : Nat) (Option.some Jvm.ClassFile.FieldType.int)) ∈ zT := List.mem_filter.mpr ⟨List.mem_of_getElem? (i := 387) (by decide +kernel), by decide +kernel⟩
theorem zm349 : (Jvm.Cond.instanceMethod ({ cls := "SluiceStream", name := "sentAgain", desc := "()I" } : Jvm.MethodName)) ∈ zT := List.mem_filter.mpr ⟨List.mem_of_getElem? (i := 385) (by decide +kernel), by decide +kernel⟩
theorem zm350 : (Jvm.Cond.selects "SluiceStream" ({ cls := "SluiceStream", name := "sentAgain", desc := "()I" } : Jvm.MethodName) ({ cls := "SluiceStream", name := "sentAgain", desc := "()I" } : Jvm.MethodName)) ∈ zT := List.mem_filter.mpr ⟨List.mem_of_getElem? (i := 386) (by decide +kernel), by decide +kernel⟩
theorem zm1092 : (Jvm.Cond.methodLink "SluiceStreamLaw" (216 : Nat) ({ cls := "SluiceStreamModel", name := "sentAgain", desc := "()I" } : Jvm.MethodName)) ∈ zT := List.mem_filter.mpr ⟨List.mem_of_getElem? (i := 1128) (by decide +kernel), by decide +kernel⟩
theorem zm1095 : (Jvm.Cond.code ({ cls := "SluiceStreamModel", name := "sentAgain", desc := "()I" } : Jvm.MethodName) prog_8_method_62_code (1 : Nat) (Option.some Jvm.ClassFile.FieldType.int)) ∈ zT := List.mem_filter.mpr ⟨List.mem_of_getElem? (i := 1131) (by decide +kernel), by decide +kernel⟩
theorem zm1093 : (Jvm.Cond.instanceMethod ({ cls := "SluiceStreamModel", name := "sentAgain", desc := "()I" } : Jvm.MethodName)) ∈ zT := List.mem_filter.mpr ⟨List.mem_of_getElem? (i := 1129) (by decide +kernel), by decide +kernel⟩
theorem zm1094 : (Jvm.Cond.selects "SluiceStreamModel" ({ cls := "SluiceStreamModel", name := "sentAgain", desc := "()I" } : Jvm.MethodName) ({ cls := "SluiceStreamModel", name := "sentAgain", desc := "()I" } : Jvm.MethodName)) ∈ zT := List.mem_filter.mpr ⟨List.mem_of_getElem? (i := 1130) (by decide +kernel), by decide +kernel⟩
theorem zm352 : (Jvm.Cond.methodLink "SluiceStreamLaw" (217 : Nat) ({ cls := "SluiceStream", name := "inOrder", desc := "()I" } : Jvm.MethodName)) ∈ zT := List.mem_filter.mpr ⟨List.mem_of_getElem? (i := 388) (by decide +kernel), by decide +kernel⟩
theorem zm355 : (Jvm.Cond.code ({ cls := "SluiceStream", name := "inOrder", desc := "()I" } : Jvm.MethodName) prog_1_method_39_code (1 : Nat) (Option.some Jvm.ClassFile.FieldType.int)) ∈ zT := List.mem_filter.mpr ⟨List.mem_of_getElem? (i := 391) (by decide +kernel), by decide +kernel⟩
theorem zm353 : (Jvm.Cond.instanceMethod ({ cls := "SluiceStream", name := "inOrder", desc := "()I" } : Jvm.MethodName)) ∈ zT := List.mem_filter.mpr ⟨List.mem_of_getElem? (i := 389) (by decide +kernel), by decide +kernel⟩
theorem zm354 : (Jvm.Cond.selects "SluiceStream" ({ cls := "SluiceStream", name := "inOrder", desc := "()I" } : Jvm.MethodName) ({ cls := "SluiceStream", name := "inOrder", desc := "()I" } : Jvm.MethodName)) ∈ zT := List.mem_filter.mpr ⟨List.mem_of_getElem? (i := 390) (by decide +kernel), by decide +kernel⟩
theorem zm1096 : (Jvm.Cond.methodLink "SluiceStreamLaw" (220 : Nat) ({ cls := "SluiceStreamModel", name := "inOrder", desc := "()I" } : Jvm.MethodName)) ∈ zT := List.mem_filter.mpr ⟨List.mem_of_getElem? (i := 1132) (by decide +kernel), by decide +kernel⟩
theorem zm1099 : (Jvm.Cond.code ({ cls := "SluiceStreamModel", name := "inOrder", desc := "()I" } : Jvm.MethodName) prog_8_method_63_code (1 : Nat) (Option.some Jvm.ClassFile.FieldType.int)) ∈ zT := List.mem_filter.mpr ⟨List.mem_of_getElem? (i := 1135) (by decide +kernel), by decide +kernel⟩
theorem zm1097 : (Jvm.Cond.instanceMethod ({ cls := "SluiceStreamModel", name := "inOrder", desc := "()I" } : Jvm.MethodName)) ∈ zT := List.mem_filter.mpr ⟨List.mem_of_getElem? (i := 1133) (by decide +kernel), by decide +kernel⟩
theorem zm1098 : (Jvm.Cond.selects "SluiceStreamModel" ({ cls := "SluiceStreamModel", name := "inOrder", desc := "()I" } : Jvm.MethodName) ({ cls := "SluiceStreamModel", name := "inOrder", desc := "()I" } : Jvm.MethodName)) ∈ zT := List.mem_filter.mpr ⟨List.mem_of_getElem? (i := 1134) (by decide +kernel), by decide +kernel⟩
theorem zm356 : (Jvm.Cond.methodLink "SluiceStreamLaw" (221 : Nat) ({ cls := "SluiceStream", name := "readPosition", desc := "()I" } : Jvm.MethodName)) ∈ zT := List.mem_filter.mpr ⟨List.mem_of_getElem? (i := 392) (by decide +kernel), by decide +kernel⟩
theorem zm359 : (Jvm.Cond.code ({ cls := "SluiceStream", name := "readPosition", desc := "()I" } : Jvm.MethodName) prog_1_method_40_code (1 : Nat) (Option.some Jvm.ClassFile.FieldType.int)) ∈ zT := List.mem_filter.mpr ⟨List.mem_of_getElem? (i := 395) (by decide +kernel), by decide +kernel⟩
theorem zm357 : (Jvm.Cond.instanceMethod ({ cls := "SluiceStream", name := "readPosition", desc := "()I" } : Jvm.MethodName)) ∈ zT := List.mem_filter.mpr ⟨List.mem_of_getElem? (i := 393) (by decide +kernel), by decide +kernel⟩
theorem zm358 : (Jvm.Cond.selects "SluiceStream" ({ cls := "SluiceStream", name := "readPosition", desc := "()I" } : Jvm.MethodName) ({ cls := "SluiceStream", name := "readPosition", desc := "()I" } : Jvm.MethodName)) ∈ zT := List.mem_filter.mpr ⟨List.mem_of_getElem? (i := 394) (by decide +kernel), by decide +kernel⟩
theorem zm1100 : (Jvm.Cond.methodLink "SluiceStreamLaw" (224 : Nat) ({ cls := "SluiceStreamModel", name := "readPosition", desc := "()I" } : Jvm.MethodName)) ∈ zT := List.mem_filter.mpr ⟨List.mem_of_getElem? (i := 1136) (by decide +kernel), by decide +kernel⟩
theorem zm1103 : (Jvm.Cond.code ({ cls := "SluiceStreamModel", name := "readPosition", desc := "()I" } : Jvm.MethodName) prog_8_method_64_code (1 : Nat) (Option.some Jvm.ClassFile.FieldType.int)) ∈ zT := List.mem_filter.mpr ⟨List.mem_of_getElem? (i := 1139) (by decide +kernel), by decide +kernel⟩
theorem zm1101 : (Jvm.Cond.instanceMethod ({ cls := "SluiceStreamModel", name := "readPosition", desc := "()I" } : Jvm.MethodName)) ∈ zT := List.mem_filter.mpr ⟨List.mem_of_getElem? (i := 1137) (by decide +kernel), by decide +kernel⟩
theorem zm1102 : (Jvm.Cond.selects "SluiceStreamModel" ({ cls := "SluiceStreamModel", name := "readPosition", desc := "()I" } : Jvm.MethodName) ({ cls := "SluiceStreamModel", name := "readPosition", desc := "()I" } : Jvm.MethodName)) ∈ zT := List.mem_filter.mpr ⟨List.mem_of_getElem? (i := 1138) (by decide +kernel), by decide +kernel⟩
theorem zm360 : (Jvm.Cond.methodLink "SluiceStreamLaw" (225 : Nat) ({ cls := "SluiceStream", name := "window", desc := "()I" } : Jvm.MethodName)) ∈ zT := List.mem_filter.mpr ⟨List.mem_of_getElem? (i := 396) (by decide +kernel), by decide +kernel⟩
theorem zm363 : (Jvm.Cond.code ({ cls := "SluiceStream", name := "window", desc := "()I" } : Jvm.MethodName) prog_1_method_41_code (1 : Nat) (Option.some Jvm.ClassFile.FieldType.int)) ∈ zT := List.mem_filter.mpr ⟨List.mem_of_getElem? (i := 399) (by decide +kernel), by decide +kernel⟩
theorem zm361 : (Jvm.Cond.instanceMethod ({ cls := "SluiceStream", name := "window", desc := "()I" } : Jvm.MethodName)) ∈ zT := List.mem_filter.mpr ⟨List.mem_of_getElem? (i := 397) (by decide +kernel), by decide +kernel⟩
theorem zm362 : (Jvm.Cond.selects "SluiceStream" ({ cls := "SluiceStream", name := "window", desc := "()I" } : Jvm.MethodName) ({ cls := "SluiceStream", name := "window", desc := "()I" } : Jvm.MethodName)) ∈ zT := List.mem_filter.mpr ⟨List.mem_of_getElem? (i := 398) (by decide +kernel), by decide +kernel⟩
theorem zm1104 : (Jvm.Cond.methodLink "SluiceStreamLaw" (228 : Nat) ({ cls := "SluiceStreamModel", name := "window", desc := "()I" } : Jvm.MethodName)) ∈ zT := List.mem_filter.mpr ⟨List.mem_of_getElem? (i := 1140) (by decide +kernel), by decide +kernel⟩
theorem zm1107 : (Jvm.Cond.code ({ cls := "SluiceStreamModel", name := "window", desc := "()I" } : Jvm.MethodName) prog_8_method_65_code (1 : Nat) (Option.some Jvm.ClassFile.FieldType.int)) ∈ zT := List.mem_filter.mpr ⟨List.mem_of_getElem? (i := 1143) (by decide +kernel), by decide +kernel⟩
theorem zm1105 : (Jvm.Cond.instanceMethod ({ cls := "SluiceStreamModel", name := "window", desc := "()I" } : Jvm.MethodName)) ∈ zT := List.mem_filter.mpr ⟨List.mem_of_getElem? (i := 1141) (by decide +kernel), by decide +kernel⟩
theorem zm1106 : (Jvm.Cond.selects "SluiceStreamModel" ({ cls := "SluiceStreamModel", name := "window", desc := "()I" } : Jvm.MethodName) ({ cls := "SluiceStreamModel", name := "window", desc := "()I" } : Jvm.MethodName)) ∈ zT := List.mem_filter.mpr ⟨List.mem_of_getElem? (i := 1142) (by decide +kernel), by decide +kernel⟩
theorem zm365 : (Jvm.Cond.methodLink "SluiceStreamLaw" (229 : Nat) ({ cls := "SluiceStream", name := "blocks", desc := "()I" } : Jvm.MethodName)) ∈ zT := List.mem_filter.mpr ⟨List.mem_of_getElem? (i := 401) (by decide +kernel), by decide +kernel⟩
theorem zm368 : (Jvm.Cond.code ({ cls := "SluiceStream", name := "blocks", desc := "()I" } : Jvm.MethodName) prog_1_method_42_code (1 : Nat) (Option.some Jvm.ClassFile.FieldType.int)) ∈ zT := List.mem_filter.mpr ⟨List.mem_of_getElem? (i := 404) (by decide +kernel), by decide +kernel⟩
theorem zm366 : (Jvm.Cond.instanceMethod ({ cls := "SluiceStream", name := "blocks", desc := "()I" } : Jvm.MethodName)) ∈ zT := List.mem_filter.mpr ⟨List.mem_of_getElem? (i := 402) (by decide +kernel), by decide +kernel⟩
theorem zm367 : (Jvm.Cond.selects "SluiceStream" ({ cls := "SluiceStream", name := "blocks", desc := "()I" } : Jvm.MethodName) ({ cls := "SluiceStream", name := "blocks", desc := "()I" } : Jvm.MethodName)) ∈ zT := List.mem_filter.mpr ⟨List.mem_of_getElem? (i := 403) (by decide +kernel), by decide +kernel⟩
theorem zm1108 : (Jvm.Cond.methodLink "SluiceStreamLaw" (232 : Nat) ({ cls := "SluiceStreamModel", name := "blocks", desc := "()I" } : Jvm.MethodName)) ∈ zT := List.mem_filter.mpr ⟨List.mem_of_getElem? (i := 1144) (by decide +kernel), by decide +kernel⟩
theorem zm1111 : (Jvm.Cond.code ({ cls := "SluiceStreamModel", name := "blocks", desc := "()I" } : Jvm.MethodName) prog_8_method_67_code (3 : Nat) (Option.some Jvm.ClassFile.FieldType.int)) ∈ zT := List.mem_filter.mpr ⟨List.mem_of_getElem? (i := 1147) (by decide +kernel), by decide +kernel⟩
theorem zm1109 : (Jvm.Cond.instanceMethod ({ cls := "SluiceStreamModel", name := "blocks", desc := "()I" } : Jvm.MethodName)) ∈ zT := List.mem_filter.mpr ⟨List.mem_of_getElem? (i := 1145) (by decide +kernel), by decide +kernel⟩
theorem zm1110 : (Jvm.Cond.selects "SluiceStreamModel" ({ cls := "SluiceStreamModel", name := "blocks", desc := "()I" } : Jvm.MethodName) ({ cls := "SluiceStreamModel", name := "blocks", desc := "()I" } : Jvm.MethodName)) ∈ zT := List.mem_filter.mpr ⟨List.mem_of_getElem? (i := 1146) (by decide +kernel), by decide +kernel⟩
theorem zm711 : (Jvm.Cond.methodLink "SluiceStreamLaw" (233 : Nat) ({ cls := "SluiceStreamLaw", name := "blockStart", desc := "(LSluiceStream;I[J)I" } : Jvm.MethodName)) ∈ zT := List.mem_filter.mpr ⟨List.mem_of_getElem? (i := 747) (by decide +kernel), by decide +kernel⟩
theorem zm713 : (Jvm.Cond.codeWith ({ cls := "SluiceStreamLaw", name := "blockStart", desc := "(LSluiceStream;I[J)I" } : Jvm.MethodName) method_19_code (4 : Nat) (Option.some Jvm.ClassFile.FieldType.int) [((0 : Nat), (9 : Nat), (12 : Nat), (31 : Nat))]) ∈ zT := List.mem_filter.mpr ⟨List.mem_of_getElem? (i := 749) (by decide +kernel), by decide +kernel⟩
theorem zm712 : (Jvm.Cond.static ({ cls := "SluiceStreamLaw", name := "blockStart", desc := "(LSluiceStream;I[J)I" } : Jvm.MethodName)) ∈ zT := List.mem_filter.mpr ⟨List.mem_of_getElem? (i := 748) (by decide +kernel), by decide +kernel⟩
theorem zm1112 : (Jvm.Cond.methodLink "SluiceStreamLaw" (235 : Nat) ({ cls := "SluiceStreamModel", name := "blockStart", desc := "(I)I" } : Jvm.MethodName)) ∈ zT := List.mem_filter.mpr ⟨List.mem_of_getElem? (i := 1148) (by decide +kernel), by decide +kernel⟩
theorem zm1115 : (Jvm.Cond.code ({ cls := "SluiceStreamModel", name := "blockStart", desc := "(I)I" } : Jvm.MethodName) prog_8_method_68_code (3 : Nat) (Option.some Jvm.ClassFile.FieldType.int)) ∈ zT := List.mem_filter.mpr ⟨List.mem_of_getElem? (i := 1151) (by decide +kernel), by decide +kernel⟩
theorem zm1113 : (Jvm.Cond.instanceMethod ({ cls := "SluiceStreamModel", name := "blockStart", desc := "(I)I" } : Jvm.MethodName)) ∈ zT := List.mem_filter.mpr ⟨List.mem_of_getElem? (i := 1149) (by decide +kernel), by decide +kernel⟩
theorem zm1114 : (Jvm.Cond.selects "SluiceStreamModel" ({ cls := "SluiceStreamModel", name := "blockStart", desc := "(I)I" } : Jvm.MethodName) ({ cls := "SluiceStreamModel", name := "blockStart", desc := "(I)I" } : Jvm.MethodName)) ∈ zT := List.mem_filter.mpr ⟨List.mem_of_getElem? (i := 1150) (by decide +kernel), by decide +kernel⟩
theorem zm722 : (Jvm.Cond.methodLink "SluiceStreamLaw" (236 : Nat) ({ cls := "SluiceStreamLaw", name := "blockEnd", desc := "(LSluiceStream;I[J)I" } : Jvm.MethodName)) ∈ zT := List.mem_filter.mpr ⟨List.mem_of_getElem? (i := 758) (by decide +kernel), by decide +kernel⟩
theorem zm724 : (Jvm.Cond.codeWith ({ cls := "SluiceStreamLaw", name := "blockEnd", desc := "(LSluiceStream;I[J)I" } : Jvm.MethodName) method_20_code (4 : Nat) (Option.some Jvm.ClassFile.FieldType.int) [((0 : Nat), (9 : Nat), (12 : Nat), (31 : Nat))]) ∈ zT := List.mem_filter.mpr ⟨List.mem_of_getElem? (i := 760) (by decide +kernel), by decide +kernel⟩
theorem zm723 : (Jvm.Cond.static ({ cls := "SluiceStreamLaw", name := "blockEnd", desc := "(LSluiceStream;I[J)I" } : Jvm.MethodName)) ∈ zT := List.mem_filter.mpr ⟨List.mem_of_getElem? (i := 759) (by decide +kernel), by decide +kernel⟩
theorem zm1120 : (Jvm.Cond.methodLink "SluiceStreamLaw" (238 : Nat) ({ cls := "SluiceStreamModel", name := "blockEnd", desc := "(I)I" } : Jvm.MethodName)) ∈ zT := List.mem_filter.mpr ⟨List.mem_of_getElem? (i := 1156) (by decide +kernel), by decide +kernel⟩
theorem zm1123 : (Jvm.Cond.code ({ cls := "SluiceStreamModel", name := "blockEnd", desc := "(I)I" } : Jvm.MethodName) prog_8_method_69_code (3 : Nat) (Option.some Jvm.ClassFile.FieldType.int)) ∈ zT := List.mem_filter.mpr ⟨List.mem_of_getElem? (i := 1159) (by decide +kernel), by decide +kernel⟩
theorem zm1121 : (Jvm.Cond.instanceMethod ({ cls := "SluiceStreamModel", name := "blockEnd", desc := "(I)I" } : Jvm.MethodName)) ∈ zT := List.mem_filter.mpr ⟨List.mem_of_getElem? (i := 1157) (by decide +kernel), by decide +kernel⟩
theorem zm1122 : (Jvm.Cond.selects "SluiceStreamModel" ({ cls := "SluiceStreamModel", name := "blockEnd", desc := "(I)I" } : Jvm.MethodName) ({ cls := "SluiceStreamModel", name := "blockEnd", desc := "(I)I" } : Jvm.MethodName)) ∈ zT := List.mem_filter.mpr ⟨List.mem_of_getElem? (i := 1158) (by decide +kernel), by decide +kernel⟩
theorem zlw_write : zLw "SluiceStreamLaw" 77 ({ cls := "SluiceStreamLaw", name := "write", desc := "(LSluiceStream;II[J)I" } : Jvm.MethodName) method_3_code 5 [(0, 10, 13, 13), (0, 10, 17, 15)] 4 := ⟨zm373, zm0, zm375, zm374, by decide +kernel⟩
theorem zl_L_82 : zLk "SluiceStreamLaw" 82 ({ cls := "SluiceStreamModel", name := "write", desc := "(II)I" } : Jvm.MethodName) prog_8_method_7_code 4 (some .int) 2 := ⟨zm859, zm7, zm862, by decide +kernel⟩
theorem zl_L_83 : zLk "SluiceStreamLaw" 83 ({ cls := "SluiceStreamModel", name := "thrown", desc := "()I" } : Jvm.MethodName) prog_8_method_2_code 1 (some .int) 0 := ⟨zm855, zm7, zm858, by decide +kernel⟩
theorem zl_L_86 : zLk "SluiceStreamLaw" 86 ({ cls := "SluiceStream", name := "read", desc := "()I" } : Jvm.MethodName) prog_1_method_3_code 2 (some .int) 0 := ⟨zm193, zm1, zm196, by decide +kernel⟩
theorem zl_L_89 : zLk "SluiceStreamLaw" 89 ({ cls := "SluiceStreamModel", name := "read", desc := "()I" } : Jvm.MethodName) prog_8_method_9_code 1 (some .int) 0 := ⟨zm870, zm7, zm873, by decide +kernel⟩
theorem zlw_setLimit : zLw "SluiceStreamLaw" 90 ({ cls := "SluiceStreamLaw", name := "setLimit", desc := "(LSluiceStream;I[J)I" } : Jvm.MethodName) method_4_code 4 [(0, 9, 12, 13)] 3 := ⟨zm460, zm0, zm462, zm461, by decide +kernel⟩
theorem zl_L_93 : zLk "SluiceStreamLaw" 93 ({ cls := "SluiceStreamModel", name := "setLimit", desc := "(I)I" } : Jvm.MethodName) prog_8_method_10_code 3 (some .int) 1 := ⟨zm901, zm7, zm904, by decide +kernel⟩
theorem zlw_send : zLw "SluiceStreamLaw" 94 ({ cls := "SluiceStreamLaw", name := "send", desc := "(LSluiceStream;[J)I" } : Jvm.MethodName) method_5_code 3 [(0, 8, 11, 15)] 2 := ⟨zm467, zm0, zm469, zm468, by decide +kernel⟩
theorem zl_L_97 : zLk "SluiceStreamLaw" 97 ({ cls := "SluiceStreamModel", name := "send", desc := "()I" } : Jvm.MethodName) prog_8_method_16_code 6 (some .int) 0 := ⟨zm905, zm7, zm908, by decide +kernel⟩
theorem zlw_tick : zLw "SluiceStreamLaw" 98 ({ cls := "SluiceStreamLaw", name := "tick", desc := "(LSluiceStream;I[J)I" } : Jvm.MethodName) method_6_code 4 [(0, 9, 12, 13)] 3 := ⟨zm516, zm0, zm518, zm517, by decide +kernel⟩
theorem zl_L_100 : zLk "SluiceStreamLaw" 100 ({ cls := "SluiceStreamModel", name := "tick", desc := "(I)I" } : Jvm.MethodName) prog_8_method_18_code 4 (some .int) 1 := ⟨zm932, zm7, zm935, by decide +kernel⟩
theorem zlw_deliver : zLw "SluiceStreamLaw" 101 ({ cls := "SluiceStreamLaw", name := "deliver", desc := "(LSluiceStream;I[J)I" } : Jvm.MethodName) method_7_code 4 [(0, 9, 12, 31)] 3 := ⟨zm556, zm0, zm558, zm557, by decide +kernel⟩
theorem zl_L_103 : zLk "SluiceStreamLaw" 103 ({ cls := "SluiceStreamModel", name := "deliver", desc := "(I)I" } : Jvm.MethodName) prog_8_method_31_code 4 (some .int) 1 := ⟨zm940, zm7, zm943, by decide +kernel⟩
theorem zlw_lose : zLw "SluiceStreamLaw" 104 ({ cls := "SluiceStreamLaw", name := "lose", desc := "(LSluiceStream;I[J)I" } : Jvm.MethodName) method_8_code 4 [(0, 9, 12, 31)] 3 := ⟨zm594, zm0, zm596, zm595, by decide +kernel⟩
theorem zl_L_106 : zLk "SluiceStreamLaw" 106 ({ cls := "SluiceStreamModel", name := "lose", desc := "(I)I" } : Jvm.MethodName) prog_8_method_32_code 3 (some .int) 1 := ⟨zm952, zm7, zm955, by decide +kernel⟩
theorem zlw_duplicate : zLw "SluiceStreamLaw" 107 ({ cls := "SluiceStreamLaw", name := "duplicate", desc := "(LSluiceStream;I[J)I" } : Jvm.MethodName) method_9_code 4 [(0, 9, 12, 31), (0, 9, 15, 15)] 3 := ⟨zm601, zm0, zm603, zm602, by decide +kernel⟩
theorem zl_L_109 : zLk "SluiceStreamLaw" 109 ({ cls := "SluiceStreamModel", name := "duplicate", desc := "(I)I" } : Jvm.MethodName) prog_8_method_33_code 2 (some .int) 1 := ⟨zm956, zm7, zm959, by decide +kernel⟩
theorem zlw_deliverAck : zLw "SluiceStreamLaw" 110 ({ cls := "SluiceStreamLaw", name := "deliverAck", desc := "(LSluiceStream;I[J)I" } : Jvm.MethodName) method_10_code 4 [(0, 9, 12, 31)] 3 := ⟨zm610, zm0, zm612, zm611, by decide +kernel⟩
theorem zl_L_112 : zLk "SluiceStreamLaw" 112 ({ cls := "SluiceStreamModel", name := "deliverAck", desc := "(I)I" } : Jvm.MethodName) prog_8_method_34_code 3 (some .int) 1 := ⟨zm960, zm7, zm963, by decide +kernel⟩
theorem zlw_loseAck : zLw "SluiceStreamLaw" 113 ({ cls := "SluiceStreamLaw", name := "loseAck", desc := "(LSluiceStream;I[J)I" } : Jvm.MethodName) method_11_code 4 [(0, 9, 12, 31)] 3 := ⟨zm654, zm0, zm656, zm655, by decide +kernel⟩
theorem zl_L_115 : zLk "SluiceStreamLaw" 115 ({ cls := "SluiceStreamModel", name := "loseAck", desc := "(I)I" } : Jvm.MethodName) prog_8_method_35_code 3 (some .int) 1 := ⟨zm984, zm7, zm987, by decide +kernel⟩
theorem zl_L_116 : zLk "SluiceStreamLaw" 116 ({ cls := "SluiceStream", name := "segments", desc := "()I" } : Jvm.MethodName) prog_1_method_12_code 1 (some .int) 0 := ⟨zm264, zm1, zm267, by decide +kernel⟩
theorem zl_L_119 : zLk "SluiceStreamLaw" 119 ({ cls := "SluiceStreamModel", name := "segments", desc := "()I" } : Jvm.MethodName) prog_8_method_36_code 1 (some .int) 0 := ⟨zm988, zm7, zm991, by decide +kernel⟩
theorem zlw_startOf : zLw "SluiceStreamLaw" 120 ({ cls := "SluiceStreamLaw", name := "startOf", desc := "(LSluiceStream;I[J)I" } : Jvm.MethodName) method_12_code 4 [(0, 9, 12, 31)] 3 := ⟨zm661, zm0, zm663, zm662, by decide +kernel⟩
theorem zl_L_122 : zLk "SluiceStreamLaw" 122 ({ cls := "SluiceStreamModel", name := "startOf", desc := "(I)I" } : Jvm.MethodName) prog_8_method_37_code 2 (some .int) 1 := ⟨zm992, zm7, zm995, by decide +kernel⟩
theorem zlw_endOf : zLw "SluiceStreamLaw" 123 ({ cls := "SluiceStreamLaw", name := "endOf", desc := "(LSluiceStream;I[J)I" } : Jvm.MethodName) method_13_code 4 [(0, 9, 12, 31)] 3 := ⟨zm668, zm0, zm670, zm669, by decide +kernel⟩
theorem zl_L_125 : zLk "SluiceStreamLaw" 125 ({ cls := "SluiceStreamModel", name := "endOf", desc := "(I)I" } : Jvm.MethodName) prog_8_method_38_code 2 (some .int) 1 := ⟨zm996, zm7, zm999, by decide +kernel⟩
theorem zl_L_126 : zLk "SluiceStreamLaw" 126 ({ cls := "SluiceStream", name := "acks", desc := "()I" } : Jvm.MethodName) prog_1_method_15_code 1 (some .int) 0 := ⟨zm268, zm1, zm271, by decide +kernel⟩
theorem zl_L_129 : zLk "SluiceStreamLaw" 129 ({ cls := "SluiceStreamModel", name := "acks", desc := "()I" } : Jvm.MethodName) prog_8_method_39_code 1 (some .int) 0 := ⟨zm1000, zm7, zm1003, by decide +kernel⟩
theorem zlw_ackNumber : zLw "SluiceStreamLaw" 130 ({ cls := "SluiceStreamLaw", name := "ackNumber", desc := "(LSluiceStream;I[J)I" } : Jvm.MethodName) method_14_code 4 [(0, 9, 12, 31)] 3 := ⟨zm675, zm0, zm677, zm676, by decide +kernel⟩
theorem zl_L_132 : zLk "SluiceStreamLaw" 132 ({ cls := "SluiceStreamModel", name := "ackNumber", desc := "(I)I" } : Jvm.MethodName) prog_8_method_40_code 2 (some .int) 1 := ⟨zm1004, zm7, zm1007, by decide +kernel⟩
theorem zlw_ackWindow : zLw "SluiceStreamLaw" 133 ({ cls := "SluiceStreamLaw", name := "ackWindow", desc := "(LSluiceStream;I[J)I" } : Jvm.MethodName) method_15_code 4 [(0, 9, 12, 31)] 3 := ⟨zm682, zm0, zm684, zm683, by decide +kernel⟩
theorem zl_L_135 : zLk "SluiceStreamLaw" 135 ({ cls := "SluiceStreamModel", name := "ackWindow", desc := "(I)I" } : Jvm.MethodName) prog_8_method_41_code 2 (some .int) 1 := ⟨zm1008, zm7, zm1011, by decide +kernel⟩
theorem zlw_ackBlocks : zLw "SluiceStreamLaw" 136 ({ cls := "SluiceStreamLaw", name := "ackBlocks", desc := "(LSluiceStream;I[J)I" } : Jvm.MethodName) method_16_code 4 [(0, 9, 12, 31)] 3 := ⟨zm689, zm0, zm691, zm690, by decide +kernel⟩
theorem zl_L_138 : zLk "SluiceStreamLaw" 138 ({ cls := "SluiceStreamModel", name := "ackBlocks", desc := "(I)I" } : Jvm.MethodName) prog_8_method_42_code 2 (some .int) 1 := ⟨zm1012, zm7, zm1015, by decide +kernel⟩
theorem zlw_ackBlock : zLw "SluiceStreamLaw" 139 ({ cls := "SluiceStreamLaw", name := "ackBlock", desc := "(LSluiceStream;II[J)I" } : Jvm.MethodName) method_17_code 5 [(0, 10, 13, 31)] 4 := ⟨zm696, zm0, zm698, zm697, by decide +kernel⟩
theorem zl_L_141 : zLk "SluiceStreamLaw" 141 ({ cls := "SluiceStreamModel", name := "ackBlock", desc := "(II)I" } : Jvm.MethodName) prog_8_method_43_code 3 (some .int) 2 := ⟨zm1016, zm7, zm1019, by decide +kernel⟩
theorem zl_L_142 : zLk "SluiceStreamLaw" 142 ({ cls := "SluiceStream", name := "time", desc := "()I" } : Jvm.MethodName) prog_1_method_20_code 1 (some .int) 0 := ⟨zm272, zm1, zm275, by decide +kernel⟩
theorem zl_L_145 : zLk "SluiceStreamLaw" 145 ({ cls := "SluiceStreamModel", name := "time", desc := "()I" } : Jvm.MethodName) prog_8_method_44_code 1 (some .int) 0 := ⟨zm1020, zm7, zm1023, by decide +kernel⟩
theorem zl_L_146 : zLk "SluiceStreamLaw" 146 ({ cls := "SluiceStream", name := "acknowledged", desc := "()I" } : Jvm.MethodName) prog_1_method_21_code 1 (some .int) 0 := ⟨zm276, zm1, zm279, by decide +kernel⟩
theorem zl_L_149 : zLk "SluiceStreamLaw" 149 ({ cls := "SluiceStreamModel", name := "acknowledged", desc := "()I" } : Jvm.MethodName) prog_8_method_45_code 1 (some .int) 0 := ⟨zm1024, zm7, zm1027, by decide +kernel⟩
theorem zl_L_150 : zLk "SluiceStreamLaw" 150 ({ cls := "SluiceStream", name := "next", desc := "()I" } : Jvm.MethodName) prog_1_method_22_code 1 (some .int) 0 := ⟨zm280, zm1, zm283, by decide +kernel⟩
theorem zl_L_153 : zLk "SluiceStreamLaw" 153 ({ cls := "SluiceStreamModel", name := "next", desc := "()I" } : Jvm.MethodName) prog_8_method_46_code 1 (some .int) 0 := ⟨zm1028, zm7, zm1031, by decide +kernel⟩
theorem zl_L_154 : zLk "SluiceStreamLaw" 154 ({ cls := "SluiceStream", name := "highest", desc := "()I" } : Jvm.MethodName) prog_1_method_23_code 1 (some .int) 0 := ⟨zm284, zm1, zm287, by decide +kernel⟩
theorem zl_L_157 : zLk "SluiceStreamLaw" 157 ({ cls := "SluiceStreamModel", name := "highest", desc := "()I" } : Jvm.MethodName) prog_8_method_47_code 1 (some .int) 0 := ⟨zm1032, zm7, zm1035, by decide +kernel⟩
theorem zl_L_158 : zLk "SluiceStreamLaw" 158 ({ cls := "SluiceStream", name := "written", desc := "()I" } : Jvm.MethodName) prog_1_method_24_code 1 (some .int) 0 := ⟨zm288, zm1, zm291, by decide +kernel⟩
theorem zl_L_161 : zLk "SluiceStreamLaw" 161 ({ cls := "SluiceStreamModel", name := "written", desc := "()I" } : Jvm.MethodName) prog_8_method_48_code 1 (some .int) 0 := ⟨zm1036, zm7, zm1039, by decide +kernel⟩
theorem zl_L_162 : zLk "SluiceStreamLaw" 162 ({ cls := "SluiceStream", name := "edge", desc := "()I" } : Jvm.MethodName) prog_1_method_25_code 1 (some .int) 0 := ⟨zm292, zm1, zm295, by decide +kernel⟩
theorem zl_L_165 : zLk "SluiceStreamLaw" 165 ({ cls := "SluiceStreamModel", name := "edge", desc := "()I" } : Jvm.MethodName) prog_8_method_49_code 1 (some .int) 0 := ⟨zm1040, zm7, zm1043, by decide +kernel⟩
theorem zl_L_166 : zLk "SluiceStreamLaw" 166 ({ cls := "SluiceStream", name := "inFlight", desc := "()I" } : Jvm.MethodName) prog_1_method_26_code 1 (some .int) 0 := ⟨zm296, zm1, zm299, by decide +kernel⟩
theorem zl_L_169 : zLk "SluiceStreamLaw" 169 ({ cls := "SluiceStreamModel", name := "inFlight", desc := "()I" } : Jvm.MethodName) prog_8_method_50_code 1 (some .int) 0 := ⟨zm1044, zm7, zm1047, by decide +kernel⟩
theorem zlw_isMarked : zLw "SluiceStreamLaw" 170 ({ cls := "SluiceStreamLaw", name := "isMarked", desc := "(LSluiceStream;I[J)I" } : Jvm.MethodName) method_18_code 4 [(0, 16, 19, 31)] 3 := ⟨zm703, zm0, zm705, zm704, by decide +kernel⟩
theorem zl_L_172 : zLk "SluiceStreamLaw" 172 ({ cls := "SluiceStreamModel", name := "isMarked", desc := "(I)Z" } : Jvm.MethodName) prog_8_method_51_code 2 (some .boolean) 1 := ⟨zm1048, zm7, zm1051, by decide +kernel⟩
theorem zl_L_173 : zLk "SluiceStreamLaw" 173 ({ cls := "SluiceStream", name := "congestionWindow", desc := "()I" } : Jvm.MethodName) prog_1_method_28_code 1 (some .int) 0 := ⟨zm308, zm1, zm311, by decide +kernel⟩
theorem zl_L_176 : zLk "SluiceStreamLaw" 176 ({ cls := "SluiceStreamModel", name := "congestionWindow", desc := "()I" } : Jvm.MethodName) prog_8_method_52_code 1 (some .int) 0 := ⟨zm1052, zm7, zm1055, by decide +kernel⟩
theorem zl_L_177 : zLk "SluiceStreamLaw" 177 ({ cls := "SluiceStream", name := "threshold", desc := "()I" } : Jvm.MethodName) prog_1_method_29_code 1 (some .int) 0 := ⟨zm312, zm1, zm315, by decide +kernel⟩
theorem zl_L_180 : zLk "SluiceStreamLaw" 180 ({ cls := "SluiceStreamModel", name := "threshold", desc := "()I" } : Jvm.MethodName) prog_8_method_53_code 1 (some .int) 0 := ⟨zm1056, zm7, zm1059, by decide +kernel⟩
theorem zl_L_181 : zLk "SluiceStreamLaw" 181 ({ cls := "SluiceStream", name := "duplicates", desc := "()I" } : Jvm.MethodName) prog_1_method_30_code 1 (some .int) 0 := ⟨zm316, zm1, zm319, by decide +kernel⟩
theorem zl_L_184 : zLk "SluiceStreamLaw" 184 ({ cls := "SluiceStreamModel", name := "duplicates", desc := "()I" } : Jvm.MethodName) prog_8_method_54_code 1 (some .int) 0 := ⟨zm1060, zm7, zm1063, by decide +kernel⟩
theorem zl_L_185 : zLk "SluiceStreamLaw" 185 ({ cls := "SluiceStream", name := "recoveryEnd", desc := "()I" } : Jvm.MethodName) prog_1_method_31_code 1 (some .int) 0 := ⟨zm320, zm1, zm323, by decide +kernel⟩
theorem zl_L_188 : zLk "SluiceStreamLaw" 188 ({ cls := "SluiceStreamModel", name := "recoveryEnd", desc := "()I" } : Jvm.MethodName) prog_8_method_55_code 1 (some .int) 0 := ⟨zm1064, zm7, zm1067, by decide +kernel⟩
theorem zl_L_189 : zLk "SluiceStreamLaw" 189 ({ cls := "SluiceStream", name := "timeout", desc := "()I" } : Jvm.MethodName) prog_1_method_32_code 1 (some .int) 0 := ⟨zm324, zm1, zm327, by decide +kernel⟩
theorem zl_L_192 : zLk "SluiceStreamLaw" 192 ({ cls := "SluiceStreamModel", name := "timeout", desc := "()I" } : Jvm.MethodName) prog_8_method_56_code 1 (some .int) 0 := ⟨zm1068, zm7, zm1071, by decide +kernel⟩
theorem zl_L_193 : zLk "SluiceStreamLaw" 193 ({ cls := "SluiceStream", name := "timerEnd", desc := "()I" } : Jvm.MethodName) prog_1_method_33_code 1 (some .int) 0 := ⟨zm328, zm1, zm331, by decide +kernel⟩
theorem zl_L_196 : zLk "SluiceStreamLaw" 196 ({ cls := "SluiceStreamModel", name := "timerEnd", desc := "()I" } : Jvm.MethodName) prog_8_method_57_code 1 (some .int) 0 := ⟨zm1072, zm7, zm1075, by decide +kernel⟩
theorem zl_L_197 : zLk "SluiceStreamLaw" 197 ({ cls := "SluiceStream", name := "roundTrip", desc := "()I" } : Jvm.MethodName) prog_1_method_34_code 1 (some .int) 0 := ⟨zm332, zm1, zm335, by decide +kernel⟩
theorem zl_L_200 : zLk "SluiceStreamLaw" 200 ({ cls := "SluiceStreamModel", name := "roundTrip", desc := "()I" } : Jvm.MethodName) prog_8_method_58_code 1 (some .int) 0 := ⟨zm1076, zm7, zm1079, by decide +kernel⟩
theorem zl_L_201 : zLk "SluiceStreamLaw" 201 ({ cls := "SluiceStream", name := "variation", desc := "()I" } : Jvm.MethodName) prog_1_method_35_code 1 (some .int) 0 := ⟨zm336, zm1, zm339, by decide +kernel⟩
theorem zl_L_204 : zLk "SluiceStreamLaw" 204 ({ cls := "SluiceStreamModel", name := "variation", desc := "()I" } : Jvm.MethodName) prog_8_method_59_code 1 (some .int) 0 := ⟨zm1080, zm7, zm1083, by decide +kernel⟩
theorem zl_L_205 : zLk "SluiceStreamLaw" 205 ({ cls := "SluiceStream", name := "timedEnd", desc := "()I" } : Jvm.MethodName) prog_1_method_36_code 1 (some .int) 0 := ⟨zm340, zm1, zm343, by decide +kernel⟩
theorem zl_L_208 : zLk "SluiceStreamLaw" 208 ({ cls := "SluiceStreamModel", name := "timedEnd", desc := "()I" } : Jvm.MethodName) prog_8_method_60_code 1 (some .int) 0 := ⟨zm1084, zm7, zm1087, by decide +kernel⟩
theorem zl_L_209 : zLk "SluiceStreamLaw" 209 ({ cls := "SluiceStream", name := "sent", desc := "()I" } : Jvm.MethodName) prog_1_method_37_code 1 (some .int) 0 := ⟨zm344, zm1, zm347, by decide +kernel⟩
theorem zl_L_212 : zLk "SluiceStreamLaw" 212 ({ cls := "SluiceStreamModel", name := "sent", desc := "()I" } : Jvm.MethodName) prog_8_method_61_code 1 (some .int) 0 := ⟨zm1088, zm7, zm1091, by decide +kernel⟩
theorem zl_L_213 : zLk "SluiceStreamLaw" 213 ({ cls := "SluiceStream", name := "sentAgain", desc := "()I" } : Jvm.MethodName) prog_1_method_38_code 1 (some .int) 0 := ⟨zm348, zm1, zm351, by decide +kernel⟩
theorem zl_L_216 : zLk "SluiceStreamLaw" 216 ({ cls := "SluiceStreamModel", name := "sentAgain", desc := "()I" } : Jvm.MethodName) prog_8_method_62_code 1 (some .int) 0 := ⟨zm1092, zm7, zm1095, by decide +kernel⟩
theorem zl_L_217 : zLk "SluiceStreamLaw" 217 ({ cls := "SluiceStream", name := "inOrder", desc := "()I" } : Jvm.MethodName) prog_1_method_39_code 1 (some .int) 0 := ⟨zm352, zm1, zm355, by decide +kernel⟩
theorem zl_L_220 : zLk "SluiceStreamLaw" 220 ({ cls := "SluiceStreamModel", name := "inOrder", desc := "()I" } : Jvm.MethodName) prog_8_method_63_code 1 (some .int) 0 := ⟨zm1096, zm7, zm1099, by decide +kernel⟩
theorem zl_L_221 : zLk "SluiceStreamLaw" 221 ({ cls := "SluiceStream", name := "readPosition", desc := "()I" } : Jvm.MethodName) prog_1_method_40_code 1 (some .int) 0 := ⟨zm356, zm1, zm359, by decide +kernel⟩
theorem zl_L_224 : zLk "SluiceStreamLaw" 224 ({ cls := "SluiceStreamModel", name := "readPosition", desc := "()I" } : Jvm.MethodName) prog_8_method_64_code 1 (some .int) 0 := ⟨zm1100, zm7, zm1103, by decide +kernel⟩
theorem zl_L_225 : zLk "SluiceStreamLaw" 225 ({ cls := "SluiceStream", name := "window", desc := "()I" } : Jvm.MethodName) prog_1_method_41_code 1 (some .int) 0 := ⟨zm360, zm1, zm363, by decide +kernel⟩
theorem zl_L_228 : zLk "SluiceStreamLaw" 228 ({ cls := "SluiceStreamModel", name := "window", desc := "()I" } : Jvm.MethodName) prog_8_method_65_code 1 (some .int) 0 := ⟨zm1104, zm7, zm1107, by decide +kernel⟩
theorem zl_L_229 : zLk "SluiceStreamLaw" 229 ({ cls := "SluiceStream", name := "blocks", desc := "()I" } : Jvm.MethodName) prog_1_method_42_code 1 (some .int) 0 := ⟨zm365, zm1, zm368, by decide +kernel⟩
theorem zl_L_232 : zLk "SluiceStreamLaw" 232 ({ cls := "SluiceStreamModel", name := "blocks", desc := "()I" } : Jvm.MethodName) prog_8_method_67_code 3 (some .int) 0 := ⟨zm1108, zm7, zm1111, by decide +kernel⟩
theorem zlw_blockStart : zLw "SluiceStreamLaw" 233 ({ cls := "SluiceStreamLaw", name := "blockStart", desc := "(LSluiceStream;I[J)I" } : Jvm.MethodName) method_19_code 4 [(0, 9, 12, 31)] 3 := ⟨zm711, zm0, zm713, zm712, by decide +kernel⟩
theorem zl_L_235 : zLk "SluiceStreamLaw" 235 ({ cls := "SluiceStreamModel", name := "blockStart", desc := "(I)I" } : Jvm.MethodName) prog_8_method_68_code 3 (some .int) 1 := ⟨zm1112, zm7, zm1115, by decide +kernel⟩
theorem zlw_blockEnd : zLw "SluiceStreamLaw" 236 ({ cls := "SluiceStreamLaw", name := "blockEnd", desc := "(LSluiceStream;I[J)I" } : Jvm.MethodName) method_20_code 4 [(0, 9, 12, 31)] 3 := ⟨zm722, zm0, zm724, zm723, by decide +kernel⟩
theorem zl_L_238 : zLk "SluiceStreamLaw" 238 ({ cls := "SluiceStreamModel", name := "blockEnd", desc := "(I)I" } : Jvm.MethodName) prog_8_method_69_code 3 (some .int) 1 := ⟨zm1120, zm7, zm1123, by decide +kernel⟩
