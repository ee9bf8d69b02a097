theorem zm463 : (Jvm.Cond.methodLink "SluiceStreamLaw" (16 : Nat) ({ cls := "SluiceStream", name := "inOrder", desc := "()I" } : Jvm.MethodName)) ∈ zT := List.mem_filter.mpr ⟨List.mem_of_getElem? (i := 478) (by decide +kernel), by decide +kernel⟩
theorem zm1 : (Jvm.Cond.initialized "SluiceStream") ∈ zT := List.mem_filter.mpr ⟨List.mem_of_getElem? (i := 16) (by decide +kernel), by decide +kernel⟩
theorem zm466 : (Jvm.Cond.code ({ cls := "SluiceStream", name := "inOrder", desc := "()I" } : Jvm.MethodName) prog_1_method_39_code (1 : Nat) (Option.some Jvm.ClassFile.FieldType.int)) ∈ zT := List.mem_filter.mpr ⟨List.mem_of_getElem? (i := 481) (by decide +kernel), by decide +kernel⟩
theorem zm464 : (Jvm.Cond.instanceMethod ({ cls := "SluiceStream", name := "inOrder", desc := "()I" } : Jvm.MethodName)) ∈ zT := List.mem_filter.mpr ⟨List.mem_of_getElem? (i := 479) (by decide +kernel), by decide +kernel⟩
theorem zm465 : (Jvm.Cond.selects "SluiceStream" ({ cls := "SluiceStream", name := "inOrder", desc := "()I" } : Jvm.MethodName) ({ cls := "SluiceStream", name := "inOrder", desc := "()I" } : Jvm.MethodName)) ∈ zT := List.mem_filter.mpr ⟨List.mem_of_getElem? (i := 480) (by decide +kernel), by decide +kernel⟩
theorem zm459 : (Jvm.Cond.methodLink "SluiceStreamLaw" (19 : Nat) ({ cls := "SluiceStream", name := "written", desc := "()I" } : Jvm.MethodName)) ∈ zT := List.mem_filter.mpr ⟨List.mem_of_getElem? (i := 474) (by decide +kernel), by decide +kernel⟩
theorem zm462 : (Jvm.Cond.code ({ cls := "SluiceStream", name := "written", desc := "()I" } : Jvm.MethodName) prog_1_method_24_code (1 : Nat) (Option.some Jvm.ClassFile.FieldType.int)) ∈ zT := List.mem_filter.mpr ⟨List.mem_of_getElem? (i := 477) (by decide +kernel), by decide +kernel⟩
theorem zm460 : (Jvm.Cond.instanceMethod ({ cls := "SluiceStream", name := "written", desc := "()I" } : Jvm.MethodName)) ∈ zT := List.mem_filter.mpr ⟨List.mem_of_getElem? (i := 475) (by decide +kernel), by decide +kernel⟩
theorem zm461 : (Jvm.Cond.selects "SluiceStream" ({ cls := "SluiceStream", name := "written", desc := "()I" } : Jvm.MethodName) ({ cls := "SluiceStream", name := "written", desc := "()I" } : Jvm.MethodName)) ∈ zT := List.mem_filter.mpr ⟨List.mem_of_getElem? (i := 476) (by decide +kernel), by decide +kernel⟩
theorem zm482 : (Jvm.Cond.methodLink "SluiceStreamLaw" (22 : Nat) ({ cls := "SluiceStream", name := "highest", desc := "()I" } : Jvm.MethodName)) ∈ zT := List.mem_filter.mpr ⟨List.mem_of_getElem? (i := 497) (by decide +kernel), by decide +kernel⟩
theorem zm485 : (Jvm.Cond.code ({ cls := "SluiceStream", name := "highest", desc := "()I" } : Jvm.MethodName) prog_1_method_23_code (1 : Nat) (Option.some Jvm.ClassFile.FieldType.int)) ∈ zT := List.mem_filter.mpr ⟨List.mem_of_getElem? (i := 500) (by decide +kernel), by decide +kernel⟩
theorem zm483 : (Jvm.Cond.instanceMethod ({ cls := "SluiceStream", name := "highest", desc := "()I" } : Jvm.MethodName)) ∈ zT := List.mem_filter.mpr ⟨List.mem_of_getElem? (i := 498) (by decide +kernel), by decide +kernel⟩
theorem zm484 : (Jvm.Cond.selects "SluiceStream" ({ cls := "SluiceStream", name := "highest", desc := "()I" } : Jvm.MethodName) ({ cls := "SluiceStream", name := "highest", desc := "()I" } : Jvm.MethodName)) ∈ zT := List.mem_filter.mpr ⟨List.mem_of_getElem? (i := 499) (by decide +kernel), by decide +kernel⟩
theorem zm486 : (Jvm.Cond.methodLink "SluiceStreamLaw" (25 : Nat) ({ cls := "SluiceStream", name := "edge", desc := "()I" } : Jvm.MethodName)) ∈ zT := List.mem_filter.mpr ⟨List.mem_of_getElem? (i := 501) (by decide +kernel), by decide +kernel⟩
theorem zm489 : (Jvm.Cond.code ({ cls := "SluiceStream", name := "edge", desc := "()I" } : Jvm.MethodName) prog_1_method_25_code (1 : Nat) (Option.some Jvm.ClassFile.FieldType.int)) ∈ zT := List.mem_filter.mpr ⟨List.mem_of_getElem? (i := 504) (by decide +kernel), by decide +kernel⟩
theorem zm487 : (Jvm.Cond.instanceMethod ({ cls := "SluiceStream", name := "edge", desc := "()I" } : Jvm.MethodName)) ∈ zT := List.mem_filter.mpr ⟨List.mem_of_getElem? (i := 502) (by decide +kernel), by decide +kernel⟩
theorem zm488 : (Jvm.Cond.selects "SluiceStream" ({ cls := "SluiceStream", name := "edge", desc := "()I" } : Jvm.MethodName) ({ cls := "SluiceStream", name := "edge", desc := "()I" } : Jvm.MethodName)) ∈ zT := List.mem_filter.mpr ⟨List.mem_of_getElem? (i := 503) (by decide +kernel), by decide +kernel⟩
theorem zm467 : (Jvm.Cond.methodLink "SluiceStreamLaw" (28 : Nat) ({ cls := "SluiceStream", name := "readPosition", desc := "()I" } : Jvm.MethodName)) ∈ zT := List.mem_filter.mpr ⟨List.mem_of_getElem? (i := 482) (by decide +kernel), by decide +kernel⟩
theorem zm470 : (Jvm.Cond.code ({ cls := "SluiceStream", name := "readPosition", desc := "()I" } : Jvm.MethodName) prog_1_method_40_code (1 : Nat) (Option.some Jvm.ClassFile.FieldType.int)) ∈ zT := List.mem_filter.mpr ⟨List.mem_of_getElem? (i := 485) (by decide +kernel), by decide +kernel⟩
theorem zm468 : (Jvm.Cond.instanceMethod ({ cls := "SluiceStream", name := "readPosition", desc := "()I" } : Jvm.MethodName)) ∈ zT := List.mem_filter.mpr ⟨List.mem_of_getElem? (i := 483) (by decide +kernel), by decide +kernel⟩
theorem zm469 : (Jvm.Cond.selects "SluiceStream" ({ cls := "SluiceStream", name := "readPosition", desc := "()I" } : Jvm.MethodName) ({ cls := "SluiceStream", name := "readPosition", desc := "()I" } : Jvm.MethodName)) ∈ zT := List.mem_filter.mpr ⟨List.mem_of_getElem? (i := 484) (by decide +kernel), by decide +kernel⟩
theorem zm490 : (Jvm.Cond.methodLink "SluiceStreamLaw" (31 : Nat) ({ cls := "SluiceStream", name := "isMarked", desc := "(I)Z" } : Jvm.MethodName)) ∈ zT := List.mem_filter.mpr ⟨List.mem_of_getElem? (i := 505) (by decide +kernel), by decide +kernel⟩
theorem zm493 : (Jvm.Cond.code ({ cls := "SluiceStream", name := "isMarked", desc := "(I)Z" } : Jvm.MethodName) prog_1_method_27_code (2 : Nat) (Option.some Jvm.ClassFile.FieldType.boolean)) ∈ zT := List.mem_filter.mpr ⟨List.mem_of_getElem? (i := 508) (by decide +kernel), by decide +kernel⟩
theorem zm491 : (Jvm.Cond.instanceMethod ({ cls := "SluiceStream", name := "isMarked", desc := "(I)Z" } : Jvm.MethodName)) ∈ zT := List.mem_filter.mpr ⟨List.mem_of_getElem? (i := 506) (by decide +kernel), by decide +kernel⟩
theorem zm492 : (Jvm.Cond.selects "SluiceStream" ({ cls := "SluiceStream", name := "isMarked", desc := "(I)Z" } : Jvm.MethodName) ({ cls := "SluiceStream", name := "isMarked", desc := "(I)Z" } : Jvm.MethodName)) ∈ zT := List.mem_filter.mpr ⟨List.mem_of_getElem? (i := 507) (by decide +kernel), by decide +kernel⟩
theorem zm495 : (Jvm.Cond.methodLink "SluiceStreamLaw" (35 : Nat) ({ cls := "SluiceStream", name := "inFlight", desc := "()I" } : Jvm.MethodName)) ∈ zT := List.mem_filter.mpr ⟨List.mem_of_getElem? (i := 510) (by decide +kernel), by decide +kernel⟩
theorem zm498 : (Jvm.Cond.code ({ cls := "SluiceStream", name := "inFlight", desc := "()I" } : Jvm.MethodName) prog_1_method_26_code (1 : Nat) (Option.some Jvm.ClassFile.FieldType.int)) ∈ zT := List.mem_filter.mpr ⟨List.mem_of_getElem? (i := 513) (by decide +kernel), by decide +kernel⟩
theorem zm496 : (Jvm.Cond.instanceMethod ({ cls := "SluiceStream", name := "inFlight", desc := "()I" } : Jvm.MethodName)) ∈ zT := List.mem_filter.mpr ⟨List.mem_of_getElem? (i := 511) (by decide +kernel), by decide +kernel⟩
theorem zm497 : (Jvm.Cond.selects "SluiceStream" ({ cls := "SluiceStream", name := "inFlight", desc := "()I" } : Jvm.MethodName) ({ cls := "SluiceStream", name := "inFlight", desc := "()I" } : Jvm.MethodName)) ∈ zT := List.mem_filter.mpr ⟨List.mem_of_getElem? (i := 512) (by decide +kernel), by decide +kernel⟩
theorem zm500 : (Jvm.Cond.methodLink "SluiceStreamLaw" (38 : Nat) ({ cls := "SluiceStream", name := "congestionWindow", desc := "()I" } : Jvm.MethodName)) ∈ zT := List.mem_filter.mpr ⟨List.mem_of_getElem? (i := 515) (by decide +kernel), by decide +kernel⟩
theorem zm503 : (Jvm.Cond.code ({ cls := "SluiceStream", name := "congestionWindow", desc := "()I" } : Jvm.MethodName) prog_1_method_28_code (1 : Nat) (Option.some Jvm.ClassFile.FieldType.int)) ∈ zT := List.mem_filter.mpr ⟨List.mem_of_getElem? (i := 518) (by decide +kernel), by decide +kernel⟩
theorem zm501 : (Jvm.Cond.instanceMethod ({ cls := "SluiceStream", name := "congestionWindow", desc := "()I" } : Jvm.MethodName)) ∈ zT := List.mem_filter.mpr ⟨List.mem_of_getElem? (i := 516) (by decide +kernel), by decide +kernel⟩
theorem zm502 : (Jvm.Cond.selects "SluiceStream" ({ cls := "SluiceStream", name := "congestionWindow", desc := "()I" } : Jvm.MethodName) ({ cls := "SluiceStream", name := "congestionWindow", desc := "()I" } : Jvm.MethodName)) ∈ zT := List.mem_filter.mpr ⟨List.mem_of_getElem? (i := 517) (by decide +kernel), by decide +kernel⟩
theorem zm504 : (Jvm.Cond.methodLink "SluiceStreamLaw" (41 : Nat) ({ cls := "SluiceStream", name := "threshold", desc := "()I" } : Jvm.MethodName)) ∈ zT := List.mem_filter.mpr ⟨List.mem_of_getElem? (i := 519) (by decide +kernel), by decide +kernel⟩
theorem zm507 : (Jvm.Cond.code ({ cls := "SluiceStream", name := "threshold", desc := "()I" } : Jvm.MethodName) prog_1_method_29_code (1 : Nat) (Option.some Jvm.ClassFile.FieldType.int)) ∈ zT := List.mem_filter.mpr ⟨List.mem_of_getElem? (i := 522) (by decide +kernel), by decide +kernel⟩
theorem zm505 : (Jvm.Cond.instanceMethod ({ cls := "SluiceStream", name := "threshold", desc := "()I" } : Jvm.MethodName)) ∈ zT := List.mem_filter.mpr ⟨List.mem_of_getElem? (i := 520) (by decide +kernel), by decide +kernel⟩
theorem zm506 : (Jvm.Cond.selects "SluiceStream" ({ cls := "SluiceStream", name := "threshold", desc := "()I" } : Jvm.MethodName) ({ cls := "SluiceStream", name := "threshold", desc := "()I" } : Jvm.MethodName)) ∈ zT := List.mem_filter.mpr ⟨List.mem_of_getElem? (i := 521) (by decide +kernel), by decide +kernel⟩
theorem zm508 : (Jvm.Cond.methodLink "SluiceStreamLaw" (44 : Nat) ({ cls := "SluiceStream", name := "timeout", desc := "()I" } : Jvm.MethodName)) ∈ zT := List.mem_filter.mpr ⟨List.mem_of_getElem? (i := 523) (by decide +kernel), by decide +kernel⟩
theorem zm511 : (Jvm.Cond.code ({ cls := "SluiceStream", name := "timeout", desc := "()I" } : Jvm.MethodName) prog_1_method_32_code (1 : Nat) (Option.some Jvm.ClassFile.FieldType.int)) ∈ zT := List.mem_filter.mpr ⟨List.mem_of_getElem? (i := 526) (by decide +kernel), by decide +kernel⟩
theorem zm509 : (Jvm.Cond.instanceMethod ({ cls := "SluiceStream", name := "timeout", desc := "()I" } : Jvm.MethodName)) ∈ zT := List.mem_filter.mpr ⟨List.mem_of_getElem? (i := 524) (by decide +kernel), by decide +kernel⟩
theorem zm510 : (Jvm.Cond.selects "SluiceStream" ({ cls := "SluiceStream", name := "timeout", desc := "()I" } : Jvm.MethodName) ({ cls := "SluiceStream", name := "timeout", desc := "()I" } : Jvm.MethodName)) ∈ zT := List.mem_filter.mpr ⟨List.mem_of_getElem? (i := 525) (by decide +kernel), by decide +kernel⟩
theorem zm512 : (Jvm.Cond.methodLink "SluiceStreamLaw" (47 : Nat) ({ cls := "SluiceStream", name := "duplicates", desc := "()I" } : Jvm.MethodName)) ∈ zT := List.mem_filter.mpr ⟨List.mem_of_getElem? (i := 527) (by decide +kernel), by decide +kernel⟩
theorem zm515 : (Jvm.Cond.code ({ cls := "SluiceStream", name := "duplicates", desc := "()I" } : Jvm.MethodName) prog_1_method_30_code (1 : Nat) (Option.some Jvm.ClassFile.FieldType.int)) ∈ zT := List.mem_filter.mpr ⟨List.mem_of_getElem? (i := 530) (by decide +kernel), by decide +kernel⟩
theorem zm513 : (Jvm.Cond.instanceMethod ({ cls := "SluiceStream", name := "duplicates", desc := "()I" } : Jvm.MethodName)) ∈ zT := List.mem_filter.mpr ⟨List.mem_of_getElem? (i := 528) (by decide +kernel), by decide +kernel⟩
theorem zm514 : (Jvm.Cond.selects "SluiceStream" ({ cls := "SluiceStream", name := "duplicates", desc := "()I" } : Jvm.MethodName) ({ cls := "SluiceStream", name := "duplicates", desc := "()I" } : Jvm.MethodName)) ∈ zT := List.mem_filter.mpr ⟨List.mem_of_getElem? (i := 529) (by decide +kernel), by decide +kernel⟩
theorem zm516 : (Jvm.Cond.methodLink "SluiceStreamLaw" (50 : Nat) ({ cls := "SluiceStream", name := "sentAgain", desc := "()I" } : Jvm.MethodName)) ∈ zT := List.mem_filter.mpr ⟨List.mem_of_getElem? (i := 531) (by decide +kernel), by decide +kernel⟩
theorem zm519 : (Jvm.Cond.code ({ cls := "SluiceStream", name := "sentAgain", desc := "()I" } : Jvm.MethodName) prog_1_method_38_code (1 : Nat) (Option.some Jvm.ClassFile.FieldType.int)) ∈ zT := List.mem_filter.mpr ⟨List.mem_of_getElem? (i := 534) (by decide +kernel), by decide +kernel⟩
theorem zm517 : (Jvm.Cond.instanceMethod ({ cls := "SluiceStream", name := "sentAgain", desc := "()I" } : Jvm.MethodName)) ∈ zT := List.mem_filter.mpr ⟨List.mem_of_getElem? (i := 532) (by decide +kernel), by decide +kernel⟩
theorem zm518 : (Jvm.Cond.selects "SluiceStream" ({ cls := "SluiceStream", name := "sentAgain", desc := "()I" } : Jvm.MethodName) ({ cls := "SluiceStream", name := "sentAgain", desc := "()I" } : Jvm.MethodName)) ∈ zT := List.mem_filter.mpr ⟨List.mem_of_getElem? (i := 533) (by decide +kernel), by decide +kernel⟩
theorem zm520 : (Jvm.Cond.methodLink "SluiceStreamLaw" (53 : Nat) ({ cls := "SluiceStream", name := "sent", desc := "()I" } : Jvm.MethodName)) ∈ zT := List.mem_filter.mpr ⟨List.mem_of_getElem? (i := 535) (by decide +kernel), by decide +kernel⟩
theorem zm523 : (Jvm.Cond.code ({ cls := "SluiceStream", name := "sent", desc := "()I" } : Jvm.MethodName) prog_1_method_37_code (1 : Nat) (Option.some Jvm.ClassFile.FieldType.int)) ∈ zT := List.mem_filter.mpr ⟨List.mem_of_getElem? (i := 538) (by decide +kernel), by decide +kernel⟩
theorem zm521 : (Jvm.Cond.instanceMethod ({ cls := "SluiceStream", name := "sent", desc := "()I" } : Jvm.MethodName)) ∈ zT := List.mem_filter.mpr ⟨List.mem_of_getElem? (i := 536) (by decide +kernel), by decide +kernel⟩
theorem zm522 : (Jvm.Cond.selects "SluiceStream" ({ cls := "SluiceStream", name := "sent", desc := "()I" } : Jvm.MethodName) ({ cls := "SluiceStream", name := "sent", desc := "()I" } : Jvm.MethodName)) ∈ zT := List.mem_filter.mpr ⟨List.mem_of_getElem? (i := 537) (by decide +kernel), by decide +kernel⟩
theorem zm524 : (Jvm.Cond.methodLink "SluiceStreamLaw" (56 : Nat) ({ cls := "SluiceStream", name := "recoveryEnd", desc := "()I" } : Jvm.MethodName)) ∈ zT := List.mem_filter.mpr ⟨List.mem_of_getElem? (i := 539) (by decide +kernel), by decide +kernel⟩
theorem zm527 : (Jvm.Cond.code ({ cls := "SluiceStream", name := "recoveryEnd", desc := "()I" } : Jvm.MethodName) prog_1_method_31_code (1 : Nat) (Option.some Jvm.ClassFile.FieldType.int)) ∈ zT := List.mem_filter.mpr ⟨List.mem_of_getElem? (i := 542) (by decide +kernel), by decide +kernel⟩
theorem zm525 : (Jvm.Cond.instanceMethod ({ cls := "SluiceStream", name := "recoveryEnd", desc := "()I" } : Jvm.MethodName)) ∈ zT := List.mem_filter.mpr ⟨List.mem_of_getElem? (i := 540) (by decide +kernel), by decide +kernel⟩
theorem zm526 : (Jvm.Cond.selects "SluiceStream" ({ cls := "SluiceStream", name := "recoveryEnd", desc := "()I" } : Jvm.MethodName) ({ cls := "SluiceStream", name := "recoveryEnd", desc := "()I" } : Jvm.MethodName)) ∈ zT := List.mem_filter.mpr ⟨List.mem_of_getElem? (i := 541) (by decide +kernel), by decide +kernel⟩
theorem zm528 : (Jvm.Cond.methodLink "SluiceStreamLaw" (59 : Nat) ({ cls := "SluiceStream", name := "timedEnd", desc := "()I" } : Jvm.MethodName)) ∈ zT := List.mem_filter.mpr ⟨List.mem_of_getElem? (i := 543) (by decide +kernel), by decide +kernel⟩
theorem zm531 : (Jvm.Cond.code ({ cls := "SluiceStream", name := "timedEnd", desc := "()I" } : Jvm.MethodName) prog_1_method_36_code (1 : Nat) (Option.some Jvm.ClassFile.FieldType.int)) ∈ zT := List.mem_filter.mpr ⟨List.mem_of_getElem? (i := 546) (by decide +kernel), by decide +kernel⟩
theorem zm529 : (Jvm.Cond.instanceMethod ({ cls := "SluiceStream", name := "timedEnd", desc := "()I" } : Jvm.MethodName)) ∈ zT := List.mem_filter.mpr ⟨List.mem_of_getElem? (i := 544) (by decide +kernel), by decide +kernel⟩
theorem zm530 : (Jvm.Cond.selects "SluiceStream" ({ cls := "SluiceStream", name := "timedEnd", desc := "()I" } : Jvm.MethodName) ({ cls := "SluiceStream", name := "timedEnd", desc := "()I" } : Jvm.MethodName)) ∈ zT := List.mem_filter.mpr ⟨List.mem_of_getElem? (i := 545) (by decide +kernel), by decide +kernel⟩
theorem zm474 : (Jvm.Cond.methodLink "SluiceStreamLaw" (7 : Nat) ({ cls := "SluiceStream", name := "acknowledged", desc := "()I" } : Jvm.MethodName)) ∈ zT := List.mem_filter.mpr ⟨List.mem_of_getElem? (i := 489) (by decide +kernel), by decide +kernel⟩
theorem zm477 : (Jvm.Cond.code ({ cls := "SluiceStream", name := "acknowledged", desc := "()I" } : Jvm.MethodName) prog_1_method_21_code (1 : Nat) (Option.some Jvm.ClassFile.FieldType.int)) ∈ zT := List.mem_filter.mpr ⟨List.mem_of_getElem? (i := 492) (by decide +kernel), by decide +kernel⟩
theorem zm475 : (Jvm.Cond.instanceMethod ({ cls := "SluiceStream", name := "acknowledged", desc := "()I" } : Jvm.MethodName)) ∈ zT := List.mem_filter.mpr ⟨List.mem_of_getElem? (i := 490) (by decide +kernel), by decide +kernel⟩
theorem zm476 : (Jvm.Cond.selects "SluiceStream" ({ cls := "SluiceStream", name := "acknowledged", desc := "()I" } : Jvm.MethodName) ({ cls := "SluiceStream", name := "acknowledged", desc := "()I" } : Jvm.MethodName)) ∈ zT := List.mem_filter.mpr ⟨List.mem_of_getElem? (i := 491) (by decide +kernel), by decide +kernel⟩
theorem zm478 : (Jvm.Cond.methodLink "SluiceStreamLaw" (13 : Nat) ({ cls := "SluiceStream", name := "next", desc := "()I" } : Jvm.MethodName)) ∈ zT := List.mem_filter.mpr ⟨List.mem_of_getElem? (i := 493) (by decide +kernel), by decide +kernel⟩
theorem zm481 : (Jvm.Cond.code ({ cls := "SluiceStream", name := "next", desc := "()I" } : Jvm.MethodName) prog_1_method_22_code (1 : Nat) (Option.some Jvm.ClassFile.FieldType.int)) ∈ zT := List.mem_filter.mpr ⟨List.mem_of_getElem? (i := 496) (by decide +kernel), by decide +kernel⟩
theorem zm479 : (Jvm.Cond.instanceMethod ({ cls := "SluiceStream", name := "next", desc := "()I" } : Jvm.MethodName)) ∈ zT := List.mem_filter.mpr ⟨List.mem_of_getElem? (i := 494) (by decide +kernel), by decide +kernel⟩
theorem zm480 : (Jvm.Cond.selects "SluiceStream" ({ cls := "SluiceStream", name := "next", desc := "()I" } : Jvm.MethodName) ({ cls := "SluiceStream", name := "next", desc := "()I" } : Jvm.MethodName)) ∈ zT := List.mem_filter.mpr ⟨List.mem_of_getElem? (i := 495) (by decide +kernel), by decide +kernel⟩
theorem zm532 : (Jvm.Cond.methodLink "SluiceStreamLaw" (62 : Nat) ({ cls := "SluiceStream", name := "timerEnd", desc := "()I" } : Jvm.MethodName)) ∈ zT := List.mem_filter.mpr ⟨List.mem_of_getElem? (i := 547) (by decide +kernel), by decide +kernel⟩
theorem zm535 : (Jvm.Cond.code ({ cls := "SluiceStream", name := "timerEnd", desc := "()I" } : Jvm.MethodName) prog_1_method_33_code (1 : Nat) (Option.some Jvm.ClassFile.FieldType.int)) ∈ zT := List.mem_filter.mpr ⟨List.mem_of_getElem? (i := 550) (by decide +kernel), by decide +kernel⟩
theorem zm533 : (Jvm.Cond.instanceMethod ({ cls := "SluiceStream", name := "timerEnd", desc := "()I" } : Jvm.MethodName)) ∈ zT := List.mem_filter.mpr ⟨List.mem_of_getElem? (i := 548) (by decide +kernel), by decide +kernel⟩
theorem zm534 : (Jvm.Cond.selects "SluiceStream" ({ cls := "SluiceStream", name := "timerEnd", desc := "()I" } : Jvm.MethodName) ({ cls := "SluiceStream", name := "timerEnd", desc := "()I" } : Jvm.MethodName)) ∈ zT := List.mem_filter.mpr ⟨List.mem_of_getElem? (i := 549) (by decide +kernel), by decide +kernel⟩
theorem zm455 : (Jvm.Cond.methodLink "SluiceStreamLaw" (65 : Nat) ({ cls := "SluiceStream", name := "time", desc := "()I" } : Jvm.MethodName)) ∈ zT := List.mem_filter.mpr ⟨List.mem_of_getElem? (i := 470) (by decide +kernel), by decide +kernel⟩
theorem zm458 : (Jvm.Cond.code ({ cls := "SluiceStream", name := "time", desc := "()I" } : Jvm.MethodName) prog_1_method_20_code (1 : Nat) (Option.some Jvm.ClassFile.FieldType.int)) ∈ zT := List.mem_filter.mpr ⟨List.mem_of_getElem? (i := 473) (by decide +kernel), by decide +kernel⟩
theorem zm456 : (Jvm.Cond.instanceMethod ({ cls := "SluiceStream", name := "time", desc := "()I" } : Jvm.MethodName)) ∈ zT := List.mem_filter.mpr ⟨List.mem_of_getElem? (i := 471) (by decide +kernel), by decide +kernel⟩
theorem zm457 : (Jvm.Cond.selects "SluiceStream" ({ cls := "SluiceStream", name := "time", desc := "()I" } : Jvm.MethodName) ({ cls := "SluiceStream", name := "time", desc := "()I" } : Jvm.MethodName)) ∈ zT := List.mem_filter.mpr ⟨List.mem_of_getElem? (i := 472) (by decide +kernel), by decide +kernel⟩
theorem zm539 : (Jvm.Cond.methodLink "SluiceStreamLaw" (68 : Nat) ({ cls := "SluiceStream", name := "window", desc := "()I" } : Jvm.MethodName)) ∈ zT := List.mem_filter.mpr ⟨List.mem_of_getElem? (i := 554) (by decide +kernel), by decide +kernel⟩
theorem zm542 : (Jvm.Cond.code ({ cls := "SluiceStream", name := "window", desc := "()I" } : Jvm.MethodName) prog_1_method_41_code (1 : Nat) (Option.some Jvm.ClassFile.FieldType.int)) ∈ zT := List.mem_filter.mpr ⟨List.mem_of_getElem? (i := 557) (by decide +kernel), by decide +kernel⟩
theorem zm540 : (Jvm.Cond.instanceMethod ({ cls := "SluiceStream", name := "window", desc := "()I" } : Jvm.MethodName)) ∈ zT := List.mem_filter.mpr ⟨List.mem_of_getElem? (i := 555) (by decide +kernel), by decide +kernel⟩
theorem zm541 : (Jvm.Cond.selects "SluiceStream" ({ cls := "SluiceStream", name := "window", desc := "()I" } : Jvm.MethodName) ({ cls := "SluiceStream", name := "window", desc := "()I" } : Jvm.MethodName)) ∈ zT := List.mem_filter.mpr ⟨List.mem_of_getElem? (i := 556) (by decide +kernel), by decide +kernel⟩
theorem zm552 : (Jvm.Cond.methodLink "SluiceStreamLaw" (74 : Nat) ({ cls := "SluiceStream", name := "blockStart", desc := "(I)I" } : Jvm.MethodName)) ∈ zT := List.mem_filter.mpr ⟨List.mem_of_getElem? (i := 567) (by decide +kernel), by decide +kernel⟩
theorem zm555 : (Jvm.Cond.code ({ cls := "SluiceStream", name := "blockStart", desc := "(I)I" } : Jvm.MethodName) prog_1_method_43_code (2 : Nat) (Option.some Jvm.ClassFile.FieldType.int)) ∈ zT := List.mem_filter.mpr ⟨List.mem_of_getElem? (i := 570) (by decide +kernel), by decide +kernel⟩
theorem zm553 : (Jvm.Cond.instanceMethod ({ cls := "SluiceStream", name := "blockStart", desc := "(I)I" } : Jvm.MethodName)) ∈ zT := List.mem_filter.mpr ⟨List.mem_of_getElem? (i := 568) (by decide +kernel), by decide +kernel⟩
theorem zm554 : (Jvm.Cond.selects "SluiceStream" ({ cls := "SluiceStream", name := "blockStart", desc := "(I)I" } : Jvm.MethodName) ({ cls := "SluiceStream", name := "blockStart", desc := "(I)I" } : Jvm.MethodName)) ∈ zT := List.mem_filter.mpr ⟨List.mem_of_getElem? (i := 569) (by decide +kernel), by decide +kernel⟩
theorem zm560 : (Jvm.Cond.methodLink "SluiceStreamLaw" (78 : Nat) ({ cls := "SluiceStream", name := "blockEnd", desc := "(I)I" } : Jvm.MethodName)) ∈ zT := List.mem_filter.mpr ⟨List.mem_of_getElem? (i := 575) (by decide +kernel), by decide +kernel⟩
theorem zm563 : (Jvm.Cond.code ({ cls := "SluiceStream", name := "blockEnd", desc := "(I)I" } : Jvm.MethodName) prog_1_method_44_code (2 : Nat) (Option.some Jvm.ClassFile.FieldType.int)) ∈ zT := List.mem_filter.mpr ⟨List.mem_of_getElem? (i := 578) (by decide +kernel), by decide +kernel⟩
theorem zm561 : (Jvm.Cond.instanceMethod ({ cls := "SluiceStream", name := "blockEnd", desc := "(I)I" } : Jvm.MethodName)) ∈ zT := List.mem_filter.mpr ⟨List.mem_of_getElem? (i := 576) (by decide +kernel), by decide +kernel⟩
theorem zm562 : (Jvm.Cond.selects "SluiceStream" ({ cls := "SluiceStream", name := "blockEnd", desc := "(I)I" } : Jvm.MethodName) ({ cls := "SluiceStream", name := "blockEnd", desc := "(I)I" } : Jvm.MethodName)) ∈ zT := List.mem_filter.mpr ⟨List.mem_of_getElem? (i := 577) (by decide +kernel), by decide +kernel⟩
theorem zm544 : (Jvm.Cond.methodLink "SluiceStreamLaw" (71 : Nat) ({ cls := "SluiceStream", name := "blocks", desc := "()I" } : Jvm.MethodName)) ∈ zT := List.mem_filter.mpr ⟨List.mem_of_getElem? (i := 559) (by decide +kernel), by decide +kernel⟩
theorem zm547 : (Jvm.Cond.code ({ cls := "SluiceStream", name := "blocks", desc := "()I" } : Jvm.MethodName) prog_1_method_42_code (1 : Nat) (Option.some Jvm.ClassFile.FieldType.int)) ∈ zT := List.mem_filter.mpr ⟨List.mem_of_getElem? (i := 562) (by decide +kernel), by decide +kernel⟩
theorem zm545 : (Jvm.Cond.instanceMethod ({ cls := "SluiceStream", name := "blocks", desc := "()I" } : Jvm.MethodName)) ∈ zT := List.mem_filter.mpr ⟨List.mem_of_getElem? (i := 560) (by decide +kernel), by decide +kernel⟩
theorem zm546 : (Jvm.Cond.selects "SluiceStream" ({ cls := "SluiceStream", name := "blocks", desc := "()I" } : Jvm.MethodName) ({ cls := "SluiceStream", name := "blocks", desc := "()I" } : Jvm.MethodName)) ∈ zT := List.mem_filter.mpr ⟨List.mem_of_getElem? (i := 561) (by decide +kernel), by decide +kernel⟩
theorem zm451 : (Jvm.Cond.methodLink "SluiceStreamLaw" (84 : Nat) ({ cls := "SluiceStream", name := "ackNumber", desc := "(I)I" } : Jvm.MethodName)) ∈ zT := List.mem_filter.mpr ⟨List.mem_of_getElem? (i := 466) (by decide +kernel), by decide +kernel⟩
theorem zm454 : (Jvm.Cond.code ({ cls := "SluiceStream", name := "ackNumber", desc := "(I)I" } : Jvm.MethodName) prog_1_method_16_code (2 : Nat) (Option.some Jvm.ClassFile.FieldType.int)) ∈ zT := List.mem_filter.mpr ⟨List.mem_of_getElem? (i := 469) (by decide +kernel), by decide +kernel⟩
theorem zm452 : (Jvm.Cond.instanceMethod ({ cls := "SluiceStream", name := "ackNumber", desc := "(I)I" } : Jvm.MethodName)) ∈ zT := List.mem_filter.mpr ⟨List.mem_of_getElem? (i := 467) (by decide +kernel), by decide +kernel⟩
theorem zm453 : (Jvm.Cond.selects "SluiceStream" ({ cls := "SluiceStream", name := "ackNumber", desc := "(I)I" } : Jvm.MethodName) ({ cls := "SluiceStream", name := "ackNumber", desc := "(I)I" } : Jvm.MethodName)) ∈ zT := List.mem_filter.mpr ⟨List.mem_of_getElem? (i := 468) (by decide +kernel), by decide +kernel⟩
theorem zm565 : (Jvm.Cond.methodLink "SluiceStreamLaw" (87 : Nat) ({ cls := "SluiceStream", name := "ackWindow", desc := "(I)I" } : Jvm.MethodName)) ∈ zT := List.mem_filter.mpr ⟨List.mem_of_getElem? (i := 580) (by decide +kernel), by decide +kernel⟩
theorem zm568 : (Jvm.Cond.code ({ cls := "SluiceStream", name := "ackWindow", desc := "(I)I" } : Jvm.MethodName) prog_1_method_17_code (2 : Nat) (Option.some Jvm.ClassFile.FieldType.int)) ∈ zT := List.mem_filter.mpr ⟨List.mem_of_getElem? (i := 583) (by decide +kernel), by decide +kernel⟩
theorem zm566 : (Jvm.Cond.instanceMethod ({ cls := "SluiceStream", name := "ackWindow", desc := "(I)I" } : Jvm.MethodName)) ∈ zT := List.mem_filter.mpr ⟨List.mem_of_getElem? (i := 581) (by decide +kernel), by decide +kernel⟩
theorem zm567 : (Jvm.Cond.selects "SluiceStream" ({ cls := "SluiceStream", name := "ackWindow", desc := "(I)I" } : Jvm.MethodName) ({ cls := "SluiceStream", name := "ackWindow", desc := "(I)I" } : Jvm.MethodName)) ∈ zT := List.mem_filter.mpr ⟨List.mem_of_getElem? (i := 582) (by decide +kernel), by decide +kernel⟩
theorem zm569 : (Jvm.Cond.methodLink "SluiceStreamLaw" (90 : Nat) ({ cls := "SluiceStream", name := "ackBlocks", desc := "(I)I" } : Jvm.MethodName)) ∈ zT := List.mem_filter.mpr ⟨List.mem_of_getElem? (i := 584) (by decide +kernel), by decide +kernel⟩
theorem zm572 : (Jvm.Cond.code ({ cls := "SluiceStream", name := "ackBlocks", desc := "(I)I" } : Jvm.MethodName) prog_1_method_18_code (2 : Nat) (Option.some Jvm.ClassFile.FieldType.int)) ∈ zT := List.mem_filter.mpr ⟨List.mem_of_getElem? (i := 587) (by decide +kernel), by decide +kernel⟩
theorem zm570 : (Jvm.Cond.instanceMethod ({ cls := "SluiceStream", name := "ackBlocks", desc := "(I)I" } : Jvm.MethodName)) ∈ zT := List.mem_filter.mpr ⟨List.mem_of_getElem? (i := 585) (by decide +kernel), by decide +kernel⟩
theorem zm571 : (Jvm.Cond.selects "SluiceStream" ({ cls := "SluiceStream", name := "ackBlocks", desc := "(I)I" } : Jvm.MethodName) ({ cls := "SluiceStream", name := "ackBlocks", desc := "(I)I" } : Jvm.MethodName)) ∈ zT := List.mem_filter.mpr ⟨List.mem_of_getElem? (i := 586) (by decide +kernel), by decide +kernel⟩
theorem zm573 : (Jvm.Cond.methodLink "SluiceStreamLaw" (93 : Nat) ({ cls := "SluiceStream", name := "ackBlock", desc := "(II)I" } : Jvm.MethodName)) ∈ zT := List.mem_filter.mpr ⟨List.mem_of_getElem? (i := 588) (by decide +kernel), by decide +kernel⟩
theorem zm576 : (Jvm.Cond.code ({ cls := "SluiceStream", name := "ackBlock", desc := "(II)I" } : Jvm.MethodName) prog_1_method_19_code (3 : Nat) (Option.some Jvm.ClassFile.FieldType.int)) ∈ zT := List.mem_filter.mpr ⟨List.mem_of_getElem? (i := 591) (by decide +kernel), by decide +kernel⟩
theorem zm574 : (Jvm.Cond.instanceMethod ({ cls := "SluiceStream", name := "ackBlock", desc := "(II)I" } : Jvm.MethodName)) ∈ zT := List.mem_filter.mpr ⟨List.mem_of_getElem? (i := 589) (by decide +kernel), by decide +kernel⟩
theorem zm575 : (Jvm.Cond.selects "SluiceStream" ({ cls := "SluiceStream", name := "ackBlock", desc := "(II)I" } : Jvm.MethodName) ({ cls := "SluiceStream", name := "ackBlock", desc := "(II)I" } : Jvm.MethodName)) ∈ zT := List.mem_filter.mpr ⟨List.mem_of_getElem? (i := 590) (by decide +kernel), by decide +kernel⟩
theorem zm447 : (Jvm.Cond.methodLink "SluiceStreamLaw" (81 : Nat) ({ cls := "SluiceStream", name := "acks", desc := "()I" } : Jvm.MethodName)) ∈ zT := List.mem_filter.mpr ⟨List.mem_of_getElem? (i := 462) (by decide +kernel), by decide +kernel⟩
theorem zm450 : (Jvm.Cond.code ({ cls := "SluiceStream", name := "acks", desc := "()I" } : Jvm.MethodName) prog_1_method_15_code (1 : Nat) (Option.some Jvm.ClassFile.FieldType.int)) ∈ zT := List.mem_filter.mpr ⟨List.mem_of_getElem? (i := 465) (by decide +kernel), by decide +kernel⟩
theorem zm448 : (Jvm.Cond.instanceMethod ({ cls := "SluiceStream", name := "acks", desc := "()I" } : Jvm.MethodName)) ∈ zT := List.mem_filter.mpr ⟨List.mem_of_getElem? (i := 463) (by decide +kernel), by decide +kernel⟩
theorem zm449 : (Jvm.Cond.selects "SluiceStream" ({ cls := "SluiceStream", name := "acks", desc := "()I" } : Jvm.MethodName) ({ cls := "SluiceStream", name := "acks", desc := "()I" } : Jvm.MethodName)) ∈ zT := List.mem_filter.mpr ⟨List.mem_of_getElem? (i := 464) (by decide +kernel), by decide +kernel⟩
theorem zm577 : (Jvm.Cond.methodLink "SluiceStreamLaw" (100 : Nat) ({ cls := "SluiceStream", name := "startOf", desc := "(I)I" } : Jvm.MethodName)) ∈ zT := List.mem_filter.mpr ⟨List.mem_of_getElem? (i := 592) (by decide +kernel), by decide +kernel⟩
theorem zm580 : (Jvm.Cond.code ({ cls := "SluiceStream", name := "startOf", desc := "(I)I" } : Jvm.MethodName) prog_1_method_13_code (2 : Nat) (Option.some Jvm.ClassFile.FieldType.int)) ∈ zT := List.mem_filter.mpr ⟨List.mem_of_getElem? (i := 595) (by decide +kernel), by decide +kernel⟩
theorem zm578 : (Jvm.Cond.instanceMethod ({ cls := "SluiceStream", name := "startOf", desc := "(I)I" } : Jvm.MethodName)) ∈ zT := List.mem_filter.mpr ⟨List.mem_of_getElem? (i := 593) (by decide +kernel), by decide +kernel⟩
theorem zm579 : (Jvm.Cond.selects "SluiceStream" ({ cls := "SluiceStream", name := "startOf", desc := "(I)I" } : Jvm.MethodName) ({ cls := "SluiceStream", name := "startOf", desc := "(I)I" } : Jvm.MethodName)) ∈ zT := List.mem_filter.mpr ⟨List.mem_of_getElem? (i := 594) (by decide +kernel), by decide +kernel⟩
theorem zm443 : (Jvm.Cond.methodLink "SluiceStreamLaw" (103 : Nat) ({ cls := "SluiceStream", name := "endOf", desc := "(I)I" } : Jvm.MethodName)) ∈ zT := List.mem_filter.mpr ⟨List.mem_of_getElem? (i := 458) (by decide +kernel), by decide +kernel⟩
theorem zm446 : (Jvm.Cond.code ({ cls := "SluiceStream", name := "endOf", desc := "(I)I" } : Jvm.MethodName) prog_1_method_14_code (2 : Nat) (Option.some Jvm.ClassFile.FieldType.int)) ∈ zT := List.mem_filter.mpr ⟨List.mem_of_getElem? (i := 461) (by decide +kernel), by decide +kernel⟩
theorem zm444 : (Jvm.Cond.instanceMethod ({ cls := "SluiceStream", name := "endOf", desc := "(I)I" } : Jvm.MethodName)) ∈ zT := List.mem_filter.mpr ⟨List.mem_of_getElem? (i := 459) (by decide +kernel), by decide +kernel⟩
theorem zm445 : (Jvm.Cond.selects "SluiceStream" ({ cls := "SluiceStream", name := "endOf", desc := "(I)I" } : Jvm.MethodName) ({ cls := "SluiceStream", name := "endOf", desc := "(I)I" } : Jvm.MethodName)) ∈ zT := List.mem_filter.mpr ⟨List.mem_of_getElem? (i := 460) (by decide +kernel), by decide +kernel⟩
theorem zm439 : (Jvm.Cond.methodLink "SluiceStreamLaw" (97 : Nat) ({ cls := "SluiceStream", name := "segments", desc := "()I" } : Jvm.MethodName)) ∈ zT := List.mem_filter.mpr ⟨List.mem_of_getElem? (i := 454) (by decide +kernel), by decide +kernel⟩
theorem zm442 : (Jvm.Cond.code ({ cls := "SluiceStream", name := "segments", desc := "()I" } : Jvm.MethodName) prog_1_method_12_code (1 : Nat) (Option.some Jvm.ClassFile.FieldType.int)) ∈ zT := List.mem_filter.mpr ⟨List.mem_of_getElem? (i := 457) (by decide +kernel), by decide +kernel⟩
theorem zm440 : (Jvm.Cond.instanceMethod ({ cls := "SluiceStream", name := "segments", desc := "()I" } : Jvm.MethodName)) ∈ zT := List.mem_filter.mpr ⟨List.mem_of_getElem? (i := 455) (by decide +kernel), by decide +kernel⟩
theorem zm441 : (Jvm.Cond.selects "SluiceStream" ({ cls := "SluiceStream", name := "segments", desc := "()I" } : Jvm.MethodName) ({ cls := "SluiceStream", name := "segments", desc := "()I" } : Jvm.MethodName)) ∈ zT := List.mem_filter.mpr ⟨List.mem_of_getElem? (i := 456) (by decide +kernel), by decide +kernel⟩
theorem zm584 : (Jvm.Cond.methodLink "SluiceStreamLaw" (106 : Nat) ({ cls := "SluiceStream", name := "send", desc := "()I" } : Jvm.MethodName)) ∈ zT := List.mem_filter.mpr ⟨List.mem_of_getElem? (i := 599) (by decide +kernel), by decide +kernel⟩
theorem zm587 : (Jvm.Cond.code ({ cls := "SluiceStream", name := "send", desc := "()I" } : Jvm.MethodName) prog_1_method_5_code (1 : Nat) (Option.some Jvm.ClassFile.FieldType.int)) ∈ zT := List.mem_filter.mpr ⟨List.mem_of_getElem? (i := 602) (by decide +kernel), by decide +kernel⟩
theorem zm585 : (Jvm.Cond.instanceMethod ({ cls := "SluiceStream", name := "send", desc := "()I" } : Jvm.MethodName)) ∈ zT := List.mem_filter.mpr ⟨List.mem_of_getElem? (i := 600) (by decide +kernel), by decide +kernel⟩
theorem zm586 : (Jvm.Cond.selects "SluiceStream" ({ cls := "SluiceStream", name := "send", desc := "()I" } : Jvm.MethodName) ({ cls := "SluiceStream", name := "send", desc := "()I" } : Jvm.MethodName)) ∈ zT := List.mem_filter.mpr ⟨List.mem_of_getElem? (i := 601) (by decide +kernel), by decide +kernel⟩
theorem zm628 : (Jvm.Cond.methodLink "SluiceStreamLaw" (109 : Nat) ({ cls := "SluiceStream", name := "deliverAck", desc := "(I)I" } : Jvm.MethodName)) ∈ zT := List.mem_filter.mpr ⟨List.mem_of_getElem? (i := 643) (by decide +kernel), by decide +kernel⟩
theorem zm631 : (Jvm.Cond.code ({ cls := "SluiceStream", name := "deliverAck", desc := "(I)I" } : Jvm.MethodName) prog_1_method_10_code (3 : Nat) (Option.some Jvm.ClassFile.FieldType.int)) ∈ zT := List.mem_filter.mpr ⟨List.mem_of_getElem? (i := 646) (by decide +kernel), by decide +kernel⟩
theorem zm629 : (Jvm.Cond.instanceMethod ({ cls := "SluiceStream", name := "deliverAck", desc := "(I)I" } : Jvm.MethodName)) ∈ zT := List.mem_filter.mpr ⟨List.mem_of_getElem? (i := 644) (by decide +kernel), by decide +kernel⟩
theorem zm630 : (Jvm.Cond.selects "SluiceStream" ({ cls := "SluiceStream", name := "deliverAck", desc := "(I)I" } : Jvm.MethodName) ({ cls := "SluiceStream", name := "deliverAck", desc := "(I)I" } : Jvm.MethodName)) ∈ zT := List.mem_filter.mpr ⟨List.mem_of_getElem? (i := 645) (by decide +kernel), by decide +kernel⟩
theorem zm390 : (Jvm.Cond.methodLink "SluiceStreamLaw" (112 : Nat) ({ cls := "SluiceStream", name := "deliver", desc := "(I)I" } : Jvm.MethodName)) ∈ zT := List.mem_filter.mpr ⟨List.mem_of_getElem? (i := 405) (by decide +kernel), by decide +kernel⟩
theorem zm393 : (Jvm.Cond.code ({ cls := "SluiceStream", name := "deliver", desc := "(I)I" } : Jvm.MethodName) prog_1_method_7_code (3 : Nat) (Option.some Jvm.ClassFile.FieldType.int)) ∈ zT := List.mem_filter.mpr ⟨List.mem_of_getElem? (i := 408) (by decide +kernel), by decide +kernel⟩
theorem zm391 : (Jvm.Cond.instanceMethod ({ cls := "SluiceStream", name := "deliver", desc := "(I)I" } : Jvm.MethodName)) ∈ zT := List.mem_filter.mpr ⟨List.mem_of_getElem? (i := 406) (by decide +kernel), by decide +kernel⟩
theorem zm392 : (Jvm.Cond.selects "SluiceStream" ({ cls := "SluiceStream", name := "deliver", desc := "(I)I" } : Jvm.MethodName) ({ cls := "SluiceStream", name := "deliver", desc := "(I)I" } : Jvm.MethodName)) ∈ zT := List.mem_filter.mpr ⟨List.mem_of_getElem? (i := 407) (by decide +kernel), by decide +kernel⟩
theorem zm271 : (Jvm.Cond.methodLink "SluiceStreamLaw" (115 : Nat) ({ cls := "SluiceStream", name := "read", desc := "()I" } : Jvm.MethodName)) ∈ zT := List.mem_filter.mpr ⟨List.mem_of_getElem? (i := 286) (by decide +kernel), by decide +kernel⟩
theorem zm274 : (Jvm.Cond.code ({ cls := "SluiceStream", name := "read", desc := "()I" } : Jvm.MethodName) prog_1_method_3_code (2 : Nat) (Option.some Jvm.ClassFile.FieldType.int)) ∈ zT := List.mem_filter.mpr ⟨List.mem_of_getElem? (i := 289) (by decide +kernel), by decide +kernel⟩
theorem zm272 : (Jvm.Cond.instanceMethod ({ cls := "SluiceStream", name := "read", desc := "()I" } : Jvm.MethodName)) ∈ zT := List.mem_filter.mpr ⟨List.mem_of_getElem? (i := 287) (by decide +kernel), by decide +kernel⟩
theorem zm273 : (Jvm.Cond.selects "SluiceStream" ({ cls := "SluiceStream", name := "read", desc := "()I" } : Jvm.MethodName) ({ cls := "SluiceStream", name := "read", desc := "()I" } : Jvm.MethodName)) ∈ zT := List.mem_filter.mpr ⟨List.mem_of_getElem? (i := 288) (by decide +kernel), by decide +kernel⟩
theorem zm342 : (Jvm.Cond.methodLink "SluiceStreamLaw" (118 : Nat) ({ cls := "SluiceStream", name := "tick", desc := "(I)I" } : Jvm.MethodName)) ∈ zT := List.mem_filter.mpr ⟨List.mem_of_getElem? (i := 357) (by decide +kernel), by decide +kernel⟩
theorem zm345 : (Jvm.Cond.code ({ cls := "SluiceStream", name := "tick", desc := "(I)I" } : Jvm.MethodName) prog_1_method_6_code (2 : Nat) (Option.some Jvm.ClassFile.FieldType.int)) ∈ zT := List.mem_filter.mpr ⟨List.mem_of_getElem? (i := 360) (by decide +kernel), by decide +kernel⟩
theorem zm343 : (Jvm.Cond.instanceMethod ({ cls := "SluiceStream", name := "tick", desc := "(I)I" } : Jvm.MethodName)) ∈ zT := List.mem_filter.mpr ⟨List.mem_of_getElem? (i := 358) (by decide +kernel), by decide +kernel⟩
theorem zm344 : (Jvm.Cond.selects "SluiceStream" ({ cls := "SluiceStream", name := "tick", desc := "(I)I" } : Jvm.MethodName) ({ cls := "SluiceStream", name := "tick", desc := "(I)I" } : Jvm.MethodName)) ∈ zT := List.mem_filter.mpr ⟨List.mem_of_getElem? (i := 359) (by decide +kernel), by decide +kernel⟩
theorem zl_L_16 : zLk "SluiceStreamLaw" 16 ({ cls := "SluiceStream", name := "inOrder", desc := "()I" } : Jvm.MethodName) prog_1_method_39_code 1 (some .int) 0 := ⟨zm463, zm1, zm466, by decide +kernel⟩
theorem zl_L_19 : zLk "SluiceStreamLaw" 19 ({ cls := "SluiceStream", name := "written", desc := "()I" } : Jvm.MethodName) prog_1_method_24_code 1 (some .int) 0 := ⟨zm459, zm1, zm462, by decide +kernel⟩
theorem zl_L_22 : zLk "SluiceStreamLaw" 22 ({ cls := "SluiceStream", name := "highest", desc := "()I" } : Jvm.MethodName) prog_1_method_23_code 1 (some .int) 0 := ⟨zm482, zm1, zm485, by decide +kernel⟩
theorem zl_L_25 : zLk "SluiceStreamLaw" 25 ({ cls := "SluiceStream", name := "edge", desc := "()I" } : Jvm.MethodName) prog_1_method_25_code 1 (some .int) 0 := ⟨zm486, zm1, zm489, by decide +kernel⟩
theorem zl_L_28 : zLk "SluiceStreamLaw" 28 ({ cls := "SluiceStream", name := "readPosition", desc := "()I" } : Jvm.MethodName) prog_1_method_40_code 1 (some .int) 0 := ⟨zm467, zm1, zm470, by decide +kernel⟩
theorem zl_L_31 : zLk "SluiceStreamLaw" 31 ({ cls := "SluiceStream", name := "isMarked", desc := "(I)Z" } : Jvm.MethodName) prog_1_method_27_code 2 (some .boolean) 1 := ⟨zm490, zm1, zm493, by decide +kernel⟩
theorem zl_L_35 : zLk "SluiceStreamLaw" 35 ({ cls := "SluiceStream", name := "inFlight", desc := "()I" } : Jvm.MethodName) prog_1_method_26_code 1 (some .int) 0 := ⟨zm495, zm1, zm498, by decide +kernel⟩
theorem zl_L_38 : zLk "SluiceStreamLaw" 38 ({ cls := "SluiceStream", name := "congestionWindow", desc := "()I" } : Jvm.MethodName) prog_1_method_28_code 1 (some .int) 0 := ⟨zm500, zm1, zm503, by decide +kernel⟩
theorem zl_L_41 : zLk "SluiceStreamLaw" 41 ({ cls := "SluiceStream", name := "threshold", desc := "()I" } : Jvm.MethodName) prog_1_method_29_code 1 (some .int) 0 := ⟨zm504, zm1, zm507, by decide +kernel⟩
theorem zl_L_44 : zLk "SluiceStreamLaw" 44 ({ cls := "SluiceStream", name := "timeout", desc := "()I" } : Jvm.MethodName) prog_1_method_32_code 1 (some .int) 0 := ⟨zm508, zm1, zm511, by decide +kernel⟩
theorem zl_L_47 : zLk "SluiceStreamLaw" 47 ({ cls := "SluiceStream", name := "duplicates", desc := "()I" } : Jvm.MethodName) prog_1_method_30_code 1 (some .int) 0 := ⟨zm512, zm1, zm515, by decide +kernel⟩
theorem zl_L_50 : zLk "SluiceStreamLaw" 50 ({ cls := "SluiceStream", name := "sentAgain", desc := "()I" } : Jvm.MethodName) prog_1_method_38_code 1 (some .int) 0 := ⟨zm516, zm1, zm519, by decide +kernel⟩
theorem zl_L_53 : zLk "SluiceStreamLaw" 53 ({ cls := "SluiceStream", name := "sent", desc := "()I" } : Jvm.MethodName) prog_1_method_37_code 1 (some .int) 0 := ⟨zm520, zm1, zm523, by decide +kernel⟩
theorem zl_L_56 : zLk "SluiceStreamLaw" 56 ({ cls := "SluiceStream", name := "recoveryEnd", desc := "()I" } : Jvm.MethodName) prog_1_method_31_code 1 (some .int) 0 := ⟨zm524, zm1, zm527, by decide +kernel⟩
theorem zl_L_59 : zLk "SluiceStreamLaw" 59 ({ cls := "SluiceStream", name := "timedEnd", desc := "()I" } : Jvm.MethodName) prog_1_method_36_code 1 (some .int) 0 := ⟨zm528, zm1, zm531, by decide +kernel⟩
theorem zl_L_7 : zLk "SluiceStreamLaw" 7 ({ cls := "SluiceStream", name := "acknowledged", desc := "()I" } : Jvm.MethodName) prog_1_method_21_code 1 (some .int) 0 := ⟨zm474, zm1, zm477, by decide +kernel⟩
theorem zl_L_13 : zLk "SluiceStreamLaw" 13 ({ cls := "SluiceStream", name := "next", desc := "()I" } : Jvm.MethodName) prog_1_method_22_code 1 (some .int) 0 := ⟨zm478, zm1, zm481, by decide +kernel⟩
theorem zl_L_62 : zLk "SluiceStreamLaw" 62 ({ cls := "SluiceStream", name := "timerEnd", desc := "()I" } : Jvm.MethodName) prog_1_method_33_code 1 (some .int) 0 := ⟨zm532, zm1, zm535, by decide +kernel⟩
theorem zl_L_65 : zLk "SluiceStreamLaw" 65 ({ cls := "SluiceStream", name := "time", desc := "()I" } : Jvm.MethodName) prog_1_method_20_code 1 (some .int) 0 := ⟨zm455, zm1, zm458, by decide +kernel⟩
theorem zl_L_68 : zLk "SluiceStreamLaw" 68 ({ cls := "SluiceStream", name := "window", desc := "()I" } : Jvm.MethodName) prog_1_method_41_code 1 (some .int) 0 := ⟨zm539, zm1, zm542, by decide +kernel⟩
theorem zl_L_74 : zLk "SluiceStreamLaw" 74 ({ cls := "SluiceStream", name := "blockStart", desc := "(I)I" } : Jvm.MethodName) prog_1_method_43_code 2 (some .int) 1 := ⟨zm552, zm1, zm555, by decide +kernel⟩
theorem zl_L_78 : zLk "SluiceStreamLaw" 78 ({ cls := "SluiceStream", name := "blockEnd", desc := "(I)I" } : Jvm.MethodName) prog_1_method_44_code 2 (some .int) 1 := ⟨zm560, zm1, zm563, by decide +kernel⟩
theorem zl_L_71 : zLk "SluiceStreamLaw" 71 ({ cls := "SluiceStream", name := "blocks", desc := "()I" } : Jvm.MethodName) prog_1_method_42_code 1 (some .int) 0 := ⟨zm544, zm1, zm547, by decide +kernel⟩
theorem zl_L_84 : zLk "SluiceStreamLaw" 84 ({ cls := "SluiceStream", name := "ackNumber", desc := "(I)I" } : Jvm.MethodName) prog_1_method_16_code 2 (some .int) 1 := ⟨zm451, zm1, zm454, by decide +kernel⟩
theorem zl_L_87 : zLk "SluiceStreamLaw" 87 ({ cls := "SluiceStream", name := "ackWindow", desc := "(I)I" } : Jvm.MethodName) prog_1_method_17_code 2 (some .int) 1 := ⟨zm565, zm1, zm568, by decide +kernel⟩
theorem zl_L_90 : zLk "SluiceStreamLaw" 90 ({ cls := "SluiceStream", name := "ackBlocks", desc := "(I)I" } : Jvm.MethodName) prog_1_method_18_code 2 (some .int) 1 := ⟨zm569, zm1, zm572, by decide +kernel⟩
theorem zl_L_93 : zLk "SluiceStreamLaw" 93 ({ cls := "SluiceStream", name := "ackBlock", desc := "(II)I" } : Jvm.MethodName) prog_1_method_19_code 3 (some .int) 2 := ⟨zm573, zm1, zm576, by decide +kernel⟩
theorem zl_L_81 : zLk "SluiceStreamLaw" 81 ({ cls := "SluiceStream", name := "acks", desc := "()I" } : Jvm.MethodName) prog_1_method_15_code 1 (some .int) 0 := ⟨zm447, zm1, zm450, by decide +kernel⟩
theorem zl_L_100 : zLk "SluiceStreamLaw" 100 ({ cls := "SluiceStream", name := "startOf", desc := "(I)I" } : Jvm.MethodName) prog_1_method_13_code 2 (some .int) 1 := ⟨zm577, zm1, zm580, by decide +kernel⟩
theorem zl_L_103 : zLk "SluiceStreamLaw" 103 ({ cls := "SluiceStream", name := "endOf", desc := "(I)I" } : Jvm.MethodName) prog_1_method_14_code 2 (some .int) 1 := ⟨zm443, zm1, zm446, by decide +kernel⟩
theorem zl_L_97 : zLk "SluiceStreamLaw" 97 ({ cls := "SluiceStream", name := "segments", desc := "()I" } : Jvm.MethodName) prog_1_method_12_code 1 (some .int) 0 := ⟨zm439, zm1, zm442, by decide +kernel⟩
theorem zl_L_106 : zLk "SluiceStreamLaw" 106 ({ cls := "SluiceStream", name := "send", desc := "()I" } : Jvm.MethodName) prog_1_method_5_code 1 (some .int) 0 := ⟨zm584, zm1, zm587, by decide +kernel⟩
theorem zl_L_109 : zLk "SluiceStreamLaw" 109 ({ cls := "SluiceStream", name := "deliverAck", desc := "(I)I" } : Jvm.MethodName) prog_1_method_10_code 3 (some .int) 1 := ⟨zm628, zm1, zm631, by decide +kernel⟩
theorem zl_L_112 : zLk "SluiceStreamLaw" 112 ({ cls := "SluiceStream", name := "deliver", desc := "(I)I" } : Jvm.MethodName) prog_1_method_7_code 3 (some .int) 1 := ⟨zm390, zm1, zm393, by decide +kernel⟩
theorem zl_L_115 : zLk "SluiceStreamLaw" 115 ({ cls := "SluiceStream", name := "read", desc := "()I" } : Jvm.MethodName) prog_1_method_3_code 2 (some .int) 0 := ⟨zm271, zm1, zm274, by decide +kernel⟩
theorem zl_L_118 : zLk "SluiceStreamLaw" 118 ({ cls := "SluiceStream", name := "tick", desc := "(I)I" } : Jvm.MethodName) prog_1_method_6_code 2 (some .int) 1 := ⟨zm342, zm1, zm345, by decide +kernel⟩
theorem zd_L_isSender_12 : decode method_2_code 12 = .ok (.iload_n 1, 1) := by decide +kernel
theorem zd_L_isSender_13 : decode method_2_code 13 = .ok (.aload_n 0, 1) := by decide +kernel
theorem zd_L_isSender_14 : decode method_2_code 14 = .ok (.invokevirtual 16, 3) := by decide +kernel
theorem zd_L_isSender_17 : decode method_2_code 17 = .ok (.if_icmp .gt 70, 3) := by decide +kernel
theorem zd_L_isSender_87 : decode method_2_code 87 = .ok (.iconst 0, 1) := by decide +kernel
theorem zd_L_isSender_88 : decode method_2_code 88 = .ok (.istore 4, 2) := by decide +kernel
theorem zd_L_isSender_20 : decode method_2_code 20 = .ok (.iload_n 1, 1) := by decide +kernel
theorem zd_L_isSender_21 : decode method_2_code 21 = .ok (.iload_n 2, 1) := by decide +kernel
theorem zd_L_isSender_22 : decode method_2_code 22 = .ok (.if_icmp .gt 65, 3) := by decide +kernel
theorem zd_L_isSender_25 : decode method_2_code 25 = .ok (.iload_n 2, 1) := by decide +kernel
theorem zd_L_isSender_26 : decode method_2_code 26 = .ok (.aload_n 0, 1) := by decide +kernel
theorem zd_L_isSender_27 : decode method_2_code 27 = .ok (.invokevirtual 19, 3) := by decide +kernel
theorem zd_L_isSender_30 : decode method_2_code 30 = .ok (.if_icmp .gt 57, 3) := by decide +kernel
theorem zd_L_isSender_33 : decode method_2_code 33 = .ok (.aload_n 0, 1) := by decide +kernel
theorem zd_L_isSender_34 : decode method_2_code 34 = .ok (.invokevirtual 22, 3) := by decide +kernel
theorem zd_L_isSender_37 : decode method_2_code 37 = .ok (.aload_n 0, 1) := by decide +kernel
theorem zd_L_isSender_38 : decode method_2_code 38 = .ok (.invokevirtual 19, 3) := by decide +kernel
theorem zd_L_isSender_41 : decode method_2_code 41 = .ok (.if_icmp .gt 46, 3) := by decide +kernel
theorem zd_L_isSender_44 : decode method_2_code 44 = .ok (.iload_n 2, 1) := by decide +kernel
theorem zd_L_isSender_45 : decode method_2_code 45 = .ok (.aload_n 0, 1) := by decide +kernel
theorem zd_L_isSender_46 : decode method_2_code 46 = .ok (.invokevirtual 22, 3) := by decide +kernel
theorem zd_L_isSender_49 : decode method_2_code 49 = .ok (.if_icmp .gt 38, 3) := by decide +kernel
theorem zd_L_isSender_52 : decode method_2_code 52 = .ok (.aload_n 0, 1) := by decide +kernel
theorem zd_L_isSender_53 : decode method_2_code 53 = .ok (.invokevirtual 25, 3) := by decide +kernel
theorem zd_L_isSender_56 : decode method_2_code 56 = .ok (.bipush 32, 2) := by decide +kernel
theorem zd_L_isSender_58 : decode method_2_code 58 = .ok (.if_icmp .lt 29, 3) := by decide +kernel
theorem zd_L_isSender_61 : decode method_2_code 61 = .ok (.aload_n 0, 1) := by decide +kernel
theorem zd_L_isSender_62 : decode method_2_code 62 = .ok (.invokevirtual 25, 3) := by decide +kernel
theorem zd_L_isSender_65 : decode method_2_code 65 = .ok (.aload_n 0, 1) := by decide +kernel
theorem zd_L_isSender_66 : decode method_2_code 66 = .ok (.invokevirtual 28, 3) := by decide +kernel
theorem zd_L_isSender_69 : decode method_2_code 69 = .ok (.bipush 32, 2) := by decide +kernel
theorem zd_L_isSender_71 : decode method_2_code 71 = .ok (.iadd, 1) := by decide +kernel
theorem zd_L_isSender_72 : decode method_2_code 72 = .ok (.if_icmp .gt 15, 3) := by decide +kernel
theorem zd_L_isSender_75 : decode method_2_code 75 = .ok (.iload_n 2, 1) := by decide +kernel
theorem zd_L_isSender_76 : decode method_2_code 76 = .ok (.iload_n 1, 1) := by decide +kernel
theorem zd_L_isSender_77 : decode method_2_code 77 = .ok (.bipush 33, 2) := by decide +kernel
theorem zd_L_isSender_79 : decode method_2_code 79 = .ok (.iadd, 1) := by decide +kernel
theorem zd_L_isSender_80 : decode method_2_code 80 = .ok (.if_icmp .gt 7, 3) := by decide +kernel
theorem zd_L_isSender_83 : decode method_2_code 83 = .ok (.iconst 1, 1) := by decide +kernel
theorem zd_L_isSender_84 : decode method_2_code 84 = .ok (.goto 4, 3) := by decide +kernel
theorem zd_L_isSender_110 : decode method_2_code 110 = .ok (.iload_n 3, 1) := by decide +kernel
theorem zd_L_isSender_111 : decode method_2_code 111 = .ok (.iload 6, 2) := by decide +kernel
theorem zd_L_isSender_113 : decode method_2_code 113 = .ok (.ifCond .eq 13, 3) := by decide +kernel
theorem zd_L_isSender_126 : decode method_2_code 126 = .ok (.iconst 0, 1) := by decide +kernel
theorem zd_L_isSender_127 : decode method_2_code 127 = .ok (.iadd, 1) := by decide +kernel
theorem zd_L_isSender_128 : decode method_2_code 128 = .ok (.istore_n 3, 1) := by decide +kernel
theorem zd_L_isSender_116 : decode method_2_code 116 = .ok (.iload 5, 2) := by decide +kernel
theorem zd_L_isSender_118 : decode method_2_code 118 = .ok (.iload_n 2, 1) := by decide +kernel
theorem zd_L_isSender_119 : decode method_2_code 119 = .ok (.if_icmp .ge 7, 3) := by decide +kernel
theorem zd_L_isSender_122 : decode method_2_code 122 = .ok (.iconst 1, 1) := by decide +kernel
theorem zd_L_isSender_123 : decode method_2_code 123 = .ok (.goto 4, 3) := by decide +kernel
theorem zd_L_isSender_129 : decode method_2_code 129 = .ok (.iload 4, 2) := by decide +kernel
theorem zd_L_isSender_131 : decode method_2_code 131 = .ok (.ifCond .eq 36, 3) := by decide +kernel
theorem zd_L_isSender_167 : decode method_2_code 167 = .ok (.iconst 0, 1) := by decide +kernel
theorem zd_L_isSender_168 : decode method_2_code 168 = .ok (.istore 4, 2) := by decide +kernel
theorem zd_L_isSender_134 : decode method_2_code 134 = .ok (.iload 6, 2) := by decide +kernel
theorem zd_L_isSender_136 : decode method_2_code 136 = .ok (.ifCond .eq 27, 3) := by decide +kernel
theorem zd_L_isSender_163 : decode method_2_code 163 = .ok (.iconst 1, 1) := by decide +kernel
theorem zd_L_isSender_164 : decode method_2_code 164 = .ok (.goto 4, 3) := by decide +kernel
theorem zd_L_isSender_139 : decode method_2_code 139 = .ok (.iload 5, 2) := by decide +kernel
theorem zd_L_isSender_141 : decode method_2_code 141 = .ok (.iload_n 1, 1) := by decide +kernel
theorem zd_L_isSender_142 : decode method_2_code 142 = .ok (.if_icmp .le 25, 3) := by decide +kernel
theorem zd_L_isSender_145 : decode method_2_code 145 = .ok (.iload 5, 2) := by decide +kernel
theorem zd_L_isSender_147 : decode method_2_code 147 = .ok (.aload_n 0, 1) := by decide +kernel
theorem zd_L_isSender_148 : decode method_2_code 148 = .ok (.invokevirtual 22, 3) := by decide +kernel
theorem zd_L_isSender_151 : decode method_2_code 151 = .ok (.if_icmp .ge 16, 3) := by decide +kernel
theorem zd_L_isSender_154 : decode method_2_code 154 = .ok (.iload 5, 2) := by decide +kernel
theorem zd_L_isSender_156 : decode method_2_code 156 = .ok (.iload_n 1, 1) := by decide +kernel
theorem zd_L_isSender_157 : decode method_2_code 157 = .ok (.bipush 33, 2) := by decide +kernel
theorem zd_L_isSender_159 : decode method_2_code 159 = .ok (.iadd, 1) := by decide +kernel
theorem zd_L_isSender_160 : decode method_2_code 160 = .ok (.if_icmp .ge 7, 3) := by decide +kernel
theorem zd_L_isSender_93 : decode method_2_code 93 = .ok (.iload 5, 2) := by decide +kernel
theorem zd_L_isSender_95 : decode method_2_code 95 = .ok (.aload_n 0, 1) := by decide +kernel
theorem zd_L_isSender_96 : decode method_2_code 96 = .ok (.invokevirtual 19, 3) := by decide +kernel
theorem zd_L_isSender_99 : decode method_2_code 99 = .ok (.if_icmp .ge 77, 3) := by decide +kernel
theorem zd_L_isSender_102 : decode method_2_code 102 = .ok (.aload_n 0, 1) := by decide +kernel
theorem zd_L_isSender_103 : decode method_2_code 103 = .ok (.iload 5, 2) := by decide +kernel
theorem zd_L_isSender_105 : decode method_2_code 105 = .ok (.invokevirtual 31, 3) := by decide +kernel
theorem zd_L_isSender_108 : decode method_2_code 108 = .ok (.istore 6, 2) := by decide +kernel
theorem zd_L_isSender_170 : decode method_2_code 170 = .ok (.iinc 5 1, 3) := by decide +kernel
theorem zd_L_isSender_173 : decode method_2_code 173 = .ok (.goto (-80), 3) := by decide +kernel
theorem zd_L_isSender_176 : decode method_2_code 176 = .ok (.iload 4, 2) := by decide +kernel
theorem zd_L_isSender_178 : decode method_2_code 178 = .ok (.ifCond .eq 81, 3) := by decide +kernel
theorem zd_L_isSender_259 : decode method_2_code 259 = .ok (.iconst 0, 1) := by decide +kernel
theorem zd_L_isSender_260 : decode method_2_code 260 = .ok (.istore 4, 2) := by decide +kernel
theorem zd_L_isSender_181 : decode method_2_code 181 = .ok (.aload_n 0, 1) := by decide +kernel
theorem zd_L_isSender_182 : decode method_2_code 182 = .ok (.invokevirtual 35, 3) := by decide +kernel
theorem zd_L_isSender_185 : decode method_2_code 185 = .ok (.iload_n 2, 1) := by decide +kernel
theorem zd_L_isSender_186 : decode method_2_code 186 = .ok (.iload_n 1, 1) := by decide +kernel
theorem zd_L_isSender_187 : decode method_2_code 187 = .ok (.isub, 1) := by decide +kernel
theorem zd_L_isSender_188 : decode method_2_code 188 = .ok (.iload_n 3, 1) := by decide +kernel
theorem zd_L_isSender_189 : decode method_2_code 189 = .ok (.isub, 1) := by decide +kernel
theorem zd_L_isSender_190 : decode method_2_code 190 = .ok (.if_icmp .ne 69, 3) := by decide +kernel
theorem zd_L_isSender_193 : decode method_2_code 193 = .ok (.aload_n 0, 1) := by decide +kernel
theorem zd_L_isSender_194 : decode method_2_code 194 = .ok (.invokevirtual 38, 3) := by decide +kernel
theorem zd_L_isSender_197 : decode method_2_code 197 = .ok (.iconst 4, 1) := by decide +kernel
theorem zd_L_isSender_198 : decode method_2_code 198 = .ok (.if_icmp .lt 61, 3) := by decide +kernel
theorem zd_L_isSender_201 : decode method_2_code 201 = .ok (.aload_n 0, 1) := by decide +kernel
theorem zd_L_isSender_202 : decode method_2_code 202 = .ok (.invokevirtual 38, 3) := by decide +kernel
theorem zd_L_isSender_205 : decode method_2_code 205 = .ok (.sipush 256, 3) := by decide +kernel
theorem zd_L_isSender_208 : decode method_2_code 208 = .ok (.if_icmp .gt 51, 3) := by decide +kernel
theorem zd_L_isSender_211 : decode method_2_code 211 = .ok (.aload_n 0, 1) := by decide +kernel
theorem zd_L_isSender_212 : decode method_2_code 212 = .ok (.invokevirtual 41, 3) := by decide +kernel
theorem zd_L_isSender_215 : decode method_2_code 215 = .ok (.bipush 8, 2) := by decide +kernel
theorem zd_L_isSender_217 : decode method_2_code 217 = .ok (.if_icmp .lt 42, 3) := by decide +kernel
theorem zd_L_isSender_220 : decode method_2_code 220 = .ok (.aload_n 0, 1) := by decide +kernel
theorem zd_L_isSender_221 : decode method_2_code 221 = .ok (.invokevirtual 44, 3) := by decide +kernel
theorem zd_L_isSender_224 : decode method_2_code 224 = .ok (.iconst 2, 1) := by decide +kernel
theorem zd_L_isSender_225 : decode method_2_code 225 = .ok (.if_icmp .lt 34, 3) := by decide +kernel
theorem zd_L_isSender_228 : decode method_2_code 228 = .ok (.aload_n 0, 1) := by decide +kernel
theorem zd_L_isSender_229 : decode method_2_code 229 = .ok (.invokevirtual 44, 3) := by decide +kernel
theorem zd_L_isSender_232 : decode method_2_code 232 = .ok (.bipush 64, 2) := by decide +kernel
theorem zd_L_isSender_234 : decode method_2_code 234 = .ok (.if_icmp .gt 25, 3) := by decide +kernel
theorem zd_L_isSender_237 : decode method_2_code 237 = .ok (.aload_n 0, 1) := by decide +kernel
theorem zd_L_isSender_238 : decode method_2_code 238 = .ok (.invokevirtual 47, 3) := by decide +kernel
theorem zd_L_isSender_241 : decode method_2_code 241 = .ok (.ifCond .lt 18, 3) := by decide +kernel
theorem zd_L_isSender_244 : decode method_2_code 244 = .ok (.aload_n 0, 1) := by decide +kernel
theorem zd_L_isSender_245 : decode method_2_code 245 = .ok (.invokevirtual 50, 3) := by decide +kernel
theorem zd_L_isSender_248 : decode method_2_code 248 = .ok (.aload_n 0, 1) := by decide +kernel
theorem zd_L_isSender_249 : decode method_2_code 249 = .ok (.invokevirtual 53, 3) := by decide +kernel
theorem zd_L_isSender_252 : decode method_2_code 252 = .ok (.if_icmp .gt 7, 3) := by decide +kernel
theorem zd_L_isSender_255 : decode method_2_code 255 = .ok (.iconst 1, 1) := by decide +kernel
theorem zd_L_isSender_256 : decode method_2_code 256 = .ok (.goto 4, 3) := by decide +kernel
theorem zd_L_isSender_262 : decode method_2_code 262 = .ok (.iload 4, 2) := by decide +kernel
theorem zd_L_isSender_264 : decode method_2_code 264 = .ok (.ifCond .eq 50, 3) := by decide +kernel
theorem zd_L_isSender_314 : decode method_2_code 314 = .ok (.iconst 0, 1) := by decide +kernel
theorem zd_L_isSender_315 : decode method_2_code 315 = .ok (.istore 4, 2) := by decide +kernel
theorem zd_L_isSender_267 : decode method_2_code 267 = .ok (.aload_n 0, 1) := by decide +kernel
theorem zd_L_isSender_268 : decode method_2_code 268 = .ok (.invokevirtual 56, 3) := by decide +kernel
theorem zd_L_isSender_271 : decode method_2_code 271 = .ok (.iconst (-1), 1) := by decide +kernel
theorem zd_L_isSender_272 : decode method_2_code 272 = .ok (.if_icmp .eq 11, 3) := by decide +kernel
theorem zd_L_isSender_283 : decode method_2_code 283 = .ok (.aload_n 0, 1) := by decide +kernel
theorem zd_L_isSender_284 : decode method_2_code 284 = .ok (.invokevirtual 59, 3) := by decide +kernel
theorem zd_L_isSender_287 : decode method_2_code 287 = .ok (.iconst (-1), 1) := by decide +kernel
theorem zd_L_isSender_288 : decode method_2_code 288 = .ok (.if_icmp .eq 22, 3) := by decide +kernel
theorem zd_L_isSender_310 : decode method_2_code 310 = .ok (.iconst 1, 1) := by decide +kernel
theorem zd_L_isSender_311 : decode method_2_code 311 = .ok (.goto 4, 3) := by decide +kernel
theorem zd_L_isSender_291 : decode method_2_code 291 = .ok (.aload_n 0, 1) := by decide +kernel
theorem zd_L_isSender_292 : decode method_2_code 292 = .ok (.invokevirtual 59, 3) := by decide +kernel
theorem zd_L_isSender_295 : decode method_2_code 295 = .ok (.iload_n 1, 1) := by decide +kernel
theorem zd_L_isSender_296 : decode method_2_code 296 = .ok (.if_icmp .le 18, 3) := by decide +kernel
theorem zd_L_isSender_299 : decode method_2_code 299 = .ok (.aload_n 0, 1) := by decide +kernel
theorem zd_L_isSender_300 : decode method_2_code 300 = .ok (.invokevirtual 59, 3) := by decide +kernel
theorem zd_L_isSender_303 : decode method_2_code 303 = .ok (.aload_n 0, 1) := by decide +kernel
theorem zd_L_isSender_304 : decode method_2_code 304 = .ok (.invokevirtual 22, 3) := by decide +kernel
theorem zd_L_isSender_307 : decode method_2_code 307 = .ok (.if_icmp .gt 7, 3) := by decide +kernel
theorem zd_L_isSender_275 : decode method_2_code 275 = .ok (.aload_n 0, 1) := by decide +kernel
theorem zd_L_isSender_276 : decode method_2_code 276 = .ok (.invokevirtual 56, 3) := by decide +kernel
theorem zd_L_isSender_279 : decode method_2_code 279 = .ok (.iload_n 1, 1) := by decide +kernel
theorem zd_L_isSender_280 : decode method_2_code 280 = .ok (.if_icmp .le 34, 3) := by decide +kernel
theorem zd_L_isSender_0 : decode method_2_code 0 = .ok (.aload_n 0, 1) := by decide +kernel
theorem zd_L_isSender_1 : decode method_2_code 1 = .ok (.invokevirtual 7, 3) := by decide +kernel
theorem zd_L_isSender_4 : decode method_2_code 4 = .ok (.istore_n 1, 1) := by decide +kernel
theorem zd_L_isSender_5 : decode method_2_code 5 = .ok (.aload_n 0, 1) := by decide +kernel
theorem zd_L_isSender_6 : decode method_2_code 6 = .ok (.invokevirtual 13, 3) := by decide +kernel
theorem zd_L_isSender_9 : decode method_2_code 9 = .ok (.istore_n 2, 1) := by decide +kernel
theorem zd_L_isSender_10 : decode method_2_code 10 = .ok (.iconst 0, 1) := by decide +kernel
theorem zd_L_isSender_11 : decode method_2_code 11 = .ok (.istore_n 3, 1) := by decide +kernel
theorem zd_L_isSender_90 : decode method_2_code 90 = .ok (.iconst 0, 1) := by decide +kernel
theorem zd_L_isSender_91 : decode method_2_code 91 = .ok (.istore 5, 2) := by decide +kernel
theorem zd_L_isSender_317 : decode method_2_code 317 = .ok (.iload 4, 2) := by decide +kernel
theorem zd_L_isSender_319 : decode method_2_code 319 = .ok (.ifCond .eq 52, 3) := by decide +kernel
theorem zd_L_isSender_371 : decode method_2_code 371 = .ok (.iconst 0, 1) := by decide +kernel
theorem zd_L_isSender_372 : decode method_2_code 372 = .ok (.ireturn, 1) := by decide +kernel
theorem zd_L_isSender_322 : decode method_2_code 322 = .ok (.aload_n 0, 1) := by decide +kernel
theorem zd_L_isSender_323 : decode method_2_code 323 = .ok (.invokevirtual 62, 3) := by decide +kernel
theorem zd_L_isSender_326 : decode method_2_code 326 = .ok (.iconst (-1), 1) := by decide +kernel
theorem zd_L_isSender_327 : decode method_2_code 327 = .ok (.if_icmp .eq 28, 3) := by decide +kernel
theorem zd_L_isSender_355 : decode method_2_code 355 = .ok (.aload_n 0, 1) := by decide +kernel
theorem zd_L_isSender_356 : decode method_2_code 356 = .ok (.invokevirtual 62, 3) := by decide +kernel
theorem zd_L_isSender_359 : decode method_2_code 359 = .ok (.ifCond .ge 8, 3) := by decide +kernel
theorem zd_L_isSender_367 : decode method_2_code 367 = .ok (.iconst 1, 1) := by decide +kernel
theorem zd_L_isSender_368 : decode method_2_code 368 = .ok (.goto 4, 3) := by decide +kernel
theorem zd_L_isSender_362 : decode method_2_code 362 = .ok (.iload_n 2, 1) := by decide +kernel
theorem zd_L_isSender_363 : decode method_2_code 363 = .ok (.iload_n 1, 1) := by decide +kernel
theorem zd_L_isSender_364 : decode method_2_code 364 = .ok (.if_icmp .ne 7, 3) := by decide +kernel
theorem zd_L_isSender_330 : decode method_2_code 330 = .ok (.aload_n 0, 1) := by decide +kernel
theorem zd_L_isSender_331 : decode method_2_code 331 = .ok (.invokevirtual 62, 3) := by decide +kernel
theorem zd_L_isSender_334 : decode method_2_code 334 = .ok (.aload_n 0, 1) := by decide +kernel
theorem zd_L_isSender_335 : decode method_2_code 335 = .ok (.invokevirtual 65, 3) := by decide +kernel
theorem zd_L_isSender_338 : decode method_2_code 338 = .ok (.if_icmp .le 33, 3) := by decide +kernel
theorem zd_L_isSender_341 : decode method_2_code 341 = .ok (.aload_n 0, 1) := by decide +kernel
theorem zd_L_isSender_342 : decode method_2_code 342 = .ok (.invokevirtual 62, 3) := by decide +kernel
theorem zd_L_isSender_345 : decode method_2_code 345 = .ok (.aload_n 0, 1) := by decide +kernel
theorem zd_L_isSender_346 : decode method_2_code 346 = .ok (.invokevirtual 65, 3) := by decide +kernel
theorem zd_L_isSender_349 : decode method_2_code 349 = .ok (.bipush 64, 2) := by decide +kernel
theorem zd_L_isSender_351 : decode method_2_code 351 = .ok (.iadd, 1) := by decide +kernel
theorem zd_L_isSender_352 : decode method_2_code 352 = .ok (.if_icmp .gt 19, 3) := by decide +kernel
theorem zd_L_isReceiver_7 : decode method_3_code 7 = .ok (.aload_n 0, 1) := by decide +kernel
theorem zd_L_isReceiver_8 : decode method_3_code 8 = .ok (.invokevirtual 28, 3) := by decide +kernel
theorem zd_L_isReceiver_11 : decode method_3_code 11 = .ok (.iload_n 1, 1) := by decide +kernel
theorem zd_L_isReceiver_12 : decode method_3_code 12 = .ok (.if_icmp .gt 38, 3) := by decide +kernel
theorem zd_L_isReceiver_50 : decode method_3_code 50 = .ok (.iconst 0, 1) := by decide +kernel
theorem zd_L_isReceiver_51 : decode method_3_code 51 = .ok (.istore_n 3, 1) := by decide +kernel
theorem zd_L_isReceiver_15 : decode method_3_code 15 = .ok (.aload_n 0, 1) := by decide +kernel
theorem zd_L_isReceiver_16 : decode method_3_code 16 = .ok (.invokevirtual 68, 3) := by decide +kernel
theorem zd_L_isReceiver_19 : decode method_3_code 19 = .ok (.aload_n 0, 1) := by decide +kernel
theorem zd_L_isReceiver_20 : decode method_3_code 20 = .ok (.invokevirtual 28, 3) := by decide +kernel
theorem zd_L_isReceiver_23 : decode method_3_code 23 = .ok (.bipush 32, 2) := by decide +kernel
theorem zd_L_isReceiver_25 : decode method_3_code 25 = .ok (.iadd, 1) := by decide +kernel
theorem zd_L_isReceiver_26 : decode method_3_code 26 = .ok (.iload_n 1, 1) := by decide +kernel
theorem zd_L_isReceiver_27 : decode method_3_code 27 = .ok (.isub, 1) := by decide +kernel
theorem zd_L_isReceiver_28 : decode method_3_code 28 = .ok (.if_icmp .ne 22, 3) := by decide +kernel
theorem zd_L_isReceiver_31 : decode method_3_code 31 = .ok (.aload_n 0, 1) := by decide +kernel
theorem zd_L_isReceiver_32 : decode method_3_code 32 = .ok (.invokevirtual 68, 3) := by decide +kernel
theorem zd_L_isReceiver_35 : decode method_3_code 35 = .ok (.ifCond .lt 15, 3) := by decide +kernel
theorem zd_L_isReceiver_38 : decode method_3_code 38 = .ok (.iload_n 1, 1) := by decide +kernel
theorem zd_L_isReceiver_39 : decode method_3_code 39 = .ok (.aload_n 0, 1) := by decide +kernel
theorem zd_L_isReceiver_40 : decode method_3_code 40 = .ok (.invokevirtual 22, 3) := by decide +kernel
theorem zd_L_isReceiver_43 : decode method_3_code 43 = .ok (.if_icmp .gt 7, 3) := by decide +kernel
theorem zd_L_isReceiver_46 : decode method_3_code 46 = .ok (.iconst 1, 1) := by decide +kernel
theorem zd_L_isReceiver_47 : decode method_3_code 47 = .ok (.goto 4, 3) := by decide +kernel
theorem zd_L_isReceiver_68 : decode method_3_code 68 = .ok (.aload_n 0, 1) := by decide +kernel
theorem zd_L_isReceiver_69 : decode method_3_code 69 = .ok (.iload 4, 2) := by decide +kernel
theorem zd_L_isReceiver_71 : decode method_3_code 71 = .ok (.invokevirtual 74, 3) := by decide +kernel
theorem zd_L_isReceiver_74 : decode method_3_code 74 = .ok (.iload_n 2, 1) := by decide +kernel
theorem zd_L_isReceiver_75 : decode method_3_code 75 = .ok (.if_icmp .le 51, 3) := by decide +kernel
theorem zd_L_isReceiver_126 : decode method_3_code 126 = .ok (.iconst 0, 1) := by decide +kernel
theorem zd_L_isReceiver_127 : decode method_3_code 127 = .ok (.istore_n 3, 1) := by decide +kernel
theorem zd_L_isReceiver_78 : decode method_3_code 78 = .ok (.aload_n 0, 1) := by decide +kernel
theorem zd_L_isReceiver_79 : decode method_3_code 79 = .ok (.iload 4, 2) := by decide +kernel
theorem zd_L_isReceiver_81 : decode method_3_code 81 = .ok (.invokevirtual 78, 3) := by decide +kernel
theorem zd_L_isReceiver_84 : decode method_3_code 84 = .ok (.aload_n 0, 1) := by decide +kernel
theorem zd_L_isReceiver_85 : decode method_3_code 85 = .ok (.iload 4, 2) := by decide +kernel
theorem zd_L_isReceiver_87 : decode method_3_code 87 = .ok (.invokevirtual 74, 3) := by decide +kernel
theorem zd_L_isReceiver_90 : decode method_3_code 90 = .ok (.if_icmp .le 36, 3) := by decide +kernel
theorem zd_L_isReceiver_93 : decode method_3_code 93 = .ok (.aload_n 0, 1) := by decide +kernel
theorem zd_L_isReceiver_94 : decode method_3_code 94 = .ok (.iload 4, 2) := by decide +kernel
theorem zd_L_isReceiver_96 : decode method_3_code 96 = .ok (.invokevirtual 78, 3) := by decide +kernel
theorem zd_L_isReceiver_99 : decode method_3_code 99 = .ok (.aload_n 0, 1) := by decide +kernel
theorem zd_L_isReceiver_100 : decode method_3_code 100 = .ok (.invokevirtual 28, 3) := by decide +kernel
theorem zd_L_isReceiver_103 : decode method_3_code 103 = .ok (.bipush 32, 2) := by decide +kernel
theorem zd_L_isReceiver_105 : decode method_3_code 105 = .ok (.iadd, 1) := by decide +kernel
theorem zd_L_isReceiver_106 : decode method_3_code 106 = .ok (.if_icmp .gt 20, 3) := by decide +kernel
theorem zd_L_isReceiver_109 : decode method_3_code 109 = .ok (.aload_n 0, 1) := by decide +kernel
theorem zd_L_isReceiver_110 : decode method_3_code 110 = .ok (.iload 4, 2) := by decide +kernel
theorem zd_L_isReceiver_112 : decode method_3_code 112 = .ok (.invokevirtual 78, 3) := by decide +kernel
theorem zd_L_isReceiver_115 : decode method_3_code 115 = .ok (.aload_n 0, 1) := by decide +kernel
theorem zd_L_isReceiver_116 : decode method_3_code 116 = .ok (.invokevirtual 22, 3) := by decide +kernel
theorem zd_L_isReceiver_119 : decode method_3_code 119 = .ok (.if_icmp .gt 7, 3) := by decide +kernel
theorem zd_L_isReceiver_122 : decode method_3_code 122 = .ok (.iconst 1, 1) := by decide +kernel
theorem zd_L_isReceiver_123 : decode method_3_code 123 = .ok (.goto 4, 3) := by decide +kernel
theorem zd_L_isReceiver_55 : decode method_3_code 55 = .ok (.iload 4, 2) := by decide +kernel
theorem zd_L_isReceiver_57 : decode method_3_code 57 = .ok (.aload_n 0, 1) := by decide +kernel
theorem zd_L_isReceiver_58 : decode method_3_code 58 = .ok (.invokevirtual 71, 3) := by decide +kernel
theorem zd_L_isReceiver_61 : decode method_3_code 61 = .ok (.if_icmp .ge 80, 3) := by decide +kernel
theorem zd_L_isReceiver_64 : decode method_3_code 64 = .ok (.iload_n 3, 1) := by decide +kernel
theorem zd_L_isReceiver_65 : decode method_3_code 65 = .ok (.ifCond .eq 76, 3) := by decide +kernel
theorem zd_L_isReceiver_128 : decode method_3_code 128 = .ok (.aload_n 0, 1) := by decide +kernel
theorem zd_L_isReceiver_129 : decode method_3_code 129 = .ok (.iload 4, 2) := by decide +kernel
theorem zd_L_isReceiver_131 : decode method_3_code 131 = .ok (.invokevirtual 78, 3) := by decide +kernel
theorem zd_L_isReceiver_134 : decode method_3_code 134 = .ok (.istore_n 2, 1) := by decide +kernel
theorem zd_L_isReceiver_135 : decode method_3_code 135 = .ok (.iinc 4 1, 3) := by decide +kernel
theorem zd_L_isReceiver_138 : decode method_3_code 138 = .ok (.goto (-83), 3) := by decide +kernel
theorem zd_L_isReceiver_157 : decode method_3_code 157 = .ok (.aload_n 0, 1) := by decide +kernel
theorem zd_L_isReceiver_158 : decode method_3_code 158 = .ok (.iload 4, 2) := by decide +kernel
theorem zd_L_isReceiver_160 : decode method_3_code 160 = .ok (.invokevirtual 84, 3) := by decide +kernel
theorem zd_L_isReceiver_163 : decode method_3_code 163 = .ok (.iload_n 1, 1) := by decide +kernel
theorem zd_L_isReceiver_164 : decode method_3_code 164 = .ok (.if_icmp .gt 49, 3) := by decide +kernel
theorem zd_L_isReceiver_213 : decode method_3_code 213 = .ok (.iconst 0, 1) := by decide +kernel
theorem zd_L_isReceiver_214 : decode method_3_code 214 = .ok (.istore_n 3, 1) := by decide +kernel
theorem zd_L_isReceiver_167 : decode method_3_code 167 = .ok (.aload_n 0, 1) := by decide +kernel
theorem zd_L_isReceiver_168 : decode method_3_code 168 = .ok (.iload 4, 2) := by decide +kernel
theorem zd_L_isReceiver_170 : decode method_3_code 170 = .ok (.invokevirtual 84, 3) := by decide +kernel
theorem zd_L_isReceiver_173 : decode method_3_code 173 = .ok (.aload_n 0, 1) := by decide +kernel
theorem zd_L_isReceiver_174 : decode method_3_code 174 = .ok (.iload 4, 2) := by decide +kernel
theorem zd_L_isReceiver_176 : decode method_3_code 176 = .ok (.invokevirtual 87, 3) := by decide +kernel
theorem zd_L_isReceiver_179 : decode method_3_code 179 = .ok (.iadd, 1) := by decide +kernel
theorem zd_L_isReceiver_180 : decode method_3_code 180 = .ok (.aload_n 0, 1) := by decide +kernel
theorem zd_L_isReceiver_181 : decode method_3_code 181 = .ok (.invokevirtual 28, 3) := by decide +kernel
theorem zd_L_isReceiver_184 : decode method_3_code 184 = .ok (.bipush 32, 2) := by decide +kernel
theorem zd_L_isReceiver_186 : decode method_3_code 186 = .ok (.iadd, 1) := by decide +kernel
theorem zd_L_isReceiver_187 : decode method_3_code 187 = .ok (.if_icmp .gt 26, 3) := by decide +kernel
theorem zd_L_isReceiver_190 : decode method_3_code 190 = .ok (.aload_n 0, 1) := by decide +kernel
theorem zd_L_isReceiver_191 : decode method_3_code 191 = .ok (.iload 4, 2) := by decide +kernel
theorem zd_L_isReceiver_193 : decode method_3_code 193 = .ok (.invokevirtual 87, 3) := by decide +kernel
theorem zd_L_isReceiver_196 : decode method_3_code 196 = .ok (.ifCond .lt 17, 3) := by decide +kernel
theorem zd_L_isReceiver_199 : decode method_3_code 199 = .ok (.aload_n 0, 1) := by decide +kernel
theorem zd_L_isReceiver_200 : decode method_3_code 200 = .ok (.iload 4, 2) := by decide +kernel
theorem zd_L_isReceiver_202 : decode method_3_code 202 = .ok (.invokevirtual 90, 3) := by decide +kernel
theorem zd_L_isReceiver_205 : decode method_3_code 205 = .ok (.iconst 3, 1) := by decide +kernel
theorem zd_L_isReceiver_206 : decode method_3_code 206 = .ok (.if_icmp .gt 7, 3) := by decide +kernel
theorem zd_L_isReceiver_209 : decode method_3_code 209 = .ok (.iconst 1, 1) := by decide +kernel
theorem zd_L_isReceiver_210 : decode method_3_code 210 = .ok (.goto 4, 3) := by decide +kernel
theorem zd_L_isReceiver_233 : decode method_3_code 233 = .ok (.aload_n 0, 1) := by decide +kernel
theorem zd_L_isReceiver_234 : decode method_3_code 234 = .ok (.iload 4, 2) := by decide +kernel
theorem zd_L_isReceiver_236 : decode method_3_code 236 = .ok (.iload 5, 2) := by decide +kernel
theorem zd_L_isReceiver_238 : decode method_3_code 238 = .ok (.invokevirtual 93, 3) := by decide +kernel
theorem zd_L_isReceiver_241 : decode method_3_code 241 = .ok (.aload_n 0, 1) := by decide +kernel
theorem zd_L_isReceiver_242 : decode method_3_code 242 = .ok (.iload 4, 2) := by decide +kernel
theorem zd_L_isReceiver_244 : decode method_3_code 244 = .ok (.invokevirtual 84, 3) := by decide +kernel
theorem zd_L_isReceiver_247 : decode method_3_code 247 = .ok (.if_icmp .le 22, 3) := by decide +kernel
theorem zd_L_isReceiver_269 : decode method_3_code 269 = .ok (.iconst 0, 1) := by decide +kernel
theorem zd_L_isReceiver_270 : decode method_3_code 270 = .ok (.istore_n 3, 1) := by decide +kernel
theorem zd_L_isReceiver_250 : decode method_3_code 250 = .ok (.aload_n 0, 1) := by decide +kernel
theorem zd_L_isReceiver_251 : decode method_3_code 251 = .ok (.iload 4, 2) := by decide +kernel
theorem zd_L_isReceiver_253 : decode method_3_code 253 = .ok (.iload 5, 2) := by decide +kernel
theorem zd_L_isReceiver_255 : decode method_3_code 255 = .ok (.invokevirtual 93, 3) := by decide +kernel
theorem zd_L_isReceiver_258 : decode method_3_code 258 = .ok (.aload_n 0, 1) := by decide +kernel
theorem zd_L_isReceiver_259 : decode method_3_code 259 = .ok (.invokevirtual 22, 3) := by decide +kernel
theorem zd_L_isReceiver_262 : decode method_3_code 262 = .ok (.if_icmp .ge 7, 3) := by decide +kernel
theorem zd_L_isReceiver_265 : decode method_3_code 265 = .ok (.iconst 1, 1) := by decide +kernel
theorem zd_L_isReceiver_266 : decode method_3_code 266 = .ok (.goto 4, 3) := by decide +kernel
theorem zd_L_isReceiver_218 : decode method_3_code 218 = .ok (.iload 5, 2) := by decide +kernel
theorem zd_L_isReceiver_220 : decode method_3_code 220 = .ok (.aload_n 0, 1) := by decide +kernel
theorem zd_L_isReceiver_221 : decode method_3_code 221 = .ok (.iload 4, 2) := by decide +kernel
theorem zd_L_isReceiver_223 : decode method_3_code 223 = .ok (.invokevirtual 90, 3) := by decide +kernel
theorem zd_L_isReceiver_226 : decode method_3_code 226 = .ok (.if_icmp .ge 51, 3) := by decide +kernel
theorem zd_L_isReceiver_229 : decode method_3_code 229 = .ok (.iload_n 3, 1) := by decide +kernel
theorem zd_L_isReceiver_230 : decode method_3_code 230 = .ok (.ifCond .eq 47, 3) := by decide +kernel
theorem zd_L_isReceiver_271 : decode method_3_code 271 = .ok (.iinc 5 1, 3) := by decide +kernel
theorem zd_L_isReceiver_274 : decode method_3_code 274 = .ok (.goto (-56), 3) := by decide +kernel
theorem zd_L_isReceiver_144 : decode method_3_code 144 = .ok (.iload 4, 2) := by decide +kernel
theorem zd_L_isReceiver_146 : decode method_3_code 146 = .ok (.aload_n 0, 1) := by decide +kernel
theorem zd_L_isReceiver_147 : decode method_3_code 147 = .ok (.invokevirtual 81, 3) := by decide +kernel
theorem zd_L_isReceiver_150 : decode method_3_code 150 = .ok (.if_icmp .ge 133, 3) := by decide +kernel
theorem zd_L_isReceiver_153 : decode method_3_code 153 = .ok (.iload_n 3, 1) := by decide +kernel
theorem zd_L_isReceiver_154 : decode method_3_code 154 = .ok (.ifCond .eq 129, 3) := by decide +kernel
theorem zd_L_isReceiver_215 : decode method_3_code 215 = .ok (.iconst 0, 1) := by decide +kernel
theorem zd_L_isReceiver_216 : decode method_3_code 216 = .ok (.istore 5, 2) := by decide +kernel
theorem zd_L_isReceiver_277 : decode method_3_code 277 = .ok (.iinc 4 1, 3) := by decide +kernel
theorem zd_L_isReceiver_280 : decode method_3_code 280 = .ok (.goto (-136), 3) := by decide +kernel
theorem zd_L_isReceiver_299 : decode method_3_code 299 = .ok (.aload_n 0, 1) := by decide +kernel
theorem zd_L_isReceiver_300 : decode method_3_code 300 = .ok (.iload 4, 2) := by decide +kernel
theorem zd_L_isReceiver_302 : decode method_3_code 302 = .ok (.invokevirtual 100, 3) := by decide +kernel
theorem zd_L_isReceiver_305 : decode method_3_code 305 = .ok (.ifCond .lt 52, 3) := by decide +kernel
theorem zd_L_isReceiver_357 : decode method_3_code 357 = .ok (.iconst 0, 1) := by decide +kernel
theorem zd_L_isReceiver_358 : decode method_3_code 358 = .ok (.istore_n 3, 1) := by decide +kernel
theorem zd_L_isReceiver_308 : decode method_3_code 308 = .ok (.aload_n 0, 1) := by decide +kernel
theorem zd_L_isReceiver_309 : decode method_3_code 309 = .ok (.iload 4, 2) := by decide +kernel
theorem zd_L_isReceiver_311 : decode method_3_code 311 = .ok (.invokevirtual 103, 3) := by decide +kernel
theorem zd_L_isReceiver_314 : decode method_3_code 314 = .ok (.aload_n 0, 1) := by decide +kernel
theorem zd_L_isReceiver_315 : decode method_3_code 315 = .ok (.iload 4, 2) := by decide +kernel
theorem zd_L_isReceiver_317 : decode method_3_code 317 = .ok (.invokevirtual 100, 3) := by decide +kernel
theorem zd_L_isReceiver_320 : decode method_3_code 320 = .ok (.if_icmp .le 37, 3) := by decide +kernel
theorem zd_L_isReceiver_323 : decode method_3_code 323 = .ok (.aload_n 0, 1) := by decide +kernel
theorem zd_L_isReceiver_324 : decode method_3_code 324 = .ok (.iload 4, 2) := by decide +kernel
theorem zd_L_isReceiver_326 : decode method_3_code 326 = .ok (.invokevirtual 103, 3) := by decide +kernel
theorem zd_L_isReceiver_329 : decode method_3_code 329 = .ok (.aload_n 0, 1) := by decide +kernel
theorem zd_L_isReceiver_330 : decode method_3_code 330 = .ok (.iload 4, 2) := by decide +kernel
theorem zd_L_isReceiver_332 : decode method_3_code 332 = .ok (.invokevirtual 100, 3) := by decide +kernel
theorem zd_L_isReceiver_335 : decode method_3_code 335 = .ok (.iconst 4, 1) := by decide +kernel
theorem zd_L_isReceiver_336 : decode method_3_code 336 = .ok (.iadd, 1) := by decide +kernel
theorem zd_L_isReceiver_337 : decode method_3_code 337 = .ok (.if_icmp .gt 20, 3) := by decide +kernel
theorem zd_L_isReceiver_340 : decode method_3_code 340 = .ok (.aload_n 0, 1) := by decide +kernel
theorem zd_L_isReceiver_341 : decode method_3_code 341 = .ok (.iload 4, 2) := by decide +kernel
theorem zd_L_isReceiver_343 : decode method_3_code 343 = .ok (.invokevirtual 103, 3) := by decide +kernel
theorem zd_L_isReceiver_346 : decode method_3_code 346 = .ok (.aload_n 0, 1) := by decide +kernel
theorem zd_L_isReceiver_347 : decode method_3_code 347 = .ok (.invokevirtual 22, 3) := by decide +kernel
theorem zd_L_isReceiver_350 : decode method_3_code 350 = .ok (.if_icmp .gt 7, 3) := by decide +kernel
theorem zd_L_isReceiver_353 : decode method_3_code 353 = .ok (.iconst 1, 1) := by decide +kernel
theorem zd_L_isReceiver_354 : decode method_3_code 354 = .ok (.goto 4, 3) := by decide +kernel
theorem zd_L_isReceiver_286 : decode method_3_code 286 = .ok (.iload 4, 2) := by decide +kernel
theorem zd_L_isReceiver_288 : decode method_3_code 288 = .ok (.aload_n 0, 1) := by decide +kernel
theorem zd_L_isReceiver_289 : decode method_3_code 289 = .ok (.invokevirtual 97, 3) := by decide +kernel
theorem zd_L_isReceiver_292 : decode method_3_code 292 = .ok (.if_icmp .ge 73, 3) := by decide +kernel
theorem zd_L_isReceiver_295 : decode method_3_code 295 = .ok (.iload_n 3, 1) := by decide +kernel
theorem zd_L_isReceiver_296 : decode method_3_code 296 = .ok (.ifCond .eq 69, 3) := by decide +kernel
theorem zd_L_isReceiver_359 : decode method_3_code 359 = .ok (.iinc 4 1, 3) := by decide +kernel
theorem zd_L_isReceiver_362 : decode method_3_code 362 = .ok (.goto (-76), 3) := by decide +kernel
theorem zd_L_isReceiver_0 : decode method_3_code 0 = .ok (.aload_n 0, 1) := by decide +kernel
theorem zd_L_isReceiver_1 : decode method_3_code 1 = .ok (.invokevirtual 16, 3) := by decide +kernel
theorem zd_L_isReceiver_4 : decode method_3_code 4 = .ok (.istore_n 1, 1) := by decide +kernel
theorem zd_L_isReceiver_5 : decode method_3_code 5 = .ok (.iload_n 1, 1) := by decide +kernel
theorem zd_L_isReceiver_6 : decode method_3_code 6 = .ok (.istore_n 2, 1) := by decide +kernel
theorem zd_L_isReceiver_52 : decode method_3_code 52 = .ok (.iconst 0, 1) := by decide +kernel
theorem zd_L_isReceiver_53 : decode method_3_code 53 = .ok (.istore 4, 2) := by decide +kernel
theorem zd_L_isReceiver_141 : decode method_3_code 141 = .ok (.iconst 0, 1) := by decide +kernel
theorem zd_L_isReceiver_142 : decode method_3_code 142 = .ok (.istore 4, 2) := by decide +kernel
theorem zd_L_isReceiver_283 : decode method_3_code 283 = .ok (.iconst 0, 1) := by decide +kernel
theorem zd_L_isReceiver_284 : decode method_3_code 284 = .ok (.istore 4, 2) := by decide +kernel
theorem zd_L_isReceiver_365 : decode method_3_code 365 = .ok (.iload_n 3, 1) := by decide +kernel
theorem zd_L_isReceiver_366 : decode method_3_code 366 = .ok (.ireturn, 1) := by decide +kernel
theorem zd_L_isSent_39 : decode method_4_code 39 = .ok (.aload_n 0, 1) := by decide +kernel
theorem zd_L_isSent_40 : decode method_4_code 40 = .ok (.invokevirtual 56, 3) := by decide +kernel
theorem zd_L_isSent_43 : decode method_4_code 43 = .ok (.ifCond .lt 7, 3) := by decide +kernel
theorem zd_L_isSent_50 : decode method_4_code 50 = .ok (.iconst 0, 1) := by decide +kernel
theorem zd_L_isSent_51 : decode method_4_code 51 = .ok (.istore 8, 2) := by decide +kernel
theorem zd_L_isSent_46 : decode method_4_code 46 = .ok (.iconst 1, 1) := by decide +kernel
theorem zd_L_isSent_47 : decode method_4_code 47 = .ok (.goto 4, 3) := by decide +kernel
theorem zd_L_isSent_111 : decode method_4_code 111 = .ok (.iload 9, 2) := by decide +kernel
theorem zd_L_isSent_113 : decode method_4_code 113 = .ok (.iconst 4, 1) := by decide +kernel
theorem zd_L_isSent_114 : decode method_4_code 114 = .ok (.if_icmp .gt 68, 3) := by decide +kernel
theorem zd_L_isSent_182 : decode method_4_code 182 = .ok (.iconst 0, 1) := by decide +kernel
theorem zd_L_isSent_183 : decode method_4_code 183 = .ok (.istore 11, 2) := by decide +kernel
theorem zd_L_isSent_117 : decode method_4_code 117 = .ok (.aload_n 0, 1) := by decide +kernel
theorem zd_L_isSent_118 : decode method_4_code 118 = .ok (.invokevirtual 53, 3) := by decide +kernel
theorem zd_L_isSent_121 : decode method_4_code 121 = .ok (.iload_n 1, 1) := by decide +kernel
theorem zd_L_isSent_122 : decode method_4_code 122 = .ok (.iconst 1, 1) := by decide +kernel
theorem zd_L_isSent_123 : decode method_4_code 123 = .ok (.iadd, 1) := by decide +kernel
theorem zd_L_isSent_124 : decode method_4_code 124 = .ok (.if_icmp .ne 58, 3) := by decide +kernel
theorem zd_L_isSent_127 : decode method_4_code 127 = .ok (.aload_n 0, 1) := by decide +kernel
theorem zd_L_isSent_128 : decode method_4_code 128 = .ok (.invokevirtual 97, 3) := by decide +kernel
theorem zd_L_isSent_131 : decode method_4_code 131 = .ok (.iload_n 3, 1) := by decide +kernel
theorem zd_L_isSent_132 : decode method_4_code 132 = .ok (.iconst 1, 1) := by decide +kernel
theorem zd_L_isSent_133 : decode method_4_code 133 = .ok (.iadd, 1) := by decide +kernel
theorem zd_L_isSent_134 : decode method_4_code 134 = .ok (.if_icmp .ne 48, 3) := by decide +kernel
theorem zd_L_isSent_137 : decode method_4_code 137 = .ok (.aload_n 0, 1) := by decide +kernel
theorem zd_L_isSent_138 : decode method_4_code 138 = .ok (.iload_n 3, 1) := by decide +kernel
theorem zd_L_isSent_139 : decode method_4_code 139 = .ok (.invokevirtual 103, 3) := by decide +kernel
theorem zd_L_isSent_142 : decode method_4_code 142 = .ok (.iload 10, 2) := by decide +kernel
theorem zd_L_isSent_144 : decode method_4_code 144 = .ok (.iload 9, 2) := by decide +kernel
theorem zd_L_isSent_146 : decode method_4_code 146 = .ok (.iadd, 1) := by decide +kernel
theorem zd_L_isSent_147 : decode method_4_code 147 = .ok (.if_icmp .ne 35, 3) := by decide +kernel
theorem zd_L_isSent_150 : decode method_4_code 150 = .ok (.aload_n 0, 1) := by decide +kernel
theorem zd_L_isSent_151 : decode method_4_code 151 = .ok (.invokevirtual 50, 3) := by decide +kernel
theorem zd_L_isSent_154 : decode method_4_code 154 = .ok (.iload_n 2, 1) := by decide +kernel
theorem zd_L_isSent_155 : decode method_4_code 155 = .ok (.iload 10, 2) := by decide +kernel
theorem zd_L_isSent_157 : decode method_4_code 157 = .ok (.iload 5, 2) := by decide +kernel
theorem zd_L_isSent_159 : decode method_4_code 159 = .ok (.if_icmp .ge 7, 3) := by decide +kernel
theorem zd_L_isSent_166 : decode method_4_code 166 = .ok (.iconst 0, 1) := by decide +kernel
theorem zd_L_isSent_167 : decode method_4_code 167 = .ok (.iadd, 1) := by decide +kernel
theorem zd_L_isSent_168 : decode method_4_code 168 = .ok (.if_icmp .ne 14, 3) := by decide +kernel
theorem zd_L_isSent_171 : decode method_4_code 171 = .ok (.aload_n 0, 1) := by decide +kernel
theorem zd_L_isSent_172 : decode method_4_code 172 = .ok (.invokevirtual 62, 3) := by decide +kernel
theorem zd_L_isSent_175 : decode method_4_code 175 = .ok (.ifCond .lt 7, 3) := by decide +kernel
theorem zd_L_isSent_178 : decode method_4_code 178 = .ok (.iconst 1, 1) := by decide +kernel
theorem zd_L_isSent_179 : decode method_4_code 179 = .ok (.goto 4, 3) := by decide +kernel
theorem zd_L_isSent_162 : decode method_4_code 162 = .ok (.iconst 1, 1) := by decide +kernel
theorem zd_L_isSent_163 : decode method_4_code 163 = .ok (.goto 4, 3) := by decide +kernel
theorem zd_L_isSent_0 : decode method_4_code 0 = .ok (.aload_n 0, 1) := by decide +kernel
theorem zd_L_isSent_1 : decode method_4_code 1 = .ok (.invokevirtual 53, 3) := by decide +kernel
theorem zd_L_isSent_4 : decode method_4_code 4 = .ok (.istore_n 1, 1) := by decide +kernel
theorem zd_L_isSent_5 : decode method_4_code 5 = .ok (.aload_n 0, 1) := by decide +kernel
theorem zd_L_isSent_6 : decode method_4_code 6 = .ok (.invokevirtual 50, 3) := by decide +kernel
theorem zd_L_isSent_9 : decode method_4_code 9 = .ok (.istore_n 2, 1) := by decide +kernel
theorem zd_L_isSent_10 : decode method_4_code 10 = .ok (.aload_n 0, 1) := by decide +kernel
theorem zd_L_isSent_11 : decode method_4_code 11 = .ok (.invokevirtual 97, 3) := by decide +kernel
theorem zd_L_isSent_14 : decode method_4_code 14 = .ok (.istore_n 3, 1) := by decide +kernel
theorem zd_L_isSent_15 : decode method_4_code 15 = .ok (.aload_n 0, 1) := by decide +kernel
theorem zd_L_isSent_16 : decode method_4_code 16 = .ok (.invokevirtual 13, 3) := by decide +kernel
theorem zd_L_isSent_19 : decode method_4_code 19 = .ok (.istore 4, 2) := by decide +kernel
theorem zd_L_isSent_21 : decode method_4_code 21 = .ok (.aload_n 0, 1) := by decide +kernel
theorem zd_L_isSent_22 : decode method_4_code 22 = .ok (.invokevirtual 22, 3) := by decide +kernel
theorem zd_L_isSent_25 : decode method_4_code 25 = .ok (.istore 5, 2) := by decide +kernel
theorem zd_L_isSent_27 : decode method_4_code 27 = .ok (.aload_n 0, 1) := by decide +kernel
theorem zd_L_isSent_28 : decode method_4_code 28 = .ok (.invokevirtual 38, 3) := by decide +kernel
theorem zd_L_isSent_31 : decode method_4_code 31 = .ok (.istore 6, 2) := by decide +kernel
theorem zd_L_isSent_33 : decode method_4_code 33 = .ok (.aload_n 0, 1) := by decide +kernel
theorem zd_L_isSent_34 : decode method_4_code 34 = .ok (.invokevirtual 35, 3) := by decide +kernel
theorem zd_L_isSent_37 : decode method_4_code 37 = .ok (.istore 7, 2) := by decide +kernel
theorem zd_L_isSent_53 : decode method_4_code 53 = .ok (.aload_n 0, 1) := by decide +kernel
theorem zd_L_isSent_54 : decode method_4_code 54 = .ok (.invokevirtual 106, 3) := by decide +kernel
theorem zd_L_isSent_57 : decode method_4_code 57 = .ok (.istore 9, 2) := by decide +kernel
theorem zd_L_isSent_59 : decode method_4_code 59 = .ok (.iload 9, 2) := by decide +kernel
theorem zd_L_isSent_61 : decode method_4_code 61 = .ok (.ifCond .ne 43, 3) := by decide +kernel
theorem zd_L_isSent_104 : decode method_4_code 104 = .ok (.aload_n 0, 1) := by decide +kernel
theorem zd_L_isSent_105 : decode method_4_code 105 = .ok (.iload_n 3, 1) := by decide +kernel
theorem zd_L_isSent_106 : decode method_4_code 106 = .ok (.invokevirtual 100, 3) := by decide +kernel
theorem zd_L_isSent_109 : decode method_4_code 109 = .ok (.istore 10, 2) := by decide +kernel
theorem zd_L_isSent_185 : decode method_4_code 185 = .ok (.iload 11, 2) := by decide +kernel
theorem zd_L_isSent_187 : decode method_4_code 187 = .ok (.ifCond .eq 65, 3) := by decide +kernel
theorem zd_L_isSent_252 : decode method_4_code 252 = .ok (.iconst 0, 1) := by decide +kernel
theorem zd_L_isSent_253 : decode method_4_code 253 = .ok (.ireturn, 1) := by decide +kernel
theorem zd_L_isSent_190 : decode method_4_code 190 = .ok (.iload 8, 2) := by decide +kernel
theorem zd_L_isSent_192 : decode method_4_code 192 = .ok (.ifCond .eq 10, 3) := by decide +kernel
theorem zd_L_isSent_202 : decode method_4_code 202 = .ok (.iload 10, 2) := by decide +kernel
theorem zd_L_isSent_204 : decode method_4_code 204 = .ok (.iload 4, 2) := by decide +kernel
theorem zd_L_isSent_206 : decode method_4_code 206 = .ok (.if_icmp .lt 46, 3) := by decide +kernel
theorem zd_L_isSent_209 : decode method_4_code 209 = .ok (.aload_n 0, 1) := by decide +kernel
theorem zd_L_isSent_210 : decode method_4_code 210 = .ok (.invokevirtual 13, 3) := by decide +kernel
theorem zd_L_isSent_213 : decode method_4_code 213 = .ok (.iload 10, 2) := by decide +kernel
theorem zd_L_isSent_215 : decode method_4_code 215 = .ok (.iload 9, 2) := by decide +kernel
theorem zd_L_isSent_217 : decode method_4_code 217 = .ok (.iadd, 1) := by decide +kernel
theorem zd_L_isSent_218 : decode method_4_code 218 = .ok (.if_icmp .ne 34, 3) := by decide +kernel
theorem zd_L_isSent_221 : decode method_4_code 221 = .ok (.aload_n 0, 1) := by decide +kernel
theorem zd_L_isSent_222 : decode method_4_code 222 = .ok (.invokevirtual 35, 3) := by decide +kernel
theorem zd_L_isSent_225 : decode method_4_code 225 = .ok (.iload 7, 2) := by decide +kernel
theorem zd_L_isSent_227 : decode method_4_code 227 = .ok (.iload 9, 2) := by decide +kernel
theorem zd_L_isSent_229 : decode method_4_code 229 = .ok (.iadd, 1) := by decide +kernel
theorem zd_L_isSent_230 : decode method_4_code 230 = .ok (.if_icmp .ne 22, 3) := by decide +kernel
theorem zd_L_isSent_233 : decode method_4_code 233 = .ok (.iload 7, 2) := by decide +kernel
theorem zd_L_isSent_235 : decode method_4_code 235 = .ok (.ifCond .eq 13, 3) := by decide +kernel
theorem zd_L_isSent_248 : decode method_4_code 248 = .ok (.iconst 1, 1) := by decide +kernel
theorem zd_L_isSent_249 : decode method_4_code 249 = .ok (.goto 4, 3) := by decide +kernel
theorem zd_L_isSent_238 : decode method_4_code 238 = .ok (.iload 7, 2) := by decide +kernel
theorem zd_L_isSent_240 : decode method_4_code 240 = .ok (.iload 9, 2) := by decide +kernel
theorem zd_L_isSent_242 : decode method_4_code 242 = .ok (.iadd, 1) := by decide +kernel
theorem zd_L_isSent_243 : decode method_4_code 243 = .ok (.iload 6, 2) := by decide +kernel
theorem zd_L_isSent_245 : decode method_4_code 245 = .ok (.if_icmp .gt 7, 3) := by decide +kernel
theorem zd_L_isSent_195 : decode method_4_code 195 = .ok (.iload 10, 2) := by decide +kernel
theorem zd_L_isSent_197 : decode method_4_code 197 = .ok (.iload 4, 2) := by decide +kernel
theorem zd_L_isSent_199 : decode method_4_code 199 = .ok (.if_icmp .lt 49, 3) := by decide +kernel
theorem zd_L_isSent_64 : decode method_4_code 64 = .ok (.aload_n 0, 1) := by decide +kernel
theorem zd_L_isSent_65 : decode method_4_code 65 = .ok (.invokevirtual 53, 3) := by decide +kernel
theorem zd_L_isSent_68 : decode method_4_code 68 = .ok (.iload_n 1, 1) := by decide +kernel
theorem zd_L_isSent_69 : decode method_4_code 69 = .ok (.if_icmp .ne 33, 3) := by decide +kernel
theorem zd_L_isSent_102 : decode method_4_code 102 = .ok (.iconst 0, 1) := by decide +kernel
theorem zd_L_isSent_103 : decode method_4_code 103 = .ok (.ireturn, 1) := by decide +kernel
theorem zd_L_isSent_72 : decode method_4_code 72 = .ok (.aload_n 0, 1) := by decide +kernel
theorem zd_L_isSent_73 : decode method_4_code 73 = .ok (.invokevirtual 97, 3) := by decide +kernel
theorem zd_L_isSent_76 : decode method_4_code 76 = .ok (.iload_n 3, 1) := by decide +kernel
theorem zd_L_isSent_77 : decode method_4_code 77 = .ok (.if_icmp .ne 25, 3) := by decide +kernel
theorem zd_L_isSent_80 : decode method_4_code 80 = .ok (.aload_n 0, 1) := by decide +kernel
theorem zd_L_isSent_81 : decode method_4_code 81 = .ok (.invokevirtual 13, 3) := by decide +kernel
theorem zd_L_isSent_84 : decode method_4_code 84 = .ok (.iload 4, 2) := by decide +kernel
theorem zd_L_isSent_86 : decode method_4_code 86 = .ok (.if_icmp .lt 16, 3) := by decide +kernel
theorem zd_L_isSent_89 : decode method_4_code 89 = .ok (.aload_n 0, 1) := by decide +kernel
theorem zd_L_isSent_90 : decode method_4_code 90 = .ok (.invokevirtual 35, 3) := by decide +kernel
theorem zd_L_isSent_93 : decode method_4_code 93 = .ok (.iload 7, 2) := by decide +kernel
theorem zd_L_isSent_95 : decode method_4_code 95 = .ok (.if_icmp .ne 7, 3) := by decide +kernel
theorem zd_L_isSent_98 : decode method_4_code 98 = .ok (.iconst 1, 1) := by decide +kernel
theorem zd_L_isSent_99 : decode method_4_code 99 = .ok (.goto 4, 3) := by decide +kernel
theorem zd_L_isAnswered_38 : decode method_5_code 38 = .ok (.aload_n 0, 1) := by decide +kernel
theorem zd_L_isAnswered_39 : decode method_5_code 39 = .ok (.invokevirtual 56, 3) := by decide +kernel
theorem zd_L_isAnswered_42 : decode method_5_code 42 = .ok (.ifCond .lt 7, 3) := by decide +kernel
theorem zd_L_isAnswered_49 : decode method_5_code 49 = .ok (.iconst 0, 1) := by decide +kernel
theorem zd_L_isAnswered_50 : decode method_5_code 50 = .ok (.istore 8, 2) := by decide +kernel
theorem zd_L_isAnswered_45 : decode method_5_code 45 = .ok (.iconst 1, 1) := by decide +kernel
theorem zd_L_isAnswered_46 : decode method_5_code 46 = .ok (.goto 4, 3) := by decide +kernel
theorem zd_L_isAnswered_102 : decode method_5_code 102 = .ok (.iload 9, 2) := by decide +kernel
theorem zd_L_isAnswered_104 : decode method_5_code 104 = .ok (.iload_n 3, 1) := by decide +kernel
theorem zd_L_isAnswered_105 : decode method_5_code 105 = .ok (.iload_n 2, 1) := by decide +kernel
theorem zd_L_isAnswered_106 : decode method_5_code 106 = .ok (.isub, 1) := by decide +kernel
theorem zd_L_isAnswered_107 : decode method_5_code 107 = .ok (.if_icmp .ne 36, 3) := by decide +kernel
theorem zd_L_isAnswered_143 : decode method_5_code 143 = .ok (.iconst 0, 1) := by decide +kernel
theorem zd_L_isAnswered_144 : decode method_5_code 144 = .ok (.istore 10, 2) := by decide +kernel
theorem zd_L_isAnswered_110 : decode method_5_code 110 = .ok (.aload_n 0, 1) := by decide +kernel
theorem zd_L_isAnswered_111 : decode method_5_code 111 = .ok (.invokevirtual 7, 3) := by decide +kernel
theorem zd_L_isAnswered_114 : decode method_5_code 114 = .ok (.iload_n 3, 1) := by decide +kernel
theorem zd_L_isAnswered_115 : decode method_5_code 115 = .ok (.if_icmp .ne 28, 3) := by decide +kernel
theorem zd_L_isAnswered_118 : decode method_5_code 118 = .ok (.aload_n 0, 1) := by decide +kernel
theorem zd_L_isAnswered_119 : decode method_5_code 119 = .ok (.invokevirtual 25, 3) := by decide +kernel
theorem zd_L_isAnswered_122 : decode method_5_code 122 = .ok (.iload 5, 2) := by decide +kernel
theorem zd_L_isAnswered_124 : decode method_5_code 124 = .ok (.iload 4, 2) := by decide +kernel
theorem zd_L_isAnswered_126 : decode method_5_code 126 = .ok (.if_icmp .le 8, 3) := by decide +kernel
theorem zd_L_isAnswered_134 : decode method_5_code 134 = .ok (.iload 4, 2) := by decide +kernel
theorem zd_L_isAnswered_136 : decode method_5_code 136 = .ok (.if_icmp .ne 7, 3) := by decide +kernel
theorem zd_L_isAnswered_139 : decode method_5_code 139 = .ok (.iconst 1, 1) := by decide +kernel
theorem zd_L_isAnswered_140 : decode method_5_code 140 = .ok (.goto 4, 3) := by decide +kernel
theorem zd_L_isAnswered_129 : decode method_5_code 129 = .ok (.iload 5, 2) := by decide +kernel
theorem zd_L_isAnswered_131 : decode method_5_code 131 = .ok (.goto 5, 3) := by decide +kernel
theorem zd_L_isAnswered_0 : decode method_5_code 0 = .ok (.aload_n 0, 1) := by decide +kernel
theorem zd_L_isAnswered_1 : decode method_5_code 1 = .ok (.invokevirtual 7, 3) := by decide +kernel
theorem zd_L_isAnswered_4 : decode method_5_code 4 = .ok (.istore_n 2, 1) := by decide +kernel
theorem zd_L_isAnswered_5 : decode method_5_code 5 = .ok (.aload_n 0, 1) := by decide +kernel
theorem zd_L_isAnswered_6 : decode method_5_code 6 = .ok (.iload_n 1, 1) := by decide +kernel
theorem zd_L_isAnswered_7 : decode method_5_code 7 = .ok (.invokevirtual 84, 3) := by decide +kernel
theorem zd_L_isAnswered_10 : decode method_5_code 10 = .ok (.istore_n 3, 1) := by decide +kernel
theorem zd_L_isAnswered_11 : decode method_5_code 11 = .ok (.aload_n 0, 1) := by decide +kernel
theorem zd_L_isAnswered_12 : decode method_5_code 12 = .ok (.invokevirtual 25, 3) := by decide +kernel
theorem zd_L_isAnswered_15 : decode method_5_code 15 = .ok (.istore 4, 2) := by decide +kernel
theorem zd_L_isAnswered_17 : decode method_5_code 17 = .ok (.iload_n 3, 1) := by decide +kernel
theorem zd_L_isAnswered_18 : decode method_5_code 18 = .ok (.aload_n 0, 1) := by decide +kernel
theorem zd_L_isAnswered_19 : decode method_5_code 19 = .ok (.iload_n 1, 1) := by decide +kernel
theorem zd_L_isAnswered_20 : decode method_5_code 20 = .ok (.invokevirtual 87, 3) := by decide +kernel
theorem zd_L_isAnswered_23 : decode method_5_code 23 = .ok (.iadd, 1) := by decide +kernel
theorem zd_L_isAnswered_24 : decode method_5_code 24 = .ok (.istore 5, 2) := by decide +kernel
theorem zd_L_isAnswered_26 : decode method_5_code 26 = .ok (.aload_n 0, 1) := by decide +kernel
theorem zd_L_isAnswered_27 : decode method_5_code 27 = .ok (.invokevirtual 47, 3) := by decide +kernel
theorem zd_L_isAnswered_30 : decode method_5_code 30 = .ok (.istore 6, 2) := by decide +kernel
theorem zd_L_isAnswered_32 : decode method_5_code 32 = .ok (.aload_n 0, 1) := by decide +kernel
theorem zd_L_isAnswered_33 : decode method_5_code 33 = .ok (.invokevirtual 38, 3) := by decide +kernel
theorem zd_L_isAnswered_36 : decode method_5_code 36 = .ok (.istore 7, 2) := by decide +kernel
theorem zd_L_isAnswered_52 : decode method_5_code 52 = .ok (.aload_n 0, 1) := by decide +kernel
theorem zd_L_isAnswered_53 : decode method_5_code 53 = .ok (.iload_n 1, 1) := by decide +kernel
theorem zd_L_isAnswered_54 : decode method_5_code 54 = .ok (.invokevirtual 109, 3) := by decide +kernel
theorem zd_L_isAnswered_57 : decode method_5_code 57 = .ok (.istore 9, 2) := by decide +kernel
theorem zd_L_isAnswered_59 : decode method_5_code 59 = .ok (.iload_n 3, 1) := by decide +kernel
theorem zd_L_isAnswered_60 : decode method_5_code 60 = .ok (.iload_n 2, 1) := by decide +kernel
theorem zd_L_isAnswered_61 : decode method_5_code 61 = .ok (.if_icmp .ge 41, 3) := by decide +kernel
theorem zd_L_isAnswered_146 : decode method_5_code 146 = .ok (.iload 10, 2) := by decide +kernel
theorem zd_L_isAnswered_148 : decode method_5_code 148 = .ok (.ifCond .eq 67, 3) := by decide +kernel
theorem zd_L_isAnswered_215 : decode method_5_code 215 = .ok (.iconst 0, 1) := by decide +kernel
theorem zd_L_isAnswered_216 : decode method_5_code 216 = .ok (.ireturn, 1) := by decide +kernel
theorem zd_L_isAnswered_151 : decode method_5_code 151 = .ok (.iload 9, 2) := by decide +kernel
theorem zd_L_isAnswered_153 : decode method_5_code 153 = .ok (.ifCond .le 38, 3) := by decide +kernel
theorem zd_L_isAnswered_191 : decode method_5_code 191 = .ok (.aload_n 0, 1) := by decide +kernel
theorem zd_L_isAnswered_192 : decode method_5_code 192 = .ok (.invokevirtual 47, 3) := by decide +kernel
theorem zd_L_isAnswered_195 : decode method_5_code 195 = .ok (.iload 6, 2) := by decide +kernel
theorem zd_L_isAnswered_197 : decode method_5_code 197 = .ok (.if_icmp .lt 18, 3) := by decide +kernel
theorem zd_L_isAnswered_200 : decode method_5_code 200 = .ok (.aload_n 0, 1) := by decide +kernel
theorem zd_L_isAnswered_201 : decode method_5_code 201 = .ok (.invokevirtual 47, 3) := by decide +kernel
theorem zd_L_isAnswered_204 : decode method_5_code 204 = .ok (.iload 6, 2) := by decide +kernel
theorem zd_L_isAnswered_206 : decode method_5_code 206 = .ok (.iconst 1, 1) := by decide +kernel
theorem zd_L_isAnswered_207 : decode method_5_code 207 = .ok (.iadd, 1) := by decide +kernel
theorem zd_L_isAnswered_208 : decode method_5_code 208 = .ok (.if_icmp .gt 7, 3) := by decide +kernel
theorem zd_L_isAnswered_211 : decode method_5_code 211 = .ok (.iconst 1, 1) := by decide +kernel
theorem zd_L_isAnswered_212 : decode method_5_code 212 = .ok (.goto 4, 3) := by decide +kernel
theorem zd_L_isAnswered_156 : decode method_5_code 156 = .ok (.aload_n 0, 1) := by decide +kernel
theorem zd_L_isAnswered_157 : decode method_5_code 157 = .ok (.invokevirtual 47, 3) := by decide +kernel
theorem zd_L_isAnswered_160 : decode method_5_code 160 = .ok (.ifCond .ne 55, 3) := by decide +kernel
theorem zd_L_isAnswered_163 : decode method_5_code 163 = .ok (.iload 8, 2) := by decide +kernel
theorem zd_L_isAnswered_165 : decode method_5_code 165 = .ok (.ifCond .ne 46, 3) := by decide +kernel
theorem zd_L_isAnswered_168 : decode method_5_code 168 = .ok (.aload_n 0, 1) := by decide +kernel
theorem zd_L_isAnswered_169 : decode method_5_code 169 = .ok (.invokevirtual 38, 3) := by decide +kernel
theorem zd_L_isAnswered_172 : decode method_5_code 172 = .ok (.iload 7, 2) := by decide +kernel
theorem zd_L_isAnswered_174 : decode method_5_code 174 = .ok (.if_icmp .lt 41, 3) := by decide +kernel
theorem zd_L_isAnswered_177 : decode method_5_code 177 = .ok (.aload_n 0, 1) := by decide +kernel
theorem zd_L_isAnswered_178 : decode method_5_code 178 = .ok (.invokevirtual 38, 3) := by decide +kernel
theorem zd_L_isAnswered_181 : decode method_5_code 181 = .ok (.iload 7, 2) := by decide +kernel
theorem zd_L_isAnswered_183 : decode method_5_code 183 = .ok (.iconst 4, 1) := by decide +kernel
theorem zd_L_isAnswered_184 : decode method_5_code 184 = .ok (.iadd, 1) := by decide +kernel
theorem zd_L_isAnswered_185 : decode method_5_code 185 = .ok (.if_icmp .gt 30, 3) := by decide +kernel
theorem zd_L_isAnswered_188 : decode method_5_code 188 = .ok (.goto 23, 3) := by decide +kernel
theorem zd_L_isAnswered_64 : decode method_5_code 64 = .ok (.iload 9, 2) := by decide +kernel
theorem zd_L_isAnswered_66 : decode method_5_code 66 = .ok (.ifCond .ne 34, 3) := by decide +kernel
theorem zd_L_isAnswered_100 : decode method_5_code 100 = .ok (.iconst 0, 1) := by decide +kernel
theorem zd_L_isAnswered_101 : decode method_5_code 101 = .ok (.ireturn, 1) := by decide +kernel
theorem zd_L_isAnswered_69 : decode method_5_code 69 = .ok (.aload_n 0, 1) := by decide +kernel
theorem zd_L_isAnswered_70 : decode method_5_code 70 = .ok (.invokevirtual 25, 3) := by decide +kernel
theorem zd_L_isAnswered_73 : decode method_5_code 73 = .ok (.iload 4, 2) := by decide +kernel
theorem zd_L_isAnswered_75 : decode method_5_code 75 = .ok (.if_icmp .ne 25, 3) := by decide +kernel
theorem zd_L_isAnswered_78 : decode method_5_code 78 = .ok (.aload_n 0, 1) := by decide +kernel
theorem zd_L_isAnswered_79 : decode method_5_code 79 = .ok (.invokevirtual 47, 3) := by decide +kernel
theorem zd_L_isAnswered_82 : decode method_5_code 82 = .ok (.iload 6, 2) := by decide +kernel
theorem zd_L_isAnswered_84 : decode method_5_code 84 = .ok (.if_icmp .ne 16, 3) := by decide +kernel
theorem zd_L_isAnswered_87 : decode method_5_code 87 = .ok (.aload_n 0, 1) := by decide +kernel
theorem zd_L_isAnswered_88 : decode method_5_code 88 = .ok (.invokevirtual 38, 3) := by decide +kernel
theorem zd_L_isAnswered_91 : decode method_5_code 91 = .ok (.iload 7, 2) := by decide +kernel
theorem zd_L_isAnswered_93 : decode method_5_code 93 = .ok (.if_icmp .ne 7, 3) := by decide +kernel
theorem zd_L_isAnswered_96 : decode method_5_code 96 = .ok (.iconst 1, 1) := by decide +kernel
theorem zd_L_isAnswered_97 : decode method_5_code 97 = .ok (.goto 4, 3) := by decide +kernel
theorem zd_L_drains_21 : decode method_6_code 21 = .ok (.aload_n 0, 1) := by decide +kernel
theorem zd_L_drains_22 : decode method_6_code 22 = .ok (.invokevirtual 97, 3) := by decide +kernel
theorem zd_L_drains_25 : decode method_6_code 25 = .ok (.ifCond .le 24, 3) := by decide +kernel
theorem zd_L_drains_28 : decode method_6_code 28 = .ok (.iload_n 3, 1) := by decide +kernel
theorem zd_L_drains_29 : decode method_6_code 29 = .ok (.aload_n 0, 1) := by decide +kernel
theorem zd_L_drains_30 : decode method_6_code 30 = .ok (.iconst 0, 1) := by decide +kernel
theorem zd_L_drains_31 : decode method_6_code 31 = .ok (.invokevirtual 112, 3) := by decide +kernel
theorem zd_L_drains_34 : decode method_6_code 34 = .ok (.ifCond .ge 9, 3) := by decide +kernel
theorem zd_L_drains_43 : decode method_6_code 43 = .ok (.iconst 0, 1) := by decide +kernel
theorem zd_L_drains_44 : decode method_6_code 44 = .ok (.iadd, 1) := by decide +kernel
theorem zd_L_drains_45 : decode method_6_code 45 = .ok (.istore_n 3, 1) := by decide +kernel
theorem zd_L_drains_46 : decode method_6_code 46 = .ok (.goto (-25), 3) := by decide +kernel
theorem zd_L_drains_37 : decode method_6_code 37 = .ok (.sipush 1000, 3) := by decide +kernel
theorem zd_L_drains_40 : decode method_6_code 40 = .ok (.goto 4, 3) := by decide +kernel
theorem zd_L_drains_60 : decode method_6_code 60 = .ok (.iload 5, 2) := by decide +kernel
theorem zd_L_drains_62 : decode method_6_code 62 = .ok (.iload_n 1, 1) := by decide +kernel
theorem zd_L_drains_63 : decode method_6_code 63 = .ok (.iload_n 3, 1) := by decide +kernel
theorem zd_L_drains_64 : decode method_6_code 64 = .ok (.iadd, 1) := by decide +kernel
theorem zd_L_drains_65 : decode method_6_code 65 = .ok (.sipush 256, 3) := by decide +kernel
theorem zd_L_drains_68 : decode method_6_code 68 = .ok (.irem, 1) := by decide +kernel
theorem zd_L_drains_69 : decode method_6_code 69 = .ok (.if_icmp .ne 9, 3) := by decide +kernel
theorem zd_L_drains_78 : decode method_6_code 78 = .ok (.sipush 5000, 3) := by decide +kernel
theorem zd_L_drains_81 : decode method_6_code 81 = .ok (.istore_n 3, 1) := by decide +kernel
theorem zd_L_drains_72 : decode method_6_code 72 = .ok (.iload_n 3, 1) := by decide +kernel
theorem zd_L_drains_73 : decode method_6_code 73 = .ok (.iconst 1, 1) := by decide +kernel
theorem zd_L_drains_74 : decode method_6_code 74 = .ok (.iadd, 1) := by decide +kernel
theorem zd_L_drains_75 : decode method_6_code 75 = .ok (.goto 6, 3) := by decide +kernel
theorem zd_L_drains_55 : decode method_6_code 55 = .ok (.iload 5, 2) := by decide +kernel
theorem zd_L_drains_57 : decode method_6_code 57 = .ok (.ifCond .lt 34, 3) := by decide +kernel
theorem zd_L_drains_82 : decode method_6_code 82 = .ok (.aload_n 0, 1) := by decide +kernel
theorem zd_L_drains_83 : decode method_6_code 83 = .ok (.invokevirtual 115, 3) := by decide +kernel
theorem zd_L_drains_86 : decode method_6_code 86 = .ok (.istore 5, 2) := by decide +kernel
theorem zd_L_drains_88 : decode method_6_code 88 = .ok (.goto (-33), 3) := by decide +kernel
theorem zd_L_drains_91 : decode method_6_code 91 = .ok (.aload_n 0, 1) := by decide +kernel
theorem zd_L_drains_92 : decode method_6_code 92 = .ok (.invokevirtual 81, 3) := by decide +kernel
theorem zd_L_drains_95 : decode method_6_code 95 = .ok (.ifCond .le 24, 3) := by decide +kernel
theorem zd_L_drains_98 : decode method_6_code 98 = .ok (.iload_n 3, 1) := by decide +kernel
theorem zd_L_drains_99 : decode method_6_code 99 = .ok (.aload_n 0, 1) := by decide +kernel
theorem zd_L_drains_100 : decode method_6_code 100 = .ok (.iconst 0, 1) := by decide +kernel
theorem zd_L_drains_101 : decode method_6_code 101 = .ok (.invokevirtual 109, 3) := by decide +kernel
theorem zd_L_drains_104 : decode method_6_code 104 = .ok (.ifCond .ge 9, 3) := by decide +kernel
theorem zd_L_drains_113 : decode method_6_code 113 = .ok (.iconst 0, 1) := by decide +kernel
theorem zd_L_drains_114 : decode method_6_code 114 = .ok (.iadd, 1) := by decide +kernel
theorem zd_L_drains_115 : decode method_6_code 115 = .ok (.istore_n 3, 1) := by decide +kernel
theorem zd_L_drains_116 : decode method_6_code 116 = .ok (.goto (-25), 3) := by decide +kernel
theorem zd_L_drains_107 : decode method_6_code 107 = .ok (.sipush 1000, 3) := by decide +kernel
theorem zd_L_drains_110 : decode method_6_code 110 = .ok (.goto 4, 3) := by decide +kernel
theorem zd_L_drains_119 : decode method_6_code 119 = .ok (.aload_n 0, 1) := by decide +kernel
theorem zd_L_drains_120 : decode method_6_code 120 = .ok (.invokevirtual 106, 3) := by decide +kernel
theorem zd_L_drains_123 : decode method_6_code 123 = .ok (.ifCond .ne 37, 3) := by decide +kernel
theorem zd_L_drains_126 : decode method_6_code 126 = .ok (.aload_n 0, 1) := by decide +kernel
theorem zd_L_drains_127 : decode method_6_code 127 = .ok (.invokevirtual 62, 3) := by decide +kernel
theorem zd_L_drains_130 : decode method_6_code 130 = .ok (.ifCond .lt 30, 3) := by decide +kernel
theorem zd_L_drains_133 : decode method_6_code 133 = .ok (.iload_n 3, 1) := by decide +kernel
theorem zd_L_drains_134 : decode method_6_code 134 = .ok (.aload_n 0, 1) := by decide +kernel
theorem zd_L_drains_135 : decode method_6_code 135 = .ok (.aload_n 0, 1) := by decide +kernel
theorem zd_L_drains_136 : decode method_6_code 136 = .ok (.invokevirtual 62, 3) := by decide +kernel
theorem zd_L_drains_139 : decode method_6_code 139 = .ok (.aload_n 0, 1) := by decide +kernel
theorem zd_L_drains_140 : decode method_6_code 140 = .ok (.invokevirtual 65, 3) := by decide +kernel
theorem zd_L_drains_143 : decode method_6_code 143 = .ok (.isub, 1) := by decide +kernel
theorem zd_L_drains_144 : decode method_6_code 144 = .ok (.invokevirtual 118, 3) := by decide +kernel
theorem zd_L_drains_147 : decode method_6_code 147 = .ok (.iconst 1, 1) := by decide +kernel
theorem zd_L_drains_148 : decode method_6_code 148 = .ok (.if_icmp .ne 7, 3) := by decide +kernel
theorem zd_L_drains_155 : decode method_6_code 155 = .ok (.sipush 1000, 3) := by decide +kernel
theorem zd_L_drains_158 : decode method_6_code 158 = .ok (.iadd, 1) := by decide +kernel
theorem zd_L_drains_159 : decode method_6_code 159 = .ok (.istore_n 3, 1) := by decide +kernel
theorem zd_L_drains_151 : decode method_6_code 151 = .ok (.iconst 0, 1) := by decide +kernel
theorem zd_L_drains_152 : decode method_6_code 152 = .ok (.goto 6, 3) := by decide +kernel
theorem zd_L_drains_5 : decode method_6_code 5 = .ok (.iload 4, 2) := by decide +kernel
theorem zd_L_drains_7 : decode method_6_code 7 = .ok (.sipush 3000, 3) := by decide +kernel
theorem zd_L_drains_10 : decode method_6_code 10 = .ok (.if_icmp .ge 156, 3) := by decide +kernel
theorem zd_L_drains_13 : decode method_6_code 13 = .ok (.iload_n 3, 1) := by decide +kernel
theorem zd_L_drains_14 : decode method_6_code 14 = .ok (.aload_n 0, 1) := by decide +kernel
theorem zd_L_drains_15 : decode method_6_code 15 = .ok (.invokevirtual 19, 3) := by decide +kernel
theorem zd_L_drains_18 : decode method_6_code 18 = .ok (.if_icmp .ge 148, 3) := by decide +kernel
theorem zd_L_drains_49 : decode method_6_code 49 = .ok (.aload_n 0, 1) := by decide +kernel
theorem zd_L_drains_50 : decode method_6_code 50 = .ok (.invokevirtual 115, 3) := by decide +kernel
theorem zd_L_drains_53 : decode method_6_code 53 = .ok (.istore 5, 2) := by decide +kernel
theorem zd_L_drains_160 : decode method_6_code 160 = .ok (.iinc 4 1, 3) := by decide +kernel
theorem zd_L_drains_163 : decode method_6_code 163 = .ok (.goto (-158), 3) := by decide +kernel
theorem zd_L_drains_0 : decode method_6_code 0 = .ok (.iload_n 2, 1) := by decide +kernel
theorem zd_L_drains_1 : decode method_6_code 1 = .ok (.istore_n 3, 1) := by decide +kernel
theorem zd_L_drains_2 : decode method_6_code 2 = .ok (.iconst 0, 1) := by decide +kernel
theorem zd_L_drains_3 : decode method_6_code 3 = .ok (.istore 4, 2) := by decide +kernel
theorem zd_L_drains_166 : decode method_6_code 166 = .ok (.iload_n 3, 1) := by decide +kernel
theorem zd_L_drains_167 : decode method_6_code 167 = .ok (.ireturn, 1) := by decide +kernel
theorem zm471 : (Jvm.Cond.methodLink "SluiceStreamLaw" (122 : Nat) ({ cls := "SluiceStreamLaw", name := "isSender", desc := "(LSluiceStream;)Z" } : Jvm.MethodName)) ∈ zT := List.mem_filter.mpr ⟨List.mem_of_getElem? (i := 486) (by decide +kernel), by decide +kernel⟩
theorem zm0 : (Jvm.Cond.initialized "SluiceStreamLaw") ∈ zT := List.mem_filter.mpr ⟨List.mem_of_getElem? (i := 15) (by decide +kernel), by decide +kernel⟩
theorem zm473 : (Jvm.Cond.code ({ cls := "SluiceStreamLaw", name := "isSender", desc := "(LSluiceStream;)Z" } : Jvm.MethodName) method_2_code (7 : Nat) (Option.some Jvm.ClassFile.FieldType.boolean)) ∈ zT := List.mem_filter.mpr ⟨List.mem_of_getElem? (i := 488) (by decide +kernel), by decide +kernel⟩
theorem zm472 : (Jvm.Cond.static ({ cls := "SluiceStreamLaw", name := "isSender", desc := "(LSluiceStream;)Z" } : Jvm.MethodName)) ∈ zT := List.mem_filter.mpr ⟨List.mem_of_getElem? (i := 487) (by decide +kernel), by decide +kernel⟩
theorem zm536 : (Jvm.Cond.methodLink "SluiceStreamLaw" (128 : Nat) ({ cls := "SluiceStreamLaw", name := "isReceiver", desc := "(LSluiceStream;)Z" } : Jvm.MethodName)) ∈ zT := List.mem_filter.mpr ⟨List.mem_of_getElem? (i := 551) (by decide +kernel), by decide +kernel⟩
theorem zm538 : (Jvm.Cond.code ({ cls := "SluiceStreamLaw", name := "isReceiver", desc := "(LSluiceStream;)Z" } : Jvm.MethodName) method_3_code (6 : Nat) (Option.some Jvm.ClassFile.FieldType.boolean)) ∈ zT := List.mem_filter.mpr ⟨List.mem_of_getElem? (i := 553) (by decide +kernel), by decide +kernel⟩
theorem zm537 : (Jvm.Cond.static ({ cls := "SluiceStreamLaw", name := "isReceiver", desc := "(LSluiceStream;)Z" } : Jvm.MethodName)) ∈ zT := List.mem_filter.mpr ⟨List.mem_of_getElem? (i := 552) (by decide +kernel), by decide +kernel⟩
theorem zm672 : (Jvm.Cond.constant "SluiceStreamLaw" (131 : Nat) (330017 : Int32)) ∈ zT := List.mem_filter.mpr ⟨List.mem_of_getElem? (i := 687) (by decide +kernel), by decide +kernel⟩
theorem zm435 : (Jvm.Cond.methodLink "SluiceStreamLaw" (148 : Nat) ({ cls := "SluiceStream", name := "loseAck", desc := "(I)I" } : Jvm.MethodName)) ∈ zT := List.mem_filter.mpr ⟨List.mem_of_getElem? (i := 450) (by decide +kernel), by decide +kernel⟩
theorem zm438 : (Jvm.Cond.code ({ cls := "SluiceStream", name := "loseAck", desc := "(I)I" } : Jvm.MethodName) prog_1_method_11_code (3 : Nat) (Option.some Jvm.ClassFile.FieldType.int)) ∈ zT := List.mem_filter.mpr ⟨List.mem_of_getElem? (i := 453) (by decide +kernel), by decide +kernel⟩
theorem zm436 : (Jvm.Cond.instanceMethod ({ cls := "SluiceStream", name := "loseAck", desc := "(I)I" } : Jvm.MethodName)) ∈ zT := List.mem_filter.mpr ⟨List.mem_of_getElem? (i := 451) (by decide +kernel), by decide +kernel⟩
theorem zm437 : (Jvm.Cond.selects "SluiceStream" ({ cls := "SluiceStream", name := "loseAck", desc := "(I)I" } : Jvm.MethodName) ({ cls := "SluiceStream", name := "loseAck", desc := "(I)I" } : Jvm.MethodName)) ∈ zT := List.mem_filter.mpr ⟨List.mem_of_getElem? (i := 452) (by decide +kernel), by decide +kernel⟩
theorem zm424 : (Jvm.Cond.methodLink "SluiceStreamLaw" (145 : Nat) ({ cls := "SluiceStream", name := "lose", desc := "(I)I" } : Jvm.MethodName)) ∈ zT := List.mem_filter.mpr ⟨List.mem_of_getElem? (i := 439) (by decide +kernel), by decide +kernel⟩
theorem zm427 : (Jvm.Cond.code ({ cls := "SluiceStream", name := "lose", desc := "(I)I" } : Jvm.MethodName) prog_1_method_8_code (3 : Nat) (Option.some Jvm.ClassFile.FieldType.int)) ∈ zT := List.mem_filter.mpr ⟨List.mem_of_getElem? (i := 442) (by decide +kernel), by decide +kernel⟩
theorem zm425 : (Jvm.Cond.instanceMethod ({ cls := "SluiceStream", name := "lose", desc := "(I)I" } : Jvm.MethodName)) ∈ zT := List.mem_filter.mpr ⟨List.mem_of_getElem? (i := 440) (by decide +kernel), by decide +kernel⟩
theorem zm426 : (Jvm.Cond.selects "SluiceStream" ({ cls := "SluiceStream", name := "lose", desc := "(I)I" } : Jvm.MethodName) ({ cls := "SluiceStream", name := "lose", desc := "(I)I" } : Jvm.MethodName)) ∈ zT := List.mem_filter.mpr ⟨List.mem_of_getElem? (i := 441) (by decide +kernel), by decide +kernel⟩
theorem zm428 : (Jvm.Cond.methodLink "SluiceStreamLaw" (142 : Nat) ({ cls := "SluiceStream", name := "duplicate", desc := "(I)I" } : Jvm.MethodName)) ∈ zT := List.mem_filter.mpr ⟨List.mem_of_getElem? (i := 443) (by decide +kernel), by decide +kernel⟩
theorem zm431 : (Jvm.Cond.code ({ cls := "SluiceStream", name := "duplicate", desc := "(I)I" } : Jvm.MethodName) prog_1_method_9_code (3 : Nat) (Option.some Jvm.ClassFile.FieldType.int)) ∈ zT := List.mem_filter.mpr ⟨List.mem_of_getElem? (i := 446) (by decide +kernel), by decide +kernel⟩
theorem zm429 : (Jvm.Cond.instanceMethod ({ cls := "SluiceStream", name := "duplicate", desc := "(I)I" } : Jvm.MethodName)) ∈ zT := List.mem_filter.mpr ⟨List.mem_of_getElem? (i := 444) (by decide +kernel), by decide +kernel⟩
theorem zm430 : (Jvm.Cond.selects "SluiceStream" ({ cls := "SluiceStream", name := "duplicate", desc := "(I)I" } : Jvm.MethodName) ({ cls := "SluiceStream", name := "duplicate", desc := "(I)I" } : Jvm.MethodName)) ∈ zT := List.mem_filter.mpr ⟨List.mem_of_getElem? (i := 445) (by decide +kernel), by decide +kernel⟩
theorem zm625 : (Jvm.Cond.methodLink "SluiceStreamLaw" (138 : Nat) ({ cls := "SluiceStreamLaw", name := "isAnswered", desc := "(LSluiceStream;I)Z" } : Jvm.MethodName)) ∈ zT := List.mem_filter.mpr ⟨List.mem_of_getElem? (i := 640) (by decide +kernel), by decide +kernel⟩
theorem zm627 : (Jvm.Cond.code ({ cls := "SluiceStreamLaw", name := "isAnswered", desc := "(LSluiceStream;I)Z" } : Jvm.MethodName) method_5_code (11 : Nat) (Option.some Jvm.ClassFile.FieldType.boolean)) ∈ zT := List.mem_filter.mpr ⟨List.mem_of_getElem? (i := 642) (by decide +kernel), by decide +kernel⟩
theorem zm626 : (Jvm.Cond.static ({ cls := "SluiceStreamLaw", name := "isAnswered", desc := "(LSluiceStream;I)Z" } : Jvm.MethodName)) ∈ zT := List.mem_filter.mpr ⟨List.mem_of_getElem? (i := 641) (by decide +kernel), by decide +kernel⟩
theorem zm581 : (Jvm.Cond.methodLink "SluiceStreamLaw" (135 : Nat) ({ cls := "SluiceStreamLaw", name := "isSent", desc := "(LSluiceStream;)Z" } : Jvm.MethodName)) ∈ zT := List.mem_filter.mpr ⟨List.mem_of_getElem? (i := 596) (by decide +kernel), by decide +kernel⟩
theorem zm583 : (Jvm.Cond.code ({ cls := "SluiceStreamLaw", name := "isSent", desc := "(LSluiceStream;)Z" } : Jvm.MethodName) method_4_code (12 : Nat) (Option.some Jvm.ClassFile.FieldType.boolean)) ∈ zT := List.mem_filter.mpr ⟨List.mem_of_getElem? (i := 598) (by decide +kernel), by decide +kernel⟩
theorem zm582 : (Jvm.Cond.static ({ cls := "SluiceStreamLaw", name := "isSent", desc := "(LSluiceStream;)Z" } : Jvm.MethodName)) ∈ zT := List.mem_filter.mpr ⟨List.mem_of_getElem? (i := 597) (by decide +kernel), by decide +kernel⟩
theorem zm189 : (Jvm.Cond.methodLink "SluiceStreamLaw" (132 : Nat) ({ cls := "SluiceStream", name := "write", desc := "(II)I" } : Jvm.MethodName)) ∈ zT := List.mem_filter.mpr ⟨List.mem_of_getElem? (i := 204) (by decide +kernel), by decide +kernel⟩
theorem zm192 : (Jvm.Cond.code ({ cls := "SluiceStream", name := "write", desc := "(II)I" } : Jvm.MethodName) prog_1_method_2_code (5 : Nat) (Option.some Jvm.ClassFile.FieldType.int)) ∈ zT := List.mem_filter.mpr ⟨List.mem_of_getElem? (i := 207) (by decide +kernel), by decide +kernel⟩
theorem zm190 : (Jvm.Cond.instanceMethod ({ cls := "SluiceStream", name := "write", desc := "(II)I" } : Jvm.MethodName)) ∈ zT := List.mem_filter.mpr ⟨List.mem_of_getElem? (i := 205) (by decide +kernel), by decide +kernel⟩
theorem zm191 : (Jvm.Cond.selects "SluiceStream" ({ cls := "SluiceStream", name := "write", desc := "(II)I" } : Jvm.MethodName) ({ cls := "SluiceStream", name := "write", desc := "(II)I" } : Jvm.MethodName)) ∈ zT := List.mem_filter.mpr ⟨List.mem_of_getElem? (i := 206) (by decide +kernel), by decide +kernel⟩
theorem zm669 : (Jvm.Cond.methodLink "SluiceStreamLaw" (151 : Nat) ({ cls := "SluiceStreamLaw", name := "drains", desc := "(LSluiceStream;II)I" } : Jvm.MethodName)) ∈ zT := List.mem_filter.mpr ⟨List.mem_of_getElem? (i := 684) (by decide +kernel), by decide +kernel⟩
theorem zm671 : (Jvm.Cond.code ({ cls := "SluiceStreamLaw", name := "drains", desc := "(LSluiceStream;II)I" } : Jvm.MethodName) method_6_code (6 : Nat) (Option.some Jvm.ClassFile.FieldType.int)) ∈ zT := List.mem_filter.mpr ⟨List.mem_of_getElem? (i := 686) (by decide +kernel), by decide +kernel⟩
theorem zm670 : (Jvm.Cond.static ({ cls := "SluiceStreamLaw", name := "drains", desc := "(LSluiceStream;II)I" } : Jvm.MethodName)) ∈ zT := List.mem_filter.mpr ⟨List.mem_of_getElem? (i := 685) (by decide +kernel), by decide +kernel⟩
theorem zl_L_122 : zLk "SluiceStreamLaw" 122 ({ cls := "SluiceStreamLaw", name := "isSender", desc := "(LSluiceStream;)Z" } : Jvm.MethodName) method_2_code 7 (some .boolean) 1 := ⟨zm471, zm0, zm473, by decide +kernel⟩
theorem zl_L_128 : zLk "SluiceStreamLaw" 128 ({ cls := "SluiceStreamLaw", name := "isReceiver", desc := "(LSluiceStream;)Z" } : Jvm.MethodName) method_3_code 6 (some .boolean) 1 := ⟨zm536, zm0, zm538, by decide +kernel⟩
theorem zl_L_148 : zLk "SluiceStreamLaw" 148 ({ cls := "SluiceStream", name := "loseAck", desc := "(I)I" } : Jvm.MethodName) prog_1_method_11_code 3 (some .int) 1 := ⟨zm435, zm1, zm438, by decide +kernel⟩
theorem zl_L_145 : zLk "SluiceStreamLaw" 145 ({ cls := "SluiceStream", name := "lose", desc := "(I)I" } : Jvm.MethodName) prog_1_method_8_code 3 (some .int) 1 := ⟨zm424, zm1, zm427, by decide +kernel⟩
theorem zl_L_142 : zLk "SluiceStreamLaw" 142 ({ cls := "SluiceStream", name := "duplicate", desc := "(I)I" } : Jvm.MethodName) prog_1_method_9_code 3 (some .int) 1 := ⟨zm428, zm1, zm431, by decide +kernel⟩
theorem zl_L_138 : zLk "SluiceStreamLaw" 138 ({ cls := "SluiceStreamLaw", name := "isAnswered", desc := "(LSluiceStream;I)Z" } : Jvm.MethodName) method_5_code 11 (some .boolean) 2 := ⟨zm625, zm0, zm627, by decide +kernel⟩
theorem zl_L_135 : zLk "SluiceStreamLaw" 135 ({ cls := "SluiceStreamLaw", name := "isSent", desc := "(LSluiceStream;)Z" } : Jvm.MethodName) method_4_code 12 (some .boolean) 1 := ⟨zm581, zm0, zm583, by decide +kernel⟩
theorem zl_L_132 : zLk "SluiceStreamLaw" 132 ({ cls := "SluiceStream", name := "write", desc := "(II)I" } : Jvm.MethodName) prog_1_method_2_code 5 (some .int) 2 := ⟨zm189, zm1, zm192, by decide +kernel⟩
theorem zl_L_151 : zLk "SluiceStreamLaw" 151 ({ cls := "SluiceStreamLaw", name := "drains", desc := "(LSluiceStream;II)I" } : Jvm.MethodName) method_6_code 6 (some .int) 3 := ⟨zm669, zm0, zm671, by decide +kernel⟩
theorem zd_L_law_8 : decode code 8 = .ok (.aload_n 0, 1) := by decide +kernel
theorem zd_L_law_9 : decode code 9 = .ok (.arraylength, 1) := by decide +kernel
theorem zd_L_law_10 : decode code 10 = .ok (.ifCond .le 13, 3) := by decide +kernel
theorem zd_L_law_23 : decode code 23 = .ok (.bipush 77, 2) := by decide +kernel
theorem zd_L_law_25 : decode code 25 = .ok (.istore_n 2, 1) := by decide +kernel
theorem zd_L_law_13 : decode code 13 = .ok (.aload_n 0, 1) := by decide +kernel
theorem zd_L_law_14 : decode code 14 = .ok (.iconst 0, 1) := by decide +kernel
theorem zd_L_law_15 : decode code 15 = .ok (.iaload, 1) := by decide +kernel
theorem zd_L_law_16 : decode code 16 = .ok (.sipush 255, 3) := by decide +kernel
theorem zd_L_law_19 : decode code 19 = .ok (.iand, 1) := by decide +kernel
theorem zd_L_law_20 : decode code 20 = .ok (.goto 5, 3) := by decide +kernel
theorem zd_L_law_28 : decode code 28 = .ok (.aload_n 1, 1) := by decide +kernel
theorem zd_L_law_29 : decode code 29 = .ok (.invokestatic 122, 3) := by decide +kernel
theorem zd_L_law_32 : decode code 32 = .ok (.ifCond .eq 14, 3) := by decide +kernel
theorem zd_L_law_46 : decode code 46 = .ok (.iconst 0, 1) := by decide +kernel
theorem zd_L_law_47 : decode code 47 = .ok (.istore 4, 2) := by decide +kernel
theorem zd_L_law_35 : decode code 35 = .ok (.aload_n 1, 1) := by decide +kernel
theorem zd_L_law_36 : decode code 36 = .ok (.invokestatic 128, 3) := by decide +kernel
theorem zd_L_law_39 : decode code 39 = .ok (.ifCond .eq 7, 3) := by decide +kernel
theorem zd_L_law_42 : decode code 42 = .ok (.iconst 1, 1) := by decide +kernel
theorem zd_L_law_43 : decode code 43 = .ok (.goto 4, 3) := by decide +kernel
theorem zd_L_law_49 : decode code 49 = .ok (.aload_n 0, 1) := by decide +kernel
theorem zd_L_law_50 : decode code 50 = .ok (.arraylength, 1) := by decide +kernel
theorem zd_L_law_51 : decode code 51 = .ok (.bipush 30, 2) := by decide +kernel
theorem zd_L_law_53 : decode code 53 = .ok (.if_icmp .ge 8, 3) := by decide +kernel
theorem zd_L_law_61 : decode code 61 = .ok (.aload_n 0, 1) := by decide +kernel
theorem zd_L_law_62 : decode code 62 = .ok (.arraylength, 1) := by decide +kernel
theorem zd_L_law_63 : decode code 63 = .ok (.bipush 80, 2) := by decide +kernel
theorem zd_L_law_65 : decode code 65 = .ok (.if_icmp .ge 10, 3) := by decide +kernel
theorem zd_L_law_75 : decode code 75 = .ok (.sipush 320, 3) := by decide +kernel
theorem zd_L_law_78 : decode code 78 = .ok (.istore 5, 2) := by decide +kernel
theorem zd_L_law_68 : decode code 68 = .ok (.iconst 4, 1) := by decide +kernel
theorem zd_L_law_69 : decode code 69 = .ok (.aload_n 0, 1) := by decide +kernel
theorem zd_L_law_70 : decode code 70 = .ok (.arraylength, 1) := by decide +kernel
theorem zd_L_law_71 : decode code 71 = .ok (.imul, 1) := by decide +kernel
theorem zd_L_law_72 : decode code 72 = .ok (.goto 6, 3) := by decide +kernel
theorem zd_L_law_56 : decode code 56 = .ok (.bipush 120, 2) := by decide +kernel
theorem zd_L_law_58 : decode code 58 = .ok (.goto 20, 3) := by decide +kernel
theorem zd_L_law_95 : decode code 95 = .ok (.iload 6, 2) := by decide +kernel
theorem zd_L_law_97 : decode code 97 = .ok (.aload_n 0, 1) := by decide +kernel
theorem zd_L_law_98 : decode code 98 = .ok (.arraylength, 1) := by decide +kernel
theorem zd_L_law_99 : decode code 99 = .ok (.if_icmp .ge 10, 3) := by decide +kernel
theorem zd_L_law_109 : decode code 109 = .ok (.ldc 131, 2) := by decide +kernel
theorem zd_L_law_111 : decode code 111 = .ok (.iload 6, 2) := by decide +kernel
theorem zd_L_law_113 : decode code 113 = .ok (.imul, 1) := by decide +kernel
theorem zd_L_law_114 : decode code 114 = .ok (.iload 6, 2) := by decide +kernel
theorem zd_L_law_116 : decode code 116 = .ok (.imul, 1) := by decide +kernel
theorem zd_L_law_117 : decode code 117 = .ok (.sipush 11003, 3) := by decide +kernel
theorem zd_L_law_120 : decode code 120 = .ok (.iload 6, 2) := by decide +kernel
theorem zd_L_law_122 : decode code 122 = .ok (.imul, 1) := by decide +kernel
theorem zd_L_law_123 : decode code 123 = .ok (.iadd, 1) := by decide +kernel
theorem zd_L_law_124 : decode code 124 = .ok (.bipush 21, 2) := by decide +kernel
theorem zd_L_law_126 : decode code 126 = .ok (.iadd, 1) := by decide +kernel
theorem zd_L_law_127 : decode code 127 = .ok (.istore 7, 2) := by decide +kernel
theorem zd_L_law_102 : decode code 102 = .ok (.aload_n 0, 1) := by decide +kernel
theorem zd_L_law_103 : decode code 103 = .ok (.iload 6, 2) := by decide +kernel
theorem zd_L_law_105 : decode code 105 = .ok (.iaload, 1) := by decide +kernel
theorem zd_L_law_106 : decode code 106 = .ok (.goto 21, 3) := by decide +kernel
theorem zd_L_law_135 : decode code 135 = .ok (.iload 6, 2) := by decide +kernel
theorem zd_L_law_137 : decode code 137 = .ok (.ifCond .ne 7, 3) := by decide +kernel
theorem zd_L_law_144 : decode code 144 = .ok (.iload 7, 2) := by decide +kernel
theorem zd_L_law_146 : decode code 146 = .ok (.bipush 15, 2) := by decide +kernel
theorem zd_L_law_148 : decode code 148 = .ok (.iand, 1) := by decide +kernel
theorem zd_L_law_149 : decode code 149 = .ok (.istore 9, 2) := by decide +kernel
theorem zd_L_law_140 : decode code 140 = .ok (.iconst 0, 1) := by decide +kernel
theorem zd_L_law_141 : decode code 141 = .ok (.goto 8, 3) := by decide +kernel
theorem zd_L_law_157 : decode code 157 = .ok (.iload 10, 2) := by decide +kernel
theorem zd_L_law_159 : decode code 159 = .ok (.ifCond .ne 7, 3) := by decide +kernel
theorem zd_L_law_166 : decode code 166 = .ok (.iload 8, 2) := by decide +kernel
theorem zd_L_law_168 : decode code 168 = .ok (.iconst 1, 1) := by decide +kernel
theorem zd_L_law_169 : decode code 169 = .ok (.iand, 1) := by decide +kernel
theorem zd_L_law_170 : decode code 170 = .ok (.ifCond .ne 7, 3) := by decide +kernel
theorem zd_L_law_177 : decode code 177 = .ok (.iload 8, 2) := by decide +kernel
theorem zd_L_law_179 : decode code 179 = .ok (.iconst 1, 1) := by decide +kernel
theorem zd_L_law_180 : decode code 180 = .ok (.ishr, 1) := by decide +kernel
theorem zd_L_law_181 : decode code 181 = .ok (.sipush 255, 3) := by decide +kernel
theorem zd_L_law_184 : decode code 184 = .ok (.iand, 1) := by decide +kernel
theorem zd_L_law_185 : decode code 185 = .ok (.iload 10, 2) := by decide +kernel
theorem zd_L_law_187 : decode code 187 = .ok (.irem, 1) := by decide +kernel
theorem zd_L_law_188 : decode code 188 = .ok (.istore 11, 2) := by decide +kernel
theorem zd_L_law_173 : decode code 173 = .ok (.iconst 0, 1) := by decide +kernel
theorem zd_L_law_174 : decode code 174 = .ok (.goto 14, 3) := by decide +kernel
theorem zd_L_law_162 : decode code 162 = .ok (.iconst (-1), 1) := by decide +kernel
theorem zd_L_law_163 : decode code 163 = .ok (.goto 25, 3) := by decide +kernel
theorem zd_L_law_190 : decode code 190 = .ok (.aload_n 1, 1) := by decide +kernel
theorem zd_L_law_191 : decode code 191 = .ok (.invokevirtual 81, 3) := by decide +kernel
theorem zd_L_law_194 : decode code 194 = .ok (.ifCond .ne 7, 3) := by decide +kernel
theorem zd_L_law_201 : decode code 201 = .ok (.iload 8, 2) := by decide +kernel
theorem zd_L_law_203 : decode code 203 = .ok (.iconst 1, 1) := by decide +kernel
theorem zd_L_law_204 : decode code 204 = .ok (.iand, 1) := by decide +kernel
theorem zd_L_law_205 : decode code 205 = .ok (.ifCond .ne 7, 3) := by decide +kernel
theorem zd_L_law_212 : decode code 212 = .ok (.iload 8, 2) := by decide +kernel
theorem zd_L_law_214 : decode code 214 = .ok (.iconst 1, 1) := by decide +kernel
theorem zd_L_law_215 : decode code 215 = .ok (.ishr, 1) := by decide +kernel
theorem zd_L_law_216 : decode code 216 = .ok (.sipush 255, 3) := by decide +kernel
theorem zd_L_law_219 : decode code 219 = .ok (.iand, 1) := by decide +kernel
theorem zd_L_law_220 : decode code 220 = .ok (.aload_n 1, 1) := by decide +kernel
theorem zd_L_law_221 : decode code 221 = .ok (.invokevirtual 81, 3) := by decide +kernel
theorem zd_L_law_224 : decode code 224 = .ok (.irem, 1) := by decide +kernel
theorem zd_L_law_225 : decode code 225 = .ok (.istore 12, 2) := by decide +kernel
theorem zd_L_law_208 : decode code 208 = .ok (.iconst 0, 1) := by decide +kernel
theorem zd_L_law_209 : decode code 209 = .ok (.goto 16, 3) := by decide +kernel
theorem zd_L_law_197 : decode code 197 = .ok (.iconst (-1), 1) := by decide +kernel
theorem zd_L_law_198 : decode code 198 = .ok (.goto 27, 3) := by decide +kernel
theorem zd_L_law_600 : decode code 600 = .ok (.iload 13, 2) := by decide +kernel
theorem zd_L_law_602 : decode code 602 = .ok (.iload_n 2, 1) := by decide +kernel
theorem zd_L_law_603 : decode code 603 = .ok (.iload_n 3, 1) := by decide +kernel
theorem zd_L_law_604 : decode code 604 = .ok (.iadd, 1) := by decide +kernel
theorem zd_L_law_605 : decode code 605 = .ok (.sipush 256, 3) := by decide +kernel
theorem zd_L_law_608 : decode code 608 = .ok (.irem, 1) := by decide +kernel
theorem zd_L_law_609 : decode code 609 = .ok (.if_icmp .ne 7, 3) := by decide +kernel
theorem zd_L_law_616 : decode code 616 = .ok (.iconst 0, 1) := by decide +kernel
theorem zd_L_law_617 : decode code 617 = .ok (.istore 4, 2) := by decide +kernel
theorem zd_L_law_612 : decode code 612 = .ok (.iconst 1, 1) := by decide +kernel
theorem zd_L_law_613 : decode code 613 = .ok (.goto 4, 3) := by decide +kernel
theorem zd_L_law_622 : decode code 622 = .ok (.iload 8, 2) := by decide +kernel
theorem zd_L_law_624 : decode code 624 = .ok (.iconst 2, 1) := by decide +kernel
theorem zd_L_law_625 : decode code 625 = .ok (.iand, 1) := by decide +kernel
theorem zd_L_law_626 : decode code 626 = .ok (.ifCond .eq 9, 3) := by decide +kernel
theorem zd_L_law_635 : decode code 635 = .ok (.aload_n 1, 1) := by decide +kernel
theorem zd_L_law_636 : decode code 636 = .ok (.invokevirtual 115, 3) := by decide +kernel
theorem zd_L_law_639 : decode code 639 = .ok (.goto 4, 3) := by decide +kernel
theorem zd_L_law_643 : decode code 643 = .ok (.istore 13, 2) := by decide +kernel
theorem zd_L_law_629 : decode code 629 = .ok (.iload_n 3, 1) := by decide +kernel
theorem zd_L_law_630 : decode code 630 = .ok (.iconst 5, 1) := by decide +kernel
theorem zd_L_law_631 : decode code 631 = .ok (.irem, 1) := by decide +kernel
theorem zd_L_law_632 : decode code 632 = .ok (.ifCond .le 10, 3) := by decide +kernel
theorem zd_L_law_642 : decode code 642 = .ok (.iconst (-1), 1) := by decide +kernel
theorem zd_L_law_590 : decode code 590 = .ok (.iload 13, 2) := by decide +kernel
theorem zd_L_law_592 : decode code 592 = .ok (.ifCond .lt 56, 3) := by decide +kernel
theorem zd_L_law_595 : decode code 595 = .ok (.iload 4, 2) := by decide +kernel
theorem zd_L_law_597 : decode code 597 = .ok (.ifCond .eq 51, 3) := by decide +kernel
theorem zd_L_law_619 : decode code 619 = .ok (.iinc 3 1, 3) := by decide +kernel
theorem zd_L_law_645 : decode code 645 = .ok (.goto (-55), 3) := by decide +kernel
theorem zd_L_law_577 : decode code 577 = .ok (.iload 9, 2) := by decide +kernel
theorem zd_L_law_579 : decode code 579 = .ok (.bipush 15, 2) := by decide +kernel
theorem zd_L_law_581 : decode code 581 = .ok (.if_icmp .ge 90, 3) := by decide +kernel
theorem zd_L_law_671 : decode code 671 = .ok (.aload_n 1, 1) := by decide +kernel
theorem zd_L_law_672 : decode code 672 = .ok (.invokevirtual 65, 3) := by decide +kernel
theorem zd_L_law_675 : decode code 675 = .ok (.istore 13, 2) := by decide +kernel
theorem zd_L_law_677 : decode code 677 = .ok (.iconst 1, 1) := by decide +kernel
theorem zd_L_law_678 : decode code 678 = .ok (.iload 8, 2) := by decide +kernel
theorem zd_L_law_680 : decode code 680 = .ok (.iconst 1, 1) := by decide +kernel
theorem zd_L_law_681 : decode code 681 = .ok (.ishr, 1) := by decide +kernel
theorem zd_L_law_682 : decode code 682 = .ok (.bipush 15, 2) := by decide +kernel
theorem zd_L_law_684 : decode code 684 = .ok (.iand, 1) := by decide +kernel
theorem zd_L_law_685 : decode code 685 = .ok (.iadd, 1) := by decide +kernel
theorem zd_L_law_686 : decode code 686 = .ok (.istore 14, 2) := by decide +kernel
theorem zd_L_law_688 : decode code 688 = .ok (.aload_n 1, 1) := by decide +kernel
theorem zd_L_law_689 : decode code 689 = .ok (.iload 14, 2) := by decide +kernel
theorem zd_L_law_691 : decode code 691 = .ok (.invokevirtual 118, 3) := by decide +kernel
theorem zd_L_law_694 : decode code 694 = .ok (.istore 15, 2) := by decide +kernel
theorem zd_L_law_696 : decode code 696 = .ok (.aload_n 1, 1) := by decide +kernel
theorem zd_L_law_697 : decode code 697 = .ok (.invokevirtual 65, 3) := by decide +kernel
theorem zd_L_law_700 : decode code 700 = .ok (.iload 13, 2) := by decide +kernel
theorem zd_L_law_702 : decode code 702 = .ok (.iload 14, 2) := by decide +kernel
theorem zd_L_law_704 : decode code 704 = .ok (.iadd, 1) := by decide +kernel
theorem zd_L_law_705 : decode code 705 = .ok (.if_icmp .ne 18, 3) := by decide +kernel
theorem zd_L_law_723 : decode code 723 = .ok (.iconst 0, 1) := by decide +kernel
theorem zd_L_law_724 : decode code 724 = .ok (.istore 4, 2) := by decide +kernel
theorem zd_L_law_708 : decode code 708 = .ok (.iload 15, 2) := by decide +kernel
theorem zd_L_law_710 : decode code 710 = .ok (.ifCond .lt 13, 3) := by decide +kernel
theorem zd_L_law_713 : decode code 713 = .ok (.iload 15, 2) := by decide +kernel
theorem zd_L_law_715 : decode code 715 = .ok (.iconst 1, 1) := by decide +kernel
theorem zd_L_law_716 : decode code 716 = .ok (.if_icmp .gt 7, 3) := by decide +kernel
theorem zd_L_law_719 : decode code 719 = .ok (.iconst 1, 1) := by decide +kernel
theorem zd_L_law_720 : decode code 720 = .ok (.goto 4, 3) := by decide +kernel
theorem zd_L_law_584 : decode code 584 = .ok (.aload_n 1, 1) := by decide +kernel
theorem zd_L_law_585 : decode code 585 = .ok (.invokevirtual 115, 3) := by decide +kernel
theorem zd_L_law_588 : decode code 588 = .ok (.istore 13, 2) := by decide +kernel
theorem zd_L_law_648 : decode code 648 = .ok (.iload 4, 2) := by decide +kernel
theorem zd_L_law_650 : decode code 650 = .ok (.ifCond .eq 15, 3) := by decide +kernel
theorem zd_L_law_665 : decode code 665 = .ok (.iconst 0, 1) := by decide +kernel
theorem zd_L_law_666 : decode code 666 = .ok (.istore 4, 2) := by decide +kernel
theorem zd_L_law_668 : decode code 668 = .ok (.goto 58, 3) := by decide +kernel
theorem zd_L_law_653 : decode code 653 = .ok (.aload_n 1, 1) := by decide +kernel
theorem zd_L_law_654 : decode code 654 = .ok (.invokevirtual 28, 3) := by decide +kernel
theorem zd_L_law_657 : decode code 657 = .ok (.iload_n 3, 1) := by decide +kernel
theorem zd_L_law_658 : decode code 658 = .ok (.if_icmp .ne 7, 3) := by decide +kernel
theorem zd_L_law_661 : decode code 661 = .ok (.iconst 1, 1) := by decide +kernel
theorem zd_L_law_662 : decode code 662 = .ok (.goto 4, 3) := by decide +kernel
theorem zd_L_law_546 : decode code 546 = .ok (.iload 9, 2) := by decide +kernel
theorem zd_L_law_548 : decode code 548 = .ok (.bipush 12, 2) := by decide +kernel
theorem zd_L_law_550 : decode code 550 = .ok (.if_icmp .ne 27, 3) := by decide +kernel
theorem zd_L_law_553 : decode code 553 = .ok (.iload 12, 2) := by decide +kernel
theorem zd_L_law_555 : decode code 555 = .ok (.ifCond .lt 22, 3) := by decide +kernel
theorem zd_L_law_558 : decode code 558 = .ok (.aload_n 1, 1) := by decide +kernel
theorem zd_L_law_559 : decode code 559 = .ok (.iload 12, 2) := by decide +kernel
theorem zd_L_law_561 : decode code 561 = .ok (.invokevirtual 148, 3) := by decide +kernel
theorem zd_L_law_564 : decode code 564 = .ok (.ifCond .lt 7, 3) := by decide +kernel
theorem zd_L_law_571 : decode code 571 = .ok (.iconst 0, 1) := by decide +kernel
theorem zd_L_law_572 : decode code 572 = .ok (.istore 4, 2) := by decide +kernel
theorem zd_L_law_574 : decode code 574 = .ok (.goto 152, 3) := by decide +kernel
theorem zd_L_law_567 : decode code 567 = .ok (.iconst 1, 1) := by decide +kernel
theorem zd_L_law_568 : decode code 568 = .ok (.goto 4, 3) := by decide +kernel
theorem zd_L_law_504 : decode code 504 = .ok (.iload 9, 2) := by decide +kernel
theorem zd_L_law_506 : decode code 506 = .ok (.bipush 11, 2) := by decide +kernel
theorem zd_L_law_508 : decode code 508 = .ok (.if_icmp .ne 38, 3) := by decide +kernel
theorem zd_L_law_511 : decode code 511 = .ok (.iload 11, 2) := by decide +kernel
theorem zd_L_law_513 : decode code 513 = .ok (.ifCond .lt 33, 3) := by decide +kernel
theorem zd_L_law_516 : decode code 516 = .ok (.aload_n 1, 1) := by decide +kernel
theorem zd_L_law_517 : decode code 517 = .ok (.iload 11, 2) := by decide +kernel
theorem zd_L_law_519 : decode code 519 = .ok (.invokevirtual 145, 3) := by decide +kernel
theorem zd_L_law_522 : decode code 522 = .ok (.ifCond .lt 18, 3) := by decide +kernel
theorem zd_L_law_540 : decode code 540 = .ok (.iconst 0, 1) := by decide +kernel
theorem zd_L_law_541 : decode code 541 = .ok (.istore 4, 2) := by decide +kernel
theorem zd_L_law_543 : decode code 543 = .ok (.goto 183, 3) := by decide +kernel
theorem zd_L_law_525 : decode code 525 = .ok (.aload_n 1, 1) := by decide +kernel
theorem zd_L_law_526 : decode code 526 = .ok (.invokevirtual 97, 3) := by decide +kernel
theorem zd_L_law_529 : decode code 529 = .ok (.iload 10, 2) := by decide +kernel
theorem zd_L_law_531 : decode code 531 = .ok (.iconst 1, 1) := by decide +kernel
theorem zd_L_law_532 : decode code 532 = .ok (.isub, 1) := by decide +kernel
theorem zd_L_law_533 : decode code 533 = .ok (.if_icmp .ne 7, 3) := by decide +kernel
theorem zd_L_law_536 : decode code 536 = .ok (.iconst 1, 1) := by decide +kernel
theorem zd_L_law_537 : decode code 537 = .ok (.goto 4, 3) := by decide +kernel
theorem zd_L_law_462 : decode code 462 = .ok (.iload 9, 2) := by decide +kernel
theorem zd_L_law_464 : decode code 464 = .ok (.bipush 10, 2) := by decide +kernel
theorem zd_L_law_466 : decode code 466 = .ok (.if_icmp .ne 38, 3) := by decide +kernel
theorem zd_L_law_469 : decode code 469 = .ok (.iload 11, 2) := by decide +kernel
theorem zd_L_law_471 : decode code 471 = .ok (.ifCond .lt 33, 3) := by decide +kernel
theorem zd_L_law_474 : decode code 474 = .ok (.iload 10, 2) := by decide +kernel
theorem zd_L_law_476 : decode code 476 = .ok (.bipush 40, 2) := by decide +kernel
theorem zd_L_law_478 : decode code 478 = .ok (.if_icmp .eq 16, 3) := by decide +kernel
theorem zd_L_law_494 : decode code 494 = .ok (.iconst 1, 1) := by decide +kernel
theorem zd_L_law_495 : decode code 495 = .ok (.goto 4, 3) := by decide +kernel
theorem zd_L_law_499 : decode code 499 = .ok (.istore 4, 2) := by decide +kernel
theorem zd_L_law_501 : decode code 501 = .ok (.goto 225, 3) := by decide +kernel
theorem zd_L_law_481 : decode code 481 = .ok (.aload_n 1, 1) := by decide +kernel
theorem zd_L_law_482 : decode code 482 = .ok (.iload 11, 2) := by decide +kernel
theorem zd_L_law_484 : decode code 484 = .ok (.invokevirtual 142, 3) := by decide +kernel
theorem zd_L_law_487 : decode code 487 = .ok (.iload 10, 2) := by decide +kernel
theorem zd_L_law_489 : decode code 489 = .ok (.iconst 1, 1) := by decide +kernel
theorem zd_L_law_490 : decode code 490 = .ok (.iadd, 1) := by decide +kernel
theorem zd_L_law_491 : decode code 491 = .ok (.if_icmp .ne 7, 3) := by decide +kernel
theorem zd_L_law_498 : decode code 498 = .ok (.iconst 0, 1) := by decide +kernel
theorem zd_L_law_439 : decode code 439 = .ok (.iload 9, 2) := by decide +kernel
theorem zd_L_law_441 : decode code 441 = .ok (.bipush 10, 2) := by decide +kernel
theorem zd_L_law_443 : decode code 443 = .ok (.if_icmp .ge 19, 3) := by decide +kernel
theorem zd_L_law_446 : decode code 446 = .ok (.iload 12, 2) := by decide +kernel
theorem zd_L_law_448 : decode code 448 = .ok (.ifCond .lt 14, 3) := by decide +kernel
theorem zd_L_law_451 : decode code 451 = .ok (.aload_n 1, 1) := by decide +kernel
theorem zd_L_law_452 : decode code 452 = .ok (.iload 12, 2) := by decide +kernel
theorem zd_L_law_454 : decode code 454 = .ok (.invokestatic 138, 3) := by decide +kernel
theorem zd_L_law_457 : decode code 457 = .ok (.istore 4, 2) := by decide +kernel
theorem zd_L_law_459 : decode code 459 = .ok (.goto 267, 3) := by decide +kernel
theorem zd_L_law_317 : decode code 317 = .ok (.iload 9, 2) := by decide +kernel
theorem zd_L_law_319 : decode code 319 = .ok (.bipush 8, 2) := by decide +kernel
theorem zd_L_law_321 : decode code 321 = .ok (.if_icmp .ge 118, 3) := by decide +kernel
theorem zd_L_law_324 : decode code 324 = .ok (.iload 11, 2) := by decide +kernel
theorem zd_L_law_326 : decode code 326 = .ok (.ifCond .lt 113, 3) := by decide +kernel
theorem zd_L_law_329 : decode code 329 = .ok (.aload_n 1, 1) := by decide +kernel
theorem zd_L_law_330 : decode code 330 = .ok (.invokevirtual 16, 3) := by decide +kernel
theorem zd_L_law_333 : decode code 333 = .ok (.istore 13, 2) := by decide +kernel
theorem zd_L_law_335 : decode code 335 = .ok (.aload_n 1, 1) := by decide +kernel
theorem zd_L_law_336 : decode code 336 = .ok (.iload 11, 2) := by decide +kernel
theorem zd_L_law_338 : decode code 338 = .ok (.invokevirtual 103, 3) := by decide +kernel
theorem zd_L_law_341 : decode code 341 = .ok (.istore 14, 2) := by decide +kernel
theorem zd_L_law_343 : decode code 343 = .ok (.aload_n 1, 1) := by decide +kernel
theorem zd_L_law_344 : decode code 344 = .ok (.invokevirtual 81, 3) := by decide +kernel
theorem zd_L_law_347 : decode code 347 = .ok (.istore 15, 2) := by decide +kernel
theorem zd_L_law_349 : decode code 349 = .ok (.aload_n 1, 1) := by decide +kernel
theorem zd_L_law_350 : decode code 350 = .ok (.iload 11, 2) := by decide +kernel
theorem zd_L_law_352 : decode code 352 = .ok (.invokevirtual 112, 3) := by decide +kernel
theorem zd_L_law_355 : decode code 355 = .ok (.istore 16, 2) := by decide +kernel
theorem zd_L_law_357 : decode code 357 = .ok (.iload 16, 2) := by decide +kernel
theorem zd_L_law_359 : decode code 359 = .ok (.ifCond .lt 74, 3) := by decide +kernel
theorem zd_L_law_433 : decode code 433 = .ok (.iconst 0, 1) := by decide +kernel
theorem zd_L_law_434 : decode code 434 = .ok (.istore 4, 2) := by decide +kernel
theorem zd_L_law_436 : decode code 436 = .ok (.goto 290, 3) := by decide +kernel
theorem zd_L_law_362 : decode code 362 = .ok (.iload 16, 2) := by decide +kernel
theorem zd_L_law_364 : decode code 364 = .ok (.iconst 4, 1) := by decide +kernel
theorem zd_L_law_365 : decode code 365 = .ok (.if_icmp .gt 68, 3) := by decide +kernel
theorem zd_L_law_368 : decode code 368 = .ok (.aload_n 1, 1) := by decide +kernel
theorem zd_L_law_369 : decode code 369 = .ok (.invokevirtual 16, 3) := by decide +kernel
theorem zd_L_law_372 : decode code 372 = .ok (.iload 13, 2) := by decide +kernel
theorem zd_L_law_374 : decode code 374 = .ok (.if_icmp .lt 59, 3) := by decide +kernel
theorem zd_L_law_377 : decode code 377 = .ok (.aload_n 1, 1) := by decide +kernel
theorem zd_L_law_378 : decode code 378 = .ok (.invokevirtual 81, 3) := by decide +kernel
theorem zd_L_law_381 : decode code 381 = .ok (.iload 15, 2) := by decide +kernel
theorem zd_L_law_383 : decode code 383 = .ok (.bipush 40, 2) := by decide +kernel
theorem zd_L_law_385 : decode code 385 = .ok (.if_icmp .ne 8, 3) := by decide +kernel
theorem zd_L_law_393 : decode code 393 = .ok (.iload 15, 2) := by decide +kernel
theorem zd_L_law_395 : decode code 395 = .ok (.iconst 1, 1) := by decide +kernel
theorem zd_L_law_396 : decode code 396 = .ok (.iadd, 1) := by decide +kernel
theorem zd_L_law_397 : decode code 397 = .ok (.if_icmp .ne 36, 3) := by decide +kernel
theorem zd_L_law_400 : decode code 400 = .ok (.aload_n 1, 1) := by decide +kernel
theorem zd_L_law_401 : decode code 401 = .ok (.aload_n 1, 1) := by decide +kernel
theorem zd_L_law_402 : decode code 402 = .ok (.invokevirtual 81, 3) := by decide +kernel
theorem zd_L_law_405 : decode code 405 = .ok (.iconst 1, 1) := by decide +kernel
theorem zd_L_law_406 : decode code 406 = .ok (.isub, 1) := by decide +kernel
theorem zd_L_law_407 : decode code 407 = .ok (.invokevirtual 84, 3) := by decide +kernel
theorem zd_L_law_410 : decode code 410 = .ok (.aload_n 1, 1) := by decide +kernel
theorem zd_L_law_411 : decode code 411 = .ok (.invokevirtual 16, 3) := by decide +kernel
theorem zd_L_law_414 : decode code 414 = .ok (.if_icmp .ne 19, 3) := by decide +kernel
theorem zd_L_law_417 : decode code 417 = .ok (.iload 14, 2) := by decide +kernel
theorem zd_L_law_419 : decode code 419 = .ok (.iload 13, 2) := by decide +kernel
theorem zd_L_law_421 : decode code 421 = .ok (.if_icmp .gt 8, 3) := by decide +kernel
theorem zd_L_law_429 : decode code 429 = .ok (.iconst 1, 1) := by decide +kernel
theorem zd_L_law_430 : decode code 430 = .ok (.goto 4, 3) := by decide +kernel
theorem zd_L_law_424 : decode code 424 = .ok (.iload 16, 2) := by decide +kernel
theorem zd_L_law_426 : decode code 426 = .ok (.ifCond .ne 7, 3) := by decide +kernel
theorem zd_L_law_388 : decode code 388 = .ok (.bipush 40, 2) := by decide +kernel
theorem zd_L_law_390 : decode code 390 = .ok (.goto 7, 3) := by decide +kernel
theorem zd_L_law_295 : decode code 295 = .ok (.iload 9, 2) := by decide +kernel
theorem zd_L_law_297 : decode code 297 = .ok (.iconst 5, 1) := by decide +kernel
theorem zd_L_law_298 : decode code 298 = .ok (.if_icmp .ge 19, 3) := by decide +kernel
theorem zd_L_law_301 : decode code 301 = .ok (.iload 10, 2) := by decide +kernel
theorem zd_L_law_303 : decode code 303 = .ok (.bipush 40, 2) := by decide +kernel
theorem zd_L_law_305 : decode code 305 = .ok (.if_icmp .ge 12, 3) := by decide +kernel
theorem zd_L_law_308 : decode code 308 = .ok (.aload_n 1, 1) := by decide +kernel
theorem zd_L_law_309 : decode code 309 = .ok (.invokestatic 135, 3) := by decide +kernel
theorem zd_L_law_312 : decode code 312 = .ok (.istore 4, 2) := by decide +kernel
theorem zd_L_law_314 : decode code 314 = .ok (.goto 412, 3) := by decide +kernel
theorem zd_L_law_227 : decode code 227 = .ok (.iload 9, 2) := by decide +kernel
theorem zd_L_law_229 : decode code 229 = .ok (.ifCond .ne 66, 3) := by decide +kernel
theorem zd_L_law_232 : decode code 232 = .ok (.aload_n 1, 1) := by decide +kernel
theorem zd_L_law_233 : decode code 233 = .ok (.invokevirtual 19, 3) := by decide +kernel
theorem zd_L_law_236 : decode code 236 = .ok (.sipush 200, 3) := by decide +kernel
theorem zd_L_law_239 : decode code 239 = .ok (.if_icmp .gt 56, 3) := by decide +kernel
theorem zd_L_law_242 : decode code 242 = .ok (.iconst 1, 1) := by decide +kernel
theorem zd_L_law_243 : decode code 243 = .ok (.iload 8, 2) := by decide +kernel
theorem zd_L_law_245 : decode code 245 = .ok (.iconst 1, 1) := by decide +kernel
theorem zd_L_law_246 : decode code 246 = .ok (.ishr, 1) := by decide +kernel
theorem zd_L_law_247 : decode code 247 = .ok (.sipush 255, 3) := by decide +kernel
theorem zd_L_law_250 : decode code 250 = .ok (.iand, 1) := by decide +kernel
theorem zd_L_law_251 : decode code 251 = .ok (.bipush 100, 2) := by decide +kernel
theorem zd_L_law_253 : decode code 253 = .ok (.irem, 1) := by decide +kernel
theorem zd_L_law_254 : decode code 254 = .ok (.iadd, 1) := by decide +kernel
theorem zd_L_law_255 : decode code 255 = .ok (.istore 13, 2) := by decide +kernel
theorem zd_L_law_257 : decode code 257 = .ok (.aload_n 1, 1) := by decide +kernel
theorem zd_L_law_258 : decode code 258 = .ok (.invokevirtual 19, 3) := by decide +kernel
theorem zd_L_law_261 : decode code 261 = .ok (.istore 14, 2) := by decide +kernel
theorem zd_L_law_263 : decode code 263 = .ok (.aload_n 1, 1) := by decide +kernel
theorem zd_L_law_264 : decode code 264 = .ok (.iload_n 2, 1) := by decide +kernel
theorem zd_L_law_265 : decode code 265 = .ok (.iload 14, 2) := by decide +kernel
theorem zd_L_law_267 : decode code 267 = .ok (.iadd, 1) := by decide +kernel
theorem zd_L_law_268 : decode code 268 = .ok (.sipush 256, 3) := by decide +kernel
theorem zd_L_law_271 : decode code 271 = .ok (.irem, 1) := by decide +kernel
theorem zd_L_law_272 : decode code 272 = .ok (.iload 13, 2) := by decide +kernel
theorem zd_L_law_274 : decode code 274 = .ok (.invokevirtual 132, 3) := by decide +kernel
theorem zd_L_law_277 : decode code 277 = .ok (.iload 14, 2) := by decide +kernel
theorem zd_L_law_279 : decode code 279 = .ok (.iload 13, 2) := by decide +kernel
theorem zd_L_law_281 : decode code 281 = .ok (.iadd, 1) := by decide +kernel
theorem zd_L_law_282 : decode code 282 = .ok (.if_icmp .ne 7, 3) := by decide +kernel
theorem zd_L_law_289 : decode code 289 = .ok (.iconst 0, 1) := by decide +kernel
theorem zd_L_law_290 : decode code 290 = .ok (.istore 4, 2) := by decide +kernel
theorem zd_L_law_292 : decode code 292 = .ok (.goto 434, 3) := by decide +kernel
theorem zd_L_law_285 : decode code 285 = .ok (.iconst 1, 1) := by decide +kernel
theorem zd_L_law_286 : decode code 286 = .ok (.goto 4, 3) := by decide +kernel
theorem zd_L_law_726 : decode code 726 = .ok (.iload 4, 2) := by decide +kernel
theorem zd_L_law_728 : decode code 728 = .ok (.ifCond .eq 21, 3) := by decide +kernel
theorem zd_L_law_749 : decode code 749 = .ok (.iconst 0, 1) := by decide +kernel
theorem zd_L_law_750 : decode code 750 = .ok (.istore 4, 2) := by decide +kernel
theorem zd_L_law_731 : decode code 731 = .ok (.aload_n 1, 1) := by decide +kernel
theorem zd_L_law_732 : decode code 732 = .ok (.invokestatic 122, 3) := by decide +kernel
theorem zd_L_law_735 : decode code 735 = .ok (.ifCond .eq 14, 3) := by decide +kernel
theorem zd_L_law_738 : decode code 738 = .ok (.aload_n 1, 1) := by decide +kernel
theorem zd_L_law_739 : decode code 739 = .ok (.invokestatic 128, 3) := by decide +kernel
theorem zd_L_law_742 : decode code 742 = .ok (.ifCond .eq 7, 3) := by decide +kernel
theorem zd_L_law_745 : decode code 745 = .ok (.iconst 1, 1) := by decide +kernel
theorem zd_L_law_746 : decode code 746 = .ok (.goto 4, 3) := by decide +kernel
theorem zd_L_law_83 : decode code 83 = .ok (.iload 6, 2) := by decide +kernel
theorem zd_L_law_85 : decode code 85 = .ok (.iload 5, 2) := by decide +kernel
theorem zd_L_law_87 : decode code 87 = .ok (.if_icmp .ge 671, 3) := by decide +kernel
theorem zd_L_law_90 : decode code 90 = .ok (.iload 4, 2) := by decide +kernel
theorem zd_L_law_92 : decode code 92 = .ok (.ifCond .eq 666, 3) := by decide +kernel
theorem zd_L_law_129 : decode code 129 = .ok (.iload 7, 2) := by decide +kernel
theorem zd_L_law_131 : decode code 131 = .ok (.iconst 4, 1) := by decide +kernel
theorem zd_L_law_132 : decode code 132 = .ok (.ishr, 1) := by decide +kernel
theorem zd_L_law_133 : decode code 133 = .ok (.istore 8, 2) := by decide +kernel
theorem zd_L_law_151 : decode code 151 = .ok (.aload_n 1, 1) := by decide +kernel
theorem zd_L_law_152 : decode code 152 = .ok (.invokevirtual 97, 3) := by decide +kernel
theorem zd_L_law_155 : decode code 155 = .ok (.istore 10, 2) := by decide +kernel
theorem zd_L_law_752 : decode code 752 = .ok (.iinc 6 1, 3) := by decide +kernel
theorem zd_L_law_755 : decode code 755 = .ok (.goto (-672), 3) := by decide +kernel
theorem zd_L_law_26 : decode code 26 = .ok (.iconst 0, 1) := by decide +kernel
theorem zd_L_law_27 : decode code 27 = .ok (.istore_n 3, 1) := by decide +kernel
theorem zd_L_law_80 : decode code 80 = .ok (.iconst 0, 1) := by decide +kernel
theorem zd_L_law_81 : decode code 81 = .ok (.istore 6, 2) := by decide +kernel
theorem zd_L_law_758 : decode code 758 = .ok (.iload 4, 2) := by decide +kernel
theorem zd_L_law_760 : decode code 760 = .ok (.ifCond .eq 34, 3) := by decide +kernel
theorem zd_L_law_794 : decode code 794 = .ok (.iconst 0, 1) := by decide +kernel
theorem zd_L_law_795 : decode code 795 = .ok (.ireturn, 1) := by decide +kernel
theorem zd_L_law_763 : decode code 763 = .ok (.aload_n 1, 1) := by decide +kernel
theorem zd_L_law_764 : decode code 764 = .ok (.iload_n 2, 1) := by decide +kernel
theorem zd_L_law_765 : decode code 765 = .ok (.iload_n 3, 1) := by decide +kernel
theorem zd_L_law_766 : decode code 766 = .ok (.invokestatic 151, 3) := by decide +kernel
theorem zd_L_law_769 : decode code 769 = .ok (.aload_n 1, 1) := by decide +kernel
theorem zd_L_law_770 : decode code 770 = .ok (.invokevirtual 19, 3) := by decide +kernel
theorem zd_L_law_773 : decode code 773 = .ok (.if_icmp .ne 21, 3) := by decide +kernel
theorem zd_L_law_776 : decode code 776 = .ok (.aload_n 1, 1) := by decide +kernel
theorem zd_L_law_777 : decode code 777 = .ok (.invokestatic 122, 3) := by decide +kernel
theorem zd_L_law_780 : decode code 780 = .ok (.ifCond .eq 14, 3) := by decide +kernel
theorem zd_L_law_783 : decode code 783 = .ok (.aload_n 1, 1) := by decide +kernel
theorem zd_L_law_784 : decode code 784 = .ok (.invokestatic 128, 3) := by decide +kernel
theorem zd_L_law_787 : decode code 787 = .ok (.ifCond .eq 7, 3) := by decide +kernel
theorem zd_L_law_790 : decode code 790 = .ok (.iconst 1, 1) := by decide +kernel
theorem zd_L_law_791 : decode code 791 = .ok (.goto 4, 3) := by decide +kernel
