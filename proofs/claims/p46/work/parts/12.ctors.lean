def zNn (U : State) : Prop := va_Nw (Jvm.Cond.methodLinkNest "SluiceStream" (15 : Nat) ({ cls := "SluiceStream$Sender", name := "<init>", desc := "()V" } : Jvm.MethodName) "SluiceStream") U ∧ va_Nw (Jvm.Cond.methodLinkNest "SluiceStream$Sender" (11 : Nat) ({ cls := "SluiceStream$Positions", name := "<init>", desc := "()V" } : Jvm.MethodName) "SluiceStream") U ∧ va_Nw (Jvm.Cond.methodLinkNest "SluiceStream$Sender" (20 : Nat) ({ cls := "SluiceStream$Timer", name := "<init>", desc := "()V" } : Jvm.MethodName) "SluiceStream") U ∧ va_Nw (Jvm.Cond.methodLinkNest "SluiceStream" (22 : Nat) ({ cls := "SluiceStream$Receiver", name := "<init>", desc := "()V" } : Jvm.MethodName) "SluiceStream") U ∧ va_Nw (Jvm.Cond.methodLinkNest "SluiceStream$Receiver" (11 : Nat) ({ cls := "SluiceStream$Positions", name := "<init>", desc := "()V" } : Jvm.MethodName) "SluiceStream") U
theorem zNn_moved {s U : State} (hW : s.WarmedH U.vm) (h : zNn s) : zNn U := ⟨va_Nw.warmM hW h.1, va_Nw.warmM hW h.2.1, va_Nw.warmM hW h.2.2.1, va_Nw.warmM hW h.2.2.2.1, va_Nw.warmM hW h.2.2.2.2⟩
theorem zNn_calling {U : State} {g : JFrame} {mk : MethodId} {a : Array Value} (h : zNn U) : zNn (U.calling g mk a) := ⟨va_Nw.same rfl (u := U) (U := U.calling g mk a) rfl h.1, va_Nw.same rfl (u := U) (U := U.calling g mk a) rfl h.2.1, va_Nw.same rfl (u := U) (U := U.calling g mk a) rfl h.2.2.1, va_Nw.same rfl (u := U) (U := U.calling g mk a) rfl h.2.2.2.1, va_Nw.same rfl (u := U) (U := U.calling g mk a) rfl h.2.2.2.2⟩
theorem zcblind {as : List Value} {D : va_G} {ws ws2 : va_W} {sz : Nat} : FrameBlind (va_Pc as (fun U => U.heap.size = sz ∧ va_P D zcl ws U.heap ∧ va_K D zcl [] U ∧ va_D (fun _ => True) ws2 ∧ zNn U)) := fun a U g mk h => ⟨h.1, h.2.1, h.2.2.1, va_K.moved (u := U) (U := U.calling g mk a) (Vm.Alike.refl U.vm) h.2.2.2.1, h.2.2.2.2.1, zNn_calling h.2.2.2.2.2⟩
theorem zdf0 : ∀ j, j < 1 → defaultValue (zY0 j) = vp_V [.null] j := by
  intro j hj
  match j, hj with
  | 0, _ => rfl
  | k + 1, hj => exact absurd hj (by omega)
theorem zdf1 : ∀ j, j < 4 → defaultValue (zY1 j) = vp_V [.null, .int 0, .int 0, .int 0] j := by
  intro j hj
  match j, hj with
  | 0, _ => rfl
  | 1, _ => rfl
  | 2, _ => rfl
  | 3, _ => rfl
  | k + 4, hj => exact absurd hj (by omega)
theorem zdf2 : ∀ j, j < 3 → defaultValue (zY2 j) = vp_V [.int 0, .null, .int 0] j := by
  intro j hj
  match j, hj with
  | 0, _ => rfl
  | 1, _ => rfl
  | 2, _ => rfl
  | k + 3, hj => exact absurd hj (by omega)
theorem zdf3 : ∀ j, j < 15 → defaultValue (zY3 j) = vp_V [.null, .null, .int 0, .int 0, .int 0, .int 0, .int 0, .int 0, .int 0, .int 0, .int 0, .int 0, .int 0, .int 0, .int 0] j := by
  intro j hj
  match j, hj with
  | 0, _ => rfl
  | 1, _ => rfl
  | 2, _ => rfl
  | 3, _ => rfl
  | 4, _ => rfl
  | 5, _ => rfl
  | 6, _ => rfl
  | 7, _ => rfl
  | 8, _ => rfl
  | 9, _ => rfl
  | 10, _ => rfl
  | 11, _ => rfl
  | 12, _ => rfl
  | 13, _ => rfl
  | 14, _ => rfl
  | k + 15, hj => exact absurd hj (by omega)
theorem zdf4 : ∀ j, j < 8 → defaultValue (zY4 j) = vp_V [.int 0, .int 0, .int 0, .int 0, .int 0, .int 0, .int 0, .int 0] j := by
  intro j hj
  match j, hj with
  | 0, _ => rfl
  | 1, _ => rfl
  | 2, _ => rfl
  | 3, _ => rfl
  | 4, _ => rfl
  | 5, _ => rfl
  | 6, _ => rfl
  | 7, _ => rfl
  | k + 8, hj => exact absurd hj (by omega)
theorem zdf5 : ∀ j, j < 5 → defaultValue (zY5 j) = vp_V [.null, .null, .null, .null, .null] j := by
  intro j hj
  match j, hj with
  | 0, _ => rfl
  | 1, _ => rfl
  | 2, _ => rfl
  | 3, _ => rfl
  | 4, _ => rfl
  | k + 5, hj => exact absurd hj (by omega)
theorem zm33 : (Jvm.Cond.methodLink "SluiceStream$Positions" (3 : Nat) ({ cls := "java/lang/Object", name := "<init>", desc := "()V" } : Jvm.MethodName)) ∈ zT := List.mem_filter.mpr ⟨List.mem_of_getElem? (i := 48) (by decide +kernel), by decide +kernel⟩
theorem zm20 : (Jvm.Cond.instanceMethod ({ cls := "java/lang/Object", name := "<init>", desc := "()V" } : Jvm.MethodName)) ∈ zT := List.mem_filter.mpr ⟨List.mem_of_getElem? (i := 35) (by decide +kernel), by decide +kernel⟩
theorem zm21 : (Jvm.Cond.code ({ cls := "java/lang/Object", name := "<init>", desc := "()V" } : Jvm.MethodName) object_method_1_code (1 : Nat) (Option.none : Option Jvm.ClassFile.FieldType)) ∈ zT := List.mem_filter.mpr ⟨List.mem_of_getElem? (i := 36) (by decide +kernel), by decide +kernel⟩
theorem zm38 : (Jvm.Cond.arrayClass Jvm.ClassFile.FieldType.int) ∈ zT := List.mem_filter.mpr ⟨List.mem_of_getElem? (i := 53) (by decide +kernel), by decide +kernel⟩
theorem zm44 : (Jvm.Cond.methodLink "SluiceStream$Timer" (3 : Nat) ({ cls := "java/lang/Object", name := "<init>", desc := "()V" } : Jvm.MethodName)) ∈ zT := List.mem_filter.mpr ⟨List.mem_of_getElem? (i := 59) (by decide +kernel), by decide +kernel⟩
theorem zm27 : (Jvm.Cond.methodLink "SluiceStream$Sender" (3 : Nat) ({ cls := "java/lang/Object", name := "<init>", desc := "()V" } : Jvm.MethodName)) ∈ zT := List.mem_filter.mpr ⟨List.mem_of_getElem? (i := 42) (by decide +kernel), by decide +kernel⟩
theorem zm28 : (Jvm.Cond.classLink "SluiceStream$Sender" (9 : Nat) "SluiceStream$Positions") ∈ zT := List.mem_filter.mpr ⟨List.mem_of_getElem? (i := 43) (by decide +kernel), by decide +kernel⟩
theorem zm29 : (Jvm.Cond.instantiable "SluiceStream$Positions" (1 : Nat)) ∈ zT := List.mem_filter.mpr ⟨List.mem_of_getElem? (i := 44) (by decide +kernel), by decide +kernel⟩
theorem zm32 : (Jvm.Cond.code ({ cls := "SluiceStream$Positions", name := "<init>", desc := "()V" } : Jvm.MethodName) prog_2_method_1_code (1 : Nat) (Option.none : Option Jvm.ClassFile.FieldType)) ∈ zT := List.mem_filter.mpr ⟨List.mem_of_getElem? (i := 47) (by decide +kernel), by decide +kernel⟩
theorem zm31 : (Jvm.Cond.instanceMethod ({ cls := "SluiceStream$Positions", name := "<init>", desc := "()V" } : Jvm.MethodName)) ∈ zT := List.mem_filter.mpr ⟨List.mem_of_getElem? (i := 46) (by decide +kernel), by decide +kernel⟩
theorem zm39 : (Jvm.Cond.classLink "SluiceStream$Sender" (18 : Nat) "SluiceStream$Timer") ∈ zT := List.mem_filter.mpr ⟨List.mem_of_getElem? (i := 54) (by decide +kernel), by decide +kernel⟩
theorem zm40 : (Jvm.Cond.instantiable "SluiceStream$Timer" (8 : Nat)) ∈ zT := List.mem_filter.mpr ⟨List.mem_of_getElem? (i := 55) (by decide +kernel), by decide +kernel⟩
theorem zm43 : (Jvm.Cond.code ({ cls := "SluiceStream$Timer", name := "<init>", desc := "()V" } : Jvm.MethodName) prog_6_method_1_code (1 : Nat) (Option.none : Option Jvm.ClassFile.FieldType)) ∈ zT := List.mem_filter.mpr ⟨List.mem_of_getElem? (i := 58) (by decide +kernel), by decide +kernel⟩
theorem zm42 : (Jvm.Cond.instanceMethod ({ cls := "SluiceStream$Timer", name := "<init>", desc := "()V" } : Jvm.MethodName)) ∈ zT := List.mem_filter.mpr ⟨List.mem_of_getElem? (i := 57) (by decide +kernel), by decide +kernel⟩
theorem zm138 : (Jvm.Cond.methodLink "SluiceStream$Receiver" (3 : Nat) ({ cls := "java/lang/Object", name := "<init>", desc := "()V" } : Jvm.MethodName)) ∈ zT := List.mem_filter.mpr ⟨List.mem_of_getElem? (i := 153) (by decide +kernel), by decide +kernel⟩
theorem zm139 : (Jvm.Cond.classLink "SluiceStream$Receiver" (9 : Nat) "SluiceStream$Positions") ∈ zT := List.mem_filter.mpr ⟨List.mem_of_getElem? (i := 154) (by decide +kernel), by decide +kernel⟩
theorem zm161 : (Jvm.Cond.methodLink "SluiceStream$Rows" (3 : Nat) ({ cls := "java/lang/Object", name := "<init>", desc := "()V" } : Jvm.MethodName)) ∈ zT := List.mem_filter.mpr ⟨List.mem_of_getElem? (i := 176) (by decide +kernel), by decide +kernel⟩
theorem zm19 : (Jvm.Cond.methodLink "SluiceStream" (3 : Nat) ({ cls := "java/lang/Object", name := "<init>", desc := "()V" } : Jvm.MethodName)) ∈ zT := List.mem_filter.mpr ⟨List.mem_of_getElem? (i := 34) (by decide +kernel), by decide +kernel⟩
theorem zm22 : (Jvm.Cond.classLink "SluiceStream" (13 : Nat) "SluiceStream$Sender") ∈ zT := List.mem_filter.mpr ⟨List.mem_of_getElem? (i := 37) (by decide +kernel), by decide +kernel⟩
theorem zm23 : (Jvm.Cond.instantiable "SluiceStream$Sender" (15 : Nat)) ∈ zT := List.mem_filter.mpr ⟨List.mem_of_getElem? (i := 38) (by decide +kernel), by decide +kernel⟩
theorem zm26 : (Jvm.Cond.code ({ cls := "SluiceStream$Sender", name := "<init>", desc := "()V" } : Jvm.MethodName) prog_5_method_1_code (1 : Nat) (Option.none : Option Jvm.ClassFile.FieldType)) ∈ zT := List.mem_filter.mpr ⟨List.mem_of_getElem? (i := 41) (by decide +kernel), by decide +kernel⟩
theorem zm25 : (Jvm.Cond.instanceMethod ({ cls := "SluiceStream$Sender", name := "<init>", desc := "()V" } : Jvm.MethodName)) ∈ zT := List.mem_filter.mpr ⟨List.mem_of_getElem? (i := 40) (by decide +kernel), by decide +kernel⟩
theorem zm133 : (Jvm.Cond.classLink "SluiceStream" (20 : Nat) "SluiceStream$Receiver") ∈ zT := List.mem_filter.mpr ⟨List.mem_of_getElem? (i := 148) (by decide +kernel), by decide +kernel⟩
theorem zm134 : (Jvm.Cond.instantiable "SluiceStream$Receiver" (4 : Nat)) ∈ zT := List.mem_filter.mpr ⟨List.mem_of_getElem? (i := 149) (by decide +kernel), by decide +kernel⟩
theorem zm137 : (Jvm.Cond.code ({ cls := "SluiceStream$Receiver", name := "<init>", desc := "()V" } : Jvm.MethodName) prog_3_method_1_code (1 : Nat) (Option.none : Option Jvm.ClassFile.FieldType)) ∈ zT := List.mem_filter.mpr ⟨List.mem_of_getElem? (i := 152) (by decide +kernel), by decide +kernel⟩
theorem zm136 : (Jvm.Cond.instanceMethod ({ cls := "SluiceStream$Receiver", name := "<init>", desc := "()V" } : Jvm.MethodName)) ∈ zT := List.mem_filter.mpr ⟨List.mem_of_getElem? (i := 151) (by decide +kernel), by decide +kernel⟩
theorem zm156 : (Jvm.Cond.classLink "SluiceStream" (27 : Nat) "SluiceStream$Rows") ∈ zT := List.mem_filter.mpr ⟨List.mem_of_getElem? (i := 171) (by decide +kernel), by decide +kernel⟩
theorem zm157 : (Jvm.Cond.instantiable "SluiceStream$Rows" (3 : Nat)) ∈ zT := List.mem_filter.mpr ⟨List.mem_of_getElem? (i := 172) (by decide +kernel), by decide +kernel⟩
theorem zm160 : (Jvm.Cond.code ({ cls := "SluiceStream$Rows", name := "<init>", desc := "(I[I)V" } : Jvm.MethodName) prog_4_method_1_code (3 : Nat) (Option.none : Option Jvm.ClassFile.FieldType)) ∈ zT := List.mem_filter.mpr ⟨List.mem_of_getElem? (i := 175) (by decide +kernel), by decide +kernel⟩
theorem zm159 : (Jvm.Cond.instanceMethod ({ cls := "SluiceStream$Rows", name := "<init>", desc := "(I[I)V" } : Jvm.MethodName)) ∈ zT := List.mem_filter.mpr ⟨List.mem_of_getElem? (i := 174) (by decide +kernel), by decide +kernel⟩
theorem zm158 : (Jvm.Cond.methodLink "SluiceStream" (29 : Nat) ({ cls := "SluiceStream$Rows", name := "<init>", desc := "(I[I)V" } : Jvm.MethodName)) ∈ zT := List.mem_filter.mpr ⟨List.mem_of_getElem? (i := 173) (by decide +kernel), by decide +kernel⟩
theorem zd_P_init_0 : decode prog_2_method_1_code 0 = .ok (.aload_n 0, 1) := by decide +kernel
theorem zd_P_init_1 : decode prog_2_method_1_code 1 = .ok (.invokespecial 3, 3) := by decide +kernel
theorem zd_P_init_4 : decode prog_2_method_1_code 4 = .ok (.aload_n 0, 1) := by decide +kernel
theorem zd_P_init_5 : decode prog_2_method_1_code 5 = .ok (.sipush 600, 3) := by decide +kernel
theorem zd_P_init_8 : decode prog_2_method_1_code 8 = .ok (.newarray .int, 2) := by decide +kernel
theorem zd_P_init_10 : decode prog_2_method_1_code 10 = .ok (.putfield 9, 3) := by decide +kernel
theorem zd_P_init_13 : decode prog_2_method_1_code 13 = .ok (.return_, 1) := by decide +kernel
theorem zd_T_init_0 : decode prog_6_method_1_code 0 = .ok (.aload_n 0, 1) := by decide +kernel
theorem zd_T_init_1 : decode prog_6_method_1_code 1 = .ok (.invokespecial 3, 3) := by decide +kernel
theorem zd_T_init_4 : decode prog_6_method_1_code 4 = .ok (.aload_n 0, 1) := by decide +kernel
theorem zd_T_init_5 : decode prog_6_method_1_code 5 = .ok (.iconst 0, 1) := by decide +kernel
theorem zd_T_init_6 : decode prog_6_method_1_code 6 = .ok (.putfield 9, 3) := by decide +kernel
theorem zd_T_init_9 : decode prog_6_method_1_code 9 = .ok (.aload_n 0, 1) := by decide +kernel
theorem zd_T_init_10 : decode prog_6_method_1_code 10 = .ok (.bipush 8, 2) := by decide +kernel
theorem zd_T_init_12 : decode prog_6_method_1_code 12 = .ok (.putfield 15, 3) := by decide +kernel
theorem zd_T_init_15 : decode prog_6_method_1_code 15 = .ok (.aload_n 0, 1) := by decide +kernel
theorem zd_T_init_16 : decode prog_6_method_1_code 16 = .ok (.iconst (-1), 1) := by decide +kernel
theorem zd_T_init_17 : decode prog_6_method_1_code 17 = .ok (.putfield 18, 3) := by decide +kernel
theorem zd_T_init_20 : decode prog_6_method_1_code 20 = .ok (.aload_n 0, 1) := by decide +kernel
theorem zd_T_init_21 : decode prog_6_method_1_code 21 = .ok (.iconst (-1), 1) := by decide +kernel
theorem zd_T_init_22 : decode prog_6_method_1_code 22 = .ok (.putfield 21, 3) := by decide +kernel
theorem zd_T_init_25 : decode prog_6_method_1_code 25 = .ok (.aload_n 0, 1) := by decide +kernel
theorem zd_T_init_26 : decode prog_6_method_1_code 26 = .ok (.iconst 0, 1) := by decide +kernel
theorem zd_T_init_27 : decode prog_6_method_1_code 27 = .ok (.putfield 24, 3) := by decide +kernel
theorem zd_T_init_30 : decode prog_6_method_1_code 30 = .ok (.aload_n 0, 1) := by decide +kernel
theorem zd_T_init_31 : decode prog_6_method_1_code 31 = .ok (.iconst 0, 1) := by decide +kernel
theorem zd_T_init_32 : decode prog_6_method_1_code 32 = .ok (.putfield 27, 3) := by decide +kernel
theorem zd_T_init_35 : decode prog_6_method_1_code 35 = .ok (.aload_n 0, 1) := by decide +kernel
theorem zd_T_init_36 : decode prog_6_method_1_code 36 = .ok (.iconst 0, 1) := by decide +kernel
theorem zd_T_init_37 : decode prog_6_method_1_code 37 = .ok (.putfield 30, 3) := by decide +kernel
theorem zd_T_init_40 : decode prog_6_method_1_code 40 = .ok (.aload_n 0, 1) := by decide +kernel
theorem zd_T_init_41 : decode prog_6_method_1_code 41 = .ok (.iconst 0, 1) := by decide +kernel
theorem zd_T_init_42 : decode prog_6_method_1_code 42 = .ok (.putfield 33, 3) := by decide +kernel
theorem zd_T_init_45 : decode prog_6_method_1_code 45 = .ok (.return_, 1) := by decide +kernel
theorem zd_S_init_0 : decode prog_5_method_1_code 0 = .ok (.aload_n 0, 1) := by decide +kernel
theorem zd_S_init_1 : decode prog_5_method_1_code 1 = .ok (.invokespecial 3, 3) := by decide +kernel
theorem zd_S_init_4 : decode prog_5_method_1_code 4 = .ok (.aload_n 0, 1) := by decide +kernel
theorem zd_S_init_5 : decode prog_5_method_1_code 5 = .ok (.new 9, 3) := by decide +kernel
theorem zd_S_init_8 : decode prog_5_method_1_code 8 = .ok (.dup, 1) := by decide +kernel
theorem zd_S_init_9 : decode prog_5_method_1_code 9 = .ok (.invokespecial 11, 3) := by decide +kernel
theorem zd_S_init_12 : decode prog_5_method_1_code 12 = .ok (.putfield 12, 3) := by decide +kernel
theorem zd_S_init_15 : decode prog_5_method_1_code 15 = .ok (.aload_n 0, 1) := by decide +kernel
theorem zd_S_init_16 : decode prog_5_method_1_code 16 = .ok (.new 18, 3) := by decide +kernel
theorem zd_S_init_19 : decode prog_5_method_1_code 19 = .ok (.dup, 1) := by decide +kernel
theorem zd_S_init_20 : decode prog_5_method_1_code 20 = .ok (.invokespecial 20, 3) := by decide +kernel
theorem zd_S_init_23 : decode prog_5_method_1_code 23 = .ok (.putfield 21, 3) := by decide +kernel
theorem zd_S_init_26 : decode prog_5_method_1_code 26 = .ok (.aload_n 0, 1) := by decide +kernel
theorem zd_S_init_27 : decode prog_5_method_1_code 27 = .ok (.iconst 0, 1) := by decide +kernel
theorem zd_S_init_28 : decode prog_5_method_1_code 28 = .ok (.putfield 25, 3) := by decide +kernel
theorem zd_S_init_31 : decode prog_5_method_1_code 31 = .ok (.aload_n 0, 1) := by decide +kernel
theorem zd_S_init_32 : decode prog_5_method_1_code 32 = .ok (.iconst 0, 1) := by decide +kernel
theorem zd_S_init_33 : decode prog_5_method_1_code 33 = .ok (.putfield 29, 3) := by decide +kernel
theorem zd_S_init_36 : decode prog_5_method_1_code 36 = .ok (.aload_n 0, 1) := by decide +kernel
theorem zd_S_init_37 : decode prog_5_method_1_code 37 = .ok (.iconst 0, 1) := by decide +kernel
theorem zd_S_init_38 : decode prog_5_method_1_code 38 = .ok (.putfield 32, 3) := by decide +kernel
theorem zd_S_init_41 : decode prog_5_method_1_code 41 = .ok (.aload_n 0, 1) := by decide +kernel
theorem zd_S_init_42 : decode prog_5_method_1_code 42 = .ok (.iconst 0, 1) := by decide +kernel
theorem zd_S_init_43 : decode prog_5_method_1_code 43 = .ok (.putfield 35, 3) := by decide +kernel
theorem zd_S_init_46 : decode prog_5_method_1_code 46 = .ok (.aload_n 0, 1) := by decide +kernel
theorem zd_S_init_47 : decode prog_5_method_1_code 47 = .ok (.bipush 32, 2) := by decide +kernel
theorem zd_S_init_49 : decode prog_5_method_1_code 49 = .ok (.putfield 38, 3) := by decide +kernel
theorem zd_S_init_52 : decode prog_5_method_1_code 52 = .ok (.aload_n 0, 1) := by decide +kernel
theorem zd_S_init_53 : decode prog_5_method_1_code 53 = .ok (.bipush 8, 2) := by decide +kernel
theorem zd_S_init_55 : decode prog_5_method_1_code 55 = .ok (.putfield 41, 3) := by decide +kernel
theorem zd_S_init_58 : decode prog_5_method_1_code 58 = .ok (.aload_n 0, 1) := by decide +kernel
theorem zd_S_init_59 : decode prog_5_method_1_code 59 = .ok (.bipush 64, 2) := by decide +kernel
theorem zd_S_init_61 : decode prog_5_method_1_code 61 = .ok (.putfield 44, 3) := by decide +kernel
theorem zd_S_init_64 : decode prog_5_method_1_code 64 = .ok (.aload_n 0, 1) := by decide +kernel
theorem zd_S_init_65 : decode prog_5_method_1_code 65 = .ok (.sipush 256, 3) := by decide +kernel
theorem zd_S_init_68 : decode prog_5_method_1_code 68 = .ok (.putfield 47, 3) := by decide +kernel
theorem zd_S_init_71 : decode prog_5_method_1_code 71 = .ok (.aload_n 0, 1) := by decide +kernel
theorem zd_S_init_72 : decode prog_5_method_1_code 72 = .ok (.iconst 0, 1) := by decide +kernel
theorem zd_S_init_73 : decode prog_5_method_1_code 73 = .ok (.putfield 50, 3) := by decide +kernel
theorem zd_S_init_76 : decode prog_5_method_1_code 76 = .ok (.aload_n 0, 1) := by decide +kernel
theorem zd_S_init_77 : decode prog_5_method_1_code 77 = .ok (.iconst (-1), 1) := by decide +kernel
theorem zd_S_init_78 : decode prog_5_method_1_code 78 = .ok (.putfield 53, 3) := by decide +kernel
theorem zd_S_init_81 : decode prog_5_method_1_code 81 = .ok (.aload_n 0, 1) := by decide +kernel
theorem zd_S_init_82 : decode prog_5_method_1_code 82 = .ok (.iconst 0, 1) := by decide +kernel
theorem zd_S_init_83 : decode prog_5_method_1_code 83 = .ok (.putfield 56, 3) := by decide +kernel
theorem zd_S_init_86 : decode prog_5_method_1_code 86 = .ok (.aload_n 0, 1) := by decide +kernel
theorem zd_S_init_87 : decode prog_5_method_1_code 87 = .ok (.iconst 0, 1) := by decide +kernel
theorem zd_S_init_88 : decode prog_5_method_1_code 88 = .ok (.putfield 59, 3) := by decide +kernel
theorem zd_S_init_91 : decode prog_5_method_1_code 91 = .ok (.aload_n 0, 1) := by decide +kernel
theorem zd_S_init_92 : decode prog_5_method_1_code 92 = .ok (.iconst 0, 1) := by decide +kernel
theorem zd_S_init_93 : decode prog_5_method_1_code 93 = .ok (.putfield 62, 3) := by decide +kernel
theorem zd_S_init_96 : decode prog_5_method_1_code 96 = .ok (.return_, 1) := by decide +kernel
theorem zd_R_init_0 : decode prog_3_method_1_code 0 = .ok (.aload_n 0, 1) := by decide +kernel
theorem zd_R_init_1 : decode prog_3_method_1_code 1 = .ok (.invokespecial 3, 3) := by decide +kernel
theorem zd_R_init_4 : decode prog_3_method_1_code 4 = .ok (.aload_n 0, 1) := by decide +kernel
theorem zd_R_init_5 : decode prog_3_method_1_code 5 = .ok (.new 9, 3) := by decide +kernel
theorem zd_R_init_8 : decode prog_3_method_1_code 8 = .ok (.dup, 1) := by decide +kernel
theorem zd_R_init_9 : decode prog_3_method_1_code 9 = .ok (.invokespecial 11, 3) := by decide +kernel
theorem zd_R_init_12 : decode prog_3_method_1_code 12 = .ok (.putfield 12, 3) := by decide +kernel
theorem zd_R_init_15 : decode prog_3_method_1_code 15 = .ok (.aload_n 0, 1) := by decide +kernel
theorem zd_R_init_16 : decode prog_3_method_1_code 16 = .ok (.iconst 0, 1) := by decide +kernel
theorem zd_R_init_17 : decode prog_3_method_1_code 17 = .ok (.putfield 18, 3) := by decide +kernel
theorem zd_R_init_20 : decode prog_3_method_1_code 20 = .ok (.aload_n 0, 1) := by decide +kernel
theorem zd_R_init_21 : decode prog_3_method_1_code 21 = .ok (.iconst 0, 1) := by decide +kernel
theorem zd_R_init_22 : decode prog_3_method_1_code 22 = .ok (.putfield 22, 3) := by decide +kernel
theorem zd_R_init_25 : decode prog_3_method_1_code 25 = .ok (.aload_n 0, 1) := by decide +kernel
theorem zd_R_init_26 : decode prog_3_method_1_code 26 = .ok (.iconst 0, 1) := by decide +kernel
theorem zd_R_init_27 : decode prog_3_method_1_code 27 = .ok (.putfield 25, 3) := by decide +kernel
theorem zd_R_init_30 : decode prog_3_method_1_code 30 = .ok (.return_, 1) := by decide +kernel
theorem zd_W_init_0 : decode prog_4_method_1_code 0 = .ok (.aload_n 0, 1) := by decide +kernel
theorem zd_W_init_1 : decode prog_4_method_1_code 1 = .ok (.invokespecial 3, 3) := by decide +kernel
theorem zd_W_init_4 : decode prog_4_method_1_code 4 = .ok (.aload_n 0, 1) := by decide +kernel
theorem zd_W_init_5 : decode prog_4_method_1_code 5 = .ok (.iconst 0, 1) := by decide +kernel
theorem zd_W_init_6 : decode prog_4_method_1_code 6 = .ok (.putfield 9, 3) := by decide +kernel
theorem zd_W_init_9 : decode prog_4_method_1_code 9 = .ok (.aload_n 0, 1) := by decide +kernel
theorem zd_W_init_10 : decode prog_4_method_1_code 10 = .ok (.iload_n 1, 1) := by decide +kernel
theorem zd_W_init_11 : decode prog_4_method_1_code 11 = .ok (.putfield 15, 3) := by decide +kernel
theorem zd_W_init_14 : decode prog_4_method_1_code 14 = .ok (.aload_n 0, 1) := by decide +kernel
theorem zd_W_init_15 : decode prog_4_method_1_code 15 = .ok (.aload_n 2, 1) := by decide +kernel
theorem zd_W_init_16 : decode prog_4_method_1_code 16 = .ok (.putfield 18, 3) := by decide +kernel
theorem zd_W_init_19 : decode prog_4_method_1_code 19 = .ok (.return_, 1) := by decide +kernel
theorem zd_X_init_0 : decode prog_1_method_1_code 0 = .ok (.aload_n 0, 1) := by decide +kernel
theorem zd_X_init_1 : decode prog_1_method_1_code 1 = .ok (.invokespecial 3, 3) := by decide +kernel
theorem zd_X_init_4 : decode prog_1_method_1_code 4 = .ok (.aload_n 0, 1) := by decide +kernel
theorem zd_X_init_5 : decode prog_1_method_1_code 5 = .ok (.sipush 600, 3) := by decide +kernel
theorem zd_X_init_8 : decode prog_1_method_1_code 8 = .ok (.newarray .int, 2) := by decide +kernel
theorem zd_X_init_10 : decode prog_1_method_1_code 10 = .ok (.putfield 9, 3) := by decide +kernel
theorem zd_X_init_13 : decode prog_1_method_1_code 13 = .ok (.aload_n 0, 1) := by decide +kernel
theorem zd_X_init_14 : decode prog_1_method_1_code 14 = .ok (.new 13, 3) := by decide +kernel
theorem zd_X_init_17 : decode prog_1_method_1_code 17 = .ok (.dup, 1) := by decide +kernel
theorem zd_X_init_18 : decode prog_1_method_1_code 18 = .ok (.invokespecial 15, 3) := by decide +kernel
theorem zd_X_init_21 : decode prog_1_method_1_code 21 = .ok (.putfield 16, 3) := by decide +kernel
theorem zd_X_init_24 : decode prog_1_method_1_code 24 = .ok (.aload_n 0, 1) := by decide +kernel
theorem zd_X_init_25 : decode prog_1_method_1_code 25 = .ok (.new 20, 3) := by decide +kernel
theorem zd_X_init_28 : decode prog_1_method_1_code 28 = .ok (.dup, 1) := by decide +kernel
theorem zd_X_init_29 : decode prog_1_method_1_code 29 = .ok (.invokespecial 22, 3) := by decide +kernel
theorem zd_X_init_32 : decode prog_1_method_1_code 32 = .ok (.putfield 23, 3) := by decide +kernel
theorem zd_X_init_35 : decode prog_1_method_1_code 35 = .ok (.aload_n 0, 1) := by decide +kernel
theorem zd_X_init_36 : decode prog_1_method_1_code 36 = .ok (.new 27, 3) := by decide +kernel
theorem zd_X_init_39 : decode prog_1_method_1_code 39 = .ok (.dup, 1) := by decide +kernel
theorem zd_X_init_40 : decode prog_1_method_1_code 40 = .ok (.iconst 2, 1) := by decide +kernel
theorem zd_X_init_41 : decode prog_1_method_1_code 41 = .ok (.bipush 80, 2) := by decide +kernel
theorem zd_X_init_43 : decode prog_1_method_1_code 43 = .ok (.newarray .int, 2) := by decide +kernel
theorem zd_X_init_45 : decode prog_1_method_1_code 45 = .ok (.invokespecial 29, 3) := by decide +kernel
theorem zd_X_init_48 : decode prog_1_method_1_code 48 = .ok (.putfield 32, 3) := by decide +kernel
theorem zd_X_init_51 : decode prog_1_method_1_code 51 = .ok (.aload_n 0, 1) := by decide +kernel
theorem zd_X_init_52 : decode prog_1_method_1_code 52 = .ok (.new 27, 3) := by decide +kernel
theorem zd_X_init_55 : decode prog_1_method_1_code 55 = .ok (.dup, 1) := by decide +kernel
theorem zd_X_init_56 : decode prog_1_method_1_code 56 = .ok (.bipush 9, 2) := by decide +kernel
theorem zd_X_init_58 : decode prog_1_method_1_code 58 = .ok (.sipush 360, 3) := by decide +kernel
theorem zd_X_init_61 : decode prog_1_method_1_code 61 = .ok (.newarray .int, 2) := by decide +kernel
theorem zd_X_init_63 : decode prog_1_method_1_code 63 = .ok (.invokespecial 29, 3) := by decide +kernel
theorem zd_X_init_66 : decode prog_1_method_1_code 66 = .ok (.putfield 36, 3) := by decide +kernel
theorem zd_X_init_69 : decode prog_1_method_1_code 69 = .ok (.return_, 1) := by decide +kernel
set_option maxHeartbeats 4000000 in
set_option maxRecDepth 100000 in
theorem ct_P (l : Launch) (D : va_G) (h0 sz : Nat) : Met l ({ cls := "SluiceStream$Positions", name := "<init>", desc := "()V" } : Jvm.MethodName) (.code ({ cls := "SluiceStream$Positions", name := "<init>", desc := "()V" } : Jvm.MethodName) prog_2_method_1_code 1 none :: zT) ({ frames := 1, cells := 1, slots := 600, locals := 12 } : Room) (va_Pc [.ref h0] (fun U => U.heap.size = sz ∧ va_P D zcl [(h0, .inr (0, [.null]))] U.heap ∧ va_K D zcl [] U ∧ va_D (fun _ => True) [(h0, .inr (0, [.null]))] ∧ zNn U)) (va_Qv (fun (_ : Unit) => True) (fun (_ : Unit) (t : State) => ∃ (q1 : Nat), ∃ (c1 : ClassId), va_P D zcl [(h0, .inr (0, [.ref q1])), (q1, .inl (c1, 600, .inl (fun _ => 0)))] t.heap ∧ va_K D zcl [(c1, .int)] t ∧ va_D (va_A [(h0, .inr (0, [.null]))] sz) [(h0, .inr (0, [.ref q1])), (q1, .inl (c1, 600, .inl (fun _ => 0)))]) (va_A [(h0, .inr (0, [.null]))] sz)) 1 600 (va_A [(h0, .inr (0, [.null]))] sz) := by
  refine Met.ofW (cc := prog_2_method_1_code) (maxL := 1) (ret := none) (by decide +kernel) rfl ?_
  intro p e s m args below meth c s₁ B hml hv
  obtain ⟨rfl, hsz, hP, hK, hD0, hN⟩ := hv
  have hx := B.exec
  have hb := B.bytes
  have hr := B.returns
  have hts : ∀ x ∈ zT, x.before ([.ref h0] : List Value).toArray s = true := fun x hx => atoms_spec (ws := Cond.code ({ cls := "SluiceStream$Positions", name := "<init>", desc := "()V" } : Jvm.MethodName) prog_2_method_1_code 1 none :: zT) B.pre x (List.mem_cons_of_mem _ hx)
  have hown : s.vm.findClass "SluiceStream$Positions" = some m.cls := findClass_of_methodNamed B.named
  have hlocks := B.notSynchronized
  have hin : meth.name = "<init>" := (name_of_methodNamed B.named B.method).1
  subst hsz
  have hD := hD0.self (sz := s.heap.size)
  generalize hAe : va_A [(h0, .inr (0, [.null]))] s.heap.size = A at hD ⊢
  have hA : ∀ q : Nat, s.heap.size ≤ q → A q := fun q h => by rw [← hAe]; exact Or.inr h
  have hS : va_S A s.heap s.heap [] := va_S.rf
  have hP : va_P D zcl [(h0, .inr (0, [.null]))] s.heap := hP
  have hl := lv_entry ([.ref h0] : List Value) (n := 1) (Nat.le_of_ble_eq_true rfl)
  rw [lg_entry_eq]
  generalize (lg_sl ([.ref h0] : List Value) ++ List.replicate (1 - (lg_sl ([.ref h0] : List Value)).length) Slot.unset).toArray = ls at hl ⊢
  have hl : lv_has ls 1 [(0, .ref h0)] := hl
  refine lv_aload_n hx hb zd_P_init_0 rfl (lv_at hl 0 rfl) ?_
  refine W.objInit hx hb hown (hts _ zm33) (hts _ zm20) (hts _ zm21) rfl (by rw [hml]; exact hl.1) rfl zd_P_init_1 (Nat.le_of_ble_eq_true rfl) (Nat.le_of_ble_eq_true rfl) ?_
  refine W.eq (g2 := F0 m 4 ls []) rfl ?_
  refine lv_aload_n hx hb zd_P_init_4 rfl (lv_at hl 0 rfl) ?_
  refine lv_sipush (v := 600) hx hb zd_P_init_5 (by decide) ?_
  refine va_newa (atype := .int) hx hb (hts _ zm38) (ty := .int) rfl hK hP hD hS hA (N' := 600) (a0 := (600, .inl (fun _ => 0))) (fun _ => rfl) (by decide) (by decide) (by decide) (by show 0 + 1 ≤ _; exact Nat.le_of_ble_eq_true rfl) (by show 0 + 600 ≤ _; exact Nat.le_of_ble_eq_true rfl) zd_P_init_8 (fun q1 c1 H hK hP hD hS => ?_)
  have hP : va_P D zcl [(h0, .inr (0, [.null])), (q1, .inl (c1, 600, .inl (fun _ => 0)))] H := hP
  have hD : va_D A [(h0, .inr (0, [.null])), (q1, .inl (c1, 600, .inl (fun _ => 0)))] := hD
  have hK : va_K D zcl [(c1, .int)] s := hK
  refine W.widen (k := 1) (n := 600) (Nat.le_of_ble_eq_true rfl) (Nat.le_of_ble_eq_true rfl) ?_
  refine va_putF (D := D) (ref := "SluiceStream$Positions") (ci := 0) (v := .ref q1) (ty := zY0 0) (C := "SluiceStream$Positions") (T := zF0) (N := 1) hx hb hts zin0 zY0 zYo0 zNm0 hown hK hP hD hS 0 rfl rfl 0 (Nat.le_of_ble_eq_true rfl) (hts _ zm34) (fun _ h9 => h9) rfl hin rfl (by decide +kernel) rfl rfl (Nat.le_of_ble_eq_true rfl) zd_P_init_10 (fun H locs hP hD hS => ?_)
  have hP : va_P D zcl [(h0, .inr (0, [.ref q1])), (q1, .inl (c1, 600, .inl (fun _ => 0)))] H := hP
  have hD : va_D A [(h0, .inr (0, [.ref q1])), (q1, .inl (c1, 600, .inl (fun _ => 0)))] := hD
  have hP9 := hP.sub (ws' := [(h0, .inr (0, [.ref q1])), (q1, .inl (c1, 600, .inl (fun _ => 0)))]) [0, 1] rfl
  have hD9 := hD.sub (ws' := [(h0, .inr (0, [.ref q1])), (q1, .inl (c1, 600, .inl (fun _ => 0)))]) [0, 1] (by decide) rfl
  exact W.vret hx hb hr (fun t ht hW => ⟨⟨(), rfl, trivial, q1, c1, by rw [ht]; exact hP9, va_K.moved hW.alike hK, hD9⟩, hS.F ht⟩) hS.2.2 zd_P_init_13
set_option maxHeartbeats 4000000 in
set_option maxRecDepth 100000 in
theorem ct_T (l : Launch) (D : va_G) (h0 sz : Nat) : Met l ({ cls := "SluiceStream$Timer", name := "<init>", desc := "()V" } : Jvm.MethodName) (.code ({ cls := "SluiceStream$Timer", name := "<init>", desc := "()V" } : Jvm.MethodName) prog_6_method_1_code 1 none :: zT) ({ frames := 1, cells := 0, slots := 0, locals := 12 } : Room) (va_Pc [.ref h0] (fun U => U.heap.size = sz ∧ va_P D zcl [(h0, .inr (4, [.int 0, .int 0, .int 0, .int 0, .int 0, .int 0, .int 0, .int 0]))] U.heap ∧ va_K D zcl [] U ∧ va_D (fun _ => True) [(h0, .inr (4, [.int 0, .int 0, .int 0, .int 0, .int 0, .int 0, .int 0, .int 0]))] ∧ zNn U)) (va_Qv (fun (_ : Unit) => True) (fun (_ : Unit) (t : State) => va_P D zcl [(h0, .inr (4, [.int 0, .int 8, .int (-1), .int (-1), .int 0, .int 0, .int 0, .int 0]))] t.heap ∧ va_K D zcl [] t ∧ va_D (va_A [(h0, .inr (4, [.int 0, .int 0, .int 0, .int 0, .int 0, .int 0, .int 0, .int 0]))] sz) [(h0, .inr (4, [.int 0, .int 8, .int (-1), .int (-1), .int 0, .int 0, .int 0, .int 0]))]) (va_A [(h0, .inr (4, [.int 0, .int 0, .int 0, .int 0, .int 0, .int 0, .int 0, .int 0]))] sz)) 0 0 (va_A [(h0, .inr (4, [.int 0, .int 0, .int 0, .int 0, .int 0, .int 0, .int 0, .int 0]))] sz) := by
  refine Met.ofW (cc := prog_6_method_1_code) (maxL := 1) (ret := none) (by decide +kernel) rfl ?_
  intro p e s m args below meth c s₁ B hml hv
  obtain ⟨rfl, hsz, hP, hK, hD0, hN⟩ := hv
  have hx := B.exec
  have hb := B.bytes
  have hr := B.returns
  have hts : ∀ x ∈ zT, x.before ([.ref h0] : List Value).toArray s = true := fun x hx => atoms_spec (ws := Cond.code ({ cls := "SluiceStream$Timer", name := "<init>", desc := "()V" } : Jvm.MethodName) prog_6_method_1_code 1 none :: zT) B.pre x (List.mem_cons_of_mem _ hx)
  have hown : s.vm.findClass "SluiceStream$Timer" = some m.cls := findClass_of_methodNamed B.named
  have hlocks := B.notSynchronized
  have hin : meth.name = "<init>" := (name_of_methodNamed B.named B.method).1
  subst hsz
  have hD := hD0.self (sz := s.heap.size)
  generalize hAe : va_A [(h0, .inr (4, [.int 0, .int 0, .int 0, .int 0, .int 0, .int 0, .int 0, .int 0]))] s.heap.size = A at hD ⊢
  have hA : ∀ q : Nat, s.heap.size ≤ q → A q := fun q h => by rw [← hAe]; exact Or.inr h
  have hS : va_S A s.heap s.heap [] := va_S.rf
  have hP : va_P D zcl [(h0, .inr (4, [.int 0, .int 0, .int 0, .int 0, .int 0, .int 0, .int 0, .int 0]))] s.heap := hP
  have hl := lv_entry ([.ref h0] : List Value) (n := 1) (Nat.le_of_ble_eq_true rfl)
  rw [lg_entry_eq]
  generalize (lg_sl ([.ref h0] : List Value) ++ List.replicate (1 - (lg_sl ([.ref h0] : List Value)).length) Slot.unset).toArray = ls at hl ⊢
  have hl : lv_has ls 1 [(0, .ref h0)] := hl
  refine lv_aload_n hx hb zd_T_init_0 rfl (lv_at hl 0 rfl) ?_
  refine W.objInit hx hb hown (hts _ zm44) (hts _ zm20) (hts _ zm21) rfl (by rw [hml]; exact hl.1) rfl zd_T_init_1 (Nat.le_of_ble_eq_true rfl) (Nat.le_of_ble_eq_true rfl) ?_
  refine W.eq (g2 := F0 m 4 ls []) rfl ?_
  refine lv_aload_n hx hb zd_T_init_4 rfl (lv_at hl 0 rfl) ?_
  refine lv_iconst (v := 0) hx hb zd_T_init_5 (by decide) ?_
  refine va_put (D := D) (ref := "SluiceStream$Timer") (ci := 4) (v := .int 0) (ty := zY4 0) (C := "SluiceStream$Timer") (T := zF4) (N := 8) hx hb hts zin4 zY4 zYo4 zNm4 hown hK hP hD hS 0 rfl rfl 0 (Nat.le_of_ble_eq_true rfl) (hts _ zm45) (fun _ h9 => h9) rfl (by decide +kernel) rfl rfl (Nat.le_of_ble_eq_true rfl) zd_T_init_6 (fun H locs hP hD hS => ?_)
  have hP : va_P D zcl [(h0, .inr (4, [.int 0, .int 0, .int 0, .int 0, .int 0, .int 0, .int 0, .int 0]))] H := hP
  have hD : va_D A [(h0, .inr (4, [.int 0, .int 0, .int 0, .int 0, .int 0, .int 0, .int 0, .int 0]))] := hD
  refine lv_aload_n hx hb zd_T_init_9 rfl (lv_at hl 0 rfl) ?_
  refine lv_bipush (v := 8) hx hb zd_T_init_10 (by decide) ?_
  refine va_put (D := D) (ref := "SluiceStream$Timer") (ci := 4) (v := .int 8) (ty := zY4 1) (C := "SluiceStream$Timer") (T := zF4) (N := 8) hx hb hts zin4 zY4 zYo4 zNm4 hown hK hP hD hS 0 rfl rfl 1 (Nat.le_of_ble_eq_true rfl) (hts _ zm47) (fun _ h9 => h9) rfl (by decide +kernel) rfl rfl (Nat.le_of_ble_eq_true rfl) zd_T_init_12 (fun H locs hP hD hS => ?_)
  have hP : va_P D zcl [(h0, .inr (4, [.int 0, .int 8, .int 0, .int 0, .int 0, .int 0, .int 0, .int 0]))] H := hP
  have hD : va_D A [(h0, .inr (4, [.int 0, .int 8, .int 0, .int 0, .int 0, .int 0, .int 0, .int 0]))] := hD
  refine lv_aload_n hx hb zd_T_init_15 rfl (lv_at hl 0 rfl) ?_
  refine lv_iconst (v := (-1)) hx hb zd_T_init_16 (by decide) ?_
  refine va_put (D := D) (ref := "SluiceStream$Timer") (ci := 4) (v := .int (-1)) (ty := zY4 2) (C := "SluiceStream$Timer") (T := zF4) (N := 8) hx hb hts zin4 zY4 zYo4 zNm4 hown hK hP hD hS 0 rfl rfl 2 (Nat.le_of_ble_eq_true rfl) (hts _ zm49) (fun _ h9 => h9) rfl (by decide +kernel) rfl rfl (Nat.le_of_ble_eq_true rfl) zd_T_init_17 (fun H locs hP hD hS => ?_)
  have hP : va_P D zcl [(h0, .inr (4, [.int 0, .int 8, .int (-1), .int 0, .int 0, .int 0, .int 0, .int 0]))] H := hP
  have hD : va_D A [(h0, .inr (4, [.int 0, .int 8, .int (-1), .int 0, .int 0, .int 0, .int 0, .int 0]))] := hD
  refine lv_aload_n hx hb zd_T_init_20 rfl (lv_at hl 0 rfl) ?_
  refine lv_iconst (v := (-1)) hx hb zd_T_init_21 (by decide) ?_
  refine va_put (D := D) (ref := "SluiceStream$Timer") (ci := 4) (v := .int (-1)) (ty := zY4 3) (C := "SluiceStream$Timer") (T := zF4) (N := 8) hx hb hts zin4 zY4 zYo4 zNm4 hown hK hP hD hS 0 rfl rfl 3 (Nat.le_of_ble_eq_true rfl) (hts _ zm51) (fun _ h9 => h9) rfl (by decide +kernel) rfl rfl (Nat.le_of_ble_eq_true rfl) zd_T_init_22 (fun H locs hP hD hS => ?_)
  have hP : va_P D zcl [(h0, .inr (4, [.int 0, .int 8, .int (-1), .int (-1), .int 0, .int 0, .int 0, .int 0]))] H := hP
  have hD : va_D A [(h0, .inr (4, [.int 0, .int 8, .int (-1), .int (-1), .int 0, .int 0, .int 0, .int 0]))] := hD
  refine lv_aload_n hx hb zd_T_init_25 rfl (lv_at hl 0 rfl) ?_
  refine lv_iconst (v := 0) hx hb zd_T_init_26 (by decide) ?_
  refine va_put (D := D) (ref := "SluiceStream$Timer") (ci := 4) (v := .int 0) (ty := zY4 4) (C := "SluiceStream$Timer") (T := zF4) (N := 8) hx hb hts zin4 zY4 zYo4 zNm4 hown hK hP hD hS 0 rfl rfl 4 (Nat.le_of_ble_eq_true rfl) (hts _ zm53) (fun _ h9 => h9) rfl (by decide +kernel) rfl rfl (Nat.le_of_ble_eq_true rfl) zd_T_init_27 (fun H locs hP hD hS => ?_)
  have hP : va_P D zcl [(h0, .inr (4, [.int 0, .int 8, .int (-1), .int (-1), .int 0, .int 0, .int 0, .int 0]))] H := hP
  have hD : va_D A [(h0, .inr (4, [.int 0, .int 8, .int (-1), .int (-1), .int 0, .int 0, .int 0, .int 0]))] := hD
  refine lv_aload_n hx hb zd_T_init_30 rfl (lv_at hl 0 rfl) ?_
  refine lv_iconst (v := 0) hx hb zd_T_init_31 (by decide) ?_
  refine va_put (D := D) (ref := "SluiceStream$Timer") (ci := 4) (v := .int 0) (ty := zY4 5) (C := "SluiceStream$Timer") (T := zF4) (N := 8) hx hb hts zin4 zY4 zYo4 zNm4 hown hK hP hD hS 0 rfl rfl 5 (Nat.le_of_ble_eq_true rfl) (hts _ zm54) (fun _ h9 => h9) rfl (by decide +kernel) rfl rfl (Nat.le_of_ble_eq_true rfl) zd_T_init_32 (fun H locs hP hD hS => ?_)
  have hP : va_P D zcl [(h0, .inr (4, [.int 0, .int 8, .int (-1), .int (-1), .int 0, .int 0, .int 0, .int 0]))] H := hP
  have hD : va_D A [(h0, .inr (4, [.int 0, .int 8, .int (-1), .int (-1), .int 0, .int 0, .int 0, .int 0]))] := hD
  refine lv_aload_n hx hb zd_T_init_35 rfl (lv_at hl 0 rfl) ?_
  refine lv_iconst (v := 0) hx hb zd_T_init_36 (by decide) ?_
  refine va_put (D := D) (ref := "SluiceStream$Timer") (ci := 4) (v := .int 0) (ty := zY4 6) (C := "SluiceStream$Timer") (T := zF4) (N := 8) hx hb hts zin4 zY4 zYo4 zNm4 hown hK hP hD hS 0 rfl rfl 6 (Nat.le_of_ble_eq_true rfl) (hts _ zm55) (fun _ h9 => h9) rfl (by decide +kernel) rfl rfl (Nat.le_of_ble_eq_true rfl) zd_T_init_37 (fun H locs hP hD hS => ?_)
  have hP : va_P D zcl [(h0, .inr (4, [.int 0, .int 8, .int (-1), .int (-1), .int 0, .int 0, .int 0, .int 0]))] H := hP
  have hD : va_D A [(h0, .inr (4, [.int 0, .int 8, .int (-1), .int (-1), .int 0, .int 0, .int 0, .int 0]))] := hD
  refine lv_aload_n hx hb zd_T_init_40 rfl (lv_at hl 0 rfl) ?_
  refine lv_iconst (v := 0) hx hb zd_T_init_41 (by decide) ?_
  refine va_put (D := D) (ref := "SluiceStream$Timer") (ci := 4) (v := .int 0) (ty := zY4 7) (C := "SluiceStream$Timer") (T := zF4) (N := 8) hx hb hts zin4 zY4 zYo4 zNm4 hown hK hP hD hS 0 rfl rfl 7 (Nat.le_of_ble_eq_true rfl) (hts _ zm56) (fun _ h9 => h9) rfl (by decide +kernel) rfl rfl (Nat.le_of_ble_eq_true rfl) zd_T_init_42 (fun H locs hP hD hS => ?_)
  have hP : va_P D zcl [(h0, .inr (4, [.int 0, .int 8, .int (-1), .int (-1), .int 0, .int 0, .int 0, .int 0]))] H := hP
  have hD : va_D A [(h0, .inr (4, [.int 0, .int 8, .int (-1), .int (-1), .int 0, .int 0, .int 0, .int 0]))] := hD
  have hP9 := hP.sub (ws' := [(h0, .inr (4, [.int 0, .int 8, .int (-1), .int (-1), .int 0, .int 0, .int 0, .int 0]))]) [0] rfl
  have hD9 := hD.sub (ws' := [(h0, .inr (4, [.int 0, .int 8, .int (-1), .int (-1), .int 0, .int 0, .int 0, .int 0]))]) [0] (by decide) rfl
  exact W.vret hx hb hr (fun t ht hW => ⟨⟨(), rfl, trivial, by rw [ht]; exact hP9, va_K.moved hW.alike hK, hD9⟩, hS.F ht⟩) hS.2.2 zd_T_init_45
set_option maxHeartbeats 4000000 in
set_option maxRecDepth 100000 in
theorem ct_S (l : Launch) (D : va_G) (h0 sz : Nat) : Met l ({ cls := "SluiceStream$Sender", name := "<init>", desc := "()V" } : Jvm.MethodName) (.code ({ cls := "SluiceStream$Sender", name := "<init>", desc := "()V" } : Jvm.MethodName) prog_5_method_1_code 1 none :: zT) ({ frames := 2, cells := 3, slots := 609, locals := 32 } : Room) (va_Pc [.ref h0] (fun U => U.heap.size = sz ∧ va_P D zcl [(h0, .inr (3, [.null, .null, .int 0, .int 0, .int 0, .int 0, .int 0, .int 0, .int 0, .int 0, .int 0, .int 0, .int 0, .int 0, .int 0]))] U.heap ∧ va_K D zcl [] U ∧ va_D (fun _ => True) [(h0, .inr (3, [.null, .null, .int 0, .int 0, .int 0, .int 0, .int 0, .int 0, .int 0, .int 0, .int 0, .int 0, .int 0, .int 0, .int 0]))] ∧ zNn U)) (va_Qv (fun (_ : Unit) => True) (fun (_ : Unit) (t : State) => ∃ (q1 q2 q4 : Nat), ∃ (c3 : ClassId), va_P D zcl [(h0, .inr (3, [.ref q1, .ref q4, .int 0, .int 0, .int 0, .int 0, .int 32, .int 8, .int 64, .int 256, .int 0, .int (-1), .int 0, .int 0, .int 0])), (q1, .inr (0, [.ref q2])), (q2, .inl (c3, 600, .inl (fun _ => 0))), (q4, .inr (4, [.int 0, .int 8, .int (-1), .int (-1), .int 0, .int 0, .int 0, .int 0]))] t.heap ∧ va_K D zcl [(c3, .int)] t ∧ va_D (va_A [(h0, .inr (3, [.null, .null, .int 0, .int 0, .int 0, .int 0, .int 0, .int 0, .int 0, .int 0, .int 0, .int 0, .int 0, .int 0, .int 0]))] sz) [(h0, .inr (3, [.ref q1, .ref q4, .int 0, .int 0, .int 0, .int 0, .int 32, .int 8, .int 64, .int 256, .int 0, .int (-1), .int 0, .int 0, .int 0])), (q1, .inr (0, [.ref q2])), (q2, .inl (c3, 600, .inl (fun _ => 0))), (q4, .inr (4, [.int 0, .int 8, .int (-1), .int (-1), .int 0, .int 0, .int 0, .int 0]))]) (va_A [(h0, .inr (3, [.null, .null, .int 0, .int 0, .int 0, .int 0, .int 0, .int 0, .int 0, .int 0, .int 0, .int 0, .int 0, .int 0, .int 0]))] sz)) 3 609 (va_A [(h0, .inr (3, [.null, .null, .int 0, .int 0, .int 0, .int 0, .int 0, .int 0, .int 0, .int 0, .int 0, .int 0, .int 0, .int 0, .int 0]))] sz) := by
  refine Met.ofW (cc := prog_5_method_1_code) (maxL := 1) (ret := none) (by decide +kernel) rfl ?_
  intro p e s m args below meth c s₁ B hml hv
  obtain ⟨rfl, hsz, hP, hK, hD0, hN⟩ := hv
  have hx := B.exec
  have hb := B.bytes
  have hr := B.returns
  have hts : ∀ x ∈ zT, x.before ([.ref h0] : List Value).toArray s = true := fun x hx => atoms_spec (ws := Cond.code ({ cls := "SluiceStream$Sender", name := "<init>", desc := "()V" } : Jvm.MethodName) prog_5_method_1_code 1 none :: zT) B.pre x (List.mem_cons_of_mem _ hx)
  have hown : s.vm.findClass "SluiceStream$Sender" = some m.cls := findClass_of_methodNamed B.named
  have hlocks := B.notSynchronized
  have hin : meth.name = "<init>" := (name_of_methodNamed B.named B.method).1
  subst hsz
  have hD := hD0.self (sz := s.heap.size)
  generalize hAe : va_A [(h0, .inr (3, [.null, .null, .int 0, .int 0, .int 0, .int 0, .int 0, .int 0, .int 0, .int 0, .int 0, .int 0, .int 0, .int 0, .int 0]))] s.heap.size = A at hD ⊢
  have hA : ∀ q : Nat, s.heap.size ≤ q → A q := fun q h => by rw [← hAe]; exact Or.inr h
  have hS : va_S A s.heap s.heap [] := va_S.rf
  have hP : va_P D zcl [(h0, .inr (3, [.null, .null, .int 0, .int 0, .int 0, .int 0, .int 0, .int 0, .int 0, .int 0, .int 0, .int 0, .int 0, .int 0, .int 0]))] s.heap := hP
  have hl := lv_entry ([.ref h0] : List Value) (n := 1) (Nat.le_of_ble_eq_true rfl)
  rw [lg_entry_eq]
  generalize (lg_sl ([.ref h0] : List Value) ++ List.replicate (1 - (lg_sl ([.ref h0] : List Value)).length) Slot.unset).toArray = ls at hl ⊢
  have hl : lv_has ls 1 [(0, .ref h0)] := hl
  refine lv_aload_n hx hb zd_S_init_0 rfl (lv_at hl 0 rfl) ?_
  refine W.objInit hx hb hown (hts _ zm27) (hts _ zm20) (hts _ zm21) rfl (by rw [hml]; exact hl.1) rfl zd_S_init_1 (Nat.le_of_ble_eq_true rfl) (Nat.le_of_ble_eq_true rfl) ?_
  refine W.eq (g2 := F0 m 4 ls []) rfl ?_
  refine lv_aload_n hx hb zd_S_init_4 rfl (lv_at hl 0 rfl) ?_
  refine va_new (ci := 0) (fs := [.null]) (C := "SluiceStream$Positions") (T := zF0) (N := 1) hx hb hts zin0 zY0 zYo0 hown (hts _ zm28) (hts _ zm29) (hts _ zm3) hK hP hD hS hA rfl (zdf0) (by show 0 + 1 ≤ _; exact Nat.le_of_ble_eq_true rfl) (by show 0 + 1 ≤ _; exact Nat.le_of_ble_eq_true rfl) zd_S_init_5 (fun q1 H hP hD hS => ?_)
  have hP : va_P D zcl [(h0, .inr (3, [.null, .null, .int 0, .int 0, .int 0, .int 0, .int 0, .int 0, .int 0, .int 0, .int 0, .int 0, .int 0, .int 0, .int 0])), (q1, .inr (0, [.null]))] H := hP
  have hD : va_D A [(h0, .inr (3, [.null, .null, .int 0, .int 0, .int 0, .int 0, .int 0, .int 0, .int 0, .int 0, .int 0, .int 0, .int 0, .int 0, .int 0])), (q1, .inr (0, [.null]))] := hD
  refine W.widen (k := 1) (n := 1) (Nat.le_of_ble_eq_true rfl) (Nat.le_of_ble_eq_true rfl) ?_
  refine lv_dup hx hb zd_S_init_8 rfl ?_
  have hPc := hP.sub (ws' := [(q1, .inr (0, [.null]))]) [1] rfl
  have hDc := hD.sub (ws' := [(q1, .inr (0, [.null]))]) [1] (by decide) rfl
  have hKc := hK.sub (tys' := []) [] rfl
  have hFc := va_free (wc := [(q1, .inr (0, [.null]))]) hD hS hA [1] rfl
  refine va_callv (va_runIN (As := []) (rest := [.ref q1, .ref h0]) ⟨hx, hb, hml, hown, hts⟩ (ct_P l D q1 H.size) (⟨va_cnB 0 hts (zgood (fun _ h => h) zm32) rfl rfl rfl (hN.2.1) (hts _ zm3) (by decide +kernel) ⟨Nat.le_of_ble_eq_true rfl, Nat.le_of_ble_eq_true rfl⟩, rfl, hts _ zm31⟩) ⟨zcblind, fun U hU hW => ⟨rfl, by rw [hU], by rw [hU]; exact hPc, va_K.moved hW.alike hKc, hDc.weaken (fun _ _ _ _ => trivial), zNn_moved hW hN⟩⟩ rfl rfl hl.1 rfl (lv_room (Nat.le_of_ble_eq_true rfl)) zd_S_init_9 ⟨by show 1 + 1 ≤ _; exact Nat.le_of_ble_eq_true rfl, by show 1 + 600 ≤ _; exact Nat.le_of_ble_eq_true rfl⟩) hS (fun q _ h => hFc q h) hFc (fun u t H1 locs ht hvm hw hB hz1 hk1 hS => ?_)
  obtain ⟨q2, c3, hP1, hK1, hD1⟩ := hB
  rw [ht] at hP1
  have hK1 := va_K.moved hvm.symm hK1
  obtain ⟨hP, hD⟩ := va_join (wr := [(h0, .inr (3, [.null, .null, .int 0, .int 0, .int 0, .int 0, .int 0, .int 0, .int 0, .int 0, .int 0, .int 0, .int 0, .int 0, .int 0]))]) (w1 := [(q1, .inr (0, [.ref q2])), (q2, .inl (c3, 600, .inl (fun _ => 0)))]) hP hD [1] [0] rfl rfl (by decide) (by decide) hk1 hFc hP1 hD1
  have hK := (hK.sub (tys' := []) [] rfl).app hK1
  generalize H1 = H at hP hS ⊢
  have hP : va_P D zcl [(h0, .inr (3, [.null, .null, .int 0, .int 0, .int 0, .int 0, .int 0, .int 0, .int 0, .int 0, .int 0, .int 0, .int 0, .int 0, .int 0])), (q1, .inr (0, [.ref q2])), (q2, .inl (c3, 600, .inl (fun _ => 0)))] H := hP
  have hD : va_D A [(h0, .inr (3, [.null, .null, .int 0, .int 0, .int 0, .int 0, .int 0, .int 0, .int 0, .int 0, .int 0, .int 0, .int 0, .int 0, .int 0])), (q1, .inr (0, [.ref q2])), (q2, .inl (c3, 600, .inl (fun _ => 0)))] := hD
  have hK : va_K D zcl [(c3, .int)] s := hK
  refine W.widen (k := 2) (n := 601) (Nat.le_of_ble_eq_true rfl) (Nat.le_of_ble_eq_true rfl) ?_
  refine va_putF (D := D) (ref := "SluiceStream$Sender") (ci := 3) (v := .ref q1) (ty := zY3 0) (C := "SluiceStream$Sender") (T := zF3) (N := 15) hx hb hts zin3 zY3 zYo3 zNm3 hown hK hP hD hS 0 rfl rfl 0 (Nat.le_of_ble_eq_true rfl) (hts _ zm74) (fun _ h9 => h9) rfl hin rfl (by decide +kernel) rfl rfl (Nat.le_of_ble_eq_true rfl) zd_S_init_12 (fun H locs hP hD hS => ?_)
  have hP : va_P D zcl [(h0, .inr (3, [.ref q1, .null, .int 0, .int 0, .int 0, .int 0, .int 0, .int 0, .int 0, .int 0, .int 0, .int 0, .int 0, .int 0, .int 0])), (q1, .inr (0, [.ref q2])), (q2, .inl (c3, 600, .inl (fun _ => 0)))] H := hP
  have hD : va_D A [(h0, .inr (3, [.ref q1, .null, .int 0, .int 0, .int 0, .int 0, .int 0, .int 0, .int 0, .int 0, .int 0, .int 0, .int 0, .int 0, .int 0])), (q1, .inr (0, [.ref q2])), (q2, .inl (c3, 600, .inl (fun _ => 0)))] := hD
  refine lv_aload_n hx hb zd_S_init_15 rfl (lv_at hl 0 rfl) ?_
  refine va_new (ci := 4) (fs := [.int 0, .int 0, .int 0, .int 0, .int 0, .int 0, .int 0, .int 0]) (C := "SluiceStream$Timer") (T := zF4) (N := 8) hx hb hts zin4 zY4 zYo4 hown (hts _ zm39) (hts _ zm40) (hts _ zm4) hK hP hD hS hA rfl (zdf4) (by show 2 + 1 ≤ _; exact Nat.le_of_ble_eq_true rfl) (by show 601 + 8 ≤ _; exact Nat.le_of_ble_eq_true rfl) zd_S_init_16 (fun q4 H hP hD hS => ?_)
  have hP : va_P D zcl [(h0, .inr (3, [.ref q1, .null, .int 0, .int 0, .int 0, .int 0, .int 0, .int 0, .int 0, .int 0, .int 0, .int 0, .int 0, .int 0, .int 0])), (q1, .inr (0, [.ref q2])), (q2, .inl (c3, 600, .inl (fun _ => 0))), (q4, .inr (4, [.int 0, .int 0, .int 0, .int 0, .int 0, .int 0, .int 0, .int 0]))] H := hP
  have hD : va_D A [(h0, .inr (3, [.ref q1, .null, .int 0, .int 0, .int 0, .int 0, .int 0, .int 0, .int 0, .int 0, .int 0, .int 0, .int 0, .int 0, .int 0])), (q1, .inr (0, [.ref q2])), (q2, .inl (c3, 600, .inl (fun _ => 0))), (q4, .inr (4, [.int 0, .int 0, .int 0, .int 0, .int 0, .int 0, .int 0, .int 0]))] := hD
  refine W.widen (k := 3) (n := 609) (Nat.le_of_ble_eq_true rfl) (Nat.le_of_ble_eq_true rfl) ?_
  refine lv_dup hx hb zd_S_init_19 rfl ?_
  have hPc := hP.sub (ws' := [(q4, .inr (4, [.int 0, .int 0, .int 0, .int 0, .int 0, .int 0, .int 0, .int 0]))]) [3] rfl
  have hDc := hD.sub (ws' := [(q4, .inr (4, [.int 0, .int 0, .int 0, .int 0, .int 0, .int 0, .int 0, .int 0]))]) [3] (by decide) rfl
  have hKc := hK.sub (tys' := []) [] rfl
  have hFc := va_free (wc := [(q4, .inr (4, [.int 0, .int 0, .int 0, .int 0, .int 0, .int 0, .int 0, .int 0]))]) hD hS hA [3] rfl
  refine va_callv (va_runIN (As := []) (rest := [.ref q4, .ref h0]) ⟨hx, hb, hml, hown, hts⟩ (ct_T l D q4 H.size) (⟨va_cnB 0 hts (zgood (fun _ h => h) zm43) rfl rfl rfl (hN.2.2.1) (hts _ zm4) (by decide +kernel) ⟨Nat.le_of_ble_eq_true rfl, Nat.le_of_ble_eq_true rfl⟩, rfl, hts _ zm42⟩) ⟨zcblind, fun U hU hW => ⟨rfl, by rw [hU], by rw [hU]; exact hPc, va_K.moved hW.alike hKc, hDc.weaken (fun _ _ _ _ => trivial), zNn_moved hW hN⟩⟩ rfl rfl hl.1 rfl (lv_room (Nat.le_of_ble_eq_true rfl)) zd_S_init_20 ⟨by show 3 + 0 ≤ _; exact Nat.le_of_ble_eq_true rfl, by show 609 + 0 ≤ _; exact Nat.le_of_ble_eq_true rfl⟩) hS (fun q _ h => hFc q h) hFc (fun u t H1 locs ht hvm hw hB hz1 hk1 hS => ?_)
  obtain ⟨hP1, hK1, hD1⟩ := hB
  rw [ht] at hP1
  have hK1 := va_K.moved hvm.symm hK1
  obtain ⟨hP, hD⟩ := va_join (wr := [(h0, .inr (3, [.ref q1, .null, .int 0, .int 0, .int 0, .int 0, .int 0, .int 0, .int 0, .int 0, .int 0, .int 0, .int 0, .int 0, .int 0])), (q1, .inr (0, [.ref q2])), (q2, .inl (c3, 600, .inl (fun _ => 0)))]) (w1 := [(q4, .inr (4, [.int 0, .int 8, .int (-1), .int (-1), .int 0, .int 0, .int 0, .int 0]))]) hP hD [3] [0, 1, 2] rfl rfl (by decide) (by decide) hk1 hFc hP1 hD1
  have hK := (hK.sub (tys' := [(c3, .int)]) [0] rfl).app hK1
  generalize H1 = H at hP hS ⊢
  have hP : va_P D zcl [(h0, .inr (3, [.ref q1, .null, .int 0, .int 0, .int 0, .int 0, .int 0, .int 0, .int 0, .int 0, .int 0, .int 0, .int 0, .int 0, .int 0])), (q1, .inr (0, [.ref q2])), (q2, .inl (c3, 600, .inl (fun _ => 0))), (q4, .inr (4, [.int 0, .int 8, .int (-1), .int (-1), .int 0, .int 0, .int 0, .int 0]))] H := hP
  have hD : va_D A [(h0, .inr (3, [.ref q1, .null, .int 0, .int 0, .int 0, .int 0, .int 0, .int 0, .int 0, .int 0, .int 0, .int 0, .int 0, .int 0, .int 0])), (q1, .inr (0, [.ref q2])), (q2, .inl (c3, 600, .inl (fun _ => 0))), (q4, .inr (4, [.int 0, .int 8, .int (-1), .int (-1), .int 0, .int 0, .int 0, .int 0]))] := hD
  have hK : va_K D zcl [(c3, .int)] s := hK
  refine W.widen (k := 3) (n := 609) (Nat.le_of_ble_eq_true rfl) (Nat.le_of_ble_eq_true rfl) ?_
  refine va_putF (D := D) (ref := "SluiceStream$Sender") (ci := 3) (v := .ref q4) (ty := zY3 1) (C := "SluiceStream$Sender") (T := zF3) (N := 15) hx hb hts zin3 zY3 zYo3 zNm3 hown hK hP hD hS 0 rfl rfl 1 (Nat.le_of_ble_eq_true rfl) (hts _ zm76) (fun _ h9 => h9) rfl hin rfl (by decide +kernel) rfl rfl (Nat.le_of_ble_eq_true rfl) zd_S_init_23 (fun H locs hP hD hS => ?_)
  have hP : va_P D zcl [(h0, .inr (3, [.ref q1, .ref q4, .int 0, .int 0, .int 0, .int 0, .int 0, .int 0, .int 0, .int 0, .int 0, .int 0, .int 0, .int 0, .int 0])), (q1, .inr (0, [.ref q2])), (q2, .inl (c3, 600, .inl (fun _ => 0))), (q4, .inr (4, [.int 0, .int 8, .int (-1), .int (-1), .int 0, .int 0, .int 0, .int 0]))] H := hP
  have hD : va_D A [(h0, .inr (3, [.ref q1, .ref q4, .int 0, .int 0, .int 0, .int 0, .int 0, .int 0, .int 0, .int 0, .int 0, .int 0, .int 0, .int 0, .int 0])), (q1, .inr (0, [.ref q2])), (q2, .inl (c3, 600, .inl (fun _ => 0))), (q4, .inr (4, [.int 0, .int 8, .int (-1), .int (-1), .int 0, .int 0, .int 0, .int 0]))] := hD
  refine lv_aload_n hx hb zd_S_init_26 rfl (lv_at hl 0 rfl) ?_
  refine lv_iconst (v := 0) hx hb zd_S_init_27 (by decide) ?_
  refine va_put (D := D) (ref := "SluiceStream$Sender") (ci := 3) (v := .int 0) (ty := zY3 2) (C := "SluiceStream$Sender") (T := zF3) (N := 15) hx hb hts zin3 zY3 zYo3 zNm3 hown hK hP hD hS 0 rfl rfl 2 (Nat.le_of_ble_eq_true rfl) (hts _ zm78) (fun _ h9 => h9) rfl (by decide +kernel) rfl rfl (Nat.le_of_ble_eq_true rfl) zd_S_init_28 (fun H locs hP hD hS => ?_)
  have hP : va_P D zcl [(h0, .inr (3, [.ref q1, .ref q4, .int 0, .int 0, .int 0, .int 0, .int 0, .int 0, .int 0, .int 0, .int 0, .int 0, .int 0, .int 0, .int 0])), (q1, .inr (0, [.ref q2])), (q2, .inl (c3, 600, .inl (fun _ => 0))), (q4, .inr (4, [.int 0, .int 8, .int (-1), .int (-1), .int 0, .int 0, .int 0, .int 0]))] H := hP
  have hD : va_D A [(h0, .inr (3, [.ref q1, .ref q4, .int 0, .int 0, .int 0, .int 0, .int 0, .int 0, .int 0, .int 0, .int 0, .int 0, .int 0, .int 0, .int 0])), (q1, .inr (0, [.ref q2])), (q2, .inl (c3, 600, .inl (fun _ => 0))), (q4, .inr (4, [.int 0, .int 8, .int (-1), .int (-1), .int 0, .int 0, .int 0, .int 0]))] := hD
  refine lv_aload_n hx hb zd_S_init_31 rfl (lv_at hl 0 rfl) ?_
  refine lv_iconst (v := 0) hx hb zd_S_init_32 (by decide) ?_
  refine va_put (D := D) (ref := "SluiceStream$Sender") (ci := 3) (v := .int 0) (ty := zY3 3) (C := "SluiceStream$Sender") (T := zF3) (N := 15) hx hb hts zin3 zY3 zYo3 zNm3 hown hK hP hD hS 0 rfl rfl 3 (Nat.le_of_ble_eq_true rfl) (hts _ zm80) (fun _ h9 => h9) rfl (by decide +kernel) rfl rfl (Nat.le_of_ble_eq_true rfl) zd_S_init_33 (fun H locs hP hD hS => ?_)
  have hP : va_P D zcl [(h0, .inr (3, [.ref q1, .ref q4, .int 0, .int 0, .int 0, .int 0, .int 0, .int 0, .int 0, .int 0, .int 0, .int 0, .int 0, .int 0, .int 0])), (q1, .inr (0, [.ref q2])), (q2, .inl (c3, 600, .inl (fun _ => 0))), (q4, .inr (4, [.int 0, .int 8, .int (-1), .int (-1), .int 0, .int 0, .int 0, .int 0]))] H := hP
  have hD : va_D A [(h0, .inr (3, [.ref q1, .ref q4, .int 0, .int 0, .int 0, .int 0, .int 0, .int 0, .int 0, .int 0, .int 0, .int 0, .int 0, .int 0, .int 0])), (q1, .inr (0, [.ref q2])), (q2, .inl (c3, 600, .inl (fun _ => 0))), (q4, .inr (4, [.int 0, .int 8, .int (-1), .int (-1), .int 0, .int 0, .int 0, .int 0]))] := hD
  refine lv_aload_n hx hb zd_S_init_36 rfl (lv_at hl 0 rfl) ?_
  refine lv_iconst (v := 0) hx hb zd_S_init_37 (by decide) ?_
  refine va_put (D := D) (ref := "SluiceStream$Sender") (ci := 3) (v := .int 0) (ty := zY3 4) (C := "SluiceStream$Sender") (T := zF3) (N := 15) hx hb hts zin3 zY3 zYo3 zNm3 hown hK hP hD hS 0 rfl rfl 4 (Nat.le_of_ble_eq_true rfl) (hts _ zm82) (fun _ h9 => h9) rfl (by decide +kernel) rfl rfl (Nat.le_of_ble_eq_true rfl) zd_S_init_38 (fun H locs hP hD hS => ?_)
  have hP : va_P D zcl [(h0, .inr (3, [.ref q1, .ref q4, .int 0, .int 0, .int 0, .int 0, .int 0, .int 0, .int 0, .int 0, .int 0, .int 0, .int 0, .int 0, .int 0])), (q1, .inr (0, [.ref q2])), (q2, .inl (c3, 600, .inl (fun _ => 0))), (q4, .inr (4, [.int 0, .int 8, .int (-1), .int (-1), .int 0, .int 0, .int 0, .int 0]))] H := hP
  have hD : va_D A [(h0, .inr (3, [.ref q1, .ref q4, .int 0, .int 0, .int 0, .int 0, .int 0, .int 0, .int 0, .int 0, .int 0, .int 0, .int 0, .int 0, .int 0])), (q1, .inr (0, [.ref q2])), (q2, .inl (c3, 600, .inl (fun _ => 0))), (q4, .inr (4, [.int 0, .int 8, .int (-1), .int (-1), .int 0, .int 0, .int 0, .int 0]))] := hD
  refine lv_aload_n hx hb zd_S_init_41 rfl (lv_at hl 0 rfl) ?_
  refine lv_iconst (v := 0) hx hb zd_S_init_42 (by decide) ?_
  refine va_put (D := D) (ref := "SluiceStream$Sender") (ci := 3) (v := .int 0) (ty := zY3 5) (C := "SluiceStream$Sender") (T := zF3) (N := 15) hx hb hts zin3 zY3 zYo3 zNm3 hown hK hP hD hS 0 rfl rfl 5 (Nat.le_of_ble_eq_true rfl) (hts _ zm84) (fun _ h9 => h9) rfl (by decide +kernel) rfl rfl (Nat.le_of_ble_eq_true rfl) zd_S_init_43 (fun H locs hP hD hS => ?_)
  have hP : va_P D zcl [(h0, .inr (3, [.ref q1, .ref q4, .int 0, .int 0, .int 0, .int 0, .int 0, .int 0, .int 0, .int 0, .int 0, .int 0, .int 0, .int 0, .int 0])), (q1, .inr (0, [.ref q2])), (q2, .inl (c3, 600, .inl (fun _ => 0))), (q4, .inr (4, [.int 0, .int 8, .int (-1), .int (-1), .int 0, .int 0, .int 0, .int 0]))] H := hP
  have hD : va_D A [(h0, .inr (3, [.ref q1, .ref q4, .int 0, .int 0, .int 0, .int 0, .int 0, .int 0, .int 0, .int 0, .int 0, .int 0, .int 0, .int 0, .int 0])), (q1, .inr (0, [.ref q2])), (q2, .inl (c3, 600, .inl (fun _ => 0))), (q4, .inr (4, [.int 0, .int 8, .int (-1), .int (-1), .int 0, .int 0, .int 0, .int 0]))] := hD
  refine lv_aload_n hx hb zd_S_init_46 rfl (lv_at hl 0 rfl) ?_
  refine lv_bipush (v := 32) hx hb zd_S_init_47 (by decide) ?_
  refine va_put (D := D) (ref := "SluiceStream$Sender") (ci := 3) (v := .int 32) (ty := zY3 6) (C := "SluiceStream$Sender") (T := zF3) (N := 15) hx hb hts zin3 zY3 zYo3 zNm3 hown hK hP hD hS 0 rfl rfl 6 (Nat.le_of_ble_eq_true rfl) (hts _ zm86) (fun _ h9 => h9) rfl (by decide +kernel) rfl rfl (Nat.le_of_ble_eq_true rfl) zd_S_init_49 (fun H locs hP hD hS => ?_)
  have hP : va_P D zcl [(h0, .inr (3, [.ref q1, .ref q4, .int 0, .int 0, .int 0, .int 0, .int 32, .int 0, .int 0, .int 0, .int 0, .int 0, .int 0, .int 0, .int 0])), (q1, .inr (0, [.ref q2])), (q2, .inl (c3, 600, .inl (fun _ => 0))), (q4, .inr (4, [.int 0, .int 8, .int (-1), .int (-1), .int 0, .int 0, .int 0, .int 0]))] H := hP
  have hD : va_D A [(h0, .inr (3, [.ref q1, .ref q4, .int 0, .int 0, .int 0, .int 0, .int 32, .int 0, .int 0, .int 0, .int 0, .int 0, .int 0, .int 0, .int 0])), (q1, .inr (0, [.ref q2])), (q2, .inl (c3, 600, .inl (fun _ => 0))), (q4, .inr (4, [.int 0, .int 8, .int (-1), .int (-1), .int 0, .int 0, .int 0, .int 0]))] := hD
  refine lv_aload_n hx hb zd_S_init_52 rfl (lv_at hl 0 rfl) ?_
  refine lv_bipush (v := 8) hx hb zd_S_init_53 (by decide) ?_
  refine va_put (D := D) (ref := "SluiceStream$Sender") (ci := 3) (v := .int 8) (ty := zY3 7) (C := "SluiceStream$Sender") (T := zF3) (N := 15) hx hb hts zin3 zY3 zYo3 zNm3 hown hK hP hD hS 0 rfl rfl 7 (Nat.le_of_ble_eq_true rfl) (hts _ zm88) (fun _ h9 => h9) rfl (by decide +kernel) rfl rfl (Nat.le_of_ble_eq_true rfl) zd_S_init_55 (fun H locs hP hD hS => ?_)
  have hP : va_P D zcl [(h0, .inr (3, [.ref q1, .ref q4, .int 0, .int 0, .int 0, .int 0, .int 32, .int 8, .int 0, .int 0, .int 0, .int 0, .int 0, .int 0, .int 0])), (q1, .inr (0, [.ref q2])), (q2, .inl (c3, 600, .inl (fun _ => 0))), (q4, .inr (4, [.int 0, .int 8, .int (-1), .int (-1), .int 0, .int 0, .int 0, .int 0]))] H := hP
  have hD : va_D A [(h0, .inr (3, [.ref q1, .ref q4, .int 0, .int 0, .int 0, .int 0, .int 32, .int 8, .int 0, .int 0, .int 0, .int 0, .int 0, .int 0, .int 0])), (q1, .inr (0, [.ref q2])), (q2, .inl (c3, 600, .inl (fun _ => 0))), (q4, .inr (4, [.int 0, .int 8, .int (-1), .int (-1), .int 0, .int 0, .int 0, .int 0]))] := hD
  refine lv_aload_n hx hb zd_S_init_58 rfl (lv_at hl 0 rfl) ?_
  refine lv_bipush (v := 64) hx hb zd_S_init_59 (by decide) ?_
  refine va_put (D := D) (ref := "SluiceStream$Sender") (ci := 3) (v := .int 64) (ty := zY3 8) (C := "SluiceStream$Sender") (T := zF3) (N := 15) hx hb hts zin3 zY3 zYo3 zNm3 hown hK hP hD hS 0 rfl rfl 8 (Nat.le_of_ble_eq_true rfl) (hts _ zm90) (fun _ h9 => h9) rfl (by decide +kernel) rfl rfl (Nat.le_of_ble_eq_true rfl) zd_S_init_61 (fun H locs hP hD hS => ?_)
  have hP : va_P D zcl [(h0, .inr (3, [.ref q1, .ref q4, .int 0, .int 0, .int 0, .int 0, .int 32, .int 8, .int 64, .int 0, .int 0, .int 0, .int 0, .int 0, .int 0])), (q1, .inr (0, [.ref q2])), (q2, .inl (c3, 600, .inl (fun _ => 0))), (q4, .inr (4, [.int 0, .int 8, .int (-1), .int (-1), .int 0, .int 0, .int 0, .int 0]))] H := hP
  have hD : va_D A [(h0, .inr (3, [.ref q1, .ref q4, .int 0, .int 0, .int 0, .int 0, .int 32, .int 8, .int 64, .int 0, .int 0, .int 0, .int 0, .int 0, .int 0])), (q1, .inr (0, [.ref q2])), (q2, .inl (c3, 600, .inl (fun _ => 0))), (q4, .inr (4, [.int 0, .int 8, .int (-1), .int (-1), .int 0, .int 0, .int 0, .int 0]))] := hD
  refine lv_aload_n hx hb zd_S_init_64 rfl (lv_at hl 0 rfl) ?_
  refine lv_sipush (v := 256) hx hb zd_S_init_65 (by decide) ?_
  refine va_put (D := D) (ref := "SluiceStream$Sender") (ci := 3) (v := .int 256) (ty := zY3 9) (C := "SluiceStream$Sender") (T := zF3) (N := 15) hx hb hts zin3 zY3 zYo3 zNm3 hown hK hP hD hS 0 rfl rfl 9 (Nat.le_of_ble_eq_true rfl) (hts _ zm92) (fun _ h9 => h9) rfl (by decide +kernel) rfl rfl (Nat.le_of_ble_eq_true rfl) zd_S_init_68 (fun H locs hP hD hS => ?_)
  have hP : va_P D zcl [(h0, .inr (3, [.ref q1, .ref q4, .int 0, .int 0, .int 0, .int 0, .int 32, .int 8, .int 64, .int 256, .int 0, .int 0, .int 0, .int 0, .int 0])), (q1, .inr (0, [.ref q2])), (q2, .inl (c3, 600, .inl (fun _ => 0))), (q4, .inr (4, [.int 0, .int 8, .int (-1), .int (-1), .int 0, .int 0, .int 0, .int 0]))] H := hP
  have hD : va_D A [(h0, .inr (3, [.ref q1, .ref q4, .int 0, .int 0, .int 0, .int 0, .int 32, .int 8, .int 64, .int 256, .int 0, .int 0, .int 0, .int 0, .int 0])), (q1, .inr (0, [.ref q2])), (q2, .inl (c3, 600, .inl (fun _ => 0))), (q4, .inr (4, [.int 0, .int 8, .int (-1), .int (-1), .int 0, .int 0, .int 0, .int 0]))] := hD
  refine lv_aload_n hx hb zd_S_init_71 rfl (lv_at hl 0 rfl) ?_
  refine lv_iconst (v := 0) hx hb zd_S_init_72 (by decide) ?_
  refine va_put (D := D) (ref := "SluiceStream$Sender") (ci := 3) (v := .int 0) (ty := zY3 10) (C := "SluiceStream$Sender") (T := zF3) (N := 15) hx hb hts zin3 zY3 zYo3 zNm3 hown hK hP hD hS 0 rfl rfl 10 (Nat.le_of_ble_eq_true rfl) (hts _ zm93) (fun _ h9 => h9) rfl (by decide +kernel) rfl rfl (Nat.le_of_ble_eq_true rfl) zd_S_init_73 (fun H locs hP hD hS => ?_)
  have hP : va_P D zcl [(h0, .inr (3, [.ref q1, .ref q4, .int 0, .int 0, .int 0, .int 0, .int 32, .int 8, .int 64, .int 256, .int 0, .int 0, .int 0, .int 0, .int 0])), (q1, .inr (0, [.ref q2])), (q2, .inl (c3, 600, .inl (fun _ => 0))), (q4, .inr (4, [.int 0, .int 8, .int (-1), .int (-1), .int 0, .int 0, .int 0, .int 0]))] H := hP
  have hD : va_D A [(h0, .inr (3, [.ref q1, .ref q4, .int 0, .int 0, .int 0, .int 0, .int 32, .int 8, .int 64, .int 256, .int 0, .int 0, .int 0, .int 0, .int 0])), (q1, .inr (0, [.ref q2])), (q2, .inl (c3, 600, .inl (fun _ => 0))), (q4, .inr (4, [.int 0, .int 8, .int (-1), .int (-1), .int 0, .int 0, .int 0, .int 0]))] := hD
  refine lv_aload_n hx hb zd_S_init_76 rfl (lv_at hl 0 rfl) ?_
  refine lv_iconst (v := (-1)) hx hb zd_S_init_77 (by decide) ?_
  refine va_put (D := D) (ref := "SluiceStream$Sender") (ci := 3) (v := .int (-1)) (ty := zY3 11) (C := "SluiceStream$Sender") (T := zF3) (N := 15) hx hb hts zin3 zY3 zYo3 zNm3 hown hK hP hD hS 0 rfl rfl 11 (Nat.le_of_ble_eq_true rfl) (hts _ zm95) (fun _ h9 => h9) rfl (by decide +kernel) rfl rfl (Nat.le_of_ble_eq_true rfl) zd_S_init_78 (fun H locs hP hD hS => ?_)
  have hP : va_P D zcl [(h0, .inr (3, [.ref q1, .ref q4, .int 0, .int 0, .int 0, .int 0, .int 32, .int 8, .int 64, .int 256, .int 0, .int (-1), .int 0, .int 0, .int 0])), (q1, .inr (0, [.ref q2])), (q2, .inl (c3, 600, .inl (fun _ => 0))), (q4, .inr (4, [.int 0, .int 8, .int (-1), .int (-1), .int 0, .int 0, .int 0, .int 0]))] H := hP
  have hD : va_D A [(h0, .inr (3, [.ref q1, .ref q4, .int 0, .int 0, .int 0, .int 0, .int 32, .int 8, .int 64, .int 256, .int 0, .int (-1), .int 0, .int 0, .int 0])), (q1, .inr (0, [.ref q2])), (q2, .inl (c3, 600, .inl (fun _ => 0))), (q4, .inr (4, [.int 0, .int 8, .int (-1), .int (-1), .int 0, .int 0, .int 0, .int 0]))] := hD
  refine lv_aload_n hx hb zd_S_init_81 rfl (lv_at hl 0 rfl) ?_
  refine lv_iconst (v := 0) hx hb zd_S_init_82 (by decide) ?_
  refine va_put (D := D) (ref := "SluiceStream$Sender") (ci := 3) (v := .int 0) (ty := zY3 12) (C := "SluiceStream$Sender") (T := zF3) (N := 15) hx hb hts zin3 zY3 zYo3 zNm3 hown hK hP hD hS 0 rfl rfl 12 (Nat.le_of_ble_eq_true rfl) (hts _ zm97) (fun _ h9 => h9) rfl (by decide +kernel) rfl rfl (Nat.le_of_ble_eq_true rfl) zd_S_init_83 (fun H locs hP hD hS => ?_)
  have hP : va_P D zcl [(h0, .inr (3, [.ref q1, .ref q4, .int 0, .int 0, .int 0, .int 0, .int 32, .int 8, .int 64, .int 256, .int 0, .int (-1), .int 0, .int 0, .int 0])), (q1, .inr (0, [.ref q2])), (q2, .inl (c3, 600, .inl (fun _ => 0))), (q4, .inr (4, [.int 0, .int 8, .int (-1), .int (-1), .int 0, .int 0, .int 0, .int 0]))] H := hP
  have hD : va_D A [(h0, .inr (3, [.ref q1, .ref q4, .int 0, .int 0, .int 0, .int 0, .int 32, .int 8, .int 64, .int 256, .int 0, .int (-1), .int 0, .int 0, .int 0])), (q1, .inr (0, [.ref q2])), (q2, .inl (c3, 600, .inl (fun _ => 0))), (q4, .inr (4, [.int 0, .int 8, .int (-1), .int (-1), .int 0, .int 0, .int 0, .int 0]))] := hD
  refine lv_aload_n hx hb zd_S_init_86 rfl (lv_at hl 0 rfl) ?_
  refine lv_iconst (v := 0) hx hb zd_S_init_87 (by decide) ?_
  refine va_put (D := D) (ref := "SluiceStream$Sender") (ci := 3) (v := .int 0) (ty := zY3 13) (C := "SluiceStream$Sender") (T := zF3) (N := 15) hx hb hts zin3 zY3 zYo3 zNm3 hown hK hP hD hS 0 rfl rfl 13 (Nat.le_of_ble_eq_true rfl) (hts _ zm98) (fun _ h9 => h9) rfl (by decide +kernel) rfl rfl (Nat.le_of_ble_eq_true rfl) zd_S_init_88 (fun H locs hP hD hS => ?_)
  have hP : va_P D zcl [(h0, .inr (3, [.ref q1, .ref q4, .int 0, .int 0, .int 0, .int 0, .int 32, .int 8, .int 64, .int 256, .int 0, .int (-1), .int 0, .int 0, .int 0])), (q1, .inr (0, [.ref q2])), (q2, .inl (c3, 600, .inl (fun _ => 0))), (q4, .inr (4, [.int 0, .int 8, .int (-1), .int (-1), .int 0, .int 0, .int 0, .int 0]))] H := hP
  have hD : va_D A [(h0, .inr (3, [.ref q1, .ref q4, .int 0, .int 0, .int 0, .int 0, .int 32, .int 8, .int 64, .int 256, .int 0, .int (-1), .int 0, .int 0, .int 0])), (q1, .inr (0, [.ref q2])), (q2, .inl (c3, 600, .inl (fun _ => 0))), (q4, .inr (4, [.int 0, .int 8, .int (-1), .int (-1), .int 0, .int 0, .int 0, .int 0]))] := hD
  refine lv_aload_n hx hb zd_S_init_91 rfl (lv_at hl 0 rfl) ?_
  refine lv_iconst (v := 0) hx hb zd_S_init_92 (by decide) ?_
  refine va_put (D := D) (ref := "SluiceStream$Sender") (ci := 3) (v := .int 0) (ty := zY3 14) (C := "SluiceStream$Sender") (T := zF3) (N := 15) hx hb hts zin3 zY3 zYo3 zNm3 hown hK hP hD hS 0 rfl rfl 14 (Nat.le_of_ble_eq_true rfl) (hts _ zm100) (fun _ h9 => h9) rfl (by decide +kernel) rfl rfl (Nat.le_of_ble_eq_true rfl) zd_S_init_93 (fun H locs hP hD hS => ?_)
  have hP : va_P D zcl [(h0, .inr (3, [.ref q1, .ref q4, .int 0, .int 0, .int 0, .int 0, .int 32, .int 8, .int 64, .int 256, .int 0, .int (-1), .int 0, .int 0, .int 0])), (q1, .inr (0, [.ref q2])), (q2, .inl (c3, 600, .inl (fun _ => 0))), (q4, .inr (4, [.int 0, .int 8, .int (-1), .int (-1), .int 0, .int 0, .int 0, .int 0]))] H := hP
  have hD : va_D A [(h0, .inr (3, [.ref q1, .ref q4, .int 0, .int 0, .int 0, .int 0, .int 32, .int 8, .int 64, .int 256, .int 0, .int (-1), .int 0, .int 0, .int 0])), (q1, .inr (0, [.ref q2])), (q2, .inl (c3, 600, .inl (fun _ => 0))), (q4, .inr (4, [.int 0, .int 8, .int (-1), .int (-1), .int 0, .int 0, .int 0, .int 0]))] := hD
  have hP9 := hP.sub (ws' := [(h0, .inr (3, [.ref q1, .ref q4, .int 0, .int 0, .int 0, .int 0, .int 32, .int 8, .int 64, .int 256, .int 0, .int (-1), .int 0, .int 0, .int 0])), (q1, .inr (0, [.ref q2])), (q2, .inl (c3, 600, .inl (fun _ => 0))), (q4, .inr (4, [.int 0, .int 8, .int (-1), .int (-1), .int 0, .int 0, .int 0, .int 0]))]) [0, 1, 2, 3] rfl
  have hD9 := hD.sub (ws' := [(h0, .inr (3, [.ref q1, .ref q4, .int 0, .int 0, .int 0, .int 0, .int 32, .int 8, .int 64, .int 256, .int 0, .int (-1), .int 0, .int 0, .int 0])), (q1, .inr (0, [.ref q2])), (q2, .inl (c3, 600, .inl (fun _ => 0))), (q4, .inr (4, [.int 0, .int 8, .int (-1), .int (-1), .int 0, .int 0, .int 0, .int 0]))]) [0, 1, 2, 3] (by decide) rfl
  exact W.vret hx hb hr (fun t ht hW => ⟨⟨(), rfl, trivial, q1, q2, q4, c3, by rw [ht]; exact hP9, va_K.moved hW.alike hK, hD9⟩, hS.F ht⟩) hS.2.2 zd_S_init_96
set_option maxHeartbeats 4000000 in
set_option maxRecDepth 100000 in
theorem ct_R (l : Launch) (D : va_G) (h0 sz : Nat) : Met l ({ cls := "SluiceStream$Receiver", name := "<init>", desc := "()V" } : Jvm.MethodName) (.code ({ cls := "SluiceStream$Receiver", name := "<init>", desc := "()V" } : Jvm.MethodName) prog_3_method_1_code 1 none :: zT) ({ frames := 2, cells := 2, slots := 601, locals := 32 } : Room) (va_Pc [.ref h0] (fun U => U.heap.size = sz ∧ va_P D zcl [(h0, .inr (1, [.null, .int 0, .int 0, .int 0]))] U.heap ∧ va_K D zcl [] U ∧ va_D (fun _ => True) [(h0, .inr (1, [.null, .int 0, .int 0, .int 0]))] ∧ zNn U)) (va_Qv (fun (_ : Unit) => True) (fun (_ : Unit) (t : State) => ∃ (q1 q2 : Nat), ∃ (c3 : ClassId), va_P D zcl [(h0, .inr (1, [.ref q1, .int 0, .int 0, .int 0])), (q1, .inr (0, [.ref q2])), (q2, .inl (c3, 600, .inl (fun _ => 0)))] t.heap ∧ va_K D zcl [(c3, .int)] t ∧ va_D (va_A [(h0, .inr (1, [.null, .int 0, .int 0, .int 0]))] sz) [(h0, .inr (1, [.ref q1, .int 0, .int 0, .int 0])), (q1, .inr (0, [.ref q2])), (q2, .inl (c3, 600, .inl (fun _ => 0)))]) (va_A [(h0, .inr (1, [.null, .int 0, .int 0, .int 0]))] sz)) 2 601 (va_A [(h0, .inr (1, [.null, .int 0, .int 0, .int 0]))] sz) := by
  refine Met.ofW (cc := prog_3_method_1_code) (maxL := 1) (ret := none) (by decide +kernel) rfl ?_
  intro p e s m args below meth c s₁ B hml hv
  obtain ⟨rfl, hsz, hP, hK, hD0, hN⟩ := hv
  have hx := B.exec
  have hb := B.bytes
  have hr := B.returns
  have hts : ∀ x ∈ zT, x.before ([.ref h0] : List Value).toArray s = true := fun x hx => atoms_spec (ws := Cond.code ({ cls := "SluiceStream$Receiver", name := "<init>", desc := "()V" } : Jvm.MethodName) prog_3_method_1_code 1 none :: zT) B.pre x (List.mem_cons_of_mem _ hx)
  have hown : s.vm.findClass "SluiceStream$Receiver" = some m.cls := findClass_of_methodNamed B.named
  have hlocks := B.notSynchronized
  have hin : meth.name = "<init>" := (name_of_methodNamed B.named B.method).1
  subst hsz
  have hD := hD0.self (sz := s.heap.size)
  generalize hAe : va_A [(h0, .inr (1, [.null, .int 0, .int 0, .int 0]))] s.heap.size = A at hD ⊢
  have hA : ∀ q : Nat, s.heap.size ≤ q → A q := fun q h => by rw [← hAe]; exact Or.inr h
  have hS : va_S A s.heap s.heap [] := va_S.rf
  have hP : va_P D zcl [(h0, .inr (1, [.null, .int 0, .int 0, .int 0]))] s.heap := hP
  have hl := lv_entry ([.ref h0] : List Value) (n := 1) (Nat.le_of_ble_eq_true rfl)
  rw [lg_entry_eq]
  generalize (lg_sl ([.ref h0] : List Value) ++ List.replicate (1 - (lg_sl ([.ref h0] : List Value)).length) Slot.unset).toArray = ls at hl ⊢
  have hl : lv_has ls 1 [(0, .ref h0)] := hl
  refine lv_aload_n hx hb zd_R_init_0 rfl (lv_at hl 0 rfl) ?_
  refine W.objInit hx hb hown (hts _ zm138) (hts _ zm20) (hts _ zm21) rfl (by rw [hml]; exact hl.1) rfl zd_R_init_1 (Nat.le_of_ble_eq_true rfl) (Nat.le_of_ble_eq_true rfl) ?_
  refine W.eq (g2 := F0 m 4 ls []) rfl ?_
  refine lv_aload_n hx hb zd_R_init_4 rfl (lv_at hl 0 rfl) ?_
  refine va_new (ci := 0) (fs := [.null]) (C := "SluiceStream$Positions") (T := zF0) (N := 1) hx hb hts zin0 zY0 zYo0 hown (hts _ zm139) (hts _ zm29) (hts _ zm3) hK hP hD hS hA rfl (zdf0) (by show 0 + 1 ≤ _; exact Nat.le_of_ble_eq_true rfl) (by show 0 + 1 ≤ _; exact Nat.le_of_ble_eq_true rfl) zd_R_init_5 (fun q1 H hP hD hS => ?_)
  have hP : va_P D zcl [(h0, .inr (1, [.null, .int 0, .int 0, .int 0])), (q1, .inr (0, [.null]))] H := hP
  have hD : va_D A [(h0, .inr (1, [.null, .int 0, .int 0, .int 0])), (q1, .inr (0, [.null]))] := hD
  refine W.widen (k := 1) (n := 1) (Nat.le_of_ble_eq_true rfl) (Nat.le_of_ble_eq_true rfl) ?_
  refine lv_dup hx hb zd_R_init_8 rfl ?_
  have hPc := hP.sub (ws' := [(q1, .inr (0, [.null]))]) [1] rfl
  have hDc := hD.sub (ws' := [(q1, .inr (0, [.null]))]) [1] (by decide) rfl
  have hKc := hK.sub (tys' := []) [] rfl
  have hFc := va_free (wc := [(q1, .inr (0, [.null]))]) hD hS hA [1] rfl
  refine va_callv (va_runIN (As := []) (rest := [.ref q1, .ref h0]) ⟨hx, hb, hml, hown, hts⟩ (ct_P l D q1 H.size) (⟨va_cnB 0 hts (zgood (fun _ h => h) zm32) rfl rfl rfl (hN.2.2.2.2) (hts _ zm3) (by decide +kernel) ⟨Nat.le_of_ble_eq_true rfl, Nat.le_of_ble_eq_true rfl⟩, rfl, hts _ zm31⟩) ⟨zcblind, fun U hU hW => ⟨rfl, by rw [hU], by rw [hU]; exact hPc, va_K.moved hW.alike hKc, hDc.weaken (fun _ _ _ _ => trivial), zNn_moved hW hN⟩⟩ rfl rfl hl.1 rfl (lv_room (Nat.le_of_ble_eq_true rfl)) zd_R_init_9 ⟨by show 1 + 1 ≤ _; exact Nat.le_of_ble_eq_true rfl, by show 1 + 600 ≤ _; exact Nat.le_of_ble_eq_true rfl⟩) hS (fun q _ h => hFc q h) hFc (fun u t H1 locs ht hvm hw hB hz1 hk1 hS => ?_)
  obtain ⟨q2, c3, hP1, hK1, hD1⟩ := hB
  rw [ht] at hP1
  have hK1 := va_K.moved hvm.symm hK1
  obtain ⟨hP, hD⟩ := va_join (wr := [(h0, .inr (1, [.null, .int 0, .int 0, .int 0]))]) (w1 := [(q1, .inr (0, [.ref q2])), (q2, .inl (c3, 600, .inl (fun _ => 0)))]) hP hD [1] [0] rfl rfl (by decide) (by decide) hk1 hFc hP1 hD1
  have hK := (hK.sub (tys' := []) [] rfl).app hK1
  generalize H1 = H at hP hS ⊢
  have hP : va_P D zcl [(h0, .inr (1, [.null, .int 0, .int 0, .int 0])), (q1, .inr (0, [.ref q2])), (q2, .inl (c3, 600, .inl (fun _ => 0)))] H := hP
  have hD : va_D A [(h0, .inr (1, [.null, .int 0, .int 0, .int 0])), (q1, .inr (0, [.ref q2])), (q2, .inl (c3, 600, .inl (fun _ => 0)))] := hD
  have hK : va_K D zcl [(c3, .int)] s := hK
  refine W.widen (k := 2) (n := 601) (Nat.le_of_ble_eq_true rfl) (Nat.le_of_ble_eq_true rfl) ?_
  refine va_putF (D := D) (ref := "SluiceStream$Receiver") (ci := 1) (v := .ref q1) (ty := zY1 0) (C := "SluiceStream$Receiver") (T := zF1) (N := 4) hx hb hts zin1 zY1 zYo1 zNm1 hown hK hP hD hS 0 rfl rfl 0 (Nat.le_of_ble_eq_true rfl) (hts _ zm141) (fun _ h9 => h9) rfl hin rfl (by decide +kernel) rfl rfl (Nat.le_of_ble_eq_true rfl) zd_R_init_12 (fun H locs hP hD hS => ?_)
  have hP : va_P D zcl [(h0, .inr (1, [.ref q1, .int 0, .int 0, .int 0])), (q1, .inr (0, [.ref q2])), (q2, .inl (c3, 600, .inl (fun _ => 0)))] H := hP
  have hD : va_D A [(h0, .inr (1, [.ref q1, .int 0, .int 0, .int 0])), (q1, .inr (0, [.ref q2])), (q2, .inl (c3, 600, .inl (fun _ => 0)))] := hD
  refine lv_aload_n hx hb zd_R_init_15 rfl (lv_at hl 0 rfl) ?_
  refine lv_iconst (v := 0) hx hb zd_R_init_16 (by decide) ?_
  refine va_put (D := D) (ref := "SluiceStream$Receiver") (ci := 1) (v := .int 0) (ty := zY1 1) (C := "SluiceStream$Receiver") (T := zF1) (N := 4) hx hb hts zin1 zY1 zYo1 zNm1 hown hK hP hD hS 0 rfl rfl 1 (Nat.le_of_ble_eq_true rfl) (hts _ zm142) (fun _ h9 => h9) rfl (by decide +kernel) rfl rfl (Nat.le_of_ble_eq_true rfl) zd_R_init_17 (fun H locs hP hD hS => ?_)
  have hP : va_P D zcl [(h0, .inr (1, [.ref q1, .int 0, .int 0, .int 0])), (q1, .inr (0, [.ref q2])), (q2, .inl (c3, 600, .inl (fun _ => 0)))] H := hP
  have hD : va_D A [(h0, .inr (1, [.ref q1, .int 0, .int 0, .int 0])), (q1, .inr (0, [.ref q2])), (q2, .inl (c3, 600, .inl (fun _ => 0)))] := hD
  refine lv_aload_n hx hb zd_R_init_20 rfl (lv_at hl 0 rfl) ?_
  refine lv_iconst (v := 0) hx hb zd_R_init_21 (by decide) ?_
  refine va_put (D := D) (ref := "SluiceStream$Receiver") (ci := 1) (v := .int 0) (ty := zY1 2) (C := "SluiceStream$Receiver") (T := zF1) (N := 4) hx hb hts zin1 zY1 zYo1 zNm1 hown hK hP hD hS 0 rfl rfl 2 (Nat.le_of_ble_eq_true rfl) (hts _ zm143) (fun _ h9 => h9) rfl (by decide +kernel) rfl rfl (Nat.le_of_ble_eq_true rfl) zd_R_init_22 (fun H locs hP hD hS => ?_)
  have hP : va_P D zcl [(h0, .inr (1, [.ref q1, .int 0, .int 0, .int 0])), (q1, .inr (0, [.ref q2])), (q2, .inl (c3, 600, .inl (fun _ => 0)))] H := hP
  have hD : va_D A [(h0, .inr (1, [.ref q1, .int 0, .int 0, .int 0])), (q1, .inr (0, [.ref q2])), (q2, .inl (c3, 600, .inl (fun _ => 0)))] := hD
  refine lv_aload_n hx hb zd_R_init_25 rfl (lv_at hl 0 rfl) ?_
  refine lv_iconst (v := 0) hx hb zd_R_init_26 (by decide) ?_
  refine va_put (D := D) (ref := "SluiceStream$Receiver") (ci := 1) (v := .int 0) (ty := zY1 3) (C := "SluiceStream$Receiver") (T := zF1) (N := 4) hx hb hts zin1 zY1 zYo1 zNm1 hown hK hP hD hS 0 rfl rfl 3 (Nat.le_of_ble_eq_true rfl) (hts _ zm145) (fun _ h9 => h9) rfl (by decide +kernel) rfl rfl (Nat.le_of_ble_eq_true rfl) zd_R_init_27 (fun H locs hP hD hS => ?_)
  have hP : va_P D zcl [(h0, .inr (1, [.ref q1, .int 0, .int 0, .int 0])), (q1, .inr (0, [.ref q2])), (q2, .inl (c3, 600, .inl (fun _ => 0)))] H := hP
  have hD : va_D A [(h0, .inr (1, [.ref q1, .int 0, .int 0, .int 0])), (q1, .inr (0, [.ref q2])), (q2, .inl (c3, 600, .inl (fun _ => 0)))] := hD
  have hP9 := hP.sub (ws' := [(h0, .inr (1, [.ref q1, .int 0, .int 0, .int 0])), (q1, .inr (0, [.ref q2])), (q2, .inl (c3, 600, .inl (fun _ => 0)))]) [0, 1, 2] rfl
  have hD9 := hD.sub (ws' := [(h0, .inr (1, [.ref q1, .int 0, .int 0, .int 0])), (q1, .inr (0, [.ref q2])), (q2, .inl (c3, 600, .inl (fun _ => 0)))]) [0, 1, 2] (by decide) rfl
  exact W.vret hx hb hr (fun t ht hW => ⟨⟨(), rfl, trivial, q1, q2, c3, by rw [ht]; exact hP9, va_K.moved hW.alike hK, hD9⟩, hS.F ht⟩) hS.2.2 zd_R_init_30
set_option maxHeartbeats 4000000 in
set_option maxRecDepth 100000 in
theorem ct_W (l : Launch) (D : va_G) (h0 sz : Nat) (x1 : Int32) (x2 : Nat) : Met l ({ cls := "SluiceStream$Rows", name := "<init>", desc := "(I[I)V" } : Jvm.MethodName) (.code ({ cls := "SluiceStream$Rows", name := "<init>", desc := "(I[I)V" } : Jvm.MethodName) prog_4_method_1_code 3 none :: zT) ({ frames := 1, cells := 0, slots := 0, locals := 12 } : Room) (va_Pc [.ref h0, .int x1, .ref x2] (fun U => U.heap.size = sz ∧ va_P D zcl [(h0, .inr (2, [.int 0, .null, .int 0]))] U.heap ∧ va_K D zcl [] U ∧ va_D (fun _ => True) [(h0, .inr (2, [.int 0, .null, .int 0]))] ∧ zNn U)) (va_Qv (fun (_ : Unit) => True) (fun (_ : Unit) (t : State) => va_P D zcl [(h0, .inr (2, [.int x1, .ref x2, .int 0]))] t.heap ∧ va_K D zcl [] t ∧ va_D (va_A [(h0, .inr (2, [.int 0, .null, .int 0]))] sz) [(h0, .inr (2, [.int x1, .ref x2, .int 0]))]) (va_A [(h0, .inr (2, [.int 0, .null, .int 0]))] sz)) 0 0 (va_A [(h0, .inr (2, [.int 0, .null, .int 0]))] sz) := by
  refine Met.ofW (cc := prog_4_method_1_code) (maxL := 3) (ret := none) (by decide +kernel) rfl ?_
  intro p e s m args below meth c s₁ B hml hv
  obtain ⟨rfl, hsz, hP, hK, hD0, hN⟩ := hv
  have hx := B.exec
  have hb := B.bytes
  have hr := B.returns
  have hts : ∀ x ∈ zT, x.before ([.ref h0, .int x1, .ref x2] : List Value).toArray s = true := fun x hx => atoms_spec (ws := Cond.code ({ cls := "SluiceStream$Rows", name := "<init>", desc := "(I[I)V" } : Jvm.MethodName) prog_4_method_1_code 3 none :: zT) B.pre x (List.mem_cons_of_mem _ hx)
  have hown : s.vm.findClass "SluiceStream$Rows" = some m.cls := findClass_of_methodNamed B.named
  have hlocks := B.notSynchronized
  have hin : meth.name = "<init>" := (name_of_methodNamed B.named B.method).1
  subst hsz
  have hD := hD0.self (sz := s.heap.size)
  generalize hAe : va_A [(h0, .inr (2, [.int 0, .null, .int 0]))] s.heap.size = A at hD ⊢
  have hA : ∀ q : Nat, s.heap.size ≤ q → A q := fun q h => by rw [← hAe]; exact Or.inr h
  have hS : va_S A s.heap s.heap [] := va_S.rf
  have hP : va_P D zcl [(h0, .inr (2, [.int 0, .null, .int 0]))] s.heap := hP
  have hl := lv_entry ([.ref h0, .int x1, .ref x2] : List Value) (n := 3) (Nat.le_of_ble_eq_true rfl)
  rw [lg_entry_eq]
  generalize (lg_sl ([.ref h0, .int x1, .ref x2] : List Value) ++ List.replicate (3 - (lg_sl ([.ref h0, .int x1, .ref x2] : List Value)).length) Slot.unset).toArray = ls at hl ⊢
  have hl : lv_has ls 3 [(0, .ref h0), (1, .int x1), (2, .ref x2)] := hl
  refine lv_aload_n hx hb zd_W_init_0 rfl (lv_at hl 0 rfl) ?_
  refine W.objInit hx hb hown (hts _ zm161) (hts _ zm20) (hts _ zm21) rfl (by rw [hml]; exact hl.1) rfl zd_W_init_1 (Nat.le_of_ble_eq_true rfl) (Nat.le_of_ble_eq_true rfl) ?_
  refine W.eq (g2 := F0 m 4 ls []) rfl ?_
  refine lv_aload_n hx hb zd_W_init_4 rfl (lv_at hl 0 rfl) ?_
  refine lv_iconst (v := 0) hx hb zd_W_init_5 (by decide) ?_
  refine va_put (D := D) (ref := "SluiceStream$Rows") (ci := 2) (v := .int 0) (ty := zY2 2) (C := "SluiceStream$Rows") (T := zF2) (N := 3) hx hb hts zin2 zY2 zYo2 zNm2 hown hK hP hD hS 0 rfl rfl 2 (Nat.le_of_ble_eq_true rfl) (hts _ zm164) (fun _ h9 => h9) rfl (by decide +kernel) rfl rfl (Nat.le_of_ble_eq_true rfl) zd_W_init_6 (fun H locs hP hD hS => ?_)
  have hP : va_P D zcl [(h0, .inr (2, [.int 0, .null, .int 0]))] H := hP
  have hD : va_D A [(h0, .inr (2, [.int 0, .null, .int 0]))] := hD
  refine lv_aload_n hx hb zd_W_init_9 rfl (lv_at hl 0 rfl) ?_
  refine lv_iload_n hx hb zd_W_init_10 rfl (lv_at hl 1 rfl) ?_
  refine va_putF (D := D) (ref := "SluiceStream$Rows") (ci := 2) (v := .int x1) (ty := zY2 0) (C := "SluiceStream$Rows") (T := zF2) (N := 3) hx hb hts zin2 zY2 zYo2 zNm2 hown hK hP hD hS 0 rfl rfl 0 (Nat.le_of_ble_eq_true rfl) (hts _ zm162) (fun _ h9 => h9) rfl hin rfl (by decide +kernel) rfl rfl (Nat.le_of_ble_eq_true rfl) zd_W_init_11 (fun H locs hP hD hS => ?_)
  have hP : va_P D zcl [(h0, .inr (2, [.int x1, .null, .int 0]))] H := hP
  have hD : va_D A [(h0, .inr (2, [.int x1, .null, .int 0]))] := hD
  refine lv_aload_n hx hb zd_W_init_14 rfl (lv_at hl 0 rfl) ?_
  refine lv_aload_n hx hb zd_W_init_15 rfl (lv_at hl 2 rfl) ?_
  refine va_putF (D := D) (ref := "SluiceStream$Rows") (ci := 2) (v := .ref x2) (ty := zY2 1) (C := "SluiceStream$Rows") (T := zF2) (N := 3) hx hb hts zin2 zY2 zYo2 zNm2 hown hK hP hD hS 0 rfl rfl 1 (Nat.le_of_ble_eq_true rfl) (hts _ zm163) (fun _ h9 => h9) rfl hin rfl (by decide +kernel) rfl rfl (Nat.le_of_ble_eq_true rfl) zd_W_init_16 (fun H locs hP hD hS => ?_)
  have hP : va_P D zcl [(h0, .inr (2, [.int x1, .ref x2, .int 0]))] H := hP
  have hD : va_D A [(h0, .inr (2, [.int x1, .ref x2, .int 0]))] := hD
  have hP9 := hP.sub (ws' := [(h0, .inr (2, [.int x1, .ref x2, .int 0]))]) [0] rfl
  have hD9 := hD.sub (ws' := [(h0, .inr (2, [.int x1, .ref x2, .int 0]))]) [0] (by decide) rfl
  exact W.vret hx hb hr (fun t ht hW => ⟨⟨(), rfl, trivial, by rw [ht]; exact hP9, va_K.moved hW.alike hK, hD9⟩, hS.F ht⟩) hS.2.2 zd_W_init_19
set_option maxHeartbeats 4000000 in
set_option maxRecDepth 100000 in
theorem ct_X (l : Launch) (D : va_G) (h0 sz : Nat) : Met l ({ cls := "SluiceStream", name := "<init>", desc := "()V" } : Jvm.MethodName) (.code ({ cls := "SluiceStream", name := "<init>", desc := "()V" } : Jvm.MethodName) prog_1_method_1_code 1 none :: zT) ({ frames := 3, cells := 12, slots := 2275, locals := 52 } : Room) (va_Pc [.ref h0] (fun U => U.heap.size = sz ∧ va_P D zcl [(h0, .inr (5, [.null, .null, .null, .null, .null]))] U.heap ∧ va_K D zcl [] U ∧ va_D (fun _ => True) [(h0, .inr (5, [.null, .null, .null, .null, .null]))] ∧ zNn U)) (va_Qv (fun (_ : Unit) => True) (fun (_ : Unit) (t : State) => ∃ (q1 q2 q3 q4 q5 q7 q8 q9 q11 q12 q13 q14 : Nat), ∃ (c1 c6 c10 c12 c14 : ClassId), va_P D zcl [(h0, .inr (5, [.ref q1, .ref q2, .ref q7, .ref q11, .ref q13])), (q1, .inl (c1, 600, .inl (fun _ => 0))), (q2, .inr (3, [.ref q3, .ref q5, .int 0, .int 0, .int 0, .int 0, .int 32, .int 8, .int 64, .int 256, .int 0, .int (-1), .int 0, .int 0, .int 0])), (q3, .inr (0, [.ref q4])), (q4, .inl (c6, 600, .inl (fun _ => 0))), (q5, .inr (4, [.int 0, .int 8, .int (-1), .int (-1), .int 0, .int 0, .int 0, .int 0])), (q7, .inr (1, [.ref q8, .int 0, .int 0, .int 0])), (q8, .inr (0, [.ref q9])), (q9, .inl (c10, 600, .inl (fun _ => 0))), (q12, .inl (c12, 80, .inl (fun _ => 0))), (q11, .inr (2, [.int 2, .ref q12, .int 0])), (q14, .inl (c14, 360, .inl (fun _ => 0))), (q13, .inr (2, [.int 9, .ref q14, .int 0]))] t.heap ∧ va_K D zcl [(c1, .int), (c6, .int), (c10, .int), (c12, .int), (c14, .int)] t ∧ va_D (va_A [(h0, .inr (5, [.null, .null, .null, .null, .null]))] sz) [(h0, .inr (5, [.ref q1, .ref q2, .ref q7, .ref q11, .ref q13])), (q1, .inl (c1, 600, .inl (fun _ => 0))), (q2, .inr (3, [.ref q3, .ref q5, .int 0, .int 0, .int 0, .int 0, .int 32, .int 8, .int 64, .int 256, .int 0, .int (-1), .int 0, .int 0, .int 0])), (q3, .inr (0, [.ref q4])), (q4, .inl (c6, 600, .inl (fun _ => 0))), (q5, .inr (4, [.int 0, .int 8, .int (-1), .int (-1), .int 0, .int 0, .int 0, .int 0])), (q7, .inr (1, [.ref q8, .int 0, .int 0, .int 0])), (q8, .inr (0, [.ref q9])), (q9, .inl (c10, 600, .inl (fun _ => 0))), (q12, .inl (c12, 80, .inl (fun _ => 0))), (q11, .inr (2, [.int 2, .ref q12, .int 0])), (q14, .inl (c14, 360, .inl (fun _ => 0))), (q13, .inr (2, [.int 9, .ref q14, .int 0]))]) (va_A [(h0, .inr (5, [.null, .null, .null, .null, .null]))] sz)) 12 2275 (va_A [(h0, .inr (5, [.null, .null, .null, .null, .null]))] sz) := by
  refine Met.ofW (cc := prog_1_method_1_code) (maxL := 1) (ret := none) (by decide +kernel) rfl ?_
  intro p e s m args below meth c s₁ B hml hv
  obtain ⟨rfl, hsz, hP, hK, hD0, hN⟩ := hv
  have hx := B.exec
  have hb := B.bytes
  have hr := B.returns
  have hts : ∀ x ∈ zT, x.before ([.ref h0] : List Value).toArray s = true := fun x hx => atoms_spec (ws := Cond.code ({ cls := "SluiceStream", name := "<init>", desc := "()V" } : Jvm.MethodName) prog_1_method_1_code 1 none :: zT) B.pre x (List.mem_cons_of_mem _ hx)
  have hown : s.vm.findClass "SluiceStream" = some m.cls := findClass_of_methodNamed B.named
  have hlocks := B.notSynchronized
  have hin : meth.name = "<init>" := (name_of_methodNamed B.named B.method).1
  subst hsz
  have hD := hD0.self (sz := s.heap.size)
  generalize hAe : va_A [(h0, .inr (5, [.null, .null, .null, .null, .null]))] s.heap.size = A at hD ⊢
  have hA : ∀ q : Nat, s.heap.size ≤ q → A q := fun q h => by rw [← hAe]; exact Or.inr h
  have hS : va_S A s.heap s.heap [] := va_S.rf
  have hP : va_P D zcl [(h0, .inr (5, [.null, .null, .null, .null, .null]))] s.heap := hP
  have hl := lv_entry ([.ref h0] : List Value) (n := 1) (Nat.le_of_ble_eq_true rfl)
  rw [lg_entry_eq]
  generalize (lg_sl ([.ref h0] : List Value) ++ List.replicate (1 - (lg_sl ([.ref h0] : List Value)).length) Slot.unset).toArray = ls at hl ⊢
  have hl : lv_has ls 1 [(0, .ref h0)] := hl
  refine lv_aload_n hx hb zd_X_init_0 rfl (lv_at hl 0 rfl) ?_
  refine W.objInit hx hb hown (hts _ zm19) (hts _ zm20) (hts _ zm21) rfl (by rw [hml]; exact hl.1) rfl zd_X_init_1 (Nat.le_of_ble_eq_true rfl) (Nat.le_of_ble_eq_true rfl) ?_
  refine W.eq (g2 := F0 m 4 ls []) rfl ?_
  refine lv_aload_n hx hb zd_X_init_4 rfl (lv_at hl 0 rfl) ?_
  refine lv_sipush (v := 600) hx hb zd_X_init_5 (by decide) ?_
  refine va_newa (atype := .int) hx hb (hts _ zm38) (ty := .int) rfl hK hP hD hS hA (N' := 600) (a0 := (600, .inl (fun _ => 0))) (fun _ => rfl) (by decide) (by decide) (by decide) (by show 0 + 1 ≤ _; exact Nat.le_of_ble_eq_true rfl) (by show 0 + 600 ≤ _; exact Nat.le_of_ble_eq_true rfl) zd_X_init_8 (fun q1 c1 H hK hP hD hS => ?_)
  have hP : va_P D zcl [(h0, .inr (5, [.null, .null, .null, .null, .null])), (q1, .inl (c1, 600, .inl (fun _ => 0)))] H := hP
  have hD : va_D A [(h0, .inr (5, [.null, .null, .null, .null, .null])), (q1, .inl (c1, 600, .inl (fun _ => 0)))] := hD
  have hK : va_K D zcl [(c1, .int)] s := hK
  refine W.widen (k := 1) (n := 600) (Nat.le_of_ble_eq_true rfl) (Nat.le_of_ble_eq_true rfl) ?_
  refine va_putF (D := D) (ref := "SluiceStream") (ci := 5) (v := .ref q1) (ty := zY5 0) (C := "SluiceStream") (T := zF5) (N := 5) hx hb hts zin5 zY5 zYo5 zNm5 hown hK hP hD hS 0 rfl rfl 0 (Nat.le_of_ble_eq_true rfl) (hts _ zm173) (fun _ h9 => h9) rfl hin rfl (by decide +kernel) rfl rfl (Nat.le_of_ble_eq_true rfl) zd_X_init_10 (fun H locs hP hD hS => ?_)
  have hP : va_P D zcl [(h0, .inr (5, [.ref q1, .null, .null, .null, .null])), (q1, .inl (c1, 600, .inl (fun _ => 0)))] H := hP
  have hD : va_D A [(h0, .inr (5, [.ref q1, .null, .null, .null, .null])), (q1, .inl (c1, 600, .inl (fun _ => 0)))] := hD
  refine lv_aload_n hx hb zd_X_init_13 rfl (lv_at hl 0 rfl) ?_
  refine va_new (ci := 3) (fs := [.null, .null, .int 0, .int 0, .int 0, .int 0, .int 0, .int 0, .int 0, .int 0, .int 0, .int 0, .int 0, .int 0, .int 0]) (C := "SluiceStream$Sender") (T := zF3) (N := 15) hx hb hts zin3 zY3 zYo3 hown (hts _ zm22) (hts _ zm23) (hts _ zm2) hK hP hD hS hA rfl (zdf3) (by show 1 + 1 ≤ _; exact Nat.le_of_ble_eq_true rfl) (by show 600 + 15 ≤ _; exact Nat.le_of_ble_eq_true rfl) zd_X_init_14 (fun q2 H hP hD hS => ?_)
  have hP : va_P D zcl [(h0, .inr (5, [.ref q1, .null, .null, .null, .null])), (q1, .inl (c1, 600, .inl (fun _ => 0))), (q2, .inr (3, [.null, .null, .int 0, .int 0, .int 0, .int 0, .int 0, .int 0, .int 0, .int 0, .int 0, .int 0, .int 0, .int 0, .int 0]))] H := hP
  have hD : va_D A [(h0, .inr (5, [.ref q1, .null, .null, .null, .null])), (q1, .inl (c1, 600, .inl (fun _ => 0))), (q2, .inr (3, [.null, .null, .int 0, .int 0, .int 0, .int 0, .int 0, .int 0, .int 0, .int 0, .int 0, .int 0, .int 0, .int 0, .int 0]))] := hD
  refine W.widen (k := 2) (n := 615) (Nat.le_of_ble_eq_true rfl) (Nat.le_of_ble_eq_true rfl) ?_
  refine lv_dup hx hb zd_X_init_17 rfl ?_
  have hPc := hP.sub (ws' := [(q2, .inr (3, [.null, .null, .int 0, .int 0, .int 0, .int 0, .int 0, .int 0, .int 0, .int 0, .int 0, .int 0, .int 0, .int 0, .int 0]))]) [2] rfl
  have hDc := hD.sub (ws' := [(q2, .inr (3, [.null, .null, .int 0, .int 0, .int 0, .int 0, .int 0, .int 0, .int 0, .int 0, .int 0, .int 0, .int 0, .int 0, .int 0]))]) [2] (by decide) rfl
  have hKc := hK.sub (tys' := []) [] rfl
  have hFc := va_free (wc := [(q2, .inr (3, [.null, .null, .int 0, .int 0, .int 0, .int 0, .int 0, .int 0, .int 0, .int 0, .int 0, .int 0, .int 0, .int 0, .int 0]))]) hD hS hA [2] rfl
  refine va_callv (va_runIN (As := []) (rest := [.ref q2, .ref h0]) ⟨hx, hb, hml, hown, hts⟩ (ct_S l D q2 H.size) (⟨va_cnB 0 hts (zgood (fun _ h => h) zm26) rfl rfl rfl (hN.1) (hts _ zm2) (by decide +kernel) ⟨Nat.le_of_ble_eq_true rfl, Nat.le_of_ble_eq_true rfl⟩, rfl, hts _ zm25⟩) ⟨zcblind, fun U hU hW => ⟨rfl, by rw [hU], by rw [hU]; exact hPc, va_K.moved hW.alike hKc, hDc.weaken (fun _ _ _ _ => trivial), zNn_moved hW hN⟩⟩ rfl rfl hl.1 rfl (lv_room (Nat.le_of_ble_eq_true rfl)) zd_X_init_18 ⟨by show 2 + 3 ≤ _; exact Nat.le_of_ble_eq_true rfl, by show 615 + 609 ≤ _; exact Nat.le_of_ble_eq_true rfl⟩) hS (fun q _ h => hFc q h) hFc (fun u t H1 locs ht hvm hw hB hz1 hk1 hS => ?_)
  obtain ⟨q3, q4, q5, c6, hP1, hK1, hD1⟩ := hB
  rw [ht] at hP1
  have hK1 := va_K.moved hvm.symm hK1
  obtain ⟨hP, hD⟩ := va_join (wr := [(h0, .inr (5, [.ref q1, .null, .null, .null, .null])), (q1, .inl (c1, 600, .inl (fun _ => 0)))]) (w1 := [(q2, .inr (3, [.ref q3, .ref q5, .int 0, .int 0, .int 0, .int 0, .int 32, .int 8, .int 64, .int 256, .int 0, .int (-1), .int 0, .int 0, .int 0])), (q3, .inr (0, [.ref q4])), (q4, .inl (c6, 600, .inl (fun _ => 0))), (q5, .inr (4, [.int 0, .int 8, .int (-1), .int (-1), .int 0, .int 0, .int 0, .int 0]))]) hP hD [2] [0, 1] rfl rfl (by decide) (by decide) hk1 hFc hP1 hD1
  have hK := (hK.sub (tys' := [(c1, .int)]) [0] rfl).app hK1
  generalize H1 = H at hP hS ⊢
  have hP : va_P D zcl [(h0, .inr (5, [.ref q1, .null, .null, .null, .null])), (q1, .inl (c1, 600, .inl (fun _ => 0))), (q2, .inr (3, [.ref q3, .ref q5, .int 0, .int 0, .int 0, .int 0, .int 32, .int 8, .int 64, .int 256, .int 0, .int (-1), .int 0, .int 0, .int 0])), (q3, .inr (0, [.ref q4])), (q4, .inl (c6, 600, .inl (fun _ => 0))), (q5, .inr (4, [.int 0, .int 8, .int (-1), .int (-1), .int 0, .int 0, .int 0, .int 0]))] H := hP
  have hD : va_D A [(h0, .inr (5, [.ref q1, .null, .null, .null, .null])), (q1, .inl (c1, 600, .inl (fun _ => 0))), (q2, .inr (3, [.ref q3, .ref q5, .int 0, .int 0, .int 0, .int 0, .int 32, .int 8, .int 64, .int 256, .int 0, .int (-1), .int 0, .int 0, .int 0])), (q3, .inr (0, [.ref q4])), (q4, .inl (c6, 600, .inl (fun _ => 0))), (q5, .inr (4, [.int 0, .int 8, .int (-1), .int (-1), .int 0, .int 0, .int 0, .int 0]))] := hD
  have hK : va_K D zcl [(c1, .int), (c6, .int)] s := hK
  refine W.widen (k := 5) (n := 1224) (Nat.le_of_ble_eq_true rfl) (Nat.le_of_ble_eq_true rfl) ?_
  refine va_putF (D := D) (ref := "SluiceStream") (ci := 5) (v := .ref q2) (ty := zY5 1) (C := "SluiceStream") (T := zF5) (N := 5) hx hb hts zin5 zY5 zYo5 zNm5 hown hK hP hD hS 0 rfl rfl 1 (Nat.le_of_ble_eq_true rfl) (hts _ zm174) (fun _ h9 => h9) rfl hin rfl (by decide +kernel) rfl rfl (Nat.le_of_ble_eq_true rfl) zd_X_init_21 (fun H locs hP hD hS => ?_)
  have hP : va_P D zcl [(h0, .inr (5, [.ref q1, .ref q2, .null, .null, .null])), (q1, .inl (c1, 600, .inl (fun _ => 0))), (q2, .inr (3, [.ref q3, .ref q5, .int 0, .int 0, .int 0, .int 0, .int 32, .int 8, .int 64, .int 256, .int 0, .int (-1), .int 0, .int 0, .int 0])), (q3, .inr (0, [.ref q4])), (q4, .inl (c6, 600, .inl (fun _ => 0))), (q5, .inr (4, [.int 0, .int 8, .int (-1), .int (-1), .int 0, .int 0, .int 0, .int 0]))] H := hP
  have hD : va_D A [(h0, .inr (5, [.ref q1, .ref q2, .null, .null, .null])), (q1, .inl (c1, 600, .inl (fun _ => 0))), (q2, .inr (3, [.ref q3, .ref q5, .int 0, .int 0, .int 0, .int 0, .int 32, .int 8, .int 64, .int 256, .int 0, .int (-1), .int 0, .int 0, .int 0])), (q3, .inr (0, [.ref q4])), (q4, .inl (c6, 600, .inl (fun _ => 0))), (q5, .inr (4, [.int 0, .int 8, .int (-1), .int (-1), .int 0, .int 0, .int 0, .int 0]))] := hD
  refine lv_aload_n hx hb zd_X_init_24 rfl (lv_at hl 0 rfl) ?_
  refine va_new (ci := 1) (fs := [.null, .int 0, .int 0, .int 0]) (C := "SluiceStream$Receiver") (T := zF1) (N := 4) hx hb hts zin1 zY1 zYo1 hown (hts _ zm133) (hts _ zm134) (hts _ zm5) hK hP hD hS hA rfl (zdf1) (by show 5 + 1 ≤ _; exact Nat.le_of_ble_eq_true rfl) (by show 1224 + 4 ≤ _; exact Nat.le_of_ble_eq_true rfl) zd_X_init_25 (fun q7 H hP hD hS => ?_)
  have hP : va_P D zcl [(h0, .inr (5, [.ref q1, .ref q2, .null, .null, .null])), (q1, .inl (c1, 600, .inl (fun _ => 0))), (q2, .inr (3, [.ref q3, .ref q5, .int 0, .int 0, .int 0, .int 0, .int 32, .int 8, .int 64, .int 256, .int 0, .int (-1), .int 0, .int 0, .int 0])), (q3, .inr (0, [.ref q4])), (q4, .inl (c6, 600, .inl (fun _ => 0))), (q5, .inr (4, [.int 0, .int 8, .int (-1), .int (-1), .int 0, .int 0, .int 0, .int 0])), (q7, .inr (1, [.null, .int 0, .int 0, .int 0]))] H := hP
  have hD : va_D A [(h0, .inr (5, [.ref q1, .ref q2, .null, .null, .null])), (q1, .inl (c1, 600, .inl (fun _ => 0))), (q2, .inr (3, [.ref q3, .ref q5, .int 0, .int 0, .int 0, .int 0, .int 32, .int 8, .int 64, .int 256, .int 0, .int (-1), .int 0, .int 0, .int 0])), (q3, .inr (0, [.ref q4])), (q4, .inl (c6, 600, .inl (fun _ => 0))), (q5, .inr (4, [.int 0, .int 8, .int (-1), .int (-1), .int 0, .int 0, .int 0, .int 0])), (q7, .inr (1, [.null, .int 0, .int 0, .int 0]))] := hD
  refine W.widen (k := 6) (n := 1228) (Nat.le_of_ble_eq_true rfl) (Nat.le_of_ble_eq_true rfl) ?_
  refine lv_dup hx hb zd_X_init_28 rfl ?_
  have hPc := hP.sub (ws' := [(q7, .inr (1, [.null, .int 0, .int 0, .int 0]))]) [6] rfl
  have hDc := hD.sub (ws' := [(q7, .inr (1, [.null, .int 0, .int 0, .int 0]))]) [6] (by decide) rfl
  have hKc := hK.sub (tys' := []) [] rfl
  have hFc := va_free (wc := [(q7, .inr (1, [.null, .int 0, .int 0, .int 0]))]) hD hS hA [6] rfl
  refine va_callv (va_runIN (As := []) (rest := [.ref q7, .ref h0]) ⟨hx, hb, hml, hown, hts⟩ (ct_R l D q7 H.size) (⟨va_cnB 0 hts (zgood (fun _ h => h) zm137) rfl rfl rfl (hN.2.2.2.1) (hts _ zm5) (by decide +kernel) ⟨Nat.le_of_ble_eq_true rfl, Nat.le_of_ble_eq_true rfl⟩, rfl, hts _ zm136⟩) ⟨zcblind, fun U hU hW => ⟨rfl, by rw [hU], by rw [hU]; exact hPc, va_K.moved hW.alike hKc, hDc.weaken (fun _ _ _ _ => trivial), zNn_moved hW hN⟩⟩ rfl rfl hl.1 rfl (lv_room (Nat.le_of_ble_eq_true rfl)) zd_X_init_29 ⟨by show 6 + 2 ≤ _; exact Nat.le_of_ble_eq_true rfl, by show 1228 + 601 ≤ _; exact Nat.le_of_ble_eq_true rfl⟩) hS (fun q _ h => hFc q h) hFc (fun u t H1 locs ht hvm hw hB hz1 hk1 hS => ?_)
  obtain ⟨q8, q9, c10, hP1, hK1, hD1⟩ := hB
  rw [ht] at hP1
  have hK1 := va_K.moved hvm.symm hK1
  obtain ⟨hP, hD⟩ := va_join (wr := [(h0, .inr (5, [.ref q1, .ref q2, .null, .null, .null])), (q1, .inl (c1, 600, .inl (fun _ => 0))), (q2, .inr (3, [.ref q3, .ref q5, .int 0, .int 0, .int 0, .int 0, .int 32, .int 8, .int 64, .int 256, .int 0, .int (-1), .int 0, .int 0, .int 0])), (q3, .inr (0, [.ref q4])), (q4, .inl (c6, 600, .inl (fun _ => 0))), (q5, .inr (4, [.int 0, .int 8, .int (-1), .int (-1), .int 0, .int 0, .int 0, .int 0]))]) (w1 := [(q7, .inr (1, [.ref q8, .int 0, .int 0, .int 0])), (q8, .inr (0, [.ref q9])), (q9, .inl (c10, 600, .inl (fun _ => 0)))]) hP hD [6] [0, 1, 2, 3, 4, 5] rfl rfl (by decide) (by decide) hk1 hFc hP1 hD1
  have hK := (hK.sub (tys' := [(c1, .int), (c6, .int)]) [0, 1] rfl).app hK1
  generalize H1 = H at hP hS ⊢
  have hP : va_P D zcl [(h0, .inr (5, [.ref q1, .ref q2, .null, .null, .null])), (q1, .inl (c1, 600, .inl (fun _ => 0))), (q2, .inr (3, [.ref q3, .ref q5, .int 0, .int 0, .int 0, .int 0, .int 32, .int 8, .int 64, .int 256, .int 0, .int (-1), .int 0, .int 0, .int 0])), (q3, .inr (0, [.ref q4])), (q4, .inl (c6, 600, .inl (fun _ => 0))), (q5, .inr (4, [.int 0, .int 8, .int (-1), .int (-1), .int 0, .int 0, .int 0, .int 0])), (q7, .inr (1, [.ref q8, .int 0, .int 0, .int 0])), (q8, .inr (0, [.ref q9])), (q9, .inl (c10, 600, .inl (fun _ => 0)))] H := hP
  have hD : va_D A [(h0, .inr (5, [.ref q1, .ref q2, .null, .null, .null])), (q1, .inl (c1, 600, .inl (fun _ => 0))), (q2, .inr (3, [.ref q3, .ref q5, .int 0, .int 0, .int 0, .int 0, .int 32, .int 8, .int 64, .int 256, .int 0, .int (-1), .int 0, .int 0, .int 0])), (q3, .inr (0, [.ref q4])), (q4, .inl (c6, 600, .inl (fun _ => 0))), (q5, .inr (4, [.int 0, .int 8, .int (-1), .int (-1), .int 0, .int 0, .int 0, .int 0])), (q7, .inr (1, [.ref q8, .int 0, .int 0, .int 0])), (q8, .inr (0, [.ref q9])), (q9, .inl (c10, 600, .inl (fun _ => 0)))] := hD
  have hK : va_K D zcl [(c1, .int), (c6, .int), (c10, .int)] s := hK
  refine W.widen (k := 8) (n := 1829) (Nat.le_of_ble_eq_true rfl) (Nat.le_of_ble_eq_true rfl) ?_
  refine va_putF (D := D) (ref := "SluiceStream") (ci := 5) (v := .ref q7) (ty := zY5 2) (C := "SluiceStream") (T := zF5) (N := 5) hx hb hts zin5 zY5 zYo5 zNm5 hown hK hP hD hS 0 rfl rfl 2 (Nat.le_of_ble_eq_true rfl) (hts _ zm175) (fun _ h9 => h9) rfl hin rfl (by decide +kernel) rfl rfl (Nat.le_of_ble_eq_true rfl) zd_X_init_32 (fun H locs hP hD hS => ?_)
  have hP : va_P D zcl [(h0, .inr (5, [.ref q1, .ref q2, .ref q7, .null, .null])), (q1, .inl (c1, 600, .inl (fun _ => 0))), (q2, .inr (3, [.ref q3, .ref q5, .int 0, .int 0, .int 0, .int 0, .int 32, .int 8, .int 64, .int 256, .int 0, .int (-1), .int 0, .int 0, .int 0])), (q3, .inr (0, [.ref q4])), (q4, .inl (c6, 600, .inl (fun _ => 0))), (q5, .inr (4, [.int 0, .int 8, .int (-1), .int (-1), .int 0, .int 0, .int 0, .int 0])), (q7, .inr (1, [.ref q8, .int 0, .int 0, .int 0])), (q8, .inr (0, [.ref q9])), (q9, .inl (c10, 600, .inl (fun _ => 0)))] H := hP
  have hD : va_D A [(h0, .inr (5, [.ref q1, .ref q2, .ref q7, .null, .null])), (q1, .inl (c1, 600, .inl (fun _ => 0))), (q2, .inr (3, [.ref q3, .ref q5, .int 0, .int 0, .int 0, .int 0, .int 32, .int 8, .int 64, .int 256, .int 0, .int (-1), .int 0, .int 0, .int 0])), (q3, .inr (0, [.ref q4])), (q4, .inl (c6, 600, .inl (fun _ => 0))), (q5, .inr (4, [.int 0, .int 8, .int (-1), .int (-1), .int 0, .int 0, .int 0, .int 0])), (q7, .inr (1, [.ref q8, .int 0, .int 0, .int 0])), (q8, .inr (0, [.ref q9])), (q9, .inl (c10, 600, .inl (fun _ => 0)))] := hD
  refine lv_aload_n hx hb zd_X_init_35 rfl (lv_at hl 0 rfl) ?_
  refine va_new (ci := 2) (fs := [.int 0, .null, .int 0]) (C := "SluiceStream$Rows") (T := zF2) (N := 3) hx hb hts zin2 zY2 zYo2 hown (hts _ zm156) (hts _ zm157) (hts _ zm6) hK hP hD hS hA rfl (zdf2) (by show 8 + 1 ≤ _; exact Nat.le_of_ble_eq_true rfl) (by show 1829 + 3 ≤ _; exact Nat.le_of_ble_eq_true rfl) zd_X_init_36 (fun q11 H hP hD hS => ?_)
  have hP : va_P D zcl [(h0, .inr (5, [.ref q1, .ref q2, .ref q7, .null, .null])), (q1, .inl (c1, 600, .inl (fun _ => 0))), (q2, .inr (3, [.ref q3, .ref q5, .int 0, .int 0, .int 0, .int 0, .int 32, .int 8, .int 64, .int 256, .int 0, .int (-1), .int 0, .int 0, .int 0])), (q3, .inr (0, [.ref q4])), (q4, .inl (c6, 600, .inl (fun _ => 0))), (q5, .inr (4, [.int 0, .int 8, .int (-1), .int (-1), .int 0, .int 0, .int 0, .int 0])), (q7, .inr (1, [.ref q8, .int 0, .int 0, .int 0])), (q8, .inr (0, [.ref q9])), (q9, .inl (c10, 600, .inl (fun _ => 0))), (q11, .inr (2, [.int 0, .null, .int 0]))] H := hP
  have hD : va_D A [(h0, .inr (5, [.ref q1, .ref q2, .ref q7, .null, .null])), (q1, .inl (c1, 600, .inl (fun _ => 0))), (q2, .inr (3, [.ref q3, .ref q5, .int 0, .int 0, .int 0, .int 0, .int 32, .int 8, .int 64, .int 256, .int 0, .int (-1), .int 0, .int 0, .int 0])), (q3, .inr (0, [.ref q4])), (q4, .inl (c6, 600, .inl (fun _ => 0))), (q5, .inr (4, [.int 0, .int 8, .int (-1), .int (-1), .int 0, .int 0, .int 0, .int 0])), (q7, .inr (1, [.ref q8, .int 0, .int 0, .int 0])), (q8, .inr (0, [.ref q9])), (q9, .inl (c10, 600, .inl (fun _ => 0))), (q11, .inr (2, [.int 0, .null, .int 0]))] := hD
  refine W.widen (k := 9) (n := 1832) (Nat.le_of_ble_eq_true rfl) (Nat.le_of_ble_eq_true rfl) ?_
  refine lv_dup hx hb zd_X_init_39 rfl ?_
  refine lv_iconst (v := 2) hx hb zd_X_init_40 (by decide) ?_
  refine lv_bipush (v := 80) hx hb zd_X_init_41 (by decide) ?_
  refine va_newa (atype := .int) hx hb (hts _ zm38) (ty := .int) rfl hK hP hD hS hA (N' := 80) (a0 := (80, .inl (fun _ => 0))) (fun _ => rfl) (by decide) (by decide) (by decide) (by show 9 + 1 ≤ _; exact Nat.le_of_ble_eq_true rfl) (by show 1832 + 80 ≤ _; exact Nat.le_of_ble_eq_true rfl) zd_X_init_43 (fun q12 c12 H hK hP hD hS => ?_)
  have hP : va_P D zcl [(h0, .inr (5, [.ref q1, .ref q2, .ref q7, .null, .null])), (q1, .inl (c1, 600, .inl (fun _ => 0))), (q2, .inr (3, [.ref q3, .ref q5, .int 0, .int 0, .int 0, .int 0, .int 32, .int 8, .int 64, .int 256, .int 0, .int (-1), .int 0, .int 0, .int 0])), (q3, .inr (0, [.ref q4])), (q4, .inl (c6, 600, .inl (fun _ => 0))), (q5, .inr (4, [.int 0, .int 8, .int (-1), .int (-1), .int 0, .int 0, .int 0, .int 0])), (q7, .inr (1, [.ref q8, .int 0, .int 0, .int 0])), (q8, .inr (0, [.ref q9])), (q9, .inl (c10, 600, .inl (fun _ => 0))), (q11, .inr (2, [.int 0, .null, .int 0])), (q12, .inl (c12, 80, .inl (fun _ => 0)))] H := hP
  have hD : va_D A [(h0, .inr (5, [.ref q1, .ref q2, .ref q7, .null, .null])), (q1, .inl (c1, 600, .inl (fun _ => 0))), (q2, .inr (3, [.ref q3, .ref q5, .int 0, .int 0, .int 0, .int 0, .int 32, .int 8, .int 64, .int 256, .int 0, .int (-1), .int 0, .int 0, .int 0])), (q3, .inr (0, [.ref q4])), (q4, .inl (c6, 600, .inl (fun _ => 0))), (q5, .inr (4, [.int 0, .int 8, .int (-1), .int (-1), .int 0, .int 0, .int 0, .int 0])), (q7, .inr (1, [.ref q8, .int 0, .int 0, .int 0])), (q8, .inr (0, [.ref q9])), (q9, .inl (c10, 600, .inl (fun _ => 0))), (q11, .inr (2, [.int 0, .null, .int 0])), (q12, .inl (c12, 80, .inl (fun _ => 0)))] := hD
  have hK : va_K D zcl [(c1, .int), (c6, .int), (c10, .int), (c12, .int)] s := hK
  refine W.widen (k := 10) (n := 1912) (Nat.le_of_ble_eq_true rfl) (Nat.le_of_ble_eq_true rfl) ?_
  have hPc := hP.sub (ws' := [(q11, .inr (2, [.int 0, .null, .int 0]))]) [9] rfl
  have hDc := hD.sub (ws' := [(q11, .inr (2, [.int 0, .null, .int 0]))]) [9] (by decide) rfl
  have hKc := hK.sub (tys' := []) [] rfl
  have hFc := va_free (wc := [(q11, .inr (2, [.int 0, .null, .int 0]))]) hD hS hA [9] rfl
  refine va_callv (va_runI (As := [.int 2, .ref q12]) (rest := [.ref q11, .ref h0]) ⟨hx, hb, hml, hown, hts⟩ (ct_W l D q11 H.size (2) (q12)) (cwI 2 hts (zgood (fun _ h => h) zm160) rfl rfl rfl (hts _ zm6) (hts _ zm158) (hts _ zm159) rfl (by decide +kernel) ⟨Nat.le_of_ble_eq_true rfl, Nat.le_of_ble_eq_true rfl⟩) ⟨zcblind, fun U hU hW => ⟨rfl, by rw [hU], by rw [hU]; exact hPc, va_K.moved hW.alike hKc, hDc.weaken (fun _ _ _ _ => trivial), zNn_moved hW hN⟩⟩ rfl rfl hl.1 rfl (lv_room (Nat.le_of_ble_eq_true rfl)) zd_X_init_45 ⟨by show 10 + 0 ≤ _; exact Nat.le_of_ble_eq_true rfl, by show 1912 + 0 ≤ _; exact Nat.le_of_ble_eq_true rfl⟩) hS (fun q _ h => hFc q h) hFc (fun u t H1 locs ht hvm hw hB hz1 hk1 hS => ?_)
  obtain ⟨hP1, hK1, hD1⟩ := hB
  rw [ht] at hP1
  have hK1 := va_K.moved hvm.symm hK1
  obtain ⟨hP, hD⟩ := va_join (wr := [(h0, .inr (5, [.ref q1, .ref q2, .ref q7, .null, .null])), (q1, .inl (c1, 600, .inl (fun _ => 0))), (q2, .inr (3, [.ref q3, .ref q5, .int 0, .int 0, .int 0, .int 0, .int 32, .int 8, .int 64, .int 256, .int 0, .int (-1), .int 0, .int 0, .int 0])), (q3, .inr (0, [.ref q4])), (q4, .inl (c6, 600, .inl (fun _ => 0))), (q5, .inr (4, [.int 0, .int 8, .int (-1), .int (-1), .int 0, .int 0, .int 0, .int 0])), (q7, .inr (1, [.ref q8, .int 0, .int 0, .int 0])), (q8, .inr (0, [.ref q9])), (q9, .inl (c10, 600, .inl (fun _ => 0))), (q12, .inl (c12, 80, .inl (fun _ => 0)))]) (w1 := [(q11, .inr (2, [.int 2, .ref q12, .int 0]))]) hP hD [9] [0, 1, 2, 3, 4, 5, 6, 7, 8, 10] rfl rfl (by decide) (by decide) hk1 hFc hP1 hD1
  have hK := (hK.sub (tys' := [(c1, .int), (c6, .int), (c10, .int), (c12, .int)]) [0, 1, 2, 3] rfl).app hK1
  generalize H1 = H at hP hS ⊢
  have hP : va_P D zcl [(h0, .inr (5, [.ref q1, .ref q2, .ref q7, .null, .null])), (q1, .inl (c1, 600, .inl (fun _ => 0))), (q2, .inr (3, [.ref q3, .ref q5, .int 0, .int 0, .int 0, .int 0, .int 32, .int 8, .int 64, .int 256, .int 0, .int (-1), .int 0, .int 0, .int 0])), (q3, .inr (0, [.ref q4])), (q4, .inl (c6, 600, .inl (fun _ => 0))), (q5, .inr (4, [.int 0, .int 8, .int (-1), .int (-1), .int 0, .int 0, .int 0, .int 0])), (q7, .inr (1, [.ref q8, .int 0, .int 0, .int 0])), (q8, .inr (0, [.ref q9])), (q9, .inl (c10, 600, .inl (fun _ => 0))), (q12, .inl (c12, 80, .inl (fun _ => 0))), (q11, .inr (2, [.int 2, .ref q12, .int 0]))] H := hP
  have hD : va_D A [(h0, .inr (5, [.ref q1, .ref q2, .ref q7, .null, .null])), (q1, .inl (c1, 600, .inl (fun _ => 0))), (q2, .inr (3, [.ref q3, .ref q5, .int 0, .int 0, .int 0, .int 0, .int 32, .int 8, .int 64, .int 256, .int 0, .int (-1), .int 0, .int 0, .int 0])), (q3, .inr (0, [.ref q4])), (q4, .inl (c6, 600, .inl (fun _ => 0))), (q5, .inr (4, [.int 0, .int 8, .int (-1), .int (-1), .int 0, .int 0, .int 0, .int 0])), (q7, .inr (1, [.ref q8, .int 0, .int 0, .int 0])), (q8, .inr (0, [.ref q9])), (q9, .inl (c10, 600, .inl (fun _ => 0))), (q12, .inl (c12, 80, .inl (fun _ => 0))), (q11, .inr (2, [.int 2, .ref q12, .int 0]))] := hD
  have hK : va_K D zcl [(c1, .int), (c6, .int), (c10, .int), (c12, .int)] s := hK
  refine W.widen (k := 10) (n := 1912) (Nat.le_of_ble_eq_true rfl) (Nat.le_of_ble_eq_true rfl) ?_
  refine va_putF (D := D) (ref := "SluiceStream") (ci := 5) (v := .ref q11) (ty := zY5 3) (C := "SluiceStream") (T := zF5) (N := 5) hx hb hts zin5 zY5 zYo5 zNm5 hown hK hP hD hS 0 rfl rfl 3 (Nat.le_of_ble_eq_true rfl) (hts _ zm176) (fun _ h9 => h9) rfl hin rfl (by decide +kernel) rfl rfl (Nat.le_of_ble_eq_true rfl) zd_X_init_48 (fun H locs hP hD hS => ?_)
  have hP : va_P D zcl [(h0, .inr (5, [.ref q1, .ref q2, .ref q7, .ref q11, .null])), (q1, .inl (c1, 600, .inl (fun _ => 0))), (q2, .inr (3, [.ref q3, .ref q5, .int 0, .int 0, .int 0, .int 0, .int 32, .int 8, .int 64, .int 256, .int 0, .int (-1), .int 0, .int 0, .int 0])), (q3, .inr (0, [.ref q4])), (q4, .inl (c6, 600, .inl (fun _ => 0))), (q5, .inr (4, [.int 0, .int 8, .int (-1), .int (-1), .int 0, .int 0, .int 0, .int 0])), (q7, .inr (1, [.ref q8, .int 0, .int 0, .int 0])), (q8, .inr (0, [.ref q9])), (q9, .inl (c10, 600, .inl (fun _ => 0))), (q12, .inl (c12, 80, .inl (fun _ => 0))), (q11, .inr (2, [.int 2, .ref q12, .int 0]))] H := hP
  have hD : va_D A [(h0, .inr (5, [.ref q1, .ref q2, .ref q7, .ref q11, .null])), (q1, .inl (c1, 600, .inl (fun _ => 0))), (q2, .inr (3, [.ref q3, .ref q5, .int 0, .int 0, .int 0, .int 0, .int 32, .int 8, .int 64, .int 256, .int 0, .int (-1), .int 0, .int 0, .int 0])), (q3, .inr (0, [.ref q4])), (q4, .inl (c6, 600, .inl (fun _ => 0))), (q5, .inr (4, [.int 0, .int 8, .int (-1), .int (-1), .int 0, .int 0, .int 0, .int 0])), (q7, .inr (1, [.ref q8, .int 0, .int 0, .int 0])), (q8, .inr (0, [.ref q9])), (q9, .inl (c10, 600, .inl (fun _ => 0))), (q12, .inl (c12, 80, .inl (fun _ => 0))), (q11, .inr (2, [.int 2, .ref q12, .int 0]))] := hD
  refine lv_aload_n hx hb zd_X_init_51 rfl (lv_at hl 0 rfl) ?_
  refine va_new (ci := 2) (fs := [.int 0, .null, .int 0]) (C := "SluiceStream$Rows") (T := zF2) (N := 3) hx hb hts zin2 zY2 zYo2 hown (hts _ zm156) (hts _ zm157) (hts _ zm6) hK hP hD hS hA rfl (zdf2) (by show 10 + 1 ≤ _; exact Nat.le_of_ble_eq_true rfl) (by show 1912 + 3 ≤ _; exact Nat.le_of_ble_eq_true rfl) zd_X_init_52 (fun q13 H hP hD hS => ?_)
  have hP : va_P D zcl [(h0, .inr (5, [.ref q1, .ref q2, .ref q7, .ref q11, .null])), (q1, .inl (c1, 600, .inl (fun _ => 0))), (q2, .inr (3, [.ref q3, .ref q5, .int 0, .int 0, .int 0, .int 0, .int 32, .int 8, .int 64, .int 256, .int 0, .int (-1), .int 0, .int 0, .int 0])), (q3, .inr (0, [.ref q4])), (q4, .inl (c6, 600, .inl (fun _ => 0))), (q5, .inr (4, [.int 0, .int 8, .int (-1), .int (-1), .int 0, .int 0, .int 0, .int 0])), (q7, .inr (1, [.ref q8, .int 0, .int 0, .int 0])), (q8, .inr (0, [.ref q9])), (q9, .inl (c10, 600, .inl (fun _ => 0))), (q12, .inl (c12, 80, .inl (fun _ => 0))), (q11, .inr (2, [.int 2, .ref q12, .int 0])), (q13, .inr (2, [.int 0, .null, .int 0]))] H := hP
  have hD : va_D A [(h0, .inr (5, [.ref q1, .ref q2, .ref q7, .ref q11, .null])), (q1, .inl (c1, 600, .inl (fun _ => 0))), (q2, .inr (3, [.ref q3, .ref q5, .int 0, .int 0, .int 0, .int 0, .int 32, .int 8, .int 64, .int 256, .int 0, .int (-1), .int 0, .int 0, .int 0])), (q3, .inr (0, [.ref q4])), (q4, .inl (c6, 600, .inl (fun _ => 0))), (q5, .inr (4, [.int 0, .int 8, .int (-1), .int (-1), .int 0, .int 0, .int 0, .int 0])), (q7, .inr (1, [.ref q8, .int 0, .int 0, .int 0])), (q8, .inr (0, [.ref q9])), (q9, .inl (c10, 600, .inl (fun _ => 0))), (q12, .inl (c12, 80, .inl (fun _ => 0))), (q11, .inr (2, [.int 2, .ref q12, .int 0])), (q13, .inr (2, [.int 0, .null, .int 0]))] := hD
  refine W.widen (k := 11) (n := 1915) (Nat.le_of_ble_eq_true rfl) (Nat.le_of_ble_eq_true rfl) ?_
  refine lv_dup hx hb zd_X_init_55 rfl ?_
  refine lv_bipush (v := 9) hx hb zd_X_init_56 (by decide) ?_
  refine lv_sipush (v := 360) hx hb zd_X_init_58 (by decide) ?_
  refine va_newa (atype := .int) hx hb (hts _ zm38) (ty := .int) rfl hK hP hD hS hA (N' := 360) (a0 := (360, .inl (fun _ => 0))) (fun _ => rfl) (by decide) (by decide) (by decide) (by show 11 + 1 ≤ _; exact Nat.le_of_ble_eq_true rfl) (by show 1915 + 360 ≤ _; exact Nat.le_of_ble_eq_true rfl) zd_X_init_61 (fun q14 c14 H hK hP hD hS => ?_)
  have hP : va_P D zcl [(h0, .inr (5, [.ref q1, .ref q2, .ref q7, .ref q11, .null])), (q1, .inl (c1, 600, .inl (fun _ => 0))), (q2, .inr (3, [.ref q3, .ref q5, .int 0, .int 0, .int 0, .int 0, .int 32, .int 8, .int 64, .int 256, .int 0, .int (-1), .int 0, .int 0, .int 0])), (q3, .inr (0, [.ref q4])), (q4, .inl (c6, 600, .inl (fun _ => 0))), (q5, .inr (4, [.int 0, .int 8, .int (-1), .int (-1), .int 0, .int 0, .int 0, .int 0])), (q7, .inr (1, [.ref q8, .int 0, .int 0, .int 0])), (q8, .inr (0, [.ref q9])), (q9, .inl (c10, 600, .inl (fun _ => 0))), (q12, .inl (c12, 80, .inl (fun _ => 0))), (q11, .inr (2, [.int 2, .ref q12, .int 0])), (q13, .inr (2, [.int 0, .null, .int 0])), (q14, .inl (c14, 360, .inl (fun _ => 0)))] H := hP
  have hD : va_D A [(h0, .inr (5, [.ref q1, .ref q2, .ref q7, .ref q11, .null])), (q1, .inl (c1, 600, .inl (fun _ => 0))), (q2, .inr (3, [.ref q3, .ref q5, .int 0, .int 0, .int 0, .int 0, .int 32, .int 8, .int 64, .int 256, .int 0, .int (-1), .int 0, .int 0, .int 0])), (q3, .inr (0, [.ref q4])), (q4, .inl (c6, 600, .inl (fun _ => 0))), (q5, .inr (4, [.int 0, .int 8, .int (-1), .int (-1), .int 0, .int 0, .int 0, .int 0])), (q7, .inr (1, [.ref q8, .int 0, .int 0, .int 0])), (q8, .inr (0, [.ref q9])), (q9, .inl (c10, 600, .inl (fun _ => 0))), (q12, .inl (c12, 80, .inl (fun _ => 0))), (q11, .inr (2, [.int 2, .ref q12, .int 0])), (q13, .inr (2, [.int 0, .null, .int 0])), (q14, .inl (c14, 360, .inl (fun _ => 0)))] := hD
  have hK : va_K D zcl [(c1, .int), (c6, .int), (c10, .int), (c12, .int), (c14, .int)] s := hK
  refine W.widen (k := 12) (n := 2275) (Nat.le_of_ble_eq_true rfl) (Nat.le_of_ble_eq_true rfl) ?_
  have hPc := hP.sub (ws' := [(q13, .inr (2, [.int 0, .null, .int 0]))]) [11] rfl
  have hDc := hD.sub (ws' := [(q13, .inr (2, [.int 0, .null, .int 0]))]) [11] (by decide) rfl
  have hKc := hK.sub (tys' := []) [] rfl
  have hFc := va_free (wc := [(q13, .inr (2, [.int 0, .null, .int 0]))]) hD hS hA [11] rfl
  refine va_callv (va_runI (As := [.int 9, .ref q14]) (rest := [.ref q13, .ref h0]) ⟨hx, hb, hml, hown, hts⟩ (ct_W l D q13 H.size (9) (q14)) (cwI 2 hts (zgood (fun _ h => h) zm160) rfl rfl rfl (hts _ zm6) (hts _ zm158) (hts _ zm159) rfl (by decide +kernel) ⟨Nat.le_of_ble_eq_true rfl, Nat.le_of_ble_eq_true rfl⟩) ⟨zcblind, fun U hU hW => ⟨rfl, by rw [hU], by rw [hU]; exact hPc, va_K.moved hW.alike hKc, hDc.weaken (fun _ _ _ _ => trivial), zNn_moved hW hN⟩⟩ rfl rfl hl.1 rfl (lv_room (Nat.le_of_ble_eq_true rfl)) zd_X_init_63 ⟨by show 12 + 0 ≤ _; exact Nat.le_of_ble_eq_true rfl, by show 2275 + 0 ≤ _; exact Nat.le_of_ble_eq_true rfl⟩) hS (fun q _ h => hFc q h) hFc (fun u t H1 locs ht hvm hw hB hz1 hk1 hS => ?_)
  obtain ⟨hP1, hK1, hD1⟩ := hB
  rw [ht] at hP1
  have hK1 := va_K.moved hvm.symm hK1
  obtain ⟨hP, hD⟩ := va_join (wr := [(h0, .inr (5, [.ref q1, .ref q2, .ref q7, .ref q11, .null])), (q1, .inl (c1, 600, .inl (fun _ => 0))), (q2, .inr (3, [.ref q3, .ref q5, .int 0, .int 0, .int 0, .int 0, .int 32, .int 8, .int 64, .int 256, .int 0, .int (-1), .int 0, .int 0, .int 0])), (q3, .inr (0, [.ref q4])), (q4, .inl (c6, 600, .inl (fun _ => 0))), (q5, .inr (4, [.int 0, .int 8, .int (-1), .int (-1), .int 0, .int 0, .int 0, .int 0])), (q7, .inr (1, [.ref q8, .int 0, .int 0, .int 0])), (q8, .inr (0, [.ref q9])), (q9, .inl (c10, 600, .inl (fun _ => 0))), (q12, .inl (c12, 80, .inl (fun _ => 0))), (q11, .inr (2, [.int 2, .ref q12, .int 0])), (q14, .inl (c14, 360, .inl (fun _ => 0)))]) (w1 := [(q13, .inr (2, [.int 9, .ref q14, .int 0]))]) hP hD [11] [0, 1, 2, 3, 4, 5, 6, 7, 8, 9, 10, 12] rfl rfl (by decide) (by decide) hk1 hFc hP1 hD1
  have hK := (hK.sub (tys' := [(c1, .int), (c6, .int), (c10, .int), (c12, .int), (c14, .int)]) [0, 1, 2, 3, 4] rfl).app hK1
  generalize H1 = H at hP hS ⊢
  have hP : va_P D zcl [(h0, .inr (5, [.ref q1, .ref q2, .ref q7, .ref q11, .null])), (q1, .inl (c1, 600, .inl (fun _ => 0))), (q2, .inr (3, [.ref q3, .ref q5, .int 0, .int 0, .int 0, .int 0, .int 32, .int 8, .int 64, .int 256, .int 0, .int (-1), .int 0, .int 0, .int 0])), (q3, .inr (0, [.ref q4])), (q4, .inl (c6, 600, .inl (fun _ => 0))), (q5, .inr (4, [.int 0, .int 8, .int (-1), .int (-1), .int 0, .int 0, .int 0, .int 0])), (q7, .inr (1, [.ref q8, .int 0, .int 0, .int 0])), (q8, .inr (0, [.ref q9])), (q9, .inl (c10, 600, .inl (fun _ => 0))), (q12, .inl (c12, 80, .inl (fun _ => 0))), (q11, .inr (2, [.int 2, .ref q12, .int 0])), (q14, .inl (c14, 360, .inl (fun _ => 0))), (q13, .inr (2, [.int 9, .ref q14, .int 0]))] H := hP
  have hD : va_D A [(h0, .inr (5, [.ref q1, .ref q2, .ref q7, .ref q11, .null])), (q1, .inl (c1, 600, .inl (fun _ => 0))), (q2, .inr (3, [.ref q3, .ref q5, .int 0, .int 0, .int 0, .int 0, .int 32, .int 8, .int 64, .int 256, .int 0, .int (-1), .int 0, .int 0, .int 0])), (q3, .inr (0, [.ref q4])), (q4, .inl (c6, 600, .inl (fun _ => 0))), (q5, .inr (4, [.int 0, .int 8, .int (-1), .int (-1), .int 0, .int 0, .int 0, .int 0])), (q7, .inr (1, [.ref q8, .int 0, .int 0, .int 0])), (q8, .inr (0, [.ref q9])), (q9, .inl (c10, 600, .inl (fun _ => 0))), (q12, .inl (c12, 80, .inl (fun _ => 0))), (q11, .inr (2, [.int 2, .ref q12, .int 0])), (q14, .inl (c14, 360, .inl (fun _ => 0))), (q13, .inr (2, [.int 9, .ref q14, .int 0]))] := hD
  have hK : va_K D zcl [(c1, .int), (c6, .int), (c10, .int), (c12, .int), (c14, .int)] s := hK
  refine W.widen (k := 12) (n := 2275) (Nat.le_of_ble_eq_true rfl) (Nat.le_of_ble_eq_true rfl) ?_
  refine va_putF (D := D) (ref := "SluiceStream") (ci := 5) (v := .ref q13) (ty := zY5 4) (C := "SluiceStream") (T := zF5) (N := 5) hx hb hts zin5 zY5 zYo5 zNm5 hown hK hP hD hS 0 rfl rfl 4 (Nat.le_of_ble_eq_true rfl) (hts _ zm177) (fun _ h9 => h9) rfl hin rfl (by decide +kernel) rfl rfl (Nat.le_of_ble_eq_true rfl) zd_X_init_66 (fun H locs hP hD hS => ?_)
  have hP : va_P D zcl [(h0, .inr (5, [.ref q1, .ref q2, .ref q7, .ref q11, .ref q13])), (q1, .inl (c1, 600, .inl (fun _ => 0))), (q2, .inr (3, [.ref q3, .ref q5, .int 0, .int 0, .int 0, .int 0, .int 32, .int 8, .int 64, .int 256, .int 0, .int (-1), .int 0, .int 0, .int 0])), (q3, .inr (0, [.ref q4])), (q4, .inl (c6, 600, .inl (fun _ => 0))), (q5, .inr (4, [.int 0, .int 8, .int (-1), .int (-1), .int 0, .int 0, .int 0, .int 0])), (q7, .inr (1, [.ref q8, .int 0, .int 0, .int 0])), (q8, .inr (0, [.ref q9])), (q9, .inl (c10, 600, .inl (fun _ => 0))), (q12, .inl (c12, 80, .inl (fun _ => 0))), (q11, .inr (2, [.int 2, .ref q12, .int 0])), (q14, .inl (c14, 360, .inl (fun _ => 0))), (q13, .inr (2, [.int 9, .ref q14, .int 0]))] H := hP
  have hD : va_D A [(h0, .inr (5, [.ref q1, .ref q2, .ref q7, .ref q11, .ref q13])), (q1, .inl (c1, 600, .inl (fun _ => 0))), (q2, .inr (3, [.ref q3, .ref q5, .int 0, .int 0, .int 0, .int 0, .int 32, .int 8, .int 64, .int 256, .int 0, .int (-1), .int 0, .int 0, .int 0])), (q3, .inr (0, [.ref q4])), (q4, .inl (c6, 600, .inl (fun _ => 0))), (q5, .inr (4, [.int 0, .int 8, .int (-1), .int (-1), .int 0, .int 0, .int 0, .int 0])), (q7, .inr (1, [.ref q8, .int 0, .int 0, .int 0])), (q8, .inr (0, [.ref q9])), (q9, .inl (c10, 600, .inl (fun _ => 0))), (q12, .inl (c12, 80, .inl (fun _ => 0))), (q11, .inr (2, [.int 2, .ref q12, .int 0])), (q14, .inl (c14, 360, .inl (fun _ => 0))), (q13, .inr (2, [.int 9, .ref q14, .int 0]))] := hD
  have hP9 := hP.sub (ws' := [(h0, .inr (5, [.ref q1, .ref q2, .ref q7, .ref q11, .ref q13])), (q1, .inl (c1, 600, .inl (fun _ => 0))), (q2, .inr (3, [.ref q3, .ref q5, .int 0, .int 0, .int 0, .int 0, .int 32, .int 8, .int 64, .int 256, .int 0, .int (-1), .int 0, .int 0, .int 0])), (q3, .inr (0, [.ref q4])), (q4, .inl (c6, 600, .inl (fun _ => 0))), (q5, .inr (4, [.int 0, .int 8, .int (-1), .int (-1), .int 0, .int 0, .int 0, .int 0])), (q7, .inr (1, [.ref q8, .int 0, .int 0, .int 0])), (q8, .inr (0, [.ref q9])), (q9, .inl (c10, 600, .inl (fun _ => 0))), (q12, .inl (c12, 80, .inl (fun _ => 0))), (q11, .inr (2, [.int 2, .ref q12, .int 0])), (q14, .inl (c14, 360, .inl (fun _ => 0))), (q13, .inr (2, [.int 9, .ref q14, .int 0]))]) [0, 1, 2, 3, 4, 5, 6, 7, 8, 9, 10, 11, 12] rfl
  have hD9 := hD.sub (ws' := [(h0, .inr (5, [.ref q1, .ref q2, .ref q7, .ref q11, .ref q13])), (q1, .inl (c1, 600, .inl (fun _ => 0))), (q2, .inr (3, [.ref q3, .ref q5, .int 0, .int 0, .int 0, .int 0, .int 32, .int 8, .int 64, .int 256, .int 0, .int (-1), .int 0, .int 0, .int 0])), (q3, .inr (0, [.ref q4])), (q4, .inl (c6, 600, .inl (fun _ => 0))), (q5, .inr (4, [.int 0, .int 8, .int (-1), .int (-1), .int 0, .int 0, .int 0, .int 0])), (q7, .inr (1, [.ref q8, .int 0, .int 0, .int 0])), (q8, .inr (0, [.ref q9])), (q9, .inl (c10, 600, .inl (fun _ => 0))), (q12, .inl (c12, 80, .inl (fun _ => 0))), (q11, .inr (2, [.int 2, .ref q12, .int 0])), (q14, .inl (c14, 360, .inl (fun _ => 0))), (q13, .inr (2, [.int 9, .ref q14, .int 0]))]) [0, 1, 2, 3, 4, 5, 6, 7, 8, 9, 10, 11, 12] (by decide) rfl
  exact W.vret hx hb hr (fun t ht hW => ⟨⟨(), rfl, trivial, q1, q2, q3, q4, q5, q7, q8, q9, q11, q12, q13, q14, c1, c6, c10, c12, c14, by rw [ht]; exact hP9, va_K.moved hW.alike hK, hD9⟩, hS.F ht⟩) hS.2.2 zd_X_init_69
