def zwr (x : Int32 × Int32 × zSt) : Int32 × zSt := if x.1 = 0 then (0, zuf x.2.2 25 0 x.2.1) else (x.1, x.2.2)
theorem zwr0 {r : Int32} {u : zSt} : zwr (0, r, u) = (0, zuf u 25 0 r) := rfl
theorem zwr1 {k r : Int32} {u : zSt} (h : ¬ k = 0) : zwr (k, r, u) = (k, u) := if_neg h
def zwb (x : Int32 × Int32 × zSt) : Int32 × zSt := if x.1 = 0 then (0, zuf x.2.2 25 0 (if x.2.1 = 0 then 0 else 1)) else (x.1, x.2.2)
theorem zwb0 {r : Int32} {u : zSt} : zwb (0, r, u) = (0, zuf u 25 0 (if r = 0 then 0 else 1)) := rfl
theorem zwb1 {k r : Int32} {u : zSt} (h : ¬ k = 0) : zwb (k, r, u) = (k, u) := if_neg h
def l_X_write_55 (x1 x2 : Int32) : Nat → zSt → Int32 → zSt
  | 0, σ, _ => σ
  | m + 1, σ, x3 => (if x2 ≤ x3 then σ else (if ((σ 2 5) + x3) < 0 then (l_X_write_55 x1 x2 m σ (x3 + 1)) else (if 600 ≤ ((σ 2 5) + x3) then (l_X_write_55 x1 x2 m σ (x3 + 1)) else (l_X_write_55 x1 x2 m (zuf σ 1 (((σ 2 5) + x3) : Int32).toNatClampNeg ((x1 + x3) - (x1 + x3) / 256 * 256)) (x3 + 1)))))
def kl_X_write_55 (x1 x2 : Int32) : Nat → zSt → Int32 → Prop
  | 0, _, _ => False
  | m + 1, σ, x3 => (¬ x2 ≤ x3 → ((((σ 2 5) + x3) < 0 → (kl_X_write_55 x1 x2 m σ (x3 + 1))) ∧ (¬ ((σ 2 5) + x3) < 0 → ((600 ≤ ((σ 2 5) + x3) → (kl_X_write_55 x1 x2 m σ (x3 + 1))) ∧ (¬ 600 ≤ ((σ 2 5) + x3) → (vp_in ((σ 2 5) + x3) 600 ∧ (kl_X_write_55 x1 x2 m (zuf σ 1 (((σ 2 5) + x3) : Int32).toNatClampNeg ((x1 + x3) - (x1 + x3) / 256 * 256)) (x3 + 1))))))))
def f_X_write (σ : zSt) (a1 : Int32) (a2 : Int32) : Int32 × Int32 × zSt := (if a1 < 0 then (1, 0, σ) else (if 256 ≤ a1 then (1, 0, σ) else (if a2 < 1 then (1, 0, σ) else (if a2 ≤ 100 then (if ((σ 2 5) + a2) ≤ 600 then zlet (l_X_write_55 a1 a2 (((a2).toInt - (0 : Int32).toInt).toNat + 2) σ 0) (fun r10 => (0, ((r10 2 5) + a2), (zuf r10 2 5 ((r10 2 5) + a2)))) else (2, 0, σ)) else (1, 0, σ)))))
def k_X_write (σ : zSt) (a1 : Int32) (a2 : Int32) : Prop := (¬ a1 < 0 → (¬ 256 ≤ a1 → (¬ a2 < 1 → (a2 ≤ 100 → (((σ 2 5) + a2) ≤ 600 → (kl_X_write_55 a1 a2 (((a2).toInt - (0 : Int32).toInt).toNat + 2) σ 0))))))
def f_L_write (σ : zSt) (a1 : Int32) (a2 : Int32) : Int32 × zSt := zwr (f_X_write σ a1 a2)
def f_X_setLimit (σ : zSt) (a1 : Int32) : Int32 × Int32 × zSt := (if a1 < 4 then (1, 0, σ) else (if a1 ≤ 256 then (0, (σ 2 9), (zuf σ 2 9 a1)) else (1, 0, σ)))
def f_L_setLimit (σ : zSt) (a1 : Int32) : Int32 × zSt := zwr (f_X_setLimit σ a1)
def f_X_send (σ : zSt) : Int32 × Int32 × zSt := zlet (f_W_isFull 9 σ) (fun r1 => (if r1 = 0 then zseq (f_S_sendInto σ) (fun r4 u5 => (0, r4, u5)) else (1, 0, σ)))
def k_X_send (σ : zSt) : Prop := (∀ r1, r1 = (f_W_isFull 9 σ) → (r1 = 0 → (k_S_sendInto σ)))
def f_L_send (σ : zSt) : Int32 × zSt := zwr (f_X_send σ)
def f_X_tick (σ : zSt) (a1 : Int32) : Int32 × Int32 × zSt := (if a1 < 1 then (1, 0, σ) else (if a1 ≤ 100 then zseq (f_S_passTicks σ a1) (fun r3 u4 => (0, r3, u4)) else (1, 0, σ)))
def k_X_tick (σ : zSt) (a1 : Int32) : Prop := (¬ a1 < 1 → (a1 ≤ 100 → (k_S_passTicks σ a1)))
def f_L_tick (σ : zSt) (a1 : Int32) : Int32 × zSt := zwr (f_X_tick σ a1)
def f_X_deliver (σ : zSt) (a1 : Int32) : Int32 × Int32 × zSt := zlet (f_W_holds 9 σ a1) (fun r1 => (if r1 = 0 then (1, 0, σ) else zlet (f_W_cell 9 σ a1 0) (fun r4 => zlet (f_W_cell 9 σ a1 1) (fun r6 => zseq (f_R_takeBytes σ r4 r6) (fun r8 u9 => zlet (f_W_remove 9 u9 a1) (fun u11 => zlet (f_R_makeAck u11) (fun u13 => (0, r8, u13))))))))
def k_X_deliver (σ : zSt) (a1 : Int32) : Prop := (∀ r1, r1 = (f_W_holds 9 σ a1) → (¬ r1 = 0 → ((k_W_cell 9 σ a1 0) ∧ (∀ r4, r4 = (f_W_cell 9 σ a1 0) → ((k_W_cell 9 σ a1 1) ∧ (∀ r6, r6 = (f_W_cell 9 σ a1 1) → ((k_R_takeBytes σ r4 r6) ∧ (∀ r8 u9, (r8, u9) = (f_R_takeBytes σ r4 r6) → ((k_W_remove 9 u9 a1) ∧ (∀ u11, u11 = (f_W_remove 9 u9 a1) → (k_R_makeAck u11)))))))))))
def f_L_deliver (σ : zSt) (a1 : Int32) : Int32 × zSt := zwr (f_X_deliver σ a1)
def f_X_lose (σ : zSt) (a1 : Int32) : Int32 × Int32 × zSt := zlet (f_W_holds 9 σ a1) (fun r1 => (if r1 = 0 then (1, 0, σ) else zlet (f_W_cell 9 σ a1 0) (fun r4 => zlet (f_W_remove 9 σ a1) (fun u6 => (0, r4, u6)))))
def k_X_lose (σ : zSt) (a1 : Int32) : Prop := (∀ r1, r1 = (f_W_holds 9 σ a1) → (¬ r1 = 0 → ((k_W_cell 9 σ a1 0) ∧ (∀ r4, r4 = (f_W_cell 9 σ a1 0) → (k_W_remove 9 σ a1)))))
def f_L_lose (σ : zSt) (a1 : Int32) : Int32 × zSt := zwr (f_X_lose σ a1)
def f_X_duplicate (σ : zSt) (a1 : Int32) : Int32 × Int32 × zSt := zlet (f_W_holds 9 σ a1) (fun r1 => (if r1 = 0 then (1, 0, σ) else zlet (f_W_isFull 9 σ) (fun r4 => (if r4 = 0 then zseq (f_W_addRow 9 σ) (fun r7 u8 => zlet (f_W_cell 9 u8 a1 0) (fun r10 => zlet (f_W_setCell 9 u8 r7 0 r10) (fun u12 => zlet (f_W_cell 9 u12 a1 1) (fun r14 => zlet (f_W_setCell 9 u12 r7 1 r14) (fun u16 => (0, (u16 9 2), u16)))))) else (2, 0, σ)))))
def k_X_duplicate (σ : zSt) (a1 : Int32) : Prop := (∀ r1, r1 = (f_W_holds 9 σ a1) → (¬ r1 = 0 → (∀ r4, r4 = (f_W_isFull 9 σ) → (r4 = 0 → (∀ r7 u8, (r7, u8) = (f_W_addRow 9 σ) → ((k_W_cell 9 u8 a1 0) ∧ (∀ r10, r10 = (f_W_cell 9 u8 a1 0) → ((k_W_setCell 9 u8 r7 0 r10) ∧ (∀ u12, u12 = (f_W_setCell 9 u8 r7 0 r10) → ((k_W_cell 9 u12 a1 1) ∧ (∀ r14, r14 = (f_W_cell 9 u12 a1 1) → (k_W_setCell 9 u12 r7 1 r14))))))))))))
def f_L_duplicate (σ : zSt) (a1 : Int32) : Int32 × zSt := zwr (f_X_duplicate σ a1)
def f_X_deliverAck (σ : zSt) (a1 : Int32) : Int32 × Int32 × zSt := zlet (f_W_holds 11 σ a1) (fun r1 => (if r1 = 0 then (1, 0, σ) else zseq (f_S_takeAck σ a1) (fun r4 u5 => zlet (f_W_remove 11 u5 a1) (fun u7 => (0, r4, u7)))))
def k_X_deliverAck (σ : zSt) (a1 : Int32) : Prop := (∀ r1, r1 = (f_W_holds 11 σ a1) → (¬ r1 = 0 → ((k_S_takeAck σ a1) ∧ (∀ r4 u5, (r4, u5) = (f_S_takeAck σ a1) → (k_W_remove 11 u5 a1)))))
def f_L_deliverAck (σ : zSt) (a1 : Int32) : Int32 × zSt := zwr (f_X_deliverAck σ a1)
def f_X_loseAck (σ : zSt) (a1 : Int32) : Int32 × Int32 × zSt := zlet (f_W_holds 11 σ a1) (fun r1 => (if r1 = 0 then (1, 0, σ) else zlet (f_W_cell 11 σ a1 0) (fun r4 => zlet (f_W_remove 11 σ a1) (fun u6 => (0, r4, u6)))))
def k_X_loseAck (σ : zSt) (a1 : Int32) : Prop := (∀ r1, r1 = (f_W_holds 11 σ a1) → (¬ r1 = 0 → ((k_W_cell 11 σ a1 0) ∧ (∀ r4, r4 = (f_W_cell 11 σ a1 0) → (k_W_remove 11 σ a1)))))
def f_L_loseAck (σ : zSt) (a1 : Int32) : Int32 × zSt := zwr (f_X_loseAck σ a1)
def f_X_startOf (σ : zSt) (a1 : Int32) : Int32 × Int32 × zSt := zlet (f_W_holds 9 σ a1) (fun r1 => (if r1 = 0 then (1, 0, σ) else zlet (f_W_cell 9 σ a1 0) (fun r4 => (0, r4, σ))))
def k_X_startOf (σ : zSt) (a1 : Int32) : Prop := (∀ r1, r1 = (f_W_holds 9 σ a1) → (¬ r1 = 0 → (k_W_cell 9 σ a1 0)))
def f_L_startOf (σ : zSt) (a1 : Int32) : Int32 × zSt := zwr (f_X_startOf σ a1)
def f_X_endOf (σ : zSt) (a1 : Int32) : Int32 × Int32 × zSt := zlet (f_W_holds 9 σ a1) (fun r1 => (if r1 = 0 then (1, 0, σ) else zlet (f_W_cell 9 σ a1 1) (fun r4 => (0, r4, σ))))
def k_X_endOf (σ : zSt) (a1 : Int32) : Prop := (∀ r1, r1 = (f_W_holds 9 σ a1) → (¬ r1 = 0 → (k_W_cell 9 σ a1 1)))
def f_L_endOf (σ : zSt) (a1 : Int32) : Int32 × zSt := zwr (f_X_endOf σ a1)
def f_X_ackNumber (σ : zSt) (a1 : Int32) : Int32 × Int32 × zSt := zlet (f_W_holds 11 σ a1) (fun r1 => (if r1 = 0 then (1, 0, σ) else zlet (f_W_cell 11 σ a1 0) (fun r4 => (0, r4, σ))))
def k_X_ackNumber (σ : zSt) (a1 : Int32) : Prop := (∀ r1, r1 = (f_W_holds 11 σ a1) → (¬ r1 = 0 → (k_W_cell 11 σ a1 0)))
def f_L_ackNumber (σ : zSt) (a1 : Int32) : Int32 × zSt := zwr (f_X_ackNumber σ a1)
def f_X_ackWindow (σ : zSt) (a1 : Int32) : Int32 × Int32 × zSt := zlet (f_W_holds 11 σ a1) (fun r1 => (if r1 = 0 then (1, 0, σ) else zlet (f_W_cell 11 σ a1 1) (fun r4 => (0, r4, σ))))
def k_X_ackWindow (σ : zSt) (a1 : Int32) : Prop := (∀ r1, r1 = (f_W_holds 11 σ a1) → (¬ r1 = 0 → (k_W_cell 11 σ a1 1)))
def f_L_ackWindow (σ : zSt) (a1 : Int32) : Int32 × zSt := zwr (f_X_ackWindow σ a1)
def f_X_ackBlocks (σ : zSt) (a1 : Int32) : Int32 × Int32 × zSt := zlet (f_W_holds 11 σ a1) (fun r1 => (if r1 = 0 then (1, 0, σ) else zlet (f_W_cell 11 σ a1 2) (fun r4 => (0, r4, σ))))
def k_X_ackBlocks (σ : zSt) (a1 : Int32) : Prop := (∀ r1, r1 = (f_W_holds 11 σ a1) → (¬ r1 = 0 → (k_W_cell 11 σ a1 2)))
def f_L_ackBlocks (σ : zSt) (a1 : Int32) : Int32 × zSt := zwr (f_X_ackBlocks σ a1)
def f_X_ackBlock (σ : zSt) (a1 : Int32) (a2 : Int32) : Int32 × Int32 × zSt := zlet (f_W_holds 11 σ a1) (fun r1 => (if r1 = 0 then (1, 0, σ) else (if a2 < 0 then (1, 0, σ) else zlet (f_W_cell 11 σ a1 2) (fun r5 => (if a2 < r5 then zlet (f_W_cell 11 σ a1 (3 + (2 * a2))) (fun r8 => (0, r8, σ)) else (1, 0, σ))))))
def k_X_ackBlock (σ : zSt) (a1 : Int32) (a2 : Int32) : Prop := (∀ r1, r1 = (f_W_holds 11 σ a1) → (¬ r1 = 0 → (¬ a2 < 0 → ((k_W_cell 11 σ a1 2) ∧ (∀ r5, r5 = (f_W_cell 11 σ a1 2) → (a2 < r5 → (k_W_cell 11 σ a1 (3 + (2 * a2)))))))))
def f_L_ackBlock (σ : zSt) (a1 : Int32) (a2 : Int32) : Int32 × zSt := zwr (f_X_ackBlock σ a1 a2)
def f_X_isMarked (σ : zSt) (a1 : Int32) : Int32 × Int32 × zSt := (if a1 < 0 then (1, 0, σ) else (if a1 < (σ 2 5) then zlet (f_P_at 3 σ a1) (fun r3 => (if r3 = 0 then (0, 0, σ) else (0, 1, σ))) else (1, 0, σ)))
def k_X_isMarked (σ : zSt) (a1 : Int32) : Prop := (¬ a1 < 0 → (a1 < (σ 2 5) → (k_P_at 3 σ a1)))
def f_L_isMarked (σ : zSt) (a1 : Int32) : Int32 × zSt := zwb (f_X_isMarked σ a1)
def f_X_blockStart (σ : zSt) (a1 : Int32) : Int32 × Int32 × zSt := (if a1 < 0 then (1, 0, σ) else zlet (f_R_countBlocks σ) (fun r2 => (if a1 < r2 then zlet (f_R_startOfBlock σ a1) (fun r5 => (0, r5, σ)) else (1, 0, σ))))
def k_X_blockStart (σ : zSt) (a1 : Int32) : Prop := (¬ a1 < 0 → ((k_R_countBlocks σ) ∧ (∀ r2, r2 = (f_R_countBlocks σ) → (a1 < r2 → (k_R_startOfBlock σ a1)))))
def f_L_blockStart (σ : zSt) (a1 : Int32) : Int32 × zSt := zwr (f_X_blockStart σ a1)
def f_X_blockEnd (σ : zSt) (a1 : Int32) : Int32 × Int32 × zSt := (if a1 < 0 then (1, 0, σ) else zlet (f_R_countBlocks σ) (fun r2 => (if a1 < r2 then zlet (f_R_startOfBlock σ a1) (fun r5 => zlet (f_R_endOfRun σ r5) (fun r7 => (0, r7, σ))) else (1, 0, σ))))
def k_X_blockEnd (σ : zSt) (a1 : Int32) : Prop := (¬ a1 < 0 → ((k_R_countBlocks σ) ∧ (∀ r2, r2 = (f_R_countBlocks σ) → (a1 < r2 → ((k_R_startOfBlock σ a1) ∧ (∀ r5, r5 = (f_R_startOfBlock σ a1) → (k_R_endOfRun σ r5)))))))
def f_L_blockEnd (σ : zSt) (a1 : Int32) : Int32 × zSt := zwr (f_X_blockEnd σ a1)
theorem zm382 : (Jvm.Cond.classLink "SluiceStream" (39 : Nat) "java/lang/IllegalArgumentException") ∈ zT := List.mem_filter.mpr ⟨List.mem_of_getElem? (i := 418) (by decide +kernel), by decide +kernel⟩
theorem zm11 : (Jvm.Cond.initialized "java/lang/IllegalArgumentException") ∈ zT := List.mem_filter.mpr ⟨List.mem_of_getElem? (i := 47) (by decide +kernel), by decide +kernel⟩
theorem zm445 : (Jvm.Cond.classLink "SluiceStream" (46 : Nat) "java/lang/IllegalStateException") ∈ zT := List.mem_filter.mpr ⟨List.mem_of_getElem? (i := 481) (by decide +kernel), by decide +kernel⟩
theorem zm12 : (Jvm.Cond.initialized "java/lang/IllegalStateException") ∈ zT := List.mem_filter.mpr ⟨List.mem_of_getElem? (i := 48) (by decide +kernel), by decide +kernel⟩
theorem zm378 : (Jvm.Cond.methodLink "SluiceStreamLaw" (7 : Nat) ({ cls := "SluiceStream", name := "write", desc := "(II)I" } : Jvm.MethodName)) ∈ zT := List.mem_filter.mpr ⟨List.mem_of_getElem? (i := 414) (by decide +kernel), by decide +kernel⟩
theorem zm1 : (Jvm.Cond.initialized "SluiceStream") ∈ zT := List.mem_filter.mpr ⟨List.mem_of_getElem? (i := 37) (by decide +kernel), by decide +kernel⟩
theorem zm381 : (Jvm.Cond.code ({ cls := "SluiceStream", name := "write", desc := "(II)I" } : Jvm.MethodName) prog_1_method_2_code (5 : Nat) (Option.some Jvm.ClassFile.FieldType.int)) ∈ zT := List.mem_filter.mpr ⟨List.mem_of_getElem? (i := 417) (by decide +kernel), by decide +kernel⟩
theorem zm379 : (Jvm.Cond.instanceMethod ({ cls := "SluiceStream", name := "write", desc := "(II)I" } : Jvm.MethodName)) ∈ zT := List.mem_filter.mpr ⟨List.mem_of_getElem? (i := 415) (by decide +kernel), by decide +kernel⟩
theorem zm380 : (Jvm.Cond.selects "SluiceStream" ({ cls := "SluiceStream", name := "write", desc := "(II)I" } : Jvm.MethodName) ({ cls := "SluiceStream", name := "write", desc := "(II)I" } : Jvm.MethodName)) ∈ zT := List.mem_filter.mpr ⟨List.mem_of_getElem? (i := 416) (by decide +kernel), by decide +kernel⟩
theorem zm376 : (Jvm.Cond.classLink "SluiceStreamLaw" (13 : Nat) "java/lang/IllegalArgumentException") ∈ zT := List.mem_filter.mpr ⟨List.mem_of_getElem? (i := 412) (by decide +kernel), by decide +kernel⟩
theorem zm377 : (Jvm.Cond.classLink "SluiceStreamLaw" (15 : Nat) "java/lang/IllegalStateException") ∈ zT := List.mem_filter.mpr ⟨List.mem_of_getElem? (i := 413) (by decide +kernel), by decide +kernel⟩
theorem zm96 : (Jvm.Cond.fieldLink "SluiceStream" (63 : Nat) "SluiceStream$Sender" "limit" "I") ∈ zT := List.mem_filter.mpr ⟨List.mem_of_getElem? (i := 132) (by decide +kernel), by decide +kernel⟩
theorem zm463 : (Jvm.Cond.methodLink "SluiceStreamLaw" (17 : Nat) ({ cls := "SluiceStream", name := "setLimit", desc := "(I)I" } : Jvm.MethodName)) ∈ zT := List.mem_filter.mpr ⟨List.mem_of_getElem? (i := 499) (by decide +kernel), by decide +kernel⟩
theorem zm466 : (Jvm.Cond.code ({ cls := "SluiceStream", name := "setLimit", desc := "(I)I" } : Jvm.MethodName) prog_1_method_4_code (3 : Nat) (Option.some Jvm.ClassFile.FieldType.int)) ∈ zT := List.mem_filter.mpr ⟨List.mem_of_getElem? (i := 502) (by decide +kernel), by decide +kernel⟩
theorem zm464 : (Jvm.Cond.instanceMethod ({ cls := "SluiceStream", name := "setLimit", desc := "(I)I" } : Jvm.MethodName)) ∈ zT := List.mem_filter.mpr ⟨List.mem_of_getElem? (i := 500) (by decide +kernel), by decide +kernel⟩
theorem zm465 : (Jvm.Cond.selects "SluiceStream" ({ cls := "SluiceStream", name := "setLimit", desc := "(I)I" } : Jvm.MethodName) ({ cls := "SluiceStream", name := "setLimit", desc := "(I)I" } : Jvm.MethodName)) ∈ zT := List.mem_filter.mpr ⟨List.mem_of_getElem? (i := 501) (by decide +kernel), by decide +kernel⟩
theorem zm474 : (Jvm.Cond.methodLink "SluiceStream" (66 : Nat) ({ cls := "SluiceStream$Rows", name := "isFull", desc := "()Z" } : Jvm.MethodName)) ∈ zT := List.mem_filter.mpr ⟨List.mem_of_getElem? (i := 510) (by decide +kernel), by decide +kernel⟩
theorem zm475 : (Jvm.Cond.methodLink "SluiceStream" (69 : Nat) ({ cls := "SluiceStream$Sender", name := "sendInto", desc := "(LSluiceStream$Rows;)I" } : Jvm.MethodName)) ∈ zT := List.mem_filter.mpr ⟨List.mem_of_getElem? (i := 511) (by decide +kernel), by decide +kernel⟩
theorem zm478 : (Jvm.Cond.code ({ cls := "SluiceStream$Sender", name := "sendInto", desc := "(LSluiceStream$Rows;)I" } : Jvm.MethodName) prog_5_method_3_code (5 : Nat) (Option.some Jvm.ClassFile.FieldType.int)) ∈ zT := List.mem_filter.mpr ⟨List.mem_of_getElem? (i := 514) (by decide +kernel), by decide +kernel⟩
theorem zm476 : (Jvm.Cond.instanceMethod ({ cls := "SluiceStream$Sender", name := "sendInto", desc := "(LSluiceStream$Rows;)I" } : Jvm.MethodName)) ∈ zT := List.mem_filter.mpr ⟨List.mem_of_getElem? (i := 512) (by decide +kernel), by decide +kernel⟩
theorem zm477 : (Jvm.Cond.selects "SluiceStream$Sender" ({ cls := "SluiceStream$Sender", name := "sendInto", desc := "(LSluiceStream$Rows;)I" } : Jvm.MethodName) ({ cls := "SluiceStream$Sender", name := "sendInto", desc := "(LSluiceStream$Rows;)I" } : Jvm.MethodName)) ∈ zT := List.mem_filter.mpr ⟨List.mem_of_getElem? (i := 513) (by decide +kernel), by decide +kernel⟩
theorem zm470 : (Jvm.Cond.methodLink "SluiceStreamLaw" (21 : Nat) ({ cls := "SluiceStream", name := "send", desc := "()I" } : Jvm.MethodName)) ∈ zT := List.mem_filter.mpr ⟨List.mem_of_getElem? (i := 506) (by decide +kernel), by decide +kernel⟩
theorem zm473 : (Jvm.Cond.code ({ cls := "SluiceStream", name := "send", desc := "()I" } : Jvm.MethodName) prog_1_method_5_code (1 : Nat) (Option.some Jvm.ClassFile.FieldType.int)) ∈ zT := List.mem_filter.mpr ⟨List.mem_of_getElem? (i := 509) (by decide +kernel), by decide +kernel⟩
theorem zm471 : (Jvm.Cond.instanceMethod ({ cls := "SluiceStream", name := "send", desc := "()I" } : Jvm.MethodName)) ∈ zT := List.mem_filter.mpr ⟨List.mem_of_getElem? (i := 507) (by decide +kernel), by decide +kernel⟩
theorem zm472 : (Jvm.Cond.selects "SluiceStream" ({ cls := "SluiceStream", name := "send", desc := "()I" } : Jvm.MethodName) ({ cls := "SluiceStream", name := "send", desc := "()I" } : Jvm.MethodName)) ∈ zT := List.mem_filter.mpr ⟨List.mem_of_getElem? (i := 508) (by decide +kernel), by decide +kernel⟩
theorem zm523 : (Jvm.Cond.methodLink "SluiceStream" (73 : Nat) ({ cls := "SluiceStream$Sender", name := "passTicks", desc := "(I)I" } : Jvm.MethodName)) ∈ zT := List.mem_filter.mpr ⟨List.mem_of_getElem? (i := 559) (by decide +kernel), by decide +kernel⟩
theorem zm526 : (Jvm.Cond.code ({ cls := "SluiceStream$Sender", name := "passTicks", desc := "(I)I" } : Jvm.MethodName) prog_5_method_8_code (4 : Nat) (Option.some Jvm.ClassFile.FieldType.int)) ∈ zT := List.mem_filter.mpr ⟨List.mem_of_getElem? (i := 562) (by decide +kernel), by decide +kernel⟩
theorem zm524 : (Jvm.Cond.instanceMethod ({ cls := "SluiceStream$Sender", name := "passTicks", desc := "(I)I" } : Jvm.MethodName)) ∈ zT := List.mem_filter.mpr ⟨List.mem_of_getElem? (i := 560) (by decide +kernel), by decide +kernel⟩
theorem zm525 : (Jvm.Cond.selects "SluiceStream$Sender" ({ cls := "SluiceStream$Sender", name := "passTicks", desc := "(I)I" } : Jvm.MethodName) ({ cls := "SluiceStream$Sender", name := "passTicks", desc := "(I)I" } : Jvm.MethodName)) ∈ zT := List.mem_filter.mpr ⟨List.mem_of_getElem? (i := 561) (by decide +kernel), by decide +kernel⟩
theorem zm519 : (Jvm.Cond.methodLink "SluiceStreamLaw" (25 : Nat) ({ cls := "SluiceStream", name := "tick", desc := "(I)I" } : Jvm.MethodName)) ∈ zT := List.mem_filter.mpr ⟨List.mem_of_getElem? (i := 555) (by decide +kernel), by decide +kernel⟩
theorem zm522 : (Jvm.Cond.code ({ cls := "SluiceStream", name := "tick", desc := "(I)I" } : Jvm.MethodName) prog_1_method_6_code (2 : Nat) (Option.some Jvm.ClassFile.FieldType.int)) ∈ zT := List.mem_filter.mpr ⟨List.mem_of_getElem? (i := 558) (by decide +kernel), by decide +kernel⟩
theorem zm520 : (Jvm.Cond.instanceMethod ({ cls := "SluiceStream", name := "tick", desc := "(I)I" } : Jvm.MethodName)) ∈ zT := List.mem_filter.mpr ⟨List.mem_of_getElem? (i := 556) (by decide +kernel), by decide +kernel⟩
theorem zm521 : (Jvm.Cond.selects "SluiceStream" ({ cls := "SluiceStream", name := "tick", desc := "(I)I" } : Jvm.MethodName) ({ cls := "SluiceStream", name := "tick", desc := "(I)I" } : Jvm.MethodName)) ∈ zT := List.mem_filter.mpr ⟨List.mem_of_getElem? (i := 557) (by decide +kernel), by decide +kernel⟩
theorem zm564 : (Jvm.Cond.methodLink "SluiceStream" (77 : Nat) ({ cls := "SluiceStream$Rows", name := "holds", desc := "(I)Z" } : Jvm.MethodName)) ∈ zT := List.mem_filter.mpr ⟨List.mem_of_getElem? (i := 600) (by decide +kernel), by decide +kernel⟩
theorem zm580 : (Jvm.Cond.methodLink "SluiceStream" (84 : Nat) ({ cls := "SluiceStream$Rows", name := "cell", desc := "(II)I" } : Jvm.MethodName)) ∈ zT := List.mem_filter.mpr ⟨List.mem_of_getElem? (i := 616) (by decide +kernel), by decide +kernel⟩
theorem zm584 : (Jvm.Cond.methodLink "SluiceStream" (88 : Nat) ({ cls := "SluiceStream$Receiver", name := "takeBytes", desc := "(II)I" } : Jvm.MethodName)) ∈ zT := List.mem_filter.mpr ⟨List.mem_of_getElem? (i := 620) (by decide +kernel), by decide +kernel⟩
theorem zm587 : (Jvm.Cond.code ({ cls := "SluiceStream$Receiver", name := "takeBytes", desc := "(II)I" } : Jvm.MethodName) prog_3_method_3_code (4 : Nat) (Option.some Jvm.ClassFile.FieldType.int)) ∈ zT := List.mem_filter.mpr ⟨List.mem_of_getElem? (i := 623) (by decide +kernel), by decide +kernel⟩
theorem zm585 : (Jvm.Cond.instanceMethod ({ cls := "SluiceStream$Receiver", name := "takeBytes", desc := "(II)I" } : Jvm.MethodName)) ∈ zT := List.mem_filter.mpr ⟨List.mem_of_getElem? (i := 621) (by decide +kernel), by decide +kernel⟩
theorem zm586 : (Jvm.Cond.selects "SluiceStream$Receiver" ({ cls := "SluiceStream$Receiver", name := "takeBytes", desc := "(II)I" } : Jvm.MethodName) ({ cls := "SluiceStream$Receiver", name := "takeBytes", desc := "(II)I" } : Jvm.MethodName)) ∈ zT := List.mem_filter.mpr ⟨List.mem_of_getElem? (i := 622) (by decide +kernel), by decide +kernel⟩
theorem zm593 : (Jvm.Cond.methodLink "SluiceStream" (91 : Nat) ({ cls := "SluiceStream$Rows", name := "remove", desc := "(I)V" } : Jvm.MethodName)) ∈ zT := List.mem_filter.mpr ⟨List.mem_of_getElem? (i := 629) (by decide +kernel), by decide +kernel⟩
theorem zm565 : (Jvm.Cond.classLink "SluiceStream" (81 : Nat) "java/lang/IndexOutOfBoundsException") ∈ zT := List.mem_filter.mpr ⟨List.mem_of_getElem? (i := 601) (by decide +kernel), by decide +kernel⟩
theorem zm14 : (Jvm.Cond.initialized "java/lang/IndexOutOfBoundsException") ∈ zT := List.mem_filter.mpr ⟨List.mem_of_getElem? (i := 50) (by decide +kernel), by decide +kernel⟩
theorem zm560 : (Jvm.Cond.methodLink "SluiceStreamLaw" (28 : Nat) ({ cls := "SluiceStream", name := "deliver", desc := "(I)I" } : Jvm.MethodName)) ∈ zT := List.mem_filter.mpr ⟨List.mem_of_getElem? (i := 596) (by decide +kernel), by decide +kernel⟩
theorem zm563 : (Jvm.Cond.code ({ cls := "SluiceStream", name := "deliver", desc := "(I)I" } : Jvm.MethodName) prog_1_method_7_code (3 : Nat) (Option.some Jvm.ClassFile.FieldType.int)) ∈ zT := List.mem_filter.mpr ⟨List.mem_of_getElem? (i := 599) (by decide +kernel), by decide +kernel⟩
theorem zm561 : (Jvm.Cond.instanceMethod ({ cls := "SluiceStream", name := "deliver", desc := "(I)I" } : Jvm.MethodName)) ∈ zT := List.mem_filter.mpr ⟨List.mem_of_getElem? (i := 597) (by decide +kernel), by decide +kernel⟩
theorem zm562 : (Jvm.Cond.selects "SluiceStream" ({ cls := "SluiceStream", name := "deliver", desc := "(I)I" } : Jvm.MethodName) ({ cls := "SluiceStream", name := "deliver", desc := "(I)I" } : Jvm.MethodName)) ∈ zT := List.mem_filter.mpr ⟨List.mem_of_getElem? (i := 598) (by decide +kernel), by decide +kernel⟩
theorem zm559 : (Jvm.Cond.classLink "SluiceStreamLaw" (31 : Nat) "java/lang/IndexOutOfBoundsException") ∈ zT := List.mem_filter.mpr ⟨List.mem_of_getElem? (i := 595) (by decide +kernel), by decide +kernel⟩
theorem zm597 : (Jvm.Cond.methodLink "SluiceStreamLaw" (33 : Nat) ({ cls := "SluiceStream", name := "lose", desc := "(I)I" } : Jvm.MethodName)) ∈ zT := List.mem_filter.mpr ⟨List.mem_of_getElem? (i := 633) (by decide +kernel), by decide +kernel⟩
theorem zm600 : (Jvm.Cond.code ({ cls := "SluiceStream", name := "lose", desc := "(I)I" } : Jvm.MethodName) prog_1_method_8_code (3 : Nat) (Option.some Jvm.ClassFile.FieldType.int)) ∈ zT := List.mem_filter.mpr ⟨List.mem_of_getElem? (i := 636) (by decide +kernel), by decide +kernel⟩
theorem zm598 : (Jvm.Cond.instanceMethod ({ cls := "SluiceStream", name := "lose", desc := "(I)I" } : Jvm.MethodName)) ∈ zT := List.mem_filter.mpr ⟨List.mem_of_getElem? (i := 634) (by decide +kernel), by decide +kernel⟩
theorem zm599 : (Jvm.Cond.selects "SluiceStream" ({ cls := "SluiceStream", name := "lose", desc := "(I)I" } : Jvm.MethodName) ({ cls := "SluiceStream", name := "lose", desc := "(I)I" } : Jvm.MethodName)) ∈ zT := List.mem_filter.mpr ⟨List.mem_of_getElem? (i := 635) (by decide +kernel), by decide +kernel⟩
theorem zm608 : (Jvm.Cond.methodLink "SluiceStream" (95 : Nat) ({ cls := "SluiceStream$Rows", name := "addRow", desc := "()I" } : Jvm.MethodName)) ∈ zT := List.mem_filter.mpr ⟨List.mem_of_getElem? (i := 644) (by decide +kernel), by decide +kernel⟩
theorem zm609 : (Jvm.Cond.methodLink "SluiceStream" (99 : Nat) ({ cls := "SluiceStream$Rows", name := "setCell", desc := "(III)V" } : Jvm.MethodName)) ∈ zT := List.mem_filter.mpr ⟨List.mem_of_getElem? (i := 645) (by decide +kernel), by decide +kernel⟩
theorem zm604 : (Jvm.Cond.methodLink "SluiceStreamLaw" (36 : Nat) ({ cls := "SluiceStream", name := "duplicate", desc := "(I)I" } : Jvm.MethodName)) ∈ zT := List.mem_filter.mpr ⟨List.mem_of_getElem? (i := 640) (by decide +kernel), by decide +kernel⟩
theorem zm607 : (Jvm.Cond.code ({ cls := "SluiceStream", name := "duplicate", desc := "(I)I" } : Jvm.MethodName) prog_1_method_9_code (3 : Nat) (Option.some Jvm.ClassFile.FieldType.int)) ∈ zT := List.mem_filter.mpr ⟨List.mem_of_getElem? (i := 643) (by decide +kernel), by decide +kernel⟩
theorem zm605 : (Jvm.Cond.instanceMethod ({ cls := "SluiceStream", name := "duplicate", desc := "(I)I" } : Jvm.MethodName)) ∈ zT := List.mem_filter.mpr ⟨List.mem_of_getElem? (i := 641) (by decide +kernel), by decide +kernel⟩
theorem zm606 : (Jvm.Cond.selects "SluiceStream" ({ cls := "SluiceStream", name := "duplicate", desc := "(I)I" } : Jvm.MethodName) ({ cls := "SluiceStream", name := "duplicate", desc := "(I)I" } : Jvm.MethodName)) ∈ zT := List.mem_filter.mpr ⟨List.mem_of_getElem? (i := 642) (by decide +kernel), by decide +kernel⟩
theorem zm617 : (Jvm.Cond.methodLink "SluiceStream" (106 : Nat) ({ cls := "SluiceStream$Sender", name := "takeAck", desc := "(LSluiceStream$Rows;I)I" } : Jvm.MethodName)) ∈ zT := List.mem_filter.mpr ⟨List.mem_of_getElem? (i := 653) (by decide +kernel), by decide +kernel⟩
theorem zm620 : (Jvm.Cond.code ({ cls := "SluiceStream$Sender", name := "takeAck", desc := "(LSluiceStream$Rows;I)I" } : Jvm.MethodName) prog_5_method_11_code (7 : Nat) (Option.some Jvm.ClassFile.FieldType.int)) ∈ zT := List.mem_filter.mpr ⟨List.mem_of_getElem? (i := 656) (by decide +kernel), by decide +kernel⟩
theorem zm618 : (Jvm.Cond.instanceMethod ({ cls := "SluiceStream$Sender", name := "takeAck", desc := "(LSluiceStream$Rows;I)I" } : Jvm.MethodName)) ∈ zT := List.mem_filter.mpr ⟨List.mem_of_getElem? (i := 654) (by decide +kernel), by decide +kernel⟩
theorem zm619 : (Jvm.Cond.selects "SluiceStream$Sender" ({ cls := "SluiceStream$Sender", name := "takeAck", desc := "(LSluiceStream$Rows;I)I" } : Jvm.MethodName) ({ cls := "SluiceStream$Sender", name := "takeAck", desc := "(LSluiceStream$Rows;I)I" } : Jvm.MethodName)) ∈ zT := List.mem_filter.mpr ⟨List.mem_of_getElem? (i := 655) (by decide +kernel), by decide +kernel⟩
theorem zm613 : (Jvm.Cond.methodLink "SluiceStreamLaw" (39 : Nat) ({ cls := "SluiceStream", name := "deliverAck", desc := "(I)I" } : Jvm.MethodName)) ∈ zT := List.mem_filter.mpr ⟨List.mem_of_getElem? (i := 649) (by decide +kernel), by decide +kernel⟩
theorem zm616 : (Jvm.Cond.code ({ cls := "SluiceStream", name := "deliverAck", desc := "(I)I" } : Jvm.MethodName) prog_1_method_10_code (3 : Nat) (Option.some Jvm.ClassFile.FieldType.int)) ∈ zT := List.mem_filter.mpr ⟨List.mem_of_getElem? (i := 652) (by decide +kernel), by decide +kernel⟩
theorem zm614 : (Jvm.Cond.instanceMethod ({ cls := "SluiceStream", name := "deliverAck", desc := "(I)I" } : Jvm.MethodName)) ∈ zT := List.mem_filter.mpr ⟨List.mem_of_getElem? (i := 650) (by decide +kernel), by decide +kernel⟩
theorem zm615 : (Jvm.Cond.selects "SluiceStream" ({ cls := "SluiceStream", name := "deliverAck", desc := "(I)I" } : Jvm.MethodName) ({ cls := "SluiceStream", name := "deliverAck", desc := "(I)I" } : Jvm.MethodName)) ∈ zT := List.mem_filter.mpr ⟨List.mem_of_getElem? (i := 651) (by decide +kernel), by decide +kernel⟩
theorem zm657 : (Jvm.Cond.methodLink "SluiceStreamLaw" (42 : Nat) ({ cls := "SluiceStream", name := "loseAck", desc := "(I)I" } : Jvm.MethodName)) ∈ zT := List.mem_filter.mpr ⟨List.mem_of_getElem? (i := 693) (by decide +kernel), by decide +kernel⟩
theorem zm660 : (Jvm.Cond.code ({ cls := "SluiceStream", name := "loseAck", desc := "(I)I" } : Jvm.MethodName) prog_1_method_11_code (3 : Nat) (Option.some Jvm.ClassFile.FieldType.int)) ∈ zT := List.mem_filter.mpr ⟨List.mem_of_getElem? (i := 696) (by decide +kernel), by decide +kernel⟩
theorem zm658 : (Jvm.Cond.instanceMethod ({ cls := "SluiceStream", name := "loseAck", desc := "(I)I" } : Jvm.MethodName)) ∈ zT := List.mem_filter.mpr ⟨List.mem_of_getElem? (i := 694) (by decide +kernel), by decide +kernel⟩
theorem zm659 : (Jvm.Cond.selects "SluiceStream" ({ cls := "SluiceStream", name := "loseAck", desc := "(I)I" } : Jvm.MethodName) ({ cls := "SluiceStream", name := "loseAck", desc := "(I)I" } : Jvm.MethodName)) ∈ zT := List.mem_filter.mpr ⟨List.mem_of_getElem? (i := 695) (by decide +kernel), by decide +kernel⟩
theorem zm664 : (Jvm.Cond.methodLink "SluiceStreamLaw" (45 : Nat) ({ cls := "SluiceStream", name := "startOf", desc := "(I)I" } : Jvm.MethodName)) ∈ zT := List.mem_filter.mpr ⟨List.mem_of_getElem? (i := 700) (by decide +kernel), by decide +kernel⟩
theorem zm667 : (Jvm.Cond.code ({ cls := "SluiceStream", name := "startOf", desc := "(I)I" } : Jvm.MethodName) prog_1_method_13_code (2 : Nat) (Option.some Jvm.ClassFile.FieldType.int)) ∈ zT := List.mem_filter.mpr ⟨List.mem_of_getElem? (i := 703) (by decide +kernel), by decide +kernel⟩
theorem zm665 : (Jvm.Cond.instanceMethod ({ cls := "SluiceStream", name := "startOf", desc := "(I)I" } : Jvm.MethodName)) ∈ zT := List.mem_filter.mpr ⟨List.mem_of_getElem? (i := 701) (by decide +kernel), by decide +kernel⟩
theorem zm666 : (Jvm.Cond.selects "SluiceStream" ({ cls := "SluiceStream", name := "startOf", desc := "(I)I" } : Jvm.MethodName) ({ cls := "SluiceStream", name := "startOf", desc := "(I)I" } : Jvm.MethodName)) ∈ zT := List.mem_filter.mpr ⟨List.mem_of_getElem? (i := 702) (by decide +kernel), by decide +kernel⟩
theorem zm671 : (Jvm.Cond.methodLink "SluiceStreamLaw" (48 : Nat) ({ cls := "SluiceStream", name := "endOf", desc := "(I)I" } : Jvm.MethodName)) ∈ zT := List.mem_filter.mpr ⟨List.mem_of_getElem? (i := 707) (by decide +kernel), by decide +kernel⟩
theorem zm674 : (Jvm.Cond.code ({ cls := "SluiceStream", name := "endOf", desc := "(I)I" } : Jvm.MethodName) prog_1_method_14_code (2 : Nat) (Option.some Jvm.ClassFile.FieldType.int)) ∈ zT := List.mem_filter.mpr ⟨List.mem_of_getElem? (i := 710) (by decide +kernel), by decide +kernel⟩
theorem zm672 : (Jvm.Cond.instanceMethod ({ cls := "SluiceStream", name := "endOf", desc := "(I)I" } : Jvm.MethodName)) ∈ zT := List.mem_filter.mpr ⟨List.mem_of_getElem? (i := 708) (by decide +kernel), by decide +kernel⟩
theorem zm673 : (Jvm.Cond.selects "SluiceStream" ({ cls := "SluiceStream", name := "endOf", desc := "(I)I" } : Jvm.MethodName) ({ cls := "SluiceStream", name := "endOf", desc := "(I)I" } : Jvm.MethodName)) ∈ zT := List.mem_filter.mpr ⟨List.mem_of_getElem? (i := 709) (by decide +kernel), by decide +kernel⟩
theorem zm678 : (Jvm.Cond.methodLink "SluiceStreamLaw" (51 : Nat) ({ cls := "SluiceStream", name := "ackNumber", desc := "(I)I" } : Jvm.MethodName)) ∈ zT := List.mem_filter.mpr ⟨List.mem_of_getElem? (i := 714) (by decide +kernel), by decide +kernel⟩
theorem zm681 : (Jvm.Cond.code ({ cls := "SluiceStream", name := "ackNumber", desc := "(I)I" } : Jvm.MethodName) prog_1_method_16_code (2 : Nat) (Option.some Jvm.ClassFile.FieldType.int)) ∈ zT := List.mem_filter.mpr ⟨List.mem_of_getElem? (i := 717) (by decide +kernel), by decide +kernel⟩
theorem zm679 : (Jvm.Cond.instanceMethod ({ cls := "SluiceStream", name := "ackNumber", desc := "(I)I" } : Jvm.MethodName)) ∈ zT := List.mem_filter.mpr ⟨List.mem_of_getElem? (i := 715) (by decide +kernel), by decide +kernel⟩
theorem zm680 : (Jvm.Cond.selects "SluiceStream" ({ cls := "SluiceStream", name := "ackNumber", desc := "(I)I" } : Jvm.MethodName) ({ cls := "SluiceStream", name := "ackNumber", desc := "(I)I" } : Jvm.MethodName)) ∈ zT := List.mem_filter.mpr ⟨List.mem_of_getElem? (i := 716) (by decide +kernel), by decide +kernel⟩
theorem zm685 : (Jvm.Cond.methodLink "SluiceStreamLaw" (54 : Nat) ({ cls := "SluiceStream", name := "ackWindow", desc := "(I)I" } : Jvm.MethodName)) ∈ zT := List.mem_filter.mpr ⟨List.mem_of_getElem? (i := 721) (by decide +kernel), by decide +kernel⟩
theorem zm688 : (Jvm.Cond.code ({ cls := "SluiceStream", name := "ackWindow", desc := "(I)I" } : Jvm.MethodName) prog_1_method_17_code (2 : Nat) (Option.some Jvm.ClassFile.FieldType.int)) ∈ zT := List.mem_filter.mpr ⟨List.mem_of_getElem? (i := 724) (by decide +kernel), by decide +kernel⟩
theorem zm686 : (Jvm.Cond.instanceMethod ({ cls := "SluiceStream", name := "ackWindow", desc := "(I)I" } : Jvm.MethodName)) ∈ zT := List.mem_filter.mpr ⟨List.mem_of_getElem? (i := 722) (by decide +kernel), by decide +kernel⟩
theorem zm687 : (Jvm.Cond.selects "SluiceStream" ({ cls := "SluiceStream", name := "ackWindow", desc := "(I)I" } : Jvm.MethodName) ({ cls := "SluiceStream", name := "ackWindow", desc := "(I)I" } : Jvm.MethodName)) ∈ zT := List.mem_filter.mpr ⟨List.mem_of_getElem? (i := 723) (by decide +kernel), by decide +kernel⟩
theorem zm692 : (Jvm.Cond.methodLink "SluiceStreamLaw" (57 : Nat) ({ cls := "SluiceStream", name := "ackBlocks", desc := "(I)I" } : Jvm.MethodName)) ∈ zT := List.mem_filter.mpr ⟨List.mem_of_getElem? (i := 728) (by decide +kernel), by decide +kernel⟩
theorem zm695 : (Jvm.Cond.code ({ cls := "SluiceStream", name := "ackBlocks", desc := "(I)I" } : Jvm.MethodName) prog_1_method_18_code (2 : Nat) (Option.some Jvm.ClassFile.FieldType.int)) ∈ zT := List.mem_filter.mpr ⟨List.mem_of_getElem? (i := 731) (by decide +kernel), by decide +kernel⟩
theorem zm693 : (Jvm.Cond.instanceMethod ({ cls := "SluiceStream", name := "ackBlocks", desc := "(I)I" } : Jvm.MethodName)) ∈ zT := List.mem_filter.mpr ⟨List.mem_of_getElem? (i := 729) (by decide +kernel), by decide +kernel⟩
theorem zm694 : (Jvm.Cond.selects "SluiceStream" ({ cls := "SluiceStream", name := "ackBlocks", desc := "(I)I" } : Jvm.MethodName) ({ cls := "SluiceStream", name := "ackBlocks", desc := "(I)I" } : Jvm.MethodName)) ∈ zT := List.mem_filter.mpr ⟨List.mem_of_getElem? (i := 730) (by decide +kernel), by decide +kernel⟩
theorem zm699 : (Jvm.Cond.methodLink "SluiceStreamLaw" (60 : Nat) ({ cls := "SluiceStream", name := "ackBlock", desc := "(II)I" } : Jvm.MethodName)) ∈ zT := List.mem_filter.mpr ⟨List.mem_of_getElem? (i := 735) (by decide +kernel), by decide +kernel⟩
theorem zm702 : (Jvm.Cond.code ({ cls := "SluiceStream", name := "ackBlock", desc := "(II)I" } : Jvm.MethodName) prog_1_method_19_code (3 : Nat) (Option.some Jvm.ClassFile.FieldType.int)) ∈ zT := List.mem_filter.mpr ⟨List.mem_of_getElem? (i := 738) (by decide +kernel), by decide +kernel⟩
theorem zm700 : (Jvm.Cond.instanceMethod ({ cls := "SluiceStream", name := "ackBlock", desc := "(II)I" } : Jvm.MethodName)) ∈ zT := List.mem_filter.mpr ⟨List.mem_of_getElem? (i := 736) (by decide +kernel), by decide +kernel⟩
theorem zm701 : (Jvm.Cond.selects "SluiceStream" ({ cls := "SluiceStream", name := "ackBlock", desc := "(II)I" } : Jvm.MethodName) ({ cls := "SluiceStream", name := "ackBlock", desc := "(II)I" } : Jvm.MethodName)) ∈ zT := List.mem_filter.mpr ⟨List.mem_of_getElem? (i := 737) (by decide +kernel), by decide +kernel⟩
theorem zm78 : (Jvm.Cond.fieldLink "SluiceStream" (134 : Nat) "SluiceStream$Sender" "marks" "LSluiceStream$Positions;") ∈ zT := List.mem_filter.mpr ⟨List.mem_of_getElem? (i := 114) (by decide +kernel), by decide +kernel⟩
theorem zm710 : (Jvm.Cond.methodLink "SluiceStream" (138 : Nat) ({ cls := "SluiceStream$Positions", name := "at", desc := "(I)I" } : Jvm.MethodName)) ∈ zT := List.mem_filter.mpr ⟨List.mem_of_getElem? (i := 746) (by decide +kernel), by decide +kernel⟩
theorem zm706 : (Jvm.Cond.methodLink "SluiceStreamLaw" (63 : Nat) ({ cls := "SluiceStream", name := "isMarked", desc := "(I)Z" } : Jvm.MethodName)) ∈ zT := List.mem_filter.mpr ⟨List.mem_of_getElem? (i := 742) (by decide +kernel), by decide +kernel⟩
theorem zm709 : (Jvm.Cond.code ({ cls := "SluiceStream", name := "isMarked", desc := "(I)Z" } : Jvm.MethodName) prog_1_method_27_code (2 : Nat) (Option.some Jvm.ClassFile.FieldType.boolean)) ∈ zT := List.mem_filter.mpr ⟨List.mem_of_getElem? (i := 745) (by decide +kernel), by decide +kernel⟩
theorem zm707 : (Jvm.Cond.instanceMethod ({ cls := "SluiceStream", name := "isMarked", desc := "(I)Z" } : Jvm.MethodName)) ∈ zT := List.mem_filter.mpr ⟨List.mem_of_getElem? (i := 743) (by decide +kernel), by decide +kernel⟩
theorem zm708 : (Jvm.Cond.selects "SluiceStream" ({ cls := "SluiceStream", name := "isMarked", desc := "(I)Z" } : Jvm.MethodName) ({ cls := "SluiceStream", name := "isMarked", desc := "(I)Z" } : Jvm.MethodName)) ∈ zT := List.mem_filter.mpr ⟨List.mem_of_getElem? (i := 744) (by decide +kernel), by decide +kernel⟩
theorem zm718 : (Jvm.Cond.methodLink "SluiceStream" (182 : Nat) ({ cls := "SluiceStream$Receiver", name := "startOfBlock", desc := "(I)I" } : Jvm.MethodName)) ∈ zT := List.mem_filter.mpr ⟨List.mem_of_getElem? (i := 754) (by decide +kernel), by decide +kernel⟩
theorem zm721 : (Jvm.Cond.code ({ cls := "SluiceStream$Receiver", name := "startOfBlock", desc := "(I)I" } : Jvm.MethodName) prog_3_method_9_code (4 : Nat) (Option.some Jvm.ClassFile.FieldType.int)) ∈ zT := List.mem_filter.mpr ⟨List.mem_of_getElem? (i := 757) (by decide +kernel), by decide +kernel⟩
theorem zm719 : (Jvm.Cond.instanceMethod ({ cls := "SluiceStream$Receiver", name := "startOfBlock", desc := "(I)I" } : Jvm.MethodName)) ∈ zT := List.mem_filter.mpr ⟨List.mem_of_getElem? (i := 755) (by decide +kernel), by decide +kernel⟩
theorem zm720 : (Jvm.Cond.selects "SluiceStream$Receiver" ({ cls := "SluiceStream$Receiver", name := "startOfBlock", desc := "(I)I" } : Jvm.MethodName) ({ cls := "SluiceStream$Receiver", name := "startOfBlock", desc := "(I)I" } : Jvm.MethodName)) ∈ zT := List.mem_filter.mpr ⟨List.mem_of_getElem? (i := 756) (by decide +kernel), by decide +kernel⟩
theorem zm714 : (Jvm.Cond.methodLink "SluiceStreamLaw" (67 : Nat) ({ cls := "SluiceStream", name := "blockStart", desc := "(I)I" } : Jvm.MethodName)) ∈ zT := List.mem_filter.mpr ⟨List.mem_of_getElem? (i := 750) (by decide +kernel), by decide +kernel⟩
theorem zm717 : (Jvm.Cond.code ({ cls := "SluiceStream", name := "blockStart", desc := "(I)I" } : Jvm.MethodName) prog_1_method_43_code (2 : Nat) (Option.some Jvm.ClassFile.FieldType.int)) ∈ zT := List.mem_filter.mpr ⟨List.mem_of_getElem? (i := 753) (by decide +kernel), by decide +kernel⟩
theorem zm715 : (Jvm.Cond.instanceMethod ({ cls := "SluiceStream", name := "blockStart", desc := "(I)I" } : Jvm.MethodName)) ∈ zT := List.mem_filter.mpr ⟨List.mem_of_getElem? (i := 751) (by decide +kernel), by decide +kernel⟩
theorem zm716 : (Jvm.Cond.selects "SluiceStream" ({ cls := "SluiceStream", name := "blockStart", desc := "(I)I" } : Jvm.MethodName) ({ cls := "SluiceStream", name := "blockStart", desc := "(I)I" } : Jvm.MethodName)) ∈ zT := List.mem_filter.mpr ⟨List.mem_of_getElem? (i := 752) (by decide +kernel), by decide +kernel⟩
theorem zm729 : (Jvm.Cond.methodLink "SluiceStream" (185 : Nat) ({ cls := "SluiceStream$Receiver", name := "endOfRun", desc := "(I)I" } : Jvm.MethodName)) ∈ zT := List.mem_filter.mpr ⟨List.mem_of_getElem? (i := 765) (by decide +kernel), by decide +kernel⟩
theorem zm725 : (Jvm.Cond.methodLink "SluiceStreamLaw" (70 : Nat) ({ cls := "SluiceStream", name := "blockEnd", desc := "(I)I" } : Jvm.MethodName)) ∈ zT := List.mem_filter.mpr ⟨List.mem_of_getElem? (i := 761) (by decide +kernel), by decide +kernel⟩
theorem zm728 : (Jvm.Cond.code ({ cls := "SluiceStream", name := "blockEnd", desc := "(I)I" } : Jvm.MethodName) prog_1_method_44_code (2 : Nat) (Option.some Jvm.ClassFile.FieldType.int)) ∈ zT := List.mem_filter.mpr ⟨List.mem_of_getElem? (i := 764) (by decide +kernel), by decide +kernel⟩
theorem zm726 : (Jvm.Cond.instanceMethod ({ cls := "SluiceStream", name := "blockEnd", desc := "(I)I" } : Jvm.MethodName)) ∈ zT := List.mem_filter.mpr ⟨List.mem_of_getElem? (i := 762) (by decide +kernel), by decide +kernel⟩
theorem zm727 : (Jvm.Cond.selects "SluiceStream" ({ cls := "SluiceStream", name := "blockEnd", desc := "(I)I" } : Jvm.MethodName) ({ cls := "SluiceStream", name := "blockEnd", desc := "(I)I" } : Jvm.MethodName)) ∈ zT := List.mem_filter.mpr ⟨List.mem_of_getElem? (i := 763) (by decide +kernel), by decide +kernel⟩
theorem zt_X_39a : ∀ x ∈ (vx_at0 "SluiceStream" 41 "java/lang/IllegalArgumentException" zNm).filter goodWord, x ∈ lw_tbl := by decide +kernel
theorem zt_X_39 : zTw "SluiceStream" 39 41 "java/lang/IllegalArgumentException" := ⟨zm382, zm11, fun x h => List.mem_filter.mpr ⟨zt_X_39a x h, (List.mem_filter.mp h).2⟩, by decide +kernel, by decide +kernel, by decide +kernel⟩
theorem zp_X_42_2 {K : zCx} {w : zWd} {cc : ByteArray} {n fr lo : Nat} {σ : zSt} {lv : List (Nat × Value)} {st : List Value} {pc : Nat} (O : zOk K w cc "SluiceStream" n fr lo) (hd : decode cc pc = .ok (.putfield 42, 3)) {v : Int32} (kk : Z K w (zuf σ 2 5 v) lv st (pc + 3)) : Z K w σ lv (.int v :: .ref (zq w 2) :: st) pc := z_putf O 2 (T := zF3) (N := 15) (fs := zo2 w σ) rfl rfl zin3 zY3 zYo3 zNm3 5 (Nat.le_of_ble_eq_true rfl) zm88 rfl rfl (ty := .int) rfl rfl rfl (Nat.le_of_ble_eq_true rfl) (σ' := zuf σ 2 5 v) rfl hd kk
theorem zt_X_46a : ∀ x ∈ (vx_at0 "SluiceStream" 48 "java/lang/IllegalStateException" zNm).filter goodWord, x ∈ lw_tbl := by decide +kernel
theorem zt_X_46 : zTw "SluiceStream" 46 48 "java/lang/IllegalStateException" := ⟨zm445, zm12, fun x h => List.mem_filter.mpr ⟨zt_X_46a x h, (List.mem_filter.mp h).2⟩, by decide +kernel, by decide +kernel, by decide +kernel⟩
theorem zl_L_7 : zLk "SluiceStreamLaw" 7 ({ cls := "SluiceStream", name := "write", desc := "(II)I" } : Jvm.MethodName) prog_1_method_2_code 5 (some .int) 2 := ⟨zm378, zm1, zm381, by decide +kernel⟩
theorem zg_X_63_2 {K : zCx} {w : zWd} {cc : ByteArray} {n fr lo : Nat} {σ : zSt} {lv : List (Nat × Value)} {st : List Value} {pc : Nat} (O : zOk K w cc "SluiceStream" n fr lo) (hd : decode cc pc = .ok (.getfield 63, 3)) {v : Value} (hv : (zo2 w σ)[9]? = some v) (kk : Z K w σ lv (v :: st) (pc + 3)) : Z K w σ lv (.ref (zq w 2) :: st) pc := z_getf O 2 (T := zF3) (N := 15) (fs := zo2 w σ) rfl rfl zin3 9 (Nat.le_of_ble_eq_true rfl) zm96 rfl hv hd kk
theorem zp_X_63_2 {K : zCx} {w : zWd} {cc : ByteArray} {n fr lo : Nat} {σ : zSt} {lv : List (Nat × Value)} {st : List Value} {pc : Nat} (O : zOk K w cc "SluiceStream" n fr lo) (hd : decode cc pc = .ok (.putfield 63, 3)) {v : Int32} (kk : Z K w (zuf σ 2 9 v) lv st (pc + 3)) : Z K w σ lv (.int v :: .ref (zq w 2) :: st) pc := z_putf O 2 (T := zF3) (N := 15) (fs := zo2 w σ) rfl rfl zin3 zY3 zYo3 zNm3 9 (Nat.le_of_ble_eq_true rfl) zm96 rfl rfl (ty := .int) rfl rfl rfl (Nat.le_of_ble_eq_true rfl) (σ' := zuf σ 2 9 v) rfl hd kk
theorem zl_L_17 : zLk "SluiceStreamLaw" 17 ({ cls := "SluiceStream", name := "setLimit", desc := "(I)I" } : Jvm.MethodName) prog_1_method_4_code 3 (some .int) 1 := ⟨zm463, zm1, zm466, by decide +kernel⟩
theorem zl_X_66 : zLk "SluiceStream" 66 ({ cls := "SluiceStream$Rows", name := "isFull", desc := "()Z" } : Jvm.MethodName) prog_4_method_3_code 1 (some .boolean) 0 := ⟨zm474, zm6, zm212, by decide +kernel⟩
theorem zl_X_69 : zLk "SluiceStream" 69 ({ cls := "SluiceStream$Sender", name := "sendInto", desc := "(LSluiceStream$Rows;)I" } : Jvm.MethodName) prog_5_method_3_code 5 (some .int) 1 := ⟨zm475, zm2, zm478, by decide +kernel⟩
theorem zl_L_21 : zLk "SluiceStreamLaw" 21 ({ cls := "SluiceStream", name := "send", desc := "()I" } : Jvm.MethodName) prog_1_method_5_code 1 (some .int) 0 := ⟨zm470, zm1, zm473, by decide +kernel⟩
theorem zl_X_73 : zLk "SluiceStream" 73 ({ cls := "SluiceStream$Sender", name := "passTicks", desc := "(I)I" } : Jvm.MethodName) prog_5_method_8_code 4 (some .int) 1 := ⟨zm523, zm2, zm526, by decide +kernel⟩
theorem zl_L_25 : zLk "SluiceStreamLaw" 25 ({ cls := "SluiceStream", name := "tick", desc := "(I)I" } : Jvm.MethodName) prog_1_method_6_code 2 (some .int) 1 := ⟨zm519, zm1, zm522, by decide +kernel⟩
theorem zl_X_77 : zLk "SluiceStream" 77 ({ cls := "SluiceStream$Rows", name := "holds", desc := "(I)Z" } : Jvm.MethodName) prog_4_method_2_code 2 (some .boolean) 1 := ⟨zm564, zm6, zm220, by decide +kernel⟩
theorem zl_X_84 : zLk "SluiceStream" 84 ({ cls := "SluiceStream$Rows", name := "cell", desc := "(II)I" } : Jvm.MethodName) prog_4_method_4_code 4 (some .int) 2 := ⟨zm580, zm6, zm583, by decide +kernel⟩
theorem zl_X_88 : zLk "SluiceStream" 88 ({ cls := "SluiceStream$Receiver", name := "takeBytes", desc := "(II)I" } : Jvm.MethodName) prog_3_method_3_code 4 (some .int) 2 := ⟨zm584, zm5, zm587, by decide +kernel⟩
theorem zl_X_91 : zLk "SluiceStream" 91 ({ cls := "SluiceStream$Rows", name := "remove", desc := "(I)V" } : Jvm.MethodName) prog_4_method_7_code 3 none 1 := ⟨zm593, zm6, zm216, by decide +kernel⟩
theorem zt_X_81a : ∀ x ∈ (vx_at0 "SluiceStream" 83 "java/lang/IndexOutOfBoundsException" zNm).filter goodWord, x ∈ lw_tbl := by decide +kernel
theorem zt_X_81 : zTw "SluiceStream" 81 83 "java/lang/IndexOutOfBoundsException" := ⟨zm565, zm14, fun x h => List.mem_filter.mpr ⟨zt_X_81a x h, (List.mem_filter.mp h).2⟩, by decide +kernel, by decide +kernel, by decide +kernel⟩
theorem zl_L_28 : zLk "SluiceStreamLaw" 28 ({ cls := "SluiceStream", name := "deliver", desc := "(I)I" } : Jvm.MethodName) prog_1_method_7_code 3 (some .int) 1 := ⟨zm560, zm1, zm563, by decide +kernel⟩
theorem zl_L_33 : zLk "SluiceStreamLaw" 33 ({ cls := "SluiceStream", name := "lose", desc := "(I)I" } : Jvm.MethodName) prog_1_method_8_code 3 (some .int) 1 := ⟨zm597, zm1, zm600, by decide +kernel⟩
theorem zl_X_95 : zLk "SluiceStream" 95 ({ cls := "SluiceStream$Rows", name := "addRow", desc := "()I" } : Jvm.MethodName) prog_4_method_6_code 1 (some .int) 0 := ⟨zm608, zm6, zm224, by decide +kernel⟩
theorem zl_X_99 : zLk "SluiceStream" 99 ({ cls := "SluiceStream$Rows", name := "setCell", desc := "(III)V" } : Jvm.MethodName) prog_4_method_5_code 5 none 3 := ⟨zm609, zm6, zm228, by decide +kernel⟩
theorem zl_L_36 : zLk "SluiceStreamLaw" 36 ({ cls := "SluiceStream", name := "duplicate", desc := "(I)I" } : Jvm.MethodName) prog_1_method_9_code 3 (some .int) 1 := ⟨zm604, zm1, zm607, by decide +kernel⟩
theorem zl_X_106 : zLk "SluiceStream" 106 ({ cls := "SluiceStream$Sender", name := "takeAck", desc := "(LSluiceStream$Rows;I)I" } : Jvm.MethodName) prog_5_method_11_code 7 (some .int) 2 := ⟨zm617, zm2, zm620, by decide +kernel⟩
theorem zl_L_39 : zLk "SluiceStreamLaw" 39 ({ cls := "SluiceStream", name := "deliverAck", desc := "(I)I" } : Jvm.MethodName) prog_1_method_10_code 3 (some .int) 1 := ⟨zm613, zm1, zm616, by decide +kernel⟩
theorem zl_L_42 : zLk "SluiceStreamLaw" 42 ({ cls := "SluiceStream", name := "loseAck", desc := "(I)I" } : Jvm.MethodName) prog_1_method_11_code 3 (some .int) 1 := ⟨zm657, zm1, zm660, by decide +kernel⟩
theorem zl_L_45 : zLk "SluiceStreamLaw" 45 ({ cls := "SluiceStream", name := "startOf", desc := "(I)I" } : Jvm.MethodName) prog_1_method_13_code 2 (some .int) 1 := ⟨zm664, zm1, zm667, by decide +kernel⟩
theorem zl_L_48 : zLk "SluiceStreamLaw" 48 ({ cls := "SluiceStream", name := "endOf", desc := "(I)I" } : Jvm.MethodName) prog_1_method_14_code 2 (some .int) 1 := ⟨zm671, zm1, zm674, by decide +kernel⟩
theorem zl_L_51 : zLk "SluiceStreamLaw" 51 ({ cls := "SluiceStream", name := "ackNumber", desc := "(I)I" } : Jvm.MethodName) prog_1_method_16_code 2 (some .int) 1 := ⟨zm678, zm1, zm681, by decide +kernel⟩
theorem zl_L_54 : zLk "SluiceStreamLaw" 54 ({ cls := "SluiceStream", name := "ackWindow", desc := "(I)I" } : Jvm.MethodName) prog_1_method_17_code 2 (some .int) 1 := ⟨zm685, zm1, zm688, by decide +kernel⟩
theorem zl_L_57 : zLk "SluiceStreamLaw" 57 ({ cls := "SluiceStream", name := "ackBlocks", desc := "(I)I" } : Jvm.MethodName) prog_1_method_18_code 2 (some .int) 1 := ⟨zm692, zm1, zm695, by decide +kernel⟩
theorem zl_L_60 : zLk "SluiceStreamLaw" 60 ({ cls := "SluiceStream", name := "ackBlock", desc := "(II)I" } : Jvm.MethodName) prog_1_method_19_code 3 (some .int) 2 := ⟨zm699, zm1, zm702, by decide +kernel⟩
theorem zg_X_134_2 {K : zCx} {w : zWd} {cc : ByteArray} {n fr lo : Nat} {σ : zSt} {lv : List (Nat × Value)} {st : List Value} {pc : Nat} (O : zOk K w cc "SluiceStream" n fr lo) (hd : decode cc pc = .ok (.getfield 134, 3)) {v : Value} (hv : (zo2 w σ)[0]? = some v) (kk : Z K w σ lv (v :: st) (pc + 3)) : Z K w σ lv (.ref (zq w 2) :: st) pc := z_getf O 2 (T := zF3) (N := 15) (fs := zo2 w σ) rfl rfl zin3 0 (Nat.le_of_ble_eq_true rfl) zm78 rfl hv hd kk
theorem zl_X_138 : zLk "SluiceStream" 138 ({ cls := "SluiceStream$Positions", name := "at", desc := "(I)I" } : Jvm.MethodName) prog_2_method_2_code 2 (some .int) 1 := ⟨zm710, zm3, zm248, by decide +kernel⟩
theorem zl_L_63 : zLk "SluiceStreamLaw" 63 ({ cls := "SluiceStream", name := "isMarked", desc := "(I)Z" } : Jvm.MethodName) prog_1_method_27_code 2 (some .boolean) 1 := ⟨zm706, zm1, zm709, by decide +kernel⟩
theorem zl_X_182 : zLk "SluiceStream" 182 ({ cls := "SluiceStream$Receiver", name := "startOfBlock", desc := "(I)I" } : Jvm.MethodName) prog_3_method_9_code 4 (some .int) 1 := ⟨zm718, zm5, zm721, by decide +kernel⟩
theorem zl_L_67 : zLk "SluiceStreamLaw" 67 ({ cls := "SluiceStream", name := "blockStart", desc := "(I)I" } : Jvm.MethodName) prog_1_method_43_code 2 (some .int) 1 := ⟨zm714, zm1, zm717, by decide +kernel⟩
theorem zl_X_185 : zLk "SluiceStream" 185 ({ cls := "SluiceStream$Receiver", name := "endOfRun", desc := "(I)I" } : Jvm.MethodName) prog_3_method_10_code 2 (some .int) 1 := ⟨zm729, zm5, zm252, by decide +kernel⟩
theorem zl_L_70 : zLk "SluiceStreamLaw" 70 ({ cls := "SluiceStream", name := "blockEnd", desc := "(I)I" } : Jvm.MethodName) prog_1_method_44_code 2 (some .int) 1 := ⟨zm725, zm1, zm728, by decide +kernel⟩
theorem zd_X_write_55 : decode prog_1_method_2_code 55 = .ok (.iload_n 3, 1) := by decide +kernel
theorem zd_X_write_56 : decode prog_1_method_2_code 56 = .ok (.iload_n 2, 1) := by decide +kernel
theorem zd_X_write_57 : decode prog_1_method_2_code 57 = .ok (.if_icmp .ge 49, 3) := by decide +kernel
theorem zd_X_write_60 : decode prog_1_method_2_code 60 = .ok (.aload_n 0, 1) := by decide +kernel
theorem zd_X_write_61 : decode prog_1_method_2_code 61 = .ok (.getfield 16, 3) := by decide +kernel
theorem zd_X_write_64 : decode prog_1_method_2_code 64 = .ok (.getfield 42, 3) := by decide +kernel
theorem zd_X_write_67 : decode prog_1_method_2_code 67 = .ok (.iload_n 3, 1) := by decide +kernel
theorem zd_X_write_68 : decode prog_1_method_2_code 68 = .ok (.iadd, 1) := by decide +kernel
theorem zd_X_write_69 : decode prog_1_method_2_code 69 = .ok (.istore 4, 2) := by decide +kernel
theorem zd_X_write_71 : decode prog_1_method_2_code 71 = .ok (.iload 4, 2) := by decide +kernel
theorem zd_X_write_73 : decode prog_1_method_2_code 73 = .ok (.ifCond .lt 27, 3) := by decide +kernel
theorem zd_X_write_100 : decode prog_1_method_2_code 100 = .ok (.iinc 3 1, 3) := by decide +kernel
theorem zd_X_write_103 : decode prog_1_method_2_code 103 = .ok (.goto (-48), 3) := by decide +kernel
theorem zd_X_write_76 : decode prog_1_method_2_code 76 = .ok (.iload 4, 2) := by decide +kernel
theorem zd_X_write_78 : decode prog_1_method_2_code 78 = .ok (.aload_n 0, 1) := by decide +kernel
theorem zd_X_write_79 : decode prog_1_method_2_code 79 = .ok (.getfield 9, 3) := by decide +kernel
theorem zd_X_write_82 : decode prog_1_method_2_code 82 = .ok (.arraylength, 1) := by decide +kernel
theorem zd_X_write_83 : decode prog_1_method_2_code 83 = .ok (.if_icmp .ge 17, 3) := by decide +kernel
theorem zd_X_write_86 : decode prog_1_method_2_code 86 = .ok (.aload_n 0, 1) := by decide +kernel
theorem zd_X_write_87 : decode prog_1_method_2_code 87 = .ok (.getfield 9, 3) := by decide +kernel
theorem zd_X_write_90 : decode prog_1_method_2_code 90 = .ok (.iload 4, 2) := by decide +kernel
theorem zd_X_write_92 : decode prog_1_method_2_code 92 = .ok (.iload_n 1, 1) := by decide +kernel
theorem zd_X_write_93 : decode prog_1_method_2_code 93 = .ok (.iload_n 3, 1) := by decide +kernel
theorem zd_X_write_94 : decode prog_1_method_2_code 94 = .ok (.iadd, 1) := by decide +kernel
theorem zd_X_write_95 : decode prog_1_method_2_code 95 = .ok (.sipush 256, 3) := by decide +kernel
theorem zd_X_write_98 : decode prog_1_method_2_code 98 = .ok (.irem, 1) := by decide +kernel
theorem zd_X_write_99 : decode prog_1_method_2_code 99 = .ok (.iastore, 1) := by decide +kernel
theorem zd_X_write_0 : decode prog_1_method_2_code 0 = .ok (.iload_n 1, 1) := by decide +kernel
theorem zd_X_write_1 : decode prog_1_method_2_code 1 = .ok (.ifCond .lt 21, 3) := by decide +kernel
theorem zd_X_write_22 : decode prog_1_method_2_code 22 = .ok (.new 39, 3) := by decide +kernel
theorem zd_X_write_25 : decode prog_1_method_2_code 25 = .ok (.dup, 1) := by decide +kernel
theorem zd_X_write_26 : decode prog_1_method_2_code 26 = .ok (.invokespecial 41, 3) := by decide +kernel
theorem zd_X_write_29 : decode prog_1_method_2_code 29 = .ok (.athrow, 1) := by decide +kernel
theorem zd_X_write_4 : decode prog_1_method_2_code 4 = .ok (.iload_n 1, 1) := by decide +kernel
theorem zd_X_write_5 : decode prog_1_method_2_code 5 = .ok (.sipush 256, 3) := by decide +kernel
theorem zd_X_write_8 : decode prog_1_method_2_code 8 = .ok (.if_icmp .ge 14, 3) := by decide +kernel
theorem zd_X_write_11 : decode prog_1_method_2_code 11 = .ok (.iload_n 2, 1) := by decide +kernel
theorem zd_X_write_12 : decode prog_1_method_2_code 12 = .ok (.iconst 1, 1) := by decide +kernel
theorem zd_X_write_13 : decode prog_1_method_2_code 13 = .ok (.if_icmp .lt 9, 3) := by decide +kernel
theorem zd_X_write_16 : decode prog_1_method_2_code 16 = .ok (.iload_n 2, 1) := by decide +kernel
theorem zd_X_write_17 : decode prog_1_method_2_code 17 = .ok (.bipush 100, 2) := by decide +kernel
theorem zd_X_write_19 : decode prog_1_method_2_code 19 = .ok (.if_icmp .le 11, 3) := by decide +kernel
theorem zd_X_write_30 : decode prog_1_method_2_code 30 = .ok (.aload_n 0, 1) := by decide +kernel
theorem zd_X_write_31 : decode prog_1_method_2_code 31 = .ok (.getfield 16, 3) := by decide +kernel
theorem zd_X_write_34 : decode prog_1_method_2_code 34 = .ok (.getfield 42, 3) := by decide +kernel
theorem zd_X_write_37 : decode prog_1_method_2_code 37 = .ok (.iload_n 2, 1) := by decide +kernel
theorem zd_X_write_38 : decode prog_1_method_2_code 38 = .ok (.iadd, 1) := by decide +kernel
theorem zd_X_write_39 : decode prog_1_method_2_code 39 = .ok (.sipush 600, 3) := by decide +kernel
theorem zd_X_write_42 : decode prog_1_method_2_code 42 = .ok (.if_icmp .le 11, 3) := by decide +kernel
theorem zd_X_write_53 : decode prog_1_method_2_code 53 = .ok (.iconst 0, 1) := by decide +kernel
theorem zd_X_write_54 : decode prog_1_method_2_code 54 = .ok (.istore_n 3, 1) := by decide +kernel
theorem zd_X_write_106 : decode prog_1_method_2_code 106 = .ok (.aload_n 0, 1) := by decide +kernel
theorem zd_X_write_107 : decode prog_1_method_2_code 107 = .ok (.getfield 16, 3) := by decide +kernel
theorem zd_X_write_110 : decode prog_1_method_2_code 110 = .ok (.dup, 1) := by decide +kernel
theorem zd_X_write_111 : decode prog_1_method_2_code 111 = .ok (.getfield 42, 3) := by decide +kernel
theorem zd_X_write_114 : decode prog_1_method_2_code 114 = .ok (.iload_n 2, 1) := by decide +kernel
theorem zd_X_write_115 : decode prog_1_method_2_code 115 = .ok (.iadd, 1) := by decide +kernel
theorem zd_X_write_116 : decode prog_1_method_2_code 116 = .ok (.putfield 42, 3) := by decide +kernel
theorem zd_X_write_119 : decode prog_1_method_2_code 119 = .ok (.aload_n 0, 1) := by decide +kernel
theorem zd_X_write_120 : decode prog_1_method_2_code 120 = .ok (.getfield 16, 3) := by decide +kernel
theorem zd_X_write_123 : decode prog_1_method_2_code 123 = .ok (.getfield 42, 3) := by decide +kernel
theorem zd_X_write_126 : decode prog_1_method_2_code 126 = .ok (.ireturn, 1) := by decide +kernel
theorem zd_X_write_45 : decode prog_1_method_2_code 45 = .ok (.new 46, 3) := by decide +kernel
theorem zd_X_write_48 : decode prog_1_method_2_code 48 = .ok (.dup, 1) := by decide +kernel
theorem zd_X_write_49 : decode prog_1_method_2_code 49 = .ok (.invokespecial 48, 3) := by decide +kernel
theorem zd_X_write_52 : decode prog_1_method_2_code 52 = .ok (.athrow, 1) := by decide +kernel
theorem zd_L_write_0 : decode method_3_code 0 = .ok (.aload_n 3, 1) := by decide +kernel
theorem zd_L_write_1 : decode method_3_code 1 = .ok (.iconst 0, 1) := by decide +kernel
theorem zd_L_write_2 : decode method_3_code 2 = .ok (.aload_n 0, 1) := by decide +kernel
theorem zd_L_write_3 : decode method_3_code 3 = .ok (.iload_n 1, 1) := by decide +kernel
theorem zd_L_write_4 : decode method_3_code 4 = .ok (.iload_n 2, 1) := by decide +kernel
theorem zd_L_write_5 : decode method_3_code 5 = .ok (.invokevirtual 7, 3) := by decide +kernel
theorem zd_L_write_13 : decode method_3_code 13 = .ok (.astore 4, 2) := by decide +kernel
theorem zd_L_write_15 : decode method_3_code 15 = .ok (.iconst 1, 1) := by decide +kernel
theorem zd_L_write_16 : decode method_3_code 16 = .ok (.ireturn, 1) := by decide +kernel
theorem zd_L_write_17 : decode method_3_code 17 = .ok (.astore 4, 2) := by decide +kernel
theorem zd_L_write_19 : decode method_3_code 19 = .ok (.iconst 2, 1) := by decide +kernel
theorem zd_L_write_20 : decode method_3_code 20 = .ok (.ireturn, 1) := by decide +kernel
theorem zd_L_write_8 : decode method_3_code 8 = .ok (.i2l, 1) := by decide +kernel
theorem zd_L_write_9 : decode method_3_code 9 = .ok (.lastore, 1) := by decide +kernel
theorem zd_L_write_10 : decode method_3_code 10 = .ok (.goto 11, 3) := by decide +kernel
theorem zd_L_write_21 : decode method_3_code 21 = .ok (.iconst 0, 1) := by decide +kernel
theorem zd_L_write_22 : decode method_3_code 22 = .ok (.ireturn, 1) := by decide +kernel
theorem zd_X_setLimit_0 : decode prog_1_method_4_code 0 = .ok (.iload_n 1, 1) := by decide +kernel
theorem zd_X_setLimit_1 : decode prog_1_method_4_code 1 = .ok (.iconst 4, 1) := by decide +kernel
theorem zd_X_setLimit_2 : decode prog_1_method_4_code 2 = .ok (.if_icmp .lt 10, 3) := by decide +kernel
theorem zd_X_setLimit_12 : decode prog_1_method_4_code 12 = .ok (.new 39, 3) := by decide +kernel
theorem zd_X_setLimit_15 : decode prog_1_method_4_code 15 = .ok (.dup, 1) := by decide +kernel
theorem zd_X_setLimit_16 : decode prog_1_method_4_code 16 = .ok (.invokespecial 41, 3) := by decide +kernel
theorem zd_X_setLimit_19 : decode prog_1_method_4_code 19 = .ok (.athrow, 1) := by decide +kernel
theorem zd_X_setLimit_5 : decode prog_1_method_4_code 5 = .ok (.iload_n 1, 1) := by decide +kernel
theorem zd_X_setLimit_6 : decode prog_1_method_4_code 6 = .ok (.sipush 256, 3) := by decide +kernel
theorem zd_X_setLimit_9 : decode prog_1_method_4_code 9 = .ok (.if_icmp .le 11, 3) := by decide +kernel
theorem zd_X_setLimit_20 : decode prog_1_method_4_code 20 = .ok (.aload_n 0, 1) := by decide +kernel
theorem zd_X_setLimit_21 : decode prog_1_method_4_code 21 = .ok (.getfield 16, 3) := by decide +kernel
theorem zd_X_setLimit_24 : decode prog_1_method_4_code 24 = .ok (.getfield 63, 3) := by decide +kernel
theorem zd_X_setLimit_27 : decode prog_1_method_4_code 27 = .ok (.istore_n 2, 1) := by decide +kernel
theorem zd_X_setLimit_28 : decode prog_1_method_4_code 28 = .ok (.aload_n 0, 1) := by decide +kernel
theorem zd_X_setLimit_29 : decode prog_1_method_4_code 29 = .ok (.getfield 16, 3) := by decide +kernel
theorem zd_X_setLimit_32 : decode prog_1_method_4_code 32 = .ok (.iload_n 1, 1) := by decide +kernel
theorem zd_X_setLimit_33 : decode prog_1_method_4_code 33 = .ok (.putfield 63, 3) := by decide +kernel
theorem zd_X_setLimit_36 : decode prog_1_method_4_code 36 = .ok (.iload_n 2, 1) := by decide +kernel
theorem zd_X_setLimit_37 : decode prog_1_method_4_code 37 = .ok (.ireturn, 1) := by decide +kernel
theorem zd_L_setLimit_0 : decode method_4_code 0 = .ok (.aload_n 2, 1) := by decide +kernel
theorem zd_L_setLimit_1 : decode method_4_code 1 = .ok (.iconst 0, 1) := by decide +kernel
theorem zd_L_setLimit_2 : decode method_4_code 2 = .ok (.aload_n 0, 1) := by decide +kernel
theorem zd_L_setLimit_3 : decode method_4_code 3 = .ok (.iload_n 1, 1) := by decide +kernel
theorem zd_L_setLimit_4 : decode method_4_code 4 = .ok (.invokevirtual 17, 3) := by decide +kernel
theorem zd_L_setLimit_12 : decode method_4_code 12 = .ok (.astore_n 3, 1) := by decide +kernel
theorem zd_L_setLimit_13 : decode method_4_code 13 = .ok (.iconst 1, 1) := by decide +kernel
theorem zd_L_setLimit_14 : decode method_4_code 14 = .ok (.ireturn, 1) := by decide +kernel
theorem zd_L_setLimit_7 : decode method_4_code 7 = .ok (.i2l, 1) := by decide +kernel
theorem zd_L_setLimit_8 : decode method_4_code 8 = .ok (.lastore, 1) := by decide +kernel
theorem zd_L_setLimit_9 : decode method_4_code 9 = .ok (.goto 6, 3) := by decide +kernel
theorem zd_L_setLimit_15 : decode method_4_code 15 = .ok (.iconst 0, 1) := by decide +kernel
theorem zd_L_setLimit_16 : decode method_4_code 16 = .ok (.ireturn, 1) := by decide +kernel
theorem zd_X_send_0 : decode prog_1_method_5_code 0 = .ok (.aload_n 0, 1) := by decide +kernel
theorem zd_X_send_1 : decode prog_1_method_5_code 1 = .ok (.getfield 32, 3) := by decide +kernel
theorem zd_X_send_4 : decode prog_1_method_5_code 4 = .ok (.invokevirtual 66, 3) := by decide +kernel
theorem zd_X_send_7 : decode prog_1_method_5_code 7 = .ok (.ifCond .eq 11, 3) := by decide +kernel
theorem zd_X_send_18 : decode prog_1_method_5_code 18 = .ok (.aload_n 0, 1) := by decide +kernel
theorem zd_X_send_19 : decode prog_1_method_5_code 19 = .ok (.getfield 16, 3) := by decide +kernel
theorem zd_X_send_22 : decode prog_1_method_5_code 22 = .ok (.aload_n 0, 1) := by decide +kernel
theorem zd_X_send_23 : decode prog_1_method_5_code 23 = .ok (.getfield 32, 3) := by decide +kernel
theorem zd_X_send_26 : decode prog_1_method_5_code 26 = .ok (.invokevirtual 69, 3) := by decide +kernel
theorem zd_X_send_29 : decode prog_1_method_5_code 29 = .ok (.ireturn, 1) := by decide +kernel
theorem zd_X_send_10 : decode prog_1_method_5_code 10 = .ok (.new 46, 3) := by decide +kernel
theorem zd_X_send_13 : decode prog_1_method_5_code 13 = .ok (.dup, 1) := by decide +kernel
theorem zd_X_send_14 : decode prog_1_method_5_code 14 = .ok (.invokespecial 48, 3) := by decide +kernel
theorem zd_X_send_17 : decode prog_1_method_5_code 17 = .ok (.athrow, 1) := by decide +kernel
theorem zd_L_send_0 : decode method_5_code 0 = .ok (.aload_n 1, 1) := by decide +kernel
theorem zd_L_send_1 : decode method_5_code 1 = .ok (.iconst 0, 1) := by decide +kernel
theorem zd_L_send_2 : decode method_5_code 2 = .ok (.aload_n 0, 1) := by decide +kernel
theorem zd_L_send_3 : decode method_5_code 3 = .ok (.invokevirtual 21, 3) := by decide +kernel
theorem zd_L_send_11 : decode method_5_code 11 = .ok (.astore_n 2, 1) := by decide +kernel
theorem zd_L_send_12 : decode method_5_code 12 = .ok (.iconst 1, 1) := by decide +kernel
theorem zd_L_send_13 : decode method_5_code 13 = .ok (.ireturn, 1) := by decide +kernel
theorem zd_L_send_6 : decode method_5_code 6 = .ok (.i2l, 1) := by decide +kernel
theorem zd_L_send_7 : decode method_5_code 7 = .ok (.lastore, 1) := by decide +kernel
theorem zd_L_send_8 : decode method_5_code 8 = .ok (.goto 6, 3) := by decide +kernel
theorem zd_L_send_14 : decode method_5_code 14 = .ok (.iconst 0, 1) := by decide +kernel
theorem zd_L_send_15 : decode method_5_code 15 = .ok (.ireturn, 1) := by decide +kernel
theorem zd_X_tick_0 : decode prog_1_method_6_code 0 = .ok (.iload_n 1, 1) := by decide +kernel
theorem zd_X_tick_1 : decode prog_1_method_6_code 1 = .ok (.iconst 1, 1) := by decide +kernel
theorem zd_X_tick_2 : decode prog_1_method_6_code 2 = .ok (.if_icmp .lt 9, 3) := by decide +kernel
theorem zd_X_tick_11 : decode prog_1_method_6_code 11 = .ok (.new 39, 3) := by decide +kernel
theorem zd_X_tick_14 : decode prog_1_method_6_code 14 = .ok (.dup, 1) := by decide +kernel
theorem zd_X_tick_15 : decode prog_1_method_6_code 15 = .ok (.invokespecial 41, 3) := by decide +kernel
theorem zd_X_tick_18 : decode prog_1_method_6_code 18 = .ok (.athrow, 1) := by decide +kernel
theorem zd_X_tick_5 : decode prog_1_method_6_code 5 = .ok (.iload_n 1, 1) := by decide +kernel
theorem zd_X_tick_6 : decode prog_1_method_6_code 6 = .ok (.bipush 100, 2) := by decide +kernel
theorem zd_X_tick_8 : decode prog_1_method_6_code 8 = .ok (.if_icmp .le 11, 3) := by decide +kernel
theorem zd_X_tick_19 : decode prog_1_method_6_code 19 = .ok (.aload_n 0, 1) := by decide +kernel
theorem zd_X_tick_20 : decode prog_1_method_6_code 20 = .ok (.getfield 16, 3) := by decide +kernel
theorem zd_X_tick_23 : decode prog_1_method_6_code 23 = .ok (.iload_n 1, 1) := by decide +kernel
theorem zd_X_tick_24 : decode prog_1_method_6_code 24 = .ok (.invokevirtual 73, 3) := by decide +kernel
theorem zd_X_tick_27 : decode prog_1_method_6_code 27 = .ok (.ireturn, 1) := by decide +kernel
theorem zd_L_tick_0 : decode method_6_code 0 = .ok (.aload_n 2, 1) := by decide +kernel
theorem zd_L_tick_1 : decode method_6_code 1 = .ok (.iconst 0, 1) := by decide +kernel
theorem zd_L_tick_2 : decode method_6_code 2 = .ok (.aload_n 0, 1) := by decide +kernel
theorem zd_L_tick_3 : decode method_6_code 3 = .ok (.iload_n 1, 1) := by decide +kernel
theorem zd_L_tick_4 : decode method_6_code 4 = .ok (.invokevirtual 25, 3) := by decide +kernel
theorem zd_L_tick_12 : decode method_6_code 12 = .ok (.astore_n 3, 1) := by decide +kernel
theorem zd_L_tick_13 : decode method_6_code 13 = .ok (.iconst 1, 1) := by decide +kernel
theorem zd_L_tick_14 : decode method_6_code 14 = .ok (.ireturn, 1) := by decide +kernel
theorem zd_L_tick_7 : decode method_6_code 7 = .ok (.i2l, 1) := by decide +kernel
theorem zd_L_tick_8 : decode method_6_code 8 = .ok (.lastore, 1) := by decide +kernel
theorem zd_L_tick_9 : decode method_6_code 9 = .ok (.goto 6, 3) := by decide +kernel
theorem zd_L_tick_15 : decode method_6_code 15 = .ok (.iconst 0, 1) := by decide +kernel
theorem zd_L_tick_16 : decode method_6_code 16 = .ok (.ireturn, 1) := by decide +kernel
theorem zd_X_deliver_0 : decode prog_1_method_7_code 0 = .ok (.aload_n 0, 1) := by decide +kernel
theorem zd_X_deliver_1 : decode prog_1_method_7_code 1 = .ok (.getfield 32, 3) := by decide +kernel
theorem zd_X_deliver_4 : decode prog_1_method_7_code 4 = .ok (.iload_n 1, 1) := by decide +kernel
theorem zd_X_deliver_5 : decode prog_1_method_7_code 5 = .ok (.invokevirtual 77, 3) := by decide +kernel
theorem zd_X_deliver_8 : decode prog_1_method_7_code 8 = .ok (.ifCond .ne 11, 3) := by decide +kernel
theorem zd_X_deliver_19 : decode prog_1_method_7_code 19 = .ok (.aload_n 0, 1) := by decide +kernel
theorem zd_X_deliver_20 : decode prog_1_method_7_code 20 = .ok (.getfield 23, 3) := by decide +kernel
theorem zd_X_deliver_23 : decode prog_1_method_7_code 23 = .ok (.aload_n 0, 1) := by decide +kernel
theorem zd_X_deliver_24 : decode prog_1_method_7_code 24 = .ok (.getfield 32, 3) := by decide +kernel
theorem zd_X_deliver_27 : decode prog_1_method_7_code 27 = .ok (.iload_n 1, 1) := by decide +kernel
theorem zd_X_deliver_28 : decode prog_1_method_7_code 28 = .ok (.iconst 0, 1) := by decide +kernel
theorem zd_X_deliver_29 : decode prog_1_method_7_code 29 = .ok (.invokevirtual 84, 3) := by decide +kernel
theorem zd_X_deliver_32 : decode prog_1_method_7_code 32 = .ok (.aload_n 0, 1) := by decide +kernel
theorem zd_X_deliver_33 : decode prog_1_method_7_code 33 = .ok (.getfield 32, 3) := by decide +kernel
theorem zd_X_deliver_36 : decode prog_1_method_7_code 36 = .ok (.iload_n 1, 1) := by decide +kernel
theorem zd_X_deliver_37 : decode prog_1_method_7_code 37 = .ok (.iconst 1, 1) := by decide +kernel
theorem zd_X_deliver_38 : decode prog_1_method_7_code 38 = .ok (.invokevirtual 84, 3) := by decide +kernel
theorem zd_X_deliver_41 : decode prog_1_method_7_code 41 = .ok (.invokevirtual 88, 3) := by decide +kernel
theorem zd_X_deliver_44 : decode prog_1_method_7_code 44 = .ok (.istore_n 2, 1) := by decide +kernel
theorem zd_X_deliver_45 : decode prog_1_method_7_code 45 = .ok (.aload_n 0, 1) := by decide +kernel
theorem zd_X_deliver_46 : decode prog_1_method_7_code 46 = .ok (.getfield 32, 3) := by decide +kernel
theorem zd_X_deliver_49 : decode prog_1_method_7_code 49 = .ok (.iload_n 1, 1) := by decide +kernel
theorem zd_X_deliver_50 : decode prog_1_method_7_code 50 = .ok (.invokevirtual 91, 3) := by decide +kernel
theorem zd_X_deliver_53 : decode prog_1_method_7_code 53 = .ok (.aload_n 0, 1) := by decide +kernel
theorem zd_X_deliver_54 : decode prog_1_method_7_code 54 = .ok (.getfield 23, 3) := by decide +kernel
theorem zd_X_deliver_57 : decode prog_1_method_7_code 57 = .ok (.aload_n 0, 1) := by decide +kernel
theorem zd_X_deliver_58 : decode prog_1_method_7_code 58 = .ok (.getfield 36, 3) := by decide +kernel
theorem zd_X_deliver_61 : decode prog_1_method_7_code 61 = .ok (.invokevirtual 59, 3) := by decide +kernel
theorem zd_X_deliver_64 : decode prog_1_method_7_code 64 = .ok (.iload_n 2, 1) := by decide +kernel
theorem zd_X_deliver_65 : decode prog_1_method_7_code 65 = .ok (.ireturn, 1) := by decide +kernel
theorem zd_X_deliver_11 : decode prog_1_method_7_code 11 = .ok (.new 81, 3) := by decide +kernel
theorem zd_X_deliver_14 : decode prog_1_method_7_code 14 = .ok (.dup, 1) := by decide +kernel
theorem zd_X_deliver_15 : decode prog_1_method_7_code 15 = .ok (.invokespecial 83, 3) := by decide +kernel
theorem zd_X_deliver_18 : decode prog_1_method_7_code 18 = .ok (.athrow, 1) := by decide +kernel
theorem zd_L_deliver_0 : decode method_7_code 0 = .ok (.aload_n 2, 1) := by decide +kernel
theorem zd_L_deliver_1 : decode method_7_code 1 = .ok (.iconst 0, 1) := by decide +kernel
theorem zd_L_deliver_2 : decode method_7_code 2 = .ok (.aload_n 0, 1) := by decide +kernel
theorem zd_L_deliver_3 : decode method_7_code 3 = .ok (.iload_n 1, 1) := by decide +kernel
theorem zd_L_deliver_4 : decode method_7_code 4 = .ok (.invokevirtual 28, 3) := by decide +kernel
theorem zd_L_deliver_12 : decode method_7_code 12 = .ok (.astore_n 3, 1) := by decide +kernel
theorem zd_L_deliver_13 : decode method_7_code 13 = .ok (.iconst 1, 1) := by decide +kernel
theorem zd_L_deliver_14 : decode method_7_code 14 = .ok (.ireturn, 1) := by decide +kernel
theorem zd_L_deliver_7 : decode method_7_code 7 = .ok (.i2l, 1) := by decide +kernel
theorem zd_L_deliver_8 : decode method_7_code 8 = .ok (.lastore, 1) := by decide +kernel
theorem zd_L_deliver_9 : decode method_7_code 9 = .ok (.goto 6, 3) := by decide +kernel
theorem zd_L_deliver_15 : decode method_7_code 15 = .ok (.iconst 0, 1) := by decide +kernel
theorem zd_L_deliver_16 : decode method_7_code 16 = .ok (.ireturn, 1) := by decide +kernel
theorem zd_X_lose_0 : decode prog_1_method_8_code 0 = .ok (.aload_n 0, 1) := by decide +kernel
theorem zd_X_lose_1 : decode prog_1_method_8_code 1 = .ok (.getfield 32, 3) := by decide +kernel
theorem zd_X_lose_4 : decode prog_1_method_8_code 4 = .ok (.iload_n 1, 1) := by decide +kernel
theorem zd_X_lose_5 : decode prog_1_method_8_code 5 = .ok (.invokevirtual 77, 3) := by decide +kernel
theorem zd_X_lose_8 : decode prog_1_method_8_code 8 = .ok (.ifCond .ne 11, 3) := by decide +kernel
theorem zd_X_lose_19 : decode prog_1_method_8_code 19 = .ok (.aload_n 0, 1) := by decide +kernel
theorem zd_X_lose_20 : decode prog_1_method_8_code 20 = .ok (.getfield 32, 3) := by decide +kernel
theorem zd_X_lose_23 : decode prog_1_method_8_code 23 = .ok (.iload_n 1, 1) := by decide +kernel
theorem zd_X_lose_24 : decode prog_1_method_8_code 24 = .ok (.iconst 0, 1) := by decide +kernel
theorem zd_X_lose_25 : decode prog_1_method_8_code 25 = .ok (.invokevirtual 84, 3) := by decide +kernel
theorem zd_X_lose_28 : decode prog_1_method_8_code 28 = .ok (.istore_n 2, 1) := by decide +kernel
theorem zd_X_lose_29 : decode prog_1_method_8_code 29 = .ok (.aload_n 0, 1) := by decide +kernel
theorem zd_X_lose_30 : decode prog_1_method_8_code 30 = .ok (.getfield 32, 3) := by decide +kernel
theorem zd_X_lose_33 : decode prog_1_method_8_code 33 = .ok (.iload_n 1, 1) := by decide +kernel
theorem zd_X_lose_34 : decode prog_1_method_8_code 34 = .ok (.invokevirtual 91, 3) := by decide +kernel
theorem zd_X_lose_37 : decode prog_1_method_8_code 37 = .ok (.iload_n 2, 1) := by decide +kernel
theorem zd_X_lose_38 : decode prog_1_method_8_code 38 = .ok (.ireturn, 1) := by decide +kernel
theorem zd_X_lose_11 : decode prog_1_method_8_code 11 = .ok (.new 81, 3) := by decide +kernel
theorem zd_X_lose_14 : decode prog_1_method_8_code 14 = .ok (.dup, 1) := by decide +kernel
theorem zd_X_lose_15 : decode prog_1_method_8_code 15 = .ok (.invokespecial 83, 3) := by decide +kernel
theorem zd_X_lose_18 : decode prog_1_method_8_code 18 = .ok (.athrow, 1) := by decide +kernel
theorem zd_L_lose_0 : decode method_8_code 0 = .ok (.aload_n 2, 1) := by decide +kernel
theorem zd_L_lose_1 : decode method_8_code 1 = .ok (.iconst 0, 1) := by decide +kernel
theorem zd_L_lose_2 : decode method_8_code 2 = .ok (.aload_n 0, 1) := by decide +kernel
theorem zd_L_lose_3 : decode method_8_code 3 = .ok (.iload_n 1, 1) := by decide +kernel
theorem zd_L_lose_4 : decode method_8_code 4 = .ok (.invokevirtual 33, 3) := by decide +kernel
theorem zd_L_lose_12 : decode method_8_code 12 = .ok (.astore_n 3, 1) := by decide +kernel
theorem zd_L_lose_13 : decode method_8_code 13 = .ok (.iconst 1, 1) := by decide +kernel
theorem zd_L_lose_14 : decode method_8_code 14 = .ok (.ireturn, 1) := by decide +kernel
theorem zd_L_lose_7 : decode method_8_code 7 = .ok (.i2l, 1) := by decide +kernel
theorem zd_L_lose_8 : decode method_8_code 8 = .ok (.lastore, 1) := by decide +kernel
theorem zd_L_lose_9 : decode method_8_code 9 = .ok (.goto 6, 3) := by decide +kernel
theorem zd_L_lose_15 : decode method_8_code 15 = .ok (.iconst 0, 1) := by decide +kernel
theorem zd_L_lose_16 : decode method_8_code 16 = .ok (.ireturn, 1) := by decide +kernel
theorem zd_X_duplicate_0 : decode prog_1_method_9_code 0 = .ok (.aload_n 0, 1) := by decide +kernel
theorem zd_X_duplicate_1 : decode prog_1_method_9_code 1 = .ok (.getfield 32, 3) := by decide +kernel
theorem zd_X_duplicate_4 : decode prog_1_method_9_code 4 = .ok (.iload_n 1, 1) := by decide +kernel
theorem zd_X_duplicate_5 : decode prog_1_method_9_code 5 = .ok (.invokevirtual 77, 3) := by decide +kernel
theorem zd_X_duplicate_8 : decode prog_1_method_9_code 8 = .ok (.ifCond .ne 11, 3) := by decide +kernel
theorem zd_X_duplicate_19 : decode prog_1_method_9_code 19 = .ok (.aload_n 0, 1) := by decide +kernel
theorem zd_X_duplicate_20 : decode prog_1_method_9_code 20 = .ok (.getfield 32, 3) := by decide +kernel
theorem zd_X_duplicate_23 : decode prog_1_method_9_code 23 = .ok (.invokevirtual 66, 3) := by decide +kernel
theorem zd_X_duplicate_26 : decode prog_1_method_9_code 26 = .ok (.ifCond .eq 11, 3) := by decide +kernel
theorem zd_X_duplicate_37 : decode prog_1_method_9_code 37 = .ok (.aload_n 0, 1) := by decide +kernel
theorem zd_X_duplicate_38 : decode prog_1_method_9_code 38 = .ok (.getfield 32, 3) := by decide +kernel
theorem zd_X_duplicate_41 : decode prog_1_method_9_code 41 = .ok (.invokevirtual 95, 3) := by decide +kernel
theorem zd_X_duplicate_44 : decode prog_1_method_9_code 44 = .ok (.istore_n 2, 1) := by decide +kernel
theorem zd_X_duplicate_45 : decode prog_1_method_9_code 45 = .ok (.aload_n 0, 1) := by decide +kernel
theorem zd_X_duplicate_46 : decode prog_1_method_9_code 46 = .ok (.getfield 32, 3) := by decide +kernel
theorem zd_X_duplicate_49 : decode prog_1_method_9_code 49 = .ok (.iload_n 2, 1) := by decide +kernel
theorem zd_X_duplicate_50 : decode prog_1_method_9_code 50 = .ok (.iconst 0, 1) := by decide +kernel
theorem zd_X_duplicate_51 : decode prog_1_method_9_code 51 = .ok (.aload_n 0, 1) := by decide +kernel
theorem zd_X_duplicate_52 : decode prog_1_method_9_code 52 = .ok (.getfield 32, 3) := by decide +kernel
theorem zd_X_duplicate_55 : decode prog_1_method_9_code 55 = .ok (.iload_n 1, 1) := by decide +kernel
theorem zd_X_duplicate_56 : decode prog_1_method_9_code 56 = .ok (.iconst 0, 1) := by decide +kernel
theorem zd_X_duplicate_57 : decode prog_1_method_9_code 57 = .ok (.invokevirtual 84, 3) := by decide +kernel
theorem zd_X_duplicate_60 : decode prog_1_method_9_code 60 = .ok (.invokevirtual 99, 3) := by decide +kernel
theorem zd_X_duplicate_63 : decode prog_1_method_9_code 63 = .ok (.aload_n 0, 1) := by decide +kernel
theorem zd_X_duplicate_64 : decode prog_1_method_9_code 64 = .ok (.getfield 32, 3) := by decide +kernel
theorem zd_X_duplicate_67 : decode prog_1_method_9_code 67 = .ok (.iload_n 2, 1) := by decide +kernel
theorem zd_X_duplicate_68 : decode prog_1_method_9_code 68 = .ok (.iconst 1, 1) := by decide +kernel
theorem zd_X_duplicate_69 : decode prog_1_method_9_code 69 = .ok (.aload_n 0, 1) := by decide +kernel
theorem zd_X_duplicate_70 : decode prog_1_method_9_code 70 = .ok (.getfield 32, 3) := by decide +kernel
theorem zd_X_duplicate_73 : decode prog_1_method_9_code 73 = .ok (.iload_n 1, 1) := by decide +kernel
theorem zd_X_duplicate_74 : decode prog_1_method_9_code 74 = .ok (.iconst 1, 1) := by decide +kernel
theorem zd_X_duplicate_75 : decode prog_1_method_9_code 75 = .ok (.invokevirtual 84, 3) := by decide +kernel
theorem zd_X_duplicate_78 : decode prog_1_method_9_code 78 = .ok (.invokevirtual 99, 3) := by decide +kernel
theorem zd_X_duplicate_81 : decode prog_1_method_9_code 81 = .ok (.aload_n 0, 1) := by decide +kernel
theorem zd_X_duplicate_82 : decode prog_1_method_9_code 82 = .ok (.getfield 32, 3) := by decide +kernel
theorem zd_X_duplicate_85 : decode prog_1_method_9_code 85 = .ok (.getfield 103, 3) := by decide +kernel
theorem zd_X_duplicate_88 : decode prog_1_method_9_code 88 = .ok (.ireturn, 1) := by decide +kernel
theorem zd_X_duplicate_29 : decode prog_1_method_9_code 29 = .ok (.new 46, 3) := by decide +kernel
theorem zd_X_duplicate_32 : decode prog_1_method_9_code 32 = .ok (.dup, 1) := by decide +kernel
theorem zd_X_duplicate_33 : decode prog_1_method_9_code 33 = .ok (.invokespecial 48, 3) := by decide +kernel
theorem zd_X_duplicate_36 : decode prog_1_method_9_code 36 = .ok (.athrow, 1) := by decide +kernel
theorem zd_X_duplicate_11 : decode prog_1_method_9_code 11 = .ok (.new 81, 3) := by decide +kernel
theorem zd_X_duplicate_14 : decode prog_1_method_9_code 14 = .ok (.dup, 1) := by decide +kernel
theorem zd_X_duplicate_15 : decode prog_1_method_9_code 15 = .ok (.invokespecial 83, 3) := by decide +kernel
theorem zd_X_duplicate_18 : decode prog_1_method_9_code 18 = .ok (.athrow, 1) := by decide +kernel
theorem zd_L_duplicate_0 : decode method_9_code 0 = .ok (.aload_n 2, 1) := by decide +kernel
theorem zd_L_duplicate_1 : decode method_9_code 1 = .ok (.iconst 0, 1) := by decide +kernel
theorem zd_L_duplicate_2 : decode method_9_code 2 = .ok (.aload_n 0, 1) := by decide +kernel
theorem zd_L_duplicate_3 : decode method_9_code 3 = .ok (.iload_n 1, 1) := by decide +kernel
theorem zd_L_duplicate_4 : decode method_9_code 4 = .ok (.invokevirtual 36, 3) := by decide +kernel
theorem zd_L_duplicate_12 : decode method_9_code 12 = .ok (.astore_n 3, 1) := by decide +kernel
theorem zd_L_duplicate_13 : decode method_9_code 13 = .ok (.iconst 1, 1) := by decide +kernel
theorem zd_L_duplicate_14 : decode method_9_code 14 = .ok (.ireturn, 1) := by decide +kernel
theorem zd_L_duplicate_15 : decode method_9_code 15 = .ok (.astore_n 3, 1) := by decide +kernel
theorem zd_L_duplicate_16 : decode method_9_code 16 = .ok (.iconst 2, 1) := by decide +kernel
theorem zd_L_duplicate_17 : decode method_9_code 17 = .ok (.ireturn, 1) := by decide +kernel
theorem zd_L_duplicate_7 : decode method_9_code 7 = .ok (.i2l, 1) := by decide +kernel
theorem zd_L_duplicate_8 : decode method_9_code 8 = .ok (.lastore, 1) := by decide +kernel
theorem zd_L_duplicate_9 : decode method_9_code 9 = .ok (.goto 9, 3) := by decide +kernel
theorem zd_L_duplicate_18 : decode method_9_code 18 = .ok (.iconst 0, 1) := by decide +kernel
theorem zd_L_duplicate_19 : decode method_9_code 19 = .ok (.ireturn, 1) := by decide +kernel
theorem zd_X_deliverAck_0 : decode prog_1_method_10_code 0 = .ok (.aload_n 0, 1) := by decide +kernel
theorem zd_X_deliverAck_1 : decode prog_1_method_10_code 1 = .ok (.getfield 36, 3) := by decide +kernel
theorem zd_X_deliverAck_4 : decode prog_1_method_10_code 4 = .ok (.iload_n 1, 1) := by decide +kernel
theorem zd_X_deliverAck_5 : decode prog_1_method_10_code 5 = .ok (.invokevirtual 77, 3) := by decide +kernel
theorem zd_X_deliverAck_8 : decode prog_1_method_10_code 8 = .ok (.ifCond .ne 11, 3) := by decide +kernel
theorem zd_X_deliverAck_19 : decode prog_1_method_10_code 19 = .ok (.aload_n 0, 1) := by decide +kernel
theorem zd_X_deliverAck_20 : decode prog_1_method_10_code 20 = .ok (.getfield 16, 3) := by decide +kernel
theorem zd_X_deliverAck_23 : decode prog_1_method_10_code 23 = .ok (.aload_n 0, 1) := by decide +kernel
theorem zd_X_deliverAck_24 : decode prog_1_method_10_code 24 = .ok (.getfield 36, 3) := by decide +kernel
theorem zd_X_deliverAck_27 : decode prog_1_method_10_code 27 = .ok (.iload_n 1, 1) := by decide +kernel
theorem zd_X_deliverAck_28 : decode prog_1_method_10_code 28 = .ok (.invokevirtual 106, 3) := by decide +kernel
theorem zd_X_deliverAck_31 : decode prog_1_method_10_code 31 = .ok (.istore_n 2, 1) := by decide +kernel
theorem zd_X_deliverAck_32 : decode prog_1_method_10_code 32 = .ok (.aload_n 0, 1) := by decide +kernel
theorem zd_X_deliverAck_33 : decode prog_1_method_10_code 33 = .ok (.getfield 36, 3) := by decide +kernel
theorem zd_X_deliverAck_36 : decode prog_1_method_10_code 36 = .ok (.iload_n 1, 1) := by decide +kernel
theorem zd_X_deliverAck_37 : decode prog_1_method_10_code 37 = .ok (.invokevirtual 91, 3) := by decide +kernel
theorem zd_X_deliverAck_40 : decode prog_1_method_10_code 40 = .ok (.iload_n 2, 1) := by decide +kernel
theorem zd_X_deliverAck_41 : decode prog_1_method_10_code 41 = .ok (.ireturn, 1) := by decide +kernel
theorem zd_X_deliverAck_11 : decode prog_1_method_10_code 11 = .ok (.new 81, 3) := by decide +kernel
theorem zd_X_deliverAck_14 : decode prog_1_method_10_code 14 = .ok (.dup, 1) := by decide +kernel
theorem zd_X_deliverAck_15 : decode prog_1_method_10_code 15 = .ok (.invokespecial 83, 3) := by decide +kernel
theorem zd_X_deliverAck_18 : decode prog_1_method_10_code 18 = .ok (.athrow, 1) := by decide +kernel
theorem zd_L_deliverAck_0 : decode method_10_code 0 = .ok (.aload_n 2, 1) := by decide +kernel
theorem zd_L_deliverAck_1 : decode method_10_code 1 = .ok (.iconst 0, 1) := by decide +kernel
theorem zd_L_deliverAck_2 : decode method_10_code 2 = .ok (.aload_n 0, 1) := by decide +kernel
theorem zd_L_deliverAck_3 : decode method_10_code 3 = .ok (.iload_n 1, 1) := by decide +kernel
theorem zd_L_deliverAck_4 : decode method_10_code 4 = .ok (.invokevirtual 39, 3) := by decide +kernel
theorem zd_L_deliverAck_12 : decode method_10_code 12 = .ok (.astore_n 3, 1) := by decide +kernel
theorem zd_L_deliverAck_13 : decode method_10_code 13 = .ok (.iconst 1, 1) := by decide +kernel
theorem zd_L_deliverAck_14 : decode method_10_code 14 = .ok (.ireturn, 1) := by decide +kernel
theorem zd_L_deliverAck_7 : decode method_10_code 7 = .ok (.i2l, 1) := by decide +kernel
theorem zd_L_deliverAck_8 : decode method_10_code 8 = .ok (.lastore, 1) := by decide +kernel
theorem zd_L_deliverAck_9 : decode method_10_code 9 = .ok (.goto 6, 3) := by decide +kernel
theorem zd_L_deliverAck_15 : decode method_10_code 15 = .ok (.iconst 0, 1) := by decide +kernel
theorem zd_L_deliverAck_16 : decode method_10_code 16 = .ok (.ireturn, 1) := by decide +kernel
theorem zd_X_loseAck_0 : decode prog_1_method_11_code 0 = .ok (.aload_n 0, 1) := by decide +kernel
theorem zd_X_loseAck_1 : decode prog_1_method_11_code 1 = .ok (.getfield 36, 3) := by decide +kernel
theorem zd_X_loseAck_4 : decode prog_1_method_11_code 4 = .ok (.iload_n 1, 1) := by decide +kernel
theorem zd_X_loseAck_5 : decode prog_1_method_11_code 5 = .ok (.invokevirtual 77, 3) := by decide +kernel
theorem zd_X_loseAck_8 : decode prog_1_method_11_code 8 = .ok (.ifCond .ne 11, 3) := by decide +kernel
theorem zd_X_loseAck_19 : decode prog_1_method_11_code 19 = .ok (.aload_n 0, 1) := by decide +kernel
theorem zd_X_loseAck_20 : decode prog_1_method_11_code 20 = .ok (.getfield 36, 3) := by decide +kernel
theorem zd_X_loseAck_23 : decode prog_1_method_11_code 23 = .ok (.iload_n 1, 1) := by decide +kernel
theorem zd_X_loseAck_24 : decode prog_1_method_11_code 24 = .ok (.iconst 0, 1) := by decide +kernel
theorem zd_X_loseAck_25 : decode prog_1_method_11_code 25 = .ok (.invokevirtual 84, 3) := by decide +kernel
theorem zd_X_loseAck_28 : decode prog_1_method_11_code 28 = .ok (.istore_n 2, 1) := by decide +kernel
theorem zd_X_loseAck_29 : decode prog_1_method_11_code 29 = .ok (.aload_n 0, 1) := by decide +kernel
theorem zd_X_loseAck_30 : decode prog_1_method_11_code 30 = .ok (.getfield 36, 3) := by decide +kernel
theorem zd_X_loseAck_33 : decode prog_1_method_11_code 33 = .ok (.iload_n 1, 1) := by decide +kernel
theorem zd_X_loseAck_34 : decode prog_1_method_11_code 34 = .ok (.invokevirtual 91, 3) := by decide +kernel
theorem zd_X_loseAck_37 : decode prog_1_method_11_code 37 = .ok (.iload_n 2, 1) := by decide +kernel
theorem zd_X_loseAck_38 : decode prog_1_method_11_code 38 = .ok (.ireturn, 1) := by decide +kernel
theorem zd_X_loseAck_11 : decode prog_1_method_11_code 11 = .ok (.new 81, 3) := by decide +kernel
theorem zd_X_loseAck_14 : decode prog_1_method_11_code 14 = .ok (.dup, 1) := by decide +kernel
theorem zd_X_loseAck_15 : decode prog_1_method_11_code 15 = .ok (.invokespecial 83, 3) := by decide +kernel
theorem zd_X_loseAck_18 : decode prog_1_method_11_code 18 = .ok (.athrow, 1) := by decide +kernel
theorem zd_L_loseAck_0 : decode method_11_code 0 = .ok (.aload_n 2, 1) := by decide +kernel
theorem zd_L_loseAck_1 : decode method_11_code 1 = .ok (.iconst 0, 1) := by decide +kernel
theorem zd_L_loseAck_2 : decode method_11_code 2 = .ok (.aload_n 0, 1) := by decide +kernel
theorem zd_L_loseAck_3 : decode method_11_code 3 = .ok (.iload_n 1, 1) := by decide +kernel
theorem zd_L_loseAck_4 : decode method_11_code 4 = .ok (.invokevirtual 42, 3) := by decide +kernel
theorem zd_L_loseAck_12 : decode method_11_code 12 = .ok (.astore_n 3, 1) := by decide +kernel
theorem zd_L_loseAck_13 : decode method_11_code 13 = .ok (.iconst 1, 1) := by decide +kernel
theorem zd_L_loseAck_14 : decode method_11_code 14 = .ok (.ireturn, 1) := by decide +kernel
theorem zd_L_loseAck_7 : decode method_11_code 7 = .ok (.i2l, 1) := by decide +kernel
theorem zd_L_loseAck_8 : decode method_11_code 8 = .ok (.lastore, 1) := by decide +kernel
theorem zd_L_loseAck_9 : decode method_11_code 9 = .ok (.goto 6, 3) := by decide +kernel
theorem zd_L_loseAck_15 : decode method_11_code 15 = .ok (.iconst 0, 1) := by decide +kernel
theorem zd_L_loseAck_16 : decode method_11_code 16 = .ok (.ireturn, 1) := by decide +kernel
theorem zd_X_startOf_0 : decode prog_1_method_13_code 0 = .ok (.aload_n 0, 1) := by decide +kernel
theorem zd_X_startOf_1 : decode prog_1_method_13_code 1 = .ok (.getfield 32, 3) := by decide +kernel
theorem zd_X_startOf_4 : decode prog_1_method_13_code 4 = .ok (.iload_n 1, 1) := by decide +kernel
theorem zd_X_startOf_5 : decode prog_1_method_13_code 5 = .ok (.invokevirtual 77, 3) := by decide +kernel
theorem zd_X_startOf_8 : decode prog_1_method_13_code 8 = .ok (.ifCond .ne 11, 3) := by decide +kernel
theorem zd_X_startOf_19 : decode prog_1_method_13_code 19 = .ok (.aload_n 0, 1) := by decide +kernel
theorem zd_X_startOf_20 : decode prog_1_method_13_code 20 = .ok (.getfield 32, 3) := by decide +kernel
theorem zd_X_startOf_23 : decode prog_1_method_13_code 23 = .ok (.iload_n 1, 1) := by decide +kernel
theorem zd_X_startOf_24 : decode prog_1_method_13_code 24 = .ok (.iconst 0, 1) := by decide +kernel
theorem zd_X_startOf_25 : decode prog_1_method_13_code 25 = .ok (.invokevirtual 84, 3) := by decide +kernel
theorem zd_X_startOf_28 : decode prog_1_method_13_code 28 = .ok (.ireturn, 1) := by decide +kernel
theorem zd_X_startOf_11 : decode prog_1_method_13_code 11 = .ok (.new 81, 3) := by decide +kernel
theorem zd_X_startOf_14 : decode prog_1_method_13_code 14 = .ok (.dup, 1) := by decide +kernel
theorem zd_X_startOf_15 : decode prog_1_method_13_code 15 = .ok (.invokespecial 83, 3) := by decide +kernel
theorem zd_X_startOf_18 : decode prog_1_method_13_code 18 = .ok (.athrow, 1) := by decide +kernel
theorem zd_L_startOf_0 : decode method_12_code 0 = .ok (.aload_n 2, 1) := by decide +kernel
theorem zd_L_startOf_1 : decode method_12_code 1 = .ok (.iconst 0, 1) := by decide +kernel
theorem zd_L_startOf_2 : decode method_12_code 2 = .ok (.aload_n 0, 1) := by decide +kernel
theorem zd_L_startOf_3 : decode method_12_code 3 = .ok (.iload_n 1, 1) := by decide +kernel
theorem zd_L_startOf_4 : decode method_12_code 4 = .ok (.invokevirtual 45, 3) := by decide +kernel
theorem zd_L_startOf_12 : decode method_12_code 12 = .ok (.astore_n 3, 1) := by decide +kernel
theorem zd_L_startOf_13 : decode method_12_code 13 = .ok (.iconst 1, 1) := by decide +kernel
theorem zd_L_startOf_14 : decode method_12_code 14 = .ok (.ireturn, 1) := by decide +kernel
theorem zd_L_startOf_7 : decode method_12_code 7 = .ok (.i2l, 1) := by decide +kernel
theorem zd_L_startOf_8 : decode method_12_code 8 = .ok (.lastore, 1) := by decide +kernel
theorem zd_L_startOf_9 : decode method_12_code 9 = .ok (.goto 6, 3) := by decide +kernel
theorem zd_L_startOf_15 : decode method_12_code 15 = .ok (.iconst 0, 1) := by decide +kernel
theorem zd_L_startOf_16 : decode method_12_code 16 = .ok (.ireturn, 1) := by decide +kernel
theorem zd_X_endOf_0 : decode prog_1_method_14_code 0 = .ok (.aload_n 0, 1) := by decide +kernel
theorem zd_X_endOf_1 : decode prog_1_method_14_code 1 = .ok (.getfield 32, 3) := by decide +kernel
theorem zd_X_endOf_4 : decode prog_1_method_14_code 4 = .ok (.iload_n 1, 1) := by decide +kernel
theorem zd_X_endOf_5 : decode prog_1_method_14_code 5 = .ok (.invokevirtual 77, 3) := by decide +kernel
theorem zd_X_endOf_8 : decode prog_1_method_14_code 8 = .ok (.ifCond .ne 11, 3) := by decide +kernel
theorem zd_X_endOf_19 : decode prog_1_method_14_code 19 = .ok (.aload_n 0, 1) := by decide +kernel
theorem zd_X_endOf_20 : decode prog_1_method_14_code 20 = .ok (.getfield 32, 3) := by decide +kernel
theorem zd_X_endOf_23 : decode prog_1_method_14_code 23 = .ok (.iload_n 1, 1) := by decide +kernel
theorem zd_X_endOf_24 : decode prog_1_method_14_code 24 = .ok (.iconst 1, 1) := by decide +kernel
theorem zd_X_endOf_25 : decode prog_1_method_14_code 25 = .ok (.invokevirtual 84, 3) := by decide +kernel
theorem zd_X_endOf_28 : decode prog_1_method_14_code 28 = .ok (.ireturn, 1) := by decide +kernel
theorem zd_X_endOf_11 : decode prog_1_method_14_code 11 = .ok (.new 81, 3) := by decide +kernel
theorem zd_X_endOf_14 : decode prog_1_method_14_code 14 = .ok (.dup, 1) := by decide +kernel
theorem zd_X_endOf_15 : decode prog_1_method_14_code 15 = .ok (.invokespecial 83, 3) := by decide +kernel
theorem zd_X_endOf_18 : decode prog_1_method_14_code 18 = .ok (.athrow, 1) := by decide +kernel
theorem zd_L_endOf_0 : decode method_13_code 0 = .ok (.aload_n 2, 1) := by decide +kernel
theorem zd_L_endOf_1 : decode method_13_code 1 = .ok (.iconst 0, 1) := by decide +kernel
theorem zd_L_endOf_2 : decode method_13_code 2 = .ok (.aload_n 0, 1) := by decide +kernel
theorem zd_L_endOf_3 : decode method_13_code 3 = .ok (.iload_n 1, 1) := by decide +kernel
theorem zd_L_endOf_4 : decode method_13_code 4 = .ok (.invokevirtual 48, 3) := by decide +kernel
theorem zd_L_endOf_12 : decode method_13_code 12 = .ok (.astore_n 3, 1) := by decide +kernel
theorem zd_L_endOf_13 : decode method_13_code 13 = .ok (.iconst 1, 1) := by decide +kernel
theorem zd_L_endOf_14 : decode method_13_code 14 = .ok (.ireturn, 1) := by decide +kernel
theorem zd_L_endOf_7 : decode method_13_code 7 = .ok (.i2l, 1) := by decide +kernel
theorem zd_L_endOf_8 : decode method_13_code 8 = .ok (.lastore, 1) := by decide +kernel
theorem zd_L_endOf_9 : decode method_13_code 9 = .ok (.goto 6, 3) := by decide +kernel
theorem zd_L_endOf_15 : decode method_13_code 15 = .ok (.iconst 0, 1) := by decide +kernel
theorem zd_L_endOf_16 : decode method_13_code 16 = .ok (.ireturn, 1) := by decide +kernel
theorem zd_X_ackNumber_0 : decode prog_1_method_16_code 0 = .ok (.aload_n 0, 1) := by decide +kernel
theorem zd_X_ackNumber_1 : decode prog_1_method_16_code 1 = .ok (.getfield 36, 3) := by decide +kernel
theorem zd_X_ackNumber_4 : decode prog_1_method_16_code 4 = .ok (.iload_n 1, 1) := by decide +kernel
theorem zd_X_ackNumber_5 : decode prog_1_method_16_code 5 = .ok (.invokevirtual 77, 3) := by decide +kernel
theorem zd_X_ackNumber_8 : decode prog_1_method_16_code 8 = .ok (.ifCond .ne 11, 3) := by decide +kernel
theorem zd_X_ackNumber_19 : decode prog_1_method_16_code 19 = .ok (.aload_n 0, 1) := by decide +kernel
theorem zd_X_ackNumber_20 : decode prog_1_method_16_code 20 = .ok (.getfield 36, 3) := by decide +kernel
theorem zd_X_ackNumber_23 : decode prog_1_method_16_code 23 = .ok (.iload_n 1, 1) := by decide +kernel
theorem zd_X_ackNumber_24 : decode prog_1_method_16_code 24 = .ok (.iconst 0, 1) := by decide +kernel
theorem zd_X_ackNumber_25 : decode prog_1_method_16_code 25 = .ok (.invokevirtual 84, 3) := by decide +kernel
theorem zd_X_ackNumber_28 : decode prog_1_method_16_code 28 = .ok (.ireturn, 1) := by decide +kernel
theorem zd_X_ackNumber_11 : decode prog_1_method_16_code 11 = .ok (.new 81, 3) := by decide +kernel
theorem zd_X_ackNumber_14 : decode prog_1_method_16_code 14 = .ok (.dup, 1) := by decide +kernel
theorem zd_X_ackNumber_15 : decode prog_1_method_16_code 15 = .ok (.invokespecial 83, 3) := by decide +kernel
theorem zd_X_ackNumber_18 : decode prog_1_method_16_code 18 = .ok (.athrow, 1) := by decide +kernel
theorem zd_L_ackNumber_0 : decode method_14_code 0 = .ok (.aload_n 2, 1) := by decide +kernel
theorem zd_L_ackNumber_1 : decode method_14_code 1 = .ok (.iconst 0, 1) := by decide +kernel
theorem zd_L_ackNumber_2 : decode method_14_code 2 = .ok (.aload_n 0, 1) := by decide +kernel
theorem zd_L_ackNumber_3 : decode method_14_code 3 = .ok (.iload_n 1, 1) := by decide +kernel
theorem zd_L_ackNumber_4 : decode method_14_code 4 = .ok (.invokevirtual 51, 3) := by decide +kernel
theorem zd_L_ackNumber_12 : decode method_14_code 12 = .ok (.astore_n 3, 1) := by decide +kernel
theorem zd_L_ackNumber_13 : decode method_14_code 13 = .ok (.iconst 1, 1) := by decide +kernel
theorem zd_L_ackNumber_14 : decode method_14_code 14 = .ok (.ireturn, 1) := by decide +kernel
theorem zd_L_ackNumber_7 : decode method_14_code 7 = .ok (.i2l, 1) := by decide +kernel
theorem zd_L_ackNumber_8 : decode method_14_code 8 = .ok (.lastore, 1) := by decide +kernel
theorem zd_L_ackNumber_9 : decode method_14_code 9 = .ok (.goto 6, 3) := by decide +kernel
theorem zd_L_ackNumber_15 : decode method_14_code 15 = .ok (.iconst 0, 1) := by decide +kernel
theorem zd_L_ackNumber_16 : decode method_14_code 16 = .ok (.ireturn, 1) := by decide +kernel
theorem zd_X_ackWindow_0 : decode prog_1_method_17_code 0 = .ok (.aload_n 0, 1) := by decide +kernel
theorem zd_X_ackWindow_1 : decode prog_1_method_17_code 1 = .ok (.getfield 36, 3) := by decide +kernel
theorem zd_X_ackWindow_4 : decode prog_1_method_17_code 4 = .ok (.iload_n 1, 1) := by decide +kernel
theorem zd_X_ackWindow_5 : decode prog_1_method_17_code 5 = .ok (.invokevirtual 77, 3) := by decide +kernel
theorem zd_X_ackWindow_8 : decode prog_1_method_17_code 8 = .ok (.ifCond .ne 11, 3) := by decide +kernel
theorem zd_X_ackWindow_19 : decode prog_1_method_17_code 19 = .ok (.aload_n 0, 1) := by decide +kernel
theorem zd_X_ackWindow_20 : decode prog_1_method_17_code 20 = .ok (.getfield 36, 3) := by decide +kernel
theorem zd_X_ackWindow_23 : decode prog_1_method_17_code 23 = .ok (.iload_n 1, 1) := by decide +kernel
theorem zd_X_ackWindow_24 : decode prog_1_method_17_code 24 = .ok (.iconst 1, 1) := by decide +kernel
theorem zd_X_ackWindow_25 : decode prog_1_method_17_code 25 = .ok (.invokevirtual 84, 3) := by decide +kernel
theorem zd_X_ackWindow_28 : decode prog_1_method_17_code 28 = .ok (.ireturn, 1) := by decide +kernel
theorem zd_X_ackWindow_11 : decode prog_1_method_17_code 11 = .ok (.new 81, 3) := by decide +kernel
theorem zd_X_ackWindow_14 : decode prog_1_method_17_code 14 = .ok (.dup, 1) := by decide +kernel
theorem zd_X_ackWindow_15 : decode prog_1_method_17_code 15 = .ok (.invokespecial 83, 3) := by decide +kernel
theorem zd_X_ackWindow_18 : decode prog_1_method_17_code 18 = .ok (.athrow, 1) := by decide +kernel
theorem zd_L_ackWindow_0 : decode method_15_code 0 = .ok (.aload_n 2, 1) := by decide +kernel
theorem zd_L_ackWindow_1 : decode method_15_code 1 = .ok (.iconst 0, 1) := by decide +kernel
theorem zd_L_ackWindow_2 : decode method_15_code 2 = .ok (.aload_n 0, 1) := by decide +kernel
theorem zd_L_ackWindow_3 : decode method_15_code 3 = .ok (.iload_n 1, 1) := by decide +kernel
theorem zd_L_ackWindow_4 : decode method_15_code 4 = .ok (.invokevirtual 54, 3) := by decide +kernel
theorem zd_L_ackWindow_12 : decode method_15_code 12 = .ok (.astore_n 3, 1) := by decide +kernel
theorem zd_L_ackWindow_13 : decode method_15_code 13 = .ok (.iconst 1, 1) := by decide +kernel
theorem zd_L_ackWindow_14 : decode method_15_code 14 = .ok (.ireturn, 1) := by decide +kernel
theorem zd_L_ackWindow_7 : decode method_15_code 7 = .ok (.i2l, 1) := by decide +kernel
theorem zd_L_ackWindow_8 : decode method_15_code 8 = .ok (.lastore, 1) := by decide +kernel
theorem zd_L_ackWindow_9 : decode method_15_code 9 = .ok (.goto 6, 3) := by decide +kernel
theorem zd_L_ackWindow_15 : decode method_15_code 15 = .ok (.iconst 0, 1) := by decide +kernel
theorem zd_L_ackWindow_16 : decode method_15_code 16 = .ok (.ireturn, 1) := by decide +kernel
theorem zd_X_ackBlocks_0 : decode prog_1_method_18_code 0 = .ok (.aload_n 0, 1) := by decide +kernel
theorem zd_X_ackBlocks_1 : decode prog_1_method_18_code 1 = .ok (.getfield 36, 3) := by decide +kernel
theorem zd_X_ackBlocks_4 : decode prog_1_method_18_code 4 = .ok (.iload_n 1, 1) := by decide +kernel
theorem zd_X_ackBlocks_5 : decode prog_1_method_18_code 5 = .ok (.invokevirtual 77, 3) := by decide +kernel
theorem zd_X_ackBlocks_8 : decode prog_1_method_18_code 8 = .ok (.ifCond .ne 11, 3) := by decide +kernel
theorem zd_X_ackBlocks_19 : decode prog_1_method_18_code 19 = .ok (.aload_n 0, 1) := by decide +kernel
theorem zd_X_ackBlocks_20 : decode prog_1_method_18_code 20 = .ok (.getfield 36, 3) := by decide +kernel
theorem zd_X_ackBlocks_23 : decode prog_1_method_18_code 23 = .ok (.iload_n 1, 1) := by decide +kernel
theorem zd_X_ackBlocks_24 : decode prog_1_method_18_code 24 = .ok (.iconst 2, 1) := by decide +kernel
theorem zd_X_ackBlocks_25 : decode prog_1_method_18_code 25 = .ok (.invokevirtual 84, 3) := by decide +kernel
theorem zd_X_ackBlocks_28 : decode prog_1_method_18_code 28 = .ok (.ireturn, 1) := by decide +kernel
theorem zd_X_ackBlocks_11 : decode prog_1_method_18_code 11 = .ok (.new 81, 3) := by decide +kernel
theorem zd_X_ackBlocks_14 : decode prog_1_method_18_code 14 = .ok (.dup, 1) := by decide +kernel
theorem zd_X_ackBlocks_15 : decode prog_1_method_18_code 15 = .ok (.invokespecial 83, 3) := by decide +kernel
theorem zd_X_ackBlocks_18 : decode prog_1_method_18_code 18 = .ok (.athrow, 1) := by decide +kernel
theorem zd_L_ackBlocks_0 : decode method_16_code 0 = .ok (.aload_n 2, 1) := by decide +kernel
theorem zd_L_ackBlocks_1 : decode method_16_code 1 = .ok (.iconst 0, 1) := by decide +kernel
theorem zd_L_ackBlocks_2 : decode method_16_code 2 = .ok (.aload_n 0, 1) := by decide +kernel
theorem zd_L_ackBlocks_3 : decode method_16_code 3 = .ok (.iload_n 1, 1) := by decide +kernel
theorem zd_L_ackBlocks_4 : decode method_16_code 4 = .ok (.invokevirtual 57, 3) := by decide +kernel
theorem zd_L_ackBlocks_12 : decode method_16_code 12 = .ok (.astore_n 3, 1) := by decide +kernel
theorem zd_L_ackBlocks_13 : decode method_16_code 13 = .ok (.iconst 1, 1) := by decide +kernel
theorem zd_L_ackBlocks_14 : decode method_16_code 14 = .ok (.ireturn, 1) := by decide +kernel
theorem zd_L_ackBlocks_7 : decode method_16_code 7 = .ok (.i2l, 1) := by decide +kernel
theorem zd_L_ackBlocks_8 : decode method_16_code 8 = .ok (.lastore, 1) := by decide +kernel
theorem zd_L_ackBlocks_9 : decode method_16_code 9 = .ok (.goto 6, 3) := by decide +kernel
theorem zd_L_ackBlocks_15 : decode method_16_code 15 = .ok (.iconst 0, 1) := by decide +kernel
theorem zd_L_ackBlocks_16 : decode method_16_code 16 = .ok (.ireturn, 1) := by decide +kernel
theorem zd_X_ackBlock_0 : decode prog_1_method_19_code 0 = .ok (.aload_n 0, 1) := by decide +kernel
theorem zd_X_ackBlock_1 : decode prog_1_method_19_code 1 = .ok (.getfield 36, 3) := by decide +kernel
theorem zd_X_ackBlock_4 : decode prog_1_method_19_code 4 = .ok (.iload_n 1, 1) := by decide +kernel
theorem zd_X_ackBlock_5 : decode prog_1_method_19_code 5 = .ok (.invokevirtual 77, 3) := by decide +kernel
theorem zd_X_ackBlock_8 : decode prog_1_method_19_code 8 = .ok (.ifCond .eq 20, 3) := by decide +kernel
theorem zd_X_ackBlock_28 : decode prog_1_method_19_code 28 = .ok (.new 81, 3) := by decide +kernel
theorem zd_X_ackBlock_31 : decode prog_1_method_19_code 31 = .ok (.dup, 1) := by decide +kernel
theorem zd_X_ackBlock_32 : decode prog_1_method_19_code 32 = .ok (.invokespecial 83, 3) := by decide +kernel
theorem zd_X_ackBlock_35 : decode prog_1_method_19_code 35 = .ok (.athrow, 1) := by decide +kernel
theorem zd_X_ackBlock_11 : decode prog_1_method_19_code 11 = .ok (.iload_n 2, 1) := by decide +kernel
theorem zd_X_ackBlock_12 : decode prog_1_method_19_code 12 = .ok (.ifCond .lt 16, 3) := by decide +kernel
theorem zd_X_ackBlock_15 : decode prog_1_method_19_code 15 = .ok (.iload_n 2, 1) := by decide +kernel
theorem zd_X_ackBlock_16 : decode prog_1_method_19_code 16 = .ok (.aload_n 0, 1) := by decide +kernel
theorem zd_X_ackBlock_17 : decode prog_1_method_19_code 17 = .ok (.getfield 36, 3) := by decide +kernel
theorem zd_X_ackBlock_20 : decode prog_1_method_19_code 20 = .ok (.iload_n 1, 1) := by decide +kernel
theorem zd_X_ackBlock_21 : decode prog_1_method_19_code 21 = .ok (.iconst 2, 1) := by decide +kernel
theorem zd_X_ackBlock_22 : decode prog_1_method_19_code 22 = .ok (.invokevirtual 84, 3) := by decide +kernel
theorem zd_X_ackBlock_25 : decode prog_1_method_19_code 25 = .ok (.if_icmp .lt 11, 3) := by decide +kernel
theorem zd_X_ackBlock_36 : decode prog_1_method_19_code 36 = .ok (.aload_n 0, 1) := by decide +kernel
theorem zd_X_ackBlock_37 : decode prog_1_method_19_code 37 = .ok (.getfield 36, 3) := by decide +kernel
theorem zd_X_ackBlock_40 : decode prog_1_method_19_code 40 = .ok (.iload_n 1, 1) := by decide +kernel
theorem zd_X_ackBlock_41 : decode prog_1_method_19_code 41 = .ok (.iconst 3, 1) := by decide +kernel
theorem zd_X_ackBlock_42 : decode prog_1_method_19_code 42 = .ok (.iconst 2, 1) := by decide +kernel
theorem zd_X_ackBlock_43 : decode prog_1_method_19_code 43 = .ok (.iload_n 2, 1) := by decide +kernel
theorem zd_X_ackBlock_44 : decode prog_1_method_19_code 44 = .ok (.imul, 1) := by decide +kernel
theorem zd_X_ackBlock_45 : decode prog_1_method_19_code 45 = .ok (.iadd, 1) := by decide +kernel
theorem zd_X_ackBlock_46 : decode prog_1_method_19_code 46 = .ok (.invokevirtual 84, 3) := by decide +kernel
theorem zd_X_ackBlock_49 : decode prog_1_method_19_code 49 = .ok (.ireturn, 1) := by decide +kernel
theorem zd_L_ackBlock_0 : decode method_17_code 0 = .ok (.aload_n 3, 1) := by decide +kernel
theorem zd_L_ackBlock_1 : decode method_17_code 1 = .ok (.iconst 0, 1) := by decide +kernel
theorem zd_L_ackBlock_2 : decode method_17_code 2 = .ok (.aload_n 0, 1) := by decide +kernel
theorem zd_L_ackBlock_3 : decode method_17_code 3 = .ok (.iload_n 1, 1) := by decide +kernel
theorem zd_L_ackBlock_4 : decode method_17_code 4 = .ok (.iload_n 2, 1) := by decide +kernel
theorem zd_L_ackBlock_5 : decode method_17_code 5 = .ok (.invokevirtual 60, 3) := by decide +kernel
theorem zd_L_ackBlock_13 : decode method_17_code 13 = .ok (.astore 4, 2) := by decide +kernel
theorem zd_L_ackBlock_15 : decode method_17_code 15 = .ok (.iconst 1, 1) := by decide +kernel
theorem zd_L_ackBlock_16 : decode method_17_code 16 = .ok (.ireturn, 1) := by decide +kernel
theorem zd_L_ackBlock_8 : decode method_17_code 8 = .ok (.i2l, 1) := by decide +kernel
theorem zd_L_ackBlock_9 : decode method_17_code 9 = .ok (.lastore, 1) := by decide +kernel
theorem zd_L_ackBlock_10 : decode method_17_code 10 = .ok (.goto 7, 3) := by decide +kernel
theorem zd_L_ackBlock_17 : decode method_17_code 17 = .ok (.iconst 0, 1) := by decide +kernel
theorem zd_L_ackBlock_18 : decode method_17_code 18 = .ok (.ireturn, 1) := by decide +kernel
theorem zd_X_isMarked_0 : decode prog_1_method_27_code 0 = .ok (.iload_n 1, 1) := by decide +kernel
theorem zd_X_isMarked_1 : decode prog_1_method_27_code 1 = .ok (.ifCond .lt 14, 3) := by decide +kernel
theorem zd_X_isMarked_15 : decode prog_1_method_27_code 15 = .ok (.new 81, 3) := by decide +kernel
theorem zd_X_isMarked_18 : decode prog_1_method_27_code 18 = .ok (.dup, 1) := by decide +kernel
theorem zd_X_isMarked_19 : decode prog_1_method_27_code 19 = .ok (.invokespecial 83, 3) := by decide +kernel
theorem zd_X_isMarked_22 : decode prog_1_method_27_code 22 = .ok (.athrow, 1) := by decide +kernel
theorem zd_X_isMarked_4 : decode prog_1_method_27_code 4 = .ok (.iload_n 1, 1) := by decide +kernel
theorem zd_X_isMarked_5 : decode prog_1_method_27_code 5 = .ok (.aload_n 0, 1) := by decide +kernel
theorem zd_X_isMarked_6 : decode prog_1_method_27_code 6 = .ok (.getfield 16, 3) := by decide +kernel
theorem zd_X_isMarked_9 : decode prog_1_method_27_code 9 = .ok (.getfield 42, 3) := by decide +kernel
theorem zd_X_isMarked_12 : decode prog_1_method_27_code 12 = .ok (.if_icmp .lt 11, 3) := by decide +kernel
theorem zd_X_isMarked_23 : decode prog_1_method_27_code 23 = .ok (.aload_n 0, 1) := by decide +kernel
theorem zd_X_isMarked_24 : decode prog_1_method_27_code 24 = .ok (.getfield 16, 3) := by decide +kernel
theorem zd_X_isMarked_27 : decode prog_1_method_27_code 27 = .ok (.getfield 134, 3) := by decide +kernel
theorem zd_X_isMarked_30 : decode prog_1_method_27_code 30 = .ok (.iload_n 1, 1) := by decide +kernel
theorem zd_X_isMarked_31 : decode prog_1_method_27_code 31 = .ok (.invokevirtual 138, 3) := by decide +kernel
theorem zd_X_isMarked_34 : decode prog_1_method_27_code 34 = .ok (.ifCond .eq 7, 3) := by decide +kernel
theorem zd_X_isMarked_41 : decode prog_1_method_27_code 41 = .ok (.iconst 0, 1) := by decide +kernel
theorem zd_X_isMarked_42 : decode prog_1_method_27_code 42 = .ok (.ireturn, 1) := by decide +kernel
theorem zd_X_isMarked_37 : decode prog_1_method_27_code 37 = .ok (.iconst 1, 1) := by decide +kernel
theorem zd_X_isMarked_38 : decode prog_1_method_27_code 38 = .ok (.goto 4, 3) := by decide +kernel
theorem zd_L_isMarked_0 : decode method_18_code 0 = .ok (.aload_n 2, 1) := by decide +kernel
theorem zd_L_isMarked_1 : decode method_18_code 1 = .ok (.iconst 0, 1) := by decide +kernel
theorem zd_L_isMarked_2 : decode method_18_code 2 = .ok (.aload_n 0, 1) := by decide +kernel
theorem zd_L_isMarked_3 : decode method_18_code 3 = .ok (.iload_n 1, 1) := by decide +kernel
theorem zd_L_isMarked_4 : decode method_18_code 4 = .ok (.invokevirtual 63, 3) := by decide +kernel
theorem zd_L_isMarked_19 : decode method_18_code 19 = .ok (.astore_n 3, 1) := by decide +kernel
theorem zd_L_isMarked_20 : decode method_18_code 20 = .ok (.iconst 1, 1) := by decide +kernel
theorem zd_L_isMarked_21 : decode method_18_code 21 = .ok (.ireturn, 1) := by decide +kernel
theorem zd_L_isMarked_7 : decode method_18_code 7 = .ok (.ifCond .eq 7, 3) := by decide +kernel
theorem zd_L_isMarked_14 : decode method_18_code 14 = .ok (.lconst 0, 1) := by decide +kernel
theorem zd_L_isMarked_15 : decode method_18_code 15 = .ok (.lastore, 1) := by decide +kernel
theorem zd_L_isMarked_16 : decode method_18_code 16 = .ok (.goto 6, 3) := by decide +kernel
theorem zd_L_isMarked_22 : decode method_18_code 22 = .ok (.iconst 0, 1) := by decide +kernel
theorem zd_L_isMarked_23 : decode method_18_code 23 = .ok (.ireturn, 1) := by decide +kernel
theorem zd_L_isMarked_10 : decode method_18_code 10 = .ok (.lconst 1, 1) := by decide +kernel
theorem zd_L_isMarked_11 : decode method_18_code 11 = .ok (.goto 4, 3) := by decide +kernel
theorem zd_X_blockStart_0 : decode prog_1_method_43_code 0 = .ok (.iload_n 1, 1) := by decide +kernel
theorem zd_X_blockStart_1 : decode prog_1_method_43_code 1 = .ok (.ifCond .lt 14, 3) := by decide +kernel
theorem zd_X_blockStart_15 : decode prog_1_method_43_code 15 = .ok (.new 81, 3) := by decide +kernel
theorem zd_X_blockStart_18 : decode prog_1_method_43_code 18 = .ok (.dup, 1) := by decide +kernel
theorem zd_X_blockStart_19 : decode prog_1_method_43_code 19 = .ok (.invokespecial 83, 3) := by decide +kernel
theorem zd_X_blockStart_22 : decode prog_1_method_43_code 22 = .ok (.athrow, 1) := by decide +kernel
theorem zd_X_blockStart_4 : decode prog_1_method_43_code 4 = .ok (.iload_n 1, 1) := by decide +kernel
theorem zd_X_blockStart_5 : decode prog_1_method_43_code 5 = .ok (.aload_n 0, 1) := by decide +kernel
theorem zd_X_blockStart_6 : decode prog_1_method_43_code 6 = .ok (.getfield 23, 3) := by decide +kernel
theorem zd_X_blockStart_9 : decode prog_1_method_43_code 9 = .ok (.invokevirtual 179, 3) := by decide +kernel
theorem zd_X_blockStart_12 : decode prog_1_method_43_code 12 = .ok (.if_icmp .lt 11, 3) := by decide +kernel
theorem zd_X_blockStart_23 : decode prog_1_method_43_code 23 = .ok (.aload_n 0, 1) := by decide +kernel
theorem zd_X_blockStart_24 : decode prog_1_method_43_code 24 = .ok (.getfield 23, 3) := by decide +kernel
theorem zd_X_blockStart_27 : decode prog_1_method_43_code 27 = .ok (.iload_n 1, 1) := by decide +kernel
theorem zd_X_blockStart_28 : decode prog_1_method_43_code 28 = .ok (.invokevirtual 182, 3) := by decide +kernel
theorem zd_X_blockStart_31 : decode prog_1_method_43_code 31 = .ok (.ireturn, 1) := by decide +kernel
theorem zd_L_blockStart_0 : decode method_19_code 0 = .ok (.aload_n 2, 1) := by decide +kernel
theorem zd_L_blockStart_1 : decode method_19_code 1 = .ok (.iconst 0, 1) := by decide +kernel
theorem zd_L_blockStart_2 : decode method_19_code 2 = .ok (.aload_n 0, 1) := by decide +kernel
theorem zd_L_blockStart_3 : decode method_19_code 3 = .ok (.iload_n 1, 1) := by decide +kernel
theorem zd_L_blockStart_4 : decode method_19_code 4 = .ok (.invokevirtual 67, 3) := by decide +kernel
theorem zd_L_blockStart_12 : decode method_19_code 12 = .ok (.astore_n 3, 1) := by decide +kernel
theorem zd_L_blockStart_13 : decode method_19_code 13 = .ok (.iconst 1, 1) := by decide +kernel
theorem zd_L_blockStart_14 : decode method_19_code 14 = .ok (.ireturn, 1) := by decide +kernel
theorem zd_L_blockStart_7 : decode method_19_code 7 = .ok (.i2l, 1) := by decide +kernel
theorem zd_L_blockStart_8 : decode method_19_code 8 = .ok (.lastore, 1) := by decide +kernel
theorem zd_L_blockStart_9 : decode method_19_code 9 = .ok (.goto 6, 3) := by decide +kernel
theorem zd_L_blockStart_15 : decode method_19_code 15 = .ok (.iconst 0, 1) := by decide +kernel
theorem zd_L_blockStart_16 : decode method_19_code 16 = .ok (.ireturn, 1) := by decide +kernel
theorem zd_X_blockEnd_0 : decode prog_1_method_44_code 0 = .ok (.iload_n 1, 1) := by decide +kernel
theorem zd_X_blockEnd_1 : decode prog_1_method_44_code 1 = .ok (.ifCond .lt 14, 3) := by decide +kernel
theorem zd_X_blockEnd_15 : decode prog_1_method_44_code 15 = .ok (.new 81, 3) := by decide +kernel
theorem zd_X_blockEnd_18 : decode prog_1_method_44_code 18 = .ok (.dup, 1) := by decide +kernel
theorem zd_X_blockEnd_19 : decode prog_1_method_44_code 19 = .ok (.invokespecial 83, 3) := by decide +kernel
theorem zd_X_blockEnd_22 : decode prog_1_method_44_code 22 = .ok (.athrow, 1) := by decide +kernel
theorem zd_X_blockEnd_4 : decode prog_1_method_44_code 4 = .ok (.iload_n 1, 1) := by decide +kernel
theorem zd_X_blockEnd_5 : decode prog_1_method_44_code 5 = .ok (.aload_n 0, 1) := by decide +kernel
theorem zd_X_blockEnd_6 : decode prog_1_method_44_code 6 = .ok (.getfield 23, 3) := by decide +kernel
theorem zd_X_blockEnd_9 : decode prog_1_method_44_code 9 = .ok (.invokevirtual 179, 3) := by decide +kernel
theorem zd_X_blockEnd_12 : decode prog_1_method_44_code 12 = .ok (.if_icmp .lt 11, 3) := by decide +kernel
theorem zd_X_blockEnd_23 : decode prog_1_method_44_code 23 = .ok (.aload_n 0, 1) := by decide +kernel
theorem zd_X_blockEnd_24 : decode prog_1_method_44_code 24 = .ok (.getfield 23, 3) := by decide +kernel
theorem zd_X_blockEnd_27 : decode prog_1_method_44_code 27 = .ok (.aload_n 0, 1) := by decide +kernel
theorem zd_X_blockEnd_28 : decode prog_1_method_44_code 28 = .ok (.getfield 23, 3) := by decide +kernel
theorem zd_X_blockEnd_31 : decode prog_1_method_44_code 31 = .ok (.iload_n 1, 1) := by decide +kernel
theorem zd_X_blockEnd_32 : decode prog_1_method_44_code 32 = .ok (.invokevirtual 182, 3) := by decide +kernel
theorem zd_X_blockEnd_35 : decode prog_1_method_44_code 35 = .ok (.invokevirtual 185, 3) := by decide +kernel
theorem zd_X_blockEnd_38 : decode prog_1_method_44_code 38 = .ok (.ireturn, 1) := by decide +kernel
theorem zd_L_blockEnd_0 : decode method_20_code 0 = .ok (.aload_n 2, 1) := by decide +kernel
theorem zd_L_blockEnd_1 : decode method_20_code 1 = .ok (.iconst 0, 1) := by decide +kernel
theorem zd_L_blockEnd_2 : decode method_20_code 2 = .ok (.aload_n 0, 1) := by decide +kernel
theorem zd_L_blockEnd_3 : decode method_20_code 3 = .ok (.iload_n 1, 1) := by decide +kernel
theorem zd_L_blockEnd_4 : decode method_20_code 4 = .ok (.invokevirtual 70, 3) := by decide +kernel
theorem zd_L_blockEnd_12 : decode method_20_code 12 = .ok (.astore_n 3, 1) := by decide +kernel
theorem zd_L_blockEnd_13 : decode method_20_code 13 = .ok (.iconst 1, 1) := by decide +kernel
theorem zd_L_blockEnd_14 : decode method_20_code 14 = .ok (.ireturn, 1) := by decide +kernel
theorem zd_L_blockEnd_7 : decode method_20_code 7 = .ok (.i2l, 1) := by decide +kernel
theorem zd_L_blockEnd_8 : decode method_20_code 8 = .ok (.lastore, 1) := by decide +kernel
theorem zd_L_blockEnd_9 : decode method_20_code 9 = .ok (.goto 6, 3) := by decide +kernel
theorem zd_L_blockEnd_15 : decode method_20_code 15 = .ok (.iconst 0, 1) := by decide +kernel
theorem zd_L_blockEnd_16 : decode method_20_code 16 = .ok (.ireturn, 1) := by decide +kernel
set_option maxHeartbeats 4000000 in
set_option maxRecDepth 100000 in
theorem L_X_write_55 {K : zCx} {w : zWd} {l : Launch} (O : zOk K w prog_1_method_2_code "SluiceStream" 5 6 90) (hl0 : kl K = l) (x1 x2 : Int32) : ∀ (m : Nat) (σ : zSt) (x3 : Int32), kl_X_write_55 x1 x2 m σ x3 → (∀ r, r = (l_X_write_55 x1 x2 m σ x3) → Z K w r [(0, .ref (zq w 0)), (2, .int x2)] [] 106) → Z K w σ [(0, .ref (zq w 0)), (1, .int x1), (2, .int x2), (3, .int x3)] [] 55 := by
  intro m
  induction m with
  | zero => intro σ x3 ko; exact ko.elim
  | succ m ih =>
    intro σ x3 ko kk
    have ht : l_X_write_55 x1 x2 (m + 1) σ x3 = l_X_write_55 x1 x2 (m + 1) σ x3 := rfl
    refine z_iload_n O zd_X_write_55 rfl 3 rfl ?_
    refine z_iload_n O zd_X_write_56 rfl 2 rfl ?_
    refine z_icmp_ge O (tgt := 106) zd_X_write_57 (by decide) (fun c6 => ?_) (fun c6 => ?_)
    · have ht := ht.trans (if_pos c6)
      refine z_sub (lv' := [(0, .ref (zq w 0)), (2, .int x2)]) [0, 2] rfl ?_
      exact kk σ ht.symm
    · have ht := ht.trans (if_neg c6)
      have ko := ko c6
      refine z_aload_n O zd_X_write_60 rfl 0 rfl ?_
      refine zg_X_16_0 O zd_X_write_61 (v := .ref (zq w 2)) rfl ?_
      refine zg_X_42_2 O zd_X_write_64 (v := .int (σ 2 5)) rfl ?_
      refine z_iload_n O zd_X_write_67 rfl 3 rfl ?_
      refine z_iadd O zd_X_write_68 ?_
      refine z_istore O (lv' := [(4, .int ((σ 2 5) + x3)), (0, .ref (zq w 0)), (1, .int x1), (2, .int x2), (3, .int x3)]) zd_X_write_69 (Nat.le_of_ble_eq_true rfl) rfl ?_
      refine z_iload O zd_X_write_71 0 rfl ?_
      refine z_if_lt O (tgt := 100) zd_X_write_73 (by decide) (fun c7 => ?_) (fun c7 => ?_)
      · have ht := ht.trans (if_pos c7)
        have ko := ko.1 c7
        refine z_iinc O (v := (x3 + 1)) (lv' := [(3, .int (x3 + 1)), (4, .int ((σ 2 5) + x3)), (0, .ref (zq w 0)), (1, .int x1), (2, .int x2)]) zd_X_write_100 4 rfl rfl (Nat.le_of_ble_eq_true rfl) rfl ?_
        refine z_goto O (tgt := 55) zd_X_write_103 (by decide) ?_
        refine z_sub (lv' := [(0, .ref (zq w 0)), (1, .int x1), (2, .int x2), (3, .int (x3 + 1))]) [2, 3, 4, 0] rfl ?_
        exact ih σ (x3 + 1) ko (fun r e => kk r (e.trans ht.symm))
      · have ht := ht.trans (if_neg c7)
        have ko := ko.2 c7
        refine z_iload O zd_X_write_76 0 rfl ?_
        refine z_aload_n O zd_X_write_78 rfl 1 rfl ?_
        refine zg_X_9_0 O zd_X_write_79 (v := .ref (zq w 1)) rfl ?_
        refine z_alen O 1 (zae1 w σ) (v := 600) rfl zd_X_write_82 ?_
        refine z_icmp_ge O (tgt := 100) zd_X_write_83 (by decide) (fun c8 => ?_) (fun c8 => ?_)
        · have ht := ht.trans (if_pos c8)
          have ko := ko.1 c8
          refine z_iinc O (v := (x3 + 1)) (lv' := [(3, .int (x3 + 1)), (4, .int ((σ 2 5) + x3)), (0, .ref (zq w 0)), (1, .int x1), (2, .int x2)]) zd_X_write_100 4 rfl rfl (Nat.le_of_ble_eq_true rfl) rfl ?_
          refine z_goto O (tgt := 55) zd_X_write_103 (by decide) ?_
          refine z_sub (lv' := [(0, .ref (zq w 0)), (1, .int x1), (2, .int x2), (3, .int (x3 + 1))]) [2, 3, 4, 0] rfl ?_
          exact ih σ (x3 + 1) ko (fun r e => kk r (e.trans ht.symm))
        · have ht := ht.trans (if_neg c8)
          have ko := ko.2 c8
          refine z_aload_n O zd_X_write_86 rfl 1 rfl ?_
          refine zg_X_9_0 O zd_X_write_87 (v := .ref (zq w 1)) rfl ?_
          refine z_iload O zd_X_write_90 0 rfl ?_
          refine z_iload_n O zd_X_write_92 rfl 2 rfl ?_
          refine z_iload_n O zd_X_write_93 rfl 4 rfl ?_
          refine z_iadd O zd_X_write_94 ?_
          refine z_sipush O (v := 256) zd_X_write_95 (by decide) ?_
          refine z_irem O zd_X_write_98 (by decide) ?_
          have b9 := ko.1
          have ko := ko.2
          refine z_iast O 1 (zae1 w σ) b9 (zas1 w σ _ _) zd_X_write_99 ?_
          refine z_iinc O (v := (x3 + 1)) (lv' := [(3, .int (x3 + 1)), (4, .int ((σ 2 5) + x3)), (0, .ref (zq w 0)), (1, .int x1), (2, .int x2)]) zd_X_write_100 4 rfl rfl (Nat.le_of_ble_eq_true rfl) rfl ?_
          refine z_goto O (tgt := 55) zd_X_write_103 (by decide) ?_
          refine z_sub (lv' := [(0, .ref (zq w 0)), (1, .int x1), (2, .int x2), (3, .int (x3 + 1))]) [2, 3, 4, 0] rfl ?_
          exact ih (zuf σ 1 (((σ 2 5) + x3) : Int32).toNatClampNeg ((x1 + x3) - (x1 + x3) / 256 * 256)) (x3 + 1) ko (fun r e => kk r (e.trans ht.symm))
set_option maxHeartbeats 4000000 in
set_option maxRecDepth 100000 in
theorem c_X_write (l : Launch) (hfl : l.stackTraces = false) (w : zWd) (σ : zSt) (a1 : Int32) (a2 : Int32) (ko : k_X_write σ a1 a2) : zMx l ({ cls := "SluiceStream", name := "write", desc := "(II)I" } : Jvm.MethodName) prog_1_method_2_code 5 6 90 .int w [.ref (zq w 0), .int a1, .int a2] σ (fun r u => ((0 : Int32), r, u) = (f_X_write σ a1 a2)) (fun E u => (E = "java/lang/IllegalArgumentException" ∧ ((1 : Int32), (0 : Int32), u) = (f_X_write σ a1 a2)) ∨ (E = "java/lang/IllegalStateException" ∧ ((2 : Int32), (0 : Int32), u) = (f_X_write σ a1 a2))) := by
  refine zMx_of hfl (by decide +kernel) (Nat.le_of_ble_eq_true rfl) (Nat.le_of_ble_eq_true rfl) ?_
  intro K O hl0 E EX
  have ht : (f_X_write σ a1 a2) = (f_X_write σ a1 a2) := rfl
  refine z_sub (lv' := [(0, .ref (zq w 0)), (1, .int a1), (2, .int a2)]) [0, 1, 2] rfl ?_
  refine z_iload_n O zd_X_write_0 rfl 1 rfl ?_
  refine z_if_lt O (tgt := 22) zd_X_write_1 (by decide) (fun c1 => ?_) (fun c1 => ?_)
  · have ht := ht.trans (if_pos c1)
    exact EX _ _ _ _ _ _ _ zt_X_39 (Nat.le_of_ble_eq_true rfl) zd_X_write_22 zd_X_write_25 zd_X_write_26 zd_X_write_29 (Or.inl ⟨rfl, ht.symm⟩)
  · have ht := ht.trans (if_neg c1)
    have ko := ko c1
    refine z_iload_n O zd_X_write_4 rfl 1 rfl ?_
    refine z_sipush O (v := 256) zd_X_write_5 (by decide) ?_
    refine z_icmp_ge O (tgt := 22) zd_X_write_8 (by decide) (fun c2 => ?_) (fun c2 => ?_)
    · have ht := ht.trans (if_pos c2)
      exact EX _ _ _ _ _ _ _ zt_X_39 (Nat.le_of_ble_eq_true rfl) zd_X_write_22 zd_X_write_25 zd_X_write_26 zd_X_write_29 (Or.inl ⟨rfl, ht.symm⟩)
    · have ht := ht.trans (if_neg c2)
      have ko := ko c2
      refine z_iload_n O zd_X_write_11 rfl 2 rfl ?_
      refine z_iconst O (v := 1) zd_X_write_12 (by decide) ?_
      refine z_icmp_lt O (tgt := 22) zd_X_write_13 (by decide) (fun c3 => ?_) (fun c3 => ?_)
      · have ht := ht.trans (if_pos c3)
        exact EX _ _ _ _ _ _ _ zt_X_39 (Nat.le_of_ble_eq_true rfl) zd_X_write_22 zd_X_write_25 zd_X_write_26 zd_X_write_29 (Or.inl ⟨rfl, ht.symm⟩)
      · have ht := ht.trans (if_neg c3)
        have ko := ko c3
        refine z_iload_n O zd_X_write_16 rfl 2 rfl ?_
        refine z_bipush O (v := 100) zd_X_write_17 (by decide) ?_
        refine z_icmp_le O (tgt := 30) zd_X_write_19 (by decide) (fun c4 => ?_) (fun c4 => ?_)
        · have ht := ht.trans (if_pos c4)
          have ko := ko c4
          refine z_aload_n O zd_X_write_30 rfl 0 rfl ?_
          refine zg_X_16_0 O zd_X_write_31 (v := .ref (zq w 2)) rfl ?_
          refine zg_X_42_2 O zd_X_write_34 (v := .int (σ 2 5)) rfl ?_
          refine z_iload_n O zd_X_write_37 rfl 2 rfl ?_
          refine z_iadd O zd_X_write_38 ?_
          refine z_sipush O (v := 600) zd_X_write_39 (by decide) ?_
          refine z_icmp_le O (tgt := 53) zd_X_write_42 (by decide) (fun c5 => ?_) (fun c5 => ?_)
          · have ht := ht.trans (if_pos c5)
            have ko := ko c5
            refine z_iconst O (v := 0) zd_X_write_53 (by decide) ?_
            refine z_istore_n O (lv' := [(3, .int 0), (0, .ref (zq w 0)), (1, .int a1), (2, .int a2)]) zd_X_write_54 rfl (Nat.le_of_ble_eq_true rfl) rfl ?_
            refine z_sub (lv' := [(0, .ref (zq w 0)), (1, .int a1), (2, .int a2), (3, .int 0)]) [1, 2, 3, 0] rfl ?_
            refine L_X_write_55 O hl0 a1 a2 (((a2).toInt - (0 : Int32).toInt).toNat + 2) σ 0 ko (fun r10 er10 => ?_)
            have ht := ht.trans (zlet_e er10)
            refine z_aload_n O zd_X_write_106 rfl 0 rfl ?_
            refine zg_X_16_0 O zd_X_write_107 (v := .ref (zq w 2)) rfl ?_
            refine z_dup O zd_X_write_110 rfl ?_
            refine zg_X_42_2 O zd_X_write_111 (v := .int (r10 2 5)) rfl ?_
            refine z_iload_n O zd_X_write_114 rfl 1 rfl ?_
            refine z_iadd O zd_X_write_115 ?_
            refine zp_X_42_2 O zd_X_write_116 ?_
            refine z_aload_n O zd_X_write_119 rfl 0 rfl ?_
            refine zg_X_16_0 O zd_X_write_120 (v := .ref (zq w 2)) rfl ?_
            refine zg_X_42_2 O zd_X_write_123 (v := .int ((r10 2 5) + a2)) rfl ?_
            exact E _ _ _ _ zd_X_write_126 rfl ht.symm
          · have ht := ht.trans (if_neg c5)
            exact EX _ _ _ _ _ _ _ zt_X_46 (Nat.le_of_ble_eq_true rfl) zd_X_write_45 zd_X_write_48 zd_X_write_49 zd_X_write_52 (Or.inr ⟨rfl, ht.symm⟩)
        · have ht := ht.trans (if_neg c4)
          exact EX _ _ _ _ _ _ _ zt_X_39 (Nat.le_of_ble_eq_true rfl) zd_X_write_22 zd_X_write_25 zd_X_write_26 zd_X_write_29 (Or.inl ⟨rfl, ht.symm⟩)
set_option maxHeartbeats 4000000 in
set_option maxRecDepth 100000 in
theorem c_L_write (l : Launch) (hfl : l.stackTraces = false) (w : zWd) (σ : zSt) (a1 : Int32) (a2 : Int32) (ko : k_X_write σ a1 a2) : zMw l ({ cls := "SluiceStreamLaw", name := "write", desc := "(LSluiceStream;II[J)I" } : Jvm.MethodName) method_3_code 5 [((0 : Nat), (10 : Nat), (13 : Nat), (13 : Nat)), ((0 : Nat), (10 : Nat), (17 : Nat), (15 : Nat))] 7 114 w [.ref (zq w 0), .int a1, .int a2, .ref (zq w 25)] σ (fun r u => (r, u) = f_L_write σ a1 a2) := by
  refine zMw_of (by decide +kernel) (Nat.le_of_ble_eq_true rfl) ?_
  intro K O hl0 htab hroom hX hns hnc E
  refine z_sub (lv' := [(0, .ref (zq w 0)), (1, .int a1), (2, .int a2), (3, .ref (zq w 25))]) [0, 1, 2, 3] rfl ?_
  refine z_aload_n O zd_L_write_0 rfl 3 rfl ?_
  refine z_iconst O (v := 0) zd_L_write_1 (by decide) ?_
  refine z_aload_n O zd_L_write_2 rfl 0 rfl ?_
  refine z_iload_n O zd_L_write_3 rfl 1 rfl ?_
  refine z_iload_n O zd_L_write_4 rfl 2 rfl ?_
  refine z_callxi O hl0 hX (st := [.int 0, .ref (zq w 25)]) 0 5 (fs := zo0 w σ) rfl rfl (c_X_write l hfl w σ a1 a2 ko) zl_L_7 zm379 zm380 rfl rfl (Nat.le_of_ble_eq_true rfl) (Nat.le_of_ble_eq_true rfl) (Nat.le_of_ble_eq_true rfl) hroom.1 hroom.2 zd_L_write_5 ?_ ?_
  · intro Ex u hPX
    rcases hPX with ⟨rfl, e⟩ | ⟨rfl, e⟩
    · refine z_catch (hh := [((0 : Nat), (10 : Nat), (13 : Nat), (13 : Nat)), ((0 : Nat), (10 : Nat), (17 : Nat), (15 : Nat))]) (zOk_up O hroom.1 hroom.2) htab [] ⟨0, 10, 13, 13⟩ [⟨0, 10, 17, 15⟩] rfl (fun z hz => absurd hz List.not_mem_nil) (by decide) (by decide) zm376 (hns _ zcs0) (fun q => ?_)
      refine z_astore (zOk_up O hroom.1 hroom.2) (lv' := [(4, .ref q), (0, .ref (zq w 0)), (1, .int a1), (2, .int a2), (3, .ref (zq w 25))]) zd_L_write_13 (Nat.le_of_ble_eq_true rfl) rfl ?_
      refine z_iconst (zOk_up O hroom.1 hroom.2) (v := 1) zd_L_write_15 (by decide) ?_
      exact E _ _ _ _ zd_L_write_16 rfl (by unfold f_L_write; rw [← e]; exact (zwr1 (by decide)).symm)
    · refine z_catch (hh := [((0 : Nat), (10 : Nat), (13 : Nat), (13 : Nat)), ((0 : Nat), (10 : Nat), (17 : Nat), (15 : Nat))]) (zOk_up O hroom.1 hroom.2) htab [⟨0, 10, 13, 13⟩] ⟨0, 10, 17, 15⟩ [] rfl (fun z hz => by cases List.mem_singleton.mp hz; exact Or.inr ⟨by decide, _, zm376, hnc.1⟩) (by decide) (by decide) zm377 (hns _ zcs1) (fun q => ?_)
      refine z_astore (zOk_up O hroom.1 hroom.2) (lv' := [(4, .ref q), (0, .ref (zq w 0)), (1, .int a1), (2, .int a2), (3, .ref (zq w 25))]) zd_L_write_17 (Nat.le_of_ble_eq_true rfl) rfl ?_
      refine z_iconst (zOk_up O hroom.1 hroom.2) (v := 2) zd_L_write_19 (by decide) ?_
      exact E _ _ _ _ zd_L_write_20 rfl (by unfold f_L_write; rw [← e]; exact (zwr1 (by decide)).symm)
  · intro r u e
    refine z_i2l (zOk_up O hroom.1 hroom.2) zd_L_write_8 ?_
    refine z_last (zOk_up O hroom.1 hroom.2) (x := r) rfl zd_L_write_9 ?_
    refine z_goto (zOk_up O hroom.1 hroom.2) (tgt := 21) zd_L_write_10 (by decide) ?_
    refine z_iconst (zOk_up O hroom.1 hroom.2) (v := 0) zd_L_write_21 (by decide) ?_
    exact E _ _ _ _ zd_L_write_22 rfl (by unfold f_L_write; rw [← e]; exact zwr0.symm)
set_option maxHeartbeats 4000000 in
set_option maxRecDepth 100000 in
theorem c_X_setLimit (l : Launch) (hfl : l.stackTraces = false) (w : zWd) (σ : zSt) (a1 : Int32) : zMx l ({ cls := "SluiceStream", name := "setLimit", desc := "(I)I" } : Jvm.MethodName) prog_1_method_4_code 3 6 90 .int w [.ref (zq w 0), .int a1] σ (fun r u => ((0 : Int32), r, u) = (f_X_setLimit σ a1)) (fun E u => (E = "java/lang/IllegalArgumentException" ∧ ((1 : Int32), (0 : Int32), u) = (f_X_setLimit σ a1))) := by
  refine zMx_of hfl (by decide +kernel) (Nat.le_of_ble_eq_true rfl) (Nat.le_of_ble_eq_true rfl) ?_
  intro K O hl0 E EX
  have ht : (f_X_setLimit σ a1) = (f_X_setLimit σ a1) := rfl
  refine z_sub (lv' := [(0, .ref (zq w 0)), (1, .int a1)]) [0, 1] rfl ?_
  refine z_iload_n O zd_X_setLimit_0 rfl 1 rfl ?_
  refine z_iconst O (v := 4) zd_X_setLimit_1 (by decide) ?_
  refine z_icmp_lt O (tgt := 12) zd_X_setLimit_2 (by decide) (fun c1 => ?_) (fun c1 => ?_)
  · have ht := ht.trans (if_pos c1)
    exact EX _ _ _ _ _ _ _ zt_X_39 (Nat.le_of_ble_eq_true rfl) zd_X_setLimit_12 zd_X_setLimit_15 zd_X_setLimit_16 zd_X_setLimit_19 ⟨rfl, ht.symm⟩
  · have ht := ht.trans (if_neg c1)
    refine z_iload_n O zd_X_setLimit_5 rfl 1 rfl ?_
    refine z_sipush O (v := 256) zd_X_setLimit_6 (by decide) ?_
    refine z_icmp_le O (tgt := 20) zd_X_setLimit_9 (by decide) (fun c2 => ?_) (fun c2 => ?_)
    · have ht := ht.trans (if_pos c2)
      refine z_aload_n O zd_X_setLimit_20 rfl 0 rfl ?_
      refine zg_X_16_0 O zd_X_setLimit_21 (v := .ref (zq w 2)) rfl ?_
      refine zg_X_63_2 O zd_X_setLimit_24 (v := .int (σ 2 9)) rfl ?_
      refine z_istore_n O (lv' := [(2, .int (σ 2 9)), (0, .ref (zq w 0)), (1, .int a1)]) zd_X_setLimit_27 rfl (Nat.le_of_ble_eq_true rfl) rfl ?_
      refine z_aload_n O zd_X_setLimit_28 rfl 1 rfl ?_
      refine zg_X_16_0 O zd_X_setLimit_29 (v := .ref (zq w 2)) rfl ?_
      refine z_iload_n O zd_X_setLimit_32 rfl 2 rfl ?_
      refine zp_X_63_2 O zd_X_setLimit_33 ?_
      refine z_iload_n O zd_X_setLimit_36 rfl 0 rfl ?_
      exact E _ _ _ _ zd_X_setLimit_37 rfl ht.symm
    · have ht := ht.trans (if_neg c2)
      exact EX _ _ _ _ _ _ _ zt_X_39 (Nat.le_of_ble_eq_true rfl) zd_X_setLimit_12 zd_X_setLimit_15 zd_X_setLimit_16 zd_X_setLimit_19 ⟨rfl, ht.symm⟩
set_option maxHeartbeats 4000000 in
set_option maxRecDepth 100000 in
theorem c_L_setLimit (l : Launch) (hfl : l.stackTraces = false) (w : zWd) (σ : zSt) (a1 : Int32) : zMw l ({ cls := "SluiceStreamLaw", name := "setLimit", desc := "(LSluiceStream;I[J)I" } : Jvm.MethodName) method_4_code 4 [((0 : Nat), (9 : Nat), (12 : Nat), (13 : Nat))] 7 112 w [.ref (zq w 0), .int a1, .ref (zq w 25)] σ (fun r u => (r, u) = f_L_setLimit σ a1) := by
  refine zMw_of (by decide +kernel) (Nat.le_of_ble_eq_true rfl) ?_
  intro K O hl0 htab hroom hX hns hnc E
  refine z_sub (lv' := [(0, .ref (zq w 0)), (1, .int a1), (2, .ref (zq w 25))]) [0, 1, 2] rfl ?_
  refine z_aload_n O zd_L_setLimit_0 rfl 2 rfl ?_
  refine z_iconst O (v := 0) zd_L_setLimit_1 (by decide) ?_
  refine z_aload_n O zd_L_setLimit_2 rfl 0 rfl ?_
  refine z_iload_n O zd_L_setLimit_3 rfl 1 rfl ?_
  refine z_callxi O hl0 hX (st := [.int 0, .ref (zq w 25)]) 0 5 (fs := zo0 w σ) rfl rfl (c_X_setLimit l hfl w σ a1) zl_L_17 zm464 zm465 rfl rfl (Nat.le_of_ble_eq_true rfl) (Nat.le_of_ble_eq_true rfl) (Nat.le_of_ble_eq_true rfl) hroom.1 hroom.2 zd_L_setLimit_4 ?_ ?_
  · intro Ex u hPX
    obtain ⟨rfl, e⟩ := hPX
    refine z_catch (hh := [((0 : Nat), (9 : Nat), (12 : Nat), (13 : Nat))]) (zOk_up O hroom.1 hroom.2) htab [] ⟨0, 9, 12, 13⟩ [] rfl (fun z hz => absurd hz List.not_mem_nil) (by decide) (by decide) zm376 (hns _ zcs0) (fun q => ?_)
    refine z_astore_n (zOk_up O hroom.1 hroom.2) (lv' := [(3, .ref q), (0, .ref (zq w 0)), (1, .int a1), (2, .ref (zq w 25))]) zd_L_setLimit_12 rfl (Nat.le_of_ble_eq_true rfl) rfl ?_
    refine z_iconst (zOk_up O hroom.1 hroom.2) (v := 1) zd_L_setLimit_13 (by decide) ?_
    exact E _ _ _ _ zd_L_setLimit_14 rfl (by unfold f_L_setLimit; rw [← e]; exact (zwr1 (by decide)).symm)
  · intro r u e
    refine z_i2l (zOk_up O hroom.1 hroom.2) zd_L_setLimit_7 ?_
    refine z_last (zOk_up O hroom.1 hroom.2) (x := r) rfl zd_L_setLimit_8 ?_
    refine z_goto (zOk_up O hroom.1 hroom.2) (tgt := 15) zd_L_setLimit_9 (by decide) ?_
    refine z_iconst (zOk_up O hroom.1 hroom.2) (v := 0) zd_L_setLimit_15 (by decide) ?_
    exact E _ _ _ _ zd_L_setLimit_16 rfl (by unfold f_L_setLimit; rw [← e]; exact zwr0.symm)
set_option maxHeartbeats 4000000 in
set_option maxRecDepth 100000 in
theorem c_X_send (l : Launch) (hfl : l.stackTraces = false) (w : zWd) (σ : zSt) (ko : k_X_send σ) : zMx l ({ cls := "SluiceStream", name := "send", desc := "()I" } : Jvm.MethodName) prog_1_method_5_code 1 6 113 .int w [.ref (zq w 0)] σ (fun r u => ((0 : Int32), r, u) = (f_X_send σ)) (fun E u => (E = "java/lang/IllegalStateException" ∧ ((1 : Int32), (0 : Int32), u) = (f_X_send σ))) := by
  refine zMx_of hfl (by decide +kernel) (Nat.le_of_ble_eq_true rfl) (Nat.le_of_ble_eq_true rfl) ?_
  intro K O hl0 E EX
  have ht : (f_X_send σ) = (f_X_send σ) := rfl
  refine z_sub (lv' := [(0, .ref (zq w 0))]) [0] rfl ?_
  refine z_aload_n O zd_X_send_0 rfl 0 rfl ?_
  refine zg_X_32_0 O zd_X_send_1 (v := .ref (zq w 9)) rfl ?_
  refine z_callri O hl0 (st := []) 9 2 (fs := zo9 w σ) rfl rfl (c_W_isFull_9 l w σ) zl_X_66 zm210 zm211 rfl rfl (Nat.le_of_ble_eq_true rfl) (Nat.le_of_ble_eq_true rfl) (Nat.le_of_ble_eq_true rfl) zd_X_send_4 (fun r1 e2 => ?_)
  have ht := ht.trans (zlet_e e2)
  have ko := ko r1 e2
  refine z_if_eq O (tgt := 18) zd_X_send_7 (by decide) (fun c3 => ?_) (fun c3 => ?_)
  · have ht := ht.trans (if_pos c3)
    have ko := ko c3
    refine z_aload_n O zd_X_send_18 rfl 0 rfl ?_
    refine zg_X_16_0 O zd_X_send_19 (v := .ref (zq w 2)) rfl ?_
    refine z_aload_n O zd_X_send_22 rfl 0 rfl ?_
    refine zg_X_32_0 O zd_X_send_23 (v := .ref (zq w 9)) rfl ?_
    refine z_calli O hl0 (st := []) 2 3 (fs := zo2 w σ) rfl rfl (c_S_sendInto l w σ ko) zl_X_69 zm476 zm477 rfl rfl (Nat.le_of_ble_eq_true rfl) (Nat.le_of_ble_eq_true rfl) (Nat.le_of_ble_eq_true rfl) zd_X_send_26 (fun r4 u5 e6 => ?_)
    have ht := ht.trans (zseq_e e6)
    exact E _ _ _ _ zd_X_send_29 rfl ht.symm
  · have ht := ht.trans (if_neg c3)
    exact EX _ _ _ _ _ _ _ zt_X_46 (Nat.le_of_ble_eq_true rfl) zd_X_send_10 zd_X_send_13 zd_X_send_14 zd_X_send_17 ⟨rfl, ht.symm⟩
set_option maxHeartbeats 4000000 in
set_option maxRecDepth 100000 in
theorem c_L_send (l : Launch) (hfl : l.stackTraces = false) (w : zWd) (σ : zSt) (ko : k_X_send σ) : zMw l ({ cls := "SluiceStreamLaw", name := "send", desc := "(LSluiceStream;[J)I" } : Jvm.MethodName) method_5_code 3 [((0 : Nat), (8 : Nat), (11 : Nat), (15 : Nat))] 7 133 w [.ref (zq w 0), .ref (zq w 25)] σ (fun r u => (r, u) = f_L_send σ) := by
  refine zMw_of (by decide +kernel) (Nat.le_of_ble_eq_true rfl) ?_
  intro K O hl0 htab hroom hX hns hnc E
  refine z_sub (lv' := [(0, .ref (zq w 0)), (1, .ref (zq w 25))]) [0, 1] rfl ?_
  refine z_aload_n O zd_L_send_0 rfl 1 rfl ?_
  refine z_iconst O (v := 0) zd_L_send_1 (by decide) ?_
  refine z_aload_n O zd_L_send_2 rfl 0 rfl ?_
  refine z_callxi O hl0 hX (st := [.int 0, .ref (zq w 25)]) 0 5 (fs := zo0 w σ) rfl rfl (c_X_send l hfl w σ ko) zl_L_21 zm471 zm472 rfl rfl (Nat.le_of_ble_eq_true rfl) (Nat.le_of_ble_eq_true rfl) (Nat.le_of_ble_eq_true rfl) hroom.1 hroom.2 zd_L_send_3 ?_ ?_
  · intro Ex u hPX
    obtain ⟨rfl, e⟩ := hPX
    refine z_catch (hh := [((0 : Nat), (8 : Nat), (11 : Nat), (15 : Nat))]) (zOk_up O hroom.1 hroom.2) htab [] ⟨0, 8, 11, 15⟩ [] rfl (fun z hz => absurd hz List.not_mem_nil) (by decide) (by decide) zm377 (hns _ zcs1) (fun q => ?_)
    refine z_astore_n (zOk_up O hroom.1 hroom.2) (lv' := [(2, .ref q), (0, .ref (zq w 0)), (1, .ref (zq w 25))]) zd_L_send_11 rfl (Nat.le_of_ble_eq_true rfl) rfl ?_
    refine z_iconst (zOk_up O hroom.1 hroom.2) (v := 1) zd_L_send_12 (by decide) ?_
    exact E _ _ _ _ zd_L_send_13 rfl (by unfold f_L_send; rw [← e]; exact (zwr1 (by decide)).symm)
  · intro r u e
    refine z_i2l (zOk_up O hroom.1 hroom.2) zd_L_send_6 ?_
    refine z_last (zOk_up O hroom.1 hroom.2) (x := r) rfl zd_L_send_7 ?_
    refine z_goto (zOk_up O hroom.1 hroom.2) (tgt := 14) zd_L_send_8 (by decide) ?_
    refine z_iconst (zOk_up O hroom.1 hroom.2) (v := 0) zd_L_send_14 (by decide) ?_
    exact E _ _ _ _ zd_L_send_15 rfl (by unfold f_L_send; rw [← e]; exact zwr0.symm)
set_option maxHeartbeats 4000000 in
set_option maxRecDepth 100000 in
theorem c_X_tick (l : Launch) (hfl : l.stackTraces = false) (w : zWd) (σ : zSt) (a1 : Int32) (ko : k_X_tick σ a1) : zMx l ({ cls := "SluiceStream", name := "tick", desc := "(I)I" } : Jvm.MethodName) prog_1_method_6_code 2 6 128 .int w [.ref (zq w 0), .int a1] σ (fun r u => ((0 : Int32), r, u) = (f_X_tick σ a1)) (fun E u => (E = "java/lang/IllegalArgumentException" ∧ ((1 : Int32), (0 : Int32), u) = (f_X_tick σ a1))) := by
  refine zMx_of hfl (by decide +kernel) (Nat.le_of_ble_eq_true rfl) (Nat.le_of_ble_eq_true rfl) ?_
  intro K O hl0 E EX
  have ht : (f_X_tick σ a1) = (f_X_tick σ a1) := rfl
  refine z_sub (lv' := [(0, .ref (zq w 0)), (1, .int a1)]) [0, 1] rfl ?_
  refine z_iload_n O zd_X_tick_0 rfl 1 rfl ?_
  refine z_iconst O (v := 1) zd_X_tick_1 (by decide) ?_
  refine z_icmp_lt O (tgt := 11) zd_X_tick_2 (by decide) (fun c1 => ?_) (fun c1 => ?_)
  · have ht := ht.trans (if_pos c1)
    exact EX _ _ _ _ _ _ _ zt_X_39 (Nat.le_of_ble_eq_true rfl) zd_X_tick_11 zd_X_tick_14 zd_X_tick_15 zd_X_tick_18 ⟨rfl, ht.symm⟩
  · have ht := ht.trans (if_neg c1)
    have ko := ko c1
    refine z_iload_n O zd_X_tick_5 rfl 1 rfl ?_
    refine z_bipush O (v := 100) zd_X_tick_6 (by decide) ?_
    refine z_icmp_le O (tgt := 19) zd_X_tick_8 (by decide) (fun c2 => ?_) (fun c2 => ?_)
    · have ht := ht.trans (if_pos c2)
      have ko := ko c2
      refine z_aload_n O zd_X_tick_19 rfl 0 rfl ?_
      refine zg_X_16_0 O zd_X_tick_20 (v := .ref (zq w 2)) rfl ?_
      refine z_iload_n O zd_X_tick_23 rfl 1 rfl ?_
      refine z_calli O hl0 (st := []) 2 3 (fs := zo2 w σ) rfl rfl (c_S_passTicks l w σ a1 ko) zl_X_73 zm524 zm525 rfl rfl (Nat.le_of_ble_eq_true rfl) (Nat.le_of_ble_eq_true rfl) (Nat.le_of_ble_eq_true rfl) zd_X_tick_24 (fun r3 u4 e5 => ?_)
      have ht := ht.trans (zseq_e e5)
      exact E _ _ _ _ zd_X_tick_27 rfl ht.symm
    · have ht := ht.trans (if_neg c2)
      exact EX _ _ _ _ _ _ _ zt_X_39 (Nat.le_of_ble_eq_true rfl) zd_X_tick_11 zd_X_tick_14 zd_X_tick_15 zd_X_tick_18 ⟨rfl, ht.symm⟩
set_option maxHeartbeats 4000000 in
set_option maxRecDepth 100000 in
theorem c_L_tick (l : Launch) (hfl : l.stackTraces = false) (w : zWd) (σ : zSt) (a1 : Int32) (ko : k_X_tick σ a1) : zMw l ({ cls := "SluiceStreamLaw", name := "tick", desc := "(LSluiceStream;I[J)I" } : Jvm.MethodName) method_6_code 4 [((0 : Nat), (9 : Nat), (12 : Nat), (13 : Nat))] 7 149 w [.ref (zq w 0), .int a1, .ref (zq w 25)] σ (fun r u => (r, u) = f_L_tick σ a1) := by
  refine zMw_of (by decide +kernel) (Nat.le_of_ble_eq_true rfl) ?_
  intro K O hl0 htab hroom hX hns hnc E
  refine z_sub (lv' := [(0, .ref (zq w 0)), (1, .int a1), (2, .ref (zq w 25))]) [0, 1, 2] rfl ?_
  refine z_aload_n O zd_L_tick_0 rfl 2 rfl ?_
  refine z_iconst O (v := 0) zd_L_tick_1 (by decide) ?_
  refine z_aload_n O zd_L_tick_2 rfl 0 rfl ?_
  refine z_iload_n O zd_L_tick_3 rfl 1 rfl ?_
  refine z_callxi O hl0 hX (st := [.int 0, .ref (zq w 25)]) 0 5 (fs := zo0 w σ) rfl rfl (c_X_tick l hfl w σ a1 ko) zl_L_25 zm520 zm521 rfl rfl (Nat.le_of_ble_eq_true rfl) (Nat.le_of_ble_eq_true rfl) (Nat.le_of_ble_eq_true rfl) hroom.1 hroom.2 zd_L_tick_4 ?_ ?_
  · intro Ex u hPX
    obtain ⟨rfl, e⟩ := hPX
    refine z_catch (hh := [((0 : Nat), (9 : Nat), (12 : Nat), (13 : Nat))]) (zOk_up O hroom.1 hroom.2) htab [] ⟨0, 9, 12, 13⟩ [] rfl (fun z hz => absurd hz List.not_mem_nil) (by decide) (by decide) zm376 (hns _ zcs0) (fun q => ?_)
    refine z_astore_n (zOk_up O hroom.1 hroom.2) (lv' := [(3, .ref q), (0, .ref (zq w 0)), (1, .int a1), (2, .ref (zq w 25))]) zd_L_tick_12 rfl (Nat.le_of_ble_eq_true rfl) rfl ?_
    refine z_iconst (zOk_up O hroom.1 hroom.2) (v := 1) zd_L_tick_13 (by decide) ?_
    exact E _ _ _ _ zd_L_tick_14 rfl (by unfold f_L_tick; rw [← e]; exact (zwr1 (by decide)).symm)
  · intro r u e
    refine z_i2l (zOk_up O hroom.1 hroom.2) zd_L_tick_7 ?_
    refine z_last (zOk_up O hroom.1 hroom.2) (x := r) rfl zd_L_tick_8 ?_
    refine z_goto (zOk_up O hroom.1 hroom.2) (tgt := 15) zd_L_tick_9 (by decide) ?_
    refine z_iconst (zOk_up O hroom.1 hroom.2) (v := 0) zd_L_tick_15 (by decide) ?_
    exact E _ _ _ _ zd_L_tick_16 rfl (by unfold f_L_tick; rw [← e]; exact zwr0.symm)
set_option maxHeartbeats 4000000 in
set_option maxRecDepth 100000 in
theorem c_X_deliver (l : Launch) (hfl : l.stackTraces = false) (w : zWd) (σ : zSt) (a1 : Int32) (ko : k_X_deliver σ a1) : zMx l ({ cls := "SluiceStream", name := "deliver", desc := "(I)I" } : Jvm.MethodName) prog_1_method_7_code 3 6 143 .int w [.ref (zq w 0), .int a1] σ (fun r u => ((0 : Int32), r, u) = (f_X_deliver σ a1)) (fun E u => (E = "java/lang/IndexOutOfBoundsException" ∧ ((1 : Int32), (0 : Int32), u) = (f_X_deliver σ a1))) := by
  refine zMx_of hfl (by decide +kernel) (Nat.le_of_ble_eq_true rfl) (Nat.le_of_ble_eq_true rfl) ?_
  intro K O hl0 E EX
  have ht : (f_X_deliver σ a1) = (f_X_deliver σ a1) := rfl
  refine z_sub (lv' := [(0, .ref (zq w 0)), (1, .int a1)]) [0, 1] rfl ?_
  refine z_aload_n O zd_X_deliver_0 rfl 0 rfl ?_
  refine zg_X_32_0 O zd_X_deliver_1 (v := .ref (zq w 9)) rfl ?_
  refine z_iload_n O zd_X_deliver_4 rfl 1 rfl ?_
  refine z_callri O hl0 (st := []) 9 2 (fs := zo9 w σ) rfl rfl (c_W_holds_9 l w σ a1) zl_X_77 zm218 zm219 rfl rfl (Nat.le_of_ble_eq_true rfl) (Nat.le_of_ble_eq_true rfl) (Nat.le_of_ble_eq_true rfl) zd_X_deliver_5 (fun r1 e2 => ?_)
  have ht := ht.trans (zlet_e e2)
  have ko := ko r1 e2
  refine z_if_ne O (tgt := 19) zd_X_deliver_8 (by decide) (fun c3 => ?_) (fun c3 => ?_)
  · have ht := ht.trans (if_neg c3)
    have ko := ko c3
    refine z_aload_n O zd_X_deliver_19 rfl 0 rfl ?_
    refine zg_X_23_0 O zd_X_deliver_20 (v := .ref (zq w 6)) rfl ?_
    refine z_aload_n O zd_X_deliver_23 rfl 0 rfl ?_
    refine zg_X_32_0 O zd_X_deliver_24 (v := .ref (zq w 9)) rfl ?_
    refine z_iload_n O zd_X_deliver_27 rfl 1 rfl ?_
    refine z_iconst O (v := 0) zd_X_deliver_28 (by decide) ?_
    refine z_callri O hl0 (st := [.ref (zq w 6)]) 9 2 (fs := zo9 w σ) rfl rfl (c_W_cell_9 l w σ a1 0 ko.1) zl_X_84 zm581 zm582 rfl rfl (Nat.le_of_ble_eq_true rfl) (Nat.le_of_ble_eq_true rfl) (Nat.le_of_ble_eq_true rfl) zd_X_deliver_29 (fun r4 e5 => ?_)
    have ht := ht.trans (zlet_e e5)
    have ko := ko.2 r4 e5
    refine z_aload_n O zd_X_deliver_32 rfl 0 rfl ?_
    refine zg_X_32_0 O zd_X_deliver_33 (v := .ref (zq w 9)) rfl ?_
    refine z_iload_n O zd_X_deliver_36 rfl 1 rfl ?_
    refine z_iconst O (v := 1) zd_X_deliver_37 (by decide) ?_
    refine z_callri O hl0 (st := [.int r4, .ref (zq w 6)]) 9 2 (fs := zo9 w σ) rfl rfl (c_W_cell_9 l w σ a1 1 ko.1) zl_X_84 zm581 zm582 rfl rfl (Nat.le_of_ble_eq_true rfl) (Nat.le_of_ble_eq_true rfl) (Nat.le_of_ble_eq_true rfl) zd_X_deliver_38 (fun r6 e7 => ?_)
    have ht := ht.trans (zlet_e e7)
    have ko := ko.2 r6 e7
    refine z_calli O hl0 (st := []) 6 1 (fs := zo6 w σ) rfl rfl (c_R_takeBytes l w σ r4 r6 ko.1) zl_X_88 zm585 zm586 rfl rfl (Nat.le_of_ble_eq_true rfl) (Nat.le_of_ble_eq_true rfl) (Nat.le_of_ble_eq_true rfl) zd_X_deliver_41 (fun r8 u9 e10 => ?_)
    have ht := ht.trans (zseq_e e10)
    have ko := ko.2 r8 u9 e10
    refine z_istore_n O (lv' := [(2, .int r8), (0, .ref (zq w 0)), (1, .int a1)]) zd_X_deliver_44 rfl (Nat.le_of_ble_eq_true rfl) rfl ?_
    refine z_aload_n O zd_X_deliver_45 rfl 1 rfl ?_
    refine zg_X_32_0 O zd_X_deliver_46 (v := .ref (zq w 9)) rfl ?_
    refine z_iload_n O zd_X_deliver_49 rfl 2 rfl ?_
    refine z_callv O hl0 (st := []) 9 2 (fs := zo9 w u9) rfl rfl (c_W_remove_9 l w u9 a1 ko.1) zl_X_91 zm214 zm215 rfl rfl (Nat.le_of_ble_eq_true rfl) (Nat.le_of_ble_eq_true rfl) (Nat.le_of_ble_eq_true rfl) zd_X_deliver_50 (fun u11 e12 => ?_)
    have ht := ht.trans (zlet_e e12)
    have ko := ko.2 u11 e12
    refine z_aload_n O zd_X_deliver_53 rfl 1 rfl ?_
    refine zg_X_23_0 O zd_X_deliver_54 (v := .ref (zq w 6)) rfl ?_
    refine z_aload_n O zd_X_deliver_57 rfl 1 rfl ?_
    refine zg_X_36_0 O zd_X_deliver_58 (v := .ref (zq w 11)) rfl ?_
    refine z_callv O hl0 (st := []) 6 1 (fs := zo6 w u11) rfl rfl (c_R_makeAck l w u11 ko) zl_X_59 zm206 zm207 rfl rfl (Nat.le_of_ble_eq_true rfl) (Nat.le_of_ble_eq_true rfl) (Nat.le_of_ble_eq_true rfl) zd_X_deliver_61 (fun u13 e14 => ?_)
    have ht := ht.trans (zlet_e e14)
    refine z_iload_n O zd_X_deliver_64 rfl 0 rfl ?_
    exact E _ _ _ _ zd_X_deliver_65 rfl ht.symm
  · have ht := ht.trans (if_pos c3)
    exact EX _ _ _ _ _ _ _ zt_X_81 (Nat.le_of_ble_eq_true rfl) zd_X_deliver_11 zd_X_deliver_14 zd_X_deliver_15 zd_X_deliver_18 ⟨rfl, ht.symm⟩
set_option maxHeartbeats 4000000 in
set_option maxRecDepth 100000 in
theorem c_L_deliver (l : Launch) (hfl : l.stackTraces = false) (w : zWd) (σ : zSt) (a1 : Int32) (ko : k_X_deliver σ a1) : zMw l ({ cls := "SluiceStreamLaw", name := "deliver", desc := "(LSluiceStream;I[J)I" } : Jvm.MethodName) method_7_code 4 [((0 : Nat), (9 : Nat), (12 : Nat), (31 : Nat))] 7 165 w [.ref (zq w 0), .int a1, .ref (zq w 25)] σ (fun r u => (r, u) = f_L_deliver σ a1) := by
  refine zMw_of (by decide +kernel) (Nat.le_of_ble_eq_true rfl) ?_
  intro K O hl0 htab hroom hX hns hnc E
  refine z_sub (lv' := [(0, .ref (zq w 0)), (1, .int a1), (2, .ref (zq w 25))]) [0, 1, 2] rfl ?_
  refine z_aload_n O zd_L_deliver_0 rfl 2 rfl ?_
  refine z_iconst O (v := 0) zd_L_deliver_1 (by decide) ?_
  refine z_aload_n O zd_L_deliver_2 rfl 0 rfl ?_
  refine z_iload_n O zd_L_deliver_3 rfl 1 rfl ?_
  refine z_callxi O hl0 hX (st := [.int 0, .ref (zq w 25)]) 0 5 (fs := zo0 w σ) rfl rfl (c_X_deliver l hfl w σ a1 ko) zl_L_28 zm561 zm562 rfl rfl (Nat.le_of_ble_eq_true rfl) (Nat.le_of_ble_eq_true rfl) (Nat.le_of_ble_eq_true rfl) hroom.1 hroom.2 zd_L_deliver_4 ?_ ?_
  · intro Ex u hPX
    obtain ⟨rfl, e⟩ := hPX
    refine z_catch (hh := [((0 : Nat), (9 : Nat), (12 : Nat), (31 : Nat))]) (zOk_up O hroom.1 hroom.2) htab [] ⟨0, 9, 12, 31⟩ [] rfl (fun z hz => absurd hz List.not_mem_nil) (by decide) (by decide) zm559 (hns _ zcs2) (fun q => ?_)
    refine z_astore_n (zOk_up O hroom.1 hroom.2) (lv' := [(3, .ref q), (0, .ref (zq w 0)), (1, .int a1), (2, .ref (zq w 25))]) zd_L_deliver_12 rfl (Nat.le_of_ble_eq_true rfl) rfl ?_
    refine z_iconst (zOk_up O hroom.1 hroom.2) (v := 1) zd_L_deliver_13 (by decide) ?_
    exact E _ _ _ _ zd_L_deliver_14 rfl (by unfold f_L_deliver; rw [← e]; exact (zwr1 (by decide)).symm)
  · intro r u e
    refine z_i2l (zOk_up O hroom.1 hroom.2) zd_L_deliver_7 ?_
    refine z_last (zOk_up O hroom.1 hroom.2) (x := r) rfl zd_L_deliver_8 ?_
    refine z_goto (zOk_up O hroom.1 hroom.2) (tgt := 15) zd_L_deliver_9 (by decide) ?_
    refine z_iconst (zOk_up O hroom.1 hroom.2) (v := 0) zd_L_deliver_15 (by decide) ?_
    exact E _ _ _ _ zd_L_deliver_16 rfl (by unfold f_L_deliver; rw [← e]; exact zwr0.symm)
set_option maxHeartbeats 4000000 in
set_option maxRecDepth 100000 in
theorem c_X_lose (l : Launch) (hfl : l.stackTraces = false) (w : zWd) (σ : zSt) (a1 : Int32) (ko : k_X_lose σ a1) : zMx l ({ cls := "SluiceStream", name := "lose", desc := "(I)I" } : Jvm.MethodName) prog_1_method_8_code 3 6 90 .int w [.ref (zq w 0), .int a1] σ (fun r u => ((0 : Int32), r, u) = (f_X_lose σ a1)) (fun E u => (E = "java/lang/IndexOutOfBoundsException" ∧ ((1 : Int32), (0 : Int32), u) = (f_X_lose σ a1))) := by
  refine zMx_of hfl (by decide +kernel) (Nat.le_of_ble_eq_true rfl) (Nat.le_of_ble_eq_true rfl) ?_
  intro K O hl0 E EX
  have ht : (f_X_lose σ a1) = (f_X_lose σ a1) := rfl
  refine z_sub (lv' := [(0, .ref (zq w 0)), (1, .int a1)]) [0, 1] rfl ?_
  refine z_aload_n O zd_X_lose_0 rfl 0 rfl ?_
  refine zg_X_32_0 O zd_X_lose_1 (v := .ref (zq w 9)) rfl ?_
  refine z_iload_n O zd_X_lose_4 rfl 1 rfl ?_
  refine z_callri O hl0 (st := []) 9 2 (fs := zo9 w σ) rfl rfl (c_W_holds_9 l w σ a1) zl_X_77 zm218 zm219 rfl rfl (Nat.le_of_ble_eq_true rfl) (Nat.le_of_ble_eq_true rfl) (Nat.le_of_ble_eq_true rfl) zd_X_lose_5 (fun r1 e2 => ?_)
  have ht := ht.trans (zlet_e e2)
  have ko := ko r1 e2
  refine z_if_ne O (tgt := 19) zd_X_lose_8 (by decide) (fun c3 => ?_) (fun c3 => ?_)
  · have ht := ht.trans (if_neg c3)
    have ko := ko c3
    refine z_aload_n O zd_X_lose_19 rfl 0 rfl ?_
    refine zg_X_32_0 O zd_X_lose_20 (v := .ref (zq w 9)) rfl ?_
    refine z_iload_n O zd_X_lose_23 rfl 1 rfl ?_
    refine z_iconst O (v := 0) zd_X_lose_24 (by decide) ?_
    refine z_callri O hl0 (st := []) 9 2 (fs := zo9 w σ) rfl rfl (c_W_cell_9 l w σ a1 0 ko.1) zl_X_84 zm581 zm582 rfl rfl (Nat.le_of_ble_eq_true rfl) (Nat.le_of_ble_eq_true rfl) (Nat.le_of_ble_eq_true rfl) zd_X_lose_25 (fun r4 e5 => ?_)
    have ht := ht.trans (zlet_e e5)
    have ko := ko.2 r4 e5
    refine z_istore_n O (lv' := [(2, .int r4), (0, .ref (zq w 0)), (1, .int a1)]) zd_X_lose_28 rfl (Nat.le_of_ble_eq_true rfl) rfl ?_
    refine z_aload_n O zd_X_lose_29 rfl 1 rfl ?_
    refine zg_X_32_0 O zd_X_lose_30 (v := .ref (zq w 9)) rfl ?_
    refine z_iload_n O zd_X_lose_33 rfl 2 rfl ?_
    refine z_callv O hl0 (st := []) 9 2 (fs := zo9 w σ) rfl rfl (c_W_remove_9 l w σ a1 ko) zl_X_91 zm214 zm215 rfl rfl (Nat.le_of_ble_eq_true rfl) (Nat.le_of_ble_eq_true rfl) (Nat.le_of_ble_eq_true rfl) zd_X_lose_34 (fun u6 e7 => ?_)
    have ht := ht.trans (zlet_e e7)
    refine z_iload_n O zd_X_lose_37 rfl 0 rfl ?_
    exact E _ _ _ _ zd_X_lose_38 rfl ht.symm
  · have ht := ht.trans (if_pos c3)
    exact EX _ _ _ _ _ _ _ zt_X_81 (Nat.le_of_ble_eq_true rfl) zd_X_lose_11 zd_X_lose_14 zd_X_lose_15 zd_X_lose_18 ⟨rfl, ht.symm⟩
set_option maxHeartbeats 4000000 in
set_option maxRecDepth 100000 in
theorem c_L_lose (l : Launch) (hfl : l.stackTraces = false) (w : zWd) (σ : zSt) (a1 : Int32) (ko : k_X_lose σ a1) : zMw l ({ cls := "SluiceStreamLaw", name := "lose", desc := "(LSluiceStream;I[J)I" } : Jvm.MethodName) method_8_code 4 [((0 : Nat), (9 : Nat), (12 : Nat), (31 : Nat))] 7 112 w [.ref (zq w 0), .int a1, .ref (zq w 25)] σ (fun r u => (r, u) = f_L_lose σ a1) := by
  refine zMw_of (by decide +kernel) (Nat.le_of_ble_eq_true rfl) ?_
  intro K O hl0 htab hroom hX hns hnc E
  refine z_sub (lv' := [(0, .ref (zq w 0)), (1, .int a1), (2, .ref (zq w 25))]) [0, 1, 2] rfl ?_
  refine z_aload_n O zd_L_lose_0 rfl 2 rfl ?_
  refine z_iconst O (v := 0) zd_L_lose_1 (by decide) ?_
  refine z_aload_n O zd_L_lose_2 rfl 0 rfl ?_
  refine z_iload_n O zd_L_lose_3 rfl 1 rfl ?_
  refine z_callxi O hl0 hX (st := [.int 0, .ref (zq w 25)]) 0 5 (fs := zo0 w σ) rfl rfl (c_X_lose l hfl w σ a1 ko) zl_L_33 zm598 zm599 rfl rfl (Nat.le_of_ble_eq_true rfl) (Nat.le_of_ble_eq_true rfl) (Nat.le_of_ble_eq_true rfl) hroom.1 hroom.2 zd_L_lose_4 ?_ ?_
  · intro Ex u hPX
    obtain ⟨rfl, e⟩ := hPX
    refine z_catch (hh := [((0 : Nat), (9 : Nat), (12 : Nat), (31 : Nat))]) (zOk_up O hroom.1 hroom.2) htab [] ⟨0, 9, 12, 31⟩ [] rfl (fun z hz => absurd hz List.not_mem_nil) (by decide) (by decide) zm559 (hns _ zcs2) (fun q => ?_)
    refine z_astore_n (zOk_up O hroom.1 hroom.2) (lv' := [(3, .ref q), (0, .ref (zq w 0)), (1, .int a1), (2, .ref (zq w 25))]) zd_L_lose_12 rfl (Nat.le_of_ble_eq_true rfl) rfl ?_
    refine z_iconst (zOk_up O hroom.1 hroom.2) (v := 1) zd_L_lose_13 (by decide) ?_
    exact E _ _ _ _ zd_L_lose_14 rfl (by unfold f_L_lose; rw [← e]; exact (zwr1 (by decide)).symm)
  · intro r u e
    refine z_i2l (zOk_up O hroom.1 hroom.2) zd_L_lose_7 ?_
    refine z_last (zOk_up O hroom.1 hroom.2) (x := r) rfl zd_L_lose_8 ?_
    refine z_goto (zOk_up O hroom.1 hroom.2) (tgt := 15) zd_L_lose_9 (by decide) ?_
    refine z_iconst (zOk_up O hroom.1 hroom.2) (v := 0) zd_L_lose_15 (by decide) ?_
    exact E _ _ _ _ zd_L_lose_16 rfl (by unfold f_L_lose; rw [← e]; exact zwr0.symm)
set_option maxHeartbeats 4000000 in
set_option maxRecDepth 100000 in
theorem c_X_duplicate (l : Launch) (hfl : l.stackTraces = false) (w : zWd) (σ : zSt) (a1 : Int32) (ko : k_X_duplicate σ a1) : zMx l ({ cls := "SluiceStream", name := "duplicate", desc := "(I)I" } : Jvm.MethodName) prog_1_method_9_code 3 6 90 .int w [.ref (zq w 0), .int a1] σ (fun r u => ((0 : Int32), r, u) = (f_X_duplicate σ a1)) (fun E u => (E = "java/lang/IndexOutOfBoundsException" ∧ ((1 : Int32), (0 : Int32), u) = (f_X_duplicate σ a1)) ∨ (E = "java/lang/IllegalStateException" ∧ ((2 : Int32), (0 : Int32), u) = (f_X_duplicate σ a1))) := by
  refine zMx_of hfl (by decide +kernel) (Nat.le_of_ble_eq_true rfl) (Nat.le_of_ble_eq_true rfl) ?_
  intro K O hl0 E EX
  have ht : (f_X_duplicate σ a1) = (f_X_duplicate σ a1) := rfl
  refine z_sub (lv' := [(0, .ref (zq w 0)), (1, .int a1)]) [0, 1] rfl ?_
  refine z_aload_n O zd_X_duplicate_0 rfl 0 rfl ?_
  refine zg_X_32_0 O zd_X_duplicate_1 (v := .ref (zq w 9)) rfl ?_
  refine z_iload_n O zd_X_duplicate_4 rfl 1 rfl ?_
  refine z_callri O hl0 (st := []) 9 2 (fs := zo9 w σ) rfl rfl (c_W_holds_9 l w σ a1) zl_X_77 zm218 zm219 rfl rfl (Nat.le_of_ble_eq_true rfl) (Nat.le_of_ble_eq_true rfl) (Nat.le_of_ble_eq_true rfl) zd_X_duplicate_5 (fun r1 e2 => ?_)
  have ht := ht.trans (zlet_e e2)
  have ko := ko r1 e2
  refine z_if_ne O (tgt := 19) zd_X_duplicate_8 (by decide) (fun c3 => ?_) (fun c3 => ?_)
  · have ht := ht.trans (if_neg c3)
    have ko := ko c3
    refine z_aload_n O zd_X_duplicate_19 rfl 0 rfl ?_
    refine zg_X_32_0 O zd_X_duplicate_20 (v := .ref (zq w 9)) rfl ?_
    refine z_callri O hl0 (st := []) 9 2 (fs := zo9 w σ) rfl rfl (c_W_isFull_9 l w σ) zl_X_66 zm210 zm211 rfl rfl (Nat.le_of_ble_eq_true rfl) (Nat.le_of_ble_eq_true rfl) (Nat.le_of_ble_eq_true rfl) zd_X_duplicate_23 (fun r4 e5 => ?_)
    have ht := ht.trans (zlet_e e5)
    have ko := ko r4 e5
    refine z_if_eq O (tgt := 37) zd_X_duplicate_26 (by decide) (fun c6 => ?_) (fun c6 => ?_)
    · have ht := ht.trans (if_pos c6)
      have ko := ko c6
      refine z_aload_n O zd_X_duplicate_37 rfl 0 rfl ?_
      refine zg_X_32_0 O zd_X_duplicate_38 (v := .ref (zq w 9)) rfl ?_
      refine z_calli O hl0 (st := []) 9 2 (fs := zo9 w σ) rfl rfl (c_W_addRow_9 l w σ) zl_X_95 zm222 zm223 rfl rfl (Nat.le_of_ble_eq_true rfl) (Nat.le_of_ble_eq_true rfl) (Nat.le_of_ble_eq_true rfl) zd_X_duplicate_41 (fun r7 u8 e9 => ?_)
      have ht := ht.trans (zseq_e e9)
      have ko := ko r7 u8 e9
      refine z_istore_n O (lv' := [(2, .int r7), (0, .ref (zq w 0)), (1, .int a1)]) zd_X_duplicate_44 rfl (Nat.le_of_ble_eq_true rfl) rfl ?_
      refine z_aload_n O zd_X_duplicate_45 rfl 1 rfl ?_
      refine zg_X_32_0 O zd_X_duplicate_46 (v := .ref (zq w 9)) rfl ?_
      refine z_iload_n O zd_X_duplicate_49 rfl 0 rfl ?_
      refine z_iconst O (v := 0) zd_X_duplicate_50 (by decide) ?_
      refine z_aload_n O zd_X_duplicate_51 rfl 1 rfl ?_
      refine zg_X_32_0 O zd_X_duplicate_52 (v := .ref (zq w 9)) rfl ?_
      refine z_iload_n O zd_X_duplicate_55 rfl 2 rfl ?_
      refine z_iconst O (v := 0) zd_X_duplicate_56 (by decide) ?_
      refine z_callri O hl0 (st := [.int 0, .int r7, .ref (zq w 9)]) 9 2 (fs := zo9 w u8) rfl rfl (c_W_cell_9 l w u8 a1 0 ko.1) zl_X_84 zm581 zm582 rfl rfl (Nat.le_of_ble_eq_true rfl) (Nat.le_of_ble_eq_true rfl) (Nat.le_of_ble_eq_true rfl) zd_X_duplicate_57 (fun r10 e11 => ?_)
      have ht := ht.trans (zlet_e e11)
      have ko := ko.2 r10 e11
      refine z_callv O hl0 (st := []) 9 2 (fs := zo9 w u8) rfl rfl (c_W_setCell_9 l w u8 r7 0 r10 ko.1) zl_X_99 zm226 zm227 rfl rfl (Nat.le_of_ble_eq_true rfl) (Nat.le_of_ble_eq_true rfl) (Nat.le_of_ble_eq_true rfl) zd_X_duplicate_60 (fun u12 e13 => ?_)
      have ht := ht.trans (zlet_e e13)
      have ko := ko.2 u12 e13
      refine z_aload_n O zd_X_duplicate_63 rfl 1 rfl ?_
      refine zg_X_32_0 O zd_X_duplicate_64 (v := .ref (zq w 9)) rfl ?_
      refine z_iload_n O zd_X_duplicate_67 rfl 0 rfl ?_
      refine z_iconst O (v := 1) zd_X_duplicate_68 (by decide) ?_
      refine z_aload_n O zd_X_duplicate_69 rfl 1 rfl ?_
      refine zg_X_32_0 O zd_X_duplicate_70 (v := .ref (zq w 9)) rfl ?_
      refine z_iload_n O zd_X_duplicate_73 rfl 2 rfl ?_
      refine z_iconst O (v := 1) zd_X_duplicate_74 (by decide) ?_
      refine z_callri O hl0 (st := [.int 1, .int r7, .ref (zq w 9)]) 9 2 (fs := zo9 w u12) rfl rfl (c_W_cell_9 l w u12 a1 1 ko.1) zl_X_84 zm581 zm582 rfl rfl (Nat.le_of_ble_eq_true rfl) (Nat.le_of_ble_eq_true rfl) (Nat.le_of_ble_eq_true rfl) zd_X_duplicate_75 (fun r14 e15 => ?_)
      have ht := ht.trans (zlet_e e15)
      have ko := ko.2 r14 e15
      refine z_callv O hl0 (st := []) 9 2 (fs := zo9 w u12) rfl rfl (c_W_setCell_9 l w u12 r7 1 r14 ko) zl_X_99 zm226 zm227 rfl rfl (Nat.le_of_ble_eq_true rfl) (Nat.le_of_ble_eq_true rfl) (Nat.le_of_ble_eq_true rfl) zd_X_duplicate_78 (fun u16 e17 => ?_)
      have ht := ht.trans (zlet_e e17)
      refine z_aload_n O zd_X_duplicate_81 rfl 1 rfl ?_
      refine zg_X_32_0 O zd_X_duplicate_82 (v := .ref (zq w 9)) rfl ?_
      refine zg_X_103_9 O zd_X_duplicate_85 (v := .int (u16 9 2)) rfl ?_
      exact E _ _ _ _ zd_X_duplicate_88 rfl ht.symm
    · have ht := ht.trans (if_neg c6)
      exact EX _ _ _ _ _ _ _ zt_X_46 (Nat.le_of_ble_eq_true rfl) zd_X_duplicate_29 zd_X_duplicate_32 zd_X_duplicate_33 zd_X_duplicate_36 (Or.inr ⟨rfl, ht.symm⟩)
  · have ht := ht.trans (if_pos c3)
    exact EX _ _ _ _ _ _ _ zt_X_81 (Nat.le_of_ble_eq_true rfl) zd_X_duplicate_11 zd_X_duplicate_14 zd_X_duplicate_15 zd_X_duplicate_18 (Or.inl ⟨rfl, ht.symm⟩)
set_option maxHeartbeats 4000000 in
set_option maxRecDepth 100000 in
theorem c_L_duplicate (l : Launch) (hfl : l.stackTraces = false) (w : zWd) (σ : zSt) (a1 : Int32) (ko : k_X_duplicate σ a1) : zMw l ({ cls := "SluiceStreamLaw", name := "duplicate", desc := "(LSluiceStream;I[J)I" } : Jvm.MethodName) method_9_code 4 [((0 : Nat), (9 : Nat), (12 : Nat), (31 : Nat)), ((0 : Nat), (9 : Nat), (15 : Nat), (15 : Nat))] 7 112 w [.ref (zq w 0), .int a1, .ref (zq w 25)] σ (fun r u => (r, u) = f_L_duplicate σ a1) := by
  refine zMw_of (by decide +kernel) (Nat.le_of_ble_eq_true rfl) ?_
  intro K O hl0 htab hroom hX hns hnc E
  refine z_sub (lv' := [(0, .ref (zq w 0)), (1, .int a1), (2, .ref (zq w 25))]) [0, 1, 2] rfl ?_
  refine z_aload_n O zd_L_duplicate_0 rfl 2 rfl ?_
  refine z_iconst O (v := 0) zd_L_duplicate_1 (by decide) ?_
  refine z_aload_n O zd_L_duplicate_2 rfl 0 rfl ?_
  refine z_iload_n O zd_L_duplicate_3 rfl 1 rfl ?_
  refine z_callxi O hl0 hX (st := [.int 0, .ref (zq w 25)]) 0 5 (fs := zo0 w σ) rfl rfl (c_X_duplicate l hfl w σ a1 ko) zl_L_36 zm605 zm606 rfl rfl (Nat.le_of_ble_eq_true rfl) (Nat.le_of_ble_eq_true rfl) (Nat.le_of_ble_eq_true rfl) hroom.1 hroom.2 zd_L_duplicate_4 ?_ ?_
  · intro Ex u hPX
    rcases hPX with ⟨rfl, e⟩ | ⟨rfl, e⟩
    · refine z_catch (hh := [((0 : Nat), (9 : Nat), (12 : Nat), (31 : Nat)), ((0 : Nat), (9 : Nat), (15 : Nat), (15 : Nat))]) (zOk_up O hroom.1 hroom.2) htab [] ⟨0, 9, 12, 31⟩ [⟨0, 9, 15, 15⟩] rfl (fun z hz => absurd hz List.not_mem_nil) (by decide) (by decide) zm559 (hns _ zcs2) (fun q => ?_)
      refine z_astore_n (zOk_up O hroom.1 hroom.2) (lv' := [(3, .ref q), (0, .ref (zq w 0)), (1, .int a1), (2, .ref (zq w 25))]) zd_L_duplicate_12 rfl (Nat.le_of_ble_eq_true rfl) rfl ?_
      refine z_iconst (zOk_up O hroom.1 hroom.2) (v := 1) zd_L_duplicate_13 (by decide) ?_
      exact E _ _ _ _ zd_L_duplicate_14 rfl (by unfold f_L_duplicate; rw [← e]; exact (zwr1 (by decide)).symm)
    · refine z_catch (hh := [((0 : Nat), (9 : Nat), (12 : Nat), (31 : Nat)), ((0 : Nat), (9 : Nat), (15 : Nat), (15 : Nat))]) (zOk_up O hroom.1 hroom.2) htab [⟨0, 9, 12, 31⟩] ⟨0, 9, 15, 15⟩ [] rfl (fun z hz => by cases List.mem_singleton.mp hz; exact Or.inr ⟨by decide, _, zm559, hnc.2⟩) (by decide) (by decide) zm377 (hns _ zcs1) (fun q => ?_)
      refine z_astore_n (zOk_up O hroom.1 hroom.2) (lv' := [(3, .ref q), (0, .ref (zq w 0)), (1, .int a1), (2, .ref (zq w 25))]) zd_L_duplicate_15 rfl (Nat.le_of_ble_eq_true rfl) rfl ?_
      refine z_iconst (zOk_up O hroom.1 hroom.2) (v := 2) zd_L_duplicate_16 (by decide) ?_
      exact E _ _ _ _ zd_L_duplicate_17 rfl (by unfold f_L_duplicate; rw [← e]; exact (zwr1 (by decide)).symm)
  · intro r u e
    refine z_i2l (zOk_up O hroom.1 hroom.2) zd_L_duplicate_7 ?_
    refine z_last (zOk_up O hroom.1 hroom.2) (x := r) rfl zd_L_duplicate_8 ?_
    refine z_goto (zOk_up O hroom.1 hroom.2) (tgt := 18) zd_L_duplicate_9 (by decide) ?_
    refine z_iconst (zOk_up O hroom.1 hroom.2) (v := 0) zd_L_duplicate_18 (by decide) ?_
    exact E _ _ _ _ zd_L_duplicate_19 rfl (by unfold f_L_duplicate; rw [← e]; exact zwr0.symm)
set_option maxHeartbeats 4000000 in
set_option maxRecDepth 100000 in
theorem c_X_deliverAck (l : Launch) (hfl : l.stackTraces = false) (w : zWd) (σ : zSt) (a1 : Int32) (ko : k_X_deliverAck σ a1) : zMx l ({ cls := "SluiceStream", name := "deliverAck", desc := "(I)I" } : Jvm.MethodName) prog_1_method_10_code 3 6 131 .int w [.ref (zq w 0), .int a1] σ (fun r u => ((0 : Int32), r, u) = (f_X_deliverAck σ a1)) (fun E u => (E = "java/lang/IndexOutOfBoundsException" ∧ ((1 : Int32), (0 : Int32), u) = (f_X_deliverAck σ a1))) := by
  refine zMx_of hfl (by decide +kernel) (Nat.le_of_ble_eq_true rfl) (Nat.le_of_ble_eq_true rfl) ?_
  intro K O hl0 E EX
  have ht : (f_X_deliverAck σ a1) = (f_X_deliverAck σ a1) := rfl
  refine z_sub (lv' := [(0, .ref (zq w 0)), (1, .int a1)]) [0, 1] rfl ?_
  refine z_aload_n O zd_X_deliverAck_0 rfl 0 rfl ?_
  refine zg_X_36_0 O zd_X_deliverAck_1 (v := .ref (zq w 11)) rfl ?_
  refine z_iload_n O zd_X_deliverAck_4 rfl 1 rfl ?_
  refine z_callri O hl0 (st := []) 11 2 (fs := zo11 w σ) rfl rfl (c_W_holds_11 l w σ a1) zl_X_77 zm218 zm219 rfl rfl (Nat.le_of_ble_eq_true rfl) (Nat.le_of_ble_eq_true rfl) (Nat.le_of_ble_eq_true rfl) zd_X_deliverAck_5 (fun r1 e2 => ?_)
  have ht := ht.trans (zlet_e e2)
  have ko := ko r1 e2
  refine z_if_ne O (tgt := 19) zd_X_deliverAck_8 (by decide) (fun c3 => ?_) (fun c3 => ?_)
  · have ht := ht.trans (if_neg c3)
    have ko := ko c3
    refine z_aload_n O zd_X_deliverAck_19 rfl 0 rfl ?_
    refine zg_X_16_0 O zd_X_deliverAck_20 (v := .ref (zq w 2)) rfl ?_
    refine z_aload_n O zd_X_deliverAck_23 rfl 0 rfl ?_
    refine zg_X_36_0 O zd_X_deliverAck_24 (v := .ref (zq w 11)) rfl ?_
    refine z_iload_n O zd_X_deliverAck_27 rfl 1 rfl ?_
    refine z_calli O hl0 (st := []) 2 3 (fs := zo2 w σ) rfl rfl (c_S_takeAck l w σ a1 ko.1) zl_X_106 zm618 zm619 rfl rfl (Nat.le_of_ble_eq_true rfl) (Nat.le_of_ble_eq_true rfl) (Nat.le_of_ble_eq_true rfl) zd_X_deliverAck_28 (fun r4 u5 e6 => ?_)
    have ht := ht.trans (zseq_e e6)
    have ko := ko.2 r4 u5 e6
    refine z_istore_n O (lv' := [(2, .int r4), (0, .ref (zq w 0)), (1, .int a1)]) zd_X_deliverAck_31 rfl (Nat.le_of_ble_eq_true rfl) rfl ?_
    refine z_aload_n O zd_X_deliverAck_32 rfl 1 rfl ?_
    refine zg_X_36_0 O zd_X_deliverAck_33 (v := .ref (zq w 11)) rfl ?_
    refine z_iload_n O zd_X_deliverAck_36 rfl 2 rfl ?_
    refine z_callv O hl0 (st := []) 11 2 (fs := zo11 w u5) rfl rfl (c_W_remove_11 l w u5 a1 ko) zl_X_91 zm214 zm215 rfl rfl (Nat.le_of_ble_eq_true rfl) (Nat.le_of_ble_eq_true rfl) (Nat.le_of_ble_eq_true rfl) zd_X_deliverAck_37 (fun u7 e8 => ?_)
    have ht := ht.trans (zlet_e e8)
    refine z_iload_n O zd_X_deliverAck_40 rfl 0 rfl ?_
    exact E _ _ _ _ zd_X_deliverAck_41 rfl ht.symm
  · have ht := ht.trans (if_pos c3)
    exact EX _ _ _ _ _ _ _ zt_X_81 (Nat.le_of_ble_eq_true rfl) zd_X_deliverAck_11 zd_X_deliverAck_14 zd_X_deliverAck_15 zd_X_deliverAck_18 ⟨rfl, ht.symm⟩
set_option maxHeartbeats 4000000 in
set_option maxRecDepth 100000 in
theorem c_L_deliverAck (l : Launch) (hfl : l.stackTraces = false) (w : zWd) (σ : zSt) (a1 : Int32) (ko : k_X_deliverAck σ a1) : zMw l ({ cls := "SluiceStreamLaw", name := "deliverAck", desc := "(LSluiceStream;I[J)I" } : Jvm.MethodName) method_10_code 4 [((0 : Nat), (9 : Nat), (12 : Nat), (31 : Nat))] 7 153 w [.ref (zq w 0), .int a1, .ref (zq w 25)] σ (fun r u => (r, u) = f_L_deliverAck σ a1) := by
  refine zMw_of (by decide +kernel) (Nat.le_of_ble_eq_true rfl) ?_
  intro K O hl0 htab hroom hX hns hnc E
  refine z_sub (lv' := [(0, .ref (zq w 0)), (1, .int a1), (2, .ref (zq w 25))]) [0, 1, 2] rfl ?_
  refine z_aload_n O zd_L_deliverAck_0 rfl 2 rfl ?_
  refine z_iconst O (v := 0) zd_L_deliverAck_1 (by decide) ?_
  refine z_aload_n O zd_L_deliverAck_2 rfl 0 rfl ?_
  refine z_iload_n O zd_L_deliverAck_3 rfl 1 rfl ?_
  refine z_callxi O hl0 hX (st := [.int 0, .ref (zq w 25)]) 0 5 (fs := zo0 w σ) rfl rfl (c_X_deliverAck l hfl w σ a1 ko) zl_L_39 zm614 zm615 rfl rfl (Nat.le_of_ble_eq_true rfl) (Nat.le_of_ble_eq_true rfl) (Nat.le_of_ble_eq_true rfl) hroom.1 hroom.2 zd_L_deliverAck_4 ?_ ?_
  · intro Ex u hPX
    obtain ⟨rfl, e⟩ := hPX
    refine z_catch (hh := [((0 : Nat), (9 : Nat), (12 : Nat), (31 : Nat))]) (zOk_up O hroom.1 hroom.2) htab [] ⟨0, 9, 12, 31⟩ [] rfl (fun z hz => absurd hz List.not_mem_nil) (by decide) (by decide) zm559 (hns _ zcs2) (fun q => ?_)
    refine z_astore_n (zOk_up O hroom.1 hroom.2) (lv' := [(3, .ref q), (0, .ref (zq w 0)), (1, .int a1), (2, .ref (zq w 25))]) zd_L_deliverAck_12 rfl (Nat.le_of_ble_eq_true rfl) rfl ?_
    refine z_iconst (zOk_up O hroom.1 hroom.2) (v := 1) zd_L_deliverAck_13 (by decide) ?_
    exact E _ _ _ _ zd_L_deliverAck_14 rfl (by unfold f_L_deliverAck; rw [← e]; exact (zwr1 (by decide)).symm)
  · intro r u e
    refine z_i2l (zOk_up O hroom.1 hroom.2) zd_L_deliverAck_7 ?_
    refine z_last (zOk_up O hroom.1 hroom.2) (x := r) rfl zd_L_deliverAck_8 ?_
    refine z_goto (zOk_up O hroom.1 hroom.2) (tgt := 15) zd_L_deliverAck_9 (by decide) ?_
    refine z_iconst (zOk_up O hroom.1 hroom.2) (v := 0) zd_L_deliverAck_15 (by decide) ?_
    exact E _ _ _ _ zd_L_deliverAck_16 rfl (by unfold f_L_deliverAck; rw [← e]; exact zwr0.symm)
set_option maxHeartbeats 4000000 in
set_option maxRecDepth 100000 in
theorem c_X_loseAck (l : Launch) (hfl : l.stackTraces = false) (w : zWd) (σ : zSt) (a1 : Int32) (ko : k_X_loseAck σ a1) : zMx l ({ cls := "SluiceStream", name := "loseAck", desc := "(I)I" } : Jvm.MethodName) prog_1_method_11_code 3 6 90 .int w [.ref (zq w 0), .int a1] σ (fun r u => ((0 : Int32), r, u) = (f_X_loseAck σ a1)) (fun E u => (E = "java/lang/IndexOutOfBoundsException" ∧ ((1 : Int32), (0 : Int32), u) = (f_X_loseAck σ a1))) := by
  refine zMx_of hfl (by decide +kernel) (Nat.le_of_ble_eq_true rfl) (Nat.le_of_ble_eq_true rfl) ?_
  intro K O hl0 E EX
  have ht : (f_X_loseAck σ a1) = (f_X_loseAck σ a1) := rfl
  refine z_sub (lv' := [(0, .ref (zq w 0)), (1, .int a1)]) [0, 1] rfl ?_
  refine z_aload_n O zd_X_loseAck_0 rfl 0 rfl ?_
  refine zg_X_36_0 O zd_X_loseAck_1 (v := .ref (zq w 11)) rfl ?_
  refine z_iload_n O zd_X_loseAck_4 rfl 1 rfl ?_
  refine z_callri O hl0 (st := []) 11 2 (fs := zo11 w σ) rfl rfl (c_W_holds_11 l w σ a1) zl_X_77 zm218 zm219 rfl rfl (Nat.le_of_ble_eq_true rfl) (Nat.le_of_ble_eq_true rfl) (Nat.le_of_ble_eq_true rfl) zd_X_loseAck_5 (fun r1 e2 => ?_)
  have ht := ht.trans (zlet_e e2)
  have ko := ko r1 e2
  refine z_if_ne O (tgt := 19) zd_X_loseAck_8 (by decide) (fun c3 => ?_) (fun c3 => ?_)
  · have ht := ht.trans (if_neg c3)
    have ko := ko c3
    refine z_aload_n O zd_X_loseAck_19 rfl 0 rfl ?_
    refine zg_X_36_0 O zd_X_loseAck_20 (v := .ref (zq w 11)) rfl ?_
    refine z_iload_n O zd_X_loseAck_23 rfl 1 rfl ?_
    refine z_iconst O (v := 0) zd_X_loseAck_24 (by decide) ?_
    refine z_callri O hl0 (st := []) 11 2 (fs := zo11 w σ) rfl rfl (c_W_cell_11 l w σ a1 0 ko.1) zl_X_84 zm581 zm582 rfl rfl (Nat.le_of_ble_eq_true rfl) (Nat.le_of_ble_eq_true rfl) (Nat.le_of_ble_eq_true rfl) zd_X_loseAck_25 (fun r4 e5 => ?_)
    have ht := ht.trans (zlet_e e5)
    have ko := ko.2 r4 e5
    refine z_istore_n O (lv' := [(2, .int r4), (0, .ref (zq w 0)), (1, .int a1)]) zd_X_loseAck_28 rfl (Nat.le_of_ble_eq_true rfl) rfl ?_
    refine z_aload_n O zd_X_loseAck_29 rfl 1 rfl ?_
    refine zg_X_36_0 O zd_X_loseAck_30 (v := .ref (zq w 11)) rfl ?_
    refine z_iload_n O zd_X_loseAck_33 rfl 2 rfl ?_
    refine z_callv O hl0 (st := []) 11 2 (fs := zo11 w σ) rfl rfl (c_W_remove_11 l w σ a1 ko) zl_X_91 zm214 zm215 rfl rfl (Nat.le_of_ble_eq_true rfl) (Nat.le_of_ble_eq_true rfl) (Nat.le_of_ble_eq_true rfl) zd_X_loseAck_34 (fun u6 e7 => ?_)
    have ht := ht.trans (zlet_e e7)
    refine z_iload_n O zd_X_loseAck_37 rfl 0 rfl ?_
    exact E _ _ _ _ zd_X_loseAck_38 rfl ht.symm
  · have ht := ht.trans (if_pos c3)
    exact EX _ _ _ _ _ _ _ zt_X_81 (Nat.le_of_ble_eq_true rfl) zd_X_loseAck_11 zd_X_loseAck_14 zd_X_loseAck_15 zd_X_loseAck_18 ⟨rfl, ht.symm⟩
set_option maxHeartbeats 4000000 in
set_option maxRecDepth 100000 in
theorem c_L_loseAck (l : Launch) (hfl : l.stackTraces = false) (w : zWd) (σ : zSt) (a1 : Int32) (ko : k_X_loseAck σ a1) : zMw l ({ cls := "SluiceStreamLaw", name := "loseAck", desc := "(LSluiceStream;I[J)I" } : Jvm.MethodName) method_11_code 4 [((0 : Nat), (9 : Nat), (12 : Nat), (31 : Nat))] 7 112 w [.ref (zq w 0), .int a1, .ref (zq w 25)] σ (fun r u => (r, u) = f_L_loseAck σ a1) := by
  refine zMw_of (by decide +kernel) (Nat.le_of_ble_eq_true rfl) ?_
  intro K O hl0 htab hroom hX hns hnc E
  refine z_sub (lv' := [(0, .ref (zq w 0)), (1, .int a1), (2, .ref (zq w 25))]) [0, 1, 2] rfl ?_
  refine z_aload_n O zd_L_loseAck_0 rfl 2 rfl ?_
  refine z_iconst O (v := 0) zd_L_loseAck_1 (by decide) ?_
  refine z_aload_n O zd_L_loseAck_2 rfl 0 rfl ?_
  refine z_iload_n O zd_L_loseAck_3 rfl 1 rfl ?_
  refine z_callxi O hl0 hX (st := [.int 0, .ref (zq w 25)]) 0 5 (fs := zo0 w σ) rfl rfl (c_X_loseAck l hfl w σ a1 ko) zl_L_42 zm658 zm659 rfl rfl (Nat.le_of_ble_eq_true rfl) (Nat.le_of_ble_eq_true rfl) (Nat.le_of_ble_eq_true rfl) hroom.1 hroom.2 zd_L_loseAck_4 ?_ ?_
  · intro Ex u hPX
    obtain ⟨rfl, e⟩ := hPX
    refine z_catch (hh := [((0 : Nat), (9 : Nat), (12 : Nat), (31 : Nat))]) (zOk_up O hroom.1 hroom.2) htab [] ⟨0, 9, 12, 31⟩ [] rfl (fun z hz => absurd hz List.not_mem_nil) (by decide) (by decide) zm559 (hns _ zcs2) (fun q => ?_)
    refine z_astore_n (zOk_up O hroom.1 hroom.2) (lv' := [(3, .ref q), (0, .ref (zq w 0)), (1, .int a1), (2, .ref (zq w 25))]) zd_L_loseAck_12 rfl (Nat.le_of_ble_eq_true rfl) rfl ?_
    refine z_iconst (zOk_up O hroom.1 hroom.2) (v := 1) zd_L_loseAck_13 (by decide) ?_
    exact E _ _ _ _ zd_L_loseAck_14 rfl (by unfold f_L_loseAck; rw [← e]; exact (zwr1 (by decide)).symm)
  · intro r u e
    refine z_i2l (zOk_up O hroom.1 hroom.2) zd_L_loseAck_7 ?_
    refine z_last (zOk_up O hroom.1 hroom.2) (x := r) rfl zd_L_loseAck_8 ?_
    refine z_goto (zOk_up O hroom.1 hroom.2) (tgt := 15) zd_L_loseAck_9 (by decide) ?_
    refine z_iconst (zOk_up O hroom.1 hroom.2) (v := 0) zd_L_loseAck_15 (by decide) ?_
    exact E _ _ _ _ zd_L_loseAck_16 rfl (by unfold f_L_loseAck; rw [← e]; exact zwr0.symm)
set_option maxHeartbeats 4000000 in
set_option maxRecDepth 100000 in
theorem c_X_startOf (l : Launch) (hfl : l.stackTraces = false) (w : zWd) (σ : zSt) (a1 : Int32) (ko : k_X_startOf σ a1) : zMx l ({ cls := "SluiceStream", name := "startOf", desc := "(I)I" } : Jvm.MethodName) prog_1_method_13_code 2 6 90 .int w [.ref (zq w 0), .int a1] σ (fun r u => ((0 : Int32), r, u) = (f_X_startOf σ a1)) (fun E u => (E = "java/lang/IndexOutOfBoundsException" ∧ ((1 : Int32), (0 : Int32), u) = (f_X_startOf σ a1))) := by
  refine zMx_of hfl (by decide +kernel) (Nat.le_of_ble_eq_true rfl) (Nat.le_of_ble_eq_true rfl) ?_
  intro K O hl0 E EX
  have ht : (f_X_startOf σ a1) = (f_X_startOf σ a1) := rfl
  refine z_sub (lv' := [(0, .ref (zq w 0)), (1, .int a1)]) [0, 1] rfl ?_
  refine z_aload_n O zd_X_startOf_0 rfl 0 rfl ?_
  refine zg_X_32_0 O zd_X_startOf_1 (v := .ref (zq w 9)) rfl ?_
  refine z_iload_n O zd_X_startOf_4 rfl 1 rfl ?_
  refine z_callri O hl0 (st := []) 9 2 (fs := zo9 w σ) rfl rfl (c_W_holds_9 l w σ a1) zl_X_77 zm218 zm219 rfl rfl (Nat.le_of_ble_eq_true rfl) (Nat.le_of_ble_eq_true rfl) (Nat.le_of_ble_eq_true rfl) zd_X_startOf_5 (fun r1 e2 => ?_)
  have ht := ht.trans (zlet_e e2)
  have ko := ko r1 e2
  refine z_if_ne O (tgt := 19) zd_X_startOf_8 (by decide) (fun c3 => ?_) (fun c3 => ?_)
  · have ht := ht.trans (if_neg c3)
    have ko := ko c3
    refine z_aload_n O zd_X_startOf_19 rfl 0 rfl ?_
    refine zg_X_32_0 O zd_X_startOf_20 (v := .ref (zq w 9)) rfl ?_
    refine z_iload_n O zd_X_startOf_23 rfl 1 rfl ?_
    refine z_iconst O (v := 0) zd_X_startOf_24 (by decide) ?_
    refine z_callri O hl0 (st := []) 9 2 (fs := zo9 w σ) rfl rfl (c_W_cell_9 l w σ a1 0 ko) zl_X_84 zm581 zm582 rfl rfl (Nat.le_of_ble_eq_true rfl) (Nat.le_of_ble_eq_true rfl) (Nat.le_of_ble_eq_true rfl) zd_X_startOf_25 (fun r4 e5 => ?_)
    have ht := ht.trans (zlet_e e5)
    exact E _ _ _ _ zd_X_startOf_28 rfl ht.symm
  · have ht := ht.trans (if_pos c3)
    exact EX _ _ _ _ _ _ _ zt_X_81 (Nat.le_of_ble_eq_true rfl) zd_X_startOf_11 zd_X_startOf_14 zd_X_startOf_15 zd_X_startOf_18 ⟨rfl, ht.symm⟩
set_option maxHeartbeats 4000000 in
set_option maxRecDepth 100000 in
theorem c_L_startOf (l : Launch) (hfl : l.stackTraces = false) (w : zWd) (σ : zSt) (a1 : Int32) (ko : k_X_startOf σ a1) : zMw l ({ cls := "SluiceStreamLaw", name := "startOf", desc := "(LSluiceStream;I[J)I" } : Jvm.MethodName) method_12_code 4 [((0 : Nat), (9 : Nat), (12 : Nat), (31 : Nat))] 7 111 w [.ref (zq w 0), .int a1, .ref (zq w 25)] σ (fun r u => (r, u) = f_L_startOf σ a1) := by
  refine zMw_of (by decide +kernel) (Nat.le_of_ble_eq_true rfl) ?_
  intro K O hl0 htab hroom hX hns hnc E
  refine z_sub (lv' := [(0, .ref (zq w 0)), (1, .int a1), (2, .ref (zq w 25))]) [0, 1, 2] rfl ?_
  refine z_aload_n O zd_L_startOf_0 rfl 2 rfl ?_
  refine z_iconst O (v := 0) zd_L_startOf_1 (by decide) ?_
  refine z_aload_n O zd_L_startOf_2 rfl 0 rfl ?_
  refine z_iload_n O zd_L_startOf_3 rfl 1 rfl ?_
  refine z_callxi O hl0 hX (st := [.int 0, .ref (zq w 25)]) 0 5 (fs := zo0 w σ) rfl rfl (c_X_startOf l hfl w σ a1 ko) zl_L_45 zm665 zm666 rfl rfl (Nat.le_of_ble_eq_true rfl) (Nat.le_of_ble_eq_true rfl) (Nat.le_of_ble_eq_true rfl) hroom.1 hroom.2 zd_L_startOf_4 ?_ ?_
  · intro Ex u hPX
    obtain ⟨rfl, e⟩ := hPX
    refine z_catch (hh := [((0 : Nat), (9 : Nat), (12 : Nat), (31 : Nat))]) (zOk_up O hroom.1 hroom.2) htab [] ⟨0, 9, 12, 31⟩ [] rfl (fun z hz => absurd hz List.not_mem_nil) (by decide) (by decide) zm559 (hns _ zcs2) (fun q => ?_)
    refine z_astore_n (zOk_up O hroom.1 hroom.2) (lv' := [(3, .ref q), (0, .ref (zq w 0)), (1, .int a1), (2, .ref (zq w 25))]) zd_L_startOf_12 rfl (Nat.le_of_ble_eq_true rfl) rfl ?_
    refine z_iconst (zOk_up O hroom.1 hroom.2) (v := 1) zd_L_startOf_13 (by decide) ?_
    exact E _ _ _ _ zd_L_startOf_14 rfl (by unfold f_L_startOf; rw [← e]; exact (zwr1 (by decide)).symm)
  · intro r u e
    refine z_i2l (zOk_up O hroom.1 hroom.2) zd_L_startOf_7 ?_
    refine z_last (zOk_up O hroom.1 hroom.2) (x := r) rfl zd_L_startOf_8 ?_
    refine z_goto (zOk_up O hroom.1 hroom.2) (tgt := 15) zd_L_startOf_9 (by decide) ?_
    refine z_iconst (zOk_up O hroom.1 hroom.2) (v := 0) zd_L_startOf_15 (by decide) ?_
    exact E _ _ _ _ zd_L_startOf_16 rfl (by unfold f_L_startOf; rw [← e]; exact zwr0.symm)
set_option maxHeartbeats 4000000 in
set_option maxRecDepth 100000 in
theorem c_X_endOf (l : Launch) (hfl : l.stackTraces = false) (w : zWd) (σ : zSt) (a1 : Int32) (ko : k_X_endOf σ a1) : zMx l ({ cls := "SluiceStream", name := "endOf", desc := "(I)I" } : Jvm.MethodName) prog_1_method_14_code 2 6 90 .int w [.ref (zq w 0), .int a1] σ (fun r u => ((0 : Int32), r, u) = (f_X_endOf σ a1)) (fun E u => (E = "java/lang/IndexOutOfBoundsException" ∧ ((1 : Int32), (0 : Int32), u) = (f_X_endOf σ a1))) := by
  refine zMx_of hfl (by decide +kernel) (Nat.le_of_ble_eq_true rfl) (Nat.le_of_ble_eq_true rfl) ?_
  intro K O hl0 E EX
  have ht : (f_X_endOf σ a1) = (f_X_endOf σ a1) := rfl
  refine z_sub (lv' := [(0, .ref (zq w 0)), (1, .int a1)]) [0, 1] rfl ?_
  refine z_aload_n O zd_X_endOf_0 rfl 0 rfl ?_
  refine zg_X_32_0 O zd_X_endOf_1 (v := .ref (zq w 9)) rfl ?_
  refine z_iload_n O zd_X_endOf_4 rfl 1 rfl ?_
  refine z_callri O hl0 (st := []) 9 2 (fs := zo9 w σ) rfl rfl (c_W_holds_9 l w σ a1) zl_X_77 zm218 zm219 rfl rfl (Nat.le_of_ble_eq_true rfl) (Nat.le_of_ble_eq_true rfl) (Nat.le_of_ble_eq_true rfl) zd_X_endOf_5 (fun r1 e2 => ?_)
  have ht := ht.trans (zlet_e e2)
  have ko := ko r1 e2
  refine z_if_ne O (tgt := 19) zd_X_endOf_8 (by decide) (fun c3 => ?_) (fun c3 => ?_)
  · have ht := ht.trans (if_neg c3)
    have ko := ko c3
    refine z_aload_n O zd_X_endOf_19 rfl 0 rfl ?_
    refine zg_X_32_0 O zd_X_endOf_20 (v := .ref (zq w 9)) rfl ?_
    refine z_iload_n O zd_X_endOf_23 rfl 1 rfl ?_
    refine z_iconst O (v := 1) zd_X_endOf_24 (by decide) ?_
    refine z_callri O hl0 (st := []) 9 2 (fs := zo9 w σ) rfl rfl (c_W_cell_9 l w σ a1 1 ko) zl_X_84 zm581 zm582 rfl rfl (Nat.le_of_ble_eq_true rfl) (Nat.le_of_ble_eq_true rfl) (Nat.le_of_ble_eq_true rfl) zd_X_endOf_25 (fun r4 e5 => ?_)
    have ht := ht.trans (zlet_e e5)
    exact E _ _ _ _ zd_X_endOf_28 rfl ht.symm
  · have ht := ht.trans (if_pos c3)
    exact EX _ _ _ _ _ _ _ zt_X_81 (Nat.le_of_ble_eq_true rfl) zd_X_endOf_11 zd_X_endOf_14 zd_X_endOf_15 zd_X_endOf_18 ⟨rfl, ht.symm⟩
set_option maxHeartbeats 4000000 in
set_option maxRecDepth 100000 in
theorem c_L_endOf (l : Launch) (hfl : l.stackTraces = false) (w : zWd) (σ : zSt) (a1 : Int32) (ko : k_X_endOf σ a1) : zMw l ({ cls := "SluiceStreamLaw", name := "endOf", desc := "(LSluiceStream;I[J)I" } : Jvm.MethodName) method_13_code 4 [((0 : Nat), (9 : Nat), (12 : Nat), (31 : Nat))] 7 111 w [.ref (zq w 0), .int a1, .ref (zq w 25)] σ (fun r u => (r, u) = f_L_endOf σ a1) := by
  refine zMw_of (by decide +kernel) (Nat.le_of_ble_eq_true rfl) ?_
  intro K O hl0 htab hroom hX hns hnc E
  refine z_sub (lv' := [(0, .ref (zq w 0)), (1, .int a1), (2, .ref (zq w 25))]) [0, 1, 2] rfl ?_
  refine z_aload_n O zd_L_endOf_0 rfl 2 rfl ?_
  refine z_iconst O (v := 0) zd_L_endOf_1 (by decide) ?_
  refine z_aload_n O zd_L_endOf_2 rfl 0 rfl ?_
  refine z_iload_n O zd_L_endOf_3 rfl 1 rfl ?_
  refine z_callxi O hl0 hX (st := [.int 0, .ref (zq w 25)]) 0 5 (fs := zo0 w σ) rfl rfl (c_X_endOf l hfl w σ a1 ko) zl_L_48 zm672 zm673 rfl rfl (Nat.le_of_ble_eq_true rfl) (Nat.le_of_ble_eq_true rfl) (Nat.le_of_ble_eq_true rfl) hroom.1 hroom.2 zd_L_endOf_4 ?_ ?_
  · intro Ex u hPX
    obtain ⟨rfl, e⟩ := hPX
    refine z_catch (hh := [((0 : Nat), (9 : Nat), (12 : Nat), (31 : Nat))]) (zOk_up O hroom.1 hroom.2) htab [] ⟨0, 9, 12, 31⟩ [] rfl (fun z hz => absurd hz List.not_mem_nil) (by decide) (by decide) zm559 (hns _ zcs2) (fun q => ?_)
    refine z_astore_n (zOk_up O hroom.1 hroom.2) (lv' := [(3, .ref q), (0, .ref (zq w 0)), (1, .int a1), (2, .ref (zq w 25))]) zd_L_endOf_12 rfl (Nat.le_of_ble_eq_true rfl) rfl ?_
    refine z_iconst (zOk_up O hroom.1 hroom.2) (v := 1) zd_L_endOf_13 (by decide) ?_
    exact E _ _ _ _ zd_L_endOf_14 rfl (by unfold f_L_endOf; rw [← e]; exact (zwr1 (by decide)).symm)
  · intro r u e
    refine z_i2l (zOk_up O hroom.1 hroom.2) zd_L_endOf_7 ?_
    refine z_last (zOk_up O hroom.1 hroom.2) (x := r) rfl zd_L_endOf_8 ?_
    refine z_goto (zOk_up O hroom.1 hroom.2) (tgt := 15) zd_L_endOf_9 (by decide) ?_
    refine z_iconst (zOk_up O hroom.1 hroom.2) (v := 0) zd_L_endOf_15 (by decide) ?_
    exact E _ _ _ _ zd_L_endOf_16 rfl (by unfold f_L_endOf; rw [← e]; exact zwr0.symm)
set_option maxHeartbeats 4000000 in
set_option maxRecDepth 100000 in
theorem c_X_ackNumber (l : Launch) (hfl : l.stackTraces = false) (w : zWd) (σ : zSt) (a1 : Int32) (ko : k_X_ackNumber σ a1) : zMx l ({ cls := "SluiceStream", name := "ackNumber", desc := "(I)I" } : Jvm.MethodName) prog_1_method_16_code 2 6 90 .int w [.ref (zq w 0), .int a1] σ (fun r u => ((0 : Int32), r, u) = (f_X_ackNumber σ a1)) (fun E u => (E = "java/lang/IndexOutOfBoundsException" ∧ ((1 : Int32), (0 : Int32), u) = (f_X_ackNumber σ a1))) := by
  refine zMx_of hfl (by decide +kernel) (Nat.le_of_ble_eq_true rfl) (Nat.le_of_ble_eq_true rfl) ?_
  intro K O hl0 E EX
  have ht : (f_X_ackNumber σ a1) = (f_X_ackNumber σ a1) := rfl
  refine z_sub (lv' := [(0, .ref (zq w 0)), (1, .int a1)]) [0, 1] rfl ?_
  refine z_aload_n O zd_X_ackNumber_0 rfl 0 rfl ?_
  refine zg_X_36_0 O zd_X_ackNumber_1 (v := .ref (zq w 11)) rfl ?_
  refine z_iload_n O zd_X_ackNumber_4 rfl 1 rfl ?_
  refine z_callri O hl0 (st := []) 11 2 (fs := zo11 w σ) rfl rfl (c_W_holds_11 l w σ a1) zl_X_77 zm218 zm219 rfl rfl (Nat.le_of_ble_eq_true rfl) (Nat.le_of_ble_eq_true rfl) (Nat.le_of_ble_eq_true rfl) zd_X_ackNumber_5 (fun r1 e2 => ?_)
  have ht := ht.trans (zlet_e e2)
  have ko := ko r1 e2
  refine z_if_ne O (tgt := 19) zd_X_ackNumber_8 (by decide) (fun c3 => ?_) (fun c3 => ?_)
  · have ht := ht.trans (if_neg c3)
    have ko := ko c3
    refine z_aload_n O zd_X_ackNumber_19 rfl 0 rfl ?_
    refine zg_X_36_0 O zd_X_ackNumber_20 (v := .ref (zq w 11)) rfl ?_
    refine z_iload_n O zd_X_ackNumber_23 rfl 1 rfl ?_
    refine z_iconst O (v := 0) zd_X_ackNumber_24 (by decide) ?_
    refine z_callri O hl0 (st := []) 11 2 (fs := zo11 w σ) rfl rfl (c_W_cell_11 l w σ a1 0 ko) zl_X_84 zm581 zm582 rfl rfl (Nat.le_of_ble_eq_true rfl) (Nat.le_of_ble_eq_true rfl) (Nat.le_of_ble_eq_true rfl) zd_X_ackNumber_25 (fun r4 e5 => ?_)
    have ht := ht.trans (zlet_e e5)
    exact E _ _ _ _ zd_X_ackNumber_28 rfl ht.symm
  · have ht := ht.trans (if_pos c3)
    exact EX _ _ _ _ _ _ _ zt_X_81 (Nat.le_of_ble_eq_true rfl) zd_X_ackNumber_11 zd_X_ackNumber_14 zd_X_ackNumber_15 zd_X_ackNumber_18 ⟨rfl, ht.symm⟩
set_option maxHeartbeats 4000000 in
set_option maxRecDepth 100000 in
theorem c_L_ackNumber (l : Launch) (hfl : l.stackTraces = false) (w : zWd) (σ : zSt) (a1 : Int32) (ko : k_X_ackNumber σ a1) : zMw l ({ cls := "SluiceStreamLaw", name := "ackNumber", desc := "(LSluiceStream;I[J)I" } : Jvm.MethodName) method_14_code 4 [((0 : Nat), (9 : Nat), (12 : Nat), (31 : Nat))] 7 111 w [.ref (zq w 0), .int a1, .ref (zq w 25)] σ (fun r u => (r, u) = f_L_ackNumber σ a1) := by
  refine zMw_of (by decide +kernel) (Nat.le_of_ble_eq_true rfl) ?_
  intro K O hl0 htab hroom hX hns hnc E
  refine z_sub (lv' := [(0, .ref (zq w 0)), (1, .int a1), (2, .ref (zq w 25))]) [0, 1, 2] rfl ?_
  refine z_aload_n O zd_L_ackNumber_0 rfl 2 rfl ?_
  refine z_iconst O (v := 0) zd_L_ackNumber_1 (by decide) ?_
  refine z_aload_n O zd_L_ackNumber_2 rfl 0 rfl ?_
  refine z_iload_n O zd_L_ackNumber_3 rfl 1 rfl ?_
  refine z_callxi O hl0 hX (st := [.int 0, .ref (zq w 25)]) 0 5 (fs := zo0 w σ) rfl rfl (c_X_ackNumber l hfl w σ a1 ko) zl_L_51 zm679 zm680 rfl rfl (Nat.le_of_ble_eq_true rfl) (Nat.le_of_ble_eq_true rfl) (Nat.le_of_ble_eq_true rfl) hroom.1 hroom.2 zd_L_ackNumber_4 ?_ ?_
  · intro Ex u hPX
    obtain ⟨rfl, e⟩ := hPX
    refine z_catch (hh := [((0 : Nat), (9 : Nat), (12 : Nat), (31 : Nat))]) (zOk_up O hroom.1 hroom.2) htab [] ⟨0, 9, 12, 31⟩ [] rfl (fun z hz => absurd hz List.not_mem_nil) (by decide) (by decide) zm559 (hns _ zcs2) (fun q => ?_)
    refine z_astore_n (zOk_up O hroom.1 hroom.2) (lv' := [(3, .ref q), (0, .ref (zq w 0)), (1, .int a1), (2, .ref (zq w 25))]) zd_L_ackNumber_12 rfl (Nat.le_of_ble_eq_true rfl) rfl ?_
    refine z_iconst (zOk_up O hroom.1 hroom.2) (v := 1) zd_L_ackNumber_13 (by decide) ?_
    exact E _ _ _ _ zd_L_ackNumber_14 rfl (by unfold f_L_ackNumber; rw [← e]; exact (zwr1 (by decide)).symm)
  · intro r u e
    refine z_i2l (zOk_up O hroom.1 hroom.2) zd_L_ackNumber_7 ?_
    refine z_last (zOk_up O hroom.1 hroom.2) (x := r) rfl zd_L_ackNumber_8 ?_
    refine z_goto (zOk_up O hroom.1 hroom.2) (tgt := 15) zd_L_ackNumber_9 (by decide) ?_
    refine z_iconst (zOk_up O hroom.1 hroom.2) (v := 0) zd_L_ackNumber_15 (by decide) ?_
    exact E _ _ _ _ zd_L_ackNumber_16 rfl (by unfold f_L_ackNumber; rw [← e]; exact zwr0.symm)
set_option maxHeartbeats 4000000 in
set_option maxRecDepth 100000 in
theorem c_X_ackWindow (l : Launch) (hfl : l.stackTraces = false) (w : zWd) (σ : zSt) (a1 : Int32) (ko : k_X_ackWindow σ a1) : zMx l ({ cls := "SluiceStream", name := "ackWindow", desc := "(I)I" } : Jvm.MethodName) prog_1_method_17_code 2 6 90 .int w [.ref (zq w 0), .int a1] σ (fun r u => ((0 : Int32), r, u) = (f_X_ackWindow σ a1)) (fun E u => (E = "java/lang/IndexOutOfBoundsException" ∧ ((1 : Int32), (0 : Int32), u) = (f_X_ackWindow σ a1))) := by
  refine zMx_of hfl (by decide +kernel) (Nat.le_of_ble_eq_true rfl) (Nat.le_of_ble_eq_true rfl) ?_
  intro K O hl0 E EX
  have ht : (f_X_ackWindow σ a1) = (f_X_ackWindow σ a1) := rfl
  refine z_sub (lv' := [(0, .ref (zq w 0)), (1, .int a1)]) [0, 1] rfl ?_
  refine z_aload_n O zd_X_ackWindow_0 rfl 0 rfl ?_
  refine zg_X_36_0 O zd_X_ackWindow_1 (v := .ref (zq w 11)) rfl ?_
  refine z_iload_n O zd_X_ackWindow_4 rfl 1 rfl ?_
  refine z_callri O hl0 (st := []) 11 2 (fs := zo11 w σ) rfl rfl (c_W_holds_11 l w σ a1) zl_X_77 zm218 zm219 rfl rfl (Nat.le_of_ble_eq_true rfl) (Nat.le_of_ble_eq_true rfl) (Nat.le_of_ble_eq_true rfl) zd_X_ackWindow_5 (fun r1 e2 => ?_)
  have ht := ht.trans (zlet_e e2)
  have ko := ko r1 e2
  refine z_if_ne O (tgt := 19) zd_X_ackWindow_8 (by decide) (fun c3 => ?_) (fun c3 => ?_)
  · have ht := ht.trans (if_neg c3)
    have ko := ko c3
    refine z_aload_n O zd_X_ackWindow_19 rfl 0 rfl ?_
    refine zg_X_36_0 O zd_X_ackWindow_20 (v := .ref (zq w 11)) rfl ?_
    refine z_iload_n O zd_X_ackWindow_23 rfl 1 rfl ?_
    refine z_iconst O (v := 1) zd_X_ackWindow_24 (by decide) ?_
    refine z_callri O hl0 (st := []) 11 2 (fs := zo11 w σ) rfl rfl (c_W_cell_11 l w σ a1 1 ko) zl_X_84 zm581 zm582 rfl rfl (Nat.le_of_ble_eq_true rfl) (Nat.le_of_ble_eq_true rfl) (Nat.le_of_ble_eq_true rfl) zd_X_ackWindow_25 (fun r4 e5 => ?_)
    have ht := ht.trans (zlet_e e5)
    exact E _ _ _ _ zd_X_ackWindow_28 rfl ht.symm
  · have ht := ht.trans (if_pos c3)
    exact EX _ _ _ _ _ _ _ zt_X_81 (Nat.le_of_ble_eq_true rfl) zd_X_ackWindow_11 zd_X_ackWindow_14 zd_X_ackWindow_15 zd_X_ackWindow_18 ⟨rfl, ht.symm⟩
set_option maxHeartbeats 4000000 in
set_option maxRecDepth 100000 in
theorem c_L_ackWindow (l : Launch) (hfl : l.stackTraces = false) (w : zWd) (σ : zSt) (a1 : Int32) (ko : k_X_ackWindow σ a1) : zMw l ({ cls := "SluiceStreamLaw", name := "ackWindow", desc := "(LSluiceStream;I[J)I" } : Jvm.MethodName) method_15_code 4 [((0 : Nat), (9 : Nat), (12 : Nat), (31 : Nat))] 7 111 w [.ref (zq w 0), .int a1, .ref (zq w 25)] σ (fun r u => (r, u) = f_L_ackWindow σ a1) := by
  refine zMw_of (by decide +kernel) (Nat.le_of_ble_eq_true rfl) ?_
  intro K O hl0 htab hroom hX hns hnc E
  refine z_sub (lv' := [(0, .ref (zq w 0)), (1, .int a1), (2, .ref (zq w 25))]) [0, 1, 2] rfl ?_
  refine z_aload_n O zd_L_ackWindow_0 rfl 2 rfl ?_
  refine z_iconst O (v := 0) zd_L_ackWindow_1 (by decide) ?_
  refine z_aload_n O zd_L_ackWindow_2 rfl 0 rfl ?_
  refine z_iload_n O zd_L_ackWindow_3 rfl 1 rfl ?_
  refine z_callxi O hl0 hX (st := [.int 0, .ref (zq w 25)]) 0 5 (fs := zo0 w σ) rfl rfl (c_X_ackWindow l hfl w σ a1 ko) zl_L_54 zm686 zm687 rfl rfl (Nat.le_of_ble_eq_true rfl) (Nat.le_of_ble_eq_true rfl) (Nat.le_of_ble_eq_true rfl) hroom.1 hroom.2 zd_L_ackWindow_4 ?_ ?_
  · intro Ex u hPX
    obtain ⟨rfl, e⟩ := hPX
    refine z_catch (hh := [((0 : Nat), (9 : Nat), (12 : Nat), (31 : Nat))]) (zOk_up O hroom.1 hroom.2) htab [] ⟨0, 9, 12, 31⟩ [] rfl (fun z hz => absurd hz List.not_mem_nil) (by decide) (by decide) zm559 (hns _ zcs2) (fun q => ?_)
    refine z_astore_n (zOk_up O hroom.1 hroom.2) (lv' := [(3, .ref q), (0, .ref (zq w 0)), (1, .int a1), (2, .ref (zq w 25))]) zd_L_ackWindow_12 rfl (Nat.le_of_ble_eq_true rfl) rfl ?_
    refine z_iconst (zOk_up O hroom.1 hroom.2) (v := 1) zd_L_ackWindow_13 (by decide) ?_
    exact E _ _ _ _ zd_L_ackWindow_14 rfl (by unfold f_L_ackWindow; rw [← e]; exact (zwr1 (by decide)).symm)
  · intro r u e
    refine z_i2l (zOk_up O hroom.1 hroom.2) zd_L_ackWindow_7 ?_
    refine z_last (zOk_up O hroom.1 hroom.2) (x := r) rfl zd_L_ackWindow_8 ?_
    refine z_goto (zOk_up O hroom.1 hroom.2) (tgt := 15) zd_L_ackWindow_9 (by decide) ?_
    refine z_iconst (zOk_up O hroom.1 hroom.2) (v := 0) zd_L_ackWindow_15 (by decide) ?_
    exact E _ _ _ _ zd_L_ackWindow_16 rfl (by unfold f_L_ackWindow; rw [← e]; exact zwr0.symm)
set_option maxHeartbeats 4000000 in
set_option maxRecDepth 100000 in
theorem c_X_ackBlocks (l : Launch) (hfl : l.stackTraces = false) (w : zWd) (σ : zSt) (a1 : Int32) (ko : k_X_ackBlocks σ a1) : zMx l ({ cls := "SluiceStream", name := "ackBlocks", desc := "(I)I" } : Jvm.MethodName) prog_1_method_18_code 2 6 90 .int w [.ref (zq w 0), .int a1] σ (fun r u => ((0 : Int32), r, u) = (f_X_ackBlocks σ a1)) (fun E u => (E = "java/lang/IndexOutOfBoundsException" ∧ ((1 : Int32), (0 : Int32), u) = (f_X_ackBlocks σ a1))) := by
  refine zMx_of hfl (by decide +kernel) (Nat.le_of_ble_eq_true rfl) (Nat.le_of_ble_eq_true rfl) ?_
  intro K O hl0 E EX
  have ht : (f_X_ackBlocks σ a1) = (f_X_ackBlocks σ a1) := rfl
  refine z_sub (lv' := [(0, .ref (zq w 0)), (1, .int a1)]) [0, 1] rfl ?_
  refine z_aload_n O zd_X_ackBlocks_0 rfl 0 rfl ?_
  refine zg_X_36_0 O zd_X_ackBlocks_1 (v := .ref (zq w 11)) rfl ?_
  refine z_iload_n O zd_X_ackBlocks_4 rfl 1 rfl ?_
  refine z_callri O hl0 (st := []) 11 2 (fs := zo11 w σ) rfl rfl (c_W_holds_11 l w σ a1) zl_X_77 zm218 zm219 rfl rfl (Nat.le_of_ble_eq_true rfl) (Nat.le_of_ble_eq_true rfl) (Nat.le_of_ble_eq_true rfl) zd_X_ackBlocks_5 (fun r1 e2 => ?_)
  have ht := ht.trans (zlet_e e2)
  have ko := ko r1 e2
  refine z_if_ne O (tgt := 19) zd_X_ackBlocks_8 (by decide) (fun c3 => ?_) (fun c3 => ?_)
  · have ht := ht.trans (if_neg c3)
    have ko := ko c3
    refine z_aload_n O zd_X_ackBlocks_19 rfl 0 rfl ?_
    refine zg_X_36_0 O zd_X_ackBlocks_20 (v := .ref (zq w 11)) rfl ?_
    refine z_iload_n O zd_X_ackBlocks_23 rfl 1 rfl ?_
    refine z_iconst O (v := 2) zd_X_ackBlocks_24 (by decide) ?_
    refine z_callri O hl0 (st := []) 11 2 (fs := zo11 w σ) rfl rfl (c_W_cell_11 l w σ a1 2 ko) zl_X_84 zm581 zm582 rfl rfl (Nat.le_of_ble_eq_true rfl) (Nat.le_of_ble_eq_true rfl) (Nat.le_of_ble_eq_true rfl) zd_X_ackBlocks_25 (fun r4 e5 => ?_)
    have ht := ht.trans (zlet_e e5)
    exact E _ _ _ _ zd_X_ackBlocks_28 rfl ht.symm
  · have ht := ht.trans (if_pos c3)
    exact EX _ _ _ _ _ _ _ zt_X_81 (Nat.le_of_ble_eq_true rfl) zd_X_ackBlocks_11 zd_X_ackBlocks_14 zd_X_ackBlocks_15 zd_X_ackBlocks_18 ⟨rfl, ht.symm⟩
set_option maxHeartbeats 4000000 in
set_option maxRecDepth 100000 in
theorem c_L_ackBlocks (l : Launch) (hfl : l.stackTraces = false) (w : zWd) (σ : zSt) (a1 : Int32) (ko : k_X_ackBlocks σ a1) : zMw l ({ cls := "SluiceStreamLaw", name := "ackBlocks", desc := "(LSluiceStream;I[J)I" } : Jvm.MethodName) method_16_code 4 [((0 : Nat), (9 : Nat), (12 : Nat), (31 : Nat))] 7 111 w [.ref (zq w 0), .int a1, .ref (zq w 25)] σ (fun r u => (r, u) = f_L_ackBlocks σ a1) := by
  refine zMw_of (by decide +kernel) (Nat.le_of_ble_eq_true rfl) ?_
  intro K O hl0 htab hroom hX hns hnc E
  refine z_sub (lv' := [(0, .ref (zq w 0)), (1, .int a1), (2, .ref (zq w 25))]) [0, 1, 2] rfl ?_
  refine z_aload_n O zd_L_ackBlocks_0 rfl 2 rfl ?_
  refine z_iconst O (v := 0) zd_L_ackBlocks_1 (by decide) ?_
  refine z_aload_n O zd_L_ackBlocks_2 rfl 0 rfl ?_
  refine z_iload_n O zd_L_ackBlocks_3 rfl 1 rfl ?_
  refine z_callxi O hl0 hX (st := [.int 0, .ref (zq w 25)]) 0 5 (fs := zo0 w σ) rfl rfl (c_X_ackBlocks l hfl w σ a1 ko) zl_L_57 zm693 zm694 rfl rfl (Nat.le_of_ble_eq_true rfl) (Nat.le_of_ble_eq_true rfl) (Nat.le_of_ble_eq_true rfl) hroom.1 hroom.2 zd_L_ackBlocks_4 ?_ ?_
  · intro Ex u hPX
    obtain ⟨rfl, e⟩ := hPX
    refine z_catch (hh := [((0 : Nat), (9 : Nat), (12 : Nat), (31 : Nat))]) (zOk_up O hroom.1 hroom.2) htab [] ⟨0, 9, 12, 31⟩ [] rfl (fun z hz => absurd hz List.not_mem_nil) (by decide) (by decide) zm559 (hns _ zcs2) (fun q => ?_)
    refine z_astore_n (zOk_up O hroom.1 hroom.2) (lv' := [(3, .ref q), (0, .ref (zq w 0)), (1, .int a1), (2, .ref (zq w 25))]) zd_L_ackBlocks_12 rfl (Nat.le_of_ble_eq_true rfl) rfl ?_
    refine z_iconst (zOk_up O hroom.1 hroom.2) (v := 1) zd_L_ackBlocks_13 (by decide) ?_
    exact E _ _ _ _ zd_L_ackBlocks_14 rfl (by unfold f_L_ackBlocks; rw [← e]; exact (zwr1 (by decide)).symm)
  · intro r u e
    refine z_i2l (zOk_up O hroom.1 hroom.2) zd_L_ackBlocks_7 ?_
    refine z_last (zOk_up O hroom.1 hroom.2) (x := r) rfl zd_L_ackBlocks_8 ?_
    refine z_goto (zOk_up O hroom.1 hroom.2) (tgt := 15) zd_L_ackBlocks_9 (by decide) ?_
    refine z_iconst (zOk_up O hroom.1 hroom.2) (v := 0) zd_L_ackBlocks_15 (by decide) ?_
    exact E _ _ _ _ zd_L_ackBlocks_16 rfl (by unfold f_L_ackBlocks; rw [← e]; exact zwr0.symm)
set_option maxHeartbeats 4000000 in
set_option maxRecDepth 100000 in
theorem c_X_ackBlock (l : Launch) (hfl : l.stackTraces = false) (w : zWd) (σ : zSt) (a1 : Int32) (a2 : Int32) (ko : k_X_ackBlock σ a1 a2) : zMx l ({ cls := "SluiceStream", name := "ackBlock", desc := "(II)I" } : Jvm.MethodName) prog_1_method_19_code 3 6 90 .int w [.ref (zq w 0), .int a1, .int a2] σ (fun r u => ((0 : Int32), r, u) = (f_X_ackBlock σ a1 a2)) (fun E u => (E = "java/lang/IndexOutOfBoundsException" ∧ ((1 : Int32), (0 : Int32), u) = (f_X_ackBlock σ a1 a2))) := by
  refine zMx_of hfl (by decide +kernel) (Nat.le_of_ble_eq_true rfl) (Nat.le_of_ble_eq_true rfl) ?_
  intro K O hl0 E EX
  have ht : (f_X_ackBlock σ a1 a2) = (f_X_ackBlock σ a1 a2) := rfl
  refine z_sub (lv' := [(0, .ref (zq w 0)), (1, .int a1), (2, .int a2)]) [0, 1, 2] rfl ?_
  refine z_aload_n O zd_X_ackBlock_0 rfl 0 rfl ?_
  refine zg_X_36_0 O zd_X_ackBlock_1 (v := .ref (zq w 11)) rfl ?_
  refine z_iload_n O zd_X_ackBlock_4 rfl 1 rfl ?_
  refine z_callri O hl0 (st := []) 11 2 (fs := zo11 w σ) rfl rfl (c_W_holds_11 l w σ a1) zl_X_77 zm218 zm219 rfl rfl (Nat.le_of_ble_eq_true rfl) (Nat.le_of_ble_eq_true rfl) (Nat.le_of_ble_eq_true rfl) zd_X_ackBlock_5 (fun r1 e2 => ?_)
  have ht := ht.trans (zlet_e e2)
  have ko := ko r1 e2
  refine z_if_eq O (tgt := 28) zd_X_ackBlock_8 (by decide) (fun c3 => ?_) (fun c3 => ?_)
  · have ht := ht.trans (if_pos c3)
    exact EX _ _ _ _ _ _ _ zt_X_81 (Nat.le_of_ble_eq_true rfl) zd_X_ackBlock_28 zd_X_ackBlock_31 zd_X_ackBlock_32 zd_X_ackBlock_35 ⟨rfl, ht.symm⟩
  · have ht := ht.trans (if_neg c3)
    have ko := ko c3
    refine z_iload_n O zd_X_ackBlock_11 rfl 2 rfl ?_
    refine z_if_lt O (tgt := 28) zd_X_ackBlock_12 (by decide) (fun c4 => ?_) (fun c4 => ?_)
    · have ht := ht.trans (if_pos c4)
      exact EX _ _ _ _ _ _ _ zt_X_81 (Nat.le_of_ble_eq_true rfl) zd_X_ackBlock_28 zd_X_ackBlock_31 zd_X_ackBlock_32 zd_X_ackBlock_35 ⟨rfl, ht.symm⟩
    · have ht := ht.trans (if_neg c4)
      have ko := ko c4
      refine z_iload_n O zd_X_ackBlock_15 rfl 2 rfl ?_
      refine z_aload_n O zd_X_ackBlock_16 rfl 0 rfl ?_
      refine zg_X_36_0 O zd_X_ackBlock_17 (v := .ref (zq w 11)) rfl ?_
      refine z_iload_n O zd_X_ackBlock_20 rfl 1 rfl ?_
      refine z_iconst O (v := 2) zd_X_ackBlock_21 (by decide) ?_
      refine z_callri O hl0 (st := [.int a2]) 11 2 (fs := zo11 w σ) rfl rfl (c_W_cell_11 l w σ a1 2 ko.1) zl_X_84 zm581 zm582 rfl rfl (Nat.le_of_ble_eq_true rfl) (Nat.le_of_ble_eq_true rfl) (Nat.le_of_ble_eq_true rfl) zd_X_ackBlock_22 (fun r5 e6 => ?_)
      have ht := ht.trans (zlet_e e6)
      have ko := ko.2 r5 e6
      refine z_icmp_lt O (tgt := 36) zd_X_ackBlock_25 (by decide) (fun c7 => ?_) (fun c7 => ?_)
      · have ht := ht.trans (if_pos c7)
        have ko := ko c7
        refine z_aload_n O zd_X_ackBlock_36 rfl 0 rfl ?_
        refine zg_X_36_0 O zd_X_ackBlock_37 (v := .ref (zq w 11)) rfl ?_
        refine z_iload_n O zd_X_ackBlock_40 rfl 1 rfl ?_
        refine z_iconst O (v := 3) zd_X_ackBlock_41 (by decide) ?_
        refine z_iconst O (v := 2) zd_X_ackBlock_42 (by decide) ?_
        refine z_iload_n O zd_X_ackBlock_43 rfl 2 rfl ?_
        refine z_imul O zd_X_ackBlock_44 ?_
        refine z_iadd O zd_X_ackBlock_45 ?_
        refine z_callri O hl0 (st := []) 11 2 (fs := zo11 w σ) rfl rfl (c_W_cell_11 l w σ a1 (3 + (2 * a2)) ko) zl_X_84 zm581 zm582 rfl rfl (Nat.le_of_ble_eq_true rfl) (Nat.le_of_ble_eq_true rfl) (Nat.le_of_ble_eq_true rfl) zd_X_ackBlock_46 (fun r8 e9 => ?_)
        have ht := ht.trans (zlet_e e9)
        exact E _ _ _ _ zd_X_ackBlock_49 rfl ht.symm
      · have ht := ht.trans (if_neg c7)
        exact EX _ _ _ _ _ _ _ zt_X_81 (Nat.le_of_ble_eq_true rfl) zd_X_ackBlock_28 zd_X_ackBlock_31 zd_X_ackBlock_32 zd_X_ackBlock_35 ⟨rfl, ht.symm⟩
set_option maxHeartbeats 4000000 in
set_option maxRecDepth 100000 in
theorem c_L_ackBlock (l : Launch) (hfl : l.stackTraces = false) (w : zWd) (σ : zSt) (a1 : Int32) (a2 : Int32) (ko : k_X_ackBlock σ a1 a2) : zMw l ({ cls := "SluiceStreamLaw", name := "ackBlock", desc := "(LSluiceStream;II[J)I" } : Jvm.MethodName) method_17_code 5 [((0 : Nat), (10 : Nat), (13 : Nat), (31 : Nat))] 7 112 w [.ref (zq w 0), .int a1, .int a2, .ref (zq w 25)] σ (fun r u => (r, u) = f_L_ackBlock σ a1 a2) := by
  refine zMw_of (by decide +kernel) (Nat.le_of_ble_eq_true rfl) ?_
  intro K O hl0 htab hroom hX hns hnc E
  refine z_sub (lv' := [(0, .ref (zq w 0)), (1, .int a1), (2, .int a2), (3, .ref (zq w 25))]) [0, 1, 2, 3] rfl ?_
  refine z_aload_n O zd_L_ackBlock_0 rfl 3 rfl ?_
  refine z_iconst O (v := 0) zd_L_ackBlock_1 (by decide) ?_
  refine z_aload_n O zd_L_ackBlock_2 rfl 0 rfl ?_
  refine z_iload_n O zd_L_ackBlock_3 rfl 1 rfl ?_
  refine z_iload_n O zd_L_ackBlock_4 rfl 2 rfl ?_
  refine z_callxi O hl0 hX (st := [.int 0, .ref (zq w 25)]) 0 5 (fs := zo0 w σ) rfl rfl (c_X_ackBlock l hfl w σ a1 a2 ko) zl_L_60 zm700 zm701 rfl rfl (Nat.le_of_ble_eq_true rfl) (Nat.le_of_ble_eq_true rfl) (Nat.le_of_ble_eq_true rfl) hroom.1 hroom.2 zd_L_ackBlock_5 ?_ ?_
  · intro Ex u hPX
    obtain ⟨rfl, e⟩ := hPX
    refine z_catch (hh := [((0 : Nat), (10 : Nat), (13 : Nat), (31 : Nat))]) (zOk_up O hroom.1 hroom.2) htab [] ⟨0, 10, 13, 31⟩ [] rfl (fun z hz => absurd hz List.not_mem_nil) (by decide) (by decide) zm559 (hns _ zcs2) (fun q => ?_)
    refine z_astore (zOk_up O hroom.1 hroom.2) (lv' := [(4, .ref q), (0, .ref (zq w 0)), (1, .int a1), (2, .int a2), (3, .ref (zq w 25))]) zd_L_ackBlock_13 (Nat.le_of_ble_eq_true rfl) rfl ?_
    refine z_iconst (zOk_up O hroom.1 hroom.2) (v := 1) zd_L_ackBlock_15 (by decide) ?_
    exact E _ _ _ _ zd_L_ackBlock_16 rfl (by unfold f_L_ackBlock; rw [← e]; exact (zwr1 (by decide)).symm)
  · intro r u e
    refine z_i2l (zOk_up O hroom.1 hroom.2) zd_L_ackBlock_8 ?_
    refine z_last (zOk_up O hroom.1 hroom.2) (x := r) rfl zd_L_ackBlock_9 ?_
    refine z_goto (zOk_up O hroom.1 hroom.2) (tgt := 17) zd_L_ackBlock_10 (by decide) ?_
    refine z_iconst (zOk_up O hroom.1 hroom.2) (v := 0) zd_L_ackBlock_17 (by decide) ?_
    exact E _ _ _ _ zd_L_ackBlock_18 rfl (by unfold f_L_ackBlock; rw [← e]; exact zwr0.symm)
set_option maxHeartbeats 4000000 in
set_option maxRecDepth 100000 in
theorem c_X_isMarked (l : Launch) (hfl : l.stackTraces = false) (w : zWd) (σ : zSt) (a1 : Int32) (ko : k_X_isMarked σ a1) : zMx l ({ cls := "SluiceStream", name := "isMarked", desc := "(I)Z" } : Jvm.MethodName) prog_1_method_27_code 2 6 90 .boolean w [.ref (zq w 0), .int a1] σ (fun r u => ((0 : Int32), r, u) = (f_X_isMarked σ a1)) (fun E u => (E = "java/lang/IndexOutOfBoundsException" ∧ ((1 : Int32), (0 : Int32), u) = (f_X_isMarked σ a1))) := by
  refine zMx_of hfl (by decide +kernel) (Nat.le_of_ble_eq_true rfl) (Nat.le_of_ble_eq_true rfl) ?_
  intro K O hl0 E EX
  have ht : (f_X_isMarked σ a1) = (f_X_isMarked σ a1) := rfl
  refine z_sub (lv' := [(0, .ref (zq w 0)), (1, .int a1)]) [0, 1] rfl ?_
  refine z_iload_n O zd_X_isMarked_0 rfl 1 rfl ?_
  refine z_if_lt O (tgt := 15) zd_X_isMarked_1 (by decide) (fun c1 => ?_) (fun c1 => ?_)
  · have ht := ht.trans (if_pos c1)
    exact EX _ _ _ _ _ _ _ zt_X_81 (Nat.le_of_ble_eq_true rfl) zd_X_isMarked_15 zd_X_isMarked_18 zd_X_isMarked_19 zd_X_isMarked_22 ⟨rfl, ht.symm⟩
  · have ht := ht.trans (if_neg c1)
    have ko := ko c1
    refine z_iload_n O zd_X_isMarked_4 rfl 1 rfl ?_
    refine z_aload_n O zd_X_isMarked_5 rfl 0 rfl ?_
    refine zg_X_16_0 O zd_X_isMarked_6 (v := .ref (zq w 2)) rfl ?_
    refine zg_X_42_2 O zd_X_isMarked_9 (v := .int (σ 2 5)) rfl ?_
    refine z_icmp_lt O (tgt := 23) zd_X_isMarked_12 (by decide) (fun c2 => ?_) (fun c2 => ?_)
    · have ht := ht.trans (if_pos c2)
      have ko := ko c2
      refine z_aload_n O zd_X_isMarked_23 rfl 0 rfl ?_
      refine zg_X_16_0 O zd_X_isMarked_24 (v := .ref (zq w 2)) rfl ?_
      refine zg_X_134_2 O zd_X_isMarked_27 (v := .ref (zq w 3)) rfl ?_
      refine z_iload_n O zd_X_isMarked_30 rfl 1 rfl ?_
      refine z_callri O hl0 (st := []) 3 0 (fs := zo3 w σ) rfl rfl (c_P_at_3 l w σ a1 ko) zl_X_138 zm246 zm247 rfl rfl (Nat.le_of_ble_eq_true rfl) (Nat.le_of_ble_eq_true rfl) (Nat.le_of_ble_eq_true rfl) zd_X_isMarked_31 (fun r3 e4 => ?_)
      have ht := ht.trans (zlet_e e4)
      refine z_if_eq O (tgt := 41) zd_X_isMarked_34 (by decide) (fun c5 => ?_) (fun c5 => ?_)
      · have ht := ht.trans (if_pos c5)
        refine z_iconst O (v := 0) zd_X_isMarked_41 (by decide) ?_
        exact E _ _ _ _ zd_X_isMarked_42 rfl ht.symm
      · have ht := ht.trans (if_neg c5)
        refine z_iconst O (v := 1) zd_X_isMarked_37 (by decide) ?_
        refine z_goto O (tgt := 42) zd_X_isMarked_38 (by decide) ?_
        exact E _ _ _ _ zd_X_isMarked_42 rfl ht.symm
    · have ht := ht.trans (if_neg c2)
      exact EX _ _ _ _ _ _ _ zt_X_81 (Nat.le_of_ble_eq_true rfl) zd_X_isMarked_15 zd_X_isMarked_18 zd_X_isMarked_19 zd_X_isMarked_22 ⟨rfl, ht.symm⟩
set_option maxHeartbeats 4000000 in
set_option maxRecDepth 100000 in
theorem c_L_isMarked (l : Launch) (hfl : l.stackTraces = false) (w : zWd) (σ : zSt) (a1 : Int32) (ko : k_X_isMarked σ a1) : zMw l ({ cls := "SluiceStreamLaw", name := "isMarked", desc := "(LSluiceStream;I[J)I" } : Jvm.MethodName) method_18_code 4 [((0 : Nat), (16 : Nat), (19 : Nat), (31 : Nat))] 7 111 w [.ref (zq w 0), .int a1, .ref (zq w 25)] σ (fun r u => (r, u) = f_L_isMarked σ a1) := by
  refine zMw_of (by decide +kernel) (Nat.le_of_ble_eq_true rfl) ?_
  intro K O hl0 htab hroom hX hns hnc E
  refine z_sub (lv' := [(0, .ref (zq w 0)), (1, .int a1), (2, .ref (zq w 25))]) [0, 1, 2] rfl ?_
  refine z_aload_n O zd_L_isMarked_0 rfl 2 rfl ?_
  refine z_iconst O (v := 0) zd_L_isMarked_1 (by decide) ?_
  refine z_aload_n O zd_L_isMarked_2 rfl 0 rfl ?_
  refine z_iload_n O zd_L_isMarked_3 rfl 1 rfl ?_
  refine z_callxi O hl0 hX (st := [.int 0, .ref (zq w 25)]) 0 5 (fs := zo0 w σ) rfl rfl (c_X_isMarked l hfl w σ a1 ko) zl_L_63 zm707 zm708 rfl rfl (Nat.le_of_ble_eq_true rfl) (Nat.le_of_ble_eq_true rfl) (Nat.le_of_ble_eq_true rfl) hroom.1 hroom.2 zd_L_isMarked_4 ?_ ?_
  · intro Ex u hPX
    obtain ⟨rfl, e⟩ := hPX
    refine z_catch (hh := [((0 : Nat), (16 : Nat), (19 : Nat), (31 : Nat))]) (zOk_up O hroom.1 hroom.2) htab [] ⟨0, 16, 19, 31⟩ [] rfl (fun z hz => absurd hz List.not_mem_nil) (by decide) (by decide) zm559 (hns _ zcs2) (fun q => ?_)
    refine z_astore_n (zOk_up O hroom.1 hroom.2) (lv' := [(3, .ref q), (0, .ref (zq w 0)), (1, .int a1), (2, .ref (zq w 25))]) zd_L_isMarked_19 rfl (Nat.le_of_ble_eq_true rfl) rfl ?_
    refine z_iconst (zOk_up O hroom.1 hroom.2) (v := 1) zd_L_isMarked_20 (by decide) ?_
    exact E _ _ _ _ zd_L_isMarked_21 rfl (by unfold f_L_isMarked; rw [← e]; exact (zwb1 (by decide)).symm)
  · intro r u e
    refine z_if_eq (zOk_up O hroom.1 hroom.2) (tgt := 14) zd_L_isMarked_7 (by decide) (fun c => ?_) (fun c => ?_)
    · refine z_lconst (zOk_up O hroom.1 hroom.2) (v := 0) zd_L_isMarked_14 (by decide) ?_
      refine z_last (zOk_up O hroom.1 hroom.2) (x := 0) (by decide) zd_L_isMarked_15 ?_
      refine z_goto (zOk_up O hroom.1 hroom.2) (tgt := 22) zd_L_isMarked_16 (by decide) ?_
      refine z_iconst (zOk_up O hroom.1 hroom.2) (v := 0) zd_L_isMarked_22 (by decide) ?_
      exact E _ _ _ _ zd_L_isMarked_23 rfl (by unfold f_L_isMarked; rw [← e, zwb0, if_pos c]; rfl)
    · refine z_lconst (zOk_up O hroom.1 hroom.2) (v := 1) zd_L_isMarked_10 (by decide) ?_
      refine z_goto (zOk_up O hroom.1 hroom.2) (tgt := 15) zd_L_isMarked_11 (by decide) ?_
      refine z_last (zOk_up O hroom.1 hroom.2) (x := 1) (by decide) zd_L_isMarked_15 ?_
      refine z_goto (zOk_up O hroom.1 hroom.2) (tgt := 22) zd_L_isMarked_16 (by decide) ?_
      refine z_iconst (zOk_up O hroom.1 hroom.2) (v := 0) zd_L_isMarked_22 (by decide) ?_
      exact E _ _ _ _ zd_L_isMarked_23 rfl (by unfold f_L_isMarked; rw [← e, zwb0, if_neg c]; rfl)
set_option maxHeartbeats 4000000 in
set_option maxRecDepth 100000 in
theorem c_X_blockStart (l : Launch) (hfl : l.stackTraces = false) (w : zWd) (σ : zSt) (a1 : Int32) (ko : k_X_blockStart σ a1) : zMx l ({ cls := "SluiceStream", name := "blockStart", desc := "(I)I" } : Jvm.MethodName) prog_1_method_43_code 2 6 90 .int w [.ref (zq w 0), .int a1] σ (fun r u => ((0 : Int32), r, u) = (f_X_blockStart σ a1)) (fun E u => (E = "java/lang/IndexOutOfBoundsException" ∧ ((1 : Int32), (0 : Int32), u) = (f_X_blockStart σ a1))) := by
  refine zMx_of hfl (by decide +kernel) (Nat.le_of_ble_eq_true rfl) (Nat.le_of_ble_eq_true rfl) ?_
  intro K O hl0 E EX
  have ht : (f_X_blockStart σ a1) = (f_X_blockStart σ a1) := rfl
  refine z_sub (lv' := [(0, .ref (zq w 0)), (1, .int a1)]) [0, 1] rfl ?_
  refine z_iload_n O zd_X_blockStart_0 rfl 1 rfl ?_
  refine z_if_lt O (tgt := 15) zd_X_blockStart_1 (by decide) (fun c1 => ?_) (fun c1 => ?_)
  · have ht := ht.trans (if_pos c1)
    exact EX _ _ _ _ _ _ _ zt_X_81 (Nat.le_of_ble_eq_true rfl) zd_X_blockStart_15 zd_X_blockStart_18 zd_X_blockStart_19 zd_X_blockStart_22 ⟨rfl, ht.symm⟩
  · have ht := ht.trans (if_neg c1)
    have ko := ko c1
    refine z_iload_n O zd_X_blockStart_4 rfl 1 rfl ?_
    refine z_aload_n O zd_X_blockStart_5 rfl 0 rfl ?_
    refine zg_X_23_0 O zd_X_blockStart_6 (v := .ref (zq w 6)) rfl ?_
    refine z_callri O hl0 (st := [.int a1]) 6 1 (fs := zo6 w σ) rfl rfl (c_R_countBlocks l w σ ko.1) zl_X_179 zm370 zm371 rfl rfl (Nat.le_of_ble_eq_true rfl) (Nat.le_of_ble_eq_true rfl) (Nat.le_of_ble_eq_true rfl) zd_X_blockStart_9 (fun r2 e3 => ?_)
    have ht := ht.trans (zlet_e e3)
    have ko := ko.2 r2 e3
    refine z_icmp_lt O (tgt := 23) zd_X_blockStart_12 (by decide) (fun c4 => ?_) (fun c4 => ?_)
    · have ht := ht.trans (if_pos c4)
      have ko := ko c4
      refine z_aload_n O zd_X_blockStart_23 rfl 0 rfl ?_
      refine zg_X_23_0 O zd_X_blockStart_24 (v := .ref (zq w 6)) rfl ?_
      refine z_iload_n O zd_X_blockStart_27 rfl 1 rfl ?_
      refine z_callri O hl0 (st := []) 6 1 (fs := zo6 w σ) rfl rfl (c_R_startOfBlock l w σ a1 ko) zl_X_182 zm719 zm720 rfl rfl (Nat.le_of_ble_eq_true rfl) (Nat.le_of_ble_eq_true rfl) (Nat.le_of_ble_eq_true rfl) zd_X_blockStart_28 (fun r5 e6 => ?_)
      have ht := ht.trans (zlet_e e6)
      exact E _ _ _ _ zd_X_blockStart_31 rfl ht.symm
    · have ht := ht.trans (if_neg c4)
      exact EX _ _ _ _ _ _ _ zt_X_81 (Nat.le_of_ble_eq_true rfl) zd_X_blockStart_15 zd_X_blockStart_18 zd_X_blockStart_19 zd_X_blockStart_22 ⟨rfl, ht.symm⟩
set_option maxHeartbeats 4000000 in
set_option maxRecDepth 100000 in
theorem c_L_blockStart (l : Launch) (hfl : l.stackTraces = false) (w : zWd) (σ : zSt) (a1 : Int32) (ko : k_X_blockStart σ a1) : zMw l ({ cls := "SluiceStreamLaw", name := "blockStart", desc := "(LSluiceStream;I[J)I" } : Jvm.MethodName) method_19_code 4 [((0 : Nat), (9 : Nat), (12 : Nat), (31 : Nat))] 7 111 w [.ref (zq w 0), .int a1, .ref (zq w 25)] σ (fun r u => (r, u) = f_L_blockStart σ a1) := by
  refine zMw_of (by decide +kernel) (Nat.le_of_ble_eq_true rfl) ?_
  intro K O hl0 htab hroom hX hns hnc E
  refine z_sub (lv' := [(0, .ref (zq w 0)), (1, .int a1), (2, .ref (zq w 25))]) [0, 1, 2] rfl ?_
  refine z_aload_n O zd_L_blockStart_0 rfl 2 rfl ?_
  refine z_iconst O (v := 0) zd_L_blockStart_1 (by decide) ?_
  refine z_aload_n O zd_L_blockStart_2 rfl 0 rfl ?_
  refine z_iload_n O zd_L_blockStart_3 rfl 1 rfl ?_
  refine z_callxi O hl0 hX (st := [.int 0, .ref (zq w 25)]) 0 5 (fs := zo0 w σ) rfl rfl (c_X_blockStart l hfl w σ a1 ko) zl_L_67 zm715 zm716 rfl rfl (Nat.le_of_ble_eq_true rfl) (Nat.le_of_ble_eq_true rfl) (Nat.le_of_ble_eq_true rfl) hroom.1 hroom.2 zd_L_blockStart_4 ?_ ?_
  · intro Ex u hPX
    obtain ⟨rfl, e⟩ := hPX
    refine z_catch (hh := [((0 : Nat), (9 : Nat), (12 : Nat), (31 : Nat))]) (zOk_up O hroom.1 hroom.2) htab [] ⟨0, 9, 12, 31⟩ [] rfl (fun z hz => absurd hz List.not_mem_nil) (by decide) (by decide) zm559 (hns _ zcs2) (fun q => ?_)
    refine z_astore_n (zOk_up O hroom.1 hroom.2) (lv' := [(3, .ref q), (0, .ref (zq w 0)), (1, .int a1), (2, .ref (zq w 25))]) zd_L_blockStart_12 rfl (Nat.le_of_ble_eq_true rfl) rfl ?_
    refine z_iconst (zOk_up O hroom.1 hroom.2) (v := 1) zd_L_blockStart_13 (by decide) ?_
    exact E _ _ _ _ zd_L_blockStart_14 rfl (by unfold f_L_blockStart; rw [← e]; exact (zwr1 (by decide)).symm)
  · intro r u e
    refine z_i2l (zOk_up O hroom.1 hroom.2) zd_L_blockStart_7 ?_
    refine z_last (zOk_up O hroom.1 hroom.2) (x := r) rfl zd_L_blockStart_8 ?_
    refine z_goto (zOk_up O hroom.1 hroom.2) (tgt := 15) zd_L_blockStart_9 (by decide) ?_
    refine z_iconst (zOk_up O hroom.1 hroom.2) (v := 0) zd_L_blockStart_15 (by decide) ?_
    exact E _ _ _ _ zd_L_blockStart_16 rfl (by unfold f_L_blockStart; rw [← e]; exact zwr0.symm)
set_option maxHeartbeats 4000000 in
set_option maxRecDepth 100000 in
theorem c_X_blockEnd (l : Launch) (hfl : l.stackTraces = false) (w : zWd) (σ : zSt) (a1 : Int32) (ko : k_X_blockEnd σ a1) : zMx l ({ cls := "SluiceStream", name := "blockEnd", desc := "(I)I" } : Jvm.MethodName) prog_1_method_44_code 2 6 90 .int w [.ref (zq w 0), .int a1] σ (fun r u => ((0 : Int32), r, u) = (f_X_blockEnd σ a1)) (fun E u => (E = "java/lang/IndexOutOfBoundsException" ∧ ((1 : Int32), (0 : Int32), u) = (f_X_blockEnd σ a1))) := by
  refine zMx_of hfl (by decide +kernel) (Nat.le_of_ble_eq_true rfl) (Nat.le_of_ble_eq_true rfl) ?_
  intro K O hl0 E EX
  have ht : (f_X_blockEnd σ a1) = (f_X_blockEnd σ a1) := rfl
  refine z_sub (lv' := [(0, .ref (zq w 0)), (1, .int a1)]) [0, 1] rfl ?_
  refine z_iload_n O zd_X_blockEnd_0 rfl 1 rfl ?_
  refine z_if_lt O (tgt := 15) zd_X_blockEnd_1 (by decide) (fun c1 => ?_) (fun c1 => ?_)
  · have ht := ht.trans (if_pos c1)
    exact EX _ _ _ _ _ _ _ zt_X_81 (Nat.le_of_ble_eq_true rfl) zd_X_blockEnd_15 zd_X_blockEnd_18 zd_X_blockEnd_19 zd_X_blockEnd_22 ⟨rfl, ht.symm⟩
  · have ht := ht.trans (if_neg c1)
    have ko := ko c1
    refine z_iload_n O zd_X_blockEnd_4 rfl 1 rfl ?_
    refine z_aload_n O zd_X_blockEnd_5 rfl 0 rfl ?_
    refine zg_X_23_0 O zd_X_blockEnd_6 (v := .ref (zq w 6)) rfl ?_
    refine z_callri O hl0 (st := [.int a1]) 6 1 (fs := zo6 w σ) rfl rfl (c_R_countBlocks l w σ ko.1) zl_X_179 zm370 zm371 rfl rfl (Nat.le_of_ble_eq_true rfl) (Nat.le_of_ble_eq_true rfl) (Nat.le_of_ble_eq_true rfl) zd_X_blockEnd_9 (fun r2 e3 => ?_)
    have ht := ht.trans (zlet_e e3)
    have ko := ko.2 r2 e3
    refine z_icmp_lt O (tgt := 23) zd_X_blockEnd_12 (by decide) (fun c4 => ?_) (fun c4 => ?_)
    · have ht := ht.trans (if_pos c4)
      have ko := ko c4
      refine z_aload_n O zd_X_blockEnd_23 rfl 0 rfl ?_
      refine zg_X_23_0 O zd_X_blockEnd_24 (v := .ref (zq w 6)) rfl ?_
      refine z_aload_n O zd_X_blockEnd_27 rfl 0 rfl ?_
      refine zg_X_23_0 O zd_X_blockEnd_28 (v := .ref (zq w 6)) rfl ?_
      refine z_iload_n O zd_X_blockEnd_31 rfl 1 rfl ?_
      refine z_callri O hl0 (st := [.ref (zq w 6)]) 6 1 (fs := zo6 w σ) rfl rfl (c_R_startOfBlock l w σ a1 ko.1) zl_X_182 zm719 zm720 rfl rfl (Nat.le_of_ble_eq_true rfl) (Nat.le_of_ble_eq_true rfl) (Nat.le_of_ble_eq_true rfl) zd_X_blockEnd_32 (fun r5 e6 => ?_)
      have ht := ht.trans (zlet_e e6)
      have ko := ko.2 r5 e6
      refine z_callri O hl0 (st := []) 6 1 (fs := zo6 w σ) rfl rfl (c_R_endOfRun l w σ r5 ko) zl_X_185 zm250 zm251 rfl rfl (Nat.le_of_ble_eq_true rfl) (Nat.le_of_ble_eq_true rfl) (Nat.le_of_ble_eq_true rfl) zd_X_blockEnd_35 (fun r7 e8 => ?_)
      have ht := ht.trans (zlet_e e8)
      exact E _ _ _ _ zd_X_blockEnd_38 rfl ht.symm
    · have ht := ht.trans (if_neg c4)
      exact EX _ _ _ _ _ _ _ zt_X_81 (Nat.le_of_ble_eq_true rfl) zd_X_blockEnd_15 zd_X_blockEnd_18 zd_X_blockEnd_19 zd_X_blockEnd_22 ⟨rfl, ht.symm⟩
set_option maxHeartbeats 4000000 in
set_option maxRecDepth 100000 in
theorem c_L_blockEnd (l : Launch) (hfl : l.stackTraces = false) (w : zWd) (σ : zSt) (a1 : Int32) (ko : k_X_blockEnd σ a1) : zMw l ({ cls := "SluiceStreamLaw", name := "blockEnd", desc := "(LSluiceStream;I[J)I" } : Jvm.MethodName) method_20_code 4 [((0 : Nat), (9 : Nat), (12 : Nat), (31 : Nat))] 7 111 w [.ref (zq w 0), .int a1, .ref (zq w 25)] σ (fun r u => (r, u) = f_L_blockEnd σ a1) := by
  refine zMw_of (by decide +kernel) (Nat.le_of_ble_eq_true rfl) ?_
  intro K O hl0 htab hroom hX hns hnc E
  refine z_sub (lv' := [(0, .ref (zq w 0)), (1, .int a1), (2, .ref (zq w 25))]) [0, 1, 2] rfl ?_
  refine z_aload_n O zd_L_blockEnd_0 rfl 2 rfl ?_
  refine z_iconst O (v := 0) zd_L_blockEnd_1 (by decide) ?_
  refine z_aload_n O zd_L_blockEnd_2 rfl 0 rfl ?_
  refine z_iload_n O zd_L_blockEnd_3 rfl 1 rfl ?_
  refine z_callxi O hl0 hX (st := [.int 0, .ref (zq w 25)]) 0 5 (fs := zo0 w σ) rfl rfl (c_X_blockEnd l hfl w σ a1 ko) zl_L_70 zm726 zm727 rfl rfl (Nat.le_of_ble_eq_true rfl) (Nat.le_of_ble_eq_true rfl) (Nat.le_of_ble_eq_true rfl) hroom.1 hroom.2 zd_L_blockEnd_4 ?_ ?_
  · intro Ex u hPX
    obtain ⟨rfl, e⟩ := hPX
    refine z_catch (hh := [((0 : Nat), (9 : Nat), (12 : Nat), (31 : Nat))]) (zOk_up O hroom.1 hroom.2) htab [] ⟨0, 9, 12, 31⟩ [] rfl (fun z hz => absurd hz List.not_mem_nil) (by decide) (by decide) zm559 (hns _ zcs2) (fun q => ?_)
    refine z_astore_n (zOk_up O hroom.1 hroom.2) (lv' := [(3, .ref q), (0, .ref (zq w 0)), (1, .int a1), (2, .ref (zq w 25))]) zd_L_blockEnd_12 rfl (Nat.le_of_ble_eq_true rfl) rfl ?_
    refine z_iconst (zOk_up O hroom.1 hroom.2) (v := 1) zd_L_blockEnd_13 (by decide) ?_
    exact E _ _ _ _ zd_L_blockEnd_14 rfl (by unfold f_L_blockEnd; rw [← e]; exact (zwr1 (by decide)).symm)
  · intro r u e
    refine z_i2l (zOk_up O hroom.1 hroom.2) zd_L_blockEnd_7 ?_
    refine z_last (zOk_up O hroom.1 hroom.2) (x := r) rfl zd_L_blockEnd_8 ?_
    refine z_goto (zOk_up O hroom.1 hroom.2) (tgt := 15) zd_L_blockEnd_9 (by decide) ?_
    refine z_iconst (zOk_up O hroom.1 hroom.2) (v := 0) zd_L_blockEnd_15 (by decide) ?_
    exact E _ _ _ _ zd_L_blockEnd_16 rfl (by unfold f_L_blockEnd; rw [← e]; exact zwr0.symm)
