set_option maxHeartbeats 4000000 in
set_option maxRecDepth 100000 in
theorem L_X_write_55 {K : zCx} {w : zWd} {l : Launch} (O : zOk K w prog_1_method_2_code "SluiceStream" 5 6 90) (hl0 : kl K = l) (x1 x2 : Int32) : ∀ (m : Nat) (σ : zSt) (x3 : Int32), kl_X_write_55 x1 x2 m σ x3 → (∀ r, r = (l_X_write_55 x1 x2 m σ x3) → Z K w r [(0, .ref (zq w 0)), (2, .int x2)] [] 106) → Z K w σ [(0, .ref (zq w 0)), (1, .int x1), (2, .int x2), (3, .int x3)] [] 55 := by
  intro m
  induction m with
  | zero => intro σ x3 ko; exact ko.elim
  | succ m ih =>
    intro σ x3 ko kk
    have ht : l_X_write_55 x1 x2 (m + 1) σ x3 = l_X_write_55 x1 x2 (m + 1) σ x3 := rfl
    refine z_iload_n O zd_X_write_55 rfl 3 rfl ?_
    refine z_iload_n O zd_X_write_56 rfl 2 rfl ?_
    refine z_icmp_ge O (tgt := 106) zd_X_write_57 (by decide) (fun c6 => ?_) (fun c6 => ?_)
    · have ht := ht.trans (if_pos c6)
      refine z_sub (lv' := [(0, .ref (zq w 0)), (2, .int x2)]) [0, 2] rfl ?_
      exact kk σ ht.symm
    · have ht := ht.trans (if_neg c6)
      have ko := ko c6
      refine z_aload_n O zd_X_write_60 rfl 0 rfl ?_
      refine zg_X_16_0 O zd_X_write_61 (v := .ref (zq w 2)) rfl ?_
      refine zg_X_42_2 O zd_X_write_64 (v := .int (σ 2 5)) rfl ?_
      refine z_iload_n O zd_X_write_67 rfl 3 rfl ?_
      refine z_iadd O zd_X_write_68 ?_
      refine z_istore O (lv' := [(4, .int ((σ 2 5) + x3)), (0, .ref (zq w 0)), (1, .int x1), (2, .int x2), (3, .int x3)]) zd_X_write_69 (Nat.le_of_ble_eq_true rfl) rfl ?_
      refine z_iload O zd_X_write_71 0 rfl ?_
      refine z_if_lt O (tgt := 100) zd_X_write_73 (by decide) (fun c7 => ?_) (fun c7 => ?_)
      · have ht := ht.trans (if_pos c7)
        have ko := ko.1 c7
        refine z_iinc O (v := (x3 + 1)) (lv' := [(3, .int (x3 + 1)), (4, .int ((σ 2 5) + x3)), (0, .ref (zq w 0)), (1, .int x1), (2, .int x2)]) zd_X_write_100 4 rfl rfl (Nat.le_of_ble_eq_true rfl) rfl ?_
        refine z_goto O (tgt := 55) zd_X_write_103 (by decide) ?_
        refine z_sub (lv' := [(0, .ref (zq w 0)), (1, .int x1), (2, .int x2), (3, .int (x3 + 1))]) [2, 3, 4, 0] rfl ?_
        exact ih σ (x3 + 1) ko (fun r e => kk r (e.trans ht.symm))
      · have ht := ht.trans (if_neg c7)
        have ko := ko.2 c7
        refine z_iload O zd_X_write_76 0 rfl ?_
        refine z_aload_n O zd_X_write_78 rfl 1 rfl ?_
        refine zg_X_9_0 O zd_X_write_79 (v := .ref (zq w 1)) rfl ?_
        refine z_alen O 1 (zae1 w σ) (v := 600) rfl zd_X_write_82 ?_
        refine z_icmp_ge O (tgt := 100) zd_X_write_83 (by decide) (fun c8 => ?_) (fun c8 => ?_)
        · have ht := ht.trans (if_pos c8)
          have ko := ko.1 c8
          refine z_iinc O (v := (x3 + 1)) (lv' := [(3, .int (x3 + 1)), (4, .int ((σ 2 5) + x3)), (0, .ref (zq w 0)), (1, .int x1), (2, .int x2)]) zd_X_write_100 4 rfl rfl (Nat.le_of_ble_eq_true rfl) rfl ?_
          refine z_goto O (tgt := 55) zd_X_write_103 (by decide) ?_
          refine z_sub (lv' := [(0, .ref (zq w 0)), (1, .int x1), (2, .int x2), (3, .int (x3 + 1))]) [2, 3, 4, 0] rfl ?_
          exact ih σ (x3 + 1) ko (fun r e => kk r (e.trans ht.symm))
        · have ht := ht.trans (if_neg c8)
          have ko := ko.2 c8
          refine z_aload_n O zd_X_write_86 rfl 1 rfl ?_
          refine zg_X_9_0 O zd_X_write_87 (v := .ref (zq w 1)) rfl ?_
          refine z_iload O zd_X_write_90 0 rfl ?_
          refine z_iload_n O zd_X_write_92 rfl 2 rfl ?_
          refine z_iload_n O zd_X_write_93 rfl 4 rfl ?_
          refine z_iadd O zd_X_write_94 ?_
          refine z_sipush O (v := 256) zd_X_write_95 (by decide) ?_
          refine z_irem O zd_X_write_98 (by decide) ?_
          have b9 := ko.1
          have ko := ko.2
          refine z_iast O 1 (zae1 w σ) b9 (zas1 w σ _ _) zd_X_write_99 ?_
          refine z_iinc O (v := (x3 + 1)) (lv' := [(3, .int (x3 + 1)), (4, .int ((σ 2 5) + x3)), (0, .ref (zq w 0)), (1, .int x1), (2, .int x2)]) zd_X_write_100 4 rfl rfl (Nat.le_of_ble_eq_true rfl) rfl ?_
          refine z_goto O (tgt := 55) zd_X_write_103 (by decide) ?_
          refine z_sub (lv' := [(0, .ref (zq w 0)), (1, .int x1), (2, .int x2), (3, .int (x3 + 1))]) [2, 3, 4, 0] rfl ?_
          exact ih (zuf σ 1 (((σ 2 5) + x3) : Int32).toNatClampNeg ((x1 + x3) - (x1 + x3) / 256 * 256)) (x3 + 1) ko (fun r e => kk r (e.trans ht.symm))
set_option maxHeartbeats 4000000 in
set_option maxRecDepth 100000 in
theorem c_X_write (l : Launch) (hfl : l.stackTraces = false) (w : zWd) (σ : zSt) (a1 : Int32) (a2 : Int32) (ko : k_X_write σ a1 a2) : zMx l ({ cls := "SluiceStream", name := "write", desc := "(II)I" } : Jvm.MethodName) prog_1_method_2_code 5 6 90 .int w [.ref (zq w 0), .int a1, .int a2] σ (fun r u => ((0 : Int32), r, u) = (f_X_write σ a1 a2)) (fun E u => (E = "java/lang/IllegalArgumentException" ∧ ((1 : Int32), (0 : Int32), u) = (f_X_write σ a1 a2)) ∨ (E = "java/lang/IllegalStateException" ∧ ((2 : Int32), (0 : Int32), u) = (f_X_write σ a1 a2))) := by
  refine zMx_of hfl (by decide +kernel) (Nat.le_of_ble_eq_true rfl) (Nat.le_of_ble_eq_true rfl) ?_
  intro K O hl0 E EX
  have ht : (f_X_write σ a1 a2) = (f_X_write σ a1 a2) := rfl
  refine z_sub (lv' := [(0, .ref (zq w 0)), (1, .int a1), (2, .int a2)]) [0, 1, 2] rfl ?_
  refine z_iload_n O zd_X_write_0 rfl 1 rfl ?_
  refine z_if_lt O (tgt := 22) zd_X_write_1 (by decide) (fun c1 => ?_) (fun c1 => ?_)
  · have ht := ht.trans (if_pos c1)
    exact EX _ _ _ _ _ _ _ zt_X_39 (Nat.le_of_ble_eq_true rfl) zd_X_write_22 zd_X_write_25 zd_X_write_26 zd_X_write_29 (Or.inl ⟨rfl, ht.symm⟩)
  · have ht := ht.trans (if_neg c1)
    have ko := ko c1
    refine z_iload_n O zd_X_write_4 rfl 1 rfl ?_
    refine z_sipush O (v := 256) zd_X_write_5 (by decide) ?_
    refine z_icmp_ge O (tgt := 22) zd_X_write_8 (by decide) (fun c2 => ?_) (fun c2 => ?_)
    · have ht := ht.trans (if_pos c2)
      exact EX _ _ _ _ _ _ _ zt_X_39 (Nat.le_of_ble_eq_true rfl) zd_X_write_22 zd_X_write_25 zd_X_write_26 zd_X_write_29 (Or.inl ⟨rfl, ht.symm⟩)
    · have ht := ht.trans (if_neg c2)
      have ko := ko c2
      refine z_iload_n O zd_X_write_11 rfl 2 rfl ?_
      refine z_iconst O (v := 1) zd_X_write_12 (by decide) ?_
      refine z_icmp_lt O (tgt := 22) zd_X_write_13 (by decide) (fun c3 => ?_) (fun c3 => ?_)
      · have ht := ht.trans (if_pos c3)
        exact EX _ _ _ _ _ _ _ zt_X_39 (Nat.le_of_ble_eq_true rfl) zd_X_write_22 zd_X_write_25 zd_X_write_26 zd_X_write_29 (Or.inl ⟨rfl, ht.symm⟩)
      · have ht := ht.trans (if_neg c3)
        have ko := ko c3
        refine z_iload_n O zd_X_write_16 rfl 2 rfl ?_
        refine z_bipush O (v := 100) zd_X_write_17 (by decide) ?_
        refine z_icmp_le O (tgt := 30) zd_X_write_19 (by decide) (fun c4 => ?_) (fun c4 => ?_)
        · have ht := ht.trans (if_pos c4)
          have ko := ko c4
          refine z_aload_n O zd_X_write_30 rfl 0 rfl ?_
          refine zg_X_16_0 O zd_X_write_31 (v := .ref (zq w 2)) rfl ?_
          refine zg_X_42_2 O zd_X_write_34 (v := .int (σ 2 5)) rfl ?_
          refine z_iload_n O zd_X_write_37 rfl 2 rfl ?_
          refine z_iadd O zd_X_write_38 ?_
          refine z_sipush O (v := 600) zd_X_write_39 (by decide) ?_
          refine z_icmp_le O (tgt := 53) zd_X_write_42 (by decide) (fun c5 => ?_) (fun c5 => ?_)
          · have ht := ht.trans (if_pos c5)
            have ko := ko c5
            refine z_iconst O (v := 0) zd_X_write_53 (by decide) ?_
            refine z_istore_n O (lv' := [(3, .int 0), (0, .ref (zq w 0)), (1, .int a1), (2, .int a2)]) zd_X_write_54 rfl (Nat.le_of_ble_eq_true rfl) rfl ?_
            refine z_sub (lv' := [(0, .ref (zq w 0)), (1, .int a1), (2, .int a2), (3, .int 0)]) [1, 2, 3, 0] rfl ?_
            refine L_X_write_55 O hl0 a1 a2 (((a2).toInt - (0 : Int32).toInt).toNat + 2) σ 0 ko (fun r10 er10 => ?_)
            have ht := ht.trans (zlet_e er10)
            refine z_aload_n O zd_X_write_106 rfl 0 rfl ?_
            refine zg_X_16_0 O zd_X_write_107 (v := .ref (zq w 2)) rfl ?_
            refine z_dup O zd_X_write_110 rfl ?_
            refine zg_X_42_2 O zd_X_write_111 (v := .int (r10 2 5)) rfl ?_
            refine z_iload_n O zd_X_write_114 rfl 1 rfl ?_
            refine z_iadd O zd_X_write_115 ?_
            refine zp_X_42_2 O zd_X_write_116 ?_
            refine z_aload_n O zd_X_write_119 rfl 0 rfl ?_
            refine zg_X_16_0 O zd_X_write_120 (v := .ref (zq w 2)) rfl ?_
            refine zg_X_42_2 O zd_X_write_123 (v := .int ((r10 2 5) + a2)) rfl ?_
            exact E _ _ _ _ zd_X_write_126 rfl ht.symm
          · have ht := ht.trans (if_neg c5)
            exact EX _ _ _ _ _ _ _ zt_X_46 (Nat.le_of_ble_eq_true rfl) zd_X_write_45 zd_X_write_48 zd_X_write_49 zd_X_write_52 (Or.inr ⟨rfl, ht.symm⟩)
        · have ht := ht.trans (if_neg c4)
          exact EX _ _ _ _ _ _ _ zt_X_39 (Nat.le_of_ble_eq_true rfl) zd_X_write_22 zd_X_write_25 zd_X_write_26 zd_X_write_29 (Or.inl ⟨rfl, ht.symm⟩)
set_option maxHeartbeats 4000000 in
set_option maxRecDepth 100000 in
theorem c_L_write (l : Launch) (hfl : l.stackTraces = false) (w : zWd) (σ : zSt) (a1 : Int32) (a2 : Int32) (ko : k_X_write σ a1 a2) : zMw l ({ cls := "SluiceStreamLaw", name := "write", desc := "(LSluiceStream;II[J)I" } : Jvm.MethodName) method_3_code 5 [((0 : Nat), (10 : Nat), (13 : Nat), (13 : Nat)), ((0 : Nat), (10 : Nat), (17 : Nat), (15 : Nat))] 7 114 w [.ref (zq w 0), .int a1, .int a2, .ref (zq w 25)] σ (fun r u => (r, u) = f_L_write σ a1 a2) := by
  refine zMw_of (by decide +kernel) (Nat.le_of_ble_eq_true rfl) ?_
  intro K O hl0 htab hroom hX hns hnc E
  refine z_sub (lv' := [(0, .ref (zq w 0)), (1, .int a1), (2, .int a2), (3, .ref (zq w 25))]) [0, 1, 2, 3] rfl ?_
  refine z_aload_n O zd_L_write_0 rfl 3 rfl ?_
  refine z_iconst O (v := 0) zd_L_write_1 (by decide) ?_
  refine z_aload_n O zd_L_write_2 rfl 0 rfl ?_
  refine z_iload_n O zd_L_write_3 rfl 1 rfl ?_
  refine z_iload_n O zd_L_write_4 rfl 2 rfl ?_
  refine z_callxi O hl0 hX (st := [.int 0, .ref (zq w 25)]) 0 5 (fs := zo0 w σ) rfl rfl (c_X_write l hfl w σ a1 a2 ko) zl_L_7 zm379 zm380 rfl rfl (Nat.le_of_ble_eq_true rfl) (Nat.le_of_ble_eq_true rfl) (Nat.le_of_ble_eq_true rfl) hroom.1 hroom.2 zd_L_write_5 ?_ ?_
  · intro Ex u hPX
    rcases hPX with ⟨rfl, e⟩ | ⟨rfl, e⟩
    · refine z_catch (hh := [((0 : Nat), (10 : Nat), (13 : Nat), (13 : Nat)), ((0 : Nat), (10 : Nat), (17 : Nat), (15 : Nat))]) (zOk_up O hroom.1 hroom.2) htab [] ⟨0, 10, 13, 13⟩ [⟨0, 10, 17, 15⟩] rfl (fun z hz => absurd hz List.not_mem_nil) (by decide) (by decide) zm376 (hns _ zcs0) (fun q => ?_)
      refine z_astore (zOk_up O hroom.1 hroom.2) (lv' := [(4, .ref q), (0, .ref (zq w 0)), (1, .int a1), (2, .int a2), (3, .ref (zq w 25))]) zd_L_write_13 (Nat.le_of_ble_eq_true rfl) rfl ?_
      refine z_iconst (zOk_up O hroom.1 hroom.2) (v := 1) zd_L_write_15 (by decide) ?_
      exact E _ _ _ _ zd_L_write_16 rfl (by unfold f_L_write; rw [← e]; exact (zwr1 (by decide)).symm)
    · refine z_catch (hh := [((0 : Nat), (10 : Nat), (13 : Nat), (13 : Nat)), ((0 : Nat), (10 : Nat), (17 : Nat), (15 : Nat))]) (zOk_up O hroom.1 hroom.2) htab [⟨0, 10, 13, 13⟩] ⟨0, 10, 17, 15⟩ [] rfl (fun z hz => by cases List.mem_singleton.mp hz; exact Or.inr ⟨by decide, _, zm376, hnc.1⟩) (by decide) (by decide) zm377 (hns _ zcs1) (fun q => ?_)
      refine z_astore (zOk_up O hroom.1 hroom.2) (lv' := [(4, .ref q), (0, .ref (zq w 0)), (1, .int a1), (2, .int a2), (3, .ref (zq w 25))]) zd_L_write_17 (Nat.le_of_ble_eq_true rfl) rfl ?_
      refine z_iconst (zOk_up O hroom.1 hroom.2) (v := 2) zd_L_write_19 (by decide) ?_
      exact E _ _ _ _ zd_L_write_20 rfl (by unfold f_L_write; rw [← e]; exact (zwr1 (by decide)).symm)
  · intro r u e
    refine z_i2l (zOk_up O hroom.1 hroom.2) zd_L_write_8 ?_
    refine z_last (zOk_up O hroom.1 hroom.2) (x := r) rfl zd_L_write_9 ?_
    refine z_goto (zOk_up O hroom.1 hroom.2) (tgt := 21) zd_L_write_10 (by decide) ?_
    refine z_iconst (zOk_up O hroom.1 hroom.2) (v := 0) zd_L_write_21 (by decide) ?_
    exact E _ _ _ _ zd_L_write_22 rfl (by unfold f_L_write; rw [← e]; exact zwr0.symm)
set_option maxHeartbeats 4000000 in
set_option maxRecDepth 100000 in
theorem c_X_setLimit (l : Launch) (hfl : l.stackTraces = false) (w : zWd) (σ : zSt) (a1 : Int32) : zMx l ({ cls := "SluiceStream", name := "setLimit", desc := "(I)I" } : Jvm.MethodName) prog_1_method_4_code 3 6 90 .int w [.ref (zq w 0), .int a1] σ (fun r u => ((0 : Int32), r, u) = (f_X_setLimit σ a1)) (fun E u => (E = "java/lang/IllegalArgumentException" ∧ ((1 : Int32), (0 : Int32), u) = (f_X_setLimit σ a1))) := by
  refine zMx_of hfl (by decide +kernel) (Nat.le_of_ble_eq_true rfl) (Nat.le_of_ble_eq_true rfl) ?_
  intro K O hl0 E EX
  have ht : (f_X_setLimit σ a1) = (f_X_setLimit σ a1) := rfl
  refine z_sub (lv' := [(0, .ref (zq w 0)), (1, .int a1)]) [0, 1] rfl ?_
  refine z_iload_n O zd_X_setLimit_0 rfl 1 rfl ?_
  refine z_iconst O (v := 4) zd_X_setLimit_1 (by decide) ?_
  refine z_icmp_lt O (tgt := 12) zd_X_setLimit_2 (by decide) (fun c1 => ?_) (fun c1 => ?_)
  · have ht := ht.trans (if_pos c1)
    exact EX _ _ _ _ _ _ _ zt_X_39 (Nat.le_of_ble_eq_true rfl) zd_X_setLimit_12 zd_X_setLimit_15 zd_X_setLimit_16 zd_X_setLimit_19 ⟨rfl, ht.symm⟩
  · have ht := ht.trans (if_neg c1)
    refine z_iload_n O zd_X_setLimit_5 rfl 1 rfl ?_
    refine z_sipush O (v := 256) zd_X_setLimit_6 (by decide) ?_
    refine z_icmp_le O (tgt := 20) zd_X_setLimit_9 (by decide) (fun c2 => ?_) (fun c2 => ?_)
    · have ht := ht.trans (if_pos c2)
      refine z_aload_n O zd_X_setLimit_20 rfl 0 rfl ?_
      refine zg_X_16_0 O zd_X_setLimit_21 (v := .ref (zq w 2)) rfl ?_
      refine zg_X_63_2 O zd_X_setLimit_24 (v := .int (σ 2 9)) rfl ?_
      refine z_istore_n O (lv' := [(2, .int (σ 2 9)), (0, .ref (zq w 0)), (1, .int a1)]) zd_X_setLimit_27 rfl (Nat.le_of_ble_eq_true rfl) rfl ?_
      refine z_aload_n O zd_X_setLimit_28 rfl 1 rfl ?_
      refine zg_X_16_0 O zd_X_setLimit_29 (v := .ref (zq w 2)) rfl ?_
      refine z_iload_n O zd_X_setLimit_32 rfl 2 rfl ?_
      refine zp_X_63_2 O zd_X_setLimit_33 ?_
      refine z_iload_n O zd_X_setLimit_36 rfl 0 rfl ?_
      exact E _ _ _ _ zd_X_setLimit_37 rfl ht.symm
    · have ht := ht.trans (if_neg c2)
      exact EX _ _ _ _ _ _ _ zt_X_39 (Nat.le_of_ble_eq_true rfl) zd_X_setLimit_12 zd_X_setLimit_15 zd_X_setLimit_16 zd_X_setLimit_19 ⟨rfl, ht.symm⟩
set_option maxHeartbeats 4000000 in
set_option maxRecDepth 100000 in
theorem c_L_setLimit (l : Launch) (hfl : l.stackTraces = false) (w : zWd) (σ : zSt) (a1 : Int32) : zMw l ({ cls := "SluiceStreamLaw", name := "setLimit", desc := "(LSluiceStream;I[J)I" } : Jvm.MethodName) method_4_code 4 [((0 : Nat), (9 : Nat), (12 : Nat), (13 : Nat))] 7 112 w [.ref (zq w 0), .int a1, .ref (zq w 25)] σ (fun r u => (r, u) = f_L_setLimit σ a1) := by
  refine zMw_of (by decide +kernel) (Nat.le_of_ble_eq_true rfl) ?_
  intro K O hl0 htab hroom hX hns hnc E
  refine z_sub (lv' := [(0, .ref (zq w 0)), (1, .int a1), (2, .ref (zq w 25))]) [0, 1, 2] rfl ?_
  refine z_aload_n O zd_L_setLimit_0 rfl 2 rfl ?_
  refine z_iconst O (v := 0) zd_L_setLimit_1 (by decide) ?_
  refine z_aload_n O zd_L_setLimit_2 rfl 0 rfl ?_
  refine z_iload_n O zd_L_setLimit_3 rfl 1 rfl ?_
  refine z_callxi O hl0 hX (st := [.int 0, .ref (zq w 25)]) 0 5 (fs := zo0 w σ) rfl rfl (c_X_setLimit l hfl w σ a1) zl_L_17 zm464 zm465 rfl rfl (Nat.le_of_ble_eq_true rfl) (Nat.le_of_ble_eq_true rfl) (Nat.le_of_ble_eq_true rfl) hroom.1 hroom.2 zd_L_setLimit_4 ?_ ?_
  · intro Ex u hPX
    obtain ⟨rfl, e⟩ := hPX
    refine z_catch (hh := [((0 : Nat), (9 : Nat), (12 : Nat), (13 : Nat))]) (zOk_up O hroom.1 hroom.2) htab [] ⟨0, 9, 12, 13⟩ [] rfl (fun z hz => absurd hz List.not_mem_nil) (by decide) (by decide) zm376 (hns _ zcs0) (fun q => ?_)
    refine z_astore_n (zOk_up O hroom.1 hroom.2) (lv' := [(3, .ref q), (0, .ref (zq w 0)), (1, .int a1), (2, .ref (zq w 25))]) zd_L_setLimit_12 rfl (Nat.le_of_ble_eq_true rfl) rfl ?_
    refine z_iconst (zOk_up O hroom.1 hroom.2) (v := 1) zd_L_setLimit_13 (by decide) ?_
    exact E _ _ _ _ zd_L_setLimit_14 rfl (by unfold f_L_setLimit; rw [← e]; exact (zwr1 (by decide)).symm)
  · intro r u e
    refine z_i2l (zOk_up O hroom.1 hroom.2) zd_L_setLimit_7 ?_
    refine z_last (zOk_up O hroom.1 hroom.2) (x := r) rfl zd_L_setLimit_8 ?_
    refine z_goto (zOk_up O hroom.1 hroom.2) (tgt := 15) zd_L_setLimit_9 (by decide) ?_
    refine z_iconst (zOk_up O hroom.1 hroom.2) (v := 0) zd_L_setLimit_15 (by decide) ?_
    exact E _ _ _ _ zd_L_setLimit_16 rfl (by unfold f_L_setLimit; rw [← e]; exact zwr0.symm)
set_option maxHeartbeats 4000000 in
set_option maxRecDepth 100000 in
theorem c_X_send (l : Launch) (hfl : l.stackTraces = false) (w : zWd) (σ : zSt) (ko : k_X_send σ) : zMx l ({ cls := "SluiceStream", name := "send", desc := "()I" } : Jvm.MethodName) prog_1_method_5_code 1 6 113 .int w [.ref (zq w 0)] σ (fun r u => ((0 : Int32), r, u) = (f_X_send σ)) (fun E u => (E = "java/lang/IllegalStateException" ∧ ((1 : Int32), (0 : Int32), u) = (f_X_send σ))) := by
  refine zMx_of hfl (by decide +kernel) (Nat.le_of_ble_eq_true rfl) (Nat.le_of_ble_eq_true rfl) ?_
  intro K O hl0 E EX
  have ht : (f_X_send σ) = (f_X_send σ) := rfl
  refine z_sub (lv' := [(0, .ref (zq w 0))]) [0] rfl ?_
  refine z_aload_n O zd_X_send_0 rfl 0 rfl ?_
  refine zg_X_32_0 O zd_X_send_1 (v := .ref (zq w 9)) rfl ?_
  refine z_callri O hl0 (st := []) 9 2 (fs := zo9 w σ) rfl rfl (c_W_isFull_9 l w σ) zl_X_66 zm210 zm211 rfl rfl (Nat.le_of_ble_eq_true rfl) (Nat.le_of_ble_eq_true rfl) (Nat.le_of_ble_eq_true rfl) zd_X_send_4 (fun r1 e2 => ?_)
  have ht := ht.trans (zlet_e e2)
  have ko := ko r1 e2
  refine z_if_eq O (tgt := 18) zd_X_send_7 (by decide) (fun c3 => ?_) (fun c3 => ?_)
  · have ht := ht.trans (if_pos c3)
    have ko := ko c3
    refine z_aload_n O zd_X_send_18 rfl 0 rfl ?_
    refine zg_X_16_0 O zd_X_send_19 (v := .ref (zq w 2)) rfl ?_
    refine z_aload_n O zd_X_send_22 rfl 0 rfl ?_
    refine zg_X_32_0 O zd_X_send_23 (v := .ref (zq w 9)) rfl ?_
    refine z_calli O hl0 (st := []) 2 3 (fs := zo2 w σ) rfl rfl (c_S_sendInto l w σ ko) zl_X_69 zm476 zm477 rfl rfl (Nat.le_of_ble_eq_true rfl) (Nat.le_of_ble_eq_true rfl) (Nat.le_of_ble_eq_true rfl) zd_X_send_26 (fun r4 u5 e6 => ?_)
    have ht := ht.trans (zseq_e e6)
    exact E _ _ _ _ zd_X_send_29 rfl ht.symm
  · have ht := ht.trans (if_neg c3)
    exact EX _ _ _ _ _ _ _ zt_X_46 (Nat.le_of_ble_eq_true rfl) zd_X_send_10 zd_X_send_13 zd_X_send_14 zd_X_send_17 ⟨rfl, ht.symm⟩
set_option maxHeartbeats 4000000 in
set_option maxRecDepth 100000 in
theorem c_L_send (l : Launch) (hfl : l.stackTraces = false) (w : zWd) (σ : zSt) (ko : k_X_send σ) : zMw l ({ cls := "SluiceStreamLaw", name := "send", desc := "(LSluiceStream;[J)I" } : Jvm.MethodName) method_5_code 3 [((0 : Nat), (8 : Nat), (11 : Nat), (15 : Nat))] 7 133 w [.ref (zq w 0), .ref (zq w 25)] σ (fun r u => (r, u) = f_L_send σ) := by
  refine zMw_of (by decide +kernel) (Nat.le_of_ble_eq_true rfl) ?_
  intro K O hl0 htab hroom hX hns hnc E
  refine z_sub (lv' := [(0, .ref (zq w 0)), (1, .ref (zq w 25))]) [0, 1] rfl ?_
  refine z_aload_n O zd_L_send_0 rfl 1 rfl ?_
  refine z_iconst O (v := 0) zd_L_send_1 (by decide) ?_
  refine z_aload_n O zd_L_send_2 rfl 0 rfl ?_
  refine z_callxi O hl0 hX (st := [.int 0, .ref (zq w 25)]) 0 5 (fs := zo0 w σ) rfl rfl (c_X_send l hfl w σ ko) zl_L_21 zm471 zm472 rfl rfl (Nat.le_of_ble_eq_true rfl) (Nat.le_of_ble_eq_true rfl) (Nat.le_of_ble_eq_true rfl) hroom.1 hroom.2 zd_L_send_3 ?_ ?_
  · intro Ex u hPX
    obtain ⟨rfl, e⟩ := hPX
    refine z_catch (hh := [((0 : Nat), (8 : Nat), (11 : Nat), (15 : Nat))]) (zOk_up O hroom.1 hroom.2) htab [] ⟨0, 8, 11, 15⟩ [] rfl (fun z hz => absurd hz List.not_mem_nil) (by decide) (by decide) zm377 (hns _ zcs1) (fun q => ?_)
    refine z_astore_n (zOk_up O hroom.1 hroom.2) (lv' := [(2, .ref q), (0, .ref (zq w 0)), (1, .ref (zq w 25))]) zd_L_send_11 rfl (Nat.le_of_ble_eq_true rfl) rfl ?_
    refine z_iconst (zOk_up O hroom.1 hroom.2) (v := 1) zd_L_send_12 (by decide) ?_
    exact E _ _ _ _ zd_L_send_13 rfl (by unfold f_L_send; rw [← e]; exact (zwr1 (by decide)).symm)
  · intro r u e
    refine z_i2l (zOk_up O hroom.1 hroom.2) zd_L_send_6 ?_
    refine z_last (zOk_up O hroom.1 hroom.2) (x := r) rfl zd_L_send_7 ?_
    refine z_goto (zOk_up O hroom.1 hroom.2) (tgt := 14) zd_L_send_8 (by decide) ?_
    refine z_iconst (zOk_up O hroom.1 hroom.2) (v := 0) zd_L_send_14 (by decide) ?_
    exact E _ _ _ _ zd_L_send_15 rfl (by unfold f_L_send; rw [← e]; exact zwr0.symm)
set_option maxHeartbeats 4000000 in
set_option maxRecDepth 100000 in
theorem c_X_tick (l : Launch) (hfl : l.stackTraces = false) (w : zWd) (σ : zSt) (a1 : Int32) (ko : k_X_tick σ a1) : zMx l ({ cls := "SluiceStream", name := "tick", desc := "(I)I" } : Jvm.MethodName) prog_1_method_6_code 2 6 128 .int w [.ref (zq w 0), .int a1] σ (fun r u => ((0 : Int32), r, u) = (f_X_tick σ a1)) (fun E u => (E = "java/lang/IllegalArgumentException" ∧ ((1 : Int32), (0 : Int32), u) = (f_X_tick σ a1))) := by
  refine zMx_of hfl (by decide +kernel) (Nat.le_of_ble_eq_true rfl) (Nat.le_of_ble_eq_true rfl) ?_
  intro K O hl0 E EX
  have ht : (f_X_tick σ a1) = (f_X_tick σ a1) := rfl
  refine z_sub (lv' := [(0, .ref (zq w 0)), (1, .int a1)]) [0, 1] rfl ?_
  refine z_iload_n O zd_X_tick_0 rfl 1 rfl ?_
  refine z_iconst O (v := 1) zd_X_tick_1 (by decide) ?_
  refine z_icmp_lt O (tgt := 11) zd_X_tick_2 (by decide) (fun c1 => ?_) (fun c1 => ?_)
  · have ht := ht.trans (if_pos c1)
    exact EX _ _ _ _ _ _ _ zt_X_39 (Nat.le_of_ble_eq_true rfl) zd_X_tick_11 zd_X_tick_14 zd_X_tick_15 zd_X_tick_18 ⟨rfl, ht.symm⟩
  · have ht := ht.trans (if_neg c1)
    have ko := ko c1
    refine z_iload_n O zd_X_tick_5 rfl 1 rfl ?_
    refine z_bipush O (v := 100) zd_X_tick_6 (by decide) ?_
    refine z_icmp_le O (tgt := 19) zd_X_tick_8 (by decide) (fun c2 => ?_) (fun c2 => ?_)
    · have ht := ht.trans (if_pos c2)
      have ko := ko c2
      refine z_aload_n O zd_X_tick_19 rfl 0 rfl ?_
      refine zg_X_16_0 O zd_X_tick_20 (v := .ref (zq w 2)) rfl ?_
      refine z_iload_n O zd_X_tick_23 rfl 1 rfl ?_
      refine z_calli O hl0 (st := []) 2 3 (fs := zo2 w σ) rfl rfl (c_S_passTicks l w σ a1 ko) zl_X_73 zm524 zm525 rfl rfl (Nat.le_of_ble_eq_true rfl) (Nat.le_of_ble_eq_true rfl) (Nat.le_of_ble_eq_true rfl) zd_X_tick_24 (fun r3 u4 e5 => ?_)
      have ht := ht.trans (zseq_e e5)
      exact E _ _ _ _ zd_X_tick_27 rfl ht.symm
    · have ht := ht.trans (if_neg c2)
      exact EX _ _ _ _ _ _ _ zt_X_39 (Nat.le_of_ble_eq_true rfl) zd_X_tick_11 zd_X_tick_14 zd_X_tick_15 zd_X_tick_18 ⟨rfl, ht.symm⟩
set_option maxHeartbeats 4000000 in
set_option maxRecDepth 100000 in
theorem c_L_tick (l : Launch) (hfl : l.stackTraces = false) (w : zWd) (σ : zSt) (a1 : Int32) (ko : k_X_tick σ a1) : zMw l ({ cls := "SluiceStreamLaw", name := "tick", desc := "(LSluiceStream;I[J)I" } : Jvm.MethodName) method_6_code 4 [((0 : Nat), (9 : Nat), (12 : Nat), (13 : Nat))] 7 149 w [.ref (zq w 0), .int a1, .ref (zq w 25)] σ (fun r u => (r, u) = f_L_tick σ a1) := by
  refine zMw_of (by decide +kernel) (Nat.le_of_ble_eq_true rfl) ?_
  intro K O hl0 htab hroom hX hns hnc E
  refine z_sub (lv' := [(0, .ref (zq w 0)), (1, .int a1), (2, .ref (zq w 25))]) [0, 1, 2] rfl ?_
  refine z_aload_n O zd_L_tick_0 rfl 2 rfl ?_
  refine z_iconst O (v := 0) zd_L_tick_1 (by decide) ?_
  refine z_aload_n O zd_L_tick_2 rfl 0 rfl ?_
  refine z_iload_n O zd_L_tick_3 rfl 1 rfl ?_
  refine z_callxi O hl0 hX (st := [.int 0, .ref (zq w 25)]) 0 5 (fs := zo0 w σ) rfl rfl (c_X_tick l hfl w σ a1 ko) zl_L_25 zm520 zm521 rfl rfl (Nat.le_of_ble_eq_true rfl) (Nat.le_of_ble_eq_true rfl) (Nat.le_of_ble_eq_true rfl) hroom.1 hroom.2 zd_L_tick_4 ?_ ?_
  · intro Ex u hPX
    obtain ⟨rfl, e⟩ := hPX
    refine z_catch (hh := [((0 : Nat), (9 : Nat), (12 : Nat), (13 : Nat))]) (zOk_up O hroom.1 hroom.2) htab [] ⟨0, 9, 12, 13⟩ [] rfl (fun z hz => absurd hz List.not_mem_nil) (by decide) (by decide) zm376 (hns _ zcs0) (fun q => ?_)
    refine z_astore_n (zOk_up O hroom.1 hroom.2) (lv' := [(3, .ref q), (0, .ref (zq w 0)), (1, .int a1), (2, .ref (zq w 25))]) zd_L_tick_12 rfl (Nat.le_of_ble_eq_true rfl) rfl ?_
    refine z_iconst (zOk_up O hroom.1 hroom.2) (v := 1) zd_L_tick_13 (by decide) ?_
    exact E _ _ _ _ zd_L_tick_14 rfl (by unfold f_L_tick; rw [← e]; exact (zwr1 (by decide)).symm)
  · intro r u e
    refine z_i2l (zOk_up O hroom.1 hroom.2) zd_L_tick_7 ?_
    refine z_last (zOk_up O hroom.1 hroom.2) (x := r) rfl zd_L_tick_8 ?_
    refine z_goto (zOk_up O hroom.1 hroom.2) (tgt := 15) zd_L_tick_9 (by decide) ?_
    refine z_iconst (zOk_up O hroom.1 hroom.2) (v := 0) zd_L_tick_15 (by decide) ?_
    exact E _ _ _ _ zd_L_tick_16 rfl (by unfold f_L_tick; rw [← e]; exact zwr0.symm)
set_option maxHeartbeats 4000000 in
set_option maxRecDepth 100000 in
theorem c_X_deliver (l : Launch) (hfl : l.stackTraces = false) (w : zWd) (σ : zSt) (a1 : Int32) (ko : k_X_deliver σ a1) : zMx l ({ cls := "SluiceStream", name := "deliver", desc := "(I)I" } : Jvm.MethodName) prog_1_method_7_code 3 6 143 .int w [.ref (zq w 0), .int a1] σ (fun r u => ((0 : Int32), r, u) = (f_X_deliver σ a1)) (fun E u => (E = "java/lang/IndexOutOfBoundsException" ∧ ((1 : Int32), (0 : Int32), u) = (f_X_deliver σ a1))) := by
  refine zMx_of hfl (by decide +kernel) (Nat.le_of_ble_eq_true rfl) (Nat.le_of_ble_eq_true rfl) ?_
  intro K O hl0 E EX
  have ht : (f_X_deliver σ a1) = (f_X_deliver σ a1) := rfl
  refine z_sub (lv' := [(0, .ref (zq w 0)), (1, .int a1)]) [0, 1] rfl ?_
  refine z_aload_n O zd_X_deliver_0 rfl 0 rfl ?_
  refine zg_X_32_0 O zd_X_deliver_1 (v := .ref (zq w 9)) rfl ?_
  refine z_iload_n O zd_X_deliver_4 rfl 1 rfl ?_
  refine z_callri O hl0 (st := []) 9 2 (fs := zo9 w σ) rfl rfl (c_W_holds_9 l w σ a1) zl_X_77 zm218 zm219 rfl rfl (Nat.le_of_ble_eq_true rfl) (Nat.le_of_ble_eq_true rfl) (Nat.le_of_ble_eq_true rfl) zd_X_deliver_5 (fun r1 e2 => ?_)
  have ht := ht.trans (zlet_e e2)
  have ko := ko r1 e2
  refine z_if_ne O (tgt := 19) zd_X_deliver_8 (by decide) (fun c3 => ?_) (fun c3 => ?_)
  · have ht := ht.trans (if_neg c3)
    have ko := ko c3
    refine z_aload_n O zd_X_deliver_19 rfl 0 rfl ?_
    refine zg_X_23_0 O zd_X_deliver_20 (v := .ref (zq w 6)) rfl ?_
    refine z_aload_n O zd_X_deliver_23 rfl 0 rfl ?_
    refine zg_X_32_0 O zd_X_deliver_24 (v := .ref (zq w 9)) rfl ?_
    refine z_iload_n O zd_X_deliver_27 rfl 1 rfl ?_
    refine z_iconst O (v := 0) zd_X_deliver_28 (by decide) ?_
    refine z_callri O hl0 (st := [.ref (zq w 6)]) 9 2 (fs := zo9 w σ) rfl rfl (c_W_cell_9 l w σ a1 0 ko.1) zl_X_84 zm581 zm582 rfl rfl (Nat.le_of_ble_eq_true rfl) (Nat.le_of_ble_eq_true rfl) (Nat.le_of_ble_eq_true rfl) zd_X_deliver_29 (fun r4 e5 => ?_)
    have ht := ht.trans (zlet_e e5)
    have ko := ko.2 r4 e5
    refine z_aload_n O zd_X_deliver_32 rfl 0 rfl ?_
    refine zg_X_32_0 O zd_X_deliver_33 (v := .ref (zq w 9)) rfl ?_
    refine z_iload_n O zd_X_deliver_36 rfl 1 rfl ?_
    refine z_iconst O (v := 1) zd_X_deliver_37 (by decide) ?_
    refine z_callri O hl0 (st := [.int r4, .ref (zq w 6)]) 9 2 (fs := zo9 w σ) rfl rfl (c_W_cell_9 l w σ a1 1 ko.1) zl_X_84 zm581 zm582 rfl rfl (Nat.le_of_ble_eq_true rfl) (Nat.le_of_ble_eq_true rfl) (Nat.le_of_ble_eq_true rfl) zd_X_deliver_38 (fun r6 e7 => ?_)
    have ht := ht.trans (zlet_e e7)
    have ko := ko.2 r6 e7
    refine z_calli O hl0 (st := []) 6 1 (fs := zo6 w σ) rfl rfl (c_R_takeBytes l w σ r4 r6 ko.1) zl_X_88 zm585 zm586 rfl rfl (Nat.le_of_ble_eq_true rfl) (Nat.le_of_ble_eq_true rfl) (Nat.le_of_ble_eq_true rfl) zd_X_deliver_41 (fun r8 u9 e10 => ?_)
    have ht := ht.trans (zseq_e e10)
    have ko := ko.2 r8 u9 e10
    refine z_istore_n O (lv' := [(2, .int r8), (0, .ref (zq w 0)), (1, .int a1)]) zd_X_deliver_44 rfl (Nat.le_of_ble_eq_true rfl) rfl ?_
    refine z_aload_n O zd_X_deliver_45 rfl 1 rfl ?_
    refine zg_X_32_0 O zd_X_deliver_46 (v := .ref (zq w 9)) rfl ?_
    refine z_iload_n O zd_X_deliver_49 rfl 2 rfl ?_
    refine z_callv O hl0 (st := []) 9 2 (fs := zo9 w u9) rfl rfl (c_W_remove_9 l w u9 a1 ko.1) zl_X_91 zm214 zm215 rfl rfl (Nat.le_of_ble_eq_true rfl) (Nat.le_of_ble_eq_true rfl) (Nat.le_of_ble_eq_true rfl) zd_X_deliver_50 (fun u11 e12 => ?_)
    have ht := ht.trans (zlet_e e12)
    have ko := ko.2 u11 e12
    refine z_aload_n O zd_X_deliver_53 rfl 1 rfl ?_
    refine zg_X_23_0 O zd_X_deliver_54 (v := .ref (zq w 6)) rfl ?_
    refine z_aload_n O zd_X_deliver_57 rfl 1 rfl ?_
    refine zg_X_36_0 O zd_X_deliver_58 (v := .ref (zq w 11)) rfl ?_
    refine z_callv O hl0 (st := []) 6 1 (fs := zo6 w u11) rfl rfl (c_R_makeAck l w u11 ko) zl_X_59 zm206 zm207 rfl rfl (Nat.le_of_ble_eq_true rfl) (Nat.le_of_ble_eq_true rfl) (Nat.le_of_ble_eq_true rfl) zd_X_deliver_61 (fun u13 e14 => ?_)
    have ht := ht.trans (zlet_e e14)
    refine z_iload_n O zd_X_deliver_64 rfl 0 rfl ?_
    exact E _ _ _ _ zd_X_deliver_65 rfl ht.symm
  · have ht := ht.trans (if_pos c3)
    exact EX _ _ _ _ _ _ _ zt_X_81 (Nat.le_of_ble_eq_true rfl) zd_X_deliver_11 zd_X_deliver_14 zd_X_deliver_15 zd_X_deliver_18 ⟨rfl, ht.symm⟩
set_option maxHeartbeats 4000000 in
set_option maxRecDepth 100000 in
theorem c_L_deliver (l : Launch) (hfl : l.stackTraces = false) (w : zWd) (σ : zSt) (a1 : Int32) (ko : k_X_deliver σ a1) : zMw l ({ cls := "SluiceStreamLaw", name := "deliver", desc := "(LSluiceStream;I[J)I" } : Jvm.MethodName) method_7_code 4 [((0 : Nat), (9 : Nat), (12 : Nat), (31 : Nat))] 7 165 w [.ref (zq w 0), .int a1, .ref (zq w 25)] σ (fun r u => (r, u) = f_L_deliver σ a1) := by
  refine zMw_of (by decide +kernel) (Nat.le_of_ble_eq_true rfl) ?_
  intro K O hl0 htab hroom hX hns hnc E
  refine z_sub (lv' := [(0, .ref (zq w 0)), (1, .int a1), (2, .ref (zq w 25))]) [0, 1, 2] rfl ?_
  refine z_aload_n O zd_L_deliver_0 rfl 2 rfl ?_
  refine z_iconst O (v := 0) zd_L_deliver_1 (by decide) ?_
  refine z_aload_n O zd_L_deliver_2 rfl 0 rfl ?_
  refine z_iload_n O zd_L_deliver_3 rfl 1 rfl ?_
  refine z_callxi O hl0 hX (st := [.int 0, .ref (zq w 25)]) 0 5 (fs := zo0 w σ) rfl rfl (c_X_deliver l hfl w σ a1 ko) zl_L_28 zm561 zm562 rfl rfl (Nat.le_of_ble_eq_true rfl) (Nat.le_of_ble_eq_true rfl) (Nat.le_of_ble_eq_true rfl) hroom.1 hroom.2 zd_L_deliver_4 ?_ ?_
  · intro Ex u hPX
    obtain ⟨rfl, e⟩ := hPX
    refine z_catch (hh := [((0 : Nat), (9 : Nat), (12 : Nat), (31 : Nat))]) (zOk_up O hroom.1 hroom.2) htab [] ⟨0, 9, 12, 31⟩ [] rfl (fun z hz => absurd hz List.not_mem_nil) (by decide) (by decide) zm559 (hns _ zcs2) (fun q => ?_)
    refine z_astore_n (zOk_up O hroom.1 hroom.2) (lv' := [(3, .ref q), (0, .ref (zq w 0)), (1, .int a1), (2, .ref (zq w 25))]) zd_L_deliver_12 rfl (Nat.le_of_ble_eq_true rfl) rfl ?_
    refine z_iconst (zOk_up O hroom.1 hroom.2) (v := 1) zd_L_deliver_13 (by decide) ?_
    exact E _ _ _ _ zd_L_deliver_14 rfl (by unfold f_L_deliver; rw [← e]; exact (zwr1 (by decide)).symm)
  · intro r u e
    refine z_i2l (zOk_up O hroom.1 hroom.2) zd_L_deliver_7 ?_
    refine z_last (zOk_up O hroom.1 hroom.2) (x := r) rfl zd_L_deliver_8 ?_
    refine z_goto (zOk_up O hroom.1 hroom.2) (tgt := 15) zd_L_deliver_9 (by decide) ?_
    refine z_iconst (zOk_up O hroom.1 hroom.2) (v := 0) zd_L_deliver_15 (by decide) ?_
    exact E _ _ _ _ zd_L_deliver_16 rfl (by unfold f_L_deliver; rw [← e]; exact zwr0.symm)
set_option maxHeartbeats 4000000 in
set_option maxRecDepth 100000 in
theorem c_X_lose (l : Launch) (hfl : l.stackTraces = false) (w : zWd) (σ : zSt) (a1 : Int32) (ko : k_X_lose σ a1) : zMx l ({ cls := "SluiceStream", name := "lose", desc := "(I)I" } : Jvm.MethodName) prog_1_method_8_code 3 6 90 .int w [.ref (zq w 0), .int a1] σ (fun r u => ((0 : Int32), r, u) = (f_X_lose σ a1)) (fun E u => (E = "java/lang/IndexOutOfBoundsException" ∧ ((1 : Int32), (0 : Int32), u) = (f_X_lose σ a1))) := by
  refine zMx_of hfl (by decide +kernel) (Nat.le_of_ble_eq_true rfl) (Nat.le_of_ble_eq_true rfl) ?_
  intro K O hl0 E EX
  have ht : (f_X_lose σ a1) = (f_X_lose σ a1) := rfl
  refine z_sub (lv' := [(0, .ref (zq w 0)), (1, .int a1)]) [0, 1] rfl ?_
  refine z_aload_n O zd_X_lose_0 rfl 0 rfl ?_
  refine zg_X_32_0 O zd_X_lose_1 (v := .ref (zq w 9)) rfl ?_
  refine z_iload_n O zd_X_lose_4 rfl 1 rfl ?_
  refine z_callri O hl0 (st := []) 9 2 (fs := zo9 w σ) rfl rfl (c_W_holds_9 l w σ a1) zl_X_77 zm218 zm219 rfl rfl (Nat.le_of_ble_eq_true rfl) (Nat.le_of_ble_eq_true rfl) (Nat.le_of_ble_eq_true rfl) zd_X_lose_5 (fun r1 e2 => ?_)
  have ht := ht.trans (zlet_e e2)
  have ko := ko r1 e2
  refine z_if_ne O (tgt := 19) zd_X_lose_8 (by decide) (fun c3 => ?_) (fun c3 => ?_)
  · have ht := ht.trans (if_neg c3)
    have ko := ko c3
    refine z_aload_n O zd_X_lose_19 rfl 0 rfl ?_
    refine zg_X_32_0 O zd_X_lose_20 (v := .ref (zq w 9)) rfl ?_
    refine z_iload_n O zd_X_lose_23 rfl 1 rfl ?_
    refine z_iconst O (v := 0) zd_X_lose_24 (by decide) ?_
    refine z_callri O hl0 (st := []) 9 2 (fs := zo9 w σ) rfl rfl (c_W_cell_9 l w σ a1 0 ko.1) zl_X_84 zm581 zm582 rfl rfl (Nat.le_of_ble_eq_true rfl) (Nat.le_of_ble_eq_true rfl) (Nat.le_of_ble_eq_true rfl) zd_X_lose_25 (fun r4 e5 => ?_)
    have ht := ht.trans (zlet_e e5)
    have ko := ko.2 r4 e5
    refine z_istore_n O (lv' := [(2, .int r4), (0, .ref (zq w 0)), (1, .int a1)]) zd_X_lose_28 rfl (Nat.le_of_ble_eq_true rfl) rfl ?_
    refine z_aload_n O zd_X_lose_29 rfl 1 rfl ?_
    refine zg_X_32_0 O zd_X_lose_30 (v := .ref (zq w 9)) rfl ?_
    refine z_iload_n O zd_X_lose_33 rfl 2 rfl ?_
    refine z_callv O hl0 (st := []) 9 2 (fs := zo9 w σ) rfl rfl (c_W_remove_9 l w σ a1 ko) zl_X_91 zm214 zm215 rfl rfl (Nat.le_of_ble_eq_true rfl) (Nat.le_of_ble_eq_true rfl) (Nat.le_of_ble_eq_true rfl) zd_X_lose_34 (fun u6 e7 => ?_)
    have ht := ht.trans (zlet_e e7)
    refine z_iload_n O zd_X_lose_37 rfl 0 rfl ?_
    exact E _ _ _ _ zd_X_lose_38 rfl ht.symm
  · have ht := ht.trans (if_pos c3)
    exact EX _ _ _ _ _ _ _ zt_X_81 (Nat.le_of_ble_eq_true rfl) zd_X_lose_11 zd_X_lose_14 zd_X_lose_15 zd_X_lose_18 ⟨rfl, ht.symm⟩
set_option maxHeartbeats 4000000 in
set_option maxRecDepth 100000 in
theorem c_L_lose (l : Launch) (hfl : l.stackTraces = false) (w : zWd) (σ : zSt) (a1 : Int32) (ko : k_X_lose σ a1) : zMw l ({ cls := "SluiceStreamLaw", name := "lose", desc := "(LSluiceStream;I[J)I" } : Jvm.MethodName) method_8_code 4 [((0 : Nat), (9 : Nat), (12 : Nat), (31 : Nat))] 7 112 w [.ref (zq w 0), .int a1, .ref (zq w 25)] σ (fun r u => (r, u) = f_L_lose σ a1) := by
  refine zMw_of (by decide +kernel) (Nat.le_of_ble_eq_true rfl) ?_
  intro K O hl0 htab hroom hX hns hnc E
  refine z_sub (lv' := [(0, .ref (zq w 0)), (1, .int a1), (2, .ref (zq w 25))]) [0, 1, 2] rfl ?_
  refine z_aload_n O zd_L_lose_0 rfl 2 rfl ?_
  refine z_iconst O (v := 0) zd_L_lose_1 (by decide) ?_
  refine z_aload_n O zd_L_lose_2 rfl 0 rfl ?_
  refine z_iload_n O zd_L_lose_3 rfl 1 rfl ?_
  refine z_callxi O hl0 hX (st := [.int 0, .ref (zq w 25)]) 0 5 (fs := zo0 w σ) rfl rfl (c_X_lose l hfl w σ a1 ko) zl_L_33 zm598 zm599 rfl rfl (Nat.le_of_ble_eq_true rfl) (Nat.le_of_ble_eq_true rfl) (Nat.le_of_ble_eq_true rfl) hroom.1 hroom.2 zd_L_lose_4 ?_ ?_
  · intro Ex u hPX
    obtain ⟨rfl, e⟩ := hPX
    refine z_catch (hh := [((0 : Nat), (9 : Nat), (12 : Nat), (31 : Nat))]) (zOk_up O hroom.1 hroom.2) htab [] ⟨0, 9, 12, 31⟩ [] rfl (fun z hz => absurd hz List.not_mem_nil) (by decide) (by decide) zm559 (hns _ zcs2) (fun q => ?_)
    refine z_astore_n (zOk_up O hroom.1 hroom.2) (lv' := [(3, .ref q), (0, .ref (zq w 0)), (1, .int a1), (2, .ref (zq w 25))]) zd_L_lose_12 rfl (Nat.le_of_ble_eq_true rfl) rfl ?_
    refine z_iconst (zOk_up O hroom.1 hroom.2) (v := 1) zd_L_lose_13 (by decide) ?_
    exact E _ _ _ _ zd_L_lose_14 rfl (by unfold f_L_lose; rw [← e]; exact (zwr1 (by decide)).symm)
  · intro r u e
    refine z_i2l (zOk_up O hroom.1 hroom.2) zd_L_lose_7 ?_
    refine z_last (zOk_up O hroom.1 hroom.2) (x := r) rfl zd_L_lose_8 ?_
    refine z_goto (zOk_up O hroom.1 hroom.2) (tgt := 15) zd_L_lose_9 (by decide) ?_
    refine z_iconst (zOk_up O hroom.1 hroom.2) (v := 0) zd_L_lose_15 (by decide) ?_
    exact E _ _ _ _ zd_L_lose_16 rfl (by unfold f_L_lose; rw [← e]; exact zwr0.symm)
set_option maxHeartbeats 4000000 in
set_option maxRecDepth 100000 in
theorem c_X_duplicate (l : Launch) (hfl : l.stackTraces = false) (w : zWd) (σ : zSt) (a1 : Int32) (ko : k_X_duplicate σ a1) : zMx l ({ cls := "SluiceStream", name := "duplicate", desc := "(I)I" } : Jvm.MethodName) prog_1_method_9_code 3 6 90 .int w [.ref (zq w 0), .int a1] σ (fun r u => ((0 : Int32), r, u) = (f_X_duplicate σ a1)) (fun E u => (E = "java/lang/IndexOutOfBoundsException" ∧ ((1 : Int32), (0 : Int32), u) = (f_X_duplicate σ a1)) ∨ (E = "java/lang/IllegalStateException" ∧ ((2 : Int32), (0 : Int32), u) = (f_X_duplicate σ a1))) := by
  refine zMx_of hfl (by decide +kernel) (Nat.le_of_ble_eq_true rfl) (Nat.le_of_ble_eq_true rfl) ?_
  intro K O hl0 E EX
  have ht : (f_X_duplicate σ a1) = (f_X_duplicate σ a1) := rfl
  refine z_sub (lv' := [(0, .ref (zq w 0)), (1, .int a1)]) [0, 1] rfl ?_
  refine z_aload_n O zd_X_duplicate_0 rfl 0 rfl ?_
  refine zg_X_32_0 O zd_X_duplicate_1 (v := .ref (zq w 9)) rfl ?_
  refine z_iload_n O zd_X_duplicate_4 rfl 1 rfl ?_
  refine z_callri O hl0 (st := []) 9 2 (fs := zo9 w σ) rfl rfl (c_W_holds_9 l w σ a1) zl_X_77 zm218 zm219 rfl rfl (Nat.le_of_ble_eq_true rfl) (Nat.le_of_ble_eq_true rfl) (Nat.le_of_ble_eq_true rfl) zd_X_duplicate_5 (fun r1 e2 => ?_)
  have ht := ht.trans (zlet_e e2)
  have ko := ko r1 e2
  refine z_if_ne O (tgt := 19) zd_X_duplicate_8 (by decide) (fun c3 => ?_) (fun c3 => ?_)
  · have ht := ht.trans (if_neg c3)
    have ko := ko c3
    refine z_aload_n O zd_X_duplicate_19 rfl 0 rfl ?_
    refine zg_X_32_0 O zd_X_duplicate_20 (v := .ref (zq w 9)) rfl ?_
    refine z_callri O hl0 (st := []) 9 2 (fs := zo9 w σ) rfl rfl (c_W_isFull_9 l w σ) zl_X_66 zm210 zm211 rfl rfl (Nat.le_of_ble_eq_true rfl) (Nat.le_of_ble_eq_true rfl) (Nat.le_of_ble_eq_true rfl) zd_X_duplicate_23 (fun r4 e5 => ?_)
    have ht := ht.trans (zlet_e e5)
    have ko := ko r4 e5
    refine z_if_eq O (tgt := 37) zd_X_duplicate_26 (by decide) (fun c6 => ?_) (fun c6 => ?_)
    · have ht := ht.trans (if_pos c6)
      have ko := ko c6
      refine z_aload_n O zd_X_duplicate_37 rfl 0 rfl ?_
      refine zg_X_32_0 O zd_X_duplicate_38 (v := .ref (zq w 9)) rfl ?_
      refine z_calli O hl0 (st := []) 9 2 (fs := zo9 w σ) rfl rfl (c_W_addRow_9 l w σ) zl_X_95 zm222 zm223 rfl rfl (Nat.le_of_ble_eq_true rfl) (Nat.le_of_ble_eq_true rfl) (Nat.le_of_ble_eq_true rfl) zd_X_duplicate_41 (fun r7 u8 e9 => ?_)
      have ht := ht.trans (zseq_e e9)
      have ko := ko r7 u8 e9
      refine z_istore_n O (lv' := [(2, .int r7), (0, .ref (zq w 0)), (1, .int a1)]) zd_X_duplicate_44 rfl (Nat.le_of_ble_eq_true rfl) rfl ?_
      refine z_aload_n O zd_X_duplicate_45 rfl 1 rfl ?_
      refine zg_X_32_0 O zd_X_duplicate_46 (v := .ref (zq w 9)) rfl ?_
      refine z_iload_n O zd_X_duplicate_49 rfl 0 rfl ?_
      refine z_iconst O (v := 0) zd_X_duplicate_50 (by decide) ?_
      refine z_aload_n O zd_X_duplicate_51 rfl 1 rfl ?_
      refine zg_X_32_0 O zd_X_duplicate_52 (v := .ref (zq w 9)) rfl ?_
      refine z_iload_n O zd_X_duplicate_55 rfl 2 rfl ?_
      refine z_iconst O (v := 0) zd_X_duplicate_56 (by decide) ?_
      refine z_callri O hl0 (st := [.int 0, .int r7, .ref (zq w 9)]) 9 2 (fs := zo9 w u8) rfl rfl (c_W_cell_9 l w u8 a1 0 ko.1) zl_X_84 zm581 zm582 rfl rfl (Nat.le_of_ble_eq_true rfl) (Nat.le_of_ble_eq_true rfl) (Nat.le_of_ble_eq_true rfl) zd_X_duplicate_57 (fun r10 e11 => ?_)
      have ht := ht.trans (zlet_e e11)
      have ko := ko.2 r10 e11
      refine z_callv O hl0 (st := []) 9 2 (fs := zo9 w u8) rfl rfl (c_W_setCell_9 l w u8 r7 0 r10 ko.1) zl_X_99 zm226 zm227 rfl rfl (Nat.le_of_ble_eq_true rfl) (Nat.le_of_ble_eq_true rfl) (Nat.le_of_ble_eq_true rfl) zd_X_duplicate_60 (fun u12 e13 => ?_)
      have ht := ht.trans (zlet_e e13)
      have ko := ko.2 u12 e13
      refine z_aload_n O zd_X_duplicate_63 rfl 1 rfl ?_
      refine zg_X_32_0 O zd_X_duplicate_64 (v := .ref (zq w 9)) rfl ?_
      refine z_iload_n O zd_X_duplicate_67 rfl 0 rfl ?_
      refine z_iconst O (v := 1) zd_X_duplicate_68 (by decide) ?_
      refine z_aload_n O zd_X_duplicate_69 rfl 1 rfl ?_
      refine zg_X_32_0 O zd_X_duplicate_70 (v := .ref (zq w 9)) rfl ?_
      refine z_iload_n O zd_X_duplicate_73 rfl 2 rfl ?_
      refine z_iconst O (v := 1) zd_X_duplicate_74 (by decide) ?_
      refine z_callri O hl0 (st := [.int 1, .int r7, .ref (zq w 9)]) 9 2 (fs := zo9 w u12) rfl rfl (c_W_cell_9 l w u12 a1 1 ko.1) zl_X_84 zm581 zm582 rfl rfl (Nat.le_of_ble_eq_true rfl) (Nat.le_of_ble_eq_true rfl) (Nat.le_of_ble_eq_true rfl) zd_X_duplicate_75 (fun r14 e15 => ?_)
      have ht := ht.trans (zlet_e e15)
      have ko := ko.2 r14 e15
      refine z_callv O hl0 (st := []) 9 2 (fs := zo9 w u12) rfl rfl (c_W_setCell_9 l w u12 r7 1 r14 ko) zl_X_99 zm226 zm227 rfl rfl (Nat.le_of_ble_eq_true rfl) (Nat.le_of_ble_eq_true rfl) (Nat.le_of_ble_eq_true rfl) zd_X_duplicate_78 (fun u16 e17 => ?_)
      have ht := ht.trans (zlet_e e17)
      refine z_aload_n O zd_X_duplicate_81 rfl 1 rfl ?_
      refine zg_X_32_0 O zd_X_duplicate_82 (v := .ref (zq w 9)) rfl ?_
      refine zg_X_103_9 O zd_X_duplicate_85 (v := .int (u16 9 2)) rfl ?_
      exact E _ _ _ _ zd_X_duplicate_88 rfl ht.symm
    · have ht := ht.trans (if_neg c6)
      exact EX _ _ _ _ _ _ _ zt_X_46 (Nat.le_of_ble_eq_true rfl) zd_X_duplicate_29 zd_X_duplicate_32 zd_X_duplicate_33 zd_X_duplicate_36 (Or.inr ⟨rfl, ht.symm⟩)
  · have ht := ht.trans (if_pos c3)
    exact EX _ _ _ _ _ _ _ zt_X_81 (Nat.le_of_ble_eq_true rfl) zd_X_duplicate_11 zd_X_duplicate_14 zd_X_duplicate_15 zd_X_duplicate_18 (Or.inl ⟨rfl, ht.symm⟩)
set_option maxHeartbeats 4000000 in
set_option maxRecDepth 100000 in
theorem c_L_duplicate (l : Launch) (hfl : l.stackTraces = false) (w : zWd) (σ : zSt) (a1 : Int32) (ko : k_X_duplicate σ a1) : zMw l ({ cls := "SluiceStreamLaw", name := "duplicate", desc := "(LSluiceStream;I[J)I" } : Jvm.MethodName) method_9_code 4 [((0 : Nat), (9 : Nat), (12 : Nat), (31 : Nat)), ((0 : Nat), (9 : Nat), (15 : Nat), (15 : Nat))] 7 112 w [.ref (zq w 0), .int a1, .ref (zq w 25)] σ (fun r u => (r, u) = f_L_duplicate σ a1) := by
  refine zMw_of (by decide +kernel) (Nat.le_of_ble_eq_true rfl) ?_
  intro K O hl0 htab hroom hX hns hnc E
  refine z_sub (lv' := [(0, .ref (zq w 0)), (1, .int a1), (2, .ref (zq w 25))]) [0, 1, 2] rfl ?_
  refine z_aload_n O zd_L_duplicate_0 rfl 2 rfl ?_
  refine z_iconst O (v := 0) zd_L_duplicate_1 (by decide) ?_
  refine z_aload_n O zd_L_duplicate_2 rfl 0 rfl ?_
  refine z_iload_n O zd_L_duplicate_3 rfl 1 rfl ?_
  refine z_callxi O hl0 hX (st := [.int 0, .ref (zq w 25)]) 0 5 (fs := zo0 w σ) rfl rfl (c_X_duplicate l hfl w σ a1 ko) zl_L_36 zm605 zm606 rfl rfl (Nat.le_of_ble_eq_true rfl) (Nat.le_of_ble_eq_true rfl) (Nat.le_of_ble_eq_true rfl) hroom.1 hroom.2 zd_L_duplicate_4 ?_ ?_
  · intro Ex u hPX
    rcases hPX with ⟨rfl, e⟩ | ⟨rfl, e⟩
    · refine z_catch (hh := [((0 : Nat), (9 : Nat), (12 : Nat), (31 : Nat)), ((0 : Nat), (9 : Nat), (15 : Nat), (15 : Nat))]) (zOk_up O hroom.1 hroom.2) htab [] ⟨0, 9, 12, 31⟩ [⟨0, 9, 15, 15⟩] rfl (fun z hz => absurd hz List.not_mem_nil) (by decide) (by decide) zm559 (hns _ zcs2) (fun q => ?_)
      refine z_astore_n (zOk_up O hroom.1 hroom.2) (lv' := [(3, .ref q), (0, .ref (zq w 0)), (1, .int a1), (2, .ref (zq w 25))]) zd_L_duplicate_12 rfl (Nat.le_of_ble_eq_true rfl) rfl ?_
      refine z_iconst (zOk_up O hroom.1 hroom.2) (v := 1) zd_L_duplicate_13 (by decide) ?_
      exact E _ _ _ _ zd_L_duplicate_14 rfl (by unfold f_L_duplicate; rw [← e]; exact (zwr1 (by decide)).symm)
    · refine z_catch (hh := [((0 : Nat), (9 : Nat), (12 : Nat), (31 : Nat)), ((0 : Nat), (9 : Nat), (15 : Nat), (15 : Nat))]) (zOk_up O hroom.1 hroom.2) htab [⟨0, 9, 12, 31⟩] ⟨0, 9, 15, 15⟩ [] rfl (fun z hz => by cases List.mem_singleton.mp hz; exact Or.inr ⟨by decide, _, zm559, hnc.2⟩) (by decide) (by decide) zm377 (hns _ zcs1) (fun q => ?_)
      refine z_astore_n (zOk_up O hroom.1 hroom.2) (lv' := [(3, .ref q), (0, .ref (zq w 0)), (1, .int a1), (2, .ref (zq w 25))]) zd_L_duplicate_15 rfl (Nat.le_of_ble_eq_true rfl) rfl ?_
      refine z_iconst (zOk_up O hroom.1 hroom.2) (v := 2) zd_L_duplicate_16 (by decide) ?_
      exact E _ _ _ _ zd_L_duplicate_17 rfl (by unfold f_L_duplicate; rw [← e]; exact (zwr1 (by decide)).symm)
  · intro r u e
    refine z_i2l (zOk_up O hroom.1 hroom.2) zd_L_duplicate_7 ?_
    refine z_last (zOk_up O hroom.1 hroom.2) (x := r) rfl zd_L_duplicate_8 ?_
    refine z_goto (zOk_up O hroom.1 hroom.2) (tgt := 18) zd_L_duplicate_9 (by decide) ?_
    refine z_iconst (zOk_up O hroom.1 hroom.2) (v := 0) zd_L_duplicate_18 (by decide) ?_
    exact E _ _ _ _ zd_L_duplicate_19 rfl (by unfold f_L_duplicate; rw [← e]; exact zwr0.symm)
set_option maxHeartbeats 4000000 in
set_option maxRecDepth 100000 in
theorem c_X_deliverAck (l : Launch) (hfl : l.stackTraces = false) (w : zWd) (σ : zSt) (a1 : Int32) (ko : k_X_deliverAck σ a1) : zMx l ({ cls := "SluiceStream", name := "deliverAck", desc := "(I)I" } : Jvm.MethodName) prog_1_method_10_code 3 6 131 .int w [.ref (zq w 0), .int a1] σ (fun r u => ((0 : Int32), r, u) = (f_X_deliverAck σ a1)) (fun E u => (E = "java/lang/IndexOutOfBoundsException" ∧ ((1 : Int32), (0 : Int32), u) = (f_X_deliverAck σ a1))) := by
  refine zMx_of hfl (by decide +kernel) (Nat.le_of_ble_eq_true rfl) (Nat.le_of_ble_eq_true rfl) ?_
  intro K O hl0 E EX
  have ht : (f_X_deliverAck σ a1) = (f_X_deliverAck σ a1) := rfl
  refine z_sub (lv' := [(0, .ref (zq w 0)), (1, .int a1)]) [0, 1] rfl ?_
  refine z_aload_n O zd_X_deliverAck_0 rfl 0 rfl ?_
  refine zg_X_36_0 O zd_X_deliverAck_1 (v := .ref (zq w 11)) rfl ?_
  refine z_iload_n O zd_X_deliverAck_4 rfl 1 rfl ?_
  refine z_callri O hl0 (st := []) 11 2 (fs := zo11 w σ) rfl rfl (c_W_holds_11 l w σ a1) zl_X_77 zm218 zm219 rfl rfl (Nat.le_of_ble_eq_true rfl) (Nat.le_of_ble_eq_true rfl) (Nat.le_of_ble_eq_true rfl) zd_X_deliverAck_5 (fun r1 e2 => ?_)
  have ht := ht.trans (zlet_e e2)
  have ko := ko r1 e2
  refine z_if_ne O (tgt := 19) zd_X_deliverAck_8 (by decide) (fun c3 => ?_) (fun c3 => ?_)
  · have ht := ht.trans (if_neg c3)
    have ko := ko c3
    refine z_aload_n O zd_X_deliverAck_19 rfl 0 rfl ?_
    refine zg_X_16_0 O zd_X_deliverAck_20 (v := .ref (zq w 2)) rfl ?_
    refine z_aload_n O zd_X_deliverAck_23 rfl 0 rfl ?_
    refine zg_X_36_0 O zd_X_deliverAck_24 (v := .ref (zq w 11)) rfl ?_
    refine z_iload_n O zd_X_deliverAck_27 rfl 1 rfl ?_
    refine z_calli O hl0 (st := []) 2 3 (fs := zo2 w σ) rfl rfl (c_S_takeAck l w σ a1 ko.1) zl_X_106 zm618 zm619 rfl rfl (Nat.le_of_ble_eq_true rfl) (Nat.le_of_ble_eq_true rfl) (Nat.le_of_ble_eq_true rfl) zd_X_deliverAck_28 (fun r4 u5 e6 => ?_)
    have ht := ht.trans (zseq_e e6)
    have ko := ko.2 r4 u5 e6
    refine z_istore_n O (lv' := [(2, .int r4), (0, .ref (zq w 0)), (1, .int a1)]) zd_X_deliverAck_31 rfl (Nat.le_of_ble_eq_true rfl) rfl ?_
    refine z_aload_n O zd_X_deliverAck_32 rfl 1 rfl ?_
    refine zg_X_36_0 O zd_X_deliverAck_33 (v := .ref (zq w 11)) rfl ?_
    refine z_iload_n O zd_X_deliverAck_36 rfl 2 rfl ?_
    refine z_callv O hl0 (st := []) 11 2 (fs := zo11 w u5) rfl rfl (c_W_remove_11 l w u5 a1 ko) zl_X_91 zm214 zm215 rfl rfl (Nat.le_of_ble_eq_true rfl) (Nat.le_of_ble_eq_true rfl) (Nat.le_of_ble_eq_true rfl) zd_X_deliverAck_37 (fun u7 e8 => ?_)
    have ht := ht.trans (zlet_e e8)
    refine z_iload_n O zd_X_deliverAck_40 rfl 0 rfl ?_
    exact E _ _ _ _ zd_X_deliverAck_41 rfl ht.symm
  · have ht := ht.trans (if_pos c3)
    exact EX _ _ _ _ _ _ _ zt_X_81 (Nat.le_of_ble_eq_true rfl) zd_X_deliverAck_11 zd_X_deliverAck_14 zd_X_deliverAck_15 zd_X_deliverAck_18 ⟨rfl, ht.symm⟩
set_option maxHeartbeats 4000000 in
set_option maxRecDepth 100000 in
theorem c_L_deliverAck (l : Launch) (hfl : l.stackTraces = false) (w : zWd) (σ : zSt) (a1 : Int32) (ko : k_X_deliverAck σ a1) : zMw l ({ cls := "SluiceStreamLaw", name := "deliverAck", desc := "(LSluiceStream;I[J)I" } : Jvm.MethodName) method_10_code 4 [((0 : Nat), (9 : Nat), (12 : Nat), (31 : Nat))] 7 153 w [.ref (zq w 0), .int a1, .ref (zq w 25)] σ (fun r u => (r, u) = f_L_deliverAck σ a1) := by
  refine zMw_of (by decide +kernel) (Nat.le_of_ble_eq_true rfl) ?_
  intro K O hl0 htab hroom hX hns hnc E
  refine z_sub (lv' := [(0, .ref (zq w 0)), (1, .int a1), (2, .ref (zq w 25))]) [0, 1, 2] rfl ?_
  refine z_aload_n O zd_L_deliverAck_0 rfl 2 rfl ?_
  refine z_iconst O (v := 0) zd_L_deliverAck_1 (by decide) ?_
  refine z_aload_n O zd_L_deliverAck_2 rfl 0 rfl ?_
  refine z_iload_n O zd_L_deliverAck_3 rfl 1 rfl ?_
  refine z_callxi O hl0 hX (st := [.int 0, .ref (zq w 25)]) 0 5 (fs := zo0 w σ) rfl rfl (c_X_deliverAck l hfl w σ a1 ko) zl_L_39 zm614 zm615 rfl rfl (Nat.le_of_ble_eq_true rfl) (Nat.le_of_ble_eq_true rfl) (Nat.le_of_ble_eq_true rfl) hroom.1 hroom.2 zd_L_deliverAck_4 ?_ ?_
  · intro Ex u hPX
    obtain ⟨rfl, e⟩ := hPX
    refine z_catch (hh := [((0 : Nat), (9 : Nat), (12 : Nat), (31 : Nat))]) (zOk_up O hroom.1 hroom.2) htab [] ⟨0, 9, 12, 31⟩ [] rfl (fun z hz => absurd hz List.not_mem_nil) (by decide) (by decide) zm559 (hns _ zcs2) (fun q => ?_)
    refine z_astore_n (zOk_up O hroom.1 hroom.2) (lv' := [(3, .ref q), (0, .ref (zq w 0)), (1, .int a1), (2, .ref (zq w 25))]) zd_L_deliverAck_12 rfl (Nat.le_of_ble_eq_true rfl) rfl ?_
    refine z_iconst (zOk_up O hroom.1 hroom.2) (v := 1) zd_L_deliverAck_13 (by decide) ?_
    exact E _ _ _ _ zd_L_deliverAck_14 rfl (by unfold f_L_deliverAck; rw [← e]; exact (zwr1 (by decide)).symm)
  · intro r u e
    refine z_i2l (zOk_up O hroom.1 hroom.2) zd_L_deliverAck_7 ?_
    refine z_last (zOk_up O hroom.1 hroom.2) (x := r) rfl zd_L_deliverAck_8 ?_
    refine z_goto (zOk_up O hroom.1 hroom.2) (tgt := 15) zd_L_deliverAck_9 (by decide) ?_
    refine z_iconst (zOk_up O hroom.1 hroom.2) (v := 0) zd_L_deliverAck_15 (by decide) ?_
    exact E _ _ _ _ zd_L_deliverAck_16 rfl (by unfold f_L_deliverAck; rw [← e]; exact zwr0.symm)
set_option maxHeartbeats 4000000 in
set_option maxRecDepth 100000 in
theorem c_X_loseAck (l : Launch) (hfl : l.stackTraces = false) (w : zWd) (σ : zSt) (a1 : Int32) (ko : k_X_loseAck σ a1) : zMx l ({ cls := "SluiceStream", name := "loseAck", desc := "(I)I" } : Jvm.MethodName) prog_1_method_11_code 3 6 90 .int w [.ref (zq w 0), .int a1] σ (fun r u => ((0 : Int32), r, u) = (f_X_loseAck σ a1)) (fun E u => (E = "java/lang/IndexOutOfBoundsException" ∧ ((1 : Int32), (0 : Int32), u) = (f_X_loseAck σ a1))) := by
  refine zMx_of hfl (by decide +kernel) (Nat.le_of_ble_eq_true rfl) (Nat.le_of_ble_eq_true rfl) ?_
  intro K O hl0 E EX
  have ht : (f_X_loseAck σ a1) = (f_X_loseAck σ a1) := rfl
  refine z_sub (lv' := [(0, .ref (zq w 0)), (1, .int a1)]) [0, 1] rfl ?_
  refine z_aload_n O zd_X_loseAck_0 rfl 0 rfl ?_
  refine zg_X_36_0 O zd_X_loseAck_1 (v := .ref (zq w 11)) rfl ?_
  refine z_iload_n O zd_X_loseAck_4 rfl 1 rfl ?_
  refine z_callri O hl0 (st := []) 11 2 (fs := zo11 w σ) rfl rfl (c_W_holds_11 l w σ a1) zl_X_77 zm218 zm219 rfl rfl (Nat.le_of_ble_eq_true rfl) (Nat.le_of_ble_eq_true rfl) (Nat.le_of_ble_eq_true rfl) zd_X_loseAck_5 (fun r1 e2 => ?_)
  have ht := ht.trans (zlet_e e2)
  have ko := ko r1 e2
  refine z_if_ne O (tgt := 19) zd_X_loseAck_8 (by decide) (fun c3 => ?_) (fun c3 => ?_)
  · have ht := ht.trans (if_neg c3)
    have ko := ko c3
    refine z_aload_n O zd_X_loseAck_19 rfl 0 rfl ?_
    refine zg_X_36_0 O zd_X_loseAck_20 (v := .ref (zq w 11)) rfl ?_
    refine z_iload_n O zd_X_loseAck_23 rfl 1 rfl ?_
    refine z_iconst O (v := 0) zd_X_loseAck_24 (by decide) ?_
    refine z_callri O hl0 (st := []) 11 2 (fs := zo11 w σ) rfl rfl (c_W_cell_11 l w σ a1 0 ko.1) zl_X_84 zm581 zm582 rfl rfl (Nat.le_of_ble_eq_true rfl) (Nat.le_of_ble_eq_true rfl) (Nat.le_of_ble_eq_true rfl) zd_X_loseAck_25 (fun r4 e5 => ?_)
    have ht := ht.trans (zlet_e e5)
    have ko := ko.2 r4 e5
    refine z_istore_n O (lv' := [(2, .int r4), (0, .ref (zq w 0)), (1, .int a1)]) zd_X_loseAck_28 rfl (Nat.le_of_ble_eq_true rfl) rfl ?_
    refine z_aload_n O zd_X_loseAck_29 rfl 1 rfl ?_
    refine zg_X_36_0 O zd_X_loseAck_30 (v := .ref (zq w 11)) rfl ?_
    refine z_iload_n O zd_X_loseAck_33 rfl 2 rfl ?_
    refine z_callv O hl0 (st := []) 11 2 (fs := zo11 w σ) rfl rfl (c_W_remove_11 l w σ a1 ko) zl_X_91 zm214 zm215 rfl rfl (Nat.le_of_ble_eq_true rfl) (Nat.le_of_ble_eq_true rfl) (Nat.le_of_ble_eq_true rfl) zd_X_loseAck_34 (fun u6 e7 => ?_)
    have ht := ht.trans (zlet_e e7)
    refine z_iload_n O zd_X_loseAck_37 rfl 0 rfl ?_
    exact E _ _ _ _ zd_X_loseAck_38 rfl ht.symm
  · have ht := ht.trans (if_pos c3)
    exact EX _ _ _ _ _ _ _ zt_X_81 (Nat.le_of_ble_eq_true rfl) zd_X_loseAck_11 zd_X_loseAck_14 zd_X_loseAck_15 zd_X_loseAck_18 ⟨rfl, ht.symm⟩
set_option maxHeartbeats 4000000 in
set_option maxRecDepth 100000 in
theorem c_L_loseAck (l : Launch) (hfl : l.stackTraces = false) (w : zWd) (σ : zSt) (a1 : Int32) (ko : k_X_loseAck σ a1) : zMw l ({ cls := "SluiceStreamLaw", name := "loseAck", desc := "(LSluiceStream;I[J)I" } : Jvm.MethodName) method_11_code 4 [((0 : Nat), (9 : Nat), (12 : Nat), (31 : Nat))] 7 112 w [.ref (zq w 0), .int a1, .ref (zq w 25)] σ (fun r u => (r, u) = f_L_loseAck σ a1) := by
  refine zMw_of (by decide +kernel) (Nat.le_of_ble_eq_true rfl) ?_
  intro K O hl0 htab hroom hX hns hnc E
  refine z_sub (lv' := [(0, .ref (zq w 0)), (1, .int a1), (2, .ref (zq w 25))]) [0, 1, 2] rfl ?_
  refine z_aload_n O zd_L_loseAck_0 rfl 2 rfl ?_
  refine z_iconst O (v := 0) zd_L_loseAck_1 (by decide) ?_
  refine z_aload_n O zd_L_loseAck_2 rfl 0 rfl ?_
  refine z_iload_n O zd_L_loseAck_3 rfl 1 rfl ?_
  refine z_callxi O hl0 hX (st := [.int 0, .ref (zq w 25)]) 0 5 (fs := zo0 w σ) rfl rfl (c_X_loseAck l hfl w σ a1 ko) zl_L_42 zm658 zm659 rfl rfl (Nat.le_of_ble_eq_true rfl) (Nat.le_of_ble_eq_true rfl) (Nat.le_of_ble_eq_true rfl) hroom.1 hroom.2 zd_L_loseAck_4 ?_ ?_
  · intro Ex u hPX
    obtain ⟨rfl, e⟩ := hPX
    refine z_catch (hh := [((0 : Nat), (9 : Nat), (12 : Nat), (31 : Nat))]) (zOk_up O hroom.1 hroom.2) htab [] ⟨0, 9, 12, 31⟩ [] rfl (fun z hz => absurd hz List.not_mem_nil) (by decide) (by decide) zm559 (hns _ zcs2) (fun q => ?_)
    refine z_astore_n (zOk_up O hroom.1 hroom.2) (lv' := [(3, .ref q), (0, .ref (zq w 0)), (1, .int a1), (2, .ref (zq w 25))]) zd_L_loseAck_12 rfl (Nat.le_of_ble_eq_true rfl) rfl ?_
    refine z_iconst (zOk_up O hroom.1 hroom.2) (v := 1) zd_L_loseAck_13 (by decide) ?_
    exact E _ _ _ _ zd_L_loseAck_14 rfl (by unfold f_L_loseAck; rw [← e]; exact (zwr1 (by decide)).symm)
  · intro r u e
    refine z_i2l (zOk_up O hroom.1 hroom.2) zd_L_loseAck_7 ?_
    refine z_last (zOk_up O hroom.1 hroom.2) (x := r) rfl zd_L_loseAck_8 ?_
    refine z_goto (zOk_up O hroom.1 hroom.2) (tgt := 15) zd_L_loseAck_9 (by decide) ?_
    refine z_iconst (zOk_up O hroom.1 hroom.2) (v := 0) zd_L_loseAck_15 (by decide) ?_
    exact E _ _ _ _ zd_L_loseAck_16 rfl (by unfold f_L_loseAck; rw [← e]; exact zwr0.symm)
set_option maxHeartbeats 4000000 in
set_option maxRecDepth 100000 in
theorem c_X_startOf (l : Launch) (hfl : l.stackTraces = false) (w : zWd) (σ : zSt) (a1 : Int32) (ko : k_X_startOf σ a1) : zMx l ({ cls := "SluiceStream", name := "startOf", desc := "(I)I" } : Jvm.MethodName) prog_1_method_13_code 2 6 90 .int w [.ref (zq w 0), .int a1] σ (fun r u => ((0 : Int32), r, u) = (f_X_startOf σ a1)) (fun E u => (E = "java/lang/IndexOutOfBoundsException" ∧ ((1 : Int32), (0 : Int32), u) = (f_X_startOf σ a1))) := by
  refine zMx_of hfl (by decide +kernel) (Nat.le_of_ble_eq_true rfl) (Nat.le_of_ble_eq_true rfl) ?_
  intro K O hl0 E EX
  have ht : (f_X_startOf σ a1) = (f_X_startOf σ a1) := rfl
  refine z_sub (lv' := [(0, .ref (zq w 0)), (1, .int a1)]) [0, 1] rfl ?_
  refine z_aload_n O zd_X_startOf_0 rfl 0 rfl ?_
  refine zg_X_32_0 O zd_X_startOf_1 (v := .ref (zq w 9)) rfl ?_
  refine z_iload_n O zd_X_startOf_4 rfl 1 rfl ?_
  refine z_callri O hl0 (st := []) 9 2 (fs := zo9 w σ) rfl rfl (c_W_holds_9 l w σ a1) zl_X_77 zm218 zm219 rfl rfl (Nat.le_of_ble_eq_true rfl) (Nat.le_of_ble_eq_true rfl) (Nat.le_of_ble_eq_true rfl) zd_X_startOf_5 (fun r1 e2 => ?_)
  have ht := ht.trans (zlet_e e2)
  have ko := ko r1 e2
  refine z_if_ne O (tgt := 19) zd_X_startOf_8 (by decide) (fun c3 => ?_) (fun c3 => ?_)
  · have ht := ht.trans (if_neg c3)
    have ko := ko c3
    refine z_aload_n O zd_X_startOf_19 rfl 0 rfl ?_
    refine zg_X_32_0 O zd_X_startOf_20 (v := .ref (zq w 9)) rfl ?_
    refine z_iload_n O zd_X_startOf_23 rfl 1 rfl ?_
    refine z_iconst O (v := 0) zd_X_startOf_24 (by decide) ?_
    refine z_callri O hl0 (st := []) 9 2 (fs := zo9 w σ) rfl rfl (c_W_cell_9 l w σ a1 0 ko) zl_X_84 zm581 zm582 rfl rfl (Nat.le_of_ble_eq_true rfl) (Nat.le_of_ble_eq_true rfl) (Nat.le_of_ble_eq_true rfl) zd_X_startOf_25 (fun r4 e5 => ?_)
    have ht := ht.trans (zlet_e e5)
    exact E _ _ _ _ zd_X_startOf_28 rfl ht.symm
  · have ht := ht.trans (if_pos c3)
    exact EX _ _ _ _ _ _ _ zt_X_81 (Nat.le_of_ble_eq_true rfl) zd_X_startOf_11 zd_X_startOf_14 zd_X_startOf_15 zd_X_startOf_18 ⟨rfl, ht.symm⟩
set_option maxHeartbeats 4000000 in
set_option maxRecDepth 100000 in
theorem c_L_startOf (l : Launch) (hfl : l.stackTraces = false) (w : zWd) (σ : zSt) (a1 : Int32) (ko : k_X_startOf σ a1) : zMw l ({ cls := "SluiceStreamLaw", name := "startOf", desc := "(LSluiceStream;I[J)I" } : Jvm.MethodName) method_12_code 4 [((0 : Nat), (9 : Nat), (12 : Nat), (31 : Nat))] 7 111 w [.ref (zq w 0), .int a1, .ref (zq w 25)] σ (fun r u => (r, u) = f_L_startOf σ a1) := by
  refine zMw_of (by decide +kernel) (Nat.le_of_ble_eq_true rfl) ?_
  intro K O hl0 htab hroom hX hns hnc E
  refine z_sub (lv' := [(0, .ref (zq w 0)), (1, .int a1), (2, .ref (zq w 25))]) [0, 1, 2] rfl ?_
  refine z_aload_n O zd_L_startOf_0 rfl 2 rfl ?_
  refine z_iconst O (v := 0) zd_L_startOf_1 (by decide) ?_
  refine z_aload_n O zd_L_startOf_2 rfl 0 rfl ?_
  refine z_iload_n O zd_L_startOf_3 rfl 1 rfl ?_
  refine z_callxi O hl0 hX (st := [.int 0, .ref (zq w 25)]) 0 5 (fs := zo0 w σ) rfl rfl (c_X_startOf l hfl w σ a1 ko) zl_L_45 zm665 zm666 rfl rfl (Nat.le_of_ble_eq_true rfl) (Nat.le_of_ble_eq_true rfl) (Nat.le_of_ble_eq_true rfl) hroom.1 hroom.2 zd_L_startOf_4 ?_ ?_
  · intro Ex u hPX
    obtain ⟨rfl, e⟩ := hPX
    refine z_catch (hh := [((0 : Nat), (9 : Nat), (12 : Nat), (31 : Nat))]) (zOk_up O hroom.1 hroom.2) htab [] ⟨0, 9, 12, 31⟩ [] rfl (fun z hz => absurd hz List.not_mem_nil) (by decide) (by decide) zm559 (hns _ zcs2) (fun q => ?_)
    refine z_astore_n (zOk_up O hroom.1 hroom.2) (lv' := [(3, .ref q), (0, .ref (zq w 0)), (1, .int a1), (2, .ref (zq w 25))]) zd_L_startOf_12 rfl (Nat.le_of_ble_eq_true rfl) rfl ?_
    refine z_iconst (zOk_up O hroom.1 hroom.2) (v := 1) zd_L_startOf_13 (by decide) ?_
    exact E _ _ _ _ zd_L_startOf_14 rfl (by unfold f_L_startOf; rw [← e]; exact (zwr1 (by decide)).symm)
  · intro r u e
    refine z_i2l (zOk_up O hroom.1 hroom.2) zd_L_startOf_7 ?_
    refine z_last (zOk_up O hroom.1 hroom.2) (x := r) rfl zd_L_startOf_8 ?_
    refine z_goto (zOk_up O hroom.1 hroom.2) (tgt := 15) zd_L_startOf_9 (by decide) ?_
    refine z_iconst (zOk_up O hroom.1 hroom.2) (v := 0) zd_L_startOf_15 (by decide) ?_
    exact E _ _ _ _ zd_L_startOf_16 rfl (by unfold f_L_startOf; rw [← e]; exact zwr0.symm)
set_option maxHeartbeats 4000000 in
set_option maxRecDepth 100000 in
theorem c_X_endOf (l : Launch) (hfl : l.stackTraces = false) (w : zWd) (σ : zSt) (a1 : Int32) (ko : k_X_endOf σ a1) : zMx l ({ cls := "SluiceStream", name := "endOf", desc := "(I)I" } : Jvm.MethodName) prog_1_method_14_code 2 6 90 .int w [.ref (zq w 0), .int a1] σ (fun r u => ((0 : Int32), r, u) = (f_X_endOf σ a1)) (fun E u => (E = "java/lang/IndexOutOfBoundsException" ∧ ((1 : Int32), (0 : Int32), u) = (f_X_endOf σ a1))) := by
  refine zMx_of hfl (by decide +kernel) (Nat.le_of_ble_eq_true rfl) (Nat.le_of_ble_eq_true rfl) ?_
  intro K O hl0 E EX
  have ht : (f_X_endOf σ a1) = (f_X_endOf σ a1) := rfl
  refine z_sub (lv' := [(0, .ref (zq w 0)), (1, .int a1)]) [0, 1] rfl ?_
  refine z_aload_n O zd_X_endOf_0 rfl 0 rfl ?_
  refine zg_X_32_0 O zd_X_endOf_1 (v := .ref (zq w 9)) rfl ?_
  refine z_iload_n O zd_X_endOf_4 rfl 1 rfl ?_
  refine z_callri O hl0 (st := []) 9 2 (fs := zo9 w σ) rfl rfl (c_W_holds_9 l w σ a1) zl_X_77 zm218 zm219 rfl rfl (Nat.le_of_ble_eq_true rfl) (Nat.le_of_ble_eq_true rfl) (Nat.le_of_ble_eq_true rfl) zd_X_endOf_5 (fun r1 e2 => ?_)
  have ht := ht.trans (zlet_e e2)
  have ko := ko r1 e2
  refine z_if_ne O (tgt := 19) zd_X_endOf_8 (by decide) (fun c3 => ?_) (fun c3 => ?_)
  · have ht := ht.trans (if_neg c3)
    have ko := ko c3
    refine z_aload_n O zd_X_endOf_19 rfl 0 rfl ?_
    refine zg_X_32_0 O zd_X_endOf_20 (v := .ref (zq w 9)) rfl ?_
    refine z_iload_n O zd_X_endOf_23 rfl 1 rfl ?_
    refine z_iconst O (v := 1) zd_X_endOf_24 (by decide) ?_
    refine z_callri O hl0 (st := []) 9 2 (fs := zo9 w σ) rfl rfl (c_W_cell_9 l w σ a1 1 ko) zl_X_84 zm581 zm582 rfl rfl (Nat.le_of_ble_eq_true rfl) (Nat.le_of_ble_eq_true rfl) (Nat.le_of_ble_eq_true rfl) zd_X_endOf_25 (fun r4 e5 => ?_)
    have ht := ht.trans (zlet_e e5)
    exact E _ _ _ _ zd_X_endOf_28 rfl ht.symm
  · have ht := ht.trans (if_pos c3)
    exact EX _ _ _ _ _ _ _ zt_X_81 (Nat.le_of_ble_eq_true rfl) zd_X_endOf_11 zd_X_endOf_14 zd_X_endOf_15 zd_X_endOf_18 ⟨rfl, ht.symm⟩
set_option maxHeartbeats 4000000 in
set_option maxRecDepth 100000 in
theorem c_L_endOf (l : Launch) (hfl : l.stackTraces = false) (w : zWd) (σ : zSt) (a1 : Int32) (ko : k_X_endOf σ a1) : zMw l ({ cls := "SluiceStreamLaw", name := "endOf", desc := "(LSluiceStream;I[J)I" } : Jvm.MethodName) method_13_code 4 [((0 : Nat), (9 : Nat), (12 : Nat), (31 : Nat))] 7 111 w [.ref (zq w 0), .int a1, .ref (zq w 25)] σ (fun r u => (r, u) = f_L_endOf σ a1) := by
  refine zMw_of (by decide +kernel) (Nat.le_of_ble_eq_true rfl) ?_
  intro K O hl0 htab hroom hX hns hnc E
  refine z_sub (lv' := [(0, .ref (zq w 0)), (1, .int a1), (2, .ref (zq w 25))]) [0, 1, 2] rfl ?_
  refine z_aload_n O zd_L_endOf_0 rfl 2 rfl ?_
  refine z_iconst O (v := 0) zd_L_endOf_1 (by decide) ?_
  refine z_aload_n O zd_L_endOf_2 rfl 0 rfl ?_
  refine z_iload_n O zd_L_endOf_3 rfl 1 rfl ?_
  refine z_callxi O hl0 hX (st := [.int 0, .ref (zq w 25)]) 0 5 (fs := zo0 w σ) rfl rfl (c_X_endOf l hfl w σ a1 ko) zl_L_48 zm672 zm673 rfl rfl (Nat.le_of_ble_eq_true rfl) (Nat.le_of_ble_eq_true rfl) (Nat.le_of_ble_eq_true rfl) hroom.1 hroom.2 zd_L_endOf_4 ?_ ?_
  · intro Ex u hPX
    obtain ⟨rfl, e⟩ := hPX
    refine z_catch (hh := [((0 : Nat), (9 : Nat), (12 : Nat), (31 : Nat))]) (zOk_up O hroom.1 hroom.2) htab [] ⟨0, 9, 12, 31⟩ [] rfl (fun z hz => absurd hz List.not_mem_nil) (by decide) (by decide) zm559 (hns _ zcs2) (fun q => ?_)
    refine z_astore_n (zOk_up O hroom.1 hroom.2) (lv' := [(3, .ref q), (0, .ref (zq w 0)), (1, .int a1), (2, .ref (zq w 25))]) zd_L_endOf_12 rfl (Nat.le_of_ble_eq_true rfl) rfl ?_
    refine z_iconst (zOk_up O hroom.1 hroom.2) (v := 1) zd_L_endOf_13 (by decide) ?_
    exact E _ _ _ _ zd_L_endOf_14 rfl (by unfold f_L_endOf; rw [← e]; exact (zwr1 (by decide)).symm)
  · intro r u e
    refine z_i2l (zOk_up O hroom.1 hroom.2) zd_L_endOf_7 ?_
    refine z_last (zOk_up O hroom.1 hroom.2) (x := r) rfl zd_L_endOf_8 ?_
    refine z_goto (zOk_up O hroom.1 hroom.2) (tgt := 15) zd_L_endOf_9 (by decide) ?_
    refine z_iconst (zOk_up O hroom.1 hroom.2) (v := 0) zd_L_endOf_15 (by decide) ?_
    exact E _ _ _ _ zd_L_endOf_16 rfl (by unfold f_L_endOf; rw [← e]; exact zwr0.symm)
set_option maxHeartbeats 4000000 in
set_option maxRecDepth 100000 in
theorem c_X_ackNumber (l : Launch) (hfl : l.stackTraces = false) (w : zWd) (σ : zSt) (a1 : Int32) (ko : k_X_ackNumber σ a1) : zMx l ({ cls := "SluiceStream", name := "ackNumber", desc := "(I)I" } : Jvm.MethodName) prog_1_method_16_code 2 6 90 .int w [.ref (zq w 0), .int a1] σ (fun r u => ((0 : Int32), r, u) = (f_X_ackNumber σ a1)) (fun E u => (E = "java/lang/IndexOutOfBoundsException" ∧ ((1 : Int32), (0 : Int32), u) = (f_X_ackNumber σ a1))) := by
  refine zMx_of hfl (by decide +kernel) (Nat.le_of_ble_eq_true rfl) (Nat.le_of_ble_eq_true rfl) ?_
  intro K O hl0 E EX
  have ht : (f_X_ackNumber σ a1) = (f_X_ackNumber σ a1) := rfl
  refine z_sub (lv' := [(0, .ref (zq w 0)), (1, .int a1)]) [0, 1] rfl ?_
  refine z_aload_n O zd_X_ackNumber_0 rfl 0 rfl ?_
  refine zg_X_36_0 O zd_X_ackNumber_1 (v := .ref (zq w 11)) rfl ?_
  refine z_iload_n O zd_X_ackNumber_4 rfl 1 rfl ?_
  refine z_callri O hl0 (st := []) 11 2 (fs := zo11 w σ) rfl rfl (c_W_holds_11 l w σ a1) zl_X_77 zm218 zm219 rfl rfl (Nat.le_of_ble_eq_true rfl) (Nat.le_of_ble_eq_true rfl) (Nat.le_of_ble_eq_true rfl) zd_X_ackNumber_5 (fun r1 e2 => ?_)
  have ht := ht.trans (zlet_e e2)
  have ko := ko r1 e2
  refine z_if_ne O (tgt := 19) zd_X_ackNumber_8 (by decide) (fun c3 => ?_) (fun c3 => ?_)
  · have ht := ht.trans (if_neg c3)
    have ko := ko c3
    refine z_aload_n O zd_X_ackNumber_19 rfl 0 rfl ?_
    refine zg_X_36_0 O zd_X_ackNumber_20 (v := .ref (zq w 11)) rfl ?_
    refine z_iload_n O zd_X_ackNumber_23 rfl 1 rfl ?_
    refine z_iconst O (v := 0) zd_X_ackNumber_24 (by decide) ?_
    refine z_callri O hl0 (st := []) 11 2 (fs := zo11 w σ) rfl rfl (c_W_cell_11 l w σ a1 0 ko) zl_X_84 zm581 zm582 rfl rfl (Nat.le_of_ble_eq_true rfl) (Nat.le_of_ble_eq_true rfl) (Nat.le_of_ble_eq_true rfl) zd_X_ackNumber_25 (fun r4 e5 => ?_)
    have ht := ht.trans (zlet_e e5)
    exact E _ _ _ _ zd_X_ackNumber_28 rfl ht.symm
  · have ht := ht.trans (if_pos c3)
    exact EX _ _ _ _ _ _ _ zt_X_81 (Nat.le_of_ble_eq_true rfl) zd_X_ackNumber_11 zd_X_ackNumber_14 zd_X_ackNumber_15 zd_X_ackNumber_18 ⟨rfl, ht.symm⟩
set_option maxHeartbeats 4000000 in
set_option maxRecDepth 100000 in
theorem c_L_ackNumber (l : Launch) (hfl : l.stackTraces = false) (w : zWd) (σ : zSt) (a1 : Int32) (ko : k_X_ackNumber σ a1) : zMw l ({ cls := "SluiceStreamLaw", name := "ackNumber", desc := "(LSluiceStream;I[J)I" } : Jvm.MethodName) method_14_code 4 [((0 : Nat), (9 : Nat), (12 : Nat), (31 : Nat))] 7 111 w [.ref (zq w 0), .int a1, .ref (zq w 25)] σ (fun r u => (r, u) = f_L_ackNumber σ a1) := by
  refine zMw_of (by decide +kernel) (Nat.le_of_ble_eq_true rfl) ?_
  intro K O hl0 htab hroom hX hns hnc E
  refine z_sub (lv' := [(0, .ref (zq w 0)), (1, .int a1), (2, .ref (zq w 25))]) [0, 1, 2] rfl ?_
  refine z_aload_n O zd_L_ackNumber_0 rfl 2 rfl ?_
  refine z_iconst O (v := 0) zd_L_ackNumber_1 (by decide) ?_
  refine z_aload_n O zd_L_ackNumber_2 rfl 0 rfl ?_
  refine z_iload_n O zd_L_ackNumber_3 rfl 1 rfl ?_
  refine z_callxi O hl0 hX (st := [.int 0, .ref (zq w 25)]) 0 5 (fs := zo0 w σ) rfl rfl (c_X_ackNumber l hfl w σ a1 ko) zl_L_51 zm679 zm680 rfl rfl (Nat.le_of_ble_eq_true rfl) (Nat.le_of_ble_eq_true rfl) (Nat.le_of_ble_eq_true rfl) hroom.1 hroom.2 zd_L_ackNumber_4 ?_ ?_
  · intro Ex u hPX
    obtain ⟨rfl, e⟩ := hPX
    refine z_catch (hh := [((0 : Nat), (9 : Nat), (12 : Nat), (31 : Nat))]) (zOk_up O hroom.1 hroom.2) htab [] ⟨0, 9, 12, 31⟩ [] rfl (fun z hz => absurd hz List.not_mem_nil) (by decide) (by decide) zm559 (hns _ zcs2) (fun q => ?_)
    refine z_astore_n (zOk_up O hroom.1 hroom.2) (lv' := [(3, .ref q), (0, .ref (zq w 0)), (1, .int a1), (2, .ref (zq w 25))]) zd_L_ackNumber_12 rfl (Nat.le_of_ble_eq_true rfl) rfl ?_
    refine z_iconst (zOk_up O hroom.1 hroom.2) (v := 1) zd_L_ackNumber_13 (by decide) ?_
    exact E _ _ _ _ zd_L_ackNumber_14 rfl (by unfold f_L_ackNumber; rw [← e]; exact (zwr1 (by decide)).symm)
  · intro r u e
    refine z_i2l (zOk_up O hroom.1 hroom.2) zd_L_ackNumber_7 ?_
    refine z_last (zOk_up O hroom.1 hroom.2) (x := r) rfl zd_L_ackNumber_8 ?_
    refine z_goto (zOk_up O hroom.1 hroom.2) (tgt := 15) zd_L_ackNumber_9 (by decide) ?_
    refine z_iconst (zOk_up O hroom.1 hroom.2) (v := 0) zd_L_ackNumber_15 (by decide) ?_
    exact E _ _ _ _ zd_L_ackNumber_16 rfl (by unfold f_L_ackNumber; rw [← e]; exact zwr0.symm)
set_option maxHeartbeats 4000000 in
set_option maxRecDepth 100000 in
theorem c_X_ackWindow (l : Launch) (hfl : l.stackTraces = false) (w : zWd) (σ : zSt) (a1 : Int32) (ko : k_X_ackWindow σ a1) : zMx l ({ cls := "SluiceStream", name := "ackWindow", desc := "(I)I" } : Jvm.MethodName) prog_1_method_17_code 2 6 90 .int w [.ref (zq w 0), .int a1] σ (fun r u => ((0 : Int32), r, u) = (f_X_ackWindow σ a1)) (fun E u => (E = "java/lang/IndexOutOfBoundsException" ∧ ((1 : Int32), (0 : Int32), u) = (f_X_ackWindow σ a1))) := by
  refine zMx_of hfl (by decide +kernel) (Nat.le_of_ble_eq_true rfl) (Nat.le_of_ble_eq_true rfl) ?_
  intro K O hl0 E EX
  have ht : (f_X_ackWindow σ a1) = (f_X_ackWindow σ a1) := rfl
  refine z_sub (lv' := [(0, .ref (zq w 0)), (1, .int a1)]) [0, 1] rfl ?_
  refine z_aload_n O zd_X_ackWindow_0 rfl 0 rfl ?_
  refine zg_X_36_0 O zd_X_ackWindow_1 (v := .ref (zq w 11)) rfl ?_
  refine z_iload_n O zd_X_ackWindow_4 rfl 1 rfl ?_
  refine z_callri O hl0 (st := []) 11 2 (fs := zo11 w σ) rfl rfl (c_W_holds_11 l w σ a1) zl_X_77 zm218 zm219 rfl rfl (Nat.le_of_ble_eq_true rfl) (Nat.le_of_ble_eq_true rfl) (Nat.le_of_ble_eq_true rfl) zd_X_ackWindow_5 (fun r1 e2 => ?_)
  have ht := ht.trans (zlet_e e2)
  have ko := ko r1 e2
  refine z_if_ne O (tgt := 19) zd_X_ackWindow_8 (by decide) (fun c3 => ?_) (fun c3 => ?_)
  · have ht := ht.trans (if_neg c3)
    have ko := ko c3
    refine z_aload_n O zd_X_ackWindow_19 rfl 0 rfl ?_
    refine zg_X_36_0 O zd_X_ackWindow_20 (v := .ref (zq w 11)) rfl ?_
    refine z_iload_n O zd_X_ackWindow_23 rfl 1 rfl ?_
    refine z_iconst O (v := 1) zd_X_ackWindow_24 (by decide) ?_
    refine z_callri O hl0 (st := []) 11 2 (fs := zo11 w σ) rfl rfl (c_W_cell_11 l w σ a1 1 ko) zl_X_84 zm581 zm582 rfl rfl (Nat.le_of_ble_eq_true rfl) (Nat.le_of_ble_eq_true rfl) (Nat.le_of_ble_eq_true rfl) zd_X_ackWindow_25 (fun r4 e5 => ?_)
    have ht := ht.trans (zlet_e e5)
    exact E _ _ _ _ zd_X_ackWindow_28 rfl ht.symm
  · have ht := ht.trans (if_pos c3)
    exact EX _ _ _ _ _ _ _ zt_X_81 (Nat.le_of_ble_eq_true rfl) zd_X_ackWindow_11 zd_X_ackWindow_14 zd_X_ackWindow_15 zd_X_ackWindow_18 ⟨rfl, ht.symm⟩
set_option maxHeartbeats 4000000 in
set_option maxRecDepth 100000 in
theorem c_L_ackWindow (l : Launch) (hfl : l.stackTraces = false) (w : zWd) (σ : zSt) (a1 : Int32) (ko : k_X_ackWindow σ a1) : zMw l ({ cls := "SluiceStreamLaw", name := "ackWindow", desc := "(LSluiceStream;I[J)I" } : Jvm.MethodName) method_15_code 4 [((0 : Nat), (9 : Nat), (12 : Nat), (31 : Nat))] 7 111 w [.ref (zq w 0), .int a1, .ref (zq w 25)] σ (fun r u => (r, u) = f_L_ackWindow σ a1) := by
  refine zMw_of (by decide +kernel) (Nat.le_of_ble_eq_true rfl) ?_
  intro K O hl0 htab hroom hX hns hnc E
  refine z_sub (lv' := [(0, .ref (zq w 0)), (1, .int a1), (2, .ref (zq w 25))]) [0, 1, 2] rfl ?_
  refine z_aload_n O zd_L_ackWindow_0 rfl 2 rfl ?_
  refine z_iconst O (v := 0) zd_L_ackWindow_1 (by decide) ?_
  refine z_aload_n O zd_L_ackWindow_2 rfl 0 rfl ?_
  refine z_iload_n O zd_L_ackWindow_3 rfl 1 rfl ?_
  refine z_callxi O hl0 hX (st := [.int 0, .ref (zq w 25)]) 0 5 (fs := zo0 w σ) rfl rfl (c_X_ackWindow l hfl w σ a1 ko) zl_L_54 zm686 zm687 rfl rfl (Nat.le_of_ble_eq_true rfl) (Nat.le_of_ble_eq_true rfl) (Nat.le_of_ble_eq_true rfl) hroom.1 hroom.2 zd_L_ackWindow_4 ?_ ?_
  · intro Ex u hPX
    obtain ⟨rfl, e⟩ := hPX
    refine z_catch (hh := [((0 : Nat), (9 : Nat), (12 : Nat), (31 : Nat))]) (zOk_up O hroom.1 hroom.2) htab [] ⟨0, 9, 12, 31⟩ [] rfl (fun z hz => absurd hz List.not_mem_nil) (by decide) (by decide) zm559 (hns _ zcs2) (fun q => ?_)
    refine z_astore_n (zOk_up O hroom.1 hroom.2) (lv' := [(3, .ref q), (0, .ref (zq w 0)), (1, .int a1), (2, .ref (zq w 25))]) zd_L_ackWindow_12 rfl (Nat.le_of_ble_eq_true rfl) rfl ?_
    refine z_iconst (zOk_up O hroom.1 hroom.2) (v := 1) zd_L_ackWindow_13 (by decide) ?_
    exact E _ _ _ _ zd_L_ackWindow_14 rfl (by unfold f_L_ackWindow; rw [← e]; exact (zwr1 (by decide)).symm)
  · intro r u e
    refine z_i2l (zOk_up O hroom.1 hroom.2) zd_L_ackWindow_7 ?_
    refine z_last (zOk_up O hroom.1 hroom.2) (x := r) rfl zd_L_ackWindow_8 ?_
    refine z_goto (zOk_up O hroom.1 hroom.2) (tgt := 15) zd_L_ackWindow_9 (by decide) ?_
    refine z_iconst (zOk_up O hroom.1 hroom.2) (v := 0) zd_L_ackWindow_15 (by decide) ?_
    exact E _ _ _ _ zd_L_ackWindow_16 rfl (by unfold f_L_ackWindow; rw [← e]; exact zwr0.symm)
set_option maxHeartbeats 4000000 in
set_option maxRecDepth 100000 in
theorem c_X_ackBlocks (l : Launch) (hfl : l.stackTraces = false) (w : zWd) (σ : zSt) (a1 : Int32) (ko : k_X_ackBlocks σ a1) : zMx l ({ cls := "SluiceStream", name := "ackBlocks", desc := "(I)I" } : Jvm.MethodName) prog_1_method_18_code 2 6 90 .int w [.ref (zq w 0), .int a1] σ (fun r u => ((0 : Int32), r, u) = (f_X_ackBlocks σ a1)) (fun E u => (E = "java/lang/IndexOutOfBoundsException" ∧ ((1 : Int32), (0 : Int32), u) = (f_X_ackBlocks σ a1))) := by
  refine zMx_of hfl (by decide +kernel) (Nat.le_of_ble_eq_true rfl) (Nat.le_of_ble_eq_true rfl) ?_
  intro K O hl0 E EX
  have ht : (f_X_ackBlocks σ a1) = (f_X_ackBlocks σ a1) := rfl
  refine z_sub (lv' := [(0, .ref (zq w 0)), (1, .int a1)]) [0, 1] rfl ?_
  refine z_aload_n O zd_X_ackBlocks_0 rfl 0 rfl ?_
  refine zg_X_36_0 O zd_X_ackBlocks_1 (v := .ref (zq w 11)) rfl ?_
  refine z_iload_n O zd_X_ackBlocks_4 rfl 1 rfl ?_
  refine z_callri O hl0 (st := []) 11 2 (fs := zo11 w σ) rfl rfl (c_W_holds_11 l w σ a1) zl_X_77 zm218 zm219 rfl rfl (Nat.le_of_ble_eq_true rfl) (Nat.le_of_ble_eq_true rfl) (Nat.le_of_ble_eq_true rfl) zd_X_ackBlocks_5 (fun r1 e2 => ?_)
  have ht := ht.trans (zlet_e e2)
  have ko := ko r1 e2
  refine z_if_ne O (tgt := 19) zd_X_ackBlocks_8 (by decide) (fun c3 => ?_) (fun c3 => ?_)
  · have ht := ht.trans (if_neg c3)
    have ko := ko c3
    refine z_aload_n O zd_X_ackBlocks_19 rfl 0 rfl ?_
    refine zg_X_36_0 O zd_X_ackBlocks_20 (v := .ref (zq w 11)) rfl ?_
    refine z_iload_n O zd_X_ackBlocks_23 rfl 1 rfl ?_
    refine z_iconst O (v := 2) zd_X_ackBlocks_24 (by decide) ?_
    refine z_callri O hl0 (st := []) 11 2 (fs := zo11 w σ) rfl rfl (c_W_cell_11 l w σ a1 2 ko) zl_X_84 zm581 zm582 rfl rfl (Nat.le_of_ble_eq_true rfl) (Nat.le_of_ble_eq_true rfl) (Nat.le_of_ble_eq_true rfl) zd_X_ackBlocks_25 (fun r4 e5 => ?_)
    have ht := ht.trans (zlet_e e5)
    exact E _ _ _ _ zd_X_ackBlocks_28 rfl ht.symm
  · have ht := ht.trans (if_pos c3)
    exact EX _ _ _ _ _ _ _ zt_X_81 (Nat.le_of_ble_eq_true rfl) zd_X_ackBlocks_11 zd_X_ackBlocks_14 zd_X_ackBlocks_15 zd_X_ackBlocks_18 ⟨rfl, ht.symm⟩
set_option maxHeartbeats 4000000 in
set_option maxRecDepth 100000 in
theorem c_L_ackBlocks (l : Launch) (hfl : l.stackTraces = false) (w : zWd) (σ : zSt) (a1 : Int32) (ko : k_X_ackBlocks σ a1) : zMw l ({ cls := "SluiceStreamLaw", name := "ackBlocks", desc := "(LSluiceStream;I[J)I" } : Jvm.MethodName) method_16_code 4 [((0 : Nat), (9 : Nat), (12 : Nat), (31 : Nat))] 7 111 w [.ref (zq w 0), .int a1, .ref (zq w 25)] σ (fun r u => (r, u) = f_L_ackBlocks σ a1) := by
  refine zMw_of (by decide +kernel) (Nat.le_of_ble_eq_true rfl) ?_
  intro K O hl0 htab hroom hX hns hnc E
  refine z_sub (lv' := [(0, .ref (zq w 0)), (1, .int a1), (2, .ref (zq w 25))]) [0, 1, 2] rfl ?_
  refine z_aload_n O zd_L_ackBlocks_0 rfl 2 rfl ?_
  refine z_iconst O (v := 0) zd_L_ackBlocks_1 (by decide) ?_
  refine z_aload_n O zd_L_ackBlocks_2 rfl 0 rfl ?_
  refine z_iload_n O zd_L_ackBlocks_3 rfl 1 rfl ?_
  refine z_callxi O hl0 hX (st := [.int 0, .ref (zq w 25)]) 0 5 (fs := zo0 w σ) rfl rfl (c_X_ackBlocks l hfl w σ a1 ko) zl_L_57 zm693 zm694 rfl rfl (Nat.le_of_ble_eq_true rfl) (Nat.le_of_ble_eq_true rfl) (Nat.le_of_ble_eq_true rfl) hroom.1 hroom.2 zd_L_ackBlocks_4 ?_ ?_
  · intro Ex u hPX
    obtain ⟨rfl, e⟩ := hPX
    refine z_catch (hh := [((0 : Nat), (9 : Nat), (12 : Nat), (31 : Nat))]) (zOk_up O hroom.1 hroom.2) htab [] ⟨0, 9, 12, 31⟩ [] rfl (fun z hz => absurd hz List.not_mem_nil) (by decide) (by decide) zm559 (hns _ zcs2) (fun q => ?_)
    refine z_astore_n (zOk_up O hroom.1 hroom.2) (lv' := [(3, .ref q), (0, .ref (zq w 0)), (1, .int a1), (2, .ref (zq w 25))]) zd_L_ackBlocks_12 rfl (Nat.le_of_ble_eq_true rfl) rfl ?_
    refine z_iconst (zOk_up O hroom.1 hroom.2) (v := 1) zd_L_ackBlocks_13 (by decide) ?_
    exact E _ _ _ _ zd_L_ackBlocks_14 rfl (by unfold f_L_ackBlocks; rw [← e]; exact (zwr1 (by decide)).symm)
  · intro r u e
    refine z_i2l (zOk_up O hroom.1 hroom.2) zd_L_ackBlocks_7 ?_
    refine z_last (zOk_up O hroom.1 hroom.2) (x := r) rfl zd_L_ackBlocks_8 ?_
    refine z_goto (zOk_up O hroom.1 hroom.2) (tgt := 15) zd_L_ackBlocks_9 (by decide) ?_
    refine z_iconst (zOk_up O hroom.1 hroom.2) (v := 0) zd_L_ackBlocks_15 (by decide) ?_
    exact E _ _ _ _ zd_L_ackBlocks_16 rfl (by unfold f_L_ackBlocks; rw [← e]; exact zwr0.symm)
set_option maxHeartbeats 4000000 in
set_option maxRecDepth 100000 in
theorem c_X_ackBlock (l : Launch) (hfl : l.stackTraces = false) (w : zWd) (σ : zSt) (a1 : Int32) (a2 : Int32) (ko : k_X_ackBlock σ a1 a2) : zMx l ({ cls := "SluiceStream", name := "ackBlock", desc := "(II)I" } : Jvm.MethodName) prog_1_method_19_code 3 6 90 .int w [.ref (zq w 0), .int a1, .int a2] σ (fun r u => ((0 : Int32), r, u) = (f_X_ackBlock σ a1 a2)) (fun E u => (E = "java/lang/IndexOutOfBoundsException" ∧ ((1 : Int32), (0 : Int32), u) = (f_X_ackBlock σ a1 a2))) := by
  refine zMx_of hfl (by decide +kernel) (Nat.le_of_ble_eq_true rfl) (Nat.le_of_ble_eq_true rfl) ?_
  intro K O hl0 E EX
  have ht : (f_X_ackBlock σ a1 a2) = (f_X_ackBlock σ a1 a2) := rfl
  refine z_sub (lv' := [(0, .ref (zq w 0)), (1, .int a1), (2, .int a2)]) [0, 1, 2] rfl ?_
  refine z_aload_n O zd_X_ackBlock_0 rfl 0 rfl ?_
  refine zg_X_36_0 O zd_X_ackBlock_1 (v := .ref (zq w 11)) rfl ?_
  refine z_iload_n O zd_X_ackBlock_4 rfl 1 rfl ?_
  refine z_callri O hl0 (st := []) 11 2 (fs := zo11 w σ) rfl rfl (c_W_holds_11 l w σ a1) zl_X_77 zm218 zm219 rfl rfl (Nat.le_of_ble_eq_true rfl) (Nat.le_of_ble_eq_true rfl) (Nat.le_of_ble_eq_true rfl) zd_X_ackBlock_5 (fun r1 e2 => ?_)
  have ht := ht.trans (zlet_e e2)
  have ko := ko r1 e2
  refine z_if_eq O (tgt := 28) zd_X_ackBlock_8 (by decide) (fun c3 => ?_) (fun c3 => ?_)
  · have ht := ht.trans (if_pos c3)
    exact EX _ _ _ _ _ _ _ zt_X_81 (Nat.le_of_ble_eq_true rfl) zd_X_ackBlock_28 zd_X_ackBlock_31 zd_X_ackBlock_32 zd_X_ackBlock_35 ⟨rfl, ht.symm⟩
  · have ht := ht.trans (if_neg c3)
    have ko := ko c3
    refine z_iload_n O zd_X_ackBlock_11 rfl 2 rfl ?_
    refine z_if_lt O (tgt := 28) zd_X_ackBlock_12 (by decide) (fun c4 => ?_) (fun c4 => ?_)
    · have ht := ht.trans (if_pos c4)
      exact EX _ _ _ _ _ _ _ zt_X_81 (Nat.le_of_ble_eq_true rfl) zd_X_ackBlock_28 zd_X_ackBlock_31 zd_X_ackBlock_32 zd_X_ackBlock_35 ⟨rfl, ht.symm⟩
    · have ht := ht.trans (if_neg c4)
      have ko := ko c4
      refine z_iload_n O zd_X_ackBlock_15 rfl 2 rfl ?_
      refine z_aload_n O zd_X_ackBlock_16 rfl 0 rfl ?_
      refine zg_X_36_0 O zd_X_ackBlock_17 (v := .ref (zq w 11)) rfl ?_
      refine z_iload_n O zd_X_ackBlock_20 rfl 1 rfl ?_
      refine z_iconst O (v := 2) zd_X_ackBlock_21 (by decide) ?_
      refine z_callri O hl0 (st := [.int a2]) 11 2 (fs := zo11 w σ) rfl rfl (c_W_cell_11 l w σ a1 2 ko.1) zl_X_84 zm581 zm582 rfl rfl (Nat.le_of_ble_eq_true rfl) (Nat.le_of_ble_eq_true rfl) (Nat.le_of_ble_eq_true rfl) zd_X_ackBlock_22 (fun r5 e6 => ?_)
      have ht := ht.trans (zlet_e e6)
      have ko := ko.2 r5 e6
      refine z_icmp_lt O (tgt := 36) zd_X_ackBlock_25 (by decide) (fun c7 => ?_) (fun c7 => ?_)
      · have ht := ht.trans (if_pos c7)
        have ko := ko c7
        refine z_aload_n O zd_X_ackBlock_36 rfl 0 rfl ?_
        refine zg_X_36_0 O zd_X_ackBlock_37 (v := .ref (zq w 11)) rfl ?_
        refine z_iload_n O zd_X_ackBlock_40 rfl 1 rfl ?_
        refine z_iconst O (v := 3) zd_X_ackBlock_41 (by decide) ?_
        refine z_iconst O (v := 2) zd_X_ackBlock_42 (by decide) ?_
        refine z_iload_n O zd_X_ackBlock_43 rfl 2 rfl ?_
        refine z_imul O zd_X_ackBlock_44 ?_
        refine z_iadd O zd_X_ackBlock_45 ?_
        refine z_callri O hl0 (st := []) 11 2 (fs := zo11 w σ) rfl rfl (c_W_cell_11 l w σ a1 (3 + (2 * a2)) ko) zl_X_84 zm581 zm582 rfl rfl (Nat.le_of_ble_eq_true rfl) (Nat.le_of_ble_eq_true rfl) (Nat.le_of_ble_eq_true rfl) zd_X_ackBlock_46 (fun r8 e9 => ?_)
        have ht := ht.trans (zlet_e e9)
        exact E _ _ _ _ zd_X_ackBlock_49 rfl ht.symm
      · have ht := ht.trans (if_neg c7)
        exact EX _ _ _ _ _ _ _ zt_X_81 (Nat.le_of_ble_eq_true rfl) zd_X_ackBlock_28 zd_X_ackBlock_31 zd_X_ackBlock_32 zd_X_ackBlock_35 ⟨rfl, ht.symm⟩
set_option maxHeartbeats 4000000 in
set_option maxRecDepth 100000 in
theorem c_L_ackBlock (l : Launch) (hfl : l.stackTraces = false) (w : zWd) (σ : zSt) (a1 : Int32) (a2 : Int32) (ko : k_X_ackBlock σ a1 a2) : zMw l ({ cls := "SluiceStreamLaw", name := "ackBlock", desc := "(LSluiceStream;II[J)I" } : Jvm.MethodName) method_17_code 5 [((0 : Nat), (10 : Nat), (13 : Nat), (31 : Nat))] 7 112 w [.ref (zq w 0), .int a1, .int a2, .ref (zq w 25)] σ (fun r u => (r, u) = f_L_ackBlock σ a1 a2) := by
  refine zMw_of (by decide +kernel) (Nat.le_of_ble_eq_true rfl) ?_
  intro K O hl0 htab hroom hX hns hnc E
  refine z_sub (lv' := [(0, .ref (zq w 0)), (1, .int a1), (2, .int a2), (3, .ref (zq w 25))]) [0, 1, 2, 3] rfl ?_
  refine z_aload_n O zd_L_ackBlock_0 rfl 3 rfl ?_
  refine z_iconst O (v := 0) zd_L_ackBlock_1 (by decide) ?_
  refine z_aload_n O zd_L_ackBlock_2 rfl 0 rfl ?_
  refine z_iload_n O zd_L_ackBlock_3 rfl 1 rfl ?_
  refine z_iload_n O zd_L_ackBlock_4 rfl 2 rfl ?_
  refine z_callxi O hl0 hX (st := [.int 0, .ref (zq w 25)]) 0 5 (fs := zo0 w σ) rfl rfl (c_X_ackBlock l hfl w σ a1 a2 ko) zl_L_60 zm700 zm701 rfl rfl (Nat.le_of_ble_eq_true rfl) (Nat.le_of_ble_eq_true rfl) (Nat.le_of_ble_eq_true rfl) hroom.1 hroom.2 zd_L_ackBlock_5 ?_ ?_
  · intro Ex u hPX
    obtain ⟨rfl, e⟩ := hPX
    refine z_catch (hh := [((0 : Nat), (10 : Nat), (13 : Nat), (31 : Nat))]) (zOk_up O hroom.1 hroom.2) htab [] ⟨0, 10, 13, 31⟩ [] rfl (fun z hz => absurd hz List.not_mem_nil) (by decide) (by decide) zm559 (hns _ zcs2) (fun q => ?_)
    refine z_astore (zOk_up O hroom.1 hroom.2) (lv' := [(4, .ref q), (0, .ref (zq w 0)), (1, .int a1), (2, .int a2), (3, .ref (zq w 25))]) zd_L_ackBlock_13 (Nat.le_of_ble_eq_true rfl) rfl ?_
    refine z_iconst (zOk_up O hroom.1 hroom.2) (v := 1) zd_L_ackBlock_15 (by decide) ?_
    exact E _ _ _ _ zd_L_ackBlock_16 rfl (by unfold f_L_ackBlock; rw [← e]; exact (zwr1 (by decide)).symm)
  · intro r u e
    refine z_i2l (zOk_up O hroom.1 hroom.2) zd_L_ackBlock_8 ?_
    refine z_last (zOk_up O hroom.1 hroom.2) (x := r) rfl zd_L_ackBlock_9 ?_
    refine z_goto (zOk_up O hroom.1 hroom.2) (tgt := 17) zd_L_ackBlock_10 (by decide) ?_
    refine z_iconst (zOk_up O hroom.1 hroom.2) (v := 0) zd_L_ackBlock_17 (by decide) ?_
    exact E _ _ _ _ zd_L_ackBlock_18 rfl (by unfold f_L_ackBlock; rw [← e]; exact zwr0.symm)
set_option maxHeartbeats 4000000 in
set_option maxRecDepth 100000 in
theorem c_X_isMarked (l : Launch) (hfl : l.stackTraces = false) (w : zWd) (σ : zSt) (a1 : Int32) (ko : k_X_isMarked σ a1) : zMx l ({ cls := "SluiceStream", name := "isMarked", desc := "(I)Z" } : Jvm.MethodName) prog_1_method_27_code 2 6 90 .boolean w [.ref (zq w 0), .int a1] σ (fun r u => ((0 : Int32), r, u) = (f_X_isMarked σ a1)) (fun E u => (E = "java/lang/IndexOutOfBoundsException" ∧ ((1 : Int32), (0 : Int32), u) = (f_X_isMarked σ a1))) := by
  refine zMx_of hfl (by decide +kernel) (Nat.le_of_ble_eq_true rfl) (Nat.le_of_ble_eq_true rfl) ?_
  intro K O hl0 E EX
  have ht : (f_X_isMarked σ a1) = (f_X_isMarked σ a1) := rfl
  refine z_sub (lv' := [(0, .ref (zq w 0)), (1, .int a1)]) [0, 1] rfl ?_
  refine z_iload_n O zd_X_isMarked_0 rfl 1 rfl ?_
  refine z_if_lt O (tgt := 15) zd_X_isMarked_1 (by decide) (fun c1 => ?_) (fun c1 => ?_)
  · have ht := ht.trans (if_pos c1)
    exact EX _ _ _ _ _ _ _ zt_X_81 (Nat.le_of_ble_eq_true rfl) zd_X_isMarked_15 zd_X_isMarked_18 zd_X_isMarked_19 zd_X_isMarked_22 ⟨rfl, ht.symm⟩
  · have ht := ht.trans (if_neg c1)
    have ko := ko c1
    refine z_iload_n O zd_X_isMarked_4 rfl 1 rfl ?_
    refine z_aload_n O zd_X_isMarked_5 rfl 0 rfl ?_
    refine zg_X_16_0 O zd_X_isMarked_6 (v := .ref (zq w 2)) rfl ?_
    refine zg_X_42_2 O zd_X_isMarked_9 (v := .int (σ 2 5)) rfl ?_
    refine z_icmp_lt O (tgt := 23) zd_X_isMarked_12 (by decide) (fun c2 => ?_) (fun c2 => ?_)
    · have ht := ht.trans (if_pos c2)
      have ko := ko c2
      refine z_aload_n O zd_X_isMarked_23 rfl 0 rfl ?_
      refine zg_X_16_0 O zd_X_isMarked_24 (v := .ref (zq w 2)) rfl ?_
      refine zg_X_134_2 O zd_X_isMarked_27 (v := .ref (zq w 3)) rfl ?_
      refine z_iload_n O zd_X_isMarked_30 rfl 1 rfl ?_
      refine z_callri O hl0 (st := []) 3 0 (fs := zo3 w σ) rfl rfl (c_P_at_3 l w σ a1 ko) zl_X_138 zm246 zm247 rfl rfl (Nat.le_of_ble_eq_true rfl) (Nat.le_of_ble_eq_true rfl) (Nat.le_of_ble_eq_true rfl) zd_X_isMarked_31 (fun r3 e4 => ?_)
      have ht := ht.trans (zlet_e e4)
      refine z_if_eq O (tgt := 41) zd_X_isMarked_34 (by decide) (fun c5 => ?_) (fun c5 => ?_)
      · have ht := ht.trans (if_pos c5)
        refine z_iconst O (v := 0) zd_X_isMarked_41 (by decide) ?_
        exact E _ _ _ _ zd_X_isMarked_42 rfl ht.symm
      · have ht := ht.trans (if_neg c5)
        refine z_iconst O (v := 1) zd_X_isMarked_37 (by decide) ?_
        refine z_goto O (tgt := 42) zd_X_isMarked_38 (by decide) ?_
        exact E _ _ _ _ zd_X_isMarked_42 rfl ht.symm
    · have ht := ht.trans (if_neg c2)
      exact EX _ _ _ _ _ _ _ zt_X_81 (Nat.le_of_ble_eq_true rfl) zd_X_isMarked_15 zd_X_isMarked_18 zd_X_isMarked_19 zd_X_isMarked_22 ⟨rfl, ht.symm⟩
set_option maxHeartbeats 4000000 in
set_option maxRecDepth 100000 in
theorem c_L_isMarked (l : Launch) (hfl : l.stackTraces = false) (w : zWd) (σ : zSt) (a1 : Int32) (ko : k_X_isMarked σ a1) : zMw l ({ cls := "SluiceStreamLaw", name := "isMarked", desc := "(LSluiceStream;I[J)I" } : Jvm.MethodName) method_18_code 4 [((0 : Nat), (16 : Nat), (19 : Nat), (31 : Nat))] 7 111 w [.ref (zq w 0), .int a1, .ref (zq w 25)] σ (fun r u => (r, u) = f_L_isMarked σ a1) := by
  refine zMw_of (by decide +kernel) (Nat.le_of_ble_eq_true rfl) ?_
  intro K O hl0 htab hroom hX hns hnc E
  refine z_sub (lv' := [(0, .ref (zq w 0)), (1, .int a1), (2, .ref (zq w 25))]) [0, 1, 2] rfl ?_
  refine z_aload_n O zd_L_isMarked_0 rfl 2 rfl ?_
  refine z_iconst O (v := 0) zd_L_isMarked_1 (by decide) ?_
  refine z_aload_n O zd_L_isMarked_2 rfl 0 rfl ?_
  refine z_iload_n O zd_L_isMarked_3 rfl 1 rfl ?_
  refine z_callxi O hl0 hX (st := [.int 0, .ref (zq w 25)]) 0 5 (fs := zo0 w σ) rfl rfl (c_X_isMarked l hfl w σ a1 ko) zl_L_63 zm707 zm708 rfl rfl (Nat.le_of_ble_eq_true rfl) (Nat.le_of_ble_eq_true rfl) (Nat.le_of_ble_eq_true rfl) hroom.1 hroom.2 zd_L_isMarked_4 ?_ ?_
  · intro Ex u hPX
    obtain ⟨rfl, e⟩ := hPX
    refine z_catch (hh := [((0 : Nat), (16 : Nat), (19 : Nat), (31 : Nat))]) (zOk_up O hroom.1 hroom.2) htab [] ⟨0, 16, 19, 31⟩ [] rfl (fun z hz => absurd hz List.not_mem_nil) (by decide) (by decide) zm559 (hns _ zcs2) (fun q => ?_)
    refine z_astore_n (zOk_up O hroom.1 hroom.2) (lv' := [(3, .ref q), (0, .ref (zq w 0)), (1, .int a1), (2, .ref (zq w 25))]) zd_L_isMarked_19 rfl (Nat.le_of_ble_eq_true rfl) rfl ?_
    refine z_iconst (zOk_up O hroom.1 hroom.2) (v := 1) zd_L_isMarked_20 (by decide) ?_
    exact E _ _ _ _ zd_L_isMarked_21 rfl (by unfold f_L_isMarked; rw [← e]; exact (zwb1 (by decide)).symm)
  · intro r u e
    refine z_if_eq (zOk_up O hroom.1 hroom.2) (tgt := 14) zd_L_isMarked_7 (by decide) (fun c => ?_) (fun c => ?_)
    · refine z_lconst (zOk_up O hroom.1 hroom.2) (v := 0) zd_L_isMarked_14 (by decide) ?_
      refine z_last (zOk_up O hroom.1 hroom.2) (x := 0) (by decide) zd_L_isMarked_15 ?_
      refine z_goto (zOk_up O hroom.1 hroom.2) (tgt := 22) zd_L_isMarked_16 (by decide) ?_
      refine z_iconst (zOk_up O hroom.1 hroom.2) (v := 0) zd_L_isMarked_22 (by decide) ?_
      exact E _ _ _ _ zd_L_isMarked_23 rfl (by unfold f_L_isMarked; rw [← e, zwb0, if_pos c])
    · refine z_lconst (zOk_up O hroom.1 hroom.2) (v := 1) zd_L_isMarked_10 (by decide) ?_
      refine z_goto (zOk_up O hroom.1 hroom.2) (tgt := 15) zd_L_isMarked_11 (by decide) ?_
      refine z_last (zOk_up O hroom.1 hroom.2) (x := 1) (by decide) zd_L_isMarked_15 ?_
      refine z_goto (zOk_up O hroom.1 hroom.2) (tgt := 22) zd_L_isMarked_16 (by decide) ?_
      refine z_iconst (zOk_up O hroom.1 hroom.2) (v := 0) zd_L_isMarked_22 (by decide) ?_
      exact E _ _ _ _ zd_L_isMarked_23 rfl (by unfold f_L_isMarked; rw [← e, zwb0, if_neg c])
set_option maxHeartbeats 4000000 in
set_option maxRecDepth 100000 in
theorem c_X_blockStart (l : Launch) (hfl : l.stackTraces = false) (w : zWd) (σ : zSt) (a1 : Int32) (ko : k_X_blockStart σ a1) : zMx l ({ cls := "SluiceStream", name := "blockStart", desc := "(I)I" } : Jvm.MethodName) prog_1_method_43_code 2 6 90 .int w [.ref (zq w 0), .int a1] σ (fun r u => ((0 : Int32), r, u) = (f_X_blockStart σ a1)) (fun E u => (E = "java/lang/IndexOutOfBoundsException" ∧ ((1 : Int32), (0 : Int32), u) = (f_X_blockStart σ a1))) := by
  refine zMx_of hfl (by decide +kernel) (Nat.le_of_ble_eq_true rfl) (Nat.le_of_ble_eq_true rfl) ?_
  intro K O hl0 E EX
  have ht : (f_X_blockStart σ a1) = (f_X_blockStart σ a1) := rfl
  refine z_sub (lv' := [(0, .ref (zq w 0)), (1, .int a1)]) [0, 1] rfl ?_
  refine z_iload_n O zd_X_blockStart_0 rfl 1 rfl ?_
  refine z_if_lt O (tgt := 15) zd_X_blockStart_1 (by decide) (fun c1 => ?_) (fun c1 => ?_)
  · have ht := ht.trans (if_pos c1)
    exact EX _ _ _ _ _ _ _ zt_X_81 (Nat.le_of_ble_eq_true rfl) zd_X_blockStart_15 zd_X_blockStart_18 zd_X_blockStart_19 zd_X_blockStart_22 ⟨rfl, ht.symm⟩
  · have ht := ht.trans (if_neg c1)
    have ko := ko c1
    refine z_iload_n O zd_X_blockStart_4 rfl 1 rfl ?_
    refine z_aload_n O zd_X_blockStart_5 rfl 0 rfl ?_
    refine zg_X_23_0 O zd_X_blockStart_6 (v := .ref (zq w 6)) rfl ?_
    refine z_callri O hl0 (st := [.int a1]) 6 1 (fs := zo6 w σ) rfl rfl (c_R_countBlocks l w σ ko.1) zl_X_179 zm370 zm371 rfl rfl (Nat.le_of_ble_eq_true rfl) (Nat.le_of_ble_eq_true rfl) (Nat.le_of_ble_eq_true rfl) zd_X_blockStart_9 (fun r2 e3 => ?_)
    have ht := ht.trans (zlet_e e3)
    have ko := ko.2 r2 e3
    refine z_icmp_lt O (tgt := 23) zd_X_blockStart_12 (by decide) (fun c4 => ?_) (fun c4 => ?_)
    · have ht := ht.trans (if_pos c4)
      have ko := ko c4
      refine z_aload_n O zd_X_blockStart_23 rfl 0 rfl ?_
      refine zg_X_23_0 O zd_X_blockStart_24 (v := .ref (zq w 6)) rfl ?_
      refine z_iload_n O zd_X_blockStart_27 rfl 1 rfl ?_
      refine z_callri O hl0 (st := []) 6 1 (fs := zo6 w σ) rfl rfl (c_R_startOfBlock l w σ a1 ko) zl_X_182 zm719 zm720 rfl rfl (Nat.le_of_ble_eq_true rfl) (Nat.le_of_ble_eq_true rfl) (Nat.le_of_ble_eq_true rfl) zd_X_blockStart_28 (fun r5 e6 => ?_)
      have ht := ht.trans (zlet_e e6)
      exact E _ _ _ _ zd_X_blockStart_31 rfl ht.symm
    · have ht := ht.trans (if_neg c4)
      exact EX _ _ _ _ _ _ _ zt_X_81 (Nat.le_of_ble_eq_true rfl) zd_X_blockStart_15 zd_X_blockStart_18 zd_X_blockStart_19 zd_X_blockStart_22 ⟨rfl, ht.symm⟩
set_option maxHeartbeats 4000000 in
set_option maxRecDepth 100000 in
theorem c_L_blockStart (l : Launch) (hfl : l.stackTraces = false) (w : zWd) (σ : zSt) (a1 : Int32) (ko : k_X_blockStart σ a1) : zMw l ({ cls := "SluiceStreamLaw", name := "blockStart", desc := "(LSluiceStream;I[J)I" } : Jvm.MethodName) method_19_code 4 [((0 : Nat), (9 : Nat), (12 : Nat), (31 : Nat))] 7 111 w [.ref (zq w 0), .int a1, .ref (zq w 25)] σ (fun r u => (r, u) = f_L_blockStart σ a1) := by
  refine zMw_of (by decide +kernel) (Nat.le_of_ble_eq_true rfl) ?_
  intro K O hl0 htab hroom hX hns hnc E
  refine z_sub (lv' := [(0, .ref (zq w 0)), (1, .int a1), (2, .ref (zq w 25))]) [0, 1, 2] rfl ?_
  refine z_aload_n O zd_L_blockStart_0 rfl 2 rfl ?_
  refine z_iconst O (v := 0) zd_L_blockStart_1 (by decide) ?_
  refine z_aload_n O zd_L_blockStart_2 rfl 0 rfl ?_
  refine z_iload_n O zd_L_blockStart_3 rfl 1 rfl ?_
  refine z_callxi O hl0 hX (st := [.int 0, .ref (zq w 25)]) 0 5 (fs := zo0 w σ) rfl rfl (c_X_blockStart l hfl w σ a1 ko) zl_L_67 zm715 zm716 rfl rfl (Nat.le_of_ble_eq_true rfl) (Nat.le_of_ble_eq_true rfl) (Nat.le_of_ble_eq_true rfl) hroom.1 hroom.2 zd_L_blockStart_4 ?_ ?_
  · intro Ex u hPX
    obtain ⟨rfl, e⟩ := hPX
    refine z_catch (hh := [((0 : Nat), (9 : Nat), (12 : Nat), (31 : Nat))]) (zOk_up O hroom.1 hroom.2) htab [] ⟨0, 9, 12, 31⟩ [] rfl (fun z hz => absurd hz List.not_mem_nil) (by decide) (by decide) zm559 (hns _ zcs2) (fun q => ?_)
    refine z_astore_n (zOk_up O hroom.1 hroom.2) (lv' := [(3, .ref q), (0, .ref (zq w 0)), (1, .int a1), (2, .ref (zq w 25))]) zd_L_blockStart_12 rfl (Nat.le_of_ble_eq_true rfl) rfl ?_
    refine z_iconst (zOk_up O hroom.1 hroom.2) (v := 1) zd_L_blockStart_13 (by decide) ?_
    exact E _ _ _ _ zd_L_blockStart_14 rfl (by unfold f_L_blockStart; rw [← e]; exact (zwr1 (by decide)).symm)
  · intro r u e
    refine z_i2l (zOk_up O hroom.1 hroom.2) zd_L_blockStart_7 ?_
    refine z_last (zOk_up O hroom.1 hroom.2) (x := r) rfl zd_L_blockStart_8 ?_
    refine z_goto (zOk_up O hroom.1 hroom.2) (tgt := 15) zd_L_blockStart_9 (by decide) ?_
    refine z_iconst (zOk_up O hroom.1 hroom.2) (v := 0) zd_L_blockStart_15 (by decide) ?_
    exact E _ _ _ _ zd_L_blockStart_16 rfl (by unfold f_L_blockStart; rw [← e]; exact zwr0.symm)
set_option maxHeartbeats 4000000 in
set_option maxRecDepth 100000 in
theorem c_X_blockEnd (l : Launch) (hfl : l.stackTraces = false) (w : zWd) (σ : zSt) (a1 : Int32) (ko : k_X_blockEnd σ a1) : zMx l ({ cls := "SluiceStream", name := "blockEnd", desc := "(I)I" } : Jvm.MethodName) prog_1_method_44_code 2 6 90 .int w [.ref (zq w 0), .int a1] σ (fun r u => ((0 : Int32), r, u) = (f_X_blockEnd σ a1)) (fun E u => (E = "java/lang/IndexOutOfBoundsException" ∧ ((1 : Int32), (0 : Int32), u) = (f_X_blockEnd σ a1))) := by
  refine zMx_of hfl (by decide +kernel) (Nat.le_of_ble_eq_true rfl) (Nat.le_of_ble_eq_true rfl) ?_
  intro K O hl0 E EX
  have ht : (f_X_blockEnd σ a1) = (f_X_blockEnd σ a1) := rfl
  refine z_sub (lv' := [(0, .ref (zq w 0)), (1, .int a1)]) [0, 1] rfl ?_
  refine z_iload_n O zd_X_blockEnd_0 rfl 1 rfl ?_
  refine z_if_lt O (tgt := 15) zd_X_blockEnd_1 (by decide) (fun c1 => ?_) (fun c1 => ?_)
  · have ht := ht.trans (if_pos c1)
    exact EX _ _ _ _ _ _ _ zt_X_81 (Nat.le_of_ble_eq_true rfl) zd_X_blockEnd_15 zd_X_blockEnd_18 zd_X_blockEnd_19 zd_X_blockEnd_22 ⟨rfl, ht.symm⟩
  · have ht := ht.trans (if_neg c1)
    have ko := ko c1
    refine z_iload_n O zd_X_blockEnd_4 rfl 1 rfl ?_
    refine z_aload_n O zd_X_blockEnd_5 rfl 0 rfl ?_
    refine zg_X_23_0 O zd_X_blockEnd_6 (v := .ref (zq w 6)) rfl ?_
    refine z_callri O hl0 (st := [.int a1]) 6 1 (fs := zo6 w σ) rfl rfl (c_R_countBlocks l w σ ko.1) zl_X_179 zm370 zm371 rfl rfl (Nat.le_of_ble_eq_true rfl) (Nat.le_of_ble_eq_true rfl) (Nat.le_of_ble_eq_true rfl) zd_X_blockEnd_9 (fun r2 e3 => ?_)
    have ht := ht.trans (zlet_e e3)
    have ko := ko.2 r2 e3
    refine z_icmp_lt O (tgt := 23) zd_X_blockEnd_12 (by decide) (fun c4 => ?_) (fun c4 => ?_)
    · have ht := ht.trans (if_pos c4)
      have ko := ko c4
      refine z_aload_n O zd_X_blockEnd_23 rfl 0 rfl ?_
      refine zg_X_23_0 O zd_X_blockEnd_24 (v := .ref (zq w 6)) rfl ?_
      refine z_aload_n O zd_X_blockEnd_27 rfl 0 rfl ?_
      refine zg_X_23_0 O zd_X_blockEnd_28 (v := .ref (zq w 6)) rfl ?_
      refine z_iload_n O zd_X_blockEnd_31 rfl 1 rfl ?_
      refine z_callri O hl0 (st := [.ref (zq w 6)]) 6 1 (fs := zo6 w σ) rfl rfl (c_R_startOfBlock l w σ a1 ko.1) zl_X_182 zm719 zm720 rfl rfl (Nat.le_of_ble_eq_true rfl) (Nat.le_of_ble_eq_true rfl) (Nat.le_of_ble_eq_true rfl) zd_X_blockEnd_32 (fun r5 e6 => ?_)
      have ht := ht.trans (zlet_e e6)
      have ko := ko.2 r5 e6
      refine z_callri O hl0 (st := []) 6 1 (fs := zo6 w σ) rfl rfl (c_R_endOfRun l w σ r5 ko) zl_X_185 zm250 zm251 rfl rfl (Nat.le_of_ble_eq_true rfl) (Nat.le_of_ble_eq_true rfl) (Nat.le_of_ble_eq_true rfl) zd_X_blockEnd_35 (fun r7 e8 => ?_)
      have ht := ht.trans (zlet_e e8)
      exact E _ _ _ _ zd_X_blockEnd_38 rfl ht.symm
    · have ht := ht.trans (if_neg c4)
      exact EX _ _ _ _ _ _ _ zt_X_81 (Nat.le_of_ble_eq_true rfl) zd_X_blockEnd_15 zd_X_blockEnd_18 zd_X_blockEnd_19 zd_X_blockEnd_22 ⟨rfl, ht.symm⟩
set_option maxHeartbeats 4000000 in
set_option maxRecDepth 100000 in
theorem c_L_blockEnd (l : Launch) (hfl : l.stackTraces = false) (w : zWd) (σ : zSt) (a1 : Int32) (ko : k_X_blockEnd σ a1) : zMw l ({ cls := "SluiceStreamLaw", name := "blockEnd", desc := "(LSluiceStream;I[J)I" } : Jvm.MethodName) method_20_code 4 [((0 : Nat), (9 : Nat), (12 : Nat), (31 : Nat))] 7 111 w [.ref (zq w 0), .int a1, .ref (zq w 25)] σ (fun r u => (r, u) = f_L_blockEnd σ a1) := by
  refine zMw_of (by decide +kernel) (Nat.le_of_ble_eq_true rfl) ?_
  intro K O hl0 htab hroom hX hns hnc E
  refine z_sub (lv' := [(0, .ref (zq w 0)), (1, .int a1), (2, .ref (zq w 25))]) [0, 1, 2] rfl ?_
  refine z_aload_n O zd_L_blockEnd_0 rfl 2 rfl ?_
  refine z_iconst O (v := 0) zd_L_blockEnd_1 (by decide) ?_
  refine z_aload_n O zd_L_blockEnd_2 rfl 0 rfl ?_
  refine z_iload_n O zd_L_blockEnd_3 rfl 1 rfl ?_
  refine z_callxi O hl0 hX (st := [.int 0, .ref (zq w 25)]) 0 5 (fs := zo0 w σ) rfl rfl (c_X_blockEnd l hfl w σ a1 ko) zl_L_70 zm726 zm727 rfl rfl (Nat.le_of_ble_eq_true rfl) (Nat.le_of_ble_eq_true rfl) (Nat.le_of_ble_eq_true rfl) hroom.1 hroom.2 zd_L_blockEnd_4 ?_ ?_
  · intro Ex u hPX
    obtain ⟨rfl, e⟩ := hPX
    refine z_catch (hh := [((0 : Nat), (9 : Nat), (12 : Nat), (31 : Nat))]) (zOk_up O hroom.1 hroom.2) htab [] ⟨0, 9, 12, 31⟩ [] rfl (fun z hz => absurd hz List.not_mem_nil) (by decide) (by decide) zm559 (hns _ zcs2) (fun q => ?_)
    refine z_astore_n (zOk_up O hroom.1 hroom.2) (lv' := [(3, .ref q), (0, .ref (zq w 0)), (1, .int a1), (2, .ref (zq w 25))]) zd_L_blockEnd_12 rfl (Nat.le_of_ble_eq_true rfl) rfl ?_
    refine z_iconst (zOk_up O hroom.1 hroom.2) (v := 1) zd_L_blockEnd_13 (by decide) ?_
    exact E _ _ _ _ zd_L_blockEnd_14 rfl (by unfold f_L_blockEnd; rw [← e]; exact (zwr1 (by decide)).symm)
  · intro r u e
    refine z_i2l (zOk_up O hroom.1 hroom.2) zd_L_blockEnd_7 ?_
    refine z_last (zOk_up O hroom.1 hroom.2) (x := r) rfl zd_L_blockEnd_8 ?_
    refine z_goto (zOk_up O hroom.1 hroom.2) (tgt := 15) zd_L_blockEnd_9 (by decide) ?_
    refine z_iconst (zOk_up O hroom.1 hroom.2) (v := 0) zd_L_blockEnd_15 (by decide) ?_
    exact E _ _ _ _ zd_L_blockEnd_16 rfl (by unfold f_L_blockEnd; rw [← e]; exact zwr0.symm)
