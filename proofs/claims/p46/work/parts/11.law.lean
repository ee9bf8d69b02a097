set_option maxHeartbeats 4000000 in
set_option maxRecDepth 100000 in
theorem S_L_isSender_12 {K : zCx} {w : zWd} {l : Launch} (O : zOk K w method_2_code "SluiceStreamLaw" 7 4 85) (hl0 : kl K = l) (σ : zSt) (x1 : Int32) (x2 : Int32) (x3 : Int32) (kk : ∀ r, r = s_L_isSender_12 σ x1 x2 x3 → Z K w σ [(0, .ref (zq w 0)), (1, .int x1), (2, .int x2), (3, .int x3), (4, .int r)] [] 90) : Z K w σ [(0, .ref (zq w 0)), (1, .int x1), (2, .int x2), (3, .int x3)] [] 12 := by
  have ht : s_L_isSender_12 σ x1 x2 x3 = s_L_isSender_12 σ x1 x2 x3 := rfl
  refine z_iload_n O zd_L_isSender_12 rfl 1 rfl ?_
  refine z_aload_n O zd_L_isSender_13 rfl 0 rfl ?_
  refine z_callri O hl0 (st := [.int x1]) 0 5 (fs := zo0 w σ) rfl rfl (c_X_inOrder l w σ) zl_L_16 zm464 zm465 rfl rfl (Nat.le_of_ble_eq_true rfl) (Nat.le_of_ble_eq_true rfl) (Nat.le_of_ble_eq_true rfl) zd_L_isSender_14 (fun r5 e6 => ?_)
  have ht := ht.trans (zlet_e e6)
  refine z_icmp_gt O (tgt := 87) zd_L_isSender_17 (by decide) (fun c7 => ?_) (fun c7 => ?_)
  · have ht := ht.trans (if_pos c7)
    refine z_iconst O (v := 0) zd_L_isSender_87 (by decide) ?_
    refine z_istore O (lv' := [(4, .int 0), (0, .ref (zq w 0)), (1, .int x1), (2, .int x2), (3, .int x3)]) zd_L_isSender_88 (Nat.le_of_ble_eq_true rfl) rfl ?_
    refine z_sub (lv' := [(0, .ref (zq w 0)), (1, .int x1), (2, .int x2), (3, .int x3), (4, .int 0)]) [1, 2, 3, 4, 0] rfl ?_
    exact kk 0 ht.symm
  · have ht := ht.trans (if_neg c7)
    refine z_iload_n O zd_L_isSender_20 rfl 1 rfl ?_
    refine z_iload_n O zd_L_isSender_21 rfl 2 rfl ?_
    refine z_icmp_gt O (tgt := 87) zd_L_isSender_22 (by decide) (fun c8 => ?_) (fun c8 => ?_)
    · have ht := ht.trans (if_pos c8)
      refine z_iconst O (v := 0) zd_L_isSender_87 (by decide) ?_
      refine z_istore O (lv' := [(4, .int 0), (0, .ref (zq w 0)), (1, .int x1), (2, .int x2), (3, .int x3)]) zd_L_isSender_88 (Nat.le_of_ble_eq_true rfl) rfl ?_
      refine z_sub (lv' := [(0, .ref (zq w 0)), (1, .int x1), (2, .int x2), (3, .int x3), (4, .int 0)]) [1, 2, 3, 4, 0] rfl ?_
      exact kk 0 ht.symm
    · have ht := ht.trans (if_neg c8)
      refine z_iload_n O zd_L_isSender_25 rfl 2 rfl ?_
      refine z_aload_n O zd_L_isSender_26 rfl 0 rfl ?_
      refine z_callri O hl0 (st := [.int x2]) 0 5 (fs := zo0 w σ) rfl rfl (c_X_written l w σ) zl_L_19 zm460 zm461 rfl rfl (Nat.le_of_ble_eq_true rfl) (Nat.le_of_ble_eq_true rfl) (Nat.le_of_ble_eq_true rfl) zd_L_isSender_27 (fun r9 e10 => ?_)
      have ht := ht.trans (zlet_e e10)
      refine z_icmp_gt O (tgt := 87) zd_L_isSender_30 (by decide) (fun c11 => ?_) (fun c11 => ?_)
      · have ht := ht.trans (if_pos c11)
        refine z_iconst O (v := 0) zd_L_isSender_87 (by decide) ?_
        refine z_istore O (lv' := [(4, .int 0), (0, .ref (zq w 0)), (1, .int x1), (2, .int x2), (3, .int x3)]) zd_L_isSender_88 (Nat.le_of_ble_eq_true rfl) rfl ?_
        refine z_sub (lv' := [(0, .ref (zq w 0)), (1, .int x1), (2, .int x2), (3, .int x3), (4, .int 0)]) [1, 2, 3, 4, 0] rfl ?_
        exact kk 0 ht.symm
      · have ht := ht.trans (if_neg c11)
        refine z_aload_n O zd_L_isSender_33 rfl 0 rfl ?_
        refine z_callri O hl0 (st := []) 0 5 (fs := zo0 w σ) rfl rfl (c_X_highest l w σ) zl_L_22 zm483 zm484 rfl rfl (Nat.le_of_ble_eq_true rfl) (Nat.le_of_ble_eq_true rfl) (Nat.le_of_ble_eq_true rfl) zd_L_isSender_34 (fun r12 e13 => ?_)
        have ht := ht.trans (zlet_e e13)
        refine z_aload_n O zd_L_isSender_37 rfl 0 rfl ?_
        refine z_callri O hl0 (st := [.int r12]) 0 5 (fs := zo0 w σ) rfl rfl (c_X_written l w σ) zl_L_19 zm460 zm461 rfl rfl (Nat.le_of_ble_eq_true rfl) (Nat.le_of_ble_eq_true rfl) (Nat.le_of_ble_eq_true rfl) zd_L_isSender_38 (fun r14 e15 => ?_)
        have ht := ht.trans (zlet_e e15)
        refine z_icmp_gt O (tgt := 87) zd_L_isSender_41 (by decide) (fun c16 => ?_) (fun c16 => ?_)
        · have ht := ht.trans (if_pos c16)
          refine z_iconst O (v := 0) zd_L_isSender_87 (by decide) ?_
          refine z_istore O (lv' := [(4, .int 0), (0, .ref (zq w 0)), (1, .int x1), (2, .int x2), (3, .int x3)]) zd_L_isSender_88 (Nat.le_of_ble_eq_true rfl) rfl ?_
          refine z_sub (lv' := [(0, .ref (zq w 0)), (1, .int x1), (2, .int x2), (3, .int x3), (4, .int 0)]) [1, 2, 3, 4, 0] rfl ?_
          exact kk 0 ht.symm
        · have ht := ht.trans (if_neg c16)
          refine z_iload_n O zd_L_isSender_44 rfl 2 rfl ?_
          refine z_aload_n O zd_L_isSender_45 rfl 0 rfl ?_
          refine z_callri O hl0 (st := [.int x2]) 0 5 (fs := zo0 w σ) rfl rfl (c_X_highest l w σ) zl_L_22 zm483 zm484 rfl rfl (Nat.le_of_ble_eq_true rfl) (Nat.le_of_ble_eq_true rfl) (Nat.le_of_ble_eq_true rfl) zd_L_isSender_46 (fun r17 e18 => ?_)
          have ht := ht.trans (zlet_e e18)
          refine z_icmp_gt O (tgt := 87) zd_L_isSender_49 (by decide) (fun c19 => ?_) (fun c19 => ?_)
          · have ht := ht.trans (if_pos c19)
            refine z_iconst O (v := 0) zd_L_isSender_87 (by decide) ?_
            refine z_istore O (lv' := [(4, .int 0), (0, .ref (zq w 0)), (1, .int x1), (2, .int x2), (3, .int x3)]) zd_L_isSender_88 (Nat.le_of_ble_eq_true rfl) rfl ?_
            refine z_sub (lv' := [(0, .ref (zq w 0)), (1, .int x1), (2, .int x2), (3, .int x3), (4, .int 0)]) [1, 2, 3, 4, 0] rfl ?_
            exact kk 0 ht.symm
          · have ht := ht.trans (if_neg c19)
            refine z_aload_n O zd_L_isSender_52 rfl 0 rfl ?_
            refine z_callri O hl0 (st := []) 0 5 (fs := zo0 w σ) rfl rfl (c_X_edge l w σ) zl_L_25 zm487 zm488 rfl rfl (Nat.le_of_ble_eq_true rfl) (Nat.le_of_ble_eq_true rfl) (Nat.le_of_ble_eq_true rfl) zd_L_isSender_53 (fun r20 e21 => ?_)
            have ht := ht.trans (zlet_e e21)
            refine z_bipush O (v := 32) zd_L_isSender_56 (by decide) ?_
            refine z_icmp_lt O (tgt := 87) zd_L_isSender_58 (by decide) (fun c22 => ?_) (fun c22 => ?_)
            · have ht := ht.trans (if_pos c22)
              refine z_iconst O (v := 0) zd_L_isSender_87 (by decide) ?_
              refine z_istore O (lv' := [(4, .int 0), (0, .ref (zq w 0)), (1, .int x1), (2, .int x2), (3, .int x3)]) zd_L_isSender_88 (Nat.le_of_ble_eq_true rfl) rfl ?_
              refine z_sub (lv' := [(0, .ref (zq w 0)), (1, .int x1), (2, .int x2), (3, .int x3), (4, .int 0)]) [1, 2, 3, 4, 0] rfl ?_
              exact kk 0 ht.symm
            · have ht := ht.trans (if_neg c22)
              refine z_aload_n O zd_L_isSender_61 rfl 0 rfl ?_
              refine z_callri O hl0 (st := []) 0 5 (fs := zo0 w σ) rfl rfl (c_X_edge l w σ) zl_L_25 zm487 zm488 rfl rfl (Nat.le_of_ble_eq_true rfl) (Nat.le_of_ble_eq_true rfl) (Nat.le_of_ble_eq_true rfl) zd_L_isSender_62 (fun r23 e24 => ?_)
              have ht := ht.trans (zlet_e e24)
              refine z_aload_n O zd_L_isSender_65 rfl 0 rfl ?_
              refine z_callri O hl0 (st := [.int r23]) 0 5 (fs := zo0 w σ) rfl rfl (c_X_readPosition l w σ) zl_L_28 zm468 zm469 rfl rfl (Nat.le_of_ble_eq_true rfl) (Nat.le_of_ble_eq_true rfl) (Nat.le_of_ble_eq_true rfl) zd_L_isSender_66 (fun r25 e26 => ?_)
              have ht := ht.trans (zlet_e e26)
              refine z_bipush O (v := 32) zd_L_isSender_69 (by decide) ?_
              refine z_iadd O zd_L_isSender_71 ?_
              refine z_icmp_gt O (tgt := 87) zd_L_isSender_72 (by decide) (fun c27 => ?_) (fun c27 => ?_)
              · have ht := ht.trans (if_pos c27)
                refine z_iconst O (v := 0) zd_L_isSender_87 (by decide) ?_
                refine z_istore O (lv' := [(4, .int 0), (0, .ref (zq w 0)), (1, .int x1), (2, .int x2), (3, .int x3)]) zd_L_isSender_88 (Nat.le_of_ble_eq_true rfl) rfl ?_
                refine z_sub (lv' := [(0, .ref (zq w 0)), (1, .int x1), (2, .int x2), (3, .int x3), (4, .int 0)]) [1, 2, 3, 4, 0] rfl ?_
                exact kk 0 ht.symm
              · have ht := ht.trans (if_neg c27)
                refine z_iload_n O zd_L_isSender_75 rfl 2 rfl ?_
                refine z_iload_n O zd_L_isSender_76 rfl 1 rfl ?_
                refine z_bipush O (v := 33) zd_L_isSender_77 (by decide) ?_
                refine z_iadd O zd_L_isSender_79 ?_
                refine z_icmp_gt O (tgt := 87) zd_L_isSender_80 (by decide) (fun c28 => ?_) (fun c28 => ?_)
                · have ht := ht.trans (if_pos c28)
                  refine z_iconst O (v := 0) zd_L_isSender_87 (by decide) ?_
                  refine z_istore O (lv' := [(4, .int 0), (0, .ref (zq w 0)), (1, .int x1), (2, .int x2), (3, .int x3)]) zd_L_isSender_88 (Nat.le_of_ble_eq_true rfl) rfl ?_
                  refine z_sub (lv' := [(0, .ref (zq w 0)), (1, .int x1), (2, .int x2), (3, .int x3), (4, .int 0)]) [1, 2, 3, 4, 0] rfl ?_
                  exact kk 0 ht.symm
                · have ht := ht.trans (if_neg c28)
                  refine z_iconst O (v := 1) zd_L_isSender_83 (by decide) ?_
                  refine z_goto O (tgt := 88) zd_L_isSender_84 (by decide) ?_
                  refine z_istore O (lv' := [(4, .int 1), (0, .ref (zq w 0)), (1, .int x1), (2, .int x2), (3, .int x3)]) zd_L_isSender_88 (Nat.le_of_ble_eq_true rfl) rfl ?_
                  refine z_sub (lv' := [(0, .ref (zq w 0)), (1, .int x1), (2, .int x2), (3, .int x3), (4, .int 1)]) [1, 2, 3, 4, 0] rfl ?_
                  exact kk 1 ht.symm
set_option maxHeartbeats 4000000 in
set_option maxRecDepth 100000 in
theorem S_L_isSender_110 {K : zCx} {w : zWd} {l : Launch} (O : zOk K w method_2_code "SluiceStreamLaw" 7 4 85) (hl0 : kl K = l) (σ : zSt) (x1 : Int32) (x2 : Int32) (x3 : Int32) (x4 : Int32) (x5 : Int32) (x6 : Int32) (kk : ∀ r, r = s_L_isSender_110 σ x1 x2 x3 x4 x5 x6 → Z K w σ [(0, .ref (zq w 0)), (1, .int x1), (2, .int x2), (3, .int r), (4, .int x4), (5, .int x5), (6, .int x6)] [] 129) : Z K w σ [(0, .ref (zq w 0)), (1, .int x1), (2, .int x2), (3, .int x3), (4, .int x4), (5, .int x5), (6, .int x6)] [] 110 := by
  have ht : s_L_isSender_110 σ x1 x2 x3 x4 x5 x6 = s_L_isSender_110 σ x1 x2 x3 x4 x5 x6 := rfl
  refine z_iload_n O zd_L_isSender_110 rfl 3 rfl ?_
  refine z_iload O zd_L_isSender_111 6 rfl ?_
  refine z_if_eq O (tgt := 126) zd_L_isSender_113 (by decide) (fun c35 => ?_) (fun c35 => ?_)
  · have ht := ht.trans (if_pos c35)
    refine z_iconst O (v := 0) zd_L_isSender_126 (by decide) ?_
    refine z_iadd O zd_L_isSender_127 ?_
    refine z_istore_n O (lv' := [(3, .int (x3 + 0)), (0, .ref (zq w 0)), (1, .int x1), (2, .int x2), (4, .int x4), (5, .int x5), (6, .int x6)]) zd_L_isSender_128 rfl (Nat.le_of_ble_eq_true rfl) rfl ?_
    refine z_sub (lv' := [(0, .ref (zq w 0)), (1, .int x1), (2, .int x2), (3, .int (x3 + 0)), (4, .int x4), (5, .int x5), (6, .int x6)]) [1, 2, 3, 0, 4, 5, 6] rfl ?_
    exact kk (x3 + 0) ht.symm
  · have ht := ht.trans (if_neg c35)
    refine z_iload O zd_L_isSender_116 5 rfl ?_
    refine z_iload_n O zd_L_isSender_118 rfl 2 rfl ?_
    refine z_icmp_ge O (tgt := 126) zd_L_isSender_119 (by decide) (fun c36 => ?_) (fun c36 => ?_)
    · have ht := ht.trans (if_pos c36)
      refine z_iconst O (v := 0) zd_L_isSender_126 (by decide) ?_
      refine z_iadd O zd_L_isSender_127 ?_
      refine z_istore_n O (lv' := [(3, .int (x3 + 0)), (0, .ref (zq w 0)), (1, .int x1), (2, .int x2), (4, .int x4), (5, .int x5), (6, .int x6)]) zd_L_isSender_128 rfl (Nat.le_of_ble_eq_true rfl) rfl ?_
      refine z_sub (lv' := [(0, .ref (zq w 0)), (1, .int x1), (2, .int x2), (3, .int (x3 + 0)), (4, .int x4), (5, .int x5), (6, .int x6)]) [1, 2, 3, 0, 4, 5, 6] rfl ?_
      exact kk (x3 + 0) ht.symm
    · have ht := ht.trans (if_neg c36)
      refine z_iconst O (v := 1) zd_L_isSender_122 (by decide) ?_
      refine z_goto O (tgt := 127) zd_L_isSender_123 (by decide) ?_
      refine z_iadd O zd_L_isSender_127 ?_
      refine z_istore_n O (lv' := [(3, .int (x3 + 1)), (0, .ref (zq w 0)), (1, .int x1), (2, .int x2), (4, .int x4), (5, .int x5), (6, .int x6)]) zd_L_isSender_128 rfl (Nat.le_of_ble_eq_true rfl) rfl ?_
      refine z_sub (lv' := [(0, .ref (zq w 0)), (1, .int x1), (2, .int x2), (3, .int (x3 + 1)), (4, .int x4), (5, .int x5), (6, .int x6)]) [1, 2, 3, 0, 4, 5, 6] rfl ?_
      exact kk (x3 + 1) ht.symm
set_option maxHeartbeats 4000000 in
set_option maxRecDepth 100000 in
theorem S_L_isSender_129 {K : zCx} {w : zWd} {l : Launch} (O : zOk K w method_2_code "SluiceStreamLaw" 7 4 85) (hl0 : kl K = l) (σ : zSt) (x1 : Int32) (x2 : Int32) (x3 : Int32) (x4 : Int32) (x5 : Int32) (x6 : Int32) (kk : ∀ r, r = s_L_isSender_129 σ x1 x2 x3 x4 x5 x6 → Z K w σ [(0, .ref (zq w 0)), (1, .int x1), (2, .int x2), (3, .int x3), (4, .int r), (5, .int x5)] [] 170) : Z K w σ [(0, .ref (zq w 0)), (1, .int x1), (2, .int x2), (3, .int x3), (4, .int x4), (5, .int x5), (6, .int x6)] [] 129 := by
  have ht : s_L_isSender_129 σ x1 x2 x3 x4 x5 x6 = s_L_isSender_129 σ x1 x2 x3 x4 x5 x6 := rfl
  refine z_iload O zd_L_isSender_129 4 rfl ?_
  refine z_if_eq O (tgt := 167) zd_L_isSender_131 (by decide) (fun c38 => ?_) (fun c38 => ?_)
  · have ht := ht.trans (if_pos c38)
    refine z_iconst O (v := 0) zd_L_isSender_167 (by decide) ?_
    refine z_istore O (lv' := [(4, .int 0), (0, .ref (zq w 0)), (1, .int x1), (2, .int x2), (3, .int x3), (5, .int x5), (6, .int x6)]) zd_L_isSender_168 (Nat.le_of_ble_eq_true rfl) rfl ?_
    refine z_sub (lv' := [(0, .ref (zq w 0)), (1, .int x1), (2, .int x2), (3, .int x3), (4, .int 0), (5, .int x5)]) [1, 2, 3, 4, 0, 5] rfl ?_
    exact kk 0 ht.symm
  · have ht := ht.trans (if_neg c38)
    refine z_iload O zd_L_isSender_134 6 rfl ?_
    refine z_if_eq O (tgt := 163) zd_L_isSender_136 (by decide) (fun c39 => ?_) (fun c39 => ?_)
    · have ht := ht.trans (if_pos c39)
      refine z_iconst O (v := 1) zd_L_isSender_163 (by decide) ?_
      refine z_goto O (tgt := 168) zd_L_isSender_164 (by decide) ?_
      refine z_istore O (lv' := [(4, .int 1), (0, .ref (zq w 0)), (1, .int x1), (2, .int x2), (3, .int x3), (5, .int x5), (6, .int x6)]) zd_L_isSender_168 (Nat.le_of_ble_eq_true rfl) rfl ?_
      refine z_sub (lv' := [(0, .ref (zq w 0)), (1, .int x1), (2, .int x2), (3, .int x3), (4, .int 1), (5, .int x5)]) [1, 2, 3, 4, 0, 5] rfl ?_
      exact kk 1 ht.symm
    · have ht := ht.trans (if_neg c39)
      refine z_iload O zd_L_isSender_139 5 rfl ?_
      refine z_iload_n O zd_L_isSender_141 rfl 1 rfl ?_
      refine z_icmp_le O (tgt := 167) zd_L_isSender_142 (by decide) (fun c40 => ?_) (fun c40 => ?_)
      · have ht := ht.trans (if_pos c40)
        refine z_iconst O (v := 0) zd_L_isSender_167 (by decide) ?_
        refine z_istore O (lv' := [(4, .int 0), (0, .ref (zq w 0)), (1, .int x1), (2, .int x2), (3, .int x3), (5, .int x5), (6, .int x6)]) zd_L_isSender_168 (Nat.le_of_ble_eq_true rfl) rfl ?_
        refine z_sub (lv' := [(0, .ref (zq w 0)), (1, .int x1), (2, .int x2), (3, .int x3), (4, .int 0), (5, .int x5)]) [1, 2, 3, 4, 0, 5] rfl ?_
        exact kk 0 ht.symm
      · have ht := ht.trans (if_neg c40)
        refine z_iload O zd_L_isSender_145 5 rfl ?_
        refine z_aload_n O zd_L_isSender_147 rfl 0 rfl ?_
        refine z_callri O hl0 (st := [.int x5]) 0 5 (fs := zo0 w σ) rfl rfl (c_X_highest l w σ) zl_L_22 zm483 zm484 rfl rfl (Nat.le_of_ble_eq_true rfl) (Nat.le_of_ble_eq_true rfl) (Nat.le_of_ble_eq_true rfl) zd_L_isSender_148 (fun r41 e42 => ?_)
        have ht := ht.trans (zlet_e e42)
        refine z_icmp_ge O (tgt := 167) zd_L_isSender_151 (by decide) (fun c43 => ?_) (fun c43 => ?_)
        · have ht := ht.trans (if_pos c43)
          refine z_iconst O (v := 0) zd_L_isSender_167 (by decide) ?_
          refine z_istore O (lv' := [(4, .int 0), (0, .ref (zq w 0)), (1, .int x1), (2, .int x2), (3, .int x3), (5, .int x5), (6, .int x6)]) zd_L_isSender_168 (Nat.le_of_ble_eq_true rfl) rfl ?_
          refine z_sub (lv' := [(0, .ref (zq w 0)), (1, .int x1), (2, .int x2), (3, .int x3), (4, .int 0), (5, .int x5)]) [1, 2, 3, 4, 0, 5] rfl ?_
          exact kk 0 ht.symm
        · have ht := ht.trans (if_neg c43)
          refine z_iload O zd_L_isSender_154 5 rfl ?_
          refine z_iload_n O zd_L_isSender_156 rfl 1 rfl ?_
          refine z_bipush O (v := 33) zd_L_isSender_157 (by decide) ?_
          refine z_iadd O zd_L_isSender_159 ?_
          refine z_icmp_ge O (tgt := 167) zd_L_isSender_160 (by decide) (fun c44 => ?_) (fun c44 => ?_)
          · have ht := ht.trans (if_pos c44)
            refine z_iconst O (v := 0) zd_L_isSender_167 (by decide) ?_
            refine z_istore O (lv' := [(4, .int 0), (0, .ref (zq w 0)), (1, .int x1), (2, .int x2), (3, .int x3), (5, .int x5), (6, .int x6)]) zd_L_isSender_168 (Nat.le_of_ble_eq_true rfl) rfl ?_
            refine z_sub (lv' := [(0, .ref (zq w 0)), (1, .int x1), (2, .int x2), (3, .int x3), (4, .int 0), (5, .int x5)]) [1, 2, 3, 4, 0, 5] rfl ?_
            exact kk 0 ht.symm
          · have ht := ht.trans (if_neg c44)
            refine z_iconst O (v := 1) zd_L_isSender_163 (by decide) ?_
            refine z_goto O (tgt := 168) zd_L_isSender_164 (by decide) ?_
            refine z_istore O (lv' := [(4, .int 1), (0, .ref (zq w 0)), (1, .int x1), (2, .int x2), (3, .int x3), (5, .int x5), (6, .int x6)]) zd_L_isSender_168 (Nat.le_of_ble_eq_true rfl) rfl ?_
            refine z_sub (lv' := [(0, .ref (zq w 0)), (1, .int x1), (2, .int x2), (3, .int x3), (4, .int 1), (5, .int x5)]) [1, 2, 3, 4, 0, 5] rfl ?_
            exact kk 1 ht.symm
set_option maxHeartbeats 4000000 in
set_option maxRecDepth 100000 in
theorem L_L_isSender_93 {K : zCx} {w : zWd} {l : Launch} (O : zOk K w method_2_code "SluiceStreamLaw" 7 4 85) (hl0 : kl K = l) (σ : zSt) (x1 x2 : Int32) : ∀ (m : Nat) (x3 x4 x5 : Int32), kl_L_isSender_93 σ x1 x2 m x3 x4 x5 → (∀ r, r = (l_L_isSender_93 σ x1 x2 m x3 x4 x5) → Z K w σ [(0, .ref (zq w 0)), (1, .int x1), (2, .int x2), (3, .int r.1), (4, .int r.2)] [] 176) → Z K w σ [(0, .ref (zq w 0)), (1, .int x1), (2, .int x2), (3, .int x3), (4, .int x4), (5, .int x5)] [] 93 := by
  intro m
  induction m with
  | zero => intro x3 x4 x5 ko; exact ko.elim
  | succ m ih =>
    intro x3 x4 x5 ko kk
    have ht : l_L_isSender_93 σ x1 x2 (m + 1) x3 x4 x5 = l_L_isSender_93 σ x1 x2 (m + 1) x3 x4 x5 := rfl
    refine z_iload O zd_L_isSender_93 5 rfl ?_
    refine z_aload_n O zd_L_isSender_95 rfl 0 rfl ?_
    refine z_callri O hl0 (st := [.int x5]) 0 5 (fs := zo0 w σ) rfl rfl (c_X_written l w σ) zl_L_19 zm460 zm461 rfl rfl (Nat.le_of_ble_eq_true rfl) (Nat.le_of_ble_eq_true rfl) (Nat.le_of_ble_eq_true rfl) zd_L_isSender_96 (fun r30 e31 => ?_)
    have ht := ht.trans (zlet_e e31)
    have ko := ko r30 e31
    refine z_icmp_ge O (tgt := 176) zd_L_isSender_99 (by decide) (fun c32 => ?_) (fun c32 => ?_)
    · have ht := ht.trans (if_pos c32)
      refine z_sub (lv' := [(0, .ref (zq w 0)), (1, .int x1), (2, .int x2), (3, .int x3), (4, .int x4)]) [0, 1, 2, 3, 4] rfl ?_
      exact kk (x3, x4) ht.symm
    · have ht := ht.trans (if_neg c32)
      have ko := ko c32
      refine z_aload_n O zd_L_isSender_102 rfl 0 rfl ?_
      refine z_iload O zd_L_isSender_103 5 rfl ?_
      refine z_callri O hl0 (st := []) 0 5 (fs := zo0 w σ) rfl rfl (c_X_isMarked l w σ x5 ko.1) zl_L_31 zm491 zm492 rfl rfl (Nat.le_of_ble_eq_true rfl) (Nat.le_of_ble_eq_true rfl) (Nat.le_of_ble_eq_true rfl) zd_L_isSender_105 (fun r33 e34 => ?_)
      have ht := ht.trans (zlet_e e34)
      have ko := ko.2 r33 e34
      refine z_istore O (lv' := [(6, .int r33), (0, .ref (zq w 0)), (1, .int x1), (2, .int x2), (3, .int x3), (4, .int x4), (5, .int x5)]) zd_L_isSender_108 (Nat.le_of_ble_eq_true rfl) rfl ?_
      refine z_sub (lv' := [(0, .ref (zq w 0)), (1, .int x1), (2, .int x2), (3, .int x3), (4, .int x4), (5, .int x5), (6, .int r33)]) [1, 2, 3, 4, 5, 6, 0] rfl ?_
      refine S_L_isSender_110 O hl0 σ x1 x2 x3 x4 x5 r33 (fun r37 er37 => ?_)
      have ht := ht.trans (zlet_e er37)
      have ko := ko r37 er37
      refine z_sub (lv' := [(0, .ref (zq w 0)), (1, .int x1), (2, .int x2), (3, .int r37), (4, .int x4), (5, .int x5), (6, .int r33)]) [0, 1, 2, 3, 4, 5, 6] rfl ?_
      refine S_L_isSender_129 O hl0 σ x1 x2 r37 x4 x5 r33 (fun r45 er45 => ?_)
      have ht := ht.trans (zlet_e er45)
      have ko := ko r45 er45
      refine z_iinc O (v := (x5 + 1)) (lv' := [(5, .int (x5 + 1)), (0, .ref (zq w 0)), (1, .int x1), (2, .int x2), (3, .int r37), (4, .int r45)]) zd_L_isSender_170 5 rfl rfl (Nat.le_of_ble_eq_true rfl) rfl ?_
      refine z_goto O (tgt := 93) zd_L_isSender_173 (by decide) ?_
      refine z_sub (lv' := [(0, .ref (zq w 0)), (1, .int x1), (2, .int x2), (3, .int r37), (4, .int r45), (5, .int (x5 + 1))]) [1, 2, 3, 4, 5, 0] rfl ?_
      exact ih r37 r45 (x5 + 1) ko (fun r e => kk r (e.trans ht.symm))
set_option maxHeartbeats 4000000 in
set_option maxRecDepth 100000 in
theorem S_L_isSender_176 {K : zCx} {w : zWd} {l : Launch} (O : zOk K w method_2_code "SluiceStreamLaw" 7 4 85) (hl0 : kl K = l) (σ : zSt) (x1 : Int32) (x2 : Int32) (x3 : Int32) (x4 : Int32) (ko : ks_L_isSender_176 σ x1 x2 x3 x4) (kk : ∀ r, r = s_L_isSender_176 σ x1 x2 x3 x4 → Z K w σ [(0, .ref (zq w 0)), (1, .int x1), (2, .int x2), (4, .int r)] [] 262) : Z K w σ [(0, .ref (zq w 0)), (1, .int x1), (2, .int x2), (3, .int x3), (4, .int x4)] [] 176 := by
  have ht : s_L_isSender_176 σ x1 x2 x3 x4 = s_L_isSender_176 σ x1 x2 x3 x4 := rfl
  refine z_iload O zd_L_isSender_176 4 rfl ?_
  refine z_if_eq O (tgt := 259) zd_L_isSender_178 (by decide) (fun c47 => ?_) (fun c47 => ?_)
  · have ht := ht.trans (if_pos c47)
    refine z_iconst O (v := 0) zd_L_isSender_259 (by decide) ?_
    refine z_istore O (lv' := [(4, .int 0), (0, .ref (zq w 0)), (1, .int x1), (2, .int x2), (3, .int x3)]) zd_L_isSender_260 (Nat.le_of_ble_eq_true rfl) rfl ?_
    refine z_sub (lv' := [(0, .ref (zq w 0)), (1, .int x1), (2, .int x2), (4, .int 0)]) [1, 2, 3, 0] rfl ?_
    exact kk 0 ht.symm
  · have ht := ht.trans (if_neg c47)
    have ko := ko c47
    refine z_aload_n O zd_L_isSender_181 rfl 0 rfl ?_
    refine z_callri O hl0 (st := []) 0 5 (fs := zo0 w σ) rfl rfl (c_X_inFlight l w σ ko) zl_L_35 zm496 zm497 rfl rfl (Nat.le_of_ble_eq_true rfl) (Nat.le_of_ble_eq_true rfl) (Nat.le_of_ble_eq_true rfl) zd_L_isSender_182 (fun r48 e49 => ?_)
    have ht := ht.trans (zlet_e e49)
    refine z_iload_n O zd_L_isSender_185 rfl 2 rfl ?_
    refine z_iload_n O zd_L_isSender_186 rfl 1 rfl ?_
    refine z_isub O zd_L_isSender_187 ?_
    refine z_iload_n O zd_L_isSender_188 rfl 3 rfl ?_
    refine z_isub O zd_L_isSender_189 ?_
    refine z_icmp_ne O (tgt := 259) zd_L_isSender_190 (by decide) (fun c50 => ?_) (fun c50 => ?_)
    · have ht := ht.trans (if_neg c50)
      refine z_iconst O (v := 0) zd_L_isSender_259 (by decide) ?_
      refine z_istore O (lv' := [(4, .int 0), (0, .ref (zq w 0)), (1, .int x1), (2, .int x2), (3, .int x3)]) zd_L_isSender_260 (Nat.le_of_ble_eq_true rfl) rfl ?_
      refine z_sub (lv' := [(0, .ref (zq w 0)), (1, .int x1), (2, .int x2), (4, .int 0)]) [1, 2, 3, 0] rfl ?_
      exact kk 0 ht.symm
    · have ht := ht.trans (if_pos c50)
      refine z_aload_n O zd_L_isSender_193 rfl 0 rfl ?_
      refine z_callri O hl0 (st := []) 0 5 (fs := zo0 w σ) rfl rfl (c_X_congestionWindow l w σ) zl_L_38 zm501 zm502 rfl rfl (Nat.le_of_ble_eq_true rfl) (Nat.le_of_ble_eq_true rfl) (Nat.le_of_ble_eq_true rfl) zd_L_isSender_194 (fun r51 e52 => ?_)
      have ht := ht.trans (zlet_e e52)
      refine z_iconst O (v := 4) zd_L_isSender_197 (by decide) ?_
      refine z_icmp_lt O (tgt := 259) zd_L_isSender_198 (by decide) (fun c53 => ?_) (fun c53 => ?_)
      · have ht := ht.trans (if_pos c53)
        refine z_iconst O (v := 0) zd_L_isSender_259 (by decide) ?_
        refine z_istore O (lv' := [(4, .int 0), (0, .ref (zq w 0)), (1, .int x1), (2, .int x2), (3, .int x3)]) zd_L_isSender_260 (Nat.le_of_ble_eq_true rfl) rfl ?_
        refine z_sub (lv' := [(0, .ref (zq w 0)), (1, .int x1), (2, .int x2), (4, .int 0)]) [1, 2, 3, 0] rfl ?_
        exact kk 0 ht.symm
      · have ht := ht.trans (if_neg c53)
        refine z_aload_n O zd_L_isSender_201 rfl 0 rfl ?_
        refine z_callri O hl0 (st := []) 0 5 (fs := zo0 w σ) rfl rfl (c_X_congestionWindow l w σ) zl_L_38 zm501 zm502 rfl rfl (Nat.le_of_ble_eq_true rfl) (Nat.le_of_ble_eq_true rfl) (Nat.le_of_ble_eq_true rfl) zd_L_isSender_202 (fun r54 e55 => ?_)
        have ht := ht.trans (zlet_e e55)
        refine z_sipush O (v := 256) zd_L_isSender_205 (by decide) ?_
        refine z_icmp_gt O (tgt := 259) zd_L_isSender_208 (by decide) (fun c56 => ?_) (fun c56 => ?_)
        · have ht := ht.trans (if_pos c56)
          refine z_iconst O (v := 0) zd_L_isSender_259 (by decide) ?_
          refine z_istore O (lv' := [(4, .int 0), (0, .ref (zq w 0)), (1, .int x1), (2, .int x2), (3, .int x3)]) zd_L_isSender_260 (Nat.le_of_ble_eq_true rfl) rfl ?_
          refine z_sub (lv' := [(0, .ref (zq w 0)), (1, .int x1), (2, .int x2), (4, .int 0)]) [1, 2, 3, 0] rfl ?_
          exact kk 0 ht.symm
        · have ht := ht.trans (if_neg c56)
          refine z_aload_n O zd_L_isSender_211 rfl 0 rfl ?_
          refine z_callri O hl0 (st := []) 0 5 (fs := zo0 w σ) rfl rfl (c_X_threshold l w σ) zl_L_41 zm505 zm506 rfl rfl (Nat.le_of_ble_eq_true rfl) (Nat.le_of_ble_eq_true rfl) (Nat.le_of_ble_eq_true rfl) zd_L_isSender_212 (fun r57 e58 => ?_)
          have ht := ht.trans (zlet_e e58)
          refine z_bipush O (v := 8) zd_L_isSender_215 (by decide) ?_
          refine z_icmp_lt O (tgt := 259) zd_L_isSender_217 (by decide) (fun c59 => ?_) (fun c59 => ?_)
          · have ht := ht.trans (if_pos c59)
            refine z_iconst O (v := 0) zd_L_isSender_259 (by decide) ?_
            refine z_istore O (lv' := [(4, .int 0), (0, .ref (zq w 0)), (1, .int x1), (2, .int x2), (3, .int x3)]) zd_L_isSender_260 (Nat.le_of_ble_eq_true rfl) rfl ?_
            refine z_sub (lv' := [(0, .ref (zq w 0)), (1, .int x1), (2, .int x2), (4, .int 0)]) [1, 2, 3, 0] rfl ?_
            exact kk 0 ht.symm
          · have ht := ht.trans (if_neg c59)
            refine z_aload_n O zd_L_isSender_220 rfl 0 rfl ?_
            refine z_callri O hl0 (st := []) 0 5 (fs := zo0 w σ) rfl rfl (c_X_timeout l w σ) zl_L_44 zm509 zm510 rfl rfl (Nat.le_of_ble_eq_true rfl) (Nat.le_of_ble_eq_true rfl) (Nat.le_of_ble_eq_true rfl) zd_L_isSender_221 (fun r60 e61 => ?_)
            have ht := ht.trans (zlet_e e61)
            refine z_iconst O (v := 2) zd_L_isSender_224 (by decide) ?_
            refine z_icmp_lt O (tgt := 259) zd_L_isSender_225 (by decide) (fun c62 => ?_) (fun c62 => ?_)
            · have ht := ht.trans (if_pos c62)
              refine z_iconst O (v := 0) zd_L_isSender_259 (by decide) ?_
              refine z_istore O (lv' := [(4, .int 0), (0, .ref (zq w 0)), (1, .int x1), (2, .int x2), (3, .int x3)]) zd_L_isSender_260 (Nat.le_of_ble_eq_true rfl) rfl ?_
              refine z_sub (lv' := [(0, .ref (zq w 0)), (1, .int x1), (2, .int x2), (4, .int 0)]) [1, 2, 3, 0] rfl ?_
              exact kk 0 ht.symm
            · have ht := ht.trans (if_neg c62)
              refine z_aload_n O zd_L_isSender_228 rfl 0 rfl ?_
              refine z_callri O hl0 (st := []) 0 5 (fs := zo0 w σ) rfl rfl (c_X_timeout l w σ) zl_L_44 zm509 zm510 rfl rfl (Nat.le_of_ble_eq_true rfl) (Nat.le_of_ble_eq_true rfl) (Nat.le_of_ble_eq_true rfl) zd_L_isSender_229 (fun r63 e64 => ?_)
              have ht := ht.trans (zlet_e e64)
              refine z_bipush O (v := 64) zd_L_isSender_232 (by decide) ?_
              refine z_icmp_gt O (tgt := 259) zd_L_isSender_234 (by decide) (fun c65 => ?_) (fun c65 => ?_)
              · have ht := ht.trans (if_pos c65)
                refine z_iconst O (v := 0) zd_L_isSender_259 (by decide) ?_
                refine z_istore O (lv' := [(4, .int 0), (0, .ref (zq w 0)), (1, .int x1), (2, .int x2), (3, .int x3)]) zd_L_isSender_260 (Nat.le_of_ble_eq_true rfl) rfl ?_
                refine z_sub (lv' := [(0, .ref (zq w 0)), (1, .int x1), (2, .int x2), (4, .int 0)]) [1, 2, 3, 0] rfl ?_
                exact kk 0 ht.symm
              · have ht := ht.trans (if_neg c65)
                refine z_aload_n O zd_L_isSender_237 rfl 0 rfl ?_
                refine z_callri O hl0 (st := []) 0 5 (fs := zo0 w σ) rfl rfl (c_X_duplicates l w σ) zl_L_47 zm513 zm514 rfl rfl (Nat.le_of_ble_eq_true rfl) (Nat.le_of_ble_eq_true rfl) (Nat.le_of_ble_eq_true rfl) zd_L_isSender_238 (fun r66 e67 => ?_)
                have ht := ht.trans (zlet_e e67)
                refine z_if_lt O (tgt := 259) zd_L_isSender_241 (by decide) (fun c68 => ?_) (fun c68 => ?_)
                · have ht := ht.trans (if_pos c68)
                  refine z_iconst O (v := 0) zd_L_isSender_259 (by decide) ?_
                  refine z_istore O (lv' := [(4, .int 0), (0, .ref (zq w 0)), (1, .int x1), (2, .int x2), (3, .int x3)]) zd_L_isSender_260 (Nat.le_of_ble_eq_true rfl) rfl ?_
                  refine z_sub (lv' := [(0, .ref (zq w 0)), (1, .int x1), (2, .int x2), (4, .int 0)]) [1, 2, 3, 0] rfl ?_
                  exact kk 0 ht.symm
                · have ht := ht.trans (if_neg c68)
                  refine z_aload_n O zd_L_isSender_244 rfl 0 rfl ?_
                  refine z_callri O hl0 (st := []) 0 5 (fs := zo0 w σ) rfl rfl (c_X_sentAgain l w σ) zl_L_50 zm517 zm518 rfl rfl (Nat.le_of_ble_eq_true rfl) (Nat.le_of_ble_eq_true rfl) (Nat.le_of_ble_eq_true rfl) zd_L_isSender_245 (fun r69 e70 => ?_)
                  have ht := ht.trans (zlet_e e70)
                  refine z_aload_n O zd_L_isSender_248 rfl 0 rfl ?_
                  refine z_callri O hl0 (st := [.int r69]) 0 5 (fs := zo0 w σ) rfl rfl (c_X_sent l w σ) zl_L_53 zm521 zm522 rfl rfl (Nat.le_of_ble_eq_true rfl) (Nat.le_of_ble_eq_true rfl) (Nat.le_of_ble_eq_true rfl) zd_L_isSender_249 (fun r71 e72 => ?_)
                  have ht := ht.trans (zlet_e e72)
                  refine z_icmp_gt O (tgt := 259) zd_L_isSender_252 (by decide) (fun c73 => ?_) (fun c73 => ?_)
                  · have ht := ht.trans (if_pos c73)
                    refine z_iconst O (v := 0) zd_L_isSender_259 (by decide) ?_
                    refine z_istore O (lv' := [(4, .int 0), (0, .ref (zq w 0)), (1, .int x1), (2, .int x2), (3, .int x3)]) zd_L_isSender_260 (Nat.le_of_ble_eq_true rfl) rfl ?_
                    refine z_sub (lv' := [(0, .ref (zq w 0)), (1, .int x1), (2, .int x2), (4, .int 0)]) [1, 2, 3, 0] rfl ?_
                    exact kk 0 ht.symm
                  · have ht := ht.trans (if_neg c73)
                    refine z_iconst O (v := 1) zd_L_isSender_255 (by decide) ?_
                    refine z_goto O (tgt := 260) zd_L_isSender_256 (by decide) ?_
                    refine z_istore O (lv' := [(4, .int 1), (0, .ref (zq w 0)), (1, .int x1), (2, .int x2), (3, .int x3)]) zd_L_isSender_260 (Nat.le_of_ble_eq_true rfl) rfl ?_
                    refine z_sub (lv' := [(0, .ref (zq w 0)), (1, .int x1), (2, .int x2), (4, .int 1)]) [1, 2, 3, 0] rfl ?_
                    exact kk 1 ht.symm
set_option maxHeartbeats 4000000 in
set_option maxRecDepth 100000 in
theorem S_L_isSender_262 {K : zCx} {w : zWd} {l : Launch} (O : zOk K w method_2_code "SluiceStreamLaw" 7 4 85) (hl0 : kl K = l) (σ : zSt) (x1 : Int32) (x2 : Int32) (x4 : Int32) (kk : ∀ r, r = s_L_isSender_262 σ x1 x2 x4 → Z K w σ [(0, .ref (zq w 0)), (1, .int x1), (2, .int x2), (4, .int r)] [] 317) : Z K w σ [(0, .ref (zq w 0)), (1, .int x1), (2, .int x2), (4, .int x4)] [] 262 := by
  have ht : s_L_isSender_262 σ x1 x2 x4 = s_L_isSender_262 σ x1 x2 x4 := rfl
  refine z_iload O zd_L_isSender_262 3 rfl ?_
  refine z_if_eq O (tgt := 314) zd_L_isSender_264 (by decide) (fun c75 => ?_) (fun c75 => ?_)
  · have ht := ht.trans (if_pos c75)
    refine z_iconst O (v := 0) zd_L_isSender_314 (by decide) ?_
    refine z_istore O (lv' := [(4, .int 0), (0, .ref (zq w 0)), (1, .int x1), (2, .int x2)]) zd_L_isSender_315 (Nat.le_of_ble_eq_true rfl) rfl ?_
    refine z_sub (lv' := [(0, .ref (zq w 0)), (1, .int x1), (2, .int x2), (4, .int 0)]) [1, 2, 3, 0] rfl ?_
    exact kk 0 ht.symm
  · have ht := ht.trans (if_neg c75)
    refine z_aload_n O zd_L_isSender_267 rfl 0 rfl ?_
    refine z_callri O hl0 (st := []) 0 5 (fs := zo0 w σ) rfl rfl (c_X_recoveryEnd l w σ) zl_L_56 zm525 zm526 rfl rfl (Nat.le_of_ble_eq_true rfl) (Nat.le_of_ble_eq_true rfl) (Nat.le_of_ble_eq_true rfl) zd_L_isSender_268 (fun r76 e77 => ?_)
    have ht := ht.trans (zlet_e e77)
    refine z_iconst O (v := (-1)) zd_L_isSender_271 (by decide) ?_
    refine z_icmp_eq O (tgt := 283) zd_L_isSender_272 (by decide) (fun c78 => ?_) (fun c78 => ?_)
    · have ht := ht.trans (if_pos c78)
      refine z_aload_n O zd_L_isSender_283 rfl 0 rfl ?_
      refine z_callri O hl0 (st := []) 0 5 (fs := zo0 w σ) rfl rfl (c_X_timedEnd l w σ) zl_L_59 zm529 zm530 rfl rfl (Nat.le_of_ble_eq_true rfl) (Nat.le_of_ble_eq_true rfl) (Nat.le_of_ble_eq_true rfl) zd_L_isSender_284 (fun r79 e80 => ?_)
      have ht := ht.trans (zlet_e e80)
      refine z_iconst O (v := (-1)) zd_L_isSender_287 (by decide) ?_
      refine z_icmp_eq O (tgt := 310) zd_L_isSender_288 (by decide) (fun c81 => ?_) (fun c81 => ?_)
      · have ht := ht.trans (if_pos c81)
        refine z_iconst O (v := 1) zd_L_isSender_310 (by decide) ?_
        refine z_goto O (tgt := 315) zd_L_isSender_311 (by decide) ?_
        refine z_istore O (lv' := [(4, .int 1), (0, .ref (zq w 0)), (1, .int x1), (2, .int x2)]) zd_L_isSender_315 (Nat.le_of_ble_eq_true rfl) rfl ?_
        refine z_sub (lv' := [(0, .ref (zq w 0)), (1, .int x1), (2, .int x2), (4, .int 1)]) [1, 2, 3, 0] rfl ?_
        exact kk 1 ht.symm
      · have ht := ht.trans (if_neg c81)
        refine z_aload_n O zd_L_isSender_291 rfl 0 rfl ?_
        refine z_callri O hl0 (st := []) 0 5 (fs := zo0 w σ) rfl rfl (c_X_timedEnd l w σ) zl_L_59 zm529 zm530 rfl rfl (Nat.le_of_ble_eq_true rfl) (Nat.le_of_ble_eq_true rfl) (Nat.le_of_ble_eq_true rfl) zd_L_isSender_292 (fun r82 e83 => ?_)
        have ht := ht.trans (zlet_e e83)
        refine z_iload_n O zd_L_isSender_295 rfl 1 rfl ?_
        refine z_icmp_le O (tgt := 314) zd_L_isSender_296 (by decide) (fun c84 => ?_) (fun c84 => ?_)
        · have ht := ht.trans (if_pos c84)
          refine z_iconst O (v := 0) zd_L_isSender_314 (by decide) ?_
          refine z_istore O (lv' := [(4, .int 0), (0, .ref (zq w 0)), (1, .int x1), (2, .int x2)]) zd_L_isSender_315 (Nat.le_of_ble_eq_true rfl) rfl ?_
          refine z_sub (lv' := [(0, .ref (zq w 0)), (1, .int x1), (2, .int x2), (4, .int 0)]) [1, 2, 3, 0] rfl ?_
          exact kk 0 ht.symm
        · have ht := ht.trans (if_neg c84)
          refine z_aload_n O zd_L_isSender_299 rfl 0 rfl ?_
          refine z_callri O hl0 (st := []) 0 5 (fs := zo0 w σ) rfl rfl (c_X_timedEnd l w σ) zl_L_59 zm529 zm530 rfl rfl (Nat.le_of_ble_eq_true rfl) (Nat.le_of_ble_eq_true rfl) (Nat.le_of_ble_eq_true rfl) zd_L_isSender_300 (fun r85 e86 => ?_)
          have ht := ht.trans (zlet_e e86)
          refine z_aload_n O zd_L_isSender_303 rfl 0 rfl ?_
          refine z_callri O hl0 (st := [.int r85]) 0 5 (fs := zo0 w σ) rfl rfl (c_X_highest l w σ) zl_L_22 zm483 zm484 rfl rfl (Nat.le_of_ble_eq_true rfl) (Nat.le_of_ble_eq_true rfl) (Nat.le_of_ble_eq_true rfl) zd_L_isSender_304 (fun r87 e88 => ?_)
          have ht := ht.trans (zlet_e e88)
          refine z_icmp_gt O (tgt := 314) zd_L_isSender_307 (by decide) (fun c89 => ?_) (fun c89 => ?_)
          · have ht := ht.trans (if_pos c89)
            refine z_iconst O (v := 0) zd_L_isSender_314 (by decide) ?_
            refine z_istore O (lv' := [(4, .int 0), (0, .ref (zq w 0)), (1, .int x1), (2, .int x2)]) zd_L_isSender_315 (Nat.le_of_ble_eq_true rfl) rfl ?_
            refine z_sub (lv' := [(0, .ref (zq w 0)), (1, .int x1), (2, .int x2), (4, .int 0)]) [1, 2, 3, 0] rfl ?_
            exact kk 0 ht.symm
          · have ht := ht.trans (if_neg c89)
            refine z_iconst O (v := 1) zd_L_isSender_310 (by decide) ?_
            refine z_goto O (tgt := 315) zd_L_isSender_311 (by decide) ?_
            refine z_istore O (lv' := [(4, .int 1), (0, .ref (zq w 0)), (1, .int x1), (2, .int x2)]) zd_L_isSender_315 (Nat.le_of_ble_eq_true rfl) rfl ?_
            refine z_sub (lv' := [(0, .ref (zq w 0)), (1, .int x1), (2, .int x2), (4, .int 1)]) [1, 2, 3, 0] rfl ?_
            exact kk 1 ht.symm
    · have ht := ht.trans (if_neg c78)
      refine z_aload_n O zd_L_isSender_275 rfl 0 rfl ?_
      refine z_callri O hl0 (st := []) 0 5 (fs := zo0 w σ) rfl rfl (c_X_recoveryEnd l w σ) zl_L_56 zm525 zm526 rfl rfl (Nat.le_of_ble_eq_true rfl) (Nat.le_of_ble_eq_true rfl) (Nat.le_of_ble_eq_true rfl) zd_L_isSender_276 (fun r90 e91 => ?_)
      have ht := ht.trans (zlet_e e91)
      refine z_iload_n O zd_L_isSender_279 rfl 1 rfl ?_
      refine z_icmp_le O (tgt := 314) zd_L_isSender_280 (by decide) (fun c92 => ?_) (fun c92 => ?_)
      · have ht := ht.trans (if_pos c92)
        refine z_iconst O (v := 0) zd_L_isSender_314 (by decide) ?_
        refine z_istore O (lv' := [(4, .int 0), (0, .ref (zq w 0)), (1, .int x1), (2, .int x2)]) zd_L_isSender_315 (Nat.le_of_ble_eq_true rfl) rfl ?_
        refine z_sub (lv' := [(0, .ref (zq w 0)), (1, .int x1), (2, .int x2), (4, .int 0)]) [1, 2, 3, 0] rfl ?_
        exact kk 0 ht.symm
      · have ht := ht.trans (if_neg c92)
        refine z_aload_n O zd_L_isSender_283 rfl 0 rfl ?_
        refine z_callri O hl0 (st := []) 0 5 (fs := zo0 w σ) rfl rfl (c_X_timedEnd l w σ) zl_L_59 zm529 zm530 rfl rfl (Nat.le_of_ble_eq_true rfl) (Nat.le_of_ble_eq_true rfl) (Nat.le_of_ble_eq_true rfl) zd_L_isSender_284 (fun r93 e94 => ?_)
        have ht := ht.trans (zlet_e e94)
        refine z_iconst O (v := (-1)) zd_L_isSender_287 (by decide) ?_
        refine z_icmp_eq O (tgt := 310) zd_L_isSender_288 (by decide) (fun c95 => ?_) (fun c95 => ?_)
        · have ht := ht.trans (if_pos c95)
          refine z_iconst O (v := 1) zd_L_isSender_310 (by decide) ?_
          refine z_goto O (tgt := 315) zd_L_isSender_311 (by decide) ?_
          refine z_istore O (lv' := [(4, .int 1), (0, .ref (zq w 0)), (1, .int x1), (2, .int x2)]) zd_L_isSender_315 (Nat.le_of_ble_eq_true rfl) rfl ?_
          refine z_sub (lv' := [(0, .ref (zq w 0)), (1, .int x1), (2, .int x2), (4, .int 1)]) [1, 2, 3, 0] rfl ?_
          exact kk 1 ht.symm
        · have ht := ht.trans (if_neg c95)
          refine z_aload_n O zd_L_isSender_291 rfl 0 rfl ?_
          refine z_callri O hl0 (st := []) 0 5 (fs := zo0 w σ) rfl rfl (c_X_timedEnd l w σ) zl_L_59 zm529 zm530 rfl rfl (Nat.le_of_ble_eq_true rfl) (Nat.le_of_ble_eq_true rfl) (Nat.le_of_ble_eq_true rfl) zd_L_isSender_292 (fun r96 e97 => ?_)
          have ht := ht.trans (zlet_e e97)
          refine z_iload_n O zd_L_isSender_295 rfl 1 rfl ?_
          refine z_icmp_le O (tgt := 314) zd_L_isSender_296 (by decide) (fun c98 => ?_) (fun c98 => ?_)
          · have ht := ht.trans (if_pos c98)
            refine z_iconst O (v := 0) zd_L_isSender_314 (by decide) ?_
            refine z_istore O (lv' := [(4, .int 0), (0, .ref (zq w 0)), (1, .int x1), (2, .int x2)]) zd_L_isSender_315 (Nat.le_of_ble_eq_true rfl) rfl ?_
            refine z_sub (lv' := [(0, .ref (zq w 0)), (1, .int x1), (2, .int x2), (4, .int 0)]) [1, 2, 3, 0] rfl ?_
            exact kk 0 ht.symm
          · have ht := ht.trans (if_neg c98)
            refine z_aload_n O zd_L_isSender_299 rfl 0 rfl ?_
            refine z_callri O hl0 (st := []) 0 5 (fs := zo0 w σ) rfl rfl (c_X_timedEnd l w σ) zl_L_59 zm529 zm530 rfl rfl (Nat.le_of_ble_eq_true rfl) (Nat.le_of_ble_eq_true rfl) (Nat.le_of_ble_eq_true rfl) zd_L_isSender_300 (fun r99 e100 => ?_)
            have ht := ht.trans (zlet_e e100)
            refine z_aload_n O zd_L_isSender_303 rfl 0 rfl ?_
            refine z_callri O hl0 (st := [.int r99]) 0 5 (fs := zo0 w σ) rfl rfl (c_X_highest l w σ) zl_L_22 zm483 zm484 rfl rfl (Nat.le_of_ble_eq_true rfl) (Nat.le_of_ble_eq_true rfl) (Nat.le_of_ble_eq_true rfl) zd_L_isSender_304 (fun r101 e102 => ?_)
            have ht := ht.trans (zlet_e e102)
            refine z_icmp_gt O (tgt := 314) zd_L_isSender_307 (by decide) (fun c103 => ?_) (fun c103 => ?_)
            · have ht := ht.trans (if_pos c103)
              refine z_iconst O (v := 0) zd_L_isSender_314 (by decide) ?_
              refine z_istore O (lv' := [(4, .int 0), (0, .ref (zq w 0)), (1, .int x1), (2, .int x2)]) zd_L_isSender_315 (Nat.le_of_ble_eq_true rfl) rfl ?_
              refine z_sub (lv' := [(0, .ref (zq w 0)), (1, .int x1), (2, .int x2), (4, .int 0)]) [1, 2, 3, 0] rfl ?_
              exact kk 0 ht.symm
            · have ht := ht.trans (if_neg c103)
              refine z_iconst O (v := 1) zd_L_isSender_310 (by decide) ?_
              refine z_goto O (tgt := 315) zd_L_isSender_311 (by decide) ?_
              refine z_istore O (lv' := [(4, .int 1), (0, .ref (zq w 0)), (1, .int x1), (2, .int x2)]) zd_L_isSender_315 (Nat.le_of_ble_eq_true rfl) rfl ?_
              refine z_sub (lv' := [(0, .ref (zq w 0)), (1, .int x1), (2, .int x2), (4, .int 1)]) [1, 2, 3, 0] rfl ?_
              exact kk 1 ht.symm
set_option maxHeartbeats 4000000 in
set_option maxRecDepth 100000 in
theorem c_L_isSender (l : Launch) (w : zWd) (σ : zSt) (ko : k_L_isSender σ) : zMi l ({ cls := "SluiceStreamLaw", name := "isSender", desc := "(LSluiceStream;)Z" } : Jvm.MethodName) method_2_code 7 4 85 .boolean w [.ref (zq w 0)] σ (fun r u => r = (f_L_isSender σ) ∧ u = σ) := by
  refine zMi_of (by decide +kernel) (Nat.le_of_ble_eq_true rfl) ?_
  intro K O hl0 E
  have ht : (f_L_isSender σ) = (f_L_isSender σ) := rfl
  refine z_sub (lv' := [(0, .ref (zq w 0))]) [0] rfl ?_
  refine z_aload_n O zd_L_isSender_0 rfl 0 rfl ?_
  refine z_callri O hl0 (st := []) 0 5 (fs := zo0 w σ) rfl rfl (c_X_acknowledged l w σ) zl_L_7 zm475 zm476 rfl rfl (Nat.le_of_ble_eq_true rfl) (Nat.le_of_ble_eq_true rfl) (Nat.le_of_ble_eq_true rfl) zd_L_isSender_1 (fun r1 e2 => ?_)
  have ht := ht.trans (zlet_e e2)
  have ko := ko r1 e2
  refine z_istore_n O (lv' := [(1, .int r1), (0, .ref (zq w 0))]) zd_L_isSender_4 rfl (Nat.le_of_ble_eq_true rfl) rfl ?_
  refine z_aload_n O zd_L_isSender_5 rfl 1 rfl ?_
  refine z_callri O hl0 (st := []) 0 5 (fs := zo0 w σ) rfl rfl (c_X_next l w σ) zl_L_13 zm479 zm480 rfl rfl (Nat.le_of_ble_eq_true rfl) (Nat.le_of_ble_eq_true rfl) (Nat.le_of_ble_eq_true rfl) zd_L_isSender_6 (fun r3 e4 => ?_)
  have ht := ht.trans (zlet_e e4)
  have ko := ko r3 e4
  refine z_istore_n O (lv' := [(2, .int r3), (1, .int r1), (0, .ref (zq w 0))]) zd_L_isSender_9 rfl (Nat.le_of_ble_eq_true rfl) rfl ?_
  refine z_iconst O (v := 0) zd_L_isSender_10 (by decide) ?_
  refine z_istore_n O (lv' := [(3, .int 0), (2, .int r3), (1, .int r1), (0, .ref (zq w 0))]) zd_L_isSender_11 rfl (Nat.le_of_ble_eq_true rfl) rfl ?_
  refine z_sub (lv' := [(0, .ref (zq w 0)), (1, .int r1), (2, .int r3), (3, .int 0)]) [3, 2, 1, 0] rfl ?_
  refine S_L_isSender_12 O hl0 σ r1 r3 0 (fun r29 er29 => ?_)
  have ht := ht.trans (zlet_e er29)
  have ko := ko r29 er29
  refine z_iconst O (v := 0) zd_L_isSender_90 (by decide) ?_
  refine z_istore O (lv' := [(5, .int 0), (0, .ref (zq w 0)), (1, .int r1), (2, .int r3), (3, .int 0), (4, .int r29)]) zd_L_isSender_91 (Nat.le_of_ble_eq_true rfl) rfl ?_
  refine z_sub (lv' := [(0, .ref (zq w 0)), (1, .int r1), (2, .int r3), (3, .int 0), (4, .int r29), (5, .int 0)]) [1, 2, 3, 4, 5, 0] rfl ?_
  refine L_L_isSender_93 O hl0 σ r1 r3 (700) 0 r29 0 ko.1 (fun r46 er46 => ?_)
  have ht := ht.trans (zlet_e er46)
  have ko := ko.2 r46 er46
  refine z_sub (lv' := [(0, .ref (zq w 0)), (1, .int r1), (2, .int r3), (3, .int r46.1), (4, .int r46.2)]) [0, 1, 2, 3, 4] rfl ?_
  refine S_L_isSender_176 O hl0 σ r1 r3 r46.1 r46.2 ko (fun r74 er74 => ?_)
  have ht := ht.trans (zlet_e er74)
  refine z_sub (lv' := [(0, .ref (zq w 0)), (1, .int r1), (2, .int r3), (4, .int r74)]) [0, 1, 2, 3] rfl ?_
  refine S_L_isSender_262 O hl0 σ r1 r3 r74 (fun r104 er104 => ?_)
  have ht := ht.trans (zlet_e er104)
  refine z_iload O zd_L_isSender_317 3 rfl ?_
  refine z_if_eq O (tgt := 371) zd_L_isSender_319 (by decide) (fun c105 => ?_) (fun c105 => ?_)
  · have ht := ht.trans (if_pos c105)
    refine z_iconst O (v := 0) zd_L_isSender_371 (by decide) ?_
    exact E _ _ _ _ zd_L_isSender_372 rfl ⟨ht.symm, rfl⟩
  · have ht := ht.trans (if_neg c105)
    refine z_aload_n O zd_L_isSender_322 rfl 0 rfl ?_
    refine z_callri O hl0 (st := []) 0 5 (fs := zo0 w σ) rfl rfl (c_X_timerEnd l w σ) zl_L_62 zm533 zm534 rfl rfl (Nat.le_of_ble_eq_true rfl) (Nat.le_of_ble_eq_true rfl) (Nat.le_of_ble_eq_true rfl) zd_L_isSender_323 (fun r106 e107 => ?_)
    have ht := ht.trans (zlet_e e107)
    refine z_iconst O (v := (-1)) zd_L_isSender_326 (by decide) ?_
    refine z_icmp_eq O (tgt := 355) zd_L_isSender_327 (by decide) (fun c108 => ?_) (fun c108 => ?_)
    · have ht := ht.trans (if_pos c108)
      refine z_aload_n O zd_L_isSender_355 rfl 0 rfl ?_
      refine z_callri O hl0 (st := []) 0 5 (fs := zo0 w σ) rfl rfl (c_X_timerEnd l w σ) zl_L_62 zm533 zm534 rfl rfl (Nat.le_of_ble_eq_true rfl) (Nat.le_of_ble_eq_true rfl) (Nat.le_of_ble_eq_true rfl) zd_L_isSender_356 (fun r109 e110 => ?_)
      have ht := ht.trans (zlet_e e110)
      refine z_if_ge O (tgt := 367) zd_L_isSender_359 (by decide) (fun c111 => ?_) (fun c111 => ?_)
      · have ht := ht.trans (if_pos c111)
        refine z_iconst O (v := 1) zd_L_isSender_367 (by decide) ?_
        refine z_goto O (tgt := 372) zd_L_isSender_368 (by decide) ?_
        exact E _ _ _ _ zd_L_isSender_372 rfl ⟨ht.symm, rfl⟩
      · have ht := ht.trans (if_neg c111)
        refine z_iload_n O zd_L_isSender_362 rfl 2 rfl ?_
        refine z_iload_n O zd_L_isSender_363 rfl 1 rfl ?_
        refine z_icmp_ne O (tgt := 371) zd_L_isSender_364 (by decide) (fun c112 => ?_) (fun c112 => ?_)
        · have ht := ht.trans (if_neg c112)
          refine z_iconst O (v := 0) zd_L_isSender_371 (by decide) ?_
          exact E _ _ _ _ zd_L_isSender_372 rfl ⟨ht.symm, rfl⟩
        · have ht := ht.trans (if_pos c112)
          refine z_iconst O (v := 1) zd_L_isSender_367 (by decide) ?_
          refine z_goto O (tgt := 372) zd_L_isSender_368 (by decide) ?_
          exact E _ _ _ _ zd_L_isSender_372 rfl ⟨ht.symm, rfl⟩
    · have ht := ht.trans (if_neg c108)
      refine z_aload_n O zd_L_isSender_330 rfl 0 rfl ?_
      refine z_callri O hl0 (st := []) 0 5 (fs := zo0 w σ) rfl rfl (c_X_timerEnd l w σ) zl_L_62 zm533 zm534 rfl rfl (Nat.le_of_ble_eq_true rfl) (Nat.le_of_ble_eq_true rfl) (Nat.le_of_ble_eq_true rfl) zd_L_isSender_331 (fun r113 e114 => ?_)
      have ht := ht.trans (zlet_e e114)
      refine z_aload_n O zd_L_isSender_334 rfl 0 rfl ?_
      refine z_callri O hl0 (st := [.int r113]) 0 5 (fs := zo0 w σ) rfl rfl (c_X_time l w σ) zl_L_65 zm456 zm457 rfl rfl (Nat.le_of_ble_eq_true rfl) (Nat.le_of_ble_eq_true rfl) (Nat.le_of_ble_eq_true rfl) zd_L_isSender_335 (fun r115 e116 => ?_)
      have ht := ht.trans (zlet_e e116)
      refine z_icmp_le O (tgt := 371) zd_L_isSender_338 (by decide) (fun c117 => ?_) (fun c117 => ?_)
      · have ht := ht.trans (if_pos c117)
        refine z_iconst O (v := 0) zd_L_isSender_371 (by decide) ?_
        exact E _ _ _ _ zd_L_isSender_372 rfl ⟨ht.symm, rfl⟩
      · have ht := ht.trans (if_neg c117)
        refine z_aload_n O zd_L_isSender_341 rfl 0 rfl ?_
        refine z_callri O hl0 (st := []) 0 5 (fs := zo0 w σ) rfl rfl (c_X_timerEnd l w σ) zl_L_62 zm533 zm534 rfl rfl (Nat.le_of_ble_eq_true rfl) (Nat.le_of_ble_eq_true rfl) (Nat.le_of_ble_eq_true rfl) zd_L_isSender_342 (fun r118 e119 => ?_)
        have ht := ht.trans (zlet_e e119)
        refine z_aload_n O zd_L_isSender_345 rfl 0 rfl ?_
        refine z_callri O hl0 (st := [.int r118]) 0 5 (fs := zo0 w σ) rfl rfl (c_X_time l w σ) zl_L_65 zm456 zm457 rfl rfl (Nat.le_of_ble_eq_true rfl) (Nat.le_of_ble_eq_true rfl) (Nat.le_of_ble_eq_true rfl) zd_L_isSender_346 (fun r120 e121 => ?_)
        have ht := ht.trans (zlet_e e121)
        refine z_bipush O (v := 64) zd_L_isSender_349 (by decide) ?_
        refine z_iadd O zd_L_isSender_351 ?_
        refine z_icmp_gt O (tgt := 371) zd_L_isSender_352 (by decide) (fun c122 => ?_) (fun c122 => ?_)
        · have ht := ht.trans (if_pos c122)
          refine z_iconst O (v := 0) zd_L_isSender_371 (by decide) ?_
          exact E _ _ _ _ zd_L_isSender_372 rfl ⟨ht.symm, rfl⟩
        · have ht := ht.trans (if_neg c122)
          refine z_aload_n O zd_L_isSender_355 rfl 0 rfl ?_
          refine z_callri O hl0 (st := []) 0 5 (fs := zo0 w σ) rfl rfl (c_X_timerEnd l w σ) zl_L_62 zm533 zm534 rfl rfl (Nat.le_of_ble_eq_true rfl) (Nat.le_of_ble_eq_true rfl) (Nat.le_of_ble_eq_true rfl) zd_L_isSender_356 (fun r123 e124 => ?_)
          have ht := ht.trans (zlet_e e124)
          refine z_if_ge O (tgt := 367) zd_L_isSender_359 (by decide) (fun c125 => ?_) (fun c125 => ?_)
          · have ht := ht.trans (if_pos c125)
            refine z_iconst O (v := 1) zd_L_isSender_367 (by decide) ?_
            refine z_goto O (tgt := 372) zd_L_isSender_368 (by decide) ?_
            exact E _ _ _ _ zd_L_isSender_372 rfl ⟨ht.symm, rfl⟩
          · have ht := ht.trans (if_neg c125)
            refine z_iload_n O zd_L_isSender_362 rfl 2 rfl ?_
            refine z_iload_n O zd_L_isSender_363 rfl 1 rfl ?_
            refine z_icmp_ne O (tgt := 371) zd_L_isSender_364 (by decide) (fun c126 => ?_) (fun c126 => ?_)
            · have ht := ht.trans (if_neg c126)
              refine z_iconst O (v := 0) zd_L_isSender_371 (by decide) ?_
              exact E _ _ _ _ zd_L_isSender_372 rfl ⟨ht.symm, rfl⟩
            · have ht := ht.trans (if_pos c126)
              refine z_iconst O (v := 1) zd_L_isSender_367 (by decide) ?_
              refine z_goto O (tgt := 372) zd_L_isSender_368 (by decide) ?_
              exact E _ _ _ _ zd_L_isSender_372 rfl ⟨ht.symm, rfl⟩
set_option maxHeartbeats 4000000 in
set_option maxRecDepth 100000 in
theorem S_L_isReceiver_7 {K : zCx} {w : zWd} {l : Launch} (O : zOk K w method_3_code "SluiceStreamLaw" 6 5 111) (hl0 : kl K = l) (σ : zSt) (x1 : Int32) (x2 : Int32) (kk : ∀ r, r = s_L_isReceiver_7 σ x1 x2 → Z K w σ [(0, .ref (zq w 0)), (1, .int x1), (2, .int x2), (3, .int r)] [] 52) : Z K w σ [(0, .ref (zq w 0)), (1, .int x1), (2, .int x2)] [] 7 := by
  have ht : s_L_isReceiver_7 σ x1 x2 = s_L_isReceiver_7 σ x1 x2 := rfl
  refine z_aload_n O zd_L_isReceiver_7 rfl 0 rfl ?_
  refine z_callri O hl0 (st := []) 0 5 (fs := zo0 w σ) rfl rfl (c_X_readPosition l w σ) zl_L_28 zm468 zm469 rfl rfl (Nat.le_of_ble_eq_true rfl) (Nat.le_of_ble_eq_true rfl) (Nat.le_of_ble_eq_true rfl) zd_L_isReceiver_8 (fun r3 e4 => ?_)
  have ht := ht.trans (zlet_e e4)
  refine z_iload_n O zd_L_isReceiver_11 rfl 1 rfl ?_
  refine z_icmp_gt O (tgt := 50) zd_L_isReceiver_12 (by decide) (fun c5 => ?_) (fun c5 => ?_)
  · have ht := ht.trans (if_pos c5)
    refine z_iconst O (v := 0) zd_L_isReceiver_50 (by decide) ?_
    refine z_istore_n O (lv' := [(3, .int 0), (0, .ref (zq w 0)), (1, .int x1), (2, .int x2)]) zd_L_isReceiver_51 rfl (Nat.le_of_ble_eq_true rfl) rfl ?_
    refine z_sub (lv' := [(0, .ref (zq w 0)), (1, .int x1), (2, .int x2), (3, .int 0)]) [1, 2, 3, 0] rfl ?_
    exact kk 0 ht.symm
  · have ht := ht.trans (if_neg c5)
    refine z_aload_n O zd_L_isReceiver_15 rfl 0 rfl ?_
    refine z_callri O hl0 (st := []) 0 5 (fs := zo0 w σ) rfl rfl (c_X_window l w σ) zl_L_68 zm540 zm541 rfl rfl (Nat.le_of_ble_eq_true rfl) (Nat.le_of_ble_eq_true rfl) (Nat.le_of_ble_eq_true rfl) zd_L_isReceiver_16 (fun r6 e7 => ?_)
    have ht := ht.trans (zlet_e e7)
    refine z_aload_n O zd_L_isReceiver_19 rfl 0 rfl ?_
    refine z_callri O hl0 (st := [.int r6]) 0 5 (fs := zo0 w σ) rfl rfl (c_X_readPosition l w σ) zl_L_28 zm468 zm469 rfl rfl (Nat.le_of_ble_eq_true rfl) (Nat.le_of_ble_eq_true rfl) (Nat.le_of_ble_eq_true rfl) zd_L_isReceiver_20 (fun r8 e9 => ?_)
    have ht := ht.trans (zlet_e e9)
    refine z_bipush O (v := 32) zd_L_isReceiver_23 (by decide) ?_
    refine z_iadd O zd_L_isReceiver_25 ?_
    refine z_iload_n O zd_L_isReceiver_26 rfl 1 rfl ?_
    refine z_isub O zd_L_isReceiver_27 ?_
    refine z_icmp_ne O (tgt := 50) zd_L_isReceiver_28 (by decide) (fun c10 => ?_) (fun c10 => ?_)
    · have ht := ht.trans (if_neg c10)
      refine z_iconst O (v := 0) zd_L_isReceiver_50 (by decide) ?_
      refine z_istore_n O (lv' := [(3, .int 0), (0, .ref (zq w 0)), (1, .int x1), (2, .int x2)]) zd_L_isReceiver_51 rfl (Nat.le_of_ble_eq_true rfl) rfl ?_
      refine z_sub (lv' := [(0, .ref (zq w 0)), (1, .int x1), (2, .int x2), (3, .int 0)]) [1, 2, 3, 0] rfl ?_
      exact kk 0 ht.symm
    · have ht := ht.trans (if_pos c10)
      refine z_aload_n O zd_L_isReceiver_31 rfl 0 rfl ?_
      refine z_callri O hl0 (st := []) 0 5 (fs := zo0 w σ) rfl rfl (c_X_window l w σ) zl_L_68 zm540 zm541 rfl rfl (Nat.le_of_ble_eq_true rfl) (Nat.le_of_ble_eq_true rfl) (Nat.le_of_ble_eq_true rfl) zd_L_isReceiver_32 (fun r11 e12 => ?_)
      have ht := ht.trans (zlet_e e12)
      refine z_if_lt O (tgt := 50) zd_L_isReceiver_35 (by decide) (fun c13 => ?_) (fun c13 => ?_)
      · have ht := ht.trans (if_pos c13)
        refine z_iconst O (v := 0) zd_L_isReceiver_50 (by decide) ?_
        refine z_istore_n O (lv' := [(3, .int 0), (0, .ref (zq w 0)), (1, .int x1), (2, .int x2)]) zd_L_isReceiver_51 rfl (Nat.le_of_ble_eq_true rfl) rfl ?_
        refine z_sub (lv' := [(0, .ref (zq w 0)), (1, .int x1), (2, .int x2), (3, .int 0)]) [1, 2, 3, 0] rfl ?_
        exact kk 0 ht.symm
      · have ht := ht.trans (if_neg c13)
        refine z_iload_n O zd_L_isReceiver_38 rfl 1 rfl ?_
        refine z_aload_n O zd_L_isReceiver_39 rfl 0 rfl ?_
        refine z_callri O hl0 (st := [.int x1]) 0 5 (fs := zo0 w σ) rfl rfl (c_X_highest l w σ) zl_L_22 zm483 zm484 rfl rfl (Nat.le_of_ble_eq_true rfl) (Nat.le_of_ble_eq_true rfl) (Nat.le_of_ble_eq_true rfl) zd_L_isReceiver_40 (fun r14 e15 => ?_)
        have ht := ht.trans (zlet_e e15)
        refine z_icmp_gt O (tgt := 50) zd_L_isReceiver_43 (by decide) (fun c16 => ?_) (fun c16 => ?_)
        · have ht := ht.trans (if_pos c16)
          refine z_iconst O (v := 0) zd_L_isReceiver_50 (by decide) ?_
          refine z_istore_n O (lv' := [(3, .int 0), (0, .ref (zq w 0)), (1, .int x1), (2, .int x2)]) zd_L_isReceiver_51 rfl (Nat.le_of_ble_eq_true rfl) rfl ?_
          refine z_sub (lv' := [(0, .ref (zq w 0)), (1, .int x1), (2, .int x2), (3, .int 0)]) [1, 2, 3, 0] rfl ?_
          exact kk 0 ht.symm
        · have ht := ht.trans (if_neg c16)
          refine z_iconst O (v := 1) zd_L_isReceiver_46 (by decide) ?_
          refine z_goto O (tgt := 51) zd_L_isReceiver_47 (by decide) ?_
          refine z_istore_n O (lv' := [(3, .int 1), (0, .ref (zq w 0)), (1, .int x1), (2, .int x2)]) zd_L_isReceiver_51 rfl (Nat.le_of_ble_eq_true rfl) rfl ?_
          refine z_sub (lv' := [(0, .ref (zq w 0)), (1, .int x1), (2, .int x2), (3, .int 1)]) [1, 2, 3, 0] rfl ?_
          exact kk 1 ht.symm
set_option maxHeartbeats 4000000 in
set_option maxRecDepth 100000 in
theorem S_L_isReceiver_68 {K : zCx} {w : zWd} {l : Launch} (O : zOk K w method_3_code "SluiceStreamLaw" 6 5 111) (hl0 : kl K = l) (σ : zSt) (x1 : Int32) (x2 : Int32) (x4 : Int32) (ko : ks_L_isReceiver_68 σ x1 x2 x4) (kk : ∀ r, r = s_L_isReceiver_68 σ x1 x2 x4 → Z K w σ [(0, .ref (zq w 0)), (1, .int x1), (3, .int r), (4, .int x4)] [] 128) : Z K w σ [(0, .ref (zq w 0)), (1, .int x1), (2, .int x2), (4, .int x4)] [] 68 := by
  have ht : s_L_isReceiver_68 σ x1 x2 x4 = s_L_isReceiver_68 σ x1 x2 x4 := rfl
  refine z_aload_n O zd_L_isReceiver_68 rfl 0 rfl ?_
  refine z_iload O zd_L_isReceiver_69 3 rfl ?_
  refine z_callri O hl0 (st := []) 0 5 (fs := zo0 w σ) rfl rfl (c_X_blockStart l w σ x4 ko.1) zl_L_74 zm553 zm554 rfl rfl (Nat.le_of_ble_eq_true rfl) (Nat.le_of_ble_eq_true rfl) (Nat.le_of_ble_eq_true rfl) zd_L_isReceiver_71 (fun r22 e23 => ?_)
  have ht := ht.trans (zlet_e e23)
  have ko := ko.2 r22 e23
  refine z_iload_n O zd_L_isReceiver_74 rfl 2 rfl ?_
  refine z_icmp_le O (tgt := 126) zd_L_isReceiver_75 (by decide) (fun c24 => ?_) (fun c24 => ?_)
  · have ht := ht.trans (if_pos c24)
    refine z_iconst O (v := 0) zd_L_isReceiver_126 (by decide) ?_
    refine z_istore_n O (lv' := [(3, .int 0), (0, .ref (zq w 0)), (1, .int x1), (2, .int x2), (4, .int x4)]) zd_L_isReceiver_127 rfl (Nat.le_of_ble_eq_true rfl) rfl ?_
    refine z_sub (lv' := [(0, .ref (zq w 0)), (1, .int x1), (3, .int 0), (4, .int x4)]) [1, 2, 0, 4] rfl ?_
    exact kk 0 ht.symm
  · have ht := ht.trans (if_neg c24)
    have ko := ko c24
    refine z_aload_n O zd_L_isReceiver_78 rfl 0 rfl ?_
    refine z_iload O zd_L_isReceiver_79 3 rfl ?_
    refine z_callri O hl0 (st := []) 0 5 (fs := zo0 w σ) rfl rfl (c_X_blockEnd l w σ x4 ko.1) zl_L_78 zm561 zm562 rfl rfl (Nat.le_of_ble_eq_true rfl) (Nat.le_of_ble_eq_true rfl) (Nat.le_of_ble_eq_true rfl) zd_L_isReceiver_81 (fun r25 e26 => ?_)
    have ht := ht.trans (zlet_e e26)
    have ko := ko.2 r25 e26
    refine z_aload_n O zd_L_isReceiver_84 rfl 0 rfl ?_
    refine z_iload O zd_L_isReceiver_85 3 rfl ?_
    refine z_callri O hl0 (st := [.int r25]) 0 5 (fs := zo0 w σ) rfl rfl (c_X_blockStart l w σ x4 ko.1) zl_L_74 zm553 zm554 rfl rfl (Nat.le_of_ble_eq_true rfl) (Nat.le_of_ble_eq_true rfl) (Nat.le_of_ble_eq_true rfl) zd_L_isReceiver_87 (fun r27 e28 => ?_)
    have ht := ht.trans (zlet_e e28)
    have ko := ko.2 r27 e28
    refine z_icmp_le O (tgt := 126) zd_L_isReceiver_90 (by decide) (fun c29 => ?_) (fun c29 => ?_)
    · have ht := ht.trans (if_pos c29)
      refine z_iconst O (v := 0) zd_L_isReceiver_126 (by decide) ?_
      refine z_istore_n O (lv' := [(3, .int 0), (0, .ref (zq w 0)), (1, .int x1), (2, .int x2), (4, .int x4)]) zd_L_isReceiver_127 rfl (Nat.le_of_ble_eq_true rfl) rfl ?_
      refine z_sub (lv' := [(0, .ref (zq w 0)), (1, .int x1), (3, .int 0), (4, .int x4)]) [1, 2, 0, 4] rfl ?_
      exact kk 0 ht.symm
    · have ht := ht.trans (if_neg c29)
      have ko := ko c29
      refine z_aload_n O zd_L_isReceiver_93 rfl 0 rfl ?_
      refine z_iload O zd_L_isReceiver_94 3 rfl ?_
      refine z_callri O hl0 (st := []) 0 5 (fs := zo0 w σ) rfl rfl (c_X_blockEnd l w σ x4 ko.1) zl_L_78 zm561 zm562 rfl rfl (Nat.le_of_ble_eq_true rfl) (Nat.le_of_ble_eq_true rfl) (Nat.le_of_ble_eq_true rfl) zd_L_isReceiver_96 (fun r30 e31 => ?_)
      have ht := ht.trans (zlet_e e31)
      have ko := ko.2 r30 e31
      refine z_aload_n O zd_L_isReceiver_99 rfl 0 rfl ?_
      refine z_callri O hl0 (st := [.int r30]) 0 5 (fs := zo0 w σ) rfl rfl (c_X_readPosition l w σ) zl_L_28 zm468 zm469 rfl rfl (Nat.le_of_ble_eq_true rfl) (Nat.le_of_ble_eq_true rfl) (Nat.le_of_ble_eq_true rfl) zd_L_isReceiver_100 (fun r32 e33 => ?_)
      have ht := ht.trans (zlet_e e33)
      have ko := ko r32 e33
      refine z_bipush O (v := 32) zd_L_isReceiver_103 (by decide) ?_
      refine z_iadd O zd_L_isReceiver_105 ?_
      refine z_icmp_gt O (tgt := 126) zd_L_isReceiver_106 (by decide) (fun c34 => ?_) (fun c34 => ?_)
      · have ht := ht.trans (if_pos c34)
        refine z_iconst O (v := 0) zd_L_isReceiver_126 (by decide) ?_
        refine z_istore_n O (lv' := [(3, .int 0), (0, .ref (zq w 0)), (1, .int x1), (2, .int x2), (4, .int x4)]) zd_L_isReceiver_127 rfl (Nat.le_of_ble_eq_true rfl) rfl ?_
        refine z_sub (lv' := [(0, .ref (zq w 0)), (1, .int x1), (3, .int 0), (4, .int x4)]) [1, 2, 0, 4] rfl ?_
        exact kk 0 ht.symm
      · have ht := ht.trans (if_neg c34)
        have ko := ko c34
        refine z_aload_n O zd_L_isReceiver_109 rfl 0 rfl ?_
        refine z_iload O zd_L_isReceiver_110 3 rfl ?_
        refine z_callri O hl0 (st := []) 0 5 (fs := zo0 w σ) rfl rfl (c_X_blockEnd l w σ x4 ko) zl_L_78 zm561 zm562 rfl rfl (Nat.le_of_ble_eq_true rfl) (Nat.le_of_ble_eq_true rfl) (Nat.le_of_ble_eq_true rfl) zd_L_isReceiver_112 (fun r35 e36 => ?_)
        have ht := ht.trans (zlet_e e36)
        refine z_aload_n O zd_L_isReceiver_115 rfl 0 rfl ?_
        refine z_callri O hl0 (st := [.int r35]) 0 5 (fs := zo0 w σ) rfl rfl (c_X_highest l w σ) zl_L_22 zm483 zm484 rfl rfl (Nat.le_of_ble_eq_true rfl) (Nat.le_of_ble_eq_true rfl) (Nat.le_of_ble_eq_true rfl) zd_L_isReceiver_116 (fun r37 e38 => ?_)
        have ht := ht.trans (zlet_e e38)
        refine z_icmp_gt O (tgt := 126) zd_L_isReceiver_119 (by decide) (fun c39 => ?_) (fun c39 => ?_)
        · have ht := ht.trans (if_pos c39)
          refine z_iconst O (v := 0) zd_L_isReceiver_126 (by decide) ?_
          refine z_istore_n O (lv' := [(3, .int 0), (0, .ref (zq w 0)), (1, .int x1), (2, .int x2), (4, .int x4)]) zd_L_isReceiver_127 rfl (Nat.le_of_ble_eq_true rfl) rfl ?_
          refine z_sub (lv' := [(0, .ref (zq w 0)), (1, .int x1), (3, .int 0), (4, .int x4)]) [1, 2, 0, 4] rfl ?_
          exact kk 0 ht.symm
        · have ht := ht.trans (if_neg c39)
          refine z_iconst O (v := 1) zd_L_isReceiver_122 (by decide) ?_
          refine z_goto O (tgt := 127) zd_L_isReceiver_123 (by decide) ?_
          refine z_istore_n O (lv' := [(3, .int 1), (0, .ref (zq w 0)), (1, .int x1), (2, .int x2), (4, .int x4)]) zd_L_isReceiver_127 rfl (Nat.le_of_ble_eq_true rfl) rfl ?_
          refine z_sub (lv' := [(0, .ref (zq w 0)), (1, .int x1), (3, .int 1), (4, .int x4)]) [1, 2, 0, 4] rfl ?_
          exact kk 1 ht.symm
set_option maxHeartbeats 4000000 in
set_option maxRecDepth 100000 in
theorem L_L_isReceiver_55 {K : zCx} {w : zWd} {l : Launch} (O : zOk K w method_3_code "SluiceStreamLaw" 6 5 111) (hl0 : kl K = l) (σ : zSt) (x1 : Int32) : ∀ (m : Nat) (x2 x3 x4 : Int32), kl_L_isReceiver_55 σ x1 m x2 x3 x4 → (∀ r, r = (l_L_isReceiver_55 σ x1 m x2 x3 x4) → Z K w σ [(0, .ref (zq w 0)), (1, .int x1), (3, .int r)] [] 141) → Z K w σ [(0, .ref (zq w 0)), (1, .int x1), (2, .int x2), (3, .int x3), (4, .int x4)] [] 55 := by
  intro m
  induction m with
  | zero => intro x2 x3 x4 ko; exact ko.elim
  | succ m ih =>
    intro x2 x3 x4 ko kk
    have ht : l_L_isReceiver_55 σ x1 (m + 1) x2 x3 x4 = l_L_isReceiver_55 σ x1 (m + 1) x2 x3 x4 := rfl
    refine z_iload O zd_L_isReceiver_55 4 rfl ?_
    refine z_aload_n O zd_L_isReceiver_57 rfl 0 rfl ?_
    refine z_callri O hl0 (st := [.int x4]) 0 5 (fs := zo0 w σ) rfl rfl (c_X_blocks l w σ ko.1) zl_L_71 zm545 zm546 rfl rfl (Nat.le_of_ble_eq_true rfl) (Nat.le_of_ble_eq_true rfl) (Nat.le_of_ble_eq_true rfl) zd_L_isReceiver_58 (fun r18 e19 => ?_)
    have ht := ht.trans (zlet_e e19)
    have ko := ko.2 r18 e19
    refine z_icmp_ge O (tgt := 141) zd_L_isReceiver_61 (by decide) (fun c20 => ?_) (fun c20 => ?_)
    · have ht := ht.trans (if_pos c20)
      refine z_sub (lv' := [(0, .ref (zq w 0)), (1, .int x1), (3, .int x3)]) [0, 1, 3] rfl ?_
      exact kk x3 ht.symm
    · have ht := ht.trans (if_neg c20)
      have ko := ko c20
      refine z_iload_n O zd_L_isReceiver_64 rfl 3 rfl ?_
      refine z_if_eq O (tgt := 141) zd_L_isReceiver_65 (by decide) (fun c21 => ?_) (fun c21 => ?_)
      · have ht := ht.trans (if_pos c21)
        refine z_sub (lv' := [(0, .ref (zq w 0)), (1, .int x1), (3, .int x3)]) [0, 1, 3] rfl ?_
        exact kk x3 ht.symm
      · have ht := ht.trans (if_neg c21)
        have ko := ko c21
        refine z_sub (lv' := [(0, .ref (zq w 0)), (1, .int x1), (2, .int x2), (4, .int x4)]) [0, 1, 2, 4] rfl ?_
        refine S_L_isReceiver_68 O hl0 σ x1 x2 x4 ko.1 (fun r40 er40 => ?_)
        have ht := ht.trans (zlet_e er40)
        have ko := ko.2 r40 er40
        refine z_aload_n O zd_L_isReceiver_128 rfl 0 rfl ?_
        refine z_iload O zd_L_isReceiver_129 3 rfl ?_
        refine z_callri O hl0 (st := []) 0 5 (fs := zo0 w σ) rfl rfl (c_X_blockEnd l w σ x4 ko.1) zl_L_78 zm561 zm562 rfl rfl (Nat.le_of_ble_eq_true rfl) (Nat.le_of_ble_eq_true rfl) (Nat.le_of_ble_eq_true rfl) zd_L_isReceiver_131 (fun r41 e42 => ?_)
        have ht := ht.trans (zlet_e e42)
        have ko := ko.2 r41 e42
        refine z_istore_n O (lv' := [(2, .int r41), (0, .ref (zq w 0)), (1, .int x1), (3, .int r40), (4, .int x4)]) zd_L_isReceiver_134 rfl (Nat.le_of_ble_eq_true rfl) rfl ?_
        refine z_iinc O (v := (x4 + 1)) (lv' := [(4, .int (x4 + 1)), (2, .int r41), (0, .ref (zq w 0)), (1, .int x1), (3, .int r40)]) zd_L_isReceiver_135 4 rfl rfl (Nat.le_of_ble_eq_true rfl) rfl ?_
        refine z_goto O (tgt := 55) zd_L_isReceiver_138 (by decide) ?_
        refine z_sub (lv' := [(0, .ref (zq w 0)), (1, .int x1), (2, .int r41), (3, .int r40), (4, .int (x4 + 1))]) [2, 3, 1, 4, 0] rfl ?_
        exact ih r41 r40 (x4 + 1) ko (fun r e => kk r (e.trans ht.symm))
set_option maxHeartbeats 4000000 in
set_option maxRecDepth 100000 in
theorem S_L_isReceiver_157 {K : zCx} {w : zWd} {l : Launch} (O : zOk K w method_3_code "SluiceStreamLaw" 6 5 111) (hl0 : kl K = l) (σ : zSt) (x1 : Int32) (x4 : Int32) (ko : ks_L_isReceiver_157 σ x1 x4) (kk : ∀ r, r = s_L_isReceiver_157 σ x1 x4 → Z K w σ [(0, .ref (zq w 0)), (1, .int x1), (3, .int r), (4, .int x4)] [] 215) : Z K w σ [(0, .ref (zq w 0)), (1, .int x1), (4, .int x4)] [] 157 := by
  have ht : s_L_isReceiver_157 σ x1 x4 = s_L_isReceiver_157 σ x1 x4 := rfl
  refine z_aload_n O zd_L_isReceiver_157 rfl 0 rfl ?_
  refine z_iload O zd_L_isReceiver_158 2 rfl ?_
  refine z_callri O hl0 (st := []) 0 5 (fs := zo0 w σ) rfl rfl (c_X_ackNumber l w σ x4 ko.1) zl_L_84 zm452 zm453 rfl rfl (Nat.le_of_ble_eq_true rfl) (Nat.le_of_ble_eq_true rfl) (Nat.le_of_ble_eq_true rfl) zd_L_isReceiver_160 (fun r48 e49 => ?_)
  have ht := ht.trans (zlet_e e49)
  have ko := ko.2 r48 e49
  refine z_iload_n O zd_L_isReceiver_163 rfl 1 rfl ?_
  refine z_icmp_gt O (tgt := 213) zd_L_isReceiver_164 (by decide) (fun c50 => ?_) (fun c50 => ?_)
  · have ht := ht.trans (if_pos c50)
    refine z_iconst O (v := 0) zd_L_isReceiver_213 (by decide) ?_
    refine z_istore_n O (lv' := [(3, .int 0), (0, .ref (zq w 0)), (1, .int x1), (4, .int x4)]) zd_L_isReceiver_214 rfl (Nat.le_of_ble_eq_true rfl) rfl ?_
    refine z_sub (lv' := [(0, .ref (zq w 0)), (1, .int x1), (3, .int 0), (4, .int x4)]) [1, 2, 0, 3] rfl ?_
    exact kk 0 ht.symm
  · have ht := ht.trans (if_neg c50)
    have ko := ko c50
    refine z_aload_n O zd_L_isReceiver_167 rfl 0 rfl ?_
    refine z_iload O zd_L_isReceiver_168 2 rfl ?_
    refine z_callri O hl0 (st := []) 0 5 (fs := zo0 w σ) rfl rfl (c_X_ackNumber l w σ x4 ko.1) zl_L_84 zm452 zm453 rfl rfl (Nat.le_of_ble_eq_true rfl) (Nat.le_of_ble_eq_true rfl) (Nat.le_of_ble_eq_true rfl) zd_L_isReceiver_170 (fun r51 e52 => ?_)
    have ht := ht.trans (zlet_e e52)
    have ko := ko.2 r51 e52
    refine z_aload_n O zd_L_isReceiver_173 rfl 0 rfl ?_
    refine z_iload O zd_L_isReceiver_174 2 rfl ?_
    refine z_callri O hl0 (st := [.int r51]) 0 5 (fs := zo0 w σ) rfl rfl (c_X_ackWindow l w σ x4 ko.1) zl_L_87 zm566 zm567 rfl rfl (Nat.le_of_ble_eq_true rfl) (Nat.le_of_ble_eq_true rfl) (Nat.le_of_ble_eq_true rfl) zd_L_isReceiver_176 (fun r53 e54 => ?_)
    have ht := ht.trans (zlet_e e54)
    have ko := ko.2 r53 e54
    refine z_iadd O zd_L_isReceiver_179 ?_
    refine z_aload_n O zd_L_isReceiver_180 rfl 0 rfl ?_
    refine z_callri O hl0 (st := [.int (r51 + r53)]) 0 5 (fs := zo0 w σ) rfl rfl (c_X_readPosition l w σ) zl_L_28 zm468 zm469 rfl rfl (Nat.le_of_ble_eq_true rfl) (Nat.le_of_ble_eq_true rfl) (Nat.le_of_ble_eq_true rfl) zd_L_isReceiver_181 (fun r55 e56 => ?_)
    have ht := ht.trans (zlet_e e56)
    have ko := ko r55 e56
    refine z_bipush O (v := 32) zd_L_isReceiver_184 (by decide) ?_
    refine z_iadd O zd_L_isReceiver_186 ?_
    refine z_icmp_gt O (tgt := 213) zd_L_isReceiver_187 (by decide) (fun c57 => ?_) (fun c57 => ?_)
    · have ht := ht.trans (if_pos c57)
      refine z_iconst O (v := 0) zd_L_isReceiver_213 (by decide) ?_
      refine z_istore_n O (lv' := [(3, .int 0), (0, .ref (zq w 0)), (1, .int x1), (4, .int x4)]) zd_L_isReceiver_214 rfl (Nat.le_of_ble_eq_true rfl) rfl ?_
      refine z_sub (lv' := [(0, .ref (zq w 0)), (1, .int x1), (3, .int 0), (4, .int x4)]) [1, 2, 0, 3] rfl ?_
      exact kk 0 ht.symm
    · have ht := ht.trans (if_neg c57)
      have ko := ko c57
      refine z_aload_n O zd_L_isReceiver_190 rfl 0 rfl ?_
      refine z_iload O zd_L_isReceiver_191 2 rfl ?_
      refine z_callri O hl0 (st := []) 0 5 (fs := zo0 w σ) rfl rfl (c_X_ackWindow l w σ x4 ko.1) zl_L_87 zm566 zm567 rfl rfl (Nat.le_of_ble_eq_true rfl) (Nat.le_of_ble_eq_true rfl) (Nat.le_of_ble_eq_true rfl) zd_L_isReceiver_193 (fun r58 e59 => ?_)
      have ht := ht.trans (zlet_e e59)
      have ko := ko.2 r58 e59
      refine z_if_lt O (tgt := 213) zd_L_isReceiver_196 (by decide) (fun c60 => ?_) (fun c60 => ?_)
      · have ht := ht.trans (if_pos c60)
        refine z_iconst O (v := 0) zd_L_isReceiver_213 (by decide) ?_
        refine z_istore_n O (lv' := [(3, .int 0), (0, .ref (zq w 0)), (1, .int x1), (4, .int x4)]) zd_L_isReceiver_214 rfl (Nat.le_of_ble_eq_true rfl) rfl ?_
        refine z_sub (lv' := [(0, .ref (zq w 0)), (1, .int x1), (3, .int 0), (4, .int x4)]) [1, 2, 0, 3] rfl ?_
        exact kk 0 ht.symm
      · have ht := ht.trans (if_neg c60)
        have ko := ko c60
        refine z_aload_n O zd_L_isReceiver_199 rfl 0 rfl ?_
        refine z_iload O zd_L_isReceiver_200 2 rfl ?_
        refine z_callri O hl0 (st := []) 0 5 (fs := zo0 w σ) rfl rfl (c_X_ackBlocks l w σ x4 ko) zl_L_90 zm570 zm571 rfl rfl (Nat.le_of_ble_eq_true rfl) (Nat.le_of_ble_eq_true rfl) (Nat.le_of_ble_eq_true rfl) zd_L_isReceiver_202 (fun r61 e62 => ?_)
        have ht := ht.trans (zlet_e e62)
        refine z_iconst O (v := 3) zd_L_isReceiver_205 (by decide) ?_
        refine z_icmp_gt O (tgt := 213) zd_L_isReceiver_206 (by decide) (fun c63 => ?_) (fun c63 => ?_)
        · have ht := ht.trans (if_pos c63)
          refine z_iconst O (v := 0) zd_L_isReceiver_213 (by decide) ?_
          refine z_istore_n O (lv' := [(3, .int 0), (0, .ref (zq w 0)), (1, .int x1), (4, .int x4)]) zd_L_isReceiver_214 rfl (Nat.le_of_ble_eq_true rfl) rfl ?_
          refine z_sub (lv' := [(0, .ref (zq w 0)), (1, .int x1), (3, .int 0), (4, .int x4)]) [1, 2, 0, 3] rfl ?_
          exact kk 0 ht.symm
        · have ht := ht.trans (if_neg c63)
          refine z_iconst O (v := 1) zd_L_isReceiver_209 (by decide) ?_
          refine z_goto O (tgt := 214) zd_L_isReceiver_210 (by decide) ?_
          refine z_istore_n O (lv' := [(3, .int 1), (0, .ref (zq w 0)), (1, .int x1), (4, .int x4)]) zd_L_isReceiver_214 rfl (Nat.le_of_ble_eq_true rfl) rfl ?_
          refine z_sub (lv' := [(0, .ref (zq w 0)), (1, .int x1), (3, .int 1), (4, .int x4)]) [1, 2, 0, 3] rfl ?_
          exact kk 1 ht.symm
set_option maxHeartbeats 4000000 in
set_option maxRecDepth 100000 in
theorem S_L_isReceiver_233 {K : zCx} {w : zWd} {l : Launch} (O : zOk K w method_3_code "SluiceStreamLaw" 6 5 111) (hl0 : kl K = l) (σ : zSt) (x1 : Int32) (x4 : Int32) (x5 : Int32) (ko : ks_L_isReceiver_233 σ x1 x4 x5) (kk : ∀ r, r = s_L_isReceiver_233 σ x1 x4 x5 → Z K w σ [(0, .ref (zq w 0)), (1, .int x1), (3, .int r), (4, .int x4), (5, .int x5)] [] 271) : Z K w σ [(0, .ref (zq w 0)), (1, .int x1), (4, .int x4), (5, .int x5)] [] 233 := by
  have ht : s_L_isReceiver_233 σ x1 x4 x5 = s_L_isReceiver_233 σ x1 x4 x5 := rfl
  refine z_aload_n O zd_L_isReceiver_233 rfl 0 rfl ?_
  refine z_iload O zd_L_isReceiver_234 2 rfl ?_
  refine z_iload O zd_L_isReceiver_236 3 rfl ?_
  refine z_callri O hl0 (st := []) 0 5 (fs := zo0 w σ) rfl rfl (c_X_ackBlock l w σ x4 x5 ko.1) zl_L_93 zm574 zm575 rfl rfl (Nat.le_of_ble_eq_true rfl) (Nat.le_of_ble_eq_true rfl) (Nat.le_of_ble_eq_true rfl) zd_L_isReceiver_238 (fun r69 e70 => ?_)
  have ht := ht.trans (zlet_e e70)
  have ko := ko.2 r69 e70
  refine z_aload_n O zd_L_isReceiver_241 rfl 0 rfl ?_
  refine z_iload O zd_L_isReceiver_242 2 rfl ?_
  refine z_callri O hl0 (st := [.int r69]) 0 5 (fs := zo0 w σ) rfl rfl (c_X_ackNumber l w σ x4 ko.1) zl_L_84 zm452 zm453 rfl rfl (Nat.le_of_ble_eq_true rfl) (Nat.le_of_ble_eq_true rfl) (Nat.le_of_ble_eq_true rfl) zd_L_isReceiver_244 (fun r71 e72 => ?_)
  have ht := ht.trans (zlet_e e72)
  have ko := ko.2 r71 e72
  refine z_icmp_le O (tgt := 269) zd_L_isReceiver_247 (by decide) (fun c73 => ?_) (fun c73 => ?_)
  · have ht := ht.trans (if_pos c73)
    refine z_iconst O (v := 0) zd_L_isReceiver_269 (by decide) ?_
    refine z_istore_n O (lv' := [(3, .int 0), (0, .ref (zq w 0)), (1, .int x1), (4, .int x4), (5, .int x5)]) zd_L_isReceiver_270 rfl (Nat.le_of_ble_eq_true rfl) rfl ?_
    refine z_sub (lv' := [(0, .ref (zq w 0)), (1, .int x1), (3, .int 0), (4, .int x4), (5, .int x5)]) [1, 2, 0, 3, 4] rfl ?_
    exact kk 0 ht.symm
  · have ht := ht.trans (if_neg c73)
    have ko := ko c73
    refine z_aload_n O zd_L_isReceiver_250 rfl 0 rfl ?_
    refine z_iload O zd_L_isReceiver_251 2 rfl ?_
    refine z_iload O zd_L_isReceiver_253 3 rfl ?_
    refine z_callri O hl0 (st := []) 0 5 (fs := zo0 w σ) rfl rfl (c_X_ackBlock l w σ x4 x5 ko) zl_L_93 zm574 zm575 rfl rfl (Nat.le_of_ble_eq_true rfl) (Nat.le_of_ble_eq_true rfl) (Nat.le_of_ble_eq_true rfl) zd_L_isReceiver_255 (fun r74 e75 => ?_)
    have ht := ht.trans (zlet_e e75)
    refine z_aload_n O zd_L_isReceiver_258 rfl 0 rfl ?_
    refine z_callri O hl0 (st := [.int r74]) 0 5 (fs := zo0 w σ) rfl rfl (c_X_highest l w σ) zl_L_22 zm483 zm484 rfl rfl (Nat.le_of_ble_eq_true rfl) (Nat.le_of_ble_eq_true rfl) (Nat.le_of_ble_eq_true rfl) zd_L_isReceiver_259 (fun r76 e77 => ?_)
    have ht := ht.trans (zlet_e e77)
    refine z_icmp_ge O (tgt := 269) zd_L_isReceiver_262 (by decide) (fun c78 => ?_) (fun c78 => ?_)
    · have ht := ht.trans (if_pos c78)
      refine z_iconst O (v := 0) zd_L_isReceiver_269 (by decide) ?_
      refine z_istore_n O (lv' := [(3, .int 0), (0, .ref (zq w 0)), (1, .int x1), (4, .int x4), (5, .int x5)]) zd_L_isReceiver_270 rfl (Nat.le_of_ble_eq_true rfl) rfl ?_
      refine z_sub (lv' := [(0, .ref (zq w 0)), (1, .int x1), (3, .int 0), (4, .int x4), (5, .int x5)]) [1, 2, 0, 3, 4] rfl ?_
      exact kk 0 ht.symm
    · have ht := ht.trans (if_neg c78)
      refine z_iconst O (v := 1) zd_L_isReceiver_265 (by decide) ?_
      refine z_goto O (tgt := 270) zd_L_isReceiver_266 (by decide) ?_
      refine z_istore_n O (lv' := [(3, .int 1), (0, .ref (zq w 0)), (1, .int x1), (4, .int x4), (5, .int x5)]) zd_L_isReceiver_270 rfl (Nat.le_of_ble_eq_true rfl) rfl ?_
      refine z_sub (lv' := [(0, .ref (zq w 0)), (1, .int x1), (3, .int 1), (4, .int x4), (5, .int x5)]) [1, 2, 0, 3, 4] rfl ?_
      exact kk 1 ht.symm
set_option maxHeartbeats 4000000 in
set_option maxRecDepth 100000 in
theorem L_L_isReceiver_218 {K : zCx} {w : zWd} {l : Launch} (O : zOk K w method_3_code "SluiceStreamLaw" 6 5 111) (hl0 : kl K = l) (σ : zSt) (x1 x4 : Int32) : ∀ (m : Nat) (x3 x5 : Int32), kl_L_isReceiver_218 σ x1 x4 m x3 x5 → (∀ r, r = (l_L_isReceiver_218 σ x1 x4 m x3 x5) → Z K w σ [(0, .ref (zq w 0)), (1, .int x1), (3, .int r), (4, .int x4)] [] 277) → Z K w σ [(0, .ref (zq w 0)), (1, .int x1), (3, .int x3), (4, .int x4), (5, .int x5)] [] 218 := by
  intro m
  induction m with
  | zero => intro x3 x5 ko; exact ko.elim
  | succ m ih =>
    intro x3 x5 ko kk
    have ht : l_L_isReceiver_218 σ x1 x4 (m + 1) x3 x5 = l_L_isReceiver_218 σ x1 x4 (m + 1) x3 x5 := rfl
    refine z_iload O zd_L_isReceiver_218 4 rfl ?_
    refine z_aload_n O zd_L_isReceiver_220 rfl 0 rfl ?_
    refine z_iload O zd_L_isReceiver_221 3 rfl ?_
    refine z_callri O hl0 (st := [.int x5]) 0 5 (fs := zo0 w σ) rfl rfl (c_X_ackBlocks l w σ x4 ko.1) zl_L_90 zm570 zm571 rfl rfl (Nat.le_of_ble_eq_true rfl) (Nat.le_of_ble_eq_true rfl) (Nat.le_of_ble_eq_true rfl) zd_L_isReceiver_223 (fun r65 e66 => ?_)
    have ht := ht.trans (zlet_e e66)
    have ko := ko.2 r65 e66
    refine z_icmp_ge O (tgt := 277) zd_L_isReceiver_226 (by decide) (fun c67 => ?_) (fun c67 => ?_)
    · have ht := ht.trans (if_pos c67)
      refine z_sub (lv' := [(0, .ref (zq w 0)), (1, .int x1), (3, .int x3), (4, .int x4)]) [0, 1, 2, 3] rfl ?_
      exact kk x3 ht.symm
    · have ht := ht.trans (if_neg c67)
      have ko := ko c67
      refine z_iload_n O zd_L_isReceiver_229 rfl 2 rfl ?_
      refine z_if_eq O (tgt := 277) zd_L_isReceiver_230 (by decide) (fun c68 => ?_) (fun c68 => ?_)
      · have ht := ht.trans (if_pos c68)
        refine z_sub (lv' := [(0, .ref (zq w 0)), (1, .int x1), (3, .int x3), (4, .int x4)]) [0, 1, 2, 3] rfl ?_
        exact kk x3 ht.symm
      · have ht := ht.trans (if_neg c68)
        have ko := ko c68
        refine z_sub (lv' := [(0, .ref (zq w 0)), (1, .int x1), (4, .int x4), (5, .int x5)]) [0, 1, 3, 4] rfl ?_
        refine S_L_isReceiver_233 O hl0 σ x1 x4 x5 ko.1 (fun r79 er79 => ?_)
        have ht := ht.trans (zlet_e er79)
        have ko := ko.2 r79 er79
        refine z_iinc O (v := (x5 + 1)) (lv' := [(5, .int (x5 + 1)), (0, .ref (zq w 0)), (1, .int x1), (3, .int r79), (4, .int x4)]) zd_L_isReceiver_271 4 rfl rfl (Nat.le_of_ble_eq_true rfl) rfl ?_
        refine z_goto O (tgt := 218) zd_L_isReceiver_274 (by decide) ?_
        refine z_sub (lv' := [(0, .ref (zq w 0)), (1, .int x1), (3, .int r79), (4, .int x4), (5, .int (x5 + 1))]) [1, 2, 3, 4, 0] rfl ?_
        exact ih r79 (x5 + 1) ko (fun r e => kk r (e.trans ht.symm))
set_option maxHeartbeats 4000000 in
set_option maxRecDepth 100000 in
theorem L_L_isReceiver_144 {K : zCx} {w : zWd} {l : Launch} (O : zOk K w method_3_code "SluiceStreamLaw" 6 5 111) (hl0 : kl K = l) (σ : zSt) (x1 : Int32) : ∀ (m : Nat) (x3 x4 : Int32), kl_L_isReceiver_144 σ x1 m x3 x4 → (∀ r, r = (l_L_isReceiver_144 σ x1 m x3 x4) → Z K w σ [(0, .ref (zq w 0)), (3, .int r)] [] 283) → Z K w σ [(0, .ref (zq w 0)), (1, .int x1), (3, .int x3), (4, .int x4)] [] 144 := by
  intro m
  induction m with
  | zero => intro x3 x4 ko; exact ko.elim
  | succ m ih =>
    intro x3 x4 ko kk
    have ht : l_L_isReceiver_144 σ x1 (m + 1) x3 x4 = l_L_isReceiver_144 σ x1 (m + 1) x3 x4 := rfl
    refine z_iload O zd_L_isReceiver_144 3 rfl ?_
    refine z_aload_n O zd_L_isReceiver_146 rfl 0 rfl ?_
    refine z_callri O hl0 (st := [.int x4]) 0 5 (fs := zo0 w σ) rfl rfl (c_X_acks l w σ) zl_L_81 zm448 zm449 rfl rfl (Nat.le_of_ble_eq_true rfl) (Nat.le_of_ble_eq_true rfl) (Nat.le_of_ble_eq_true rfl) zd_L_isReceiver_147 (fun r44 e45 => ?_)
    have ht := ht.trans (zlet_e e45)
    have ko := ko r44 e45
    refine z_icmp_ge O (tgt := 283) zd_L_isReceiver_150 (by decide) (fun c46 => ?_) (fun c46 => ?_)
    · have ht := ht.trans (if_pos c46)
      refine z_sub (lv' := [(0, .ref (zq w 0)), (3, .int x3)]) [0, 2] rfl ?_
      exact kk x3 ht.symm
    · have ht := ht.trans (if_neg c46)
      have ko := ko c46
      refine z_iload_n O zd_L_isReceiver_153 rfl 2 rfl ?_
      refine z_if_eq O (tgt := 283) zd_L_isReceiver_154 (by decide) (fun c47 => ?_) (fun c47 => ?_)
      · have ht := ht.trans (if_pos c47)
        refine z_sub (lv' := [(0, .ref (zq w 0)), (3, .int x3)]) [0, 2] rfl ?_
        exact kk x3 ht.symm
      · have ht := ht.trans (if_neg c47)
        have ko := ko c47
        refine z_sub (lv' := [(0, .ref (zq w 0)), (1, .int x1), (4, .int x4)]) [0, 1, 3] rfl ?_
        refine S_L_isReceiver_157 O hl0 σ x1 x4 ko.1 (fun r64 er64 => ?_)
        have ht := ht.trans (zlet_e er64)
        have ko := ko.2 r64 er64
        refine z_iconst O (v := 0) zd_L_isReceiver_215 (by decide) ?_
        refine z_istore O (lv' := [(5, .int 0), (0, .ref (zq w 0)), (1, .int x1), (3, .int r64), (4, .int x4)]) zd_L_isReceiver_216 (Nat.le_of_ble_eq_true rfl) rfl ?_
        refine z_sub (lv' := [(0, .ref (zq w 0)), (1, .int x1), (3, .int r64), (4, .int x4), (5, .int 0)]) [1, 2, 3, 4, 0] rfl ?_
        refine L_L_isReceiver_218 O hl0 σ x1 x4 (5) r64 0 ko.1 (fun r80 er80 => ?_)
        have ht := ht.trans (zlet_e er80)
        have ko := ko.2 r80 er80
        refine z_iinc O (v := (x4 + 1)) (lv' := [(4, .int (x4 + 1)), (0, .ref (zq w 0)), (1, .int x1), (3, .int r80)]) zd_L_isReceiver_277 3 rfl rfl (Nat.le_of_ble_eq_true rfl) rfl ?_
        refine z_goto O (tgt := 144) zd_L_isReceiver_280 (by decide) ?_
        refine z_sub (lv' := [(0, .ref (zq w 0)), (1, .int x1), (3, .int r80), (4, .int (x4 + 1))]) [1, 2, 3, 0] rfl ?_
        exact ih r80 (x4 + 1) ko (fun r e => kk r (e.trans ht.symm))
set_option maxHeartbeats 4000000 in
set_option maxRecDepth 100000 in
theorem S_L_isReceiver_299 {K : zCx} {w : zWd} {l : Launch} (O : zOk K w method_3_code "SluiceStreamLaw" 6 5 111) (hl0 : kl K = l) (σ : zSt) (x4 : Int32) (ko : ks_L_isReceiver_299 σ x4) (kk : ∀ r, r = s_L_isReceiver_299 σ x4 → Z K w σ [(0, .ref (zq w 0)), (3, .int r), (4, .int x4)] [] 359) : Z K w σ [(0, .ref (zq w 0)), (4, .int x4)] [] 299 := by
  have ht : s_L_isReceiver_299 σ x4 = s_L_isReceiver_299 σ x4 := rfl
  refine z_aload_n O zd_L_isReceiver_299 rfl 0 rfl ?_
  refine z_iload O zd_L_isReceiver_300 1 rfl ?_
  refine z_callri O hl0 (st := []) 0 5 (fs := zo0 w σ) rfl rfl (c_X_startOf l w σ x4 ko.1) zl_L_100 zm578 zm579 rfl rfl (Nat.le_of_ble_eq_true rfl) (Nat.le_of_ble_eq_true rfl) (Nat.le_of_ble_eq_true rfl) zd_L_isReceiver_302 (fun r86 e87 => ?_)
  have ht := ht.trans (zlet_e e87)
  have ko := ko.2 r86 e87
  refine z_if_lt O (tgt := 357) zd_L_isReceiver_305 (by decide) (fun c88 => ?_) (fun c88 => ?_)
  · have ht := ht.trans (if_pos c88)
    refine z_iconst O (v := 0) zd_L_isReceiver_357 (by decide) ?_
    refine z_istore_n O (lv' := [(3, .int 0), (0, .ref (zq w 0)), (4, .int x4)]) zd_L_isReceiver_358 rfl (Nat.le_of_ble_eq_true rfl) rfl ?_
    refine z_sub (lv' := [(0, .ref (zq w 0)), (3, .int 0), (4, .int x4)]) [1, 0, 2] rfl ?_
    exact kk 0 ht.symm
  · have ht := ht.trans (if_neg c88)
    have ko := ko c88
    refine z_aload_n O zd_L_isReceiver_308 rfl 0 rfl ?_
    refine z_iload O zd_L_isReceiver_309 1 rfl ?_
    refine z_callri O hl0 (st := []) 0 5 (fs := zo0 w σ) rfl rfl (c_X_endOf l w σ x4 ko.1) zl_L_103 zm444 zm445 rfl rfl (Nat.le_of_ble_eq_true rfl) (Nat.le_of_ble_eq_true rfl) (Nat.le_of_ble_eq_true rfl) zd_L_isReceiver_311 (fun r89 e90 => ?_)
    have ht := ht.trans (zlet_e e90)
    have ko := ko.2 r89 e90
    refine z_aload_n O zd_L_isReceiver_314 rfl 0 rfl ?_
    refine z_iload O zd_L_isReceiver_315 1 rfl ?_
    refine z_callri O hl0 (st := [.int r89]) 0 5 (fs := zo0 w σ) rfl rfl (c_X_startOf l w σ x4 ko.1) zl_L_100 zm578 zm579 rfl rfl (Nat.le_of_ble_eq_true rfl) (Nat.le_of_ble_eq_true rfl) (Nat.le_of_ble_eq_true rfl) zd_L_isReceiver_317 (fun r91 e92 => ?_)
    have ht := ht.trans (zlet_e e92)
    have ko := ko.2 r91 e92
    refine z_icmp_le O (tgt := 357) zd_L_isReceiver_320 (by decide) (fun c93 => ?_) (fun c93 => ?_)
    · have ht := ht.trans (if_pos c93)
      refine z_iconst O (v := 0) zd_L_isReceiver_357 (by decide) ?_
      refine z_istore_n O (lv' := [(3, .int 0), (0, .ref (zq w 0)), (4, .int x4)]) zd_L_isReceiver_358 rfl (Nat.le_of_ble_eq_true rfl) rfl ?_
      refine z_sub (lv' := [(0, .ref (zq w 0)), (3, .int 0), (4, .int x4)]) [1, 0, 2] rfl ?_
      exact kk 0 ht.symm
    · have ht := ht.trans (if_neg c93)
      have ko := ko c93
      refine z_aload_n O zd_L_isReceiver_323 rfl 0 rfl ?_
      refine z_iload O zd_L_isReceiver_324 1 rfl ?_
      refine z_callri O hl0 (st := []) 0 5 (fs := zo0 w σ) rfl rfl (c_X_endOf l w σ x4 ko.1) zl_L_103 zm444 zm445 rfl rfl (Nat.le_of_ble_eq_true rfl) (Nat.le_of_ble_eq_true rfl) (Nat.le_of_ble_eq_true rfl) zd_L_isReceiver_326 (fun r94 e95 => ?_)
      have ht := ht.trans (zlet_e e95)
      have ko := ko.2 r94 e95
      refine z_aload_n O zd_L_isReceiver_329 rfl 0 rfl ?_
      refine z_iload O zd_L_isReceiver_330 1 rfl ?_
      refine z_callri O hl0 (st := [.int r94]) 0 5 (fs := zo0 w σ) rfl rfl (c_X_startOf l w σ x4 ko.1) zl_L_100 zm578 zm579 rfl rfl (Nat.le_of_ble_eq_true rfl) (Nat.le_of_ble_eq_true rfl) (Nat.le_of_ble_eq_true rfl) zd_L_isReceiver_332 (fun r96 e97 => ?_)
      have ht := ht.trans (zlet_e e97)
      have ko := ko.2 r96 e97
      refine z_iconst O (v := 4) zd_L_isReceiver_335 (by decide) ?_
      refine z_iadd O zd_L_isReceiver_336 ?_
      refine z_icmp_gt O (tgt := 357) zd_L_isReceiver_337 (by decide) (fun c98 => ?_) (fun c98 => ?_)
      · have ht := ht.trans (if_pos c98)
        refine z_iconst O (v := 0) zd_L_isReceiver_357 (by decide) ?_
        refine z_istore_n O (lv' := [(3, .int 0), (0, .ref (zq w 0)), (4, .int x4)]) zd_L_isReceiver_358 rfl (Nat.le_of_ble_eq_true rfl) rfl ?_
        refine z_sub (lv' := [(0, .ref (zq w 0)), (3, .int 0), (4, .int x4)]) [1, 0, 2] rfl ?_
        exact kk 0 ht.symm
      · have ht := ht.trans (if_neg c98)
        have ko := ko c98
        refine z_aload_n O zd_L_isReceiver_340 rfl 0 rfl ?_
        refine z_iload O zd_L_isReceiver_341 1 rfl ?_
        refine z_callri O hl0 (st := []) 0 5 (fs := zo0 w σ) rfl rfl (c_X_endOf l w σ x4 ko) zl_L_103 zm444 zm445 rfl rfl (Nat.le_of_ble_eq_true rfl) (Nat.le_of_ble_eq_true rfl) (Nat.le_of_ble_eq_true rfl) zd_L_isReceiver_343 (fun r99 e100 => ?_)
        have ht := ht.trans (zlet_e e100)
        refine z_aload_n O zd_L_isReceiver_346 rfl 0 rfl ?_
        refine z_callri O hl0 (st := [.int r99]) 0 5 (fs := zo0 w σ) rfl rfl (c_X_highest l w σ) zl_L_22 zm483 zm484 rfl rfl (Nat.le_of_ble_eq_true rfl) (Nat.le_of_ble_eq_true rfl) (Nat.le_of_ble_eq_true rfl) zd_L_isReceiver_347 (fun r101 e102 => ?_)
        have ht := ht.trans (zlet_e e102)
        refine z_icmp_gt O (tgt := 357) zd_L_isReceiver_350 (by decide) (fun c103 => ?_) (fun c103 => ?_)
        · have ht := ht.trans (if_pos c103)
          refine z_iconst O (v := 0) zd_L_isReceiver_357 (by decide) ?_
          refine z_istore_n O (lv' := [(3, .int 0), (0, .ref (zq w 0)), (4, .int x4)]) zd_L_isReceiver_358 rfl (Nat.le_of_ble_eq_true rfl) rfl ?_
          refine z_sub (lv' := [(0, .ref (zq w 0)), (3, .int 0), (4, .int x4)]) [1, 0, 2] rfl ?_
          exact kk 0 ht.symm
        · have ht := ht.trans (if_neg c103)
          refine z_iconst O (v := 1) zd_L_isReceiver_353 (by decide) ?_
          refine z_goto O (tgt := 358) zd_L_isReceiver_354 (by decide) ?_
          refine z_istore_n O (lv' := [(3, .int 1), (0, .ref (zq w 0)), (4, .int x4)]) zd_L_isReceiver_358 rfl (Nat.le_of_ble_eq_true rfl) rfl ?_
          refine z_sub (lv' := [(0, .ref (zq w 0)), (3, .int 1), (4, .int x4)]) [1, 0, 2] rfl ?_
          exact kk 1 ht.symm
set_option maxHeartbeats 4000000 in
set_option maxRecDepth 100000 in
theorem L_L_isReceiver_286 {K : zCx} {w : zWd} {l : Launch} (O : zOk K w method_3_code "SluiceStreamLaw" 6 5 111) (hl0 : kl K = l) (σ : zSt) : ∀ (m : Nat) (x3 x4 : Int32), kl_L_isReceiver_286 σ  m x3 x4 → (∀ r, r = (l_L_isReceiver_286 σ  m x3 x4) → Z K w σ [(3, .int r)] [] 365) → Z K w σ [(0, .ref (zq w 0)), (3, .int x3), (4, .int x4)] [] 286 := by
  intro m
  induction m with
  | zero => intro x3 x4 ko; exact ko.elim
  | succ m ih =>
    intro x3 x4 ko kk
    have ht : l_L_isReceiver_286 σ  (m + 1) x3 x4 = l_L_isReceiver_286 σ  (m + 1) x3 x4 := rfl
    refine z_iload O zd_L_isReceiver_286 2 rfl ?_
    refine z_aload_n O zd_L_isReceiver_288 rfl 0 rfl ?_
    refine z_callri O hl0 (st := [.int x4]) 0 5 (fs := zo0 w σ) rfl rfl (c_X_segments l w σ) zl_L_97 zm440 zm441 rfl rfl (Nat.le_of_ble_eq_true rfl) (Nat.le_of_ble_eq_true rfl) (Nat.le_of_ble_eq_true rfl) zd_L_isReceiver_289 (fun r82 e83 => ?_)
    have ht := ht.trans (zlet_e e83)
    have ko := ko r82 e83
    refine z_icmp_ge O (tgt := 365) zd_L_isReceiver_292 (by decide) (fun c84 => ?_) (fun c84 => ?_)
    · have ht := ht.trans (if_pos c84)
      refine z_sub (lv' := [(3, .int x3)]) [1] rfl ?_
      exact kk x3 ht.symm
    · have ht := ht.trans (if_neg c84)
      have ko := ko c84
      refine z_iload_n O zd_L_isReceiver_295 rfl 1 rfl ?_
      refine z_if_eq O (tgt := 365) zd_L_isReceiver_296 (by decide) (fun c85 => ?_) (fun c85 => ?_)
      · have ht := ht.trans (if_pos c85)
        refine z_sub (lv' := [(3, .int x3)]) [1] rfl ?_
        exact kk x3 ht.symm
      · have ht := ht.trans (if_neg c85)
        have ko := ko c85
        refine z_sub (lv' := [(0, .ref (zq w 0)), (4, .int x4)]) [0, 2] rfl ?_
        refine S_L_isReceiver_299 O hl0 σ x4 ko.1 (fun r104 er104 => ?_)
        have ht := ht.trans (zlet_e er104)
        have ko := ko.2 r104 er104
        refine z_iinc O (v := (x4 + 1)) (lv' := [(4, .int (x4 + 1)), (0, .ref (zq w 0)), (3, .int r104)]) zd_L_isReceiver_359 2 rfl rfl (Nat.le_of_ble_eq_true rfl) rfl ?_
        refine z_goto O (tgt := 286) zd_L_isReceiver_362 (by decide) ?_
        refine z_sub (lv' := [(0, .ref (zq w 0)), (3, .int r104), (4, .int (x4 + 1))]) [1, 2, 0] rfl ?_
        exact ih r104 (x4 + 1) ko (fun r e => kk r (e.trans ht.symm))
set_option maxHeartbeats 4000000 in
set_option maxRecDepth 100000 in
theorem c_L_isReceiver (l : Launch) (w : zWd) (σ : zSt) (ko : k_L_isReceiver σ) : zMi l ({ cls := "SluiceStreamLaw", name := "isReceiver", desc := "(LSluiceStream;)Z" } : Jvm.MethodName) method_3_code 6 5 111 .boolean w [.ref (zq w 0)] σ (fun r u => r = (f_L_isReceiver σ) ∧ u = σ) := by
  refine zMi_of (by decide +kernel) (Nat.le_of_ble_eq_true rfl) ?_
  intro K O hl0 E
  have ht : (f_L_isReceiver σ) = (f_L_isReceiver σ) := rfl
  refine z_sub (lv' := [(0, .ref (zq w 0))]) [0] rfl ?_
  refine z_aload_n O zd_L_isReceiver_0 rfl 0 rfl ?_
  refine z_callri O hl0 (st := []) 0 5 (fs := zo0 w σ) rfl rfl (c_X_inOrder l w σ) zl_L_16 zm464 zm465 rfl rfl (Nat.le_of_ble_eq_true rfl) (Nat.le_of_ble_eq_true rfl) (Nat.le_of_ble_eq_true rfl) zd_L_isReceiver_1 (fun r1 e2 => ?_)
  have ht := ht.trans (zlet_e e2)
  have ko := ko r1 e2
  refine z_istore_n O (lv' := [(1, .int r1), (0, .ref (zq w 0))]) zd_L_isReceiver_4 rfl (Nat.le_of_ble_eq_true rfl) rfl ?_
  refine z_iload_n O zd_L_isReceiver_5 rfl 0 rfl ?_
  refine z_istore_n O (lv' := [(2, .int r1), (1, .int r1), (0, .ref (zq w 0))]) zd_L_isReceiver_6 rfl (Nat.le_of_ble_eq_true rfl) rfl ?_
  refine z_sub (lv' := [(0, .ref (zq w 0)), (1, .int r1), (2, .int r1)]) [2, 1, 0] rfl ?_
  refine S_L_isReceiver_7 O hl0 σ r1 r1 (fun r17 er17 => ?_)
  have ht := ht.trans (zlet_e er17)
  have ko := ko r17 er17
  refine z_iconst O (v := 0) zd_L_isReceiver_52 (by decide) ?_
  refine z_istore O (lv' := [(4, .int 0), (0, .ref (zq w 0)), (1, .int r1), (2, .int r1), (3, .int r17)]) zd_L_isReceiver_53 (Nat.le_of_ble_eq_true rfl) rfl ?_
  refine z_sub (lv' := [(0, .ref (zq w 0)), (1, .int r1), (2, .int r1), (3, .int r17), (4, .int 0)]) [1, 2, 3, 4, 0] rfl ?_
  refine L_L_isReceiver_55 O hl0 σ r1 (700) r1 r17 0 ko.1 (fun r43 er43 => ?_)
  have ht := ht.trans (zlet_e er43)
  have ko := ko.2 r43 er43
  refine z_iconst O (v := 0) zd_L_isReceiver_141 (by decide) ?_
  refine z_istore O (lv' := [(4, .int 0), (0, .ref (zq w 0)), (1, .int r1), (3, .int r43)]) zd_L_isReceiver_142 (Nat.le_of_ble_eq_true rfl) rfl ?_
  refine z_sub (lv' := [(0, .ref (zq w 0)), (1, .int r1), (3, .int r43), (4, .int 0)]) [1, 2, 3, 0] rfl ?_
  refine L_L_isReceiver_144 O hl0 σ r1 (50) r43 0 ko.1 (fun r81 er81 => ?_)
  have ht := ht.trans (zlet_e er81)
  have ko := ko.2 r81 er81
  refine z_iconst O (v := 0) zd_L_isReceiver_283 (by decide) ?_
  refine z_istore O (lv' := [(4, .int 0), (0, .ref (zq w 0)), (3, .int r81)]) zd_L_isReceiver_284 (Nat.le_of_ble_eq_true rfl) rfl ?_
  refine z_sub (lv' := [(0, .ref (zq w 0)), (3, .int r81), (4, .int 0)]) [1, 2, 0] rfl ?_
  refine L_L_isReceiver_286 O hl0 σ (50) r81 0 ko.1 (fun r105 er105 => ?_)
  have ht := ht.trans (zlet_e er105)
  have ko := ko.2 r105 er105
  refine z_iload_n O zd_L_isReceiver_365 rfl 0 rfl ?_
  have b106 := ko
  exact E _ _ _ _ zd_L_isReceiver_366 b106 ⟨ht.symm, rfl⟩
set_option maxHeartbeats 4000000 in
set_option maxRecDepth 100000 in
theorem S_L_isSent_39 {K : zCx} {w : zWd} {l : Launch} (O : zOk K w method_4_code "SluiceStreamLaw" 12 6 133) (hl0 : kl K = l) (σ : zSt) (x1 : Int32) (x2 : Int32) (x3 : Int32) (x4 : Int32) (x5 : Int32) (x6 : Int32) (x7 : Int32) (kk : ∀ r, r = s_L_isSent_39 σ x1 x2 x3 x4 x5 x6 x7 → Z K w σ [(0, .ref (zq w 0)), (1, .int x1), (2, .int x2), (3, .int x3), (4, .int x4), (5, .int x5), (6, .int x6), (7, .int x7), (8, .int r)] [] 53) : Z K w σ [(0, .ref (zq w 0)), (1, .int x1), (2, .int x2), (3, .int x3), (4, .int x4), (5, .int x5), (6, .int x6), (7, .int x7)] [] 39 := by
  have ht : s_L_isSent_39 σ x1 x2 x3 x4 x5 x6 x7 = s_L_isSent_39 σ x1 x2 x3 x4 x5 x6 x7 := rfl
  refine z_aload_n O zd_L_isSent_39 rfl 0 rfl ?_
  refine z_callri O hl0 (st := []) 0 5 (fs := zo0 w σ) rfl rfl (c_X_recoveryEnd l w σ) zl_L_56 zm525 zm526 rfl rfl (Nat.le_of_ble_eq_true rfl) (Nat.le_of_ble_eq_true rfl) (Nat.le_of_ble_eq_true rfl) zd_L_isSent_40 (fun r15 e16 => ?_)
  have ht := ht.trans (zlet_e e16)
  refine z_if_lt O (tgt := 50) zd_L_isSent_43 (by decide) (fun c17 => ?_) (fun c17 => ?_)
  · have ht := ht.trans (if_pos c17)
    refine z_iconst O (v := 0) zd_L_isSent_50 (by decide) ?_
    refine z_istore O (lv' := [(8, .int 0), (0, .ref (zq w 0)), (1, .int x1), (2, .int x2), (3, .int x3), (4, .int x4), (5, .int x5), (6, .int x6), (7, .int x7)]) zd_L_isSent_51 (Nat.le_of_ble_eq_true rfl) rfl ?_
    refine z_sub (lv' := [(0, .ref (zq w 0)), (1, .int x1), (2, .int x2), (3, .int x3), (4, .int x4), (5, .int x5), (6, .int x6), (7, .int x7), (8, .int 0)]) [1, 2, 3, 4, 5, 6, 7, 8, 0] rfl ?_
    exact kk 0 ht.symm
  · have ht := ht.trans (if_neg c17)
    refine z_iconst O (v := 1) zd_L_isSent_46 (by decide) ?_
    refine z_goto O (tgt := 51) zd_L_isSent_47 (by decide) ?_
    refine z_istore O (lv' := [(8, .int 1), (0, .ref (zq w 0)), (1, .int x1), (2, .int x2), (3, .int x3), (4, .int x4), (5, .int x5), (6, .int x6), (7, .int x7)]) zd_L_isSent_51 (Nat.le_of_ble_eq_true rfl) rfl ?_
    refine z_sub (lv' := [(0, .ref (zq w 0)), (1, .int x1), (2, .int x2), (3, .int x3), (4, .int x4), (5, .int x5), (6, .int x6), (7, .int x7), (8, .int 1)]) [1, 2, 3, 4, 5, 6, 7, 8, 0] rfl ?_
    exact kk 1 ht.symm
set_option maxHeartbeats 4000000 in
set_option maxRecDepth 100000 in
theorem S_L_isSent_111 {K : zCx} {w : zWd} {l : Launch} (O : zOk K w method_4_code "SluiceStreamLaw" 12 6 133) (hl0 : kl K = l) (σ : zSt) (x1 : Int32) (x2 : Int32) (x3 : Int32) (x4 : Int32) (x5 : Int32) (x6 : Int32) (x7 : Int32) (x8 : Int32) (x9 : Int32) (x10 : Int32) (ko : ks_L_isSent_111 σ x1 x2 x3 x4 x5 x6 x7 x8 x9 x10) (kk : ∀ r, r = s_L_isSent_111 σ x1 x2 x3 x4 x5 x6 x7 x8 x9 x10 → Z K w σ [(0, .ref (zq w 0)), (4, .int x4), (6, .int x6), (7, .int x7), (8, .int x8), (9, .int x9), (10, .int x10), (11, .int r)] [] 185) : Z K w σ [(0, .ref (zq w 0)), (1, .int x1), (2, .int x2), (3, .int x3), (4, .int x4), (5, .int x5), (6, .int x6), (7, .int x7), (8, .int x8), (9, .int x9), (10, .int x10)] [] 111 := by
  have ht : s_L_isSent_111 σ x1 x2 x3 x4 x5 x6 x7 x8 x9 x10 = s_L_isSent_111 σ x1 x2 x3 x4 x5 x6 x7 x8 x9 x10 := rfl
  refine z_iload O zd_L_isSent_111 9 rfl ?_
  refine z_iconst O (v := 4) zd_L_isSent_113 (by decide) ?_
  refine z_icmp_gt O (tgt := 182) zd_L_isSent_114 (by decide) (fun c25 => ?_) (fun c25 => ?_)
  · have ht := ht.trans (if_pos c25)
    refine z_iconst O (v := 0) zd_L_isSent_182 (by decide) ?_
    refine z_istore O (lv' := [(11, .int 0), (0, .ref (zq w 0)), (1, .int x1), (2, .int x2), (3, .int x3), (4, .int x4), (5, .int x5), (6, .int x6), (7, .int x7), (8, .int x8), (9, .int x9), (10, .int x10)]) zd_L_isSent_183 (Nat.le_of_ble_eq_true rfl) rfl ?_
    refine z_sub (lv' := [(0, .ref (zq w 0)), (4, .int x4), (6, .int x6), (7, .int x7), (8, .int x8), (9, .int x9), (10, .int x10), (11, .int 0)]) [1, 5, 7, 8, 9, 10, 11, 0] rfl ?_
    exact kk 0 ht.symm
  · have ht := ht.trans (if_neg c25)
    have ko := ko c25
    refine z_aload_n O zd_L_isSent_117 rfl 0 rfl ?_
    refine z_callri O hl0 (st := []) 0 5 (fs := zo0 w σ) rfl rfl (c_X_sent l w σ) zl_L_53 zm521 zm522 rfl rfl (Nat.le_of_ble_eq_true rfl) (Nat.le_of_ble_eq_true rfl) (Nat.le_of_ble_eq_true rfl) zd_L_isSent_118 (fun r26 e27 => ?_)
    have ht := ht.trans (zlet_e e27)
    have ko := ko r26 e27
    refine z_iload_n O zd_L_isSent_121 rfl 1 rfl ?_
    refine z_iconst O (v := 1) zd_L_isSent_122 (by decide) ?_
    refine z_iadd O zd_L_isSent_123 ?_
    refine z_icmp_ne O (tgt := 182) zd_L_isSent_124 (by decide) (fun c28 => ?_) (fun c28 => ?_)
    · have ht := ht.trans (if_neg c28)
      refine z_iconst O (v := 0) zd_L_isSent_182 (by decide) ?_
      refine z_istore O (lv' := [(11, .int 0), (0, .ref (zq w 0)), (1, .int x1), (2, .int x2), (3, .int x3), (4, .int x4), (5, .int x5), (6, .int x6), (7, .int x7), (8, .int x8), (9, .int x9), (10, .int x10)]) zd_L_isSent_183 (Nat.le_of_ble_eq_true rfl) rfl ?_
      refine z_sub (lv' := [(0, .ref (zq w 0)), (4, .int x4), (6, .int x6), (7, .int x7), (8, .int x8), (9, .int x9), (10, .int x10), (11, .int 0)]) [1, 5, 7, 8, 9, 10, 11, 0] rfl ?_
      exact kk 0 ht.symm
    · have ht := ht.trans (if_pos c28)
      have ko := ko c28
      refine z_aload_n O zd_L_isSent_127 rfl 0 rfl ?_
      refine z_callri O hl0 (st := []) 0 5 (fs := zo0 w σ) rfl rfl (c_X_segments l w σ) zl_L_97 zm440 zm441 rfl rfl (Nat.le_of_ble_eq_true rfl) (Nat.le_of_ble_eq_true rfl) (Nat.le_of_ble_eq_true rfl) zd_L_isSent_128 (fun r29 e30 => ?_)
      have ht := ht.trans (zlet_e e30)
      have ko := ko r29 e30
      refine z_iload_n O zd_L_isSent_131 rfl 3 rfl ?_
      refine z_iconst O (v := 1) zd_L_isSent_132 (by decide) ?_
      refine z_iadd O zd_L_isSent_133 ?_
      refine z_icmp_ne O (tgt := 182) zd_L_isSent_134 (by decide) (fun c31 => ?_) (fun c31 => ?_)
      · have ht := ht.trans (if_neg c31)
        refine z_iconst O (v := 0) zd_L_isSent_182 (by decide) ?_
        refine z_istore O (lv' := [(11, .int 0), (0, .ref (zq w 0)), (1, .int x1), (2, .int x2), (3, .int x3), (4, .int x4), (5, .int x5), (6, .int x6), (7, .int x7), (8, .int x8), (9, .int x9), (10, .int x10)]) zd_L_isSent_183 (Nat.le_of_ble_eq_true rfl) rfl ?_
        refine z_sub (lv' := [(0, .ref (zq w 0)), (4, .int x4), (6, .int x6), (7, .int x7), (8, .int x8), (9, .int x9), (10, .int x10), (11, .int 0)]) [1, 5, 7, 8, 9, 10, 11, 0] rfl ?_
        exact kk 0 ht.symm
      · have ht := ht.trans (if_pos c31)
        have ko := ko c31
        refine z_aload_n O zd_L_isSent_137 rfl 0 rfl ?_
        refine z_iload_n O zd_L_isSent_138 rfl 3 rfl ?_
        refine z_callri O hl0 (st := []) 0 5 (fs := zo0 w σ) rfl rfl (c_X_endOf l w σ x3 ko) zl_L_103 zm444 zm445 rfl rfl (Nat.le_of_ble_eq_true rfl) (Nat.le_of_ble_eq_true rfl) (Nat.le_of_ble_eq_true rfl) zd_L_isSent_139 (fun r32 e33 => ?_)
        have ht := ht.trans (zlet_e e33)
        refine z_iload O zd_L_isSent_142 10 rfl ?_
        refine z_iload O zd_L_isSent_144 9 rfl ?_
        refine z_iadd O zd_L_isSent_146 ?_
        refine z_icmp_ne O (tgt := 182) zd_L_isSent_147 (by decide) (fun c34 => ?_) (fun c34 => ?_)
        · have ht := ht.trans (if_neg c34)
          refine z_iconst O (v := 0) zd_L_isSent_182 (by decide) ?_
          refine z_istore O (lv' := [(11, .int 0), (0, .ref (zq w 0)), (1, .int x1), (2, .int x2), (3, .int x3), (4, .int x4), (5, .int x5), (6, .int x6), (7, .int x7), (8, .int x8), (9, .int x9), (10, .int x10)]) zd_L_isSent_183 (Nat.le_of_ble_eq_true rfl) rfl ?_
          refine z_sub (lv' := [(0, .ref (zq w 0)), (4, .int x4), (6, .int x6), (7, .int x7), (8, .int x8), (9, .int x9), (10, .int x10), (11, .int 0)]) [1, 5, 7, 8, 9, 10, 11, 0] rfl ?_
          exact kk 0 ht.symm
        · have ht := ht.trans (if_pos c34)
          refine z_aload_n O zd_L_isSent_150 rfl 0 rfl ?_
          refine z_callri O hl0 (st := []) 0 5 (fs := zo0 w σ) rfl rfl (c_X_sentAgain l w σ) zl_L_50 zm517 zm518 rfl rfl (Nat.le_of_ble_eq_true rfl) (Nat.le_of_ble_eq_true rfl) (Nat.le_of_ble_eq_true rfl) zd_L_isSent_151 (fun r35 e36 => ?_)
          have ht := ht.trans (zlet_e e36)
          refine z_iload_n O zd_L_isSent_154 rfl 2 rfl ?_
          refine z_iload O zd_L_isSent_155 10 rfl ?_
          refine z_iload O zd_L_isSent_157 5 rfl ?_
          refine z_icmp_ge O (tgt := 166) zd_L_isSent_159 (by decide) (fun c37 => ?_) (fun c37 => ?_)
          · have ht := ht.trans (if_pos c37)
            refine z_iconst O (v := 0) zd_L_isSent_166 (by decide) ?_
            refine z_iadd O zd_L_isSent_167 ?_
            refine z_icmp_ne O (tgt := 182) zd_L_isSent_168 (by decide) (fun c38 => ?_) (fun c38 => ?_)
            · have ht := ht.trans (if_neg c38)
              refine z_iconst O (v := 0) zd_L_isSent_182 (by decide) ?_
              refine z_istore O (lv' := [(11, .int 0), (0, .ref (zq w 0)), (1, .int x1), (2, .int x2), (3, .int x3), (4, .int x4), (5, .int x5), (6, .int x6), (7, .int x7), (8, .int x8), (9, .int x9), (10, .int x10)]) zd_L_isSent_183 (Nat.le_of_ble_eq_true rfl) rfl ?_
              refine z_sub (lv' := [(0, .ref (zq w 0)), (4, .int x4), (6, .int x6), (7, .int x7), (8, .int x8), (9, .int x9), (10, .int x10), (11, .int 0)]) [1, 5, 7, 8, 9, 10, 11, 0] rfl ?_
              exact kk 0 ht.symm
            · have ht := ht.trans (if_pos c38)
              refine z_aload_n O zd_L_isSent_171 rfl 0 rfl ?_
              refine z_callri O hl0 (st := []) 0 5 (fs := zo0 w σ) rfl rfl (c_X_timerEnd l w σ) zl_L_62 zm533 zm534 rfl rfl (Nat.le_of_ble_eq_true rfl) (Nat.le_of_ble_eq_true rfl) (Nat.le_of_ble_eq_true rfl) zd_L_isSent_172 (fun r39 e40 => ?_)
              have ht := ht.trans (zlet_e e40)
              refine z_if_lt O (tgt := 182) zd_L_isSent_175 (by decide) (fun c41 => ?_) (fun c41 => ?_)
              · have ht := ht.trans (if_pos c41)
                refine z_iconst O (v := 0) zd_L_isSent_182 (by decide) ?_
                refine z_istore O (lv' := [(11, .int 0), (0, .ref (zq w 0)), (1, .int x1), (2, .int x2), (3, .int x3), (4, .int x4), (5, .int x5), (6, .int x6), (7, .int x7), (8, .int x8), (9, .int x9), (10, .int x10)]) zd_L_isSent_183 (Nat.le_of_ble_eq_true rfl) rfl ?_
                refine z_sub (lv' := [(0, .ref (zq w 0)), (4, .int x4), (6, .int x6), (7, .int x7), (8, .int x8), (9, .int x9), (10, .int x10), (11, .int 0)]) [1, 5, 7, 8, 9, 10, 11, 0] rfl ?_
                exact kk 0 ht.symm
              · have ht := ht.trans (if_neg c41)
                refine z_iconst O (v := 1) zd_L_isSent_178 (by decide) ?_
                refine z_goto O (tgt := 183) zd_L_isSent_179 (by decide) ?_
                refine z_istore O (lv' := [(11, .int 1), (0, .ref (zq w 0)), (1, .int x1), (2, .int x2), (3, .int x3), (4, .int x4), (5, .int x5), (6, .int x6), (7, .int x7), (8, .int x8), (9, .int x9), (10, .int x10)]) zd_L_isSent_183 (Nat.le_of_ble_eq_true rfl) rfl ?_
                refine z_sub (lv' := [(0, .ref (zq w 0)), (4, .int x4), (6, .int x6), (7, .int x7), (8, .int x8), (9, .int x9), (10, .int x10), (11, .int 1)]) [1, 5, 7, 8, 9, 10, 11, 0] rfl ?_
                exact kk 1 ht.symm
          · have ht := ht.trans (if_neg c37)
            refine z_iconst O (v := 1) zd_L_isSent_162 (by decide) ?_
            refine z_goto O (tgt := 167) zd_L_isSent_163 (by decide) ?_
            refine z_iadd O zd_L_isSent_167 ?_
            refine z_icmp_ne O (tgt := 182) zd_L_isSent_168 (by decide) (fun c42 => ?_) (fun c42 => ?_)
            · have ht := ht.trans (if_neg c42)
              refine z_iconst O (v := 0) zd_L_isSent_182 (by decide) ?_
              refine z_istore O (lv' := [(11, .int 0), (0, .ref (zq w 0)), (1, .int x1), (2, .int x2), (3, .int x3), (4, .int x4), (5, .int x5), (6, .int x6), (7, .int x7), (8, .int x8), (9, .int x9), (10, .int x10)]) zd_L_isSent_183 (Nat.le_of_ble_eq_true rfl) rfl ?_
              refine z_sub (lv' := [(0, .ref (zq w 0)), (4, .int x4), (6, .int x6), (7, .int x7), (8, .int x8), (9, .int x9), (10, .int x10), (11, .int 0)]) [1, 5, 7, 8, 9, 10, 11, 0] rfl ?_
              exact kk 0 ht.symm
            · have ht := ht.trans (if_pos c42)
              refine z_aload_n O zd_L_isSent_171 rfl 0 rfl ?_
              refine z_callri O hl0 (st := []) 0 5 (fs := zo0 w σ) rfl rfl (c_X_timerEnd l w σ) zl_L_62 zm533 zm534 rfl rfl (Nat.le_of_ble_eq_true rfl) (Nat.le_of_ble_eq_true rfl) (Nat.le_of_ble_eq_true rfl) zd_L_isSent_172 (fun r43 e44 => ?_)
              have ht := ht.trans (zlet_e e44)
              refine z_if_lt O (tgt := 182) zd_L_isSent_175 (by decide) (fun c45 => ?_) (fun c45 => ?_)
              · have ht := ht.trans (if_pos c45)
                refine z_iconst O (v := 0) zd_L_isSent_182 (by decide) ?_
                refine z_istore O (lv' := [(11, .int 0), (0, .ref (zq w 0)), (1, .int x1), (2, .int x2), (3, .int x3), (4, .int x4), (5, .int x5), (6, .int x6), (7, .int x7), (8, .int x8), (9, .int x9), (10, .int x10)]) zd_L_isSent_183 (Nat.le_of_ble_eq_true rfl) rfl ?_
                refine z_sub (lv' := [(0, .ref (zq w 0)), (4, .int x4), (6, .int x6), (7, .int x7), (8, .int x8), (9, .int x9), (10, .int x10), (11, .int 0)]) [1, 5, 7, 8, 9, 10, 11, 0] rfl ?_
                exact kk 0 ht.symm
              · have ht := ht.trans (if_neg c45)
                refine z_iconst O (v := 1) zd_L_isSent_178 (by decide) ?_
                refine z_goto O (tgt := 183) zd_L_isSent_179 (by decide) ?_
                refine z_istore O (lv' := [(11, .int 1), (0, .ref (zq w 0)), (1, .int x1), (2, .int x2), (3, .int x3), (4, .int x4), (5, .int x5), (6, .int x6), (7, .int x7), (8, .int x8), (9, .int x9), (10, .int x10)]) zd_L_isSent_183 (Nat.le_of_ble_eq_true rfl) rfl ?_
                refine z_sub (lv' := [(0, .ref (zq w 0)), (4, .int x4), (6, .int x6), (7, .int x7), (8, .int x8), (9, .int x9), (10, .int x10), (11, .int 1)]) [1, 5, 7, 8, 9, 10, 11, 0] rfl ?_
                exact kk 1 ht.symm
set_option maxHeartbeats 4000000 in
set_option maxRecDepth 100000 in
theorem c_L_isSent (l : Launch) (w : zWd) (σ : zSt) (ko : k_L_isSent σ) : zMi l ({ cls := "SluiceStreamLaw", name := "isSent", desc := "(LSluiceStream;)Z" } : Jvm.MethodName) method_4_code 12 6 133 .boolean w [.ref (zq w 0)] σ (fun r u => (r, u) = (f_L_isSent σ)) := by
  refine zMi_of (by decide +kernel) (Nat.le_of_ble_eq_true rfl) ?_
  intro K O hl0 E
  have ht : (f_L_isSent σ) = (f_L_isSent σ) := rfl
  refine z_sub (lv' := [(0, .ref (zq w 0))]) [0] rfl ?_
  refine z_aload_n O zd_L_isSent_0 rfl 0 rfl ?_
  refine z_callri O hl0 (st := []) 0 5 (fs := zo0 w σ) rfl rfl (c_X_sent l w σ) zl_L_53 zm521 zm522 rfl rfl (Nat.le_of_ble_eq_true rfl) (Nat.le_of_ble_eq_true rfl) (Nat.le_of_ble_eq_true rfl) zd_L_isSent_1 (fun r1 e2 => ?_)
  have ht := ht.trans (zlet_e e2)
  have ko := ko r1 e2
  refine z_istore_n O (lv' := [(1, .int r1), (0, .ref (zq w 0))]) zd_L_isSent_4 rfl (Nat.le_of_ble_eq_true rfl) rfl ?_
  refine z_aload_n O zd_L_isSent_5 rfl 1 rfl ?_
  refine z_callri O hl0 (st := []) 0 5 (fs := zo0 w σ) rfl rfl (c_X_sentAgain l w σ) zl_L_50 zm517 zm518 rfl rfl (Nat.le_of_ble_eq_true rfl) (Nat.le_of_ble_eq_true rfl) (Nat.le_of_ble_eq_true rfl) zd_L_isSent_6 (fun r3 e4 => ?_)
  have ht := ht.trans (zlet_e e4)
  have ko := ko r3 e4
  refine z_istore_n O (lv' := [(2, .int r3), (1, .int r1), (0, .ref (zq w 0))]) zd_L_isSent_9 rfl (Nat.le_of_ble_eq_true rfl) rfl ?_
  refine z_aload_n O zd_L_isSent_10 rfl 2 rfl ?_
  refine z_callri O hl0 (st := []) 0 5 (fs := zo0 w σ) rfl rfl (c_X_segments l w σ) zl_L_97 zm440 zm441 rfl rfl (Nat.le_of_ble_eq_true rfl) (Nat.le_of_ble_eq_true rfl) (Nat.le_of_ble_eq_true rfl) zd_L_isSent_11 (fun r5 e6 => ?_)
  have ht := ht.trans (zlet_e e6)
  have ko := ko r5 e6
  refine z_istore_n O (lv' := [(3, .int r5), (2, .int r3), (1, .int r1), (0, .ref (zq w 0))]) zd_L_isSent_14 rfl (Nat.le_of_ble_eq_true rfl) rfl ?_
  refine z_aload_n O zd_L_isSent_15 rfl 3 rfl ?_
  refine z_callri O hl0 (st := []) 0 5 (fs := zo0 w σ) rfl rfl (c_X_next l w σ) zl_L_13 zm479 zm480 rfl rfl (Nat.le_of_ble_eq_true rfl) (Nat.le_of_ble_eq_true rfl) (Nat.le_of_ble_eq_true rfl) zd_L_isSent_16 (fun r7 e8 => ?_)
  have ht := ht.trans (zlet_e e8)
  have ko := ko r7 e8
  refine z_istore O (lv' := [(4, .int r7), (3, .int r5), (2, .int r3), (1, .int r1), (0, .ref (zq w 0))]) zd_L_isSent_19 (Nat.le_of_ble_eq_true rfl) rfl ?_
  refine z_aload_n O zd_L_isSent_21 rfl 4 rfl ?_
  refine z_callri O hl0 (st := []) 0 5 (fs := zo0 w σ) rfl rfl (c_X_highest l w σ) zl_L_22 zm483 zm484 rfl rfl (Nat.le_of_ble_eq_true rfl) (Nat.le_of_ble_eq_true rfl) (Nat.le_of_ble_eq_true rfl) zd_L_isSent_22 (fun r9 e10 => ?_)
  have ht := ht.trans (zlet_e e10)
  have ko := ko r9 e10
  refine z_istore O (lv' := [(5, .int r9), (4, .int r7), (3, .int r5), (2, .int r3), (1, .int r1), (0, .ref (zq w 0))]) zd_L_isSent_25 (Nat.le_of_ble_eq_true rfl) rfl ?_
  refine z_aload_n O zd_L_isSent_27 rfl 5 rfl ?_
  refine z_callri O hl0 (st := []) 0 5 (fs := zo0 w σ) rfl rfl (c_X_congestionWindow l w σ) zl_L_38 zm501 zm502 rfl rfl (Nat.le_of_ble_eq_true rfl) (Nat.le_of_ble_eq_true rfl) (Nat.le_of_ble_eq_true rfl) zd_L_isSent_28 (fun r11 e12 => ?_)
  have ht := ht.trans (zlet_e e12)
  have ko := ko r11 e12
  refine z_istore O (lv' := [(6, .int r11), (5, .int r9), (4, .int r7), (3, .int r5), (2, .int r3), (1, .int r1), (0, .ref (zq w 0))]) zd_L_isSent_31 (Nat.le_of_ble_eq_true rfl) rfl ?_
  refine z_aload_n O zd_L_isSent_33 rfl 6 rfl ?_
  refine z_callri O hl0 (st := []) 0 5 (fs := zo0 w σ) rfl rfl (c_X_inFlight l w σ ko.1) zl_L_35 zm496 zm497 rfl rfl (Nat.le_of_ble_eq_true rfl) (Nat.le_of_ble_eq_true rfl) (Nat.le_of_ble_eq_true rfl) zd_L_isSent_34 (fun r13 e14 => ?_)
  have ht := ht.trans (zlet_e e14)
  have ko := ko.2 r13 e14
  refine z_istore O (lv' := [(7, .int r13), (6, .int r11), (5, .int r9), (4, .int r7), (3, .int r5), (2, .int r3), (1, .int r1), (0, .ref (zq w 0))]) zd_L_isSent_37 (Nat.le_of_ble_eq_true rfl) rfl ?_
  refine z_sub (lv' := [(0, .ref (zq w 0)), (1, .int r1), (2, .int r3), (3, .int r5), (4, .int r7), (5, .int r9), (6, .int r11), (7, .int r13)]) [7, 6, 5, 4, 3, 2, 1, 0] rfl ?_
  refine S_L_isSent_39 O hl0 σ r1 r3 r5 r7 r9 r11 r13 (fun r18 er18 => ?_)
  have ht := ht.trans (zlet_e er18)
  have ko := ko r18 er18
  refine z_aload_n O zd_L_isSent_53 rfl 0 rfl ?_
  refine z_calli O hl0 (st := []) 0 5 (fs := zo0 w σ) rfl rfl (c_X_send l w σ ko.1) zl_L_106 zm585 zm586 rfl rfl (Nat.le_of_ble_eq_true rfl) (Nat.le_of_ble_eq_true rfl) (Nat.le_of_ble_eq_true rfl) zd_L_isSent_54 (fun r19 u20 e21 => ?_)
  have ht := ht.trans (zseq_e e21)
  have ko := ko.2 r19 u20 e21
  refine z_istore O (lv' := [(9, .int r19), (0, .ref (zq w 0)), (1, .int r1), (2, .int r3), (3, .int r5), (4, .int r7), (5, .int r9), (6, .int r11), (7, .int r13), (8, .int r18)]) zd_L_isSent_57 (Nat.le_of_ble_eq_true rfl) rfl ?_
  refine z_iload O zd_L_isSent_59 0 rfl ?_
  refine z_if_ne O (tgt := 104) zd_L_isSent_61 (by decide) (fun c22 => ?_) (fun c22 => ?_)
  · have ht := ht.trans (if_neg c22)
    have ko := ko.2 c22
    refine z_aload_n O zd_L_isSent_104 rfl 1 rfl ?_
    refine z_iload_n O zd_L_isSent_105 rfl 4 rfl ?_
    refine z_callri O hl0 (st := []) 0 5 (fs := zo0 w u20) rfl rfl (c_X_startOf l w u20 r5 ko.1) zl_L_100 zm578 zm579 rfl rfl (Nat.le_of_ble_eq_true rfl) (Nat.le_of_ble_eq_true rfl) (Nat.le_of_ble_eq_true rfl) zd_L_isSent_106 (fun r23 e24 => ?_)
    have ht := ht.trans (zlet_e e24)
    have ko := ko.2 r23 e24
    refine z_istore O (lv' := [(10, .int r23), (9, .int r19), (0, .ref (zq w 0)), (1, .int r1), (2, .int r3), (3, .int r5), (4, .int r7), (5, .int r9), (6, .int r11), (7, .int r13), (8, .int r18)]) zd_L_isSent_109 (Nat.le_of_ble_eq_true rfl) rfl ?_
    refine z_sub (lv' := [(0, .ref (zq w 0)), (1, .int r1), (2, .int r3), (3, .int r5), (4, .int r7), (5, .int r9), (6, .int r11), (7, .int r13), (8, .int r18), (9, .int r19), (10, .int r23)]) [2, 3, 4, 5, 6, 7, 8, 9, 10, 1, 0] rfl ?_
    refine S_L_isSent_111 O hl0 u20 r1 r3 r5 r7 r9 r11 r13 r18 r19 r23 ko.1 (fun r46 er46 => ?_)
    have ht := ht.trans (zlet_e er46)
    have ko := ko.2 r46 er46
    refine z_iload O zd_L_isSent_185 7 rfl ?_
    refine z_if_eq O (tgt := 252) zd_L_isSent_187 (by decide) (fun c47 => ?_) (fun c47 => ?_)
    · have ht := ht.trans (if_pos c47)
      refine z_iconst O (v := 0) zd_L_isSent_252 (by decide) ?_
      exact E _ _ _ _ zd_L_isSent_253 rfl ht.symm
    · have ht := ht.trans (if_neg c47)
      have ko := ko c47
      refine z_iload O zd_L_isSent_190 4 rfl ?_
      refine z_if_eq O (tgt := 202) zd_L_isSent_192 (by decide) (fun c48 => ?_) (fun c48 => ?_)
      · have ht := ht.trans (if_pos c48)
        have ko := ko.1 c48
        refine z_iload O zd_L_isSent_202 6 rfl ?_
        refine z_iload O zd_L_isSent_204 1 rfl ?_
        refine z_icmp_lt O (tgt := 252) zd_L_isSent_206 (by decide) (fun c49 => ?_) (fun c49 => ?_)
        · have ht := ht.trans (if_pos c49)
          refine z_iconst O (v := 0) zd_L_isSent_252 (by decide) ?_
          exact E _ _ _ _ zd_L_isSent_253 rfl ht.symm
        · have ht := ht.trans (if_neg c49)
          have ko := ko c49
          refine z_aload_n O zd_L_isSent_209 rfl 0 rfl ?_
          refine z_callri O hl0 (st := []) 0 5 (fs := zo0 w u20) rfl rfl (c_X_next l w u20) zl_L_13 zm479 zm480 rfl rfl (Nat.le_of_ble_eq_true rfl) (Nat.le_of_ble_eq_true rfl) (Nat.le_of_ble_eq_true rfl) zd_L_isSent_210 (fun r50 e51 => ?_)
          have ht := ht.trans (zlet_e e51)
          have ko := ko r50 e51
          refine z_iload O zd_L_isSent_213 6 rfl ?_
          refine z_iload O zd_L_isSent_215 5 rfl ?_
          refine z_iadd O zd_L_isSent_217 ?_
          refine z_icmp_ne O (tgt := 252) zd_L_isSent_218 (by decide) (fun c52 => ?_) (fun c52 => ?_)
          · have ht := ht.trans (if_neg c52)
            refine z_iconst O (v := 0) zd_L_isSent_252 (by decide) ?_
            exact E _ _ _ _ zd_L_isSent_253 rfl ht.symm
          · have ht := ht.trans (if_pos c52)
            have ko := ko c52
            refine z_aload_n O zd_L_isSent_221 rfl 0 rfl ?_
            refine z_callri O hl0 (st := []) 0 5 (fs := zo0 w u20) rfl rfl (c_X_inFlight l w u20 ko) zl_L_35 zm496 zm497 rfl rfl (Nat.le_of_ble_eq_true rfl) (Nat.le_of_ble_eq_true rfl) (Nat.le_of_ble_eq_true rfl) zd_L_isSent_222 (fun r53 e54 => ?_)
            have ht := ht.trans (zlet_e e54)
            refine z_iload O zd_L_isSent_225 3 rfl ?_
            refine z_iload O zd_L_isSent_227 5 rfl ?_
            refine z_iadd O zd_L_isSent_229 ?_
            refine z_icmp_ne O (tgt := 252) zd_L_isSent_230 (by decide) (fun c55 => ?_) (fun c55 => ?_)
            · have ht := ht.trans (if_neg c55)
              refine z_iconst O (v := 0) zd_L_isSent_252 (by decide) ?_
              exact E _ _ _ _ zd_L_isSent_253 rfl ht.symm
            · have ht := ht.trans (if_pos c55)
              refine z_iload O zd_L_isSent_233 3 rfl ?_
              refine z_if_eq O (tgt := 248) zd_L_isSent_235 (by decide) (fun c56 => ?_) (fun c56 => ?_)
              · have ht := ht.trans (if_pos c56)
                refine z_iconst O (v := 1) zd_L_isSent_248 (by decide) ?_
                refine z_goto O (tgt := 253) zd_L_isSent_249 (by decide) ?_
                exact E _ _ _ _ zd_L_isSent_253 rfl ht.symm
              · have ht := ht.trans (if_neg c56)
                refine z_iload O zd_L_isSent_238 3 rfl ?_
                refine z_iload O zd_L_isSent_240 5 rfl ?_
                refine z_iadd O zd_L_isSent_242 ?_
                refine z_iload O zd_L_isSent_243 2 rfl ?_
                refine z_icmp_gt O (tgt := 252) zd_L_isSent_245 (by decide) (fun c57 => ?_) (fun c57 => ?_)
                · have ht := ht.trans (if_pos c57)
                  refine z_iconst O (v := 0) zd_L_isSent_252 (by decide) ?_
                  exact E _ _ _ _ zd_L_isSent_253 rfl ht.symm
                · have ht := ht.trans (if_neg c57)
                  refine z_iconst O (v := 1) zd_L_isSent_248 (by decide) ?_
                  refine z_goto O (tgt := 253) zd_L_isSent_249 (by decide) ?_
                  exact E _ _ _ _ zd_L_isSent_253 rfl ht.symm
      · have ht := ht.trans (if_neg c48)
        have ko := ko.2 c48
        refine z_iload O zd_L_isSent_195 6 rfl ?_
        refine z_iload O zd_L_isSent_197 1 rfl ?_
        refine z_icmp_lt O (tgt := 248) zd_L_isSent_199 (by decide) (fun c58 => ?_) (fun c58 => ?_)
        · have ht := ht.trans (if_pos c58)
          refine z_iconst O (v := 1) zd_L_isSent_248 (by decide) ?_
          refine z_goto O (tgt := 253) zd_L_isSent_249 (by decide) ?_
          exact E _ _ _ _ zd_L_isSent_253 rfl ht.symm
        · have ht := ht.trans (if_neg c58)
          have ko := ko c58
          refine z_iload O zd_L_isSent_202 6 rfl ?_
          refine z_iload O zd_L_isSent_204 1 rfl ?_
          refine z_icmp_lt O (tgt := 252) zd_L_isSent_206 (by decide) (fun c59 => ?_) (fun c59 => ?_)
          · have ht := ht.trans (if_pos c59)
            refine z_iconst O (v := 0) zd_L_isSent_252 (by decide) ?_
            exact E _ _ _ _ zd_L_isSent_253 rfl ht.symm
          · have ht := ht.trans (if_neg c59)
            have ko := ko c59
            refine z_aload_n O zd_L_isSent_209 rfl 0 rfl ?_
            refine z_callri O hl0 (st := []) 0 5 (fs := zo0 w u20) rfl rfl (c_X_next l w u20) zl_L_13 zm479 zm480 rfl rfl (Nat.le_of_ble_eq_true rfl) (Nat.le_of_ble_eq_true rfl) (Nat.le_of_ble_eq_true rfl) zd_L_isSent_210 (fun r60 e61 => ?_)
            have ht := ht.trans (zlet_e e61)
            have ko := ko r60 e61
            refine z_iload O zd_L_isSent_213 6 rfl ?_
            refine z_iload O zd_L_isSent_215 5 rfl ?_
            refine z_iadd O zd_L_isSent_217 ?_
            refine z_icmp_ne O (tgt := 252) zd_L_isSent_218 (by decide) (fun c62 => ?_) (fun c62 => ?_)
            · have ht := ht.trans (if_neg c62)
              refine z_iconst O (v := 0) zd_L_isSent_252 (by decide) ?_
              exact E _ _ _ _ zd_L_isSent_253 rfl ht.symm
            · have ht := ht.trans (if_pos c62)
              have ko := ko c62
              refine z_aload_n O zd_L_isSent_221 rfl 0 rfl ?_
              refine z_callri O hl0 (st := []) 0 5 (fs := zo0 w u20) rfl rfl (c_X_inFlight l w u20 ko) zl_L_35 zm496 zm497 rfl rfl (Nat.le_of_ble_eq_true rfl) (Nat.le_of_ble_eq_true rfl) (Nat.le_of_ble_eq_true rfl) zd_L_isSent_222 (fun r63 e64 => ?_)
              have ht := ht.trans (zlet_e e64)
              refine z_iload O zd_L_isSent_225 3 rfl ?_
              refine z_iload O zd_L_isSent_227 5 rfl ?_
              refine z_iadd O zd_L_isSent_229 ?_
              refine z_icmp_ne O (tgt := 252) zd_L_isSent_230 (by decide) (fun c65 => ?_) (fun c65 => ?_)
              · have ht := ht.trans (if_neg c65)
                refine z_iconst O (v := 0) zd_L_isSent_252 (by decide) ?_
                exact E _ _ _ _ zd_L_isSent_253 rfl ht.symm
              · have ht := ht.trans (if_pos c65)
                refine z_iload O zd_L_isSent_233 3 rfl ?_
                refine z_if_eq O (tgt := 248) zd_L_isSent_235 (by decide) (fun c66 => ?_) (fun c66 => ?_)
                · have ht := ht.trans (if_pos c66)
                  refine z_iconst O (v := 1) zd_L_isSent_248 (by decide) ?_
                  refine z_goto O (tgt := 253) zd_L_isSent_249 (by decide) ?_
                  exact E _ _ _ _ zd_L_isSent_253 rfl ht.symm
                · have ht := ht.trans (if_neg c66)
                  refine z_iload O zd_L_isSent_238 3 rfl ?_
                  refine z_iload O zd_L_isSent_240 5 rfl ?_
                  refine z_iadd O zd_L_isSent_242 ?_
                  refine z_iload O zd_L_isSent_243 2 rfl ?_
                  refine z_icmp_gt O (tgt := 252) zd_L_isSent_245 (by decide) (fun c67 => ?_) (fun c67 => ?_)
                  · have ht := ht.trans (if_pos c67)
                    refine z_iconst O (v := 0) zd_L_isSent_252 (by decide) ?_
                    exact E _ _ _ _ zd_L_isSent_253 rfl ht.symm
                  · have ht := ht.trans (if_neg c67)
                    refine z_iconst O (v := 1) zd_L_isSent_248 (by decide) ?_
                    refine z_goto O (tgt := 253) zd_L_isSent_249 (by decide) ?_
                    exact E _ _ _ _ zd_L_isSent_253 rfl ht.symm
  · have ht := ht.trans (if_pos c22)
    have ko := ko.1 c22
    refine z_aload_n O zd_L_isSent_64 rfl 1 rfl ?_
    refine z_callri O hl0 (st := []) 0 5 (fs := zo0 w u20) rfl rfl (c_X_sent l w u20) zl_L_53 zm521 zm522 rfl rfl (Nat.le_of_ble_eq_true rfl) (Nat.le_of_ble_eq_true rfl) (Nat.le_of_ble_eq_true rfl) zd_L_isSent_65 (fun r68 e69 => ?_)
    have ht := ht.trans (zlet_e e69)
    have ko := ko r68 e69
    refine z_iload_n O zd_L_isSent_68 rfl 2 rfl ?_
    refine z_icmp_ne O (tgt := 102) zd_L_isSent_69 (by decide) (fun c70 => ?_) (fun c70 => ?_)
    · have ht := ht.trans (if_neg c70)
      refine z_iconst O (v := 0) zd_L_isSent_102 (by decide) ?_
      exact E _ _ _ _ zd_L_isSent_103 rfl ht.symm
    · have ht := ht.trans (if_pos c70)
      have ko := ko c70
      refine z_aload_n O zd_L_isSent_72 rfl 1 rfl ?_
      refine z_callri O hl0 (st := []) 0 5 (fs := zo0 w u20) rfl rfl (c_X_segments l w u20) zl_L_97 zm440 zm441 rfl rfl (Nat.le_of_ble_eq_true rfl) (Nat.le_of_ble_eq_true rfl) (Nat.le_of_ble_eq_true rfl) zd_L_isSent_73 (fun r71 e72 => ?_)
      have ht := ht.trans (zlet_e e72)
      have ko := ko r71 e72
      refine z_iload_n O zd_L_isSent_76 rfl 4 rfl ?_
      refine z_icmp_ne O (tgt := 102) zd_L_isSent_77 (by decide) (fun c73 => ?_) (fun c73 => ?_)
      · have ht := ht.trans (if_neg c73)
        refine z_iconst O (v := 0) zd_L_isSent_102 (by decide) ?_
        exact E _ _ _ _ zd_L_isSent_103 rfl ht.symm
      · have ht := ht.trans (if_pos c73)
        have ko := ko c73
        refine z_aload_n O zd_L_isSent_80 rfl 1 rfl ?_
        refine z_callri O hl0 (st := []) 0 5 (fs := zo0 w u20) rfl rfl (c_X_next l w u20) zl_L_13 zm479 zm480 rfl rfl (Nat.le_of_ble_eq_true rfl) (Nat.le_of_ble_eq_true rfl) (Nat.le_of_ble_eq_true rfl) zd_L_isSent_81 (fun r74 e75 => ?_)
        have ht := ht.trans (zlet_e e75)
        have ko := ko r74 e75
        refine z_iload O zd_L_isSent_84 5 rfl ?_
        refine z_icmp_lt O (tgt := 102) zd_L_isSent_86 (by decide) (fun c76 => ?_) (fun c76 => ?_)
        · have ht := ht.trans (if_pos c76)
          refine z_iconst O (v := 0) zd_L_isSent_102 (by decide) ?_
          exact E _ _ _ _ zd_L_isSent_103 rfl ht.symm
        · have ht := ht.trans (if_neg c76)
          have ko := ko c76
          refine z_aload_n O zd_L_isSent_89 rfl 1 rfl ?_
          refine z_callri O hl0 (st := []) 0 5 (fs := zo0 w u20) rfl rfl (c_X_inFlight l w u20 ko) zl_L_35 zm496 zm497 rfl rfl (Nat.le_of_ble_eq_true rfl) (Nat.le_of_ble_eq_true rfl) (Nat.le_of_ble_eq_true rfl) zd_L_isSent_90 (fun r77 e78 => ?_)
          have ht := ht.trans (zlet_e e78)
          refine z_iload O zd_L_isSent_93 8 rfl ?_
          refine z_icmp_ne O (tgt := 102) zd_L_isSent_95 (by decide) (fun c79 => ?_) (fun c79 => ?_)
          · have ht := ht.trans (if_neg c79)
            refine z_iconst O (v := 0) zd_L_isSent_102 (by decide) ?_
            exact E _ _ _ _ zd_L_isSent_103 rfl ht.symm
          · have ht := ht.trans (if_pos c79)
            refine z_iconst O (v := 1) zd_L_isSent_98 (by decide) ?_
            refine z_goto O (tgt := 103) zd_L_isSent_99 (by decide) ?_
            exact E _ _ _ _ zd_L_isSent_103 rfl ht.symm
set_option maxHeartbeats 4000000 in
set_option maxRecDepth 100000 in
theorem S_L_isAnswered_38 {K : zCx} {w : zWd} {l : Launch} (O : zOk K w method_5_code "SluiceStreamLaw" 11 7 153) (hl0 : kl K = l) (σ : zSt) (x1 : Int32) (x2 : Int32) (x3 : Int32) (x4 : Int32) (x5 : Int32) (x6 : Int32) (x7 : Int32) (kk : ∀ r, r = s_L_isAnswered_38 σ x1 x2 x3 x4 x5 x6 x7 → Z K w σ [(0, .ref (zq w 0)), (1, .int x1), (2, .int x2), (3, .int x3), (4, .int x4), (5, .int x5), (6, .int x6), (7, .int x7), (8, .int r)] [] 52) : Z K w σ [(0, .ref (zq w 0)), (1, .int x1), (2, .int x2), (3, .int x3), (4, .int x4), (5, .int x5), (6, .int x6), (7, .int x7)] [] 38 := by
  have ht : s_L_isAnswered_38 σ x1 x2 x3 x4 x5 x6 x7 = s_L_isAnswered_38 σ x1 x2 x3 x4 x5 x6 x7 := rfl
  refine z_aload_n O zd_L_isAnswered_38 rfl 0 rfl ?_
  refine z_callri O hl0 (st := []) 0 5 (fs := zo0 w σ) rfl rfl (c_X_recoveryEnd l w σ) zl_L_56 zm525 zm526 rfl rfl (Nat.le_of_ble_eq_true rfl) (Nat.le_of_ble_eq_true rfl) (Nat.le_of_ble_eq_true rfl) zd_L_isAnswered_39 (fun r13 e14 => ?_)
  have ht := ht.trans (zlet_e e14)
  refine z_if_lt O (tgt := 49) zd_L_isAnswered_42 (by decide) (fun c15 => ?_) (fun c15 => ?_)
  · have ht := ht.trans (if_pos c15)
    refine z_iconst O (v := 0) zd_L_isAnswered_49 (by decide) ?_
    refine z_istore O (lv' := [(8, .int 0), (0, .ref (zq w 0)), (1, .int x1), (2, .int x2), (3, .int x3), (4, .int x4), (5, .int x5), (6, .int x6), (7, .int x7)]) zd_L_isAnswered_50 (Nat.le_of_ble_eq_true rfl) rfl ?_
    refine z_sub (lv' := [(0, .ref (zq w 0)), (1, .int x1), (2, .int x2), (3, .int x3), (4, .int x4), (5, .int x5), (6, .int x6), (7, .int x7), (8, .int 0)]) [1, 2, 3, 4, 5, 6, 7, 8, 0] rfl ?_
    exact kk 0 ht.symm
  · have ht := ht.trans (if_neg c15)
    refine z_iconst O (v := 1) zd_L_isAnswered_45 (by decide) ?_
    refine z_goto O (tgt := 50) zd_L_isAnswered_46 (by decide) ?_
    refine z_istore O (lv' := [(8, .int 1), (0, .ref (zq w 0)), (1, .int x1), (2, .int x2), (3, .int x3), (4, .int x4), (5, .int x5), (6, .int x6), (7, .int x7)]) zd_L_isAnswered_50 (Nat.le_of_ble_eq_true rfl) rfl ?_
    refine z_sub (lv' := [(0, .ref (zq w 0)), (1, .int x1), (2, .int x2), (3, .int x3), (4, .int x4), (5, .int x5), (6, .int x6), (7, .int x7), (8, .int 1)]) [1, 2, 3, 4, 5, 6, 7, 8, 0] rfl ?_
    exact kk 1 ht.symm
set_option maxHeartbeats 4000000 in
set_option maxRecDepth 100000 in
theorem S_L_isAnswered_102 {K : zCx} {w : zWd} {l : Launch} (O : zOk K w method_5_code "SluiceStreamLaw" 11 7 153) (hl0 : kl K = l) (σ : zSt) (x2 : Int32) (x3 : Int32) (x4 : Int32) (x5 : Int32) (x6 : Int32) (x7 : Int32) (x8 : Int32) (x9 : Int32) (kk : ∀ r, r = s_L_isAnswered_102 σ x2 x3 x4 x5 x6 x7 x8 x9 → Z K w σ [(0, .ref (zq w 0)), (6, .int x6), (7, .int x7), (8, .int x8), (9, .int x9), (10, .int r)] [] 146) : Z K w σ [(0, .ref (zq w 0)), (2, .int x2), (3, .int x3), (4, .int x4), (5, .int x5), (6, .int x6), (7, .int x7), (8, .int x8), (9, .int x9)] [] 102 := by
  have ht : s_L_isAnswered_102 σ x2 x3 x4 x5 x6 x7 x8 x9 = s_L_isAnswered_102 σ x2 x3 x4 x5 x6 x7 x8 x9 := rfl
  refine z_iload O zd_L_isAnswered_102 8 rfl ?_
  refine z_iload_n O zd_L_isAnswered_104 rfl 2 rfl ?_
  refine z_iload_n O zd_L_isAnswered_105 rfl 1 rfl ?_
  refine z_isub O zd_L_isAnswered_106 ?_
  refine z_icmp_ne O (tgt := 143) zd_L_isAnswered_107 (by decide) (fun c21 => ?_) (fun c21 => ?_)
  · have ht := ht.trans (if_neg c21)
    refine z_iconst O (v := 0) zd_L_isAnswered_143 (by decide) ?_
    refine z_istore O (lv' := [(10, .int 0), (0, .ref (zq w 0)), (2, .int x2), (3, .int x3), (4, .int x4), (5, .int x5), (6, .int x6), (7, .int x7), (8, .int x8), (9, .int x9)]) zd_L_isAnswered_144 (Nat.le_of_ble_eq_true rfl) rfl ?_
    refine z_sub (lv' := [(0, .ref (zq w 0)), (6, .int x6), (7, .int x7), (8, .int x8), (9, .int x9), (10, .int 0)]) [1, 6, 7, 8, 9, 0] rfl ?_
    exact kk 0 ht.symm
  · have ht := ht.trans (if_pos c21)
    refine z_aload_n O zd_L_isAnswered_110 rfl 0 rfl ?_
    refine z_callri O hl0 (st := []) 0 5 (fs := zo0 w σ) rfl rfl (c_X_acknowledged l w σ) zl_L_7 zm475 zm476 rfl rfl (Nat.le_of_ble_eq_true rfl) (Nat.le_of_ble_eq_true rfl) (Nat.le_of_ble_eq_true rfl) zd_L_isAnswered_111 (fun r22 e23 => ?_)
    have ht := ht.trans (zlet_e e23)
    refine z_iload_n O zd_L_isAnswered_114 rfl 2 rfl ?_
    refine z_icmp_ne O (tgt := 143) zd_L_isAnswered_115 (by decide) (fun c24 => ?_) (fun c24 => ?_)
    · have ht := ht.trans (if_neg c24)
      refine z_iconst O (v := 0) zd_L_isAnswered_143 (by decide) ?_
      refine z_istore O (lv' := [(10, .int 0), (0, .ref (zq w 0)), (2, .int x2), (3, .int x3), (4, .int x4), (5, .int x5), (6, .int x6), (7, .int x7), (8, .int x8), (9, .int x9)]) zd_L_isAnswered_144 (Nat.le_of_ble_eq_true rfl) rfl ?_
      refine z_sub (lv' := [(0, .ref (zq w 0)), (6, .int x6), (7, .int x7), (8, .int x8), (9, .int x9), (10, .int 0)]) [1, 6, 7, 8, 9, 0] rfl ?_
      exact kk 0 ht.symm
    · have ht := ht.trans (if_pos c24)
      refine z_aload_n O zd_L_isAnswered_118 rfl 0 rfl ?_
      refine z_callri O hl0 (st := []) 0 5 (fs := zo0 w σ) rfl rfl (c_X_edge l w σ) zl_L_25 zm487 zm488 rfl rfl (Nat.le_of_ble_eq_true rfl) (Nat.le_of_ble_eq_true rfl) (Nat.le_of_ble_eq_true rfl) zd_L_isAnswered_119 (fun r25 e26 => ?_)
      have ht := ht.trans (zlet_e e26)
      refine z_iload O zd_L_isAnswered_122 4 rfl ?_
      refine z_iload O zd_L_isAnswered_124 3 rfl ?_
      refine z_icmp_le O (tgt := 134) zd_L_isAnswered_126 (by decide) (fun c27 => ?_) (fun c27 => ?_)
      · have ht := ht.trans (if_pos c27)
        refine z_iload O zd_L_isAnswered_134 3 rfl ?_
        refine z_icmp_ne O (tgt := 143) zd_L_isAnswered_136 (by decide) (fun c28 => ?_) (fun c28 => ?_)
        · have ht := ht.trans (if_neg c28)
          refine z_iconst O (v := 0) zd_L_isAnswered_143 (by decide) ?_
          refine z_istore O (lv' := [(10, .int 0), (0, .ref (zq w 0)), (2, .int x2), (3, .int x3), (4, .int x4), (5, .int x5), (6, .int x6), (7, .int x7), (8, .int x8), (9, .int x9)]) zd_L_isAnswered_144 (Nat.le_of_ble_eq_true rfl) rfl ?_
          refine z_sub (lv' := [(0, .ref (zq w 0)), (6, .int x6), (7, .int x7), (8, .int x8), (9, .int x9), (10, .int 0)]) [1, 6, 7, 8, 9, 0] rfl ?_
          exact kk 0 ht.symm
        · have ht := ht.trans (if_pos c28)
          refine z_iconst O (v := 1) zd_L_isAnswered_139 (by decide) ?_
          refine z_goto O (tgt := 144) zd_L_isAnswered_140 (by decide) ?_
          refine z_istore O (lv' := [(10, .int 1), (0, .ref (zq w 0)), (2, .int x2), (3, .int x3), (4, .int x4), (5, .int x5), (6, .int x6), (7, .int x7), (8, .int x8), (9, .int x9)]) zd_L_isAnswered_144 (Nat.le_of_ble_eq_true rfl) rfl ?_
          refine z_sub (lv' := [(0, .ref (zq w 0)), (6, .int x6), (7, .int x7), (8, .int x8), (9, .int x9), (10, .int 1)]) [1, 6, 7, 8, 9, 0] rfl ?_
          exact kk 1 ht.symm
      · have ht := ht.trans (if_neg c27)
        refine z_iload O zd_L_isAnswered_129 4 rfl ?_
        refine z_goto O (tgt := 136) zd_L_isAnswered_131 (by decide) ?_
        refine z_icmp_ne O (tgt := 143) zd_L_isAnswered_136 (by decide) (fun c29 => ?_) (fun c29 => ?_)
        · have ht := ht.trans (if_neg c29)
          refine z_iconst O (v := 0) zd_L_isAnswered_143 (by decide) ?_
          refine z_istore O (lv' := [(10, .int 0), (0, .ref (zq w 0)), (2, .int x2), (3, .int x3), (4, .int x4), (5, .int x5), (6, .int x6), (7, .int x7), (8, .int x8), (9, .int x9)]) zd_L_isAnswered_144 (Nat.le_of_ble_eq_true rfl) rfl ?_
          refine z_sub (lv' := [(0, .ref (zq w 0)), (6, .int x6), (7, .int x7), (8, .int x8), (9, .int x9), (10, .int 0)]) [1, 6, 7, 8, 9, 0] rfl ?_
          exact kk 0 ht.symm
        · have ht := ht.trans (if_pos c29)
          refine z_iconst O (v := 1) zd_L_isAnswered_139 (by decide) ?_
          refine z_goto O (tgt := 144) zd_L_isAnswered_140 (by decide) ?_
          refine z_istore O (lv' := [(10, .int 1), (0, .ref (zq w 0)), (2, .int x2), (3, .int x3), (4, .int x4), (5, .int x5), (6, .int x6), (7, .int x7), (8, .int x8), (9, .int x9)]) zd_L_isAnswered_144 (Nat.le_of_ble_eq_true rfl) rfl ?_
          refine z_sub (lv' := [(0, .ref (zq w 0)), (6, .int x6), (7, .int x7), (8, .int x8), (9, .int x9), (10, .int 1)]) [1, 6, 7, 8, 9, 0] rfl ?_
          exact kk 1 ht.symm
set_option maxHeartbeats 4000000 in
set_option maxRecDepth 100000 in
theorem c_L_isAnswered (l : Launch) (w : zWd) (σ : zSt) (a2 : Int32) (ko : k_L_isAnswered σ a2) : zMi l ({ cls := "SluiceStreamLaw", name := "isAnswered", desc := "(LSluiceStream;I)Z" } : Jvm.MethodName) method_5_code 11 7 153 .boolean w [.ref (zq w 0), .int a2] σ (fun r u => (r, u) = (f_L_isAnswered σ a2)) := by
  refine zMi_of (by decide +kernel) (Nat.le_of_ble_eq_true rfl) ?_
  intro K O hl0 E
  have ht : (f_L_isAnswered σ a2) = (f_L_isAnswered σ a2) := rfl
  refine z_sub (lv' := [(0, .ref (zq w 0)), (1, .int a2)]) [0, 1] rfl ?_
  refine z_aload_n O zd_L_isAnswered_0 rfl 0 rfl ?_
  refine z_callri O hl0 (st := []) 0 5 (fs := zo0 w σ) rfl rfl (c_X_acknowledged l w σ) zl_L_7 zm475 zm476 rfl rfl (Nat.le_of_ble_eq_true rfl) (Nat.le_of_ble_eq_true rfl) (Nat.le_of_ble_eq_true rfl) zd_L_isAnswered_1 (fun r1 e2 => ?_)
  have ht := ht.trans (zlet_e e2)
  have ko := ko r1 e2
  refine z_istore_n O (lv' := [(2, .int r1), (0, .ref (zq w 0)), (1, .int a2)]) zd_L_isAnswered_4 rfl (Nat.le_of_ble_eq_true rfl) rfl ?_
  refine z_aload_n O zd_L_isAnswered_5 rfl 1 rfl ?_
  refine z_iload_n O zd_L_isAnswered_6 rfl 2 rfl ?_
  refine z_callri O hl0 (st := []) 0 5 (fs := zo0 w σ) rfl rfl (c_X_ackNumber l w σ a2 ko.1) zl_L_84 zm452 zm453 rfl rfl (Nat.le_of_ble_eq_true rfl) (Nat.le_of_ble_eq_true rfl) (Nat.le_of_ble_eq_true rfl) zd_L_isAnswered_7 (fun r3 e4 => ?_)
  have ht := ht.trans (zlet_e e4)
  have ko := ko.2 r3 e4
  refine z_istore_n O (lv' := [(3, .int r3), (2, .int r1), (0, .ref (zq w 0)), (1, .int a2)]) zd_L_isAnswered_10 rfl (Nat.le_of_ble_eq_true rfl) rfl ?_
  refine z_aload_n O zd_L_isAnswered_11 rfl 2 rfl ?_
  refine z_callri O hl0 (st := []) 0 5 (fs := zo0 w σ) rfl rfl (c_X_edge l w σ) zl_L_25 zm487 zm488 rfl rfl (Nat.le_of_ble_eq_true rfl) (Nat.le_of_ble_eq_true rfl) (Nat.le_of_ble_eq_true rfl) zd_L_isAnswered_12 (fun r5 e6 => ?_)
  have ht := ht.trans (zlet_e e6)
  have ko := ko r5 e6
  refine z_istore O (lv' := [(4, .int r5), (3, .int r3), (2, .int r1), (0, .ref (zq w 0)), (1, .int a2)]) zd_L_isAnswered_15 (Nat.le_of_ble_eq_true rfl) rfl ?_
  refine z_iload_n O zd_L_isAnswered_17 rfl 1 rfl ?_
  refine z_aload_n O zd_L_isAnswered_18 rfl 3 rfl ?_
  refine z_iload_n O zd_L_isAnswered_19 rfl 4 rfl ?_
  refine z_callri O hl0 (st := [.int r3]) 0 5 (fs := zo0 w σ) rfl rfl (c_X_ackWindow l w σ a2 ko.1) zl_L_87 zm566 zm567 rfl rfl (Nat.le_of_ble_eq_true rfl) (Nat.le_of_ble_eq_true rfl) (Nat.le_of_ble_eq_true rfl) zd_L_isAnswered_20 (fun r7 e8 => ?_)
  have ht := ht.trans (zlet_e e8)
  have ko := ko.2 r7 e8
  refine z_iadd O zd_L_isAnswered_23 ?_
  refine z_istore O (lv' := [(5, .int (r3 + r7)), (4, .int r5), (3, .int r3), (2, .int r1), (0, .ref (zq w 0)), (1, .int a2)]) zd_L_isAnswered_24 (Nat.le_of_ble_eq_true rfl) rfl ?_
  refine z_aload_n O zd_L_isAnswered_26 rfl 4 rfl ?_
  refine z_callri O hl0 (st := []) 0 5 (fs := zo0 w σ) rfl rfl (c_X_duplicates l w σ) zl_L_47 zm513 zm514 rfl rfl (Nat.le_of_ble_eq_true rfl) (Nat.le_of_ble_eq_true rfl) (Nat.le_of_ble_eq_true rfl) zd_L_isAnswered_27 (fun r9 e10 => ?_)
  have ht := ht.trans (zlet_e e10)
  have ko := ko r9 e10
  refine z_istore O (lv' := [(6, .int r9), (5, .int (r3 + r7)), (4, .int r5), (3, .int r3), (2, .int r1), (0, .ref (zq w 0)), (1, .int a2)]) zd_L_isAnswered_30 (Nat.le_of_ble_eq_true rfl) rfl ?_
  refine z_aload_n O zd_L_isAnswered_32 rfl 5 rfl ?_
  refine z_callri O hl0 (st := []) 0 5 (fs := zo0 w σ) rfl rfl (c_X_congestionWindow l w σ) zl_L_38 zm501 zm502 rfl rfl (Nat.le_of_ble_eq_true rfl) (Nat.le_of_ble_eq_true rfl) (Nat.le_of_ble_eq_true rfl) zd_L_isAnswered_33 (fun r11 e12 => ?_)
  have ht := ht.trans (zlet_e e12)
  have ko := ko r11 e12
  refine z_istore O (lv' := [(7, .int r11), (6, .int r9), (5, .int (r3 + r7)), (4, .int r5), (3, .int r3), (2, .int r1), (0, .ref (zq w 0)), (1, .int a2)]) zd_L_isAnswered_36 (Nat.le_of_ble_eq_true rfl) rfl ?_
  refine z_sub (lv' := [(0, .ref (zq w 0)), (1, .int a2), (2, .int r1), (3, .int r3), (4, .int r5), (5, .int (r3 + r7)), (6, .int r9), (7, .int r11)]) [6, 7, 5, 4, 3, 2, 1, 0] rfl ?_
  refine S_L_isAnswered_38 O hl0 σ a2 r1 r3 r5 (r3 + r7) r9 r11 (fun r16 er16 => ?_)
  have ht := ht.trans (zlet_e er16)
  have ko := ko r16 er16
  refine z_aload_n O zd_L_isAnswered_52 rfl 0 rfl ?_
  refine z_iload_n O zd_L_isAnswered_53 rfl 1 rfl ?_
  refine z_calli O hl0 (st := []) 0 5 (fs := zo0 w σ) rfl rfl (c_X_deliverAck l w σ a2 ko) zl_L_109 zm629 zm630 rfl rfl (Nat.le_of_ble_eq_true rfl) (Nat.le_of_ble_eq_true rfl) (Nat.le_of_ble_eq_true rfl) zd_L_isAnswered_54 (fun r17 u18 e19 => ?_)
  have ht := ht.trans (zseq_e e19)
  refine z_istore O (lv' := [(9, .int r17), (0, .ref (zq w 0)), (1, .int a2), (2, .int r1), (3, .int r3), (4, .int r5), (5, .int (r3 + r7)), (6, .int r9), (7, .int r11), (8, .int r16)]) zd_L_isAnswered_57 (Nat.le_of_ble_eq_true rfl) rfl ?_
  refine z_iload_n O zd_L_isAnswered_59 rfl 4 rfl ?_
  refine z_iload_n O zd_L_isAnswered_60 rfl 3 rfl ?_
  refine z_icmp_ge O (tgt := 102) zd_L_isAnswered_61 (by decide) (fun c20 => ?_) (fun c20 => ?_)
  · have ht := ht.trans (if_pos c20)
    refine z_sub (lv' := [(0, .ref (zq w 0)), (2, .int r1), (3, .int r3), (4, .int r5), (5, .int (r3 + r7)), (6, .int r9), (7, .int r11), (8, .int r16), (9, .int r17)]) [1, 3, 4, 5, 6, 7, 8, 9, 0] rfl ?_
    refine S_L_isAnswered_102 O hl0 u18 r1 r3 r5 (r3 + r7) r9 r11 r16 r17 (fun r30 er30 => ?_)
    have ht := ht.trans (zlet_e er30)
    refine z_iload O zd_L_isAnswered_146 5 rfl ?_
    refine z_if_eq O (tgt := 215) zd_L_isAnswered_148 (by decide) (fun c31 => ?_) (fun c31 => ?_)
    · have ht := ht.trans (if_pos c31)
      refine z_iconst O (v := 0) zd_L_isAnswered_215 (by decide) ?_
      exact E _ _ _ _ zd_L_isAnswered_216 rfl ht.symm
    · have ht := ht.trans (if_neg c31)
      refine z_iload O zd_L_isAnswered_151 4 rfl ?_
      refine z_if_le O (tgt := 191) zd_L_isAnswered_153 (by decide) (fun c32 => ?_) (fun c32 => ?_)
      · have ht := ht.trans (if_pos c32)
        refine z_aload_n O zd_L_isAnswered_191 rfl 0 rfl ?_
        refine z_callri O hl0 (st := []) 0 5 (fs := zo0 w u18) rfl rfl (c_X_duplicates l w u18) zl_L_47 zm513 zm514 rfl rfl (Nat.le_of_ble_eq_true rfl) (Nat.le_of_ble_eq_true rfl) (Nat.le_of_ble_eq_true rfl) zd_L_isAnswered_192 (fun r33 e34 => ?_)
        have ht := ht.trans (zlet_e e34)
        refine z_iload O zd_L_isAnswered_195 1 rfl ?_
        refine z_icmp_lt O (tgt := 215) zd_L_isAnswered_197 (by decide) (fun c35 => ?_) (fun c35 => ?_)
        · have ht := ht.trans (if_pos c35)
          refine z_iconst O (v := 0) zd_L_isAnswered_215 (by decide) ?_
          exact E _ _ _ _ zd_L_isAnswered_216 rfl ht.symm
        · have ht := ht.trans (if_neg c35)
          refine z_aload_n O zd_L_isAnswered_200 rfl 0 rfl ?_
          refine z_callri O hl0 (st := []) 0 5 (fs := zo0 w u18) rfl rfl (c_X_duplicates l w u18) zl_L_47 zm513 zm514 rfl rfl (Nat.le_of_ble_eq_true rfl) (Nat.le_of_ble_eq_true rfl) (Nat.le_of_ble_eq_true rfl) zd_L_isAnswered_201 (fun r36 e37 => ?_)
          have ht := ht.trans (zlet_e e37)
          refine z_iload O zd_L_isAnswered_204 1 rfl ?_
          refine z_iconst O (v := 1) zd_L_isAnswered_206 (by decide) ?_
          refine z_iadd O zd_L_isAnswered_207 ?_
          refine z_icmp_gt O (tgt := 215) zd_L_isAnswered_208 (by decide) (fun c38 => ?_) (fun c38 => ?_)
          · have ht := ht.trans (if_pos c38)
            refine z_iconst O (v := 0) zd_L_isAnswered_215 (by decide) ?_
            exact E _ _ _ _ zd_L_isAnswered_216 rfl ht.symm
          · have ht := ht.trans (if_neg c38)
            refine z_iconst O (v := 1) zd_L_isAnswered_211 (by decide) ?_
            refine z_goto O (tgt := 216) zd_L_isAnswered_212 (by decide) ?_
            exact E _ _ _ _ zd_L_isAnswered_216 rfl ht.symm
      · have ht := ht.trans (if_neg c32)
        refine z_aload_n O zd_L_isAnswered_156 rfl 0 rfl ?_
        refine z_callri O hl0 (st := []) 0 5 (fs := zo0 w u18) rfl rfl (c_X_duplicates l w u18) zl_L_47 zm513 zm514 rfl rfl (Nat.le_of_ble_eq_true rfl) (Nat.le_of_ble_eq_true rfl) (Nat.le_of_ble_eq_true rfl) zd_L_isAnswered_157 (fun r39 e40 => ?_)
        have ht := ht.trans (zlet_e e40)
        refine z_if_ne O (tgt := 215) zd_L_isAnswered_160 (by decide) (fun c41 => ?_) (fun c41 => ?_)
        · have ht := ht.trans (if_neg c41)
          refine z_iconst O (v := 0) zd_L_isAnswered_215 (by decide) ?_
          exact E _ _ _ _ zd_L_isAnswered_216 rfl ht.symm
        · have ht := ht.trans (if_pos c41)
          refine z_iload O zd_L_isAnswered_163 3 rfl ?_
          refine z_if_ne O (tgt := 211) zd_L_isAnswered_165 (by decide) (fun c42 => ?_) (fun c42 => ?_)
          · have ht := ht.trans (if_neg c42)
            refine z_iconst O (v := 1) zd_L_isAnswered_211 (by decide) ?_
            refine z_goto O (tgt := 216) zd_L_isAnswered_212 (by decide) ?_
            exact E _ _ _ _ zd_L_isAnswered_216 rfl ht.symm
          · have ht := ht.trans (if_pos c42)
            refine z_aload_n O zd_L_isAnswered_168 rfl 0 rfl ?_
            refine z_callri O hl0 (st := []) 0 5 (fs := zo0 w u18) rfl rfl (c_X_congestionWindow l w u18) zl_L_38 zm501 zm502 rfl rfl (Nat.le_of_ble_eq_true rfl) (Nat.le_of_ble_eq_true rfl) (Nat.le_of_ble_eq_true rfl) zd_L_isAnswered_169 (fun r43 e44 => ?_)
            have ht := ht.trans (zlet_e e44)
            refine z_iload O zd_L_isAnswered_172 2 rfl ?_
            refine z_icmp_lt O (tgt := 215) zd_L_isAnswered_174 (by decide) (fun c45 => ?_) (fun c45 => ?_)
            · have ht := ht.trans (if_pos c45)
              refine z_iconst O (v := 0) zd_L_isAnswered_215 (by decide) ?_
              exact E _ _ _ _ zd_L_isAnswered_216 rfl ht.symm
            · have ht := ht.trans (if_neg c45)
              refine z_aload_n O zd_L_isAnswered_177 rfl 0 rfl ?_
              refine z_callri O hl0 (st := []) 0 5 (fs := zo0 w u18) rfl rfl (c_X_congestionWindow l w u18) zl_L_38 zm501 zm502 rfl rfl (Nat.le_of_ble_eq_true rfl) (Nat.le_of_ble_eq_true rfl) (Nat.le_of_ble_eq_true rfl) zd_L_isAnswered_178 (fun r46 e47 => ?_)
              have ht := ht.trans (zlet_e e47)
              refine z_iload O zd_L_isAnswered_181 2 rfl ?_
              refine z_iconst O (v := 4) zd_L_isAnswered_183 (by decide) ?_
              refine z_iadd O zd_L_isAnswered_184 ?_
              refine z_icmp_gt O (tgt := 215) zd_L_isAnswered_185 (by decide) (fun c48 => ?_) (fun c48 => ?_)
              · have ht := ht.trans (if_pos c48)
                refine z_iconst O (v := 0) zd_L_isAnswered_215 (by decide) ?_
                exact E _ _ _ _ zd_L_isAnswered_216 rfl ht.symm
              · have ht := ht.trans (if_neg c48)
                refine z_goto O (tgt := 211) zd_L_isAnswered_188 (by decide) ?_
                refine z_iconst O (v := 1) zd_L_isAnswered_211 (by decide) ?_
                refine z_goto O (tgt := 216) zd_L_isAnswered_212 (by decide) ?_
                exact E _ _ _ _ zd_L_isAnswered_216 rfl ht.symm
  · have ht := ht.trans (if_neg c20)
    refine z_iload O zd_L_isAnswered_64 0 rfl ?_
    refine z_if_ne O (tgt := 100) zd_L_isAnswered_66 (by decide) (fun c49 => ?_) (fun c49 => ?_)
    · have ht := ht.trans (if_neg c49)
      refine z_iconst O (v := 0) zd_L_isAnswered_100 (by decide) ?_
      exact E _ _ _ _ zd_L_isAnswered_101 rfl ht.symm
    · have ht := ht.trans (if_pos c49)
      refine z_aload_n O zd_L_isAnswered_69 rfl 1 rfl ?_
      refine z_callri O hl0 (st := []) 0 5 (fs := zo0 w u18) rfl rfl (c_X_edge l w u18) zl_L_25 zm487 zm488 rfl rfl (Nat.le_of_ble_eq_true rfl) (Nat.le_of_ble_eq_true rfl) (Nat.le_of_ble_eq_true rfl) zd_L_isAnswered_70 (fun r50 e51 => ?_)
      have ht := ht.trans (zlet_e e51)
      refine z_iload O zd_L_isAnswered_73 5 rfl ?_
      refine z_icmp_ne O (tgt := 100) zd_L_isAnswered_75 (by decide) (fun c52 => ?_) (fun c52 => ?_)
      · have ht := ht.trans (if_neg c52)
        refine z_iconst O (v := 0) zd_L_isAnswered_100 (by decide) ?_
        exact E _ _ _ _ zd_L_isAnswered_101 rfl ht.symm
      · have ht := ht.trans (if_pos c52)
        refine z_aload_n O zd_L_isAnswered_78 rfl 1 rfl ?_
        refine z_callri O hl0 (st := []) 0 5 (fs := zo0 w u18) rfl rfl (c_X_duplicates l w u18) zl_L_47 zm513 zm514 rfl rfl (Nat.le_of_ble_eq_true rfl) (Nat.le_of_ble_eq_true rfl) (Nat.le_of_ble_eq_true rfl) zd_L_isAnswered_79 (fun r53 e54 => ?_)
        have ht := ht.trans (zlet_e e54)
        refine z_iload O zd_L_isAnswered_82 7 rfl ?_
        refine z_icmp_ne O (tgt := 100) zd_L_isAnswered_84 (by decide) (fun c55 => ?_) (fun c55 => ?_)
        · have ht := ht.trans (if_neg c55)
          refine z_iconst O (v := 0) zd_L_isAnswered_100 (by decide) ?_
          exact E _ _ _ _ zd_L_isAnswered_101 rfl ht.symm
        · have ht := ht.trans (if_pos c55)
          refine z_aload_n O zd_L_isAnswered_87 rfl 1 rfl ?_
          refine z_callri O hl0 (st := []) 0 5 (fs := zo0 w u18) rfl rfl (c_X_congestionWindow l w u18) zl_L_38 zm501 zm502 rfl rfl (Nat.le_of_ble_eq_true rfl) (Nat.le_of_ble_eq_true rfl) (Nat.le_of_ble_eq_true rfl) zd_L_isAnswered_88 (fun r56 e57 => ?_)
          have ht := ht.trans (zlet_e e57)
          refine z_iload O zd_L_isAnswered_91 8 rfl ?_
          refine z_icmp_ne O (tgt := 100) zd_L_isAnswered_93 (by decide) (fun c58 => ?_) (fun c58 => ?_)
          · have ht := ht.trans (if_neg c58)
            refine z_iconst O (v := 0) zd_L_isAnswered_100 (by decide) ?_
            exact E _ _ _ _ zd_L_isAnswered_101 rfl ht.symm
          · have ht := ht.trans (if_pos c58)
            refine z_iconst O (v := 1) zd_L_isAnswered_96 (by decide) ?_
            refine z_goto O (tgt := 101) zd_L_isAnswered_97 (by decide) ?_
            exact E _ _ _ _ zd_L_isAnswered_101 rfl ht.symm
set_option maxHeartbeats 4000000 in
set_option maxRecDepth 100000 in
theorem L_L_drains_21 {K : zCx} {w : zWd} {l : Launch} (O : zOk K w method_6_code "SluiceStreamLaw" 6 7 165) (hl0 : kl K = l) (x1 x4 : Int32) : ∀ (m : Nat) (σ : zSt) (x3 : Int32), kl_L_drains_21 x1 x4 m σ x3 → (∀ r, r = (l_L_drains_21 x1 x4 m σ x3) → Z K w r.2 [(0, .ref (zq w 0)), (1, .int x1), (3, .int r.1), (4, .int x4)] [] 49) → Z K w σ [(0, .ref (zq w 0)), (1, .int x1), (3, .int x3), (4, .int x4)] [] 21 := by
  intro m
  induction m with
  | zero => intro σ x3 ko; exact ko.elim
  | succ m ih =>
    intro σ x3 ko kk
    have ht : l_L_drains_21 x1 x4 (m + 1) σ x3 = l_L_drains_21 x1 x4 (m + 1) σ x3 := rfl
    refine z_aload_n O zd_L_drains_21 rfl 0 rfl ?_
    refine z_callri O hl0 (st := []) 0 5 (fs := zo0 w σ) rfl rfl (c_X_segments l w σ) zl_L_97 zm440 zm441 rfl rfl (Nat.le_of_ble_eq_true rfl) (Nat.le_of_ble_eq_true rfl) (Nat.le_of_ble_eq_true rfl) zd_L_drains_22 (fun r5 e6 => ?_)
    have ht := ht.trans (zlet_e e6)
    have ko := ko r5 e6
    refine z_if_le O (tgt := 49) zd_L_drains_25 (by decide) (fun c7 => ?_) (fun c7 => ?_)
    · have ht := ht.trans (if_pos c7)
      refine z_sub (lv' := [(0, .ref (zq w 0)), (1, .int x1), (3, .int x3), (4, .int x4)]) [0, 1, 2, 3] rfl ?_
      exact kk (x3, σ) ht.symm
    · have ht := ht.trans (if_neg c7)
      have ko := ko c7
      refine z_iload_n O zd_L_drains_28 rfl 2 rfl ?_
      refine z_aload_n O zd_L_drains_29 rfl 0 rfl ?_
      refine z_iconst O (v := 0) zd_L_drains_30 (by decide) ?_
      refine z_calli O hl0 (st := [.int x3]) 0 5 (fs := zo0 w σ) rfl rfl (c_X_deliver l w σ 0 ko.1) zl_L_112 zm391 zm392 rfl rfl (Nat.le_of_ble_eq_true rfl) (Nat.le_of_ble_eq_true rfl) (Nat.le_of_ble_eq_true rfl) zd_L_drains_31 (fun r8 u9 e10 => ?_)
      have ht := ht.trans (zseq_e e10)
      have ko := ko.2 r8 u9 e10
      refine z_if_ge O (tgt := 43) zd_L_drains_34 (by decide) (fun c11 => ?_) (fun c11 => ?_)
      · have ht := ht.trans (if_pos c11)
        have ko := ko.1 c11
        refine z_iconst O (v := 0) zd_L_drains_43 (by decide) ?_
        refine z_iadd O zd_L_drains_44 ?_
        refine z_istore_n O (lv' := [(3, .int (x3 + 0)), (0, .ref (zq w 0)), (1, .int x1), (4, .int x4)]) zd_L_drains_45 rfl (Nat.le_of_ble_eq_true rfl) rfl ?_
        refine z_goto O (tgt := 21) zd_L_drains_46 (by decide) ?_
        refine z_sub (lv' := [(0, .ref (zq w 0)), (1, .int x1), (3, .int (x3 + 0)), (4, .int x4)]) [1, 2, 0, 3] rfl ?_
        exact ih u9 (x3 + 0) ko (fun r e => kk r (e.trans ht.symm))
      · have ht := ht.trans (if_neg c11)
        have ko := ko.2 c11
        refine z_sipush O (v := 1000) zd_L_drains_37 (by decide) ?_
        refine z_goto O (tgt := 44) zd_L_drains_40 (by decide) ?_
        refine z_iadd O zd_L_drains_44 ?_
        refine z_istore_n O (lv' := [(3, .int (x3 + 1000)), (0, .ref (zq w 0)), (1, .int x1), (4, .int x4)]) zd_L_drains_45 rfl (Nat.le_of_ble_eq_true rfl) rfl ?_
        refine z_goto O (tgt := 21) zd_L_drains_46 (by decide) ?_
        refine z_sub (lv' := [(0, .ref (zq w 0)), (1, .int x1), (3, .int (x3 + 1000)), (4, .int x4)]) [1, 2, 0, 3] rfl ?_
        exact ih u9 (x3 + 1000) ko (fun r e => kk r (e.trans ht.symm))
set_option maxHeartbeats 4000000 in
set_option maxRecDepth 100000 in
theorem S_L_drains_60 {K : zCx} {w : zWd} {l : Launch} (O : zOk K w method_6_code "SluiceStreamLaw" 6 7 165) (hl0 : kl K = l) (σ : zSt) (x1 : Int32) (x3 : Int32) (x4 : Int32) (x5 : Int32) (kk : ∀ r, r = s_L_drains_60 σ x1 x3 x4 x5 → Z K w σ [(0, .ref (zq w 0)), (1, .int x1), (3, .int r), (4, .int x4)] [] 82) : Z K w σ [(0, .ref (zq w 0)), (1, .int x1), (3, .int x3), (4, .int x4), (5, .int x5)] [] 60 := by
  have ht : s_L_drains_60 σ x1 x3 x4 x5 = s_L_drains_60 σ x1 x3 x4 x5 := rfl
  refine z_iload O zd_L_drains_60 4 rfl ?_
  refine z_iload_n O zd_L_drains_62 rfl 1 rfl ?_
  refine z_iload_n O zd_L_drains_63 rfl 2 rfl ?_
  refine z_iadd O zd_L_drains_64 ?_
  refine z_sipush O (v := 256) zd_L_drains_65 (by decide) ?_
  refine z_irem O zd_L_drains_68 (by decide) ?_
  refine z_icmp_ne O (tgt := 78) zd_L_drains_69 (by decide) (fun c17 => ?_) (fun c17 => ?_)
  · have ht := ht.trans (if_neg c17)
    refine z_sipush O (v := 5000) zd_L_drains_78 (by decide) ?_
    refine z_istore_n O (lv' := [(3, .int 5000), (0, .ref (zq w 0)), (1, .int x1), (4, .int x4), (5, .int x5)]) zd_L_drains_81 rfl (Nat.le_of_ble_eq_true rfl) rfl ?_
    refine z_sub (lv' := [(0, .ref (zq w 0)), (1, .int x1), (3, .int 5000), (4, .int x4)]) [1, 2, 0, 3] rfl ?_
    exact kk 5000 ht.symm
  · have ht := ht.trans (if_pos c17)
    refine z_iload_n O zd_L_drains_72 rfl 2 rfl ?_
    refine z_iconst O (v := 1) zd_L_drains_73 (by decide) ?_
    refine z_iadd O zd_L_drains_74 ?_
    refine z_goto O (tgt := 81) zd_L_drains_75 (by decide) ?_
    refine z_istore_n O (lv' := [(3, .int (x3 + 1)), (0, .ref (zq w 0)), (1, .int x1), (4, .int x4), (5, .int x5)]) zd_L_drains_81 rfl (Nat.le_of_ble_eq_true rfl) rfl ?_
    refine z_sub (lv' := [(0, .ref (zq w 0)), (1, .int x1), (3, .int (x3 + 1)), (4, .int x4)]) [1, 2, 0, 3] rfl ?_
    exact kk (x3 + 1) ht.symm
set_option maxHeartbeats 4000000 in
set_option maxRecDepth 100000 in
theorem L_L_drains_55 {K : zCx} {w : zWd} {l : Launch} (O : zOk K w method_6_code "SluiceStreamLaw" 6 7 165) (hl0 : kl K = l) (x1 x4 : Int32) : ∀ (m : Nat) (σ : zSt) (x3 x5 : Int32), kl_L_drains_55 x1 x4 m σ x3 x5 → (∀ r, r = (l_L_drains_55 x1 x4 m σ x3 x5) → Z K w r.2 [(0, .ref (zq w 0)), (1, .int x1), (3, .int r.1), (4, .int x4)] [] 91) → Z K w σ [(0, .ref (zq w 0)), (1, .int x1), (3, .int x3), (4, .int x4), (5, .int x5)] [] 55 := by
  intro m
  induction m with
  | zero => intro σ x3 x5 ko; exact ko.elim
  | succ m ih =>
    intro σ x3 x5 ko kk
    have ht : l_L_drains_55 x1 x4 (m + 1) σ x3 x5 = l_L_drains_55 x1 x4 (m + 1) σ x3 x5 := rfl
    refine z_iload O zd_L_drains_55 4 rfl ?_
    refine z_if_lt O (tgt := 91) zd_L_drains_57 (by decide) (fun c16 => ?_) (fun c16 => ?_)
    · have ht := ht.trans (if_pos c16)
      refine z_sub (lv' := [(0, .ref (zq w 0)), (1, .int x1), (3, .int x3), (4, .int x4)]) [0, 1, 2, 3] rfl ?_
      exact kk (x3, σ) ht.symm
    · have ht := ht.trans (if_neg c16)
      have ko := ko c16
      refine z_sub (lv' := [(0, .ref (zq w 0)), (1, .int x1), (3, .int x3), (4, .int x4), (5, .int x5)]) [0, 1, 2, 3, 4] rfl ?_
      refine S_L_drains_60 O hl0 σ x1 x3 x4 x5 (fun r18 er18 => ?_)
      have ht := ht.trans (zlet_e er18)
      have ko := ko r18 er18
      refine z_aload_n O zd_L_drains_82 rfl 0 rfl ?_
      refine z_calli O hl0 (st := []) 0 5 (fs := zo0 w σ) rfl rfl (c_X_read l w σ ko.1) zl_L_115 zm272 zm273 rfl rfl (Nat.le_of_ble_eq_true rfl) (Nat.le_of_ble_eq_true rfl) (Nat.le_of_ble_eq_true rfl) zd_L_drains_83 (fun r19 u20 e21 => ?_)
      have ht := ht.trans (zseq_e e21)
      have ko := ko.2 r19 u20 e21
      refine z_istore O (lv' := [(5, .int r19), (0, .ref (zq w 0)), (1, .int x1), (3, .int r18), (4, .int x4)]) zd_L_drains_86 (Nat.le_of_ble_eq_true rfl) rfl ?_
      refine z_goto O (tgt := 55) zd_L_drains_88 (by decide) ?_
      refine z_sub (lv' := [(0, .ref (zq w 0)), (1, .int x1), (3, .int r18), (4, .int x4), (5, .int r19)]) [1, 2, 3, 4, 0] rfl ?_
      exact ih u20 r18 r19 ko (fun r e => kk r (e.trans ht.symm))
set_option maxHeartbeats 4000000 in
set_option maxRecDepth 100000 in
theorem L_L_drains_91 {K : zCx} {w : zWd} {l : Launch} (O : zOk K w method_6_code "SluiceStreamLaw" 6 7 165) (hl0 : kl K = l) (x1 x4 : Int32) : ∀ (m : Nat) (σ : zSt) (x3 : Int32), kl_L_drains_91 x1 x4 m σ x3 → (∀ r, r = (l_L_drains_91 x1 x4 m σ x3) → Z K w r.2 [(0, .ref (zq w 0)), (1, .int x1), (3, .int r.1), (4, .int x4)] [] 119) → Z K w σ [(0, .ref (zq w 0)), (1, .int x1), (3, .int x3), (4, .int x4)] [] 91 := by
  intro m
  induction m with
  | zero => intro σ x3 ko; exact ko.elim
  | succ m ih =>
    intro σ x3 ko kk
    have ht : l_L_drains_91 x1 x4 (m + 1) σ x3 = l_L_drains_91 x1 x4 (m + 1) σ x3 := rfl
    refine z_aload_n O zd_L_drains_91 rfl 0 rfl ?_
    refine z_callri O hl0 (st := []) 0 5 (fs := zo0 w σ) rfl rfl (c_X_acks l w σ) zl_L_81 zm448 zm449 rfl rfl (Nat.le_of_ble_eq_true rfl) (Nat.le_of_ble_eq_true rfl) (Nat.le_of_ble_eq_true rfl) zd_L_drains_92 (fun r23 e24 => ?_)
    have ht := ht.trans (zlet_e e24)
    have ko := ko r23 e24
    refine z_if_le O (tgt := 119) zd_L_drains_95 (by decide) (fun c25 => ?_) (fun c25 => ?_)
    · have ht := ht.trans (if_pos c25)
      refine z_sub (lv' := [(0, .ref (zq w 0)), (1, .int x1), (3, .int x3), (4, .int x4)]) [0, 1, 2, 3] rfl ?_
      exact kk (x3, σ) ht.symm
    · have ht := ht.trans (if_neg c25)
      have ko := ko c25
      refine z_iload_n O zd_L_drains_98 rfl 2 rfl ?_
      refine z_aload_n O zd_L_drains_99 rfl 0 rfl ?_
      refine z_iconst O (v := 0) zd_L_drains_100 (by decide) ?_
      refine z_calli O hl0 (st := [.int x3]) 0 5 (fs := zo0 w σ) rfl rfl (c_X_deliverAck l w σ 0 ko.1) zl_L_109 zm629 zm630 rfl rfl (Nat.le_of_ble_eq_true rfl) (Nat.le_of_ble_eq_true rfl) (Nat.le_of_ble_eq_true rfl) zd_L_drains_101 (fun r26 u27 e28 => ?_)
      have ht := ht.trans (zseq_e e28)
      have ko := ko.2 r26 u27 e28
      refine z_if_ge O (tgt := 113) zd_L_drains_104 (by decide) (fun c29 => ?_) (fun c29 => ?_)
      · have ht := ht.trans (if_pos c29)
        have ko := ko.1 c29
        refine z_iconst O (v := 0) zd_L_drains_113 (by decide) ?_
        refine z_iadd O zd_L_drains_114 ?_
        refine z_istore_n O (lv' := [(3, .int (x3 + 0)), (0, .ref (zq w 0)), (1, .int x1), (4, .int x4)]) zd_L_drains_115 rfl (Nat.le_of_ble_eq_true rfl) rfl ?_
        refine z_goto O (tgt := 91) zd_L_drains_116 (by decide) ?_
        refine z_sub (lv' := [(0, .ref (zq w 0)), (1, .int x1), (3, .int (x3 + 0)), (4, .int x4)]) [1, 2, 0, 3] rfl ?_
        exact ih u27 (x3 + 0) ko (fun r e => kk r (e.trans ht.symm))
      · have ht := ht.trans (if_neg c29)
        have ko := ko.2 c29
        refine z_sipush O (v := 1000) zd_L_drains_107 (by decide) ?_
        refine z_goto O (tgt := 114) zd_L_drains_110 (by decide) ?_
        refine z_iadd O zd_L_drains_114 ?_
        refine z_istore_n O (lv' := [(3, .int (x3 + 1000)), (0, .ref (zq w 0)), (1, .int x1), (4, .int x4)]) zd_L_drains_115 rfl (Nat.le_of_ble_eq_true rfl) rfl ?_
        refine z_goto O (tgt := 91) zd_L_drains_116 (by decide) ?_
        refine z_sub (lv' := [(0, .ref (zq w 0)), (1, .int x1), (3, .int (x3 + 1000)), (4, .int x4)]) [1, 2, 0, 3] rfl ?_
        exact ih u27 (x3 + 1000) ko (fun r e => kk r (e.trans ht.symm))
set_option maxHeartbeats 4000000 in
set_option maxRecDepth 100000 in
theorem S_L_drains_119 {K : zCx} {w : zWd} {l : Launch} (O : zOk K w method_6_code "SluiceStreamLaw" 6 7 165) (hl0 : kl K = l) (σ : zSt) (x1 : Int32) (x3 : Int32) (x4 : Int32) (ko : ks_L_drains_119 σ x1 x3 x4) (kk : ∀ r, r = s_L_drains_119 σ x1 x3 x4 → Z K w r.2 [(0, .ref (zq w 0)), (1, .int x1), (3, .int r.1), (4, .int x4)] [] 160) : Z K w σ [(0, .ref (zq w 0)), (1, .int x1), (3, .int x3), (4, .int x4)] [] 119 := by
  have ht : s_L_drains_119 σ x1 x3 x4 = s_L_drains_119 σ x1 x3 x4 := rfl
  refine z_aload_n O zd_L_drains_119 rfl 0 rfl ?_
  refine z_calli O hl0 (st := []) 0 5 (fs := zo0 w σ) rfl rfl (c_X_send l w σ ko.1) zl_L_106 zm585 zm586 rfl rfl (Nat.le_of_ble_eq_true rfl) (Nat.le_of_ble_eq_true rfl) (Nat.le_of_ble_eq_true rfl) zd_L_drains_120 (fun r31 u32 e33 => ?_)
  have ht := ht.trans (zseq_e e33)
  have ko := ko.2 r31 u32 e33
  refine z_if_ne O (tgt := 160) zd_L_drains_123 (by decide) (fun c34 => ?_) (fun c34 => ?_)
  · have ht := ht.trans (if_neg c34)
    refine z_sub (lv' := [(0, .ref (zq w 0)), (1, .int x1), (3, .int x3), (4, .int x4)]) [0, 1, 2, 3] rfl ?_
    exact kk (x3, u32) ht.symm
  · have ht := ht.trans (if_pos c34)
    have ko := ko c34
    refine z_aload_n O zd_L_drains_126 rfl 0 rfl ?_
    refine z_callri O hl0 (st := []) 0 5 (fs := zo0 w u32) rfl rfl (c_X_timerEnd l w u32) zl_L_62 zm533 zm534 rfl rfl (Nat.le_of_ble_eq_true rfl) (Nat.le_of_ble_eq_true rfl) (Nat.le_of_ble_eq_true rfl) zd_L_drains_127 (fun r35 e36 => ?_)
    have ht := ht.trans (zlet_e e36)
    have ko := ko r35 e36
    refine z_if_lt O (tgt := 160) zd_L_drains_130 (by decide) (fun c37 => ?_) (fun c37 => ?_)
    · have ht := ht.trans (if_pos c37)
      refine z_sub (lv' := [(0, .ref (zq w 0)), (1, .int x1), (3, .int x3), (4, .int x4)]) [0, 1, 2, 3] rfl ?_
      exact kk (x3, u32) ht.symm
    · have ht := ht.trans (if_neg c37)
      have ko := ko c37
      refine z_iload_n O zd_L_drains_133 rfl 2 rfl ?_
      refine z_aload_n O zd_L_drains_134 rfl 0 rfl ?_
      refine z_aload_n O zd_L_drains_135 rfl 0 rfl ?_
      refine z_callri O hl0 (st := [.ref (zq w 0), .int x3]) 0 5 (fs := zo0 w u32) rfl rfl (c_X_timerEnd l w u32) zl_L_62 zm533 zm534 rfl rfl (Nat.le_of_ble_eq_true rfl) (Nat.le_of_ble_eq_true rfl) (Nat.le_of_ble_eq_true rfl) zd_L_drains_136 (fun r38 e39 => ?_)
      have ht := ht.trans (zlet_e e39)
      have ko := ko r38 e39
      refine z_aload_n O zd_L_drains_139 rfl 0 rfl ?_
      refine z_callri O hl0 (st := [.int r38, .ref (zq w 0), .int x3]) 0 5 (fs := zo0 w u32) rfl rfl (c_X_time l w u32) zl_L_65 zm456 zm457 rfl rfl (Nat.le_of_ble_eq_true rfl) (Nat.le_of_ble_eq_true rfl) (Nat.le_of_ble_eq_true rfl) zd_L_drains_140 (fun r40 e41 => ?_)
      have ht := ht.trans (zlet_e e41)
      have ko := ko r40 e41
      refine z_isub O zd_L_drains_143 ?_
      refine z_calli O hl0 (st := [.int x3]) 0 5 (fs := zo0 w u32) rfl rfl (c_X_tick l w u32 (r38 - r40) ko) zl_L_118 zm343 zm344 rfl rfl (Nat.le_of_ble_eq_true rfl) (Nat.le_of_ble_eq_true rfl) (Nat.le_of_ble_eq_true rfl) zd_L_drains_144 (fun r42 u43 e44 => ?_)
      have ht := ht.trans (zseq_e e44)
      refine z_iconst O (v := 1) zd_L_drains_147 (by decide) ?_
      refine z_icmp_ne O (tgt := 155) zd_L_drains_148 (by decide) (fun c45 => ?_) (fun c45 => ?_)
      · have ht := ht.trans (if_neg c45)
        refine z_sipush O (v := 1000) zd_L_drains_155 (by decide) ?_
        refine z_iadd O zd_L_drains_158 ?_
        refine z_istore_n O (lv' := [(3, .int (x3 + 1000)), (0, .ref (zq w 0)), (1, .int x1), (4, .int x4)]) zd_L_drains_159 rfl (Nat.le_of_ble_eq_true rfl) rfl ?_
        refine z_sub (lv' := [(0, .ref (zq w 0)), (1, .int x1), (3, .int (x3 + 1000)), (4, .int x4)]) [1, 2, 0, 3] rfl ?_
        exact kk ((x3 + 1000), u43) ht.symm
      · have ht := ht.trans (if_pos c45)
        refine z_iconst O (v := 0) zd_L_drains_151 (by decide) ?_
        refine z_goto O (tgt := 158) zd_L_drains_152 (by decide) ?_
        refine z_iadd O zd_L_drains_158 ?_
        refine z_istore_n O (lv' := [(3, .int (x3 + 0)), (0, .ref (zq w 0)), (1, .int x1), (4, .int x4)]) zd_L_drains_159 rfl (Nat.le_of_ble_eq_true rfl) rfl ?_
        refine z_sub (lv' := [(0, .ref (zq w 0)), (1, .int x1), (3, .int (x3 + 0)), (4, .int x4)]) [1, 2, 0, 3] rfl ?_
        exact kk ((x3 + 0), u43) ht.symm
set_option maxHeartbeats 4000000 in
set_option maxRecDepth 100000 in
theorem L_L_drains_5 {K : zCx} {w : zWd} {l : Launch} (O : zOk K w method_6_code "SluiceStreamLaw" 6 7 165) (hl0 : kl K = l) (x1 : Int32) : ∀ (m : Nat) (σ : zSt) (x3 x4 : Int32), kl_L_drains_5 x1 m σ x3 x4 → (∀ r, r = (l_L_drains_5 x1 m σ x3 x4) → Z K w r.2 [(3, .int r.1)] [] 166) → Z K w σ [(0, .ref (zq w 0)), (1, .int x1), (3, .int x3), (4, .int x4)] [] 5 := by
  intro m
  induction m with
  | zero => intro σ x3 x4 ko; exact ko.elim
  | succ m ih =>
    intro σ x3 x4 ko kk
    have ht : l_L_drains_5 x1 (m + 1) σ x3 x4 = l_L_drains_5 x1 (m + 1) σ x3 x4 := rfl
    refine z_iload O zd_L_drains_5 3 rfl ?_
    refine z_sipush O (v := 3000) zd_L_drains_7 (by decide) ?_
    refine z_icmp_ge O (tgt := 166) zd_L_drains_10 (by decide) (fun c1 => ?_) (fun c1 => ?_)
    · have ht := ht.trans (if_pos c1)
      refine z_sub (lv' := [(3, .int x3)]) [2] rfl ?_
      exact kk (x3, σ) ht.symm
    · have ht := ht.trans (if_neg c1)
      have ko := ko c1
      refine z_iload_n O zd_L_drains_13 rfl 2 rfl ?_
      refine z_aload_n O zd_L_drains_14 rfl 0 rfl ?_
      refine z_callri O hl0 (st := [.int x3]) 0 5 (fs := zo0 w σ) rfl rfl (c_X_written l w σ) zl_L_19 zm460 zm461 rfl rfl (Nat.le_of_ble_eq_true rfl) (Nat.le_of_ble_eq_true rfl) (Nat.le_of_ble_eq_true rfl) zd_L_drains_15 (fun r2 e3 => ?_)
      have ht := ht.trans (zlet_e e3)
      have ko := ko r2 e3
      refine z_icmp_ge O (tgt := 166) zd_L_drains_18 (by decide) (fun c4 => ?_) (fun c4 => ?_)
      · have ht := ht.trans (if_pos c4)
        refine z_sub (lv' := [(3, .int x3)]) [2] rfl ?_
        exact kk (x3, σ) ht.symm
      · have ht := ht.trans (if_neg c4)
        have ko := ko c4
        refine z_sub (lv' := [(0, .ref (zq w 0)), (1, .int x1), (3, .int x3), (4, .int x4)]) [0, 1, 2, 3] rfl ?_
        refine L_L_drains_21 O hl0 x1 x4 (50) σ x3 ko.1 (fun r12 er12 => ?_)
        have ht := ht.trans (zlet_e er12)
        have ko := ko.2 r12 er12
        refine z_aload_n O zd_L_drains_49 rfl 0 rfl ?_
        refine z_calli O hl0 (st := []) 0 5 (fs := zo0 w r12.2) rfl rfl (c_X_read l w r12.2 ko.1) zl_L_115 zm272 zm273 rfl rfl (Nat.le_of_ble_eq_true rfl) (Nat.le_of_ble_eq_true rfl) (Nat.le_of_ble_eq_true rfl) zd_L_drains_50 (fun r13 u14 e15 => ?_)
        have ht := ht.trans (zseq_e e15)
        have ko := ko.2 r13 u14 e15
        refine z_istore O (lv' := [(5, .int r13), (0, .ref (zq w 0)), (1, .int x1), (3, .int r12.1), (4, .int x4)]) zd_L_drains_53 (Nat.le_of_ble_eq_true rfl) rfl ?_
        refine z_sub (lv' := [(0, .ref (zq w 0)), (1, .int x1), (3, .int r12.1), (4, .int x4), (5, .int r13)]) [1, 2, 3, 4, 0] rfl ?_
        refine L_L_drains_55 O hl0 x1 x4 (700) u14 r12.1 r13 ko.1 (fun r22 er22 => ?_)
        have ht := ht.trans (zlet_e er22)
        have ko := ko.2 r22 er22
        refine z_sub (lv' := [(0, .ref (zq w 0)), (1, .int x1), (3, .int r22.1), (4, .int x4)]) [0, 1, 2, 3] rfl ?_
        refine L_L_drains_91 O hl0 x1 x4 (50) r22.2 r22.1 ko.1 (fun r30 er30 => ?_)
        have ht := ht.trans (zlet_e er30)
        have ko := ko.2 r30 er30
        refine z_sub (lv' := [(0, .ref (zq w 0)), (1, .int x1), (3, .int r30.1), (4, .int x4)]) [0, 1, 2, 3] rfl ?_
        refine S_L_drains_119 O hl0 r30.2 x1 r30.1 x4 ko.1 (fun r46 er46 => ?_)
        have ht := ht.trans (zlet_e er46)
        have ko := ko.2 r46 er46
        refine z_iinc O (v := (x4 + 1)) (lv' := [(4, .int (x4 + 1)), (0, .ref (zq w 0)), (1, .int x1), (3, .int r46.1)]) zd_L_drains_160 3 rfl rfl (Nat.le_of_ble_eq_true rfl) rfl ?_
        refine z_goto O (tgt := 5) zd_L_drains_163 (by decide) ?_
        refine z_sub (lv' := [(0, .ref (zq w 0)), (1, .int x1), (3, .int r46.1), (4, .int (x4 + 1))]) [1, 2, 3, 0] rfl ?_
        exact ih r46.2 r46.1 (x4 + 1) ko (fun r e => kk r (e.trans ht.symm))
set_option maxHeartbeats 4000000 in
set_option maxRecDepth 100000 in
theorem c_L_drains (l : Launch) (w : zWd) (σ : zSt) (a2 : Int32) (a3 : Int32) (ko : k_L_drains σ a2 a3) : zMi l ({ cls := "SluiceStreamLaw", name := "drains", desc := "(LSluiceStream;II)I" } : Jvm.MethodName) method_6_code 6 7 165 .int w [.ref (zq w 0), .int a2, .int a3] σ (fun r u => (r, u) = (f_L_drains σ a2 a3)) := by
  refine zMi_of (by decide +kernel) (Nat.le_of_ble_eq_true rfl) ?_
  intro K O hl0 E
  have ht : (f_L_drains σ a2 a3) = (f_L_drains σ a2 a3) := rfl
  refine z_sub (lv' := [(0, .ref (zq w 0)), (1, .int a2), (2, .int a3)]) [0, 1, 2] rfl ?_
  refine z_iload_n O zd_L_drains_0 rfl 2 rfl ?_
  refine z_istore_n O (lv' := [(3, .int a3), (0, .ref (zq w 0)), (1, .int a2), (2, .int a3)]) zd_L_drains_1 rfl (Nat.le_of_ble_eq_true rfl) rfl ?_
  refine z_iconst O (v := 0) zd_L_drains_2 (by decide) ?_
  refine z_istore O (lv' := [(4, .int 0), (3, .int a3), (0, .ref (zq w 0)), (1, .int a2), (2, .int a3)]) zd_L_drains_3 (Nat.le_of_ble_eq_true rfl) rfl ?_
  refine z_sub (lv' := [(0, .ref (zq w 0)), (1, .int a2), (3, .int a3), (4, .int 0)]) [2, 3, 1, 0] rfl ?_
  refine L_L_drains_5 O hl0 a2 (3001) σ a3 0 ko (fun r47 er47 => ?_)
  have ht := ht.trans (zlet_e er47)
  refine z_iload_n O zd_L_drains_166 rfl 0 rfl ?_
  exact E _ _ _ _ zd_L_drains_167 rfl ht.symm
