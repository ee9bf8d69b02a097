set_option maxHeartbeats 4000000 in
set_option maxRecDepth 100000 in
theorem S_L_law_8 {K : zCx} {w : zWd} {l : Launch} (O : zOk K w code "SluiceStreamLaw" 17 10 380) (hl0 : kl K = l) {b L : Nat} {xs : Nat → Int32} (hscr : zScr K b L xs) (σ : zSt) (ko : ks_L_law_8 L xs σ) (kk : ∀ r, r = s_L_law_8 L xs σ → Z K w σ [(0, .ref b), (1, .ref (zq w 0)), (2, .int r)] [] 26) : Z K w σ [(0, .ref b), (1, .ref (zq w 0))] [] 8 := by
  have ht : s_L_law_8 L xs σ = s_L_law_8 L xs σ := rfl
  refine z_aload_n O zd_L_law_8 rfl 0 rfl ?_
  refine z_slen O hscr zd_L_law_9 ?_
  refine z_if_le O (tgt := 23) zd_L_law_10 (by decide) (fun c1 => ?_) (fun c1 => ?_)
  · have ht := ht.trans (if_pos c1)
    refine z_bipush O (v := 77) zd_L_law_23 (by decide) ?_
    refine z_istore_n O (lv' := [(2, .int 77), (0, .ref b), (1, .ref (zq w 0))]) zd_L_law_25 rfl (Nat.le_of_ble_eq_true rfl) rfl ?_
    refine z_sub (lv' := [(0, .ref b), (1, .ref (zq w 0)), (2, .int 77)]) [1, 2, 0] rfl ?_
    exact kk 77 ht.symm
  · have ht := ht.trans (if_neg c1)
    have ko := ko c1
    refine z_aload_n O zd_L_law_13 rfl 0 rfl ?_
    refine z_iconst O (v := 0) zd_L_law_14 (by decide) ?_
    have b2 := ko
    refine z_sld O hscr b2 (v := (xs (0 : Int32).toNatClampNeg)) rfl zd_L_law_15 ?_
    refine z_sipush O (v := 255) zd_L_law_16 (by decide) ?_
    refine z_iand O zd_L_law_19 ?_
    refine z_goto O (tgt := 25) zd_L_law_20 (by decide) ?_
    refine z_istore_n O (lv' := [(2, .int ((xs (0 : Int32).toNatClampNeg) &&& 255)), (0, .ref b), (1, .ref (zq w 0))]) zd_L_law_25 rfl (Nat.le_of_ble_eq_true rfl) rfl ?_
    refine z_sub (lv' := [(0, .ref b), (1, .ref (zq w 0)), (2, .int ((xs (0 : Int32).toNatClampNeg) &&& 255))]) [1, 2, 0] rfl ?_
    exact kk ((xs (0 : Int32).toNatClampNeg) &&& 255) ht.symm
set_option maxHeartbeats 4000000 in
set_option maxRecDepth 100000 in
theorem S_L_law_28 {K : zCx} {w : zWd} {l : Launch} (O : zOk K w code "SluiceStreamLaw" 17 10 380) (hl0 : kl K = l) {b L : Nat} {xs : Nat → Int32} (hscr : zScr K b L xs) (σ : zSt) (x2 : Int32) (x3 : Int32) (ko : ks_L_law_28 L xs σ x2 x3) (kk : ∀ r, r = s_L_law_28 L xs σ x2 x3 → Z K w σ [(0, .ref b), (1, .ref (zq w 0)), (2, .int x2), (3, .int x3), (4, .int r)] [] 49) : Z K w σ [(0, .ref b), (1, .ref (zq w 0)), (2, .int x2), (3, .int x3)] [] 28 := by
  have ht : s_L_law_28 L xs σ x2 x3 = s_L_law_28 L xs σ x2 x3 := rfl
  refine z_aload_n O zd_L_law_28 rfl 1 rfl ?_
  refine z_callsri O hl0 (st := []) (c_L_isSender l w σ ko.1) zl_L_122 zm472 rfl rfl (Nat.le_of_ble_eq_true rfl) (Nat.le_of_ble_eq_true rfl) (Nat.le_of_ble_eq_true rfl) zd_L_law_29 (fun r4 e5 => ?_)
  have ht := ht.trans (zlet_e e5)
  have ko := ko.2 r4 e5
  refine z_if_eq O (tgt := 46) zd_L_law_32 (by decide) (fun c6 => ?_) (fun c6 => ?_)
  · have ht := ht.trans (if_pos c6)
    refine z_iconst O (v := 0) zd_L_law_46 (by decide) ?_
    refine z_istore O (lv' := [(4, .int 0), (0, .ref b), (1, .ref (zq w 0)), (2, .int x2), (3, .int x3)]) zd_L_law_47 (Nat.le_of_ble_eq_true rfl) rfl ?_
    refine z_sub (lv' := [(0, .ref b), (1, .ref (zq w 0)), (2, .int x2), (3, .int x3), (4, .int 0)]) [1, 2, 3, 4, 0] rfl ?_
    exact kk 0 ht.symm
  · have ht := ht.trans (if_neg c6)
    have ko := ko c6
    refine z_aload_n O zd_L_law_35 rfl 1 rfl ?_
    refine z_callsri O hl0 (st := []) (c_L_isReceiver l w σ ko) zl_L_128 zm537 rfl rfl (Nat.le_of_ble_eq_true rfl) (Nat.le_of_ble_eq_true rfl) (Nat.le_of_ble_eq_true rfl) zd_L_law_36 (fun r7 e8 => ?_)
    have ht := ht.trans (zlet_e e8)
    refine z_if_eq O (tgt := 46) zd_L_law_39 (by decide) (fun c9 => ?_) (fun c9 => ?_)
    · have ht := ht.trans (if_pos c9)
      refine z_iconst O (v := 0) zd_L_law_46 (by decide) ?_
      refine z_istore O (lv' := [(4, .int 0), (0, .ref b), (1, .ref (zq w 0)), (2, .int x2), (3, .int x3)]) zd_L_law_47 (Nat.le_of_ble_eq_true rfl) rfl ?_
      refine z_sub (lv' := [(0, .ref b), (1, .ref (zq w 0)), (2, .int x2), (3, .int x3), (4, .int 0)]) [1, 2, 3, 4, 0] rfl ?_
      exact kk 0 ht.symm
    · have ht := ht.trans (if_neg c9)
      refine z_iconst O (v := 1) zd_L_law_42 (by decide) ?_
      refine z_goto O (tgt := 47) zd_L_law_43 (by decide) ?_
      refine z_istore O (lv' := [(4, .int 1), (0, .ref b), (1, .ref (zq w 0)), (2, .int x2), (3, .int x3)]) zd_L_law_47 (Nat.le_of_ble_eq_true rfl) rfl ?_
      refine z_sub (lv' := [(0, .ref b), (1, .ref (zq w 0)), (2, .int x2), (3, .int x3), (4, .int 1)]) [1, 2, 3, 4, 0] rfl ?_
      exact kk 1 ht.symm
set_option maxHeartbeats 4000000 in
set_option maxRecDepth 100000 in
theorem S_L_law_49 {K : zCx} {w : zWd} {l : Launch} (O : zOk K w code "SluiceStreamLaw" 17 10 380) (hl0 : kl K = l) {b L : Nat} {xs : Nat → Int32} (hscr : zScr K b L xs) (σ : zSt) (x2 : Int32) (x3 : Int32) (x4 : Int32) (kk : ∀ r, r = s_L_law_49 L xs σ x2 x3 x4 → Z K w σ [(0, .ref b), (1, .ref (zq w 0)), (2, .int x2), (3, .int x3), (4, .int x4), (5, .int r)] [] 80) : Z K w σ [(0, .ref b), (1, .ref (zq w 0)), (2, .int x2), (3, .int x3), (4, .int x4)] [] 49 := by
  have ht : s_L_law_49 L xs σ x2 x3 x4 = s_L_law_49 L xs σ x2 x3 x4 := rfl
  refine z_aload_n O zd_L_law_49 rfl 0 rfl ?_
  refine z_slen O hscr zd_L_law_50 ?_
  refine z_bipush O (v := 30) zd_L_law_51 (by decide) ?_
  refine z_icmp_ge O (tgt := 61) zd_L_law_53 (by decide) (fun c11 => ?_) (fun c11 => ?_)
  · have ht := ht.trans (if_pos c11)
    refine z_aload_n O zd_L_law_61 rfl 0 rfl ?_
    refine z_slen O hscr zd_L_law_62 ?_
    refine z_bipush O (v := 80) zd_L_law_63 (by decide) ?_
    refine z_icmp_ge O (tgt := 75) zd_L_law_65 (by decide) (fun c12 => ?_) (fun c12 => ?_)
    · have ht := ht.trans (if_pos c12)
      refine z_sipush O (v := 320) zd_L_law_75 (by decide) ?_
      refine z_istore O (lv' := [(5, .int 320), (0, .ref b), (1, .ref (zq w 0)), (2, .int x2), (3, .int x3), (4, .int x4)]) zd_L_law_78 (Nat.le_of_ble_eq_true rfl) rfl ?_
      refine z_sub (lv' := [(0, .ref b), (1, .ref (zq w 0)), (2, .int x2), (3, .int x3), (4, .int x4), (5, .int 320)]) [1, 2, 3, 4, 5, 0] rfl ?_
      exact kk 320 ht.symm
    · have ht := ht.trans (if_neg c12)
      refine z_iconst O (v := 4) zd_L_law_68 (by decide) ?_
      refine z_aload_n O zd_L_law_69 rfl 0 rfl ?_
      refine z_slen O hscr zd_L_law_70 ?_
      refine z_imul O zd_L_law_71 ?_
      refine z_goto O (tgt := 78) zd_L_law_72 (by decide) ?_
      refine z_istore O (lv' := [(5, .int (4 * (Int32.ofNat L))), (0, .ref b), (1, .ref (zq w 0)), (2, .int x2), (3, .int x3), (4, .int x4)]) zd_L_law_78 (Nat.le_of_ble_eq_true rfl) rfl ?_
      refine z_sub (lv' := [(0, .ref b), (1, .ref (zq w 0)), (2, .int x2), (3, .int x3), (4, .int x4), (5, .int (4 * (Int32.ofNat L)))]) [1, 2, 3, 4, 5, 0] rfl ?_
      exact kk (4 * (Int32.ofNat L)) ht.symm
  · have ht := ht.trans (if_neg c11)
    refine z_bipush O (v := 120) zd_L_law_56 (by decide) ?_
    refine z_goto O (tgt := 78) zd_L_law_58 (by decide) ?_
    refine z_istore O (lv' := [(5, .int 120), (0, .ref b), (1, .ref (zq w 0)), (2, .int x2), (3, .int x3), (4, .int x4)]) zd_L_law_78 (Nat.le_of_ble_eq_true rfl) rfl ?_
    refine z_sub (lv' := [(0, .ref b), (1, .ref (zq w 0)), (2, .int x2), (3, .int x3), (4, .int x4), (5, .int 120)]) [1, 2, 3, 4, 5, 0] rfl ?_
    exact kk 120 ht.symm
set_option maxHeartbeats 4000000 in
set_option maxRecDepth 100000 in
theorem S_L_law_95 {K : zCx} {w : zWd} {l : Launch} (O : zOk K w code "SluiceStreamLaw" 17 10 380) (hl0 : kl K = l) {b L : Nat} {xs : Nat → Int32} (hscr : zScr K b L xs) (σ : zSt) (x2 : Int32) (x3 : Int32) (x4 : Int32) (x5 : Int32) (x6 : Int32) (ko : ks_L_law_95 L xs σ x2 x3 x4 x5 x6) (kk : ∀ r, r = s_L_law_95 L xs σ x2 x3 x4 x5 x6 → Z K w σ [(0, .ref b), (1, .ref (zq w 0)), (2, .int x2), (3, .int x3), (4, .int x4), (5, .int x5), (6, .int x6), (7, .int r)] [] 129) : Z K w σ [(0, .ref b), (1, .ref (zq w 0)), (2, .int x2), (3, .int x3), (4, .int x4), (5, .int x5), (6, .int x6)] [] 95 := by
  have ht : s_L_law_95 L xs σ x2 x3 x4 x5 x6 = s_L_law_95 L xs σ x2 x3 x4 x5 x6 := rfl
  refine z_iload O zd_L_law_95 6 rfl ?_
  refine z_aload_n O zd_L_law_97 rfl 0 rfl ?_
  refine z_slen O hscr zd_L_law_98 ?_
  refine z_icmp_ge O (tgt := 109) zd_L_law_99 (by decide) (fun c16 => ?_) (fun c16 => ?_)
  · have ht := ht.trans (if_pos c16)
    refine z_ldc O zm672 zd_L_law_109 ?_
    refine z_iload O zd_L_law_111 6 rfl ?_
    refine z_imul O zd_L_law_113 ?_
    refine z_iload O zd_L_law_114 6 rfl ?_
    refine z_imul O zd_L_law_116 ?_
    refine z_sipush O (v := 11003) zd_L_law_117 (by decide) ?_
    refine z_iload O zd_L_law_120 6 rfl ?_
    refine z_imul O zd_L_law_122 ?_
    refine z_iadd O zd_L_law_123 ?_
    refine z_bipush O (v := 21) zd_L_law_124 (by decide) ?_
    refine z_iadd O zd_L_law_126 ?_
    refine z_istore O (lv' := [(7, .int ((((330017 * x6) * x6) + (11003 * x6)) + 21)), (0, .ref b), (1, .ref (zq w 0)), (2, .int x2), (3, .int x3), (4, .int x4), (5, .int x5), (6, .int x6)]) zd_L_law_127 (Nat.le_of_ble_eq_true rfl) rfl ?_
    refine z_sub (lv' := [(0, .ref b), (1, .ref (zq w 0)), (2, .int x2), (3, .int x3), (4, .int x4), (5, .int x5), (6, .int x6), (7, .int ((((330017 * x6) * x6) + (11003 * x6)) + 21))]) [1, 2, 3, 4, 5, 6, 7, 0] rfl ?_
    exact kk ((((330017 * x6) * x6) + (11003 * x6)) + 21) ht.symm
  · have ht := ht.trans (if_neg c16)
    have ko := ko c16
    refine z_aload_n O zd_L_law_102 rfl 0 rfl ?_
    refine z_iload O zd_L_law_103 6 rfl ?_
    have b17 := ko
    refine z_sld O hscr b17 (v := (xs x6.toNatClampNeg)) rfl zd_L_law_105 ?_
    refine z_goto O (tgt := 127) zd_L_law_106 (by decide) ?_
    refine z_istore O (lv' := [(7, .int (xs x6.toNatClampNeg)), (0, .ref b), (1, .ref (zq w 0)), (2, .int x2), (3, .int x3), (4, .int x4), (5, .int x5), (6, .int x6)]) zd_L_law_127 (Nat.le_of_ble_eq_true rfl) rfl ?_
    refine z_sub (lv' := [(0, .ref b), (1, .ref (zq w 0)), (2, .int x2), (3, .int x3), (4, .int x4), (5, .int x5), (6, .int x6), (7, .int (xs x6.toNatClampNeg))]) [1, 2, 3, 4, 5, 6, 7, 0] rfl ?_
    exact kk (xs x6.toNatClampNeg) ht.symm
set_option maxHeartbeats 4000000 in
set_option maxRecDepth 100000 in
theorem S_L_law_135 {K : zCx} {w : zWd} {l : Launch} (O : zOk K w code "SluiceStreamLaw" 17 10 380) (hl0 : kl K = l) {b L : Nat} {xs : Nat → Int32} (hscr : zScr K b L xs) (σ : zSt) (x2 : Int32) (x3 : Int32) (x4 : Int32) (x5 : Int32) (x6 : Int32) (x7 : Int32) (x8 : Int32) (kk : ∀ r, r = s_L_law_135 L xs σ x2 x3 x4 x5 x6 x7 x8 → Z K w σ [(0, .ref b), (1, .ref (zq w 0)), (2, .int x2), (3, .int x3), (4, .int x4), (5, .int x5), (6, .int x6), (8, .int x8), (9, .int r)] [] 151) : Z K w σ [(0, .ref b), (1, .ref (zq w 0)), (2, .int x2), (3, .int x3), (4, .int x4), (5, .int x5), (6, .int x6), (7, .int x7), (8, .int x8)] [] 135 := by
  have ht : s_L_law_135 L xs σ x2 x3 x4 x5 x6 x7 x8 = s_L_law_135 L xs σ x2 x3 x4 x5 x6 x7 x8 := rfl
  refine z_iload O zd_L_law_135 6 rfl ?_
  refine z_if_ne O (tgt := 144) zd_L_law_137 (by decide) (fun c19 => ?_) (fun c19 => ?_)
  · have ht := ht.trans (if_neg c19)
    refine z_iload O zd_L_law_144 7 rfl ?_
    refine z_bipush O (v := 15) zd_L_law_146 (by decide) ?_
    refine z_iand O zd_L_law_148 ?_
    refine z_istore O (lv' := [(9, .int (x7 &&& 15)), (0, .ref b), (1, .ref (zq w 0)), (2, .int x2), (3, .int x3), (4, .int x4), (5, .int x5), (6, .int x6), (7, .int x7), (8, .int x8)]) zd_L_law_149 (Nat.le_of_ble_eq_true rfl) rfl ?_
    refine z_sub (lv' := [(0, .ref b), (1, .ref (zq w 0)), (2, .int x2), (3, .int x3), (4, .int x4), (5, .int x5), (6, .int x6), (8, .int x8), (9, .int (x7 &&& 15))]) [1, 2, 3, 4, 5, 6, 7, 9, 0] rfl ?_
    exact kk (x7 &&& 15) ht.symm
  · have ht := ht.trans (if_pos c19)
    refine z_iconst O (v := 0) zd_L_law_140 (by decide) ?_
    refine z_goto O (tgt := 149) zd_L_law_141 (by decide) ?_
    refine z_istore O (lv' := [(9, .int 0), (0, .ref b), (1, .ref (zq w 0)), (2, .int x2), (3, .int x3), (4, .int x4), (5, .int x5), (6, .int x6), (7, .int x7), (8, .int x8)]) zd_L_law_149 (Nat.le_of_ble_eq_true rfl) rfl ?_
    refine z_sub (lv' := [(0, .ref b), (1, .ref (zq w 0)), (2, .int x2), (3, .int x3), (4, .int x4), (5, .int x5), (6, .int x6), (8, .int x8), (9, .int 0)]) [1, 2, 3, 4, 5, 6, 7, 9, 0] rfl ?_
    exact kk 0 ht.symm
set_option maxHeartbeats 4000000 in
set_option maxRecDepth 100000 in
theorem S_L_law_157 {K : zCx} {w : zWd} {l : Launch} (O : zOk K w code "SluiceStreamLaw" 17 10 380) (hl0 : kl K = l) {b L : Nat} {xs : Nat → Int32} (hscr : zScr K b L xs) (σ : zSt) (x2 : Int32) (x3 : Int32) (x4 : Int32) (x5 : Int32) (x6 : Int32) (x8 : Int32) (x9 : Int32) (x10 : Int32) (ko : ks_L_law_157 L xs σ x2 x3 x4 x5 x6 x8 x9 x10) (kk : ∀ r, r = s_L_law_157 L xs σ x2 x3 x4 x5 x6 x8 x9 x10 → Z K w σ [(0, .ref b), (1, .ref (zq w 0)), (2, .int x2), (3, .int x3), (4, .int x4), (5, .int x5), (6, .int x6), (8, .int x8), (9, .int x9), (10, .int x10), (11, .int r)] [] 190) : Z K w σ [(0, .ref b), (1, .ref (zq w 0)), (2, .int x2), (3, .int x3), (4, .int x4), (5, .int x5), (6, .int x6), (8, .int x8), (9, .int x9), (10, .int x10)] [] 157 := by
  have ht : s_L_law_157 L xs σ x2 x3 x4 x5 x6 x8 x9 x10 = s_L_law_157 L xs σ x2 x3 x4 x5 x6 x8 x9 x10 := rfl
  refine z_iload O zd_L_law_157 9 rfl ?_
  refine z_if_ne O (tgt := 166) zd_L_law_159 (by decide) (fun c23 => ?_) (fun c23 => ?_)
  · have ht := ht.trans (if_neg c23)
    have ko := ko c23
    refine z_iload O zd_L_law_166 7 rfl ?_
    refine z_iconst O (v := 1) zd_L_law_168 (by decide) ?_
    refine z_iand O zd_L_law_169 ?_
    refine z_if_ne O (tgt := 177) zd_L_law_170 (by decide) (fun c24 => ?_) (fun c24 => ?_)
    · have ht := ht.trans (if_neg c24)
      have ko := ko c24
      refine z_iload O zd_L_law_177 7 rfl ?_
      refine z_iconst O (v := 1) zd_L_law_179 (by decide) ?_
      refine z_ishr O zd_L_law_180 ?_
      refine z_sipush O (v := 255) zd_L_law_181 (by decide) ?_
      refine z_iand O zd_L_law_184 ?_
      refine z_iload O zd_L_law_185 9 rfl ?_
      have b25 := ko
      refine z_irem O zd_L_law_187 b25 ?_
      refine z_istore O (lv' := [(11, .int ((((x8 >>> ((1 : Int32) &&& (31 : Int32))) : Int32) &&& 255) - (((x8 >>> ((1 : Int32) &&& (31 : Int32))) : Int32) &&& 255) / x10 * x10)), (0, .ref b), (1, .ref (zq w 0)), (2, .int x2), (3, .int x3), (4, .int x4), (5, .int x5), (6, .int x6), (8, .int x8), (9, .int x9), (10, .int x10)]) zd_L_law_188 (Nat.le_of_ble_eq_true rfl) rfl ?_
      refine z_sub (lv' := [(0, .ref b), (1, .ref (zq w 0)), (2, .int x2), (3, .int x3), (4, .int x4), (5, .int x5), (6, .int x6), (8, .int x8), (9, .int x9), (10, .int x10), (11, .int ((((x8 >>> ((1 : Int32) &&& (31 : Int32))) : Int32) &&& 255) - (((x8 >>> ((1 : Int32) &&& (31 : Int32))) : Int32) &&& 255) / x10 * x10))]) [1, 2, 3, 4, 5, 6, 7, 8, 9, 10, 0] rfl ?_
      exact kk ((((x8 >>> ((1 : Int32) &&& (31 : Int32))) : Int32) &&& 255) - (((x8 >>> ((1 : Int32) &&& (31 : Int32))) : Int32) &&& 255) / x10 * x10) ht.symm
    · have ht := ht.trans (if_pos c24)
      refine z_iconst O (v := 0) zd_L_law_173 (by decide) ?_
      refine z_goto O (tgt := 188) zd_L_law_174 (by decide) ?_
      refine z_istore O (lv' := [(11, .int 0), (0, .ref b), (1, .ref (zq w 0)), (2, .int x2), (3, .int x3), (4, .int x4), (5, .int x5), (6, .int x6), (8, .int x8), (9, .int x9), (10, .int x10)]) zd_L_law_188 (Nat.le_of_ble_eq_true rfl) rfl ?_
      refine z_sub (lv' := [(0, .ref b), (1, .ref (zq w 0)), (2, .int x2), (3, .int x3), (4, .int x4), (5, .int x5), (6, .int x6), (8, .int x8), (9, .int x9), (10, .int x10), (11, .int 0)]) [1, 2, 3, 4, 5, 6, 7, 8, 9, 10, 0] rfl ?_
      exact kk 0 ht.symm
  · have ht := ht.trans (if_pos c23)
    refine z_iconst O (v := (-1)) zd_L_law_162 (by decide) ?_
    refine z_goto O (tgt := 188) zd_L_law_163 (by decide) ?_
    refine z_istore O (lv' := [(11, .int (-1)), (0, .ref b), (1, .ref (zq w 0)), (2, .int x2), (3, .int x3), (4, .int x4), (5, .int x5), (6, .int x6), (8, .int x8), (9, .int x9), (10, .int x10)]) zd_L_law_188 (Nat.le_of_ble_eq_true rfl) rfl ?_
    refine z_sub (lv' := [(0, .ref b), (1, .ref (zq w 0)), (2, .int x2), (3, .int x3), (4, .int x4), (5, .int x5), (6, .int x6), (8, .int x8), (9, .int x9), (10, .int x10), (11, .int (-1))]) [1, 2, 3, 4, 5, 6, 7, 8, 9, 10, 0] rfl ?_
    exact kk (-1) ht.symm
set_option maxHeartbeats 4000000 in
set_option maxRecDepth 100000 in
theorem S_L_law_190 {K : zCx} {w : zWd} {l : Launch} (O : zOk K w code "SluiceStreamLaw" 17 10 380) (hl0 : kl K = l) {b L : Nat} {xs : Nat → Int32} (hscr : zScr K b L xs) (σ : zSt) (x2 : Int32) (x3 : Int32) (x4 : Int32) (x5 : Int32) (x6 : Int32) (x8 : Int32) (x9 : Int32) (x10 : Int32) (x11 : Int32) (ko : ks_L_law_190 L xs σ x2 x3 x4 x5 x6 x8 x9 x10 x11) (kk : ∀ r, r = s_L_law_190 L xs σ x2 x3 x4 x5 x6 x8 x9 x10 x11 → Z K w σ [(0, .ref b), (1, .ref (zq w 0)), (2, .int x2), (3, .int x3), (4, .int x4), (5, .int x5), (6, .int x6), (8, .int x8), (9, .int x9), (10, .int x10), (11, .int x11), (12, .int r)] [] 227) : Z K w σ [(0, .ref b), (1, .ref (zq w 0)), (2, .int x2), (3, .int x3), (4, .int x4), (5, .int x5), (6, .int x6), (8, .int x8), (9, .int x9), (10, .int x10), (11, .int x11)] [] 190 := by
  have ht : s_L_law_190 L xs σ x2 x3 x4 x5 x6 x8 x9 x10 x11 = s_L_law_190 L xs σ x2 x3 x4 x5 x6 x8 x9 x10 x11 := rfl
  refine z_aload_n O zd_L_law_190 rfl 1 rfl ?_
  refine z_callri O hl0 (st := []) 0 5 (fs := zo0 w σ) rfl rfl (c_X_acks l w σ) zl_L_81 zm448 zm449 rfl rfl (Nat.le_of_ble_eq_true rfl) (Nat.le_of_ble_eq_true rfl) (Nat.le_of_ble_eq_true rfl) zd_L_law_191 (fun r27 e28 => ?_)
  have ht := ht.trans (zlet_e e28)
  have ko := ko r27 e28
  refine z_if_ne O (tgt := 201) zd_L_law_194 (by decide) (fun c29 => ?_) (fun c29 => ?_)
  · have ht := ht.trans (if_neg c29)
    have ko := ko c29
    refine z_iload O zd_L_law_201 7 rfl ?_
    refine z_iconst O (v := 1) zd_L_law_203 (by decide) ?_
    refine z_iand O zd_L_law_204 ?_
    refine z_if_ne O (tgt := 212) zd_L_law_205 (by decide) (fun c30 => ?_) (fun c30 => ?_)
    · have ht := ht.trans (if_neg c30)
      have ko := ko c30
      refine z_iload O zd_L_law_212 7 rfl ?_
      refine z_iconst O (v := 1) zd_L_law_214 (by decide) ?_
      refine z_ishr O zd_L_law_215 ?_
      refine z_sipush O (v := 255) zd_L_law_216 (by decide) ?_
      refine z_iand O zd_L_law_219 ?_
      refine z_aload_n O zd_L_law_220 rfl 1 rfl ?_
      refine z_callri O hl0 (st := [.int (((x8 >>> ((1 : Int32) &&& (31 : Int32))) : Int32) &&& 255)]) 0 5 (fs := zo0 w σ) rfl rfl (c_X_acks l w σ) zl_L_81 zm448 zm449 rfl rfl (Nat.le_of_ble_eq_true rfl) (Nat.le_of_ble_eq_true rfl) (Nat.le_of_ble_eq_true rfl) zd_L_law_221 (fun r31 e32 => ?_)
      have ht := ht.trans (zlet_e e32)
      have ko := ko r31 e32
      have b33 := ko
      refine z_irem O zd_L_law_224 b33 ?_
      refine z_istore O (lv' := [(12, .int ((((x8 >>> ((1 : Int32) &&& (31 : Int32))) : Int32) &&& 255) - (((x8 >>> ((1 : Int32) &&& (31 : Int32))) : Int32) &&& 255) / r31 * r31)), (0, .ref b), (1, .ref (zq w 0)), (2, .int x2), (3, .int x3), (4, .int x4), (5, .int x5), (6, .int x6), (8, .int x8), (9, .int x9), (10, .int x10), (11, .int x11)]) zd_L_law_225 (Nat.le_of_ble_eq_true rfl) rfl ?_
      refine z_sub (lv' := [(0, .ref b), (1, .ref (zq w 0)), (2, .int x2), (3, .int x3), (4, .int x4), (5, .int x5), (6, .int x6), (8, .int x8), (9, .int x9), (10, .int x10), (11, .int x11), (12, .int ((((x8 >>> ((1 : Int32) &&& (31 : Int32))) : Int32) &&& 255) - (((x8 >>> ((1 : Int32) &&& (31 : Int32))) : Int32) &&& 255) / r31 * r31))]) [1, 2, 3, 4, 5, 6, 7, 8, 9, 10, 11, 0] rfl ?_
      exact kk ((((x8 >>> ((1 : Int32) &&& (31 : Int32))) : Int32) &&& 255) - (((x8 >>> ((1 : Int32) &&& (31 : Int32))) : Int32) &&& 255) / r31 * r31) ht.symm
    · have ht := ht.trans (if_pos c30)
      refine z_iconst O (v := 0) zd_L_law_208 (by decide) ?_
      refine z_goto O (tgt := 225) zd_L_law_209 (by decide) ?_
      refine z_istore O (lv' := [(12, .int 0), (0, .ref b), (1, .ref (zq w 0)), (2, .int x2), (3, .int x3), (4, .int x4), (5, .int x5), (6, .int x6), (8, .int x8), (9, .int x9), (10, .int x10), (11, .int x11)]) zd_L_law_225 (Nat.le_of_ble_eq_true rfl) rfl ?_
      refine z_sub (lv' := [(0, .ref b), (1, .ref (zq w 0)), (2, .int x2), (3, .int x3), (4, .int x4), (5, .int x5), (6, .int x6), (8, .int x8), (9, .int x9), (10, .int x10), (11, .int x11), (12, .int 0)]) [1, 2, 3, 4, 5, 6, 7, 8, 9, 10, 11, 0] rfl ?_
      exact kk 0 ht.symm
  · have ht := ht.trans (if_pos c29)
    refine z_iconst O (v := (-1)) zd_L_law_197 (by decide) ?_
    refine z_goto O (tgt := 225) zd_L_law_198 (by decide) ?_
    refine z_istore O (lv' := [(12, .int (-1)), (0, .ref b), (1, .ref (zq w 0)), (2, .int x2), (3, .int x3), (4, .int x4), (5, .int x5), (6, .int x6), (8, .int x8), (9, .int x9), (10, .int x10), (11, .int x11)]) zd_L_law_225 (Nat.le_of_ble_eq_true rfl) rfl ?_
    refine z_sub (lv' := [(0, .ref b), (1, .ref (zq w 0)), (2, .int x2), (3, .int x3), (4, .int x4), (5, .int x5), (6, .int x6), (8, .int x8), (9, .int x9), (10, .int x10), (11, .int x11), (12, .int (-1))]) [1, 2, 3, 4, 5, 6, 7, 8, 9, 10, 11, 0] rfl ?_
    exact kk (-1) ht.symm
set_option maxHeartbeats 4000000 in
set_option maxRecDepth 100000 in
theorem S_L_law_600 {K : zCx} {w : zWd} {l : Launch} (O : zOk K w code "SluiceStreamLaw" 17 10 380) (hl0 : kl K = l) {b L : Nat} {xs : Nat → Int32} (hscr : zScr K b L xs) (σ : zSt) (x2 : Int32) (x3 : Int32) (x5 : Int32) (x6 : Int32) (x8 : Int32) (x13 : Int32) (kk : ∀ r, r = s_L_law_600 L xs σ x2 x3 x5 x6 x8 x13 → Z K w σ [(0, .ref b), (1, .ref (zq w 0)), (2, .int x2), (3, .int x3), (4, .int r), (5, .int x5), (6, .int x6), (8, .int x8)] [] 619) : Z K w σ [(0, .ref b), (1, .ref (zq w 0)), (2, .int x2), (3, .int x3), (5, .int x5), (6, .int x6), (8, .int x8), (13, .int x13)] [] 600 := by
  have ht : s_L_law_600 L xs σ x2 x3 x5 x6 x8 x13 = s_L_law_600 L xs σ x2 x3 x5 x6 x8 x13 := rfl
  refine z_iload O zd_L_law_600 7 rfl ?_
  refine z_iload_n O zd_L_law_602 rfl 2 rfl ?_
  refine z_iload_n O zd_L_law_603 rfl 3 rfl ?_
  refine z_iadd O zd_L_law_604 ?_
  refine z_sipush O (v := 256) zd_L_law_605 (by decide) ?_
  refine z_irem O zd_L_law_608 (by decide) ?_
  refine z_icmp_ne O (tgt := 616) zd_L_law_609 (by decide) (fun c58 => ?_) (fun c58 => ?_)
  · have ht := ht.trans (if_neg c58)
    refine z_iconst O (v := 0) zd_L_law_616 (by decide) ?_
    refine z_istore O (lv' := [(4, .int 0), (0, .ref b), (1, .ref (zq w 0)), (2, .int x2), (3, .int x3), (5, .int x5), (6, .int x6), (8, .int x8), (13, .int x13)]) zd_L_law_617 (Nat.le_of_ble_eq_true rfl) rfl ?_
    refine z_sub (lv' := [(0, .ref b), (1, .ref (zq w 0)), (2, .int x2), (3, .int x3), (4, .int 0), (5, .int x5), (6, .int x6), (8, .int x8)]) [1, 2, 3, 4, 0, 5, 6, 7] rfl ?_
    exact kk 0 ht.symm
  · have ht := ht.trans (if_pos c58)
    refine z_iconst O (v := 1) zd_L_law_612 (by decide) ?_
    refine z_goto O (tgt := 617) zd_L_law_613 (by decide) ?_
    refine z_istore O (lv' := [(4, .int 1), (0, .ref b), (1, .ref (zq w 0)), (2, .int x2), (3, .int x3), (5, .int x5), (6, .int x6), (8, .int x8), (13, .int x13)]) zd_L_law_617 (Nat.le_of_ble_eq_true rfl) rfl ?_
    refine z_sub (lv' := [(0, .ref b), (1, .ref (zq w 0)), (2, .int x2), (3, .int x3), (4, .int 1), (5, .int x5), (6, .int x6), (8, .int x8)]) [1, 2, 3, 4, 0, 5, 6, 7] rfl ?_
    exact kk 1 ht.symm
set_option maxHeartbeats 4000000 in
set_option maxRecDepth 100000 in
theorem S_L_law_622 {K : zCx} {w : zWd} {l : Launch} (O : zOk K w code "SluiceStreamLaw" 17 10 380) (hl0 : kl K = l) {b L : Nat} {xs : Nat → Int32} (hscr : zScr K b L xs) (σ : zSt) (x2 : Int32) (x3 : Int32) (x4 : Int32) (x5 : Int32) (x6 : Int32) (x8 : Int32) (ko : ks_L_law_622 L xs σ x2 x3 x4 x5 x6 x8) (kk : ∀ r, r = s_L_law_622 L xs σ x2 x3 x4 x5 x6 x8 → Z K w r.2 [(0, .ref b), (1, .ref (zq w 0)), (2, .int x2), (3, .int x3), (4, .int x4), (5, .int x5), (6, .int x6), (8, .int x8), (13, .int r.1)] [] 645) : Z K w σ [(0, .ref b), (1, .ref (zq w 0)), (2, .int x2), (3, .int x3), (4, .int x4), (5, .int x5), (6, .int x6), (8, .int x8)] [] 622 := by
  have ht : s_L_law_622 L xs σ x2 x3 x4 x5 x6 x8 = s_L_law_622 L xs σ x2 x3 x4 x5 x6 x8 := rfl
  refine z_iload O zd_L_law_622 7 rfl ?_
  refine z_iconst O (v := 2) zd_L_law_624 (by decide) ?_
  refine z_iand O zd_L_law_625 ?_
  refine z_if_eq O (tgt := 635) zd_L_law_626 (by decide) (fun c60 => ?_) (fun c60 => ?_)
  · have ht := ht.trans (if_pos c60)
    have ko := ko.1 c60
    refine z_aload_n O zd_L_law_635 rfl 1 rfl ?_
    refine z_calli O hl0 (st := []) 0 5 (fs := zo0 w σ) rfl rfl (c_X_read l w σ ko) zl_L_115 zm272 zm273 rfl rfl (Nat.le_of_ble_eq_true rfl) (Nat.le_of_ble_eq_true rfl) (Nat.le_of_ble_eq_true rfl) zd_L_law_636 (fun r61 u62 e63 => ?_)
    have ht := ht.trans (zseq_e e63)
    refine z_goto O (tgt := 643) zd_L_law_639 (by decide) ?_
    refine z_istore O (lv' := [(13, .int r61), (0, .ref b), (1, .ref (zq w 0)), (2, .int x2), (3, .int x3), (4, .int x4), (5, .int x5), (6, .int x6), (8, .int x8)]) zd_L_law_643 (Nat.le_of_ble_eq_true rfl) rfl ?_
    refine z_sub (lv' := [(0, .ref b), (1, .ref (zq w 0)), (2, .int x2), (3, .int x3), (4, .int x4), (5, .int x5), (6, .int x6), (8, .int x8), (13, .int r61)]) [1, 2, 3, 4, 5, 6, 7, 8, 0] rfl ?_
    exact kk (r61, u62) ht.symm
  · have ht := ht.trans (if_neg c60)
    have ko := ko.2 c60
    refine z_iload_n O zd_L_law_629 rfl 3 rfl ?_
    refine z_iconst O (v := 5) zd_L_law_630 (by decide) ?_
    refine z_irem O zd_L_law_631 (by decide) ?_
    refine z_if_le O (tgt := 642) zd_L_law_632 (by decide) (fun c64 => ?_) (fun c64 => ?_)
    · have ht := ht.trans (if_pos c64)
      refine z_iconst O (v := (-1)) zd_L_law_642 (by decide) ?_
      refine z_istore O (lv' := [(13, .int (-1)), (0, .ref b), (1, .ref (zq w 0)), (2, .int x2), (3, .int x3), (4, .int x4), (5, .int x5), (6, .int x6), (8, .int x8)]) zd_L_law_643 (Nat.le_of_ble_eq_true rfl) rfl ?_
      refine z_sub (lv' := [(0, .ref b), (1, .ref (zq w 0)), (2, .int x2), (3, .int x3), (4, .int x4), (5, .int x5), (6, .int x6), (8, .int x8), (13, .int (-1))]) [1, 2, 3, 4, 5, 6, 7, 8, 0] rfl ?_
      exact kk ((-1), σ) ht.symm
    · have ht := ht.trans (if_neg c64)
      have ko := ko c64
      refine z_aload_n O zd_L_law_635 rfl 1 rfl ?_
      refine z_calli O hl0 (st := []) 0 5 (fs := zo0 w σ) rfl rfl (c_X_read l w σ ko) zl_L_115 zm272 zm273 rfl rfl (Nat.le_of_ble_eq_true rfl) (Nat.le_of_ble_eq_true rfl) (Nat.le_of_ble_eq_true rfl) zd_L_law_636 (fun r65 u66 e67 => ?_)
      have ht := ht.trans (zseq_e e67)
      refine z_goto O (tgt := 643) zd_L_law_639 (by decide) ?_
      refine z_istore O (lv' := [(13, .int r65), (0, .ref b), (1, .ref (zq w 0)), (2, .int x2), (3, .int x3), (4, .int x4), (5, .int x5), (6, .int x6), (8, .int x8)]) zd_L_law_643 (Nat.le_of_ble_eq_true rfl) rfl ?_
      refine z_sub (lv' := [(0, .ref b), (1, .ref (zq w 0)), (2, .int x2), (3, .int x3), (4, .int x4), (5, .int x5), (6, .int x6), (8, .int x8), (13, .int r65)]) [1, 2, 3, 4, 5, 6, 7, 8, 0] rfl ?_
      exact kk (r65, u66) ht.symm
set_option maxHeartbeats 4000000 in
set_option maxRecDepth 100000 in
theorem L_L_law_590 {K : zCx} {w : zWd} {l : Launch} (O : zOk K w code "SluiceStreamLaw" 17 10 380) (hl0 : kl K = l) {b L : Nat} {xs : Nat → Int32} (hscr : zScr K b L xs) (x2 x5 x6 x8 : Int32) : ∀ (m : Nat) (σ : zSt) (x3 x4 x13 : Int32), kl_L_law_590 L xs x2 x5 x6 x8 m σ x3 x4 x13 → (∀ r, r = (l_L_law_590 L xs x2 x5 x6 x8 m σ x3 x4 x13) → Z K w r.2.2 [(0, .ref b), (1, .ref (zq w 0)), (2, .int x2), (3, .int r.1), (4, .int r.2.1), (5, .int x5), (6, .int x6)] [] 648) → Z K w σ [(0, .ref b), (1, .ref (zq w 0)), (2, .int x2), (3, .int x3), (4, .int x4), (5, .int x5), (6, .int x6), (8, .int x8), (13, .int x13)] [] 590 := by
  intro m
  induction m with
  | zero => intro σ x3 x4 x13 ko; exact ko.elim
  | succ m ih =>
    intro σ x3 x4 x13 ko kk
    have ht : l_L_law_590 L xs x2 x5 x6 x8 (m + 1) σ x3 x4 x13 = l_L_law_590 L xs x2 x5 x6 x8 (m + 1) σ x3 x4 x13 := rfl
    refine z_iload O zd_L_law_590 8 rfl ?_
    refine z_if_lt O (tgt := 648) zd_L_law_592 (by decide) (fun c56 => ?_) (fun c56 => ?_)
    · have ht := ht.trans (if_pos c56)
      refine z_sub (lv' := [(0, .ref b), (1, .ref (zq w 0)), (2, .int x2), (3, .int x3), (4, .int x4), (5, .int x5), (6, .int x6)]) [0, 1, 2, 3, 4, 5, 6] rfl ?_
      exact kk (x3, x4, σ) ht.symm
    · have ht := ht.trans (if_neg c56)
      have ko := ko c56
      refine z_iload O zd_L_law_595 4 rfl ?_
      refine z_if_eq O (tgt := 648) zd_L_law_597 (by decide) (fun c57 => ?_) (fun c57 => ?_)
      · have ht := ht.trans (if_pos c57)
        refine z_sub (lv' := [(0, .ref b), (1, .ref (zq w 0)), (2, .int x2), (3, .int x3), (4, .int x4), (5, .int x5), (6, .int x6)]) [0, 1, 2, 3, 4, 5, 6] rfl ?_
        exact kk (x3, x4, σ) ht.symm
      · have ht := ht.trans (if_neg c57)
        have ko := ko c57
        refine z_sub (lv' := [(0, .ref b), (1, .ref (zq w 0)), (2, .int x2), (3, .int x3), (5, .int x5), (6, .int x6), (8, .int x8), (13, .int x13)]) [0, 1, 2, 3, 5, 6, 7, 8] rfl ?_
        refine S_L_law_600 O hl0 hscr σ x2 x3 x5 x6 x8 x13 (fun r59 er59 => ?_)
        have ht := ht.trans (zlet_e er59)
        have ko := ko r59 er59
        refine z_iinc O (v := (x3 + 1)) (lv' := [(3, .int (x3 + 1)), (0, .ref b), (1, .ref (zq w 0)), (2, .int x2), (4, .int r59), (5, .int x5), (6, .int x6), (8, .int x8)]) zd_L_law_619 3 rfl rfl (Nat.le_of_ble_eq_true rfl) rfl ?_
        refine z_sub (lv' := [(0, .ref b), (1, .ref (zq w 0)), (2, .int x2), (3, .int (x3 + 1)), (4, .int r59), (5, .int x5), (6, .int x6), (8, .int x8)]) [1, 2, 3, 0, 4, 5, 6, 7] rfl ?_
        refine S_L_law_622 O hl0 hscr σ x2 (x3 + 1) r59 x5 x6 x8 ko.1 (fun r68 er68 => ?_)
        have ht := ht.trans (zlet_e er68)
        have ko := ko.2 r68 er68
        refine z_goto O (tgt := 590) zd_L_law_645 (by decide) ?_
        refine z_sub (lv' := [(0, .ref b), (1, .ref (zq w 0)), (2, .int x2), (3, .int (x3 + 1)), (4, .int r59), (5, .int x5), (6, .int x6), (8, .int x8), (13, .int r68.1)]) [0, 1, 2, 3, 4, 5, 6, 7, 8] rfl ?_
        exact ih r68.2 (x3 + 1) r59 r68.1 ko (fun r e => kk r (e.trans ht.symm))
set_option maxHeartbeats 4000000 in
set_option maxRecDepth 100000 in
theorem S_L_law_577 {K : zCx} {w : zWd} {l : Launch} (O : zOk K w code "SluiceStreamLaw" 17 10 380) (hl0 : kl K = l) {b L : Nat} {xs : Nat → Int32} (hscr : zScr K b L xs) (σ : zSt) (x2 : Int32) (x3 : Int32) (x4 : Int32) (x5 : Int32) (x6 : Int32) (x8 : Int32) (x9 : Int32) (ko : ks_L_law_577 L xs σ x2 x3 x4 x5 x6 x8 x9) (kk : ∀ r, r = s_L_law_577 L xs σ x2 x3 x4 x5 x6 x8 x9 → Z K w r.2.2 [(0, .ref b), (1, .ref (zq w 0)), (2, .int x2), (3, .int r.1), (4, .int r.2.1), (5, .int x5), (6, .int x6)] [] 726) : Z K w σ [(0, .ref b), (1, .ref (zq w 0)), (2, .int x2), (3, .int x3), (4, .int x4), (5, .int x5), (6, .int x6), (8, .int x8), (9, .int x9)] [] 577 := by
  have ht : s_L_law_577 L xs σ x2 x3 x4 x5 x6 x8 x9 = s_L_law_577 L xs σ x2 x3 x4 x5 x6 x8 x9 := rfl
  refine z_iload O zd_L_law_577 8 rfl ?_
  refine z_bipush O (v := 15) zd_L_law_579 (by decide) ?_
  refine z_icmp_ge O (tgt := 671) zd_L_law_581 (by decide) (fun c42 => ?_) (fun c42 => ?_)
  · have ht := ht.trans (if_pos c42)
    have ko := ko.1 c42
    refine z_aload_n O zd_L_law_671 rfl 1 rfl ?_
    refine z_callri O hl0 (st := []) 0 5 (fs := zo0 w σ) rfl rfl (c_X_time l w σ) zl_L_65 zm456 zm457 rfl rfl (Nat.le_of_ble_eq_true rfl) (Nat.le_of_ble_eq_true rfl) (Nat.le_of_ble_eq_true rfl) zd_L_law_672 (fun r43 e44 => ?_)
    have ht := ht.trans (zlet_e e44)
    have ko := ko r43 e44
    refine z_istore O (lv' := [(13, .int r43), (0, .ref b), (1, .ref (zq w 0)), (2, .int x2), (3, .int x3), (4, .int x4), (5, .int x5), (6, .int x6), (8, .int x8), (9, .int x9)]) zd_L_law_675 (Nat.le_of_ble_eq_true rfl) rfl ?_
    refine z_iconst O (v := 1) zd_L_law_677 (by decide) ?_
    refine z_iload O zd_L_law_678 8 rfl ?_
    refine z_iconst O (v := 1) zd_L_law_680 (by decide) ?_
    refine z_ishr O zd_L_law_681 ?_
    refine z_bipush O (v := 15) zd_L_law_682 (by decide) ?_
    refine z_iand O zd_L_law_684 ?_
    refine z_iadd O zd_L_law_685 ?_
    refine z_istore O (lv' := [(14, .int (1 + (((x8 >>> ((1 : Int32) &&& (31 : Int32))) : Int32) &&& 15))), (13, .int r43), (0, .ref b), (1, .ref (zq w 0)), (2, .int x2), (3, .int x3), (4, .int x4), (5, .int x5), (6, .int x6), (8, .int x8), (9, .int x9)]) zd_L_law_686 (Nat.le_of_ble_eq_true rfl) rfl ?_
    refine z_aload_n O zd_L_law_688 rfl 3 rfl ?_
    refine z_iload O zd_L_law_689 0 rfl ?_
    refine z_calli O hl0 (st := []) 0 5 (fs := zo0 w σ) rfl rfl (c_X_tick l w σ (1 + (((x8 >>> ((1 : Int32) &&& (31 : Int32))) : Int32) &&& 15)) ko) zl_L_118 zm343 zm344 rfl rfl (Nat.le_of_ble_eq_true rfl) (Nat.le_of_ble_eq_true rfl) (Nat.le_of_ble_eq_true rfl) zd_L_law_691 (fun r45 u46 e47 => ?_)
    have ht := ht.trans (zseq_e e47)
    refine z_istore O (lv' := [(15, .int r45), (14, .int (1 + (((x8 >>> ((1 : Int32) &&& (31 : Int32))) : Int32) &&& 15))), (13, .int r43), (0, .ref b), (1, .ref (zq w 0)), (2, .int x2), (3, .int x3), (4, .int x4), (5, .int x5), (6, .int x6), (8, .int x8), (9, .int x9)]) zd_L_law_694 (Nat.le_of_ble_eq_true rfl) rfl ?_
    refine z_aload_n O zd_L_law_696 rfl 4 rfl ?_
    refine z_callri O hl0 (st := []) 0 5 (fs := zo0 w u46) rfl rfl (c_X_time l w u46) zl_L_65 zm456 zm457 rfl rfl (Nat.le_of_ble_eq_true rfl) (Nat.le_of_ble_eq_true rfl) (Nat.le_of_ble_eq_true rfl) zd_L_law_697 (fun r48 e49 => ?_)
    have ht := ht.trans (zlet_e e49)
    refine z_iload O zd_L_law_700 2 rfl ?_
    refine z_iload O zd_L_law_702 1 rfl ?_
    refine z_iadd O zd_L_law_704 ?_
    refine z_icmp_ne O (tgt := 723) zd_L_law_705 (by decide) (fun c50 => ?_) (fun c50 => ?_)
    · have ht := ht.trans (if_neg c50)
      refine z_iconst O (v := 0) zd_L_law_723 (by decide) ?_
      refine z_istore O (lv' := [(4, .int 0), (15, .int r45), (14, .int (1 + (((x8 >>> ((1 : Int32) &&& (31 : Int32))) : Int32) &&& 15))), (13, .int r43), (0, .ref b), (1, .ref (zq w 0)), (2, .int x2), (3, .int x3), (5, .int x5), (6, .int x6), (8, .int x8), (9, .int x9)]) zd_L_law_724 (Nat.le_of_ble_eq_true rfl) rfl ?_
      refine z_sub (lv' := [(0, .ref b), (1, .ref (zq w 0)), (2, .int x2), (3, .int x3), (4, .int 0), (5, .int x5), (6, .int x6)]) [4, 5, 6, 7, 0, 8, 9] rfl ?_
      exact kk (x3, 0, u46) ht.symm
    · have ht := ht.trans (if_pos c50)
      refine z_iload O zd_L_law_708 0 rfl ?_
      refine z_if_lt O (tgt := 723) zd_L_law_710 (by decide) (fun c51 => ?_) (fun c51 => ?_)
      · have ht := ht.trans (if_pos c51)
        refine z_iconst O (v := 0) zd_L_law_723 (by decide) ?_
        refine z_istore O (lv' := [(4, .int 0), (15, .int r45), (14, .int (1 + (((x8 >>> ((1 : Int32) &&& (31 : Int32))) : Int32) &&& 15))), (13, .int r43), (0, .ref b), (1, .ref (zq w 0)), (2, .int x2), (3, .int x3), (5, .int x5), (6, .int x6), (8, .int x8), (9, .int x9)]) zd_L_law_724 (Nat.le_of_ble_eq_true rfl) rfl ?_
        refine z_sub (lv' := [(0, .ref b), (1, .ref (zq w 0)), (2, .int x2), (3, .int x3), (4, .int 0), (5, .int x5), (6, .int x6)]) [4, 5, 6, 7, 0, 8, 9] rfl ?_
        exact kk (x3, 0, u46) ht.symm
      · have ht := ht.trans (if_neg c51)
        refine z_iload O zd_L_law_713 0 rfl ?_
        refine z_iconst O (v := 1) zd_L_law_715 (by decide) ?_
        refine z_icmp_gt O (tgt := 723) zd_L_law_716 (by decide) (fun c52 => ?_) (fun c52 => ?_)
        · have ht := ht.trans (if_pos c52)
          refine z_iconst O (v := 0) zd_L_law_723 (by decide) ?_
          refine z_istore O (lv' := [(4, .int 0), (15, .int r45), (14, .int (1 + (((x8 >>> ((1 : Int32) &&& (31 : Int32))) : Int32) &&& 15))), (13, .int r43), (0, .ref b), (1, .ref (zq w 0)), (2, .int x2), (3, .int x3), (5, .int x5), (6, .int x6), (8, .int x8), (9, .int x9)]) zd_L_law_724 (Nat.le_of_ble_eq_true rfl) rfl ?_
          refine z_sub (lv' := [(0, .ref b), (1, .ref (zq w 0)), (2, .int x2), (3, .int x3), (4, .int 0), (5, .int x5), (6, .int x6)]) [4, 5, 6, 7, 0, 8, 9] rfl ?_
          exact kk (x3, 0, u46) ht.symm
        · have ht := ht.trans (if_neg c52)
          refine z_iconst O (v := 1) zd_L_law_719 (by decide) ?_
          refine z_goto O (tgt := 724) zd_L_law_720 (by decide) ?_
          refine z_istore O (lv' := [(4, .int 1), (15, .int r45), (14, .int (1 + (((x8 >>> ((1 : Int32) &&& (31 : Int32))) : Int32) &&& 15))), (13, .int r43), (0, .ref b), (1, .ref (zq w 0)), (2, .int x2), (3, .int x3), (5, .int x5), (6, .int x6), (8, .int x8), (9, .int x9)]) zd_L_law_724 (Nat.le_of_ble_eq_true rfl) rfl ?_
          refine z_sub (lv' := [(0, .ref b), (1, .ref (zq w 0)), (2, .int x2), (3, .int x3), (4, .int 1), (5, .int x5), (6, .int x6)]) [4, 5, 6, 7, 0, 8, 9] rfl ?_
          exact kk (x3, 1, u46) ht.symm
  · have ht := ht.trans (if_neg c42)
    have ko := ko.2 c42
    refine z_aload_n O zd_L_law_584 rfl 1 rfl ?_
    refine z_calli O hl0 (st := []) 0 5 (fs := zo0 w σ) rfl rfl (c_X_read l w σ ko.1) zl_L_115 zm272 zm273 rfl rfl (Nat.le_of_ble_eq_true rfl) (Nat.le_of_ble_eq_true rfl) (Nat.le_of_ble_eq_true rfl) zd_L_law_585 (fun r53 u54 e55 => ?_)
    have ht := ht.trans (zseq_e e55)
    have ko := ko.2 r53 u54 e55
    refine z_istore O (lv' := [(13, .int r53), (0, .ref b), (1, .ref (zq w 0)), (2, .int x2), (3, .int x3), (4, .int x4), (5, .int x5), (6, .int x6), (8, .int x8), (9, .int x9)]) zd_L_law_588 (Nat.le_of_ble_eq_true rfl) rfl ?_
    refine z_sub (lv' := [(0, .ref b), (1, .ref (zq w 0)), (2, .int x2), (3, .int x3), (4, .int x4), (5, .int x5), (6, .int x6), (8, .int x8), (13, .int r53)]) [1, 2, 3, 4, 5, 6, 7, 8, 0] rfl ?_
    refine L_L_law_590 O hl0 hscr x2 x5 x6 x8 (700) u54 x3 x4 r53 ko (fun r69 er69 => ?_)
    have ht := ht.trans (zlet_e er69)
    refine z_iload O zd_L_law_648 4 rfl ?_
    refine z_if_eq O (tgt := 665) zd_L_law_650 (by decide) (fun c70 => ?_) (fun c70 => ?_)
    · have ht := ht.trans (if_pos c70)
      refine z_iconst O (v := 0) zd_L_law_665 (by decide) ?_
      refine z_istore O (lv' := [(4, .int 0), (0, .ref b), (1, .ref (zq w 0)), (2, .int x2), (3, .int r69.1), (5, .int x5), (6, .int x6)]) zd_L_law_666 (Nat.le_of_ble_eq_true rfl) rfl ?_
      refine z_goto O (tgt := 726) zd_L_law_668 (by decide) ?_
      refine z_sub (lv' := [(0, .ref b), (1, .ref (zq w 0)), (2, .int x2), (3, .int r69.1), (4, .int 0), (5, .int x5), (6, .int x6)]) [1, 2, 3, 4, 0, 5, 6] rfl ?_
      exact kk (r69.1, 0, r69.2.2) ht.symm
    · have ht := ht.trans (if_neg c70)
      refine z_aload_n O zd_L_law_653 rfl 1 rfl ?_
      refine z_callri O hl0 (st := []) 0 5 (fs := zo0 w r69.2.2) rfl rfl (c_X_readPosition l w r69.2.2) zl_L_28 zm468 zm469 rfl rfl (Nat.le_of_ble_eq_true rfl) (Nat.le_of_ble_eq_true rfl) (Nat.le_of_ble_eq_true rfl) zd_L_law_654 (fun r71 e72 => ?_)
      have ht := ht.trans (zlet_e e72)
      refine z_iload_n O zd_L_law_657 rfl 3 rfl ?_
      refine z_icmp_ne O (tgt := 665) zd_L_law_658 (by decide) (fun c73 => ?_) (fun c73 => ?_)
      · have ht := ht.trans (if_neg c73)
        refine z_iconst O (v := 0) zd_L_law_665 (by decide) ?_
        refine z_istore O (lv' := [(4, .int 0), (0, .ref b), (1, .ref (zq w 0)), (2, .int x2), (3, .int r69.1), (5, .int x5), (6, .int x6)]) zd_L_law_666 (Nat.le_of_ble_eq_true rfl) rfl ?_
        refine z_goto O (tgt := 726) zd_L_law_668 (by decide) ?_
        refine z_sub (lv' := [(0, .ref b), (1, .ref (zq w 0)), (2, .int x2), (3, .int r69.1), (4, .int 0), (5, .int x5), (6, .int x6)]) [1, 2, 3, 4, 0, 5, 6] rfl ?_
        exact kk (r69.1, 0, r69.2.2) ht.symm
      · have ht := ht.trans (if_pos c73)
        refine z_iconst O (v := 1) zd_L_law_661 (by decide) ?_
        refine z_goto O (tgt := 666) zd_L_law_662 (by decide) ?_
        refine z_istore O (lv' := [(4, .int 1), (0, .ref b), (1, .ref (zq w 0)), (2, .int x2), (3, .int r69.1), (5, .int x5), (6, .int x6)]) zd_L_law_666 (Nat.le_of_ble_eq_true rfl) rfl ?_
        refine z_goto O (tgt := 726) zd_L_law_668 (by decide) ?_
        refine z_sub (lv' := [(0, .ref b), (1, .ref (zq w 0)), (2, .int x2), (3, .int r69.1), (4, .int 1), (5, .int x5), (6, .int x6)]) [1, 2, 3, 4, 0, 5, 6] rfl ?_
        exact kk (r69.1, 1, r69.2.2) ht.symm
set_option maxHeartbeats 4000000 in
set_option maxRecDepth 100000 in
theorem S_L_law_546 {K : zCx} {w : zWd} {l : Launch} (O : zOk K w code "SluiceStreamLaw" 17 10 380) (hl0 : kl K = l) {b L : Nat} {xs : Nat → Int32} (hscr : zScr K b L xs) (σ : zSt) (x2 : Int32) (x3 : Int32) (x4 : Int32) (x5 : Int32) (x6 : Int32) (x8 : Int32) (x9 : Int32) (x12 : Int32) (ko : ks_L_law_546 L xs σ x2 x3 x4 x5 x6 x8 x9 x12) (kk : ∀ r, r = s_L_law_546 L xs σ x2 x3 x4 x5 x6 x8 x9 x12 → Z K w r.2.2 [(0, .ref b), (1, .ref (zq w 0)), (2, .int x2), (3, .int r.1), (4, .int r.2.1), (5, .int x5), (6, .int x6)] [] 726) : Z K w σ [(0, .ref b), (1, .ref (zq w 0)), (2, .int x2), (3, .int x3), (4, .int x4), (5, .int x5), (6, .int x6), (8, .int x8), (9, .int x9), (12, .int x12)] [] 546 := by
  have ht : s_L_law_546 L xs σ x2 x3 x4 x5 x6 x8 x9 x12 = s_L_law_546 L xs σ x2 x3 x4 x5 x6 x8 x9 x12 := rfl
  refine z_iload O zd_L_law_546 8 rfl ?_
  refine z_bipush O (v := 12) zd_L_law_548 (by decide) ?_
  refine z_icmp_ne O (tgt := 577) zd_L_law_550 (by decide) (fun c41 => ?_) (fun c41 => ?_)
  · have ht := ht.trans (if_neg c41)
    have ko := ko.2 c41
    refine z_sub (lv' := [(0, .ref b), (1, .ref (zq w 0)), (2, .int x2), (3, .int x3), (4, .int x4), (5, .int x5), (6, .int x6), (8, .int x8), (9, .int x9)]) [0, 1, 2, 3, 4, 5, 6, 7, 8] rfl ?_
    refine S_L_law_577 O hl0 hscr σ x2 x3 x4 x5 x6 x8 x9 ko (fun r74 er74 => ?_)
    have ht := ht.trans (zlet_e er74)
    refine z_sub (lv' := [(0, .ref b), (1, .ref (zq w 0)), (2, .int x2), (3, .int r74.1), (4, .int r74.2.1), (5, .int x5), (6, .int x6)]) [0, 1, 2, 3, 4, 5, 6] rfl ?_
    exact kk (r74.1, r74.2.1, r74.2.2) ht.symm
  · have ht := ht.trans (if_pos c41)
    have ko := ko.1 c41
    refine z_iload O zd_L_law_553 9 rfl ?_
    refine z_if_lt O (tgt := 577) zd_L_law_555 (by decide) (fun c75 => ?_) (fun c75 => ?_)
    · have ht := ht.trans (if_pos c75)
      have ko := ko.1 c75
      refine z_sub (lv' := [(0, .ref b), (1, .ref (zq w 0)), (2, .int x2), (3, .int x3), (4, .int x4), (5, .int x5), (6, .int x6), (8, .int x8), (9, .int x9)]) [0, 1, 2, 3, 4, 5, 6, 7, 8] rfl ?_
      refine S_L_law_577 O hl0 hscr σ x2 x3 x4 x5 x6 x8 x9 ko (fun r76 er76 => ?_)
      have ht := ht.trans (zlet_e er76)
      refine z_sub (lv' := [(0, .ref b), (1, .ref (zq w 0)), (2, .int x2), (3, .int r76.1), (4, .int r76.2.1), (5, .int x5), (6, .int x6)]) [0, 1, 2, 3, 4, 5, 6] rfl ?_
      exact kk (r76.1, r76.2.1, r76.2.2) ht.symm
    · have ht := ht.trans (if_neg c75)
      have ko := ko.2 c75
      refine z_aload_n O zd_L_law_558 rfl 1 rfl ?_
      refine z_iload O zd_L_law_559 9 rfl ?_
      refine z_calli O hl0 (st := []) 0 5 (fs := zo0 w σ) rfl rfl (c_X_loseAck l w σ x12 ko) zl_L_148 zm436 zm437 rfl rfl (Nat.le_of_ble_eq_true rfl) (Nat.le_of_ble_eq_true rfl) (Nat.le_of_ble_eq_true rfl) zd_L_law_561 (fun r77 u78 e79 => ?_)
      have ht := ht.trans (zseq_e e79)
      refine z_if_lt O (tgt := 571) zd_L_law_564 (by decide) (fun c80 => ?_) (fun c80 => ?_)
      · have ht := ht.trans (if_pos c80)
        refine z_iconst O (v := 0) zd_L_law_571 (by decide) ?_
        refine z_istore O (lv' := [(4, .int 0), (0, .ref b), (1, .ref (zq w 0)), (2, .int x2), (3, .int x3), (5, .int x5), (6, .int x6), (8, .int x8), (9, .int x9), (12, .int x12)]) zd_L_law_572 (Nat.le_of_ble_eq_true rfl) rfl ?_
        refine z_goto O (tgt := 726) zd_L_law_574 (by decide) ?_
        refine z_sub (lv' := [(0, .ref b), (1, .ref (zq w 0)), (2, .int x2), (3, .int x3), (4, .int 0), (5, .int x5), (6, .int x6)]) [1, 2, 3, 4, 0, 5, 6] rfl ?_
        exact kk (x3, 0, u78) ht.symm
      · have ht := ht.trans (if_neg c80)
        refine z_iconst O (v := 1) zd_L_law_567 (by decide) ?_
        refine z_goto O (tgt := 572) zd_L_law_568 (by decide) ?_
        refine z_istore O (lv' := [(4, .int 1), (0, .ref b), (1, .ref (zq w 0)), (2, .int x2), (3, .int x3), (5, .int x5), (6, .int x6), (8, .int x8), (9, .int x9), (12, .int x12)]) zd_L_law_572 (Nat.le_of_ble_eq_true rfl) rfl ?_
        refine z_goto O (tgt := 726) zd_L_law_574 (by decide) ?_
        refine z_sub (lv' := [(0, .ref b), (1, .ref (zq w 0)), (2, .int x2), (3, .int x3), (4, .int 1), (5, .int x5), (6, .int x6)]) [1, 2, 3, 4, 0, 5, 6] rfl ?_
        exact kk (x3, 1, u78) ht.symm
set_option maxHeartbeats 4000000 in
set_option maxRecDepth 100000 in
theorem S_L_law_504 {K : zCx} {w : zWd} {l : Launch} (O : zOk K w code "SluiceStreamLaw" 17 10 380) (hl0 : kl K = l) {b L : Nat} {xs : Nat → Int32} (hscr : zScr K b L xs) (σ : zSt) (x2 : Int32) (x3 : Int32) (x4 : Int32) (x5 : Int32) (x6 : Int32) (x8 : Int32) (x9 : Int32) (x10 : Int32) (x11 : Int32) (x12 : Int32) (ko : ks_L_law_504 L xs σ x2 x3 x4 x5 x6 x8 x9 x10 x11 x12) (kk : ∀ r, r = s_L_law_504 L xs σ x2 x3 x4 x5 x6 x8 x9 x10 x11 x12 → Z K w r.2.2 [(0, .ref b), (1, .ref (zq w 0)), (2, .int x2), (3, .int r.1), (4, .int r.2.1), (5, .int x5), (6, .int x6)] [] 726) : Z K w σ [(0, .ref b), (1, .ref (zq w 0)), (2, .int x2), (3, .int x3), (4, .int x4), (5, .int x5), (6, .int x6), (8, .int x8), (9, .int x9), (10, .int x10), (11, .int x11), (12, .int x12)] [] 504 := by
  have ht : s_L_law_504 L xs σ x2 x3 x4 x5 x6 x8 x9 x10 x11 x12 = s_L_law_504 L xs σ x2 x3 x4 x5 x6 x8 x9 x10 x11 x12 := rfl
  refine z_iload O zd_L_law_504 8 rfl ?_
  refine z_bipush O (v := 11) zd_L_law_506 (by decide) ?_
  refine z_icmp_ne O (tgt := 546) zd_L_law_508 (by decide) (fun c40 => ?_) (fun c40 => ?_)
  · have ht := ht.trans (if_neg c40)
    have ko := ko.2 c40
    refine z_sub (lv' := [(0, .ref b), (1, .ref (zq w 0)), (2, .int x2), (3, .int x3), (4, .int x4), (5, .int x5), (6, .int x6), (8, .int x8), (9, .int x9), (12, .int x12)]) [0, 1, 2, 3, 4, 5, 6, 7, 8, 11] rfl ?_
    refine S_L_law_546 O hl0 hscr σ x2 x3 x4 x5 x6 x8 x9 x12 ko (fun r81 er81 => ?_)
    have ht := ht.trans (zlet_e er81)
    refine z_sub (lv' := [(0, .ref b), (1, .ref (zq w 0)), (2, .int x2), (3, .int r81.1), (4, .int r81.2.1), (5, .int x5), (6, .int x6)]) [0, 1, 2, 3, 4, 5, 6] rfl ?_
    exact kk (r81.1, r81.2.1, r81.2.2) ht.symm
  · have ht := ht.trans (if_pos c40)
    have ko := ko.1 c40
    refine z_iload O zd_L_law_511 10 rfl ?_
    refine z_if_lt O (tgt := 546) zd_L_law_513 (by decide) (fun c82 => ?_) (fun c82 => ?_)
    · have ht := ht.trans (if_pos c82)
      have ko := ko.1 c82
      refine z_sub (lv' := [(0, .ref b), (1, .ref (zq w 0)), (2, .int x2), (3, .int x3), (4, .int x4), (5, .int x5), (6, .int x6), (8, .int x8), (9, .int x9), (12, .int x12)]) [0, 1, 2, 3, 4, 5, 6, 7, 8, 11] rfl ?_
      refine S_L_law_546 O hl0 hscr σ x2 x3 x4 x5 x6 x8 x9 x12 ko (fun r83 er83 => ?_)
      have ht := ht.trans (zlet_e er83)
      refine z_sub (lv' := [(0, .ref b), (1, .ref (zq w 0)), (2, .int x2), (3, .int r83.1), (4, .int r83.2.1), (5, .int x5), (6, .int x6)]) [0, 1, 2, 3, 4, 5, 6] rfl ?_
      exact kk (r83.1, r83.2.1, r83.2.2) ht.symm
    · have ht := ht.trans (if_neg c82)
      have ko := ko.2 c82
      refine z_aload_n O zd_L_law_516 rfl 1 rfl ?_
      refine z_iload O zd_L_law_517 10 rfl ?_
      refine z_calli O hl0 (st := []) 0 5 (fs := zo0 w σ) rfl rfl (c_X_lose l w σ x11 ko) zl_L_145 zm425 zm426 rfl rfl (Nat.le_of_ble_eq_true rfl) (Nat.le_of_ble_eq_true rfl) (Nat.le_of_ble_eq_true rfl) zd_L_law_519 (fun r84 u85 e86 => ?_)
      have ht := ht.trans (zseq_e e86)
      refine z_if_lt O (tgt := 540) zd_L_law_522 (by decide) (fun c87 => ?_) (fun c87 => ?_)
      · have ht := ht.trans (if_pos c87)
        refine z_iconst O (v := 0) zd_L_law_540 (by decide) ?_
        refine z_istore O (lv' := [(4, .int 0), (0, .ref b), (1, .ref (zq w 0)), (2, .int x2), (3, .int x3), (5, .int x5), (6, .int x6), (8, .int x8), (9, .int x9), (10, .int x10), (11, .int x11), (12, .int x12)]) zd_L_law_541 (Nat.le_of_ble_eq_true rfl) rfl ?_
        refine z_goto O (tgt := 726) zd_L_law_543 (by decide) ?_
        refine z_sub (lv' := [(0, .ref b), (1, .ref (zq w 0)), (2, .int x2), (3, .int x3), (4, .int 0), (5, .int x5), (6, .int x6)]) [1, 2, 3, 4, 0, 5, 6] rfl ?_
        exact kk (x3, 0, u85) ht.symm
      · have ht := ht.trans (if_neg c87)
        refine z_aload_n O zd_L_law_525 rfl 1 rfl ?_
        refine z_callri O hl0 (st := []) 0 5 (fs := zo0 w u85) rfl rfl (c_X_segments l w u85) zl_L_97 zm440 zm441 rfl rfl (Nat.le_of_ble_eq_true rfl) (Nat.le_of_ble_eq_true rfl) (Nat.le_of_ble_eq_true rfl) zd_L_law_526 (fun r88 e89 => ?_)
        have ht := ht.trans (zlet_e e89)
        refine z_iload O zd_L_law_529 9 rfl ?_
        refine z_iconst O (v := 1) zd_L_law_531 (by decide) ?_
        refine z_isub O zd_L_law_532 ?_
        refine z_icmp_ne O (tgt := 540) zd_L_law_533 (by decide) (fun c90 => ?_) (fun c90 => ?_)
        · have ht := ht.trans (if_neg c90)
          refine z_iconst O (v := 0) zd_L_law_540 (by decide) ?_
          refine z_istore O (lv' := [(4, .int 0), (0, .ref b), (1, .ref (zq w 0)), (2, .int x2), (3, .int x3), (5, .int x5), (6, .int x6), (8, .int x8), (9, .int x9), (10, .int x10), (11, .int x11), (12, .int x12)]) zd_L_law_541 (Nat.le_of_ble_eq_true rfl) rfl ?_
          refine z_goto O (tgt := 726) zd_L_law_543 (by decide) ?_
          refine z_sub (lv' := [(0, .ref b), (1, .ref (zq w 0)), (2, .int x2), (3, .int x3), (4, .int 0), (5, .int x5), (6, .int x6)]) [1, 2, 3, 4, 0, 5, 6] rfl ?_
          exact kk (x3, 0, u85) ht.symm
        · have ht := ht.trans (if_pos c90)
          refine z_iconst O (v := 1) zd_L_law_536 (by decide) ?_
          refine z_goto O (tgt := 541) zd_L_law_537 (by decide) ?_
          refine z_istore O (lv' := [(4, .int 1), (0, .ref b), (1, .ref (zq w 0)), (2, .int x2), (3, .int x3), (5, .int x5), (6, .int x6), (8, .int x8), (9, .int x9), (10, .int x10), (11, .int x11), (12, .int x12)]) zd_L_law_541 (Nat.le_of_ble_eq_true rfl) rfl ?_
          refine z_goto O (tgt := 726) zd_L_law_543 (by decide) ?_
          refine z_sub (lv' := [(0, .ref b), (1, .ref (zq w 0)), (2, .int x2), (3, .int x3), (4, .int 1), (5, .int x5), (6, .int x6)]) [1, 2, 3, 4, 0, 5, 6] rfl ?_
          exact kk (x3, 1, u85) ht.symm
set_option maxHeartbeats 4000000 in
set_option maxRecDepth 100000 in
theorem S_L_law_462 {K : zCx} {w : zWd} {l : Launch} (O : zOk K w code "SluiceStreamLaw" 17 10 380) (hl0 : kl K = l) {b L : Nat} {xs : Nat → Int32} (hscr : zScr K b L xs) (σ : zSt) (x2 : Int32) (x3 : Int32) (x4 : Int32) (x5 : Int32) (x6 : Int32) (x8 : Int32) (x9 : Int32) (x10 : Int32) (x11 : Int32) (x12 : Int32) (ko : ks_L_law_462 L xs σ x2 x3 x4 x5 x6 x8 x9 x10 x11 x12) (kk : ∀ r, r = s_L_law_462 L xs σ x2 x3 x4 x5 x6 x8 x9 x10 x11 x12 → Z K w r.2.2 [(0, .ref b), (1, .ref (zq w 0)), (2, .int x2), (3, .int r.1), (4, .int r.2.1), (5, .int x5), (6, .int x6)] [] 726) : Z K w σ [(0, .ref b), (1, .ref (zq w 0)), (2, .int x2), (3, .int x3), (4, .int x4), (5, .int x5), (6, .int x6), (8, .int x8), (9, .int x9), (10, .int x10), (11, .int x11), (12, .int x12)] [] 462 := by
  have ht : s_L_law_462 L xs σ x2 x3 x4 x5 x6 x8 x9 x10 x11 x12 = s_L_law_462 L xs σ x2 x3 x4 x5 x6 x8 x9 x10 x11 x12 := rfl
  refine z_iload O zd_L_law_462 8 rfl ?_
  refine z_bipush O (v := 10) zd_L_law_464 (by decide) ?_
  refine z_icmp_ne O (tgt := 504) zd_L_law_466 (by decide) (fun c39 => ?_) (fun c39 => ?_)
  · have ht := ht.trans (if_neg c39)
    have ko := ko.2 c39
    refine z_sub (lv' := [(0, .ref b), (1, .ref (zq w 0)), (2, .int x2), (3, .int x3), (4, .int x4), (5, .int x5), (6, .int x6), (8, .int x8), (9, .int x9), (10, .int x10), (11, .int x11), (12, .int x12)]) [0, 1, 2, 3, 4, 5, 6, 7, 8, 9, 10, 11] rfl ?_
    refine S_L_law_504 O hl0 hscr σ x2 x3 x4 x5 x6 x8 x9 x10 x11 x12 ko (fun r91 er91 => ?_)
    have ht := ht.trans (zlet_e er91)
    refine z_sub (lv' := [(0, .ref b), (1, .ref (zq w 0)), (2, .int x2), (3, .int r91.1), (4, .int r91.2.1), (5, .int x5), (6, .int x6)]) [0, 1, 2, 3, 4, 5, 6] rfl ?_
    exact kk (r91.1, r91.2.1, r91.2.2) ht.symm
  · have ht := ht.trans (if_pos c39)
    have ko := ko.1 c39
    refine z_iload O zd_L_law_469 10 rfl ?_
    refine z_if_lt O (tgt := 504) zd_L_law_471 (by decide) (fun c92 => ?_) (fun c92 => ?_)
    · have ht := ht.trans (if_pos c92)
      have ko := ko.1 c92
      refine z_sub (lv' := [(0, .ref b), (1, .ref (zq w 0)), (2, .int x2), (3, .int x3), (4, .int x4), (5, .int x5), (6, .int x6), (8, .int x8), (9, .int x9), (10, .int x10), (11, .int x11), (12, .int x12)]) [0, 1, 2, 3, 4, 5, 6, 7, 8, 9, 10, 11] rfl ?_
      refine S_L_law_504 O hl0 hscr σ x2 x3 x4 x5 x6 x8 x9 x10 x11 x12 ko (fun r93 er93 => ?_)
      have ht := ht.trans (zlet_e er93)
      refine z_sub (lv' := [(0, .ref b), (1, .ref (zq w 0)), (2, .int x2), (3, .int r93.1), (4, .int r93.2.1), (5, .int x5), (6, .int x6)]) [0, 1, 2, 3, 4, 5, 6] rfl ?_
      exact kk (r93.1, r93.2.1, r93.2.2) ht.symm
    · have ht := ht.trans (if_neg c92)
      have ko := ko.2 c92
      refine z_iload O zd_L_law_474 9 rfl ?_
      refine z_bipush O (v := 40) zd_L_law_476 (by decide) ?_
      refine z_icmp_eq O (tgt := 494) zd_L_law_478 (by decide) (fun c94 => ?_) (fun c94 => ?_)
      · have ht := ht.trans (if_pos c94)
        refine z_iconst O (v := 1) zd_L_law_494 (by decide) ?_
        refine z_goto O (tgt := 499) zd_L_law_495 (by decide) ?_
        refine z_istore O (lv' := [(4, .int 1), (0, .ref b), (1, .ref (zq w 0)), (2, .int x2), (3, .int x3), (5, .int x5), (6, .int x6), (8, .int x8), (9, .int x9), (10, .int x10), (11, .int x11), (12, .int x12)]) zd_L_law_499 (Nat.le_of_ble_eq_true rfl) rfl ?_
        refine z_goto O (tgt := 726) zd_L_law_501 (by decide) ?_
        refine z_sub (lv' := [(0, .ref b), (1, .ref (zq w 0)), (2, .int x2), (3, .int x3), (4, .int 1), (5, .int x5), (6, .int x6)]) [1, 2, 3, 4, 0, 5, 6] rfl ?_
        exact kk (x3, 1, σ) ht.symm
      · have ht := ht.trans (if_neg c94)
        have ko := ko c94
        refine z_aload_n O zd_L_law_481 rfl 1 rfl ?_
        refine z_iload O zd_L_law_482 10 rfl ?_
        refine z_calli O hl0 (st := []) 0 5 (fs := zo0 w σ) rfl rfl (c_X_duplicate l w σ x11 ko) zl_L_142 zm429 zm430 rfl rfl (Nat.le_of_ble_eq_true rfl) (Nat.le_of_ble_eq_true rfl) (Nat.le_of_ble_eq_true rfl) zd_L_law_484 (fun r95 u96 e97 => ?_)
        have ht := ht.trans (zseq_e e97)
        refine z_iload O zd_L_law_487 9 rfl ?_
        refine z_iconst O (v := 1) zd_L_law_489 (by decide) ?_
        refine z_iadd O zd_L_law_490 ?_
        refine z_icmp_ne O (tgt := 498) zd_L_law_491 (by decide) (fun c98 => ?_) (fun c98 => ?_)
        · have ht := ht.trans (if_neg c98)
          refine z_iconst O (v := 0) zd_L_law_498 (by decide) ?_
          refine z_istore O (lv' := [(4, .int 0), (0, .ref b), (1, .ref (zq w 0)), (2, .int x2), (3, .int x3), (5, .int x5), (6, .int x6), (8, .int x8), (9, .int x9), (10, .int x10), (11, .int x11), (12, .int x12)]) zd_L_law_499 (Nat.le_of_ble_eq_true rfl) rfl ?_
          refine z_goto O (tgt := 726) zd_L_law_501 (by decide) ?_
          refine z_sub (lv' := [(0, .ref b), (1, .ref (zq w 0)), (2, .int x2), (3, .int x3), (4, .int 0), (5, .int x5), (6, .int x6)]) [1, 2, 3, 4, 0, 5, 6] rfl ?_
          exact kk (x3, 0, u96) ht.symm
        · have ht := ht.trans (if_pos c98)
          refine z_iconst O (v := 1) zd_L_law_494 (by decide) ?_
          refine z_goto O (tgt := 499) zd_L_law_495 (by decide) ?_
          refine z_istore O (lv' := [(4, .int 1), (0, .ref b), (1, .ref (zq w 0)), (2, .int x2), (3, .int x3), (5, .int x5), (6, .int x6), (8, .int x8), (9, .int x9), (10, .int x10), (11, .int x11), (12, .int x12)]) zd_L_law_499 (Nat.le_of_ble_eq_true rfl) rfl ?_
          refine z_goto O (tgt := 726) zd_L_law_501 (by decide) ?_
          refine z_sub (lv' := [(0, .ref b), (1, .ref (zq w 0)), (2, .int x2), (3, .int x3), (4, .int 1), (5, .int x5), (6, .int x6)]) [1, 2, 3, 4, 0, 5, 6] rfl ?_
          exact kk (x3, 1, u96) ht.symm
set_option maxHeartbeats 4000000 in
set_option maxRecDepth 100000 in
theorem S_L_law_439 {K : zCx} {w : zWd} {l : Launch} (O : zOk K w code "SluiceStreamLaw" 17 10 380) (hl0 : kl K = l) {b L : Nat} {xs : Nat → Int32} (hscr : zScr K b L xs) (σ : zSt) (x2 : Int32) (x3 : Int32) (x4 : Int32) (x5 : Int32) (x6 : Int32) (x8 : Int32) (x9 : Int32) (x10 : Int32) (x11 : Int32) (x12 : Int32) (ko : ks_L_law_439 L xs σ x2 x3 x4 x5 x6 x8 x9 x10 x11 x12) (kk : ∀ r, r = s_L_law_439 L xs σ x2 x3 x4 x5 x6 x8 x9 x10 x11 x12 → Z K w r.2.2 [(0, .ref b), (1, .ref (zq w 0)), (2, .int x2), (3, .int r.1), (4, .int r.2.1), (5, .int x5), (6, .int x6)] [] 726) : Z K w σ [(0, .ref b), (1, .ref (zq w 0)), (2, .int x2), (3, .int x3), (4, .int x4), (5, .int x5), (6, .int x6), (8, .int x8), (9, .int x9), (10, .int x10), (11, .int x11), (12, .int x12)] [] 439 := by
  have ht : s_L_law_439 L xs σ x2 x3 x4 x5 x6 x8 x9 x10 x11 x12 = s_L_law_439 L xs σ x2 x3 x4 x5 x6 x8 x9 x10 x11 x12 := rfl
  refine z_iload O zd_L_law_439 8 rfl ?_
  refine z_bipush O (v := 10) zd_L_law_441 (by decide) ?_
  refine z_icmp_ge O (tgt := 462) zd_L_law_443 (by decide) (fun c38 => ?_) (fun c38 => ?_)
  · have ht := ht.trans (if_pos c38)
    have ko := ko.1 c38
    refine z_sub (lv' := [(0, .ref b), (1, .ref (zq w 0)), (2, .int x2), (3, .int x3), (4, .int x4), (5, .int x5), (6, .int x6), (8, .int x8), (9, .int x9), (10, .int x10), (11, .int x11), (12, .int x12)]) [0, 1, 2, 3, 4, 5, 6, 7, 8, 9, 10, 11] rfl ?_
    refine S_L_law_462 O hl0 hscr σ x2 x3 x4 x5 x6 x8 x9 x10 x11 x12 ko (fun r99 er99 => ?_)
    have ht := ht.trans (zlet_e er99)
    refine z_sub (lv' := [(0, .ref b), (1, .ref (zq w 0)), (2, .int x2), (3, .int r99.1), (4, .int r99.2.1), (5, .int x5), (6, .int x6)]) [0, 1, 2, 3, 4, 5, 6] rfl ?_
    exact kk (r99.1, r99.2.1, r99.2.2) ht.symm
  · have ht := ht.trans (if_neg c38)
    have ko := ko.2 c38
    refine z_iload O zd_L_law_446 11 rfl ?_
    refine z_if_lt O (tgt := 462) zd_L_law_448 (by decide) (fun c100 => ?_) (fun c100 => ?_)
    · have ht := ht.trans (if_pos c100)
      have ko := ko.1 c100
      refine z_sub (lv' := [(0, .ref b), (1, .ref (zq w 0)), (2, .int x2), (3, .int x3), (4, .int x4), (5, .int x5), (6, .int x6), (8, .int x8), (9, .int x9), (10, .int x10), (11, .int x11), (12, .int x12)]) [0, 1, 2, 3, 4, 5, 6, 7, 8, 9, 10, 11] rfl ?_
      refine S_L_law_462 O hl0 hscr σ x2 x3 x4 x5 x6 x8 x9 x10 x11 x12 ko (fun r101 er101 => ?_)
      have ht := ht.trans (zlet_e er101)
      refine z_sub (lv' := [(0, .ref b), (1, .ref (zq w 0)), (2, .int x2), (3, .int r101.1), (4, .int r101.2.1), (5, .int x5), (6, .int x6)]) [0, 1, 2, 3, 4, 5, 6] rfl ?_
      exact kk (r101.1, r101.2.1, r101.2.2) ht.symm
    · have ht := ht.trans (if_neg c100)
      have ko := ko.2 c100
      refine z_aload_n O zd_L_law_451 rfl 1 rfl ?_
      refine z_iload O zd_L_law_452 11 rfl ?_
      refine z_callsi O hl0 (st := []) (c_L_isAnswered l w σ x12 ko) zl_L_138 zm626 rfl rfl (Nat.le_of_ble_eq_true rfl) (Nat.le_of_ble_eq_true rfl) (Nat.le_of_ble_eq_true rfl) zd_L_law_454 (fun r102 u103 e104 => ?_)
      have ht := ht.trans (zseq_e e104)
      refine z_istore O (lv' := [(4, .int r102), (0, .ref b), (1, .ref (zq w 0)), (2, .int x2), (3, .int x3), (5, .int x5), (6, .int x6), (8, .int x8), (9, .int x9), (10, .int x10), (11, .int x11), (12, .int x12)]) zd_L_law_457 (Nat.le_of_ble_eq_true rfl) rfl ?_
      refine z_goto O (tgt := 726) zd_L_law_459 (by decide) ?_
      refine z_sub (lv' := [(0, .ref b), (1, .ref (zq w 0)), (2, .int x2), (3, .int x3), (4, .int r102), (5, .int x5), (6, .int x6)]) [1, 2, 3, 4, 0, 5, 6] rfl ?_
      exact kk (x3, r102, u103) ht.symm
set_option maxHeartbeats 4000000 in
set_option maxRecDepth 100000 in
theorem S_L_law_317 {K : zCx} {w : zWd} {l : Launch} (O : zOk K w code "SluiceStreamLaw" 17 10 380) (hl0 : kl K = l) {b L : Nat} {xs : Nat → Int32} (hscr : zScr K b L xs) (σ : zSt) (x2 : Int32) (x3 : Int32) (x4 : Int32) (x5 : Int32) (x6 : Int32) (x8 : Int32) (x9 : Int32) (x10 : Int32) (x11 : Int32) (x12 : Int32) (ko : ks_L_law_317 L xs σ x2 x3 x4 x5 x6 x8 x9 x10 x11 x12) (kk : ∀ r, r = s_L_law_317 L xs σ x2 x3 x4 x5 x6 x8 x9 x10 x11 x12 → Z K w r.2.2 [(0, .ref b), (1, .ref (zq w 0)), (2, .int x2), (3, .int r.1), (4, .int r.2.1), (5, .int x5), (6, .int x6)] [] 726) : Z K w σ [(0, .ref b), (1, .ref (zq w 0)), (2, .int x2), (3, .int x3), (4, .int x4), (5, .int x5), (6, .int x6), (8, .int x8), (9, .int x9), (10, .int x10), (11, .int x11), (12, .int x12)] [] 317 := by
  have ht : s_L_law_317 L xs σ x2 x3 x4 x5 x6 x8 x9 x10 x11 x12 = s_L_law_317 L xs σ x2 x3 x4 x5 x6 x8 x9 x10 x11 x12 := rfl
  refine z_iload O zd_L_law_317 8 rfl ?_
  refine z_bipush O (v := 8) zd_L_law_319 (by decide) ?_
  refine z_icmp_ge O (tgt := 439) zd_L_law_321 (by decide) (fun c37 => ?_) (fun c37 => ?_)
  · have ht := ht.trans (if_pos c37)
    have ko := ko.1 c37
    refine z_sub (lv' := [(0, .ref b), (1, .ref (zq w 0)), (2, .int x2), (3, .int x3), (4, .int x4), (5, .int x5), (6, .int x6), (8, .int x8), (9, .int x9), (10, .int x10), (11, .int x11), (12, .int x12)]) [0, 1, 2, 3, 4, 5, 6, 7, 8, 9, 10, 11] rfl ?_
    refine S_L_law_439 O hl0 hscr σ x2 x3 x4 x5 x6 x8 x9 x10 x11 x12 ko (fun r105 er105 => ?_)
    have ht := ht.trans (zlet_e er105)
    refine z_sub (lv' := [(0, .ref b), (1, .ref (zq w 0)), (2, .int x2), (3, .int r105.1), (4, .int r105.2.1), (5, .int x5), (6, .int x6)]) [0, 1, 2, 3, 4, 5, 6] rfl ?_
    exact kk (r105.1, r105.2.1, r105.2.2) ht.symm
  · have ht := ht.trans (if_neg c37)
    have ko := ko.2 c37
    refine z_iload O zd_L_law_324 10 rfl ?_
    refine z_if_lt O (tgt := 439) zd_L_law_326 (by decide) (fun c106 => ?_) (fun c106 => ?_)
    · have ht := ht.trans (if_pos c106)
      have ko := ko.1 c106
      refine z_sub (lv' := [(0, .ref b), (1, .ref (zq w 0)), (2, .int x2), (3, .int x3), (4, .int x4), (5, .int x5), (6, .int x6), (8, .int x8), (9, .int x9), (10, .int x10), (11, .int x11), (12, .int x12)]) [0, 1, 2, 3, 4, 5, 6, 7, 8, 9, 10, 11] rfl ?_
      refine S_L_law_439 O hl0 hscr σ x2 x3 x4 x5 x6 x8 x9 x10 x11 x12 ko (fun r107 er107 => ?_)
      have ht := ht.trans (zlet_e er107)
      refine z_sub (lv' := [(0, .ref b), (1, .ref (zq w 0)), (2, .int x2), (3, .int r107.1), (4, .int r107.2.1), (5, .int x5), (6, .int x6)]) [0, 1, 2, 3, 4, 5, 6] rfl ?_
      exact kk (r107.1, r107.2.1, r107.2.2) ht.symm
    · have ht := ht.trans (if_neg c106)
      have ko := ko.2 c106
      refine z_aload_n O zd_L_law_329 rfl 1 rfl ?_
      refine z_callri O hl0 (st := []) 0 5 (fs := zo0 w σ) rfl rfl (c_X_inOrder l w σ) zl_L_16 zm464 zm465 rfl rfl (Nat.le_of_ble_eq_true rfl) (Nat.le_of_ble_eq_true rfl) (Nat.le_of_ble_eq_true rfl) zd_L_law_330 (fun r108 e109 => ?_)
      have ht := ht.trans (zlet_e e109)
      have ko := ko r108 e109
      refine z_istore O (lv' := [(13, .int r108), (0, .ref b), (1, .ref (zq w 0)), (2, .int x2), (3, .int x3), (4, .int x4), (5, .int x5), (6, .int x6), (8, .int x8), (9, .int x9), (10, .int x10), (11, .int x11), (12, .int x12)]) zd_L_law_333 (Nat.le_of_ble_eq_true rfl) rfl ?_
      refine z_aload_n O zd_L_law_335 rfl 2 rfl ?_
      refine z_iload O zd_L_law_336 11 rfl ?_
      refine z_callri O hl0 (st := []) 0 5 (fs := zo0 w σ) rfl rfl (c_X_endOf l w σ x11 ko.1) zl_L_103 zm444 zm445 rfl rfl (Nat.le_of_ble_eq_true rfl) (Nat.le_of_ble_eq_true rfl) (Nat.le_of_ble_eq_true rfl) zd_L_law_338 (fun r110 e111 => ?_)
      have ht := ht.trans (zlet_e e111)
      have ko := ko.2 r110 e111
      refine z_istore O (lv' := [(14, .int r110), (13, .int r108), (0, .ref b), (1, .ref (zq w 0)), (2, .int x2), (3, .int x3), (4, .int x4), (5, .int x5), (6, .int x6), (8, .int x8), (9, .int x9), (10, .int x10), (11, .int x11), (12, .int x12)]) zd_L_law_341 (Nat.le_of_ble_eq_true rfl) rfl ?_
      refine z_aload_n O zd_L_law_343 rfl 3 rfl ?_
      refine z_callri O hl0 (st := []) 0 5 (fs := zo0 w σ) rfl rfl (c_X_acks l w σ) zl_L_81 zm448 zm449 rfl rfl (Nat.le_of_ble_eq_true rfl) (Nat.le_of_ble_eq_true rfl) (Nat.le_of_ble_eq_true rfl) zd_L_law_344 (fun r112 e113 => ?_)
      have ht := ht.trans (zlet_e e113)
      have ko := ko r112 e113
      refine z_istore O (lv' := [(15, .int r112), (14, .int r110), (13, .int r108), (0, .ref b), (1, .ref (zq w 0)), (2, .int x2), (3, .int x3), (4, .int x4), (5, .int x5), (6, .int x6), (8, .int x8), (9, .int x9), (10, .int x10), (11, .int x11), (12, .int x12)]) zd_L_law_347 (Nat.le_of_ble_eq_true rfl) rfl ?_
      refine z_aload_n O zd_L_law_349 rfl 4 rfl ?_
      refine z_iload O zd_L_law_350 13 rfl ?_
      refine z_calli O hl0 (st := []) 0 5 (fs := zo0 w σ) rfl rfl (c_X_deliver l w σ x11 ko.1) zl_L_112 zm391 zm392 rfl rfl (Nat.le_of_ble_eq_true rfl) (Nat.le_of_ble_eq_true rfl) (Nat.le_of_ble_eq_true rfl) zd_L_law_352 (fun r114 u115 e116 => ?_)
      have ht := ht.trans (zseq_e e116)
      have ko := ko.2 r114 u115 e116
      refine z_istore O (lv' := [(16, .int r114), (15, .int r112), (14, .int r110), (13, .int r108), (0, .ref b), (1, .ref (zq w 0)), (2, .int x2), (3, .int x3), (4, .int x4), (5, .int x5), (6, .int x6), (8, .int x8), (9, .int x9), (10, .int x10), (11, .int x11), (12, .int x12)]) zd_L_law_355 (Nat.le_of_ble_eq_true rfl) rfl ?_
      refine z_iload O zd_L_law_357 0 rfl ?_
      refine z_if_lt O (tgt := 433) zd_L_law_359 (by decide) (fun c117 => ?_) (fun c117 => ?_)
      · have ht := ht.trans (if_pos c117)
        refine z_iconst O (v := 0) zd_L_law_433 (by decide) ?_
        refine z_istore O (lv' := [(4, .int 0), (16, .int r114), (15, .int r112), (14, .int r110), (13, .int r108), (0, .ref b), (1, .ref (zq w 0)), (2, .int x2), (3, .int x3), (5, .int x5), (6, .int x6), (8, .int x8), (9, .int x9), (10, .int x10), (11, .int x11), (12, .int x12)]) zd_L_law_434 (Nat.le_of_ble_eq_true rfl) rfl ?_
        refine z_goto O (tgt := 726) zd_L_law_436 (by decide) ?_
        refine z_sub (lv' := [(0, .ref b), (1, .ref (zq w 0)), (2, .int x2), (3, .int x3), (4, .int 0), (5, .int x5), (6, .int x6)]) [5, 6, 7, 8, 0, 9, 10] rfl ?_
        exact kk (x3, 0, u115) ht.symm
      · have ht := ht.trans (if_neg c117)
        have ko := ko c117
        refine z_iload O zd_L_law_362 0 rfl ?_
        refine z_iconst O (v := 4) zd_L_law_364 (by decide) ?_
        refine z_icmp_gt O (tgt := 433) zd_L_law_365 (by decide) (fun c118 => ?_) (fun c118 => ?_)
        · have ht := ht.trans (if_pos c118)
          refine z_iconst O (v := 0) zd_L_law_433 (by decide) ?_
          refine z_istore O (lv' := [(4, .int 0), (16, .int r114), (15, .int r112), (14, .int r110), (13, .int r108), (0, .ref b), (1, .ref (zq w 0)), (2, .int x2), (3, .int x3), (5, .int x5), (6, .int x6), (8, .int x8), (9, .int x9), (10, .int x10), (11, .int x11), (12, .int x12)]) zd_L_law_434 (Nat.le_of_ble_eq_true rfl) rfl ?_
          refine z_goto O (tgt := 726) zd_L_law_436 (by decide) ?_
          refine z_sub (lv' := [(0, .ref b), (1, .ref (zq w 0)), (2, .int x2), (3, .int x3), (4, .int 0), (5, .int x5), (6, .int x6)]) [5, 6, 7, 8, 0, 9, 10] rfl ?_
          exact kk (x3, 0, u115) ht.symm
        · have ht := ht.trans (if_neg c118)
          have ko := ko c118
          refine z_aload_n O zd_L_law_368 rfl 5 rfl ?_
          refine z_callri O hl0 (st := []) 0 5 (fs := zo0 w u115) rfl rfl (c_X_inOrder l w u115) zl_L_16 zm464 zm465 rfl rfl (Nat.le_of_ble_eq_true rfl) (Nat.le_of_ble_eq_true rfl) (Nat.le_of_ble_eq_true rfl) zd_L_law_369 (fun r119 e120 => ?_)
          have ht := ht.trans (zlet_e e120)
          have ko := ko r119 e120
          refine z_iload O zd_L_law_372 3 rfl ?_
          refine z_icmp_lt O (tgt := 433) zd_L_law_374 (by decide) (fun c121 => ?_) (fun c121 => ?_)
          · have ht := ht.trans (if_pos c121)
            refine z_iconst O (v := 0) zd_L_law_433 (by decide) ?_
            refine z_istore O (lv' := [(4, .int 0), (16, .int r114), (15, .int r112), (14, .int r110), (13, .int r108), (0, .ref b), (1, .ref (zq w 0)), (2, .int x2), (3, .int x3), (5, .int x5), (6, .int x6), (8, .int x8), (9, .int x9), (10, .int x10), (11, .int x11), (12, .int x12)]) zd_L_law_434 (Nat.le_of_ble_eq_true rfl) rfl ?_
            refine z_goto O (tgt := 726) zd_L_law_436 (by decide) ?_
            refine z_sub (lv' := [(0, .ref b), (1, .ref (zq w 0)), (2, .int x2), (3, .int x3), (4, .int 0), (5, .int x5), (6, .int x6)]) [5, 6, 7, 8, 0, 9, 10] rfl ?_
            exact kk (x3, 0, u115) ht.symm
          · have ht := ht.trans (if_neg c121)
            have ko := ko c121
            refine z_aload_n O zd_L_law_377 rfl 5 rfl ?_
            refine z_callri O hl0 (st := []) 0 5 (fs := zo0 w u115) rfl rfl (c_X_acks l w u115) zl_L_81 zm448 zm449 rfl rfl (Nat.le_of_ble_eq_true rfl) (Nat.le_of_ble_eq_true rfl) (Nat.le_of_ble_eq_true rfl) zd_L_law_378 (fun r122 e123 => ?_)
            have ht := ht.trans (zlet_e e123)
            have ko := ko r122 e123
            refine z_iload O zd_L_law_381 1 rfl ?_
            refine z_bipush O (v := 40) zd_L_law_383 (by decide) ?_
            refine z_icmp_ne O (tgt := 393) zd_L_law_385 (by decide) (fun c124 => ?_) (fun c124 => ?_)
            · have ht := ht.trans (if_neg c124)
              have ko := ko.2 c124
              refine z_iload O zd_L_law_393 1 rfl ?_
              refine z_iconst O (v := 1) zd_L_law_395 (by decide) ?_
              refine z_iadd O zd_L_law_396 ?_
              refine z_icmp_ne O (tgt := 433) zd_L_law_397 (by decide) (fun c125 => ?_) (fun c125 => ?_)
              · have ht := ht.trans (if_neg c125)
                refine z_iconst O (v := 0) zd_L_law_433 (by decide) ?_
                refine z_istore O (lv' := [(4, .int 0), (16, .int r114), (15, .int r112), (14, .int r110), (13, .int r108), (0, .ref b), (1, .ref (zq w 0)), (2, .int x2), (3, .int x3), (5, .int x5), (6, .int x6), (8, .int x8), (9, .int x9), (10, .int x10), (11, .int x11), (12, .int x12)]) zd_L_law_434 (Nat.le_of_ble_eq_true rfl) rfl ?_
                refine z_goto O (tgt := 726) zd_L_law_436 (by decide) ?_
                refine z_sub (lv' := [(0, .ref b), (1, .ref (zq w 0)), (2, .int x2), (3, .int x3), (4, .int 0), (5, .int x5), (6, .int x6)]) [5, 6, 7, 8, 0, 9, 10] rfl ?_
                exact kk (x3, 0, u115) ht.symm
              · have ht := ht.trans (if_pos c125)
                have ko := ko c125
                refine z_aload_n O zd_L_law_400 rfl 5 rfl ?_
                refine z_aload_n O zd_L_law_401 rfl 5 rfl ?_
                refine z_callri O hl0 (st := [.ref (zq w 0)]) 0 5 (fs := zo0 w u115) rfl rfl (c_X_acks l w u115) zl_L_81 zm448 zm449 rfl rfl (Nat.le_of_ble_eq_true rfl) (Nat.le_of_ble_eq_true rfl) (Nat.le_of_ble_eq_true rfl) zd_L_law_402 (fun r126 e127 => ?_)
                have ht := ht.trans (zlet_e e127)
                have ko := ko r126 e127
                refine z_iconst O (v := 1) zd_L_law_405 (by decide) ?_
                refine z_isub O zd_L_law_406 ?_
                refine z_callri O hl0 (st := []) 0 5 (fs := zo0 w u115) rfl rfl (c_X_ackNumber l w u115 (r126 - 1) ko) zl_L_84 zm452 zm453 rfl rfl (Nat.le_of_ble_eq_true rfl) (Nat.le_of_ble_eq_true rfl) (Nat.le_of_ble_eq_true rfl) zd_L_law_407 (fun r128 e129 => ?_)
                have ht := ht.trans (zlet_e e129)
                refine z_aload_n O zd_L_law_410 rfl 5 rfl ?_
                refine z_callri O hl0 (st := [.int r128]) 0 5 (fs := zo0 w u115) rfl rfl (c_X_inOrder l w u115) zl_L_16 zm464 zm465 rfl rfl (Nat.le_of_ble_eq_true rfl) (Nat.le_of_ble_eq_true rfl) (Nat.le_of_ble_eq_true rfl) zd_L_law_411 (fun r130 e131 => ?_)
                have ht := ht.trans (zlet_e e131)
                refine z_icmp_ne O (tgt := 433) zd_L_law_414 (by decide) (fun c132 => ?_) (fun c132 => ?_)
                · have ht := ht.trans (if_neg c132)
                  refine z_iconst O (v := 0) zd_L_law_433 (by decide) ?_
                  refine z_istore O (lv' := [(4, .int 0), (16, .int r114), (15, .int r112), (14, .int r110), (13, .int r108), (0, .ref b), (1, .ref (zq w 0)), (2, .int x2), (3, .int x3), (5, .int x5), (6, .int x6), (8, .int x8), (9, .int x9), (10, .int x10), (11, .int x11), (12, .int x12)]) zd_L_law_434 (Nat.le_of_ble_eq_true rfl) rfl ?_
                  refine z_goto O (tgt := 726) zd_L_law_436 (by decide) ?_
                  refine z_sub (lv' := [(0, .ref b), (1, .ref (zq w 0)), (2, .int x2), (3, .int x3), (4, .int 0), (5, .int x5), (6, .int x6)]) [5, 6, 7, 8, 0, 9, 10] rfl ?_
                  exact kk (x3, 0, u115) ht.symm
                · have ht := ht.trans (if_pos c132)
                  refine z_iload O zd_L_law_417 2 rfl ?_
                  refine z_iload O zd_L_law_419 3 rfl ?_
                  refine z_icmp_gt O (tgt := 429) zd_L_law_421 (by decide) (fun c133 => ?_) (fun c133 => ?_)
                  · have ht := ht.trans (if_pos c133)
                    refine z_iconst O (v := 1) zd_L_law_429 (by decide) ?_
                    refine z_goto O (tgt := 434) zd_L_law_430 (by decide) ?_
                    refine z_istore O (lv' := [(4, .int 1), (16, .int r114), (15, .int r112), (14, .int r110), (13, .int r108), (0, .ref b), (1, .ref (zq w 0)), (2, .int x2), (3, .int x3), (5, .int x5), (6, .int x6), (8, .int x8), (9, .int x9), (10, .int x10), (11, .int x11), (12, .int x12)]) zd_L_law_434 (Nat.le_of_ble_eq_true rfl) rfl ?_
                    refine z_goto O (tgt := 726) zd_L_law_436 (by decide) ?_
                    refine z_sub (lv' := [(0, .ref b), (1, .ref (zq w 0)), (2, .int x2), (3, .int x3), (4, .int 1), (5, .int x5), (6, .int x6)]) [5, 6, 7, 8, 0, 9, 10] rfl ?_
                    exact kk (x3, 1, u115) ht.symm
                  · have ht := ht.trans (if_neg c133)
                    refine z_iload O zd_L_law_424 0 rfl ?_
                    refine z_if_ne O (tgt := 433) zd_L_law_426 (by decide) (fun c134 => ?_) (fun c134 => ?_)
                    · have ht := ht.trans (if_neg c134)
                      refine z_iconst O (v := 0) zd_L_law_433 (by decide) ?_
                      refine z_istore O (lv' := [(4, .int 0), (16, .int r114), (15, .int r112), (14, .int r110), (13, .int r108), (0, .ref b), (1, .ref (zq w 0)), (2, .int x2), (3, .int x3), (5, .int x5), (6, .int x6), (8, .int x8), (9, .int x9), (10, .int x10), (11, .int x11), (12, .int x12)]) zd_L_law_434 (Nat.le_of_ble_eq_true rfl) rfl ?_
                      refine z_goto O (tgt := 726) zd_L_law_436 (by decide) ?_
                      refine z_sub (lv' := [(0, .ref b), (1, .ref (zq w 0)), (2, .int x2), (3, .int x3), (4, .int 0), (5, .int x5), (6, .int x6)]) [5, 6, 7, 8, 0, 9, 10] rfl ?_
                      exact kk (x3, 0, u115) ht.symm
                    · have ht := ht.trans (if_pos c134)
                      refine z_iconst O (v := 1) zd_L_law_429 (by decide) ?_
                      refine z_goto O (tgt := 434) zd_L_law_430 (by decide) ?_
                      refine z_istore O (lv' := [(4, .int 1), (16, .int r114), (15, .int r112), (14, .int r110), (13, .int r108), (0, .ref b), (1, .ref (zq w 0)), (2, .int x2), (3, .int x3), (5, .int x5), (6, .int x6), (8, .int x8), (9, .int x9), (10, .int x10), (11, .int x11), (12, .int x12)]) zd_L_law_434 (Nat.le_of_ble_eq_true rfl) rfl ?_
                      refine z_goto O (tgt := 726) zd_L_law_436 (by decide) ?_
                      refine z_sub (lv' := [(0, .ref b), (1, .ref (zq w 0)), (2, .int x2), (3, .int x3), (4, .int 1), (5, .int x5), (6, .int x6)]) [5, 6, 7, 8, 0, 9, 10] rfl ?_
                      exact kk (x3, 1, u115) ht.symm
            · have ht := ht.trans (if_pos c124)
              have ko := ko.1 c124
              refine z_bipush O (v := 40) zd_L_law_388 (by decide) ?_
              refine z_goto O (tgt := 397) zd_L_law_390 (by decide) ?_
              refine z_icmp_ne O (tgt := 433) zd_L_law_397 (by decide) (fun c135 => ?_) (fun c135 => ?_)
              · have ht := ht.trans (if_neg c135)
                refine z_iconst O (v := 0) zd_L_law_433 (by decide) ?_
                refine z_istore O (lv' := [(4, .int 0), (16, .int r114), (15, .int r112), (14, .int r110), (13, .int r108), (0, .ref b), (1, .ref (zq w 0)), (2, .int x2), (3, .int x3), (5, .int x5), (6, .int x6), (8, .int x8), (9, .int x9), (10, .int x10), (11, .int x11), (12, .int x12)]) zd_L_law_434 (Nat.le_of_ble_eq_true rfl) rfl ?_
                refine z_goto O (tgt := 726) zd_L_law_436 (by decide) ?_
                refine z_sub (lv' := [(0, .ref b), (1, .ref (zq w 0)), (2, .int x2), (3, .int x3), (4, .int 0), (5, .int x5), (6, .int x6)]) [5, 6, 7, 8, 0, 9, 10] rfl ?_
                exact kk (x3, 0, u115) ht.symm
              · have ht := ht.trans (if_pos c135)
                have ko := ko c135
                refine z_aload_n O zd_L_law_400 rfl 5 rfl ?_
                refine z_aload_n O zd_L_law_401 rfl 5 rfl ?_
                refine z_callri O hl0 (st := [.ref (zq w 0)]) 0 5 (fs := zo0 w u115) rfl rfl (c_X_acks l w u115) zl_L_81 zm448 zm449 rfl rfl (Nat.le_of_ble_eq_true rfl) (Nat.le_of_ble_eq_true rfl) (Nat.le_of_ble_eq_true rfl) zd_L_law_402 (fun r136 e137 => ?_)
                have ht := ht.trans (zlet_e e137)
                have ko := ko r136 e137
                refine z_iconst O (v := 1) zd_L_law_405 (by decide) ?_
                refine z_isub O zd_L_law_406 ?_
                refine z_callri O hl0 (st := []) 0 5 (fs := zo0 w u115) rfl rfl (c_X_ackNumber l w u115 (r136 - 1) ko) zl_L_84 zm452 zm453 rfl rfl (Nat.le_of_ble_eq_true rfl) (Nat.le_of_ble_eq_true rfl) (Nat.le_of_ble_eq_true rfl) zd_L_law_407 (fun r138 e139 => ?_)
                have ht := ht.trans (zlet_e e139)
                refine z_aload_n O zd_L_law_410 rfl 5 rfl ?_
                refine z_callri O hl0 (st := [.int r138]) 0 5 (fs := zo0 w u115) rfl rfl (c_X_inOrder l w u115) zl_L_16 zm464 zm465 rfl rfl (Nat.le_of_ble_eq_true rfl) (Nat.le_of_ble_eq_true rfl) (Nat.le_of_ble_eq_true rfl) zd_L_law_411 (fun r140 e141 => ?_)
                have ht := ht.trans (zlet_e e141)
                refine z_icmp_ne O (tgt := 433) zd_L_law_414 (by decide) (fun c142 => ?_) (fun c142 => ?_)
                · have ht := ht.trans (if_neg c142)
                  refine z_iconst O (v := 0) zd_L_law_433 (by decide) ?_
                  refine z_istore O (lv' := [(4, .int 0), (16, .int r114), (15, .int r112), (14, .int r110), (13, .int r108), (0, .ref b), (1, .ref (zq w 0)), (2, .int x2), (3, .int x3), (5, .int x5), (6, .int x6), (8, .int x8), (9, .int x9), (10, .int x10), (11, .int x11), (12, .int x12)]) zd_L_law_434 (Nat.le_of_ble_eq_true rfl) rfl ?_
                  refine z_goto O (tgt := 726) zd_L_law_436 (by decide) ?_
                  refine z_sub (lv' := [(0, .ref b), (1, .ref (zq w 0)), (2, .int x2), (3, .int x3), (4, .int 0), (5, .int x5), (6, .int x6)]) [5, 6, 7, 8, 0, 9, 10] rfl ?_
                  exact kk (x3, 0, u115) ht.symm
                · have ht := ht.trans (if_pos c142)
                  refine z_iload O zd_L_law_417 2 rfl ?_
                  refine z_iload O zd_L_law_419 3 rfl ?_
                  refine z_icmp_gt O (tgt := 429) zd_L_law_421 (by decide) (fun c143 => ?_) (fun c143 => ?_)
                  · have ht := ht.trans (if_pos c143)
                    refine z_iconst O (v := 1) zd_L_law_429 (by decide) ?_
                    refine z_goto O (tgt := 434) zd_L_law_430 (by decide) ?_
                    refine z_istore O (lv' := [(4, .int 1), (16, .int r114), (15, .int r112), (14, .int r110), (13, .int r108), (0, .ref b), (1, .ref (zq w 0)), (2, .int x2), (3, .int x3), (5, .int x5), (6, .int x6), (8, .int x8), (9, .int x9), (10, .int x10), (11, .int x11), (12, .int x12)]) zd_L_law_434 (Nat.le_of_ble_eq_true rfl) rfl ?_
                    refine z_goto O (tgt := 726) zd_L_law_436 (by decide) ?_
                    refine z_sub (lv' := [(0, .ref b), (1, .ref (zq w 0)), (2, .int x2), (3, .int x3), (4, .int 1), (5, .int x5), (6, .int x6)]) [5, 6, 7, 8, 0, 9, 10] rfl ?_
                    exact kk (x3, 1, u115) ht.symm
                  · have ht := ht.trans (if_neg c143)
                    refine z_iload O zd_L_law_424 0 rfl ?_
                    refine z_if_ne O (tgt := 433) zd_L_law_426 (by decide) (fun c144 => ?_) (fun c144 => ?_)
                    · have ht := ht.trans (if_neg c144)
                      refine z_iconst O (v := 0) zd_L_law_433 (by decide) ?_
                      refine z_istore O (lv' := [(4, .int 0), (16, .int r114), (15, .int r112), (14, .int r110), (13, .int r108), (0, .ref b), (1, .ref (zq w 0)), (2, .int x2), (3, .int x3), (5, .int x5), (6, .int x6), (8, .int x8), (9, .int x9), (10, .int x10), (11, .int x11), (12, .int x12)]) zd_L_law_434 (Nat.le_of_ble_eq_true rfl) rfl ?_
                      refine z_goto O (tgt := 726) zd_L_law_436 (by decide) ?_
                      refine z_sub (lv' := [(0, .ref b), (1, .ref (zq w 0)), (2, .int x2), (3, .int x3), (4, .int 0), (5, .int x5), (6, .int x6)]) [5, 6, 7, 8, 0, 9, 10] rfl ?_
                      exact kk (x3, 0, u115) ht.symm
                    · have ht := ht.trans (if_pos c144)
                      refine z_iconst O (v := 1) zd_L_law_429 (by decide) ?_
                      refine z_goto O (tgt := 434) zd_L_law_430 (by decide) ?_
                      refine z_istore O (lv' := [(4, .int 1), (16, .int r114), (15, .int r112), (14, .int r110), (13, .int r108), (0, .ref b), (1, .ref (zq w 0)), (2, .int x2), (3, .int x3), (5, .int x5), (6, .int x6), (8, .int x8), (9, .int x9), (10, .int x10), (11, .int x11), (12, .int x12)]) zd_L_law_434 (Nat.le_of_ble_eq_true rfl) rfl ?_
                      refine z_goto O (tgt := 726) zd_L_law_436 (by decide) ?_
                      refine z_sub (lv' := [(0, .ref b), (1, .ref (zq w 0)), (2, .int x2), (3, .int x3), (4, .int 1), (5, .int x5), (6, .int x6)]) [5, 6, 7, 8, 0, 9, 10] rfl ?_
                      exact kk (x3, 1, u115) ht.symm
set_option maxHeartbeats 4000000 in
set_option maxRecDepth 100000 in
theorem S_L_law_295 {K : zCx} {w : zWd} {l : Launch} (O : zOk K w code "SluiceStreamLaw" 17 10 380) (hl0 : kl K = l) {b L : Nat} {xs : Nat → Int32} (hscr : zScr K b L xs) (σ : zSt) (x2 : Int32) (x3 : Int32) (x4 : Int32) (x5 : Int32) (x6 : Int32) (x8 : Int32) (x9 : Int32) (x10 : Int32) (x11 : Int32) (x12 : Int32) (ko : ks_L_law_295 L xs σ x2 x3 x4 x5 x6 x8 x9 x10 x11 x12) (kk : ∀ r, r = s_L_law_295 L xs σ x2 x3 x4 x5 x6 x8 x9 x10 x11 x12 → Z K w r.2.2 [(0, .ref b), (1, .ref (zq w 0)), (2, .int x2), (3, .int r.1), (4, .int r.2.1), (5, .int x5), (6, .int x6)] [] 726) : Z K w σ [(0, .ref b), (1, .ref (zq w 0)), (2, .int x2), (3, .int x3), (4, .int x4), (5, .int x5), (6, .int x6), (8, .int x8), (9, .int x9), (10, .int x10), (11, .int x11), (12, .int x12)] [] 295 := by
  have ht : s_L_law_295 L xs σ x2 x3 x4 x5 x6 x8 x9 x10 x11 x12 = s_L_law_295 L xs σ x2 x3 x4 x5 x6 x8 x9 x10 x11 x12 := rfl
  refine z_iload O zd_L_law_295 8 rfl ?_
  refine z_iconst O (v := 5) zd_L_law_297 (by decide) ?_
  refine z_icmp_ge O (tgt := 317) zd_L_law_298 (by decide) (fun c36 => ?_) (fun c36 => ?_)
  · have ht := ht.trans (if_pos c36)
    have ko := ko.1 c36
    refine z_sub (lv' := [(0, .ref b), (1, .ref (zq w 0)), (2, .int x2), (3, .int x3), (4, .int x4), (5, .int x5), (6, .int x6), (8, .int x8), (9, .int x9), (10, .int x10), (11, .int x11), (12, .int x12)]) [0, 1, 2, 3, 4, 5, 6, 7, 8, 9, 10, 11] rfl ?_
    refine S_L_law_317 O hl0 hscr σ x2 x3 x4 x5 x6 x8 x9 x10 x11 x12 ko (fun r145 er145 => ?_)
    have ht := ht.trans (zlet_e er145)
    refine z_sub (lv' := [(0, .ref b), (1, .ref (zq w 0)), (2, .int x2), (3, .int r145.1), (4, .int r145.2.1), (5, .int x5), (6, .int x6)]) [0, 1, 2, 3, 4, 5, 6] rfl ?_
    exact kk (r145.1, r145.2.1, r145.2.2) ht.symm
  · have ht := ht.trans (if_neg c36)
    have ko := ko.2 c36
    refine z_iload O zd_L_law_301 9 rfl ?_
    refine z_bipush O (v := 40) zd_L_law_303 (by decide) ?_
    refine z_icmp_ge O (tgt := 317) zd_L_law_305 (by decide) (fun c146 => ?_) (fun c146 => ?_)
    · have ht := ht.trans (if_pos c146)
      have ko := ko.1 c146
      refine z_sub (lv' := [(0, .ref b), (1, .ref (zq w 0)), (2, .int x2), (3, .int x3), (4, .int x4), (5, .int x5), (6, .int x6), (8, .int x8), (9, .int x9), (10, .int x10), (11, .int x11), (12, .int x12)]) [0, 1, 2, 3, 4, 5, 6, 7, 8, 9, 10, 11] rfl ?_
      refine S_L_law_317 O hl0 hscr σ x2 x3 x4 x5 x6 x8 x9 x10 x11 x12 ko (fun r147 er147 => ?_)
      have ht := ht.trans (zlet_e er147)
      refine z_sub (lv' := [(0, .ref b), (1, .ref (zq w 0)), (2, .int x2), (3, .int r147.1), (4, .int r147.2.1), (5, .int x5), (6, .int x6)]) [0, 1, 2, 3, 4, 5, 6] rfl ?_
      exact kk (r147.1, r147.2.1, r147.2.2) ht.symm
    · have ht := ht.trans (if_neg c146)
      have ko := ko.2 c146
      refine z_aload_n O zd_L_law_308 rfl 1 rfl ?_
      refine z_callsi O hl0 (st := []) (c_L_isSent l w σ ko) zl_L_135 zm582 rfl rfl (Nat.le_of_ble_eq_true rfl) (Nat.le_of_ble_eq_true rfl) (Nat.le_of_ble_eq_true rfl) zd_L_law_309 (fun r148 u149 e150 => ?_)
      have ht := ht.trans (zseq_e e150)
      refine z_istore O (lv' := [(4, .int r148), (0, .ref b), (1, .ref (zq w 0)), (2, .int x2), (3, .int x3), (5, .int x5), (6, .int x6), (8, .int x8), (9, .int x9), (10, .int x10), (11, .int x11), (12, .int x12)]) zd_L_law_312 (Nat.le_of_ble_eq_true rfl) rfl ?_
      refine z_goto O (tgt := 726) zd_L_law_314 (by decide) ?_
      refine z_sub (lv' := [(0, .ref b), (1, .ref (zq w 0)), (2, .int x2), (3, .int x3), (4, .int r148), (5, .int x5), (6, .int x6)]) [1, 2, 3, 4, 0, 5, 6] rfl ?_
      exact kk (x3, r148, u149) ht.symm
set_option maxHeartbeats 4000000 in
set_option maxRecDepth 100000 in
theorem S_L_law_227 {K : zCx} {w : zWd} {l : Launch} (O : zOk K w code "SluiceStreamLaw" 17 10 380) (hl0 : kl K = l) {b L : Nat} {xs : Nat → Int32} (hscr : zScr K b L xs) (σ : zSt) (x2 : Int32) (x3 : Int32) (x4 : Int32) (x5 : Int32) (x6 : Int32) (x8 : Int32) (x9 : Int32) (x10 : Int32) (x11 : Int32) (x12 : Int32) (ko : ks_L_law_227 L xs σ x2 x3 x4 x5 x6 x8 x9 x10 x11 x12) (kk : ∀ r, r = s_L_law_227 L xs σ x2 x3 x4 x5 x6 x8 x9 x10 x11 x12 → Z K w r.2.2 [(0, .ref b), (1, .ref (zq w 0)), (2, .int x2), (3, .int r.1), (4, .int r.2.1), (5, .int x5), (6, .int x6)] [] 726) : Z K w σ [(0, .ref b), (1, .ref (zq w 0)), (2, .int x2), (3, .int x3), (4, .int x4), (5, .int x5), (6, .int x6), (8, .int x8), (9, .int x9), (10, .int x10), (11, .int x11), (12, .int x12)] [] 227 := by
  have ht : s_L_law_227 L xs σ x2 x3 x4 x5 x6 x8 x9 x10 x11 x12 = s_L_law_227 L xs σ x2 x3 x4 x5 x6 x8 x9 x10 x11 x12 := rfl
  refine z_iload O zd_L_law_227 8 rfl ?_
  refine z_if_ne O (tgt := 295) zd_L_law_229 (by decide) (fun c35 => ?_) (fun c35 => ?_)
  · have ht := ht.trans (if_neg c35)
    have ko := ko.2 c35
    refine z_sub (lv' := [(0, .ref b), (1, .ref (zq w 0)), (2, .int x2), (3, .int x3), (4, .int x4), (5, .int x5), (6, .int x6), (8, .int x8), (9, .int x9), (10, .int x10), (11, .int x11), (12, .int x12)]) [0, 1, 2, 3, 4, 5, 6, 7, 8, 9, 10, 11] rfl ?_
    refine S_L_law_295 O hl0 hscr σ x2 x3 x4 x5 x6 x8 x9 x10 x11 x12 ko (fun r151 er151 => ?_)
    have ht := ht.trans (zlet_e er151)
    refine z_sub (lv' := [(0, .ref b), (1, .ref (zq w 0)), (2, .int x2), (3, .int r151.1), (4, .int r151.2.1), (5, .int x5), (6, .int x6)]) [0, 1, 2, 3, 4, 5, 6] rfl ?_
    exact kk (r151.1, r151.2.1, r151.2.2) ht.symm
  · have ht := ht.trans (if_pos c35)
    have ko := ko.1 c35
    refine z_aload_n O zd_L_law_232 rfl 1 rfl ?_
    refine z_callri O hl0 (st := []) 0 5 (fs := zo0 w σ) rfl rfl (c_X_written l w σ) zl_L_19 zm460 zm461 rfl rfl (Nat.le_of_ble_eq_true rfl) (Nat.le_of_ble_eq_true rfl) (Nat.le_of_ble_eq_true rfl) zd_L_law_233 (fun r152 e153 => ?_)
    have ht := ht.trans (zlet_e e153)
    have ko := ko r152 e153
    refine z_sipush O (v := 200) zd_L_law_236 (by decide) ?_
    refine z_icmp_gt O (tgt := 295) zd_L_law_239 (by decide) (fun c154 => ?_) (fun c154 => ?_)
    · have ht := ht.trans (if_pos c154)
      have ko := ko.1 c154
      refine z_sub (lv' := [(0, .ref b), (1, .ref (zq w 0)), (2, .int x2), (3, .int x3), (4, .int x4), (5, .int x5), (6, .int x6), (8, .int x8), (9, .int x9), (10, .int x10), (11, .int x11), (12, .int x12)]) [0, 1, 2, 3, 4, 5, 6, 7, 8, 9, 10, 11] rfl ?_
      refine S_L_law_295 O hl0 hscr σ x2 x3 x4 x5 x6 x8 x9 x10 x11 x12 ko (fun r155 er155 => ?_)
      have ht := ht.trans (zlet_e er155)
      refine z_sub (lv' := [(0, .ref b), (1, .ref (zq w 0)), (2, .int x2), (3, .int r155.1), (4, .int r155.2.1), (5, .int x5), (6, .int x6)]) [0, 1, 2, 3, 4, 5, 6] rfl ?_
      exact kk (r155.1, r155.2.1, r155.2.2) ht.symm
    · have ht := ht.trans (if_neg c154)
      have ko := ko.2 c154
      refine z_iconst O (v := 1) zd_L_law_242 (by decide) ?_
      refine z_iload O zd_L_law_243 7 rfl ?_
      refine z_iconst O (v := 1) zd_L_law_245 (by decide) ?_
      refine z_ishr O zd_L_law_246 ?_
      refine z_sipush O (v := 255) zd_L_law_247 (by decide) ?_
      refine z_iand O zd_L_law_250 ?_
      refine z_bipush O (v := 100) zd_L_law_251 (by decide) ?_
      refine z_irem O zd_L_law_253 (by decide) ?_
      refine z_iadd O zd_L_law_254 ?_
      refine z_istore O (lv' := [(13, .int (1 + ((((x8 >>> ((1 : Int32) &&& (31 : Int32))) : Int32) &&& 255) - (((x8 >>> ((1 : Int32) &&& (31 : Int32))) : Int32) &&& 255) / 100 * 100))), (0, .ref b), (1, .ref (zq w 0)), (2, .int x2), (3, .int x3), (4, .int x4), (5, .int x5), (6, .int x6), (8, .int x8), (9, .int x9), (10, .int x10), (11, .int x11), (12, .int x12)]) zd_L_law_255 (Nat.le_of_ble_eq_true rfl) rfl ?_
      refine z_aload_n O zd_L_law_257 rfl 2 rfl ?_
      refine z_callri O hl0 (st := []) 0 5 (fs := zo0 w σ) rfl rfl (c_X_written l w σ) zl_L_19 zm460 zm461 rfl rfl (Nat.le_of_ble_eq_true rfl) (Nat.le_of_ble_eq_true rfl) (Nat.le_of_ble_eq_true rfl) zd_L_law_258 (fun r156 e157 => ?_)
      have ht := ht.trans (zlet_e e157)
      have ko := ko r156 e157
      refine z_istore O (lv' := [(14, .int r156), (13, .int (1 + ((((x8 >>> ((1 : Int32) &&& (31 : Int32))) : Int32) &&& 255) - (((x8 >>> ((1 : Int32) &&& (31 : Int32))) : Int32) &&& 255) / 100 * 100))), (0, .ref b), (1, .ref (zq w 0)), (2, .int x2), (3, .int x3), (4, .int x4), (5, .int x5), (6, .int x6), (8, .int x8), (9, .int x9), (10, .int x10), (11, .int x11), (12, .int x12)]) zd_L_law_261 (Nat.le_of_ble_eq_true rfl) rfl ?_
      refine z_aload_n O zd_L_law_263 rfl 3 rfl ?_
      refine z_iload_n O zd_L_law_264 rfl 4 rfl ?_
      refine z_iload O zd_L_law_265 0 rfl ?_
      refine z_iadd O zd_L_law_267 ?_
      refine z_sipush O (v := 256) zd_L_law_268 (by decide) ?_
      refine z_irem O zd_L_law_271 (by decide) ?_
      refine z_iload O zd_L_law_272 1 rfl ?_
      refine z_calli O hl0 (st := []) 0 5 (fs := zo0 w σ) rfl rfl (c_X_write l w σ ((x2 + r156) - (x2 + r156) / 256 * 256) (1 + ((((x8 >>> ((1 : Int32) &&& (31 : Int32))) : Int32) &&& 255) - (((x8 >>> ((1 : Int32) &&& (31 : Int32))) : Int32) &&& 255) / 100 * 100)) ko) zl_L_132 zm190 zm191 rfl rfl (Nat.le_of_ble_eq_true rfl) (Nat.le_of_ble_eq_true rfl) (Nat.le_of_ble_eq_true rfl) zd_L_law_274 (fun r158 u159 e160 => ?_)
      have ht := ht.trans (zseq_e e160)
      refine z_iload O zd_L_law_277 0 rfl ?_
      refine z_iload O zd_L_law_279 1 rfl ?_
      refine z_iadd O zd_L_law_281 ?_
      refine z_icmp_ne O (tgt := 289) zd_L_law_282 (by decide) (fun c161 => ?_) (fun c161 => ?_)
      · have ht := ht.trans (if_neg c161)
        refine z_iconst O (v := 0) zd_L_law_289 (by decide) ?_
        refine z_istore O (lv' := [(4, .int 0), (14, .int r156), (13, .int (1 + ((((x8 >>> ((1 : Int32) &&& (31 : Int32))) : Int32) &&& 255) - (((x8 >>> ((1 : Int32) &&& (31 : Int32))) : Int32) &&& 255) / 100 * 100))), (0, .ref b), (1, .ref (zq w 0)), (2, .int x2), (3, .int x3), (5, .int x5), (6, .int x6), (8, .int x8), (9, .int x9), (10, .int x10), (11, .int x11), (12, .int x12)]) zd_L_law_290 (Nat.le_of_ble_eq_true rfl) rfl ?_
        refine z_goto O (tgt := 726) zd_L_law_292 (by decide) ?_
        refine z_sub (lv' := [(0, .ref b), (1, .ref (zq w 0)), (2, .int x2), (3, .int x3), (4, .int 0), (5, .int x5), (6, .int x6)]) [3, 4, 5, 6, 0, 7, 8] rfl ?_
        exact kk (x3, 0, u159) ht.symm
      · have ht := ht.trans (if_pos c161)
        refine z_iconst O (v := 1) zd_L_law_285 (by decide) ?_
        refine z_goto O (tgt := 290) zd_L_law_286 (by decide) ?_
        refine z_istore O (lv' := [(4, .int 1), (14, .int r156), (13, .int (1 + ((((x8 >>> ((1 : Int32) &&& (31 : Int32))) : Int32) &&& 255) - (((x8 >>> ((1 : Int32) &&& (31 : Int32))) : Int32) &&& 255) / 100 * 100))), (0, .ref b), (1, .ref (zq w 0)), (2, .int x2), (3, .int x3), (5, .int x5), (6, .int x6), (8, .int x8), (9, .int x9), (10, .int x10), (11, .int x11), (12, .int x12)]) zd_L_law_290 (Nat.le_of_ble_eq_true rfl) rfl ?_
        refine z_goto O (tgt := 726) zd_L_law_292 (by decide) ?_
        refine z_sub (lv' := [(0, .ref b), (1, .ref (zq w 0)), (2, .int x2), (3, .int x3), (4, .int 1), (5, .int x5), (6, .int x6)]) [3, 4, 5, 6, 0, 7, 8] rfl ?_
        exact kk (x3, 1, u159) ht.symm
set_option maxHeartbeats 4000000 in
set_option maxRecDepth 100000 in
theorem S_L_law_726 {K : zCx} {w : zWd} {l : Launch} (O : zOk K w code "SluiceStreamLaw" 17 10 380) (hl0 : kl K = l) {b L : Nat} {xs : Nat → Int32} (hscr : zScr K b L xs) (σ : zSt) (x2 : Int32) (x3 : Int32) (x4 : Int32) (x5 : Int32) (x6 : Int32) (ko : ks_L_law_726 L xs σ x2 x3 x4 x5 x6) (kk : ∀ r, r = s_L_law_726 L xs σ x2 x3 x4 x5 x6 → Z K w σ [(0, .ref b), (1, .ref (zq w 0)), (2, .int x2), (3, .int x3), (4, .int r), (5, .int x5), (6, .int x6)] [] 752) : Z K w σ [(0, .ref b), (1, .ref (zq w 0)), (2, .int x2), (3, .int x3), (4, .int x4), (5, .int x5), (6, .int x6)] [] 726 := by
  have ht : s_L_law_726 L xs σ x2 x3 x4 x5 x6 = s_L_law_726 L xs σ x2 x3 x4 x5 x6 := rfl
  refine z_iload O zd_L_law_726 4 rfl ?_
  refine z_if_eq O (tgt := 749) zd_L_law_728 (by decide) (fun c163 => ?_) (fun c163 => ?_)
  · have ht := ht.trans (if_pos c163)
    refine z_iconst O (v := 0) zd_L_law_749 (by decide) ?_
    refine z_istore O (lv' := [(4, .int 0), (0, .ref b), (1, .ref (zq w 0)), (2, .int x2), (3, .int x3), (5, .int x5), (6, .int x6)]) zd_L_law_750 (Nat.le_of_ble_eq_true rfl) rfl ?_
    refine z_sub (lv' := [(0, .ref b), (1, .ref (zq w 0)), (2, .int x2), (3, .int x3), (4, .int 0), (5, .int x5), (6, .int x6)]) [1, 2, 3, 4, 0, 5, 6] rfl ?_
    exact kk 0 ht.symm
  · have ht := ht.trans (if_neg c163)
    have ko := ko c163
    refine z_aload_n O zd_L_law_731 rfl 1 rfl ?_
    refine z_callsri O hl0 (st := []) (c_L_isSender l w σ ko.1) zl_L_122 zm472 rfl rfl (Nat.le_of_ble_eq_true rfl) (Nat.le_of_ble_eq_true rfl) (Nat.le_of_ble_eq_true rfl) zd_L_law_732 (fun r164 e165 => ?_)
    have ht := ht.trans (zlet_e e165)
    have ko := ko.2 r164 e165
    refine z_if_eq O (tgt := 749) zd_L_law_735 (by decide) (fun c166 => ?_) (fun c166 => ?_)
    · have ht := ht.trans (if_pos c166)
      refine z_iconst O (v := 0) zd_L_law_749 (by decide) ?_
      refine z_istore O (lv' := [(4, .int 0), (0, .ref b), (1, .ref (zq w 0)), (2, .int x2), (3, .int x3), (5, .int x5), (6, .int x6)]) zd_L_law_750 (Nat.le_of_ble_eq_true rfl) rfl ?_
      refine z_sub (lv' := [(0, .ref b), (1, .ref (zq w 0)), (2, .int x2), (3, .int x3), (4, .int 0), (5, .int x5), (6, .int x6)]) [1, 2, 3, 4, 0, 5, 6] rfl ?_
      exact kk 0 ht.symm
    · have ht := ht.trans (if_neg c166)
      have ko := ko c166
      refine z_aload_n O zd_L_law_738 rfl 1 rfl ?_
      refine z_callsri O hl0 (st := []) (c_L_isReceiver l w σ ko) zl_L_128 zm537 rfl rfl (Nat.le_of_ble_eq_true rfl) (Nat.le_of_ble_eq_true rfl) (Nat.le_of_ble_eq_true rfl) zd_L_law_739 (fun r167 e168 => ?_)
      have ht := ht.trans (zlet_e e168)
      refine z_if_eq O (tgt := 749) zd_L_law_742 (by decide) (fun c169 => ?_) (fun c169 => ?_)
      · have ht := ht.trans (if_pos c169)
        refine z_iconst O (v := 0) zd_L_law_749 (by decide) ?_
        refine z_istore O (lv' := [(4, .int 0), (0, .ref b), (1, .ref (zq w 0)), (2, .int x2), (3, .int x3), (5, .int x5), (6, .int x6)]) zd_L_law_750 (Nat.le_of_ble_eq_true rfl) rfl ?_
        refine z_sub (lv' := [(0, .ref b), (1, .ref (zq w 0)), (2, .int x2), (3, .int x3), (4, .int 0), (5, .int x5), (6, .int x6)]) [1, 2, 3, 4, 0, 5, 6] rfl ?_
        exact kk 0 ht.symm
      · have ht := ht.trans (if_neg c169)
        refine z_iconst O (v := 1) zd_L_law_745 (by decide) ?_
        refine z_goto O (tgt := 750) zd_L_law_746 (by decide) ?_
        refine z_istore O (lv' := [(4, .int 1), (0, .ref b), (1, .ref (zq w 0)), (2, .int x2), (3, .int x3), (5, .int x5), (6, .int x6)]) zd_L_law_750 (Nat.le_of_ble_eq_true rfl) rfl ?_
        refine z_sub (lv' := [(0, .ref b), (1, .ref (zq w 0)), (2, .int x2), (3, .int x3), (4, .int 1), (5, .int x5), (6, .int x6)]) [1, 2, 3, 4, 0, 5, 6] rfl ?_
        exact kk 1 ht.symm
set_option maxHeartbeats 4000000 in
set_option maxRecDepth 100000 in
theorem L_L_law_83 {K : zCx} {w : zWd} {l : Launch} (O : zOk K w code "SluiceStreamLaw" 17 10 380) (hl0 : kl K = l) {b L : Nat} {xs : Nat → Int32} (hscr : zScr K b L xs) (x2 x5 : Int32) : ∀ (m : Nat) (σ : zSt) (x3 x4 x6 : Int32), kl_L_law_83 L xs x2 x5 m σ x3 x4 x6 → (∀ r, r = (l_L_law_83 L xs x2 x5 m σ x3 x4 x6) → Z K w r.2.2 [(1, .ref (zq w 0)), (2, .int x2), (3, .int r.1), (4, .int r.2.1)] [] 758) → Z K w σ [(0, .ref b), (1, .ref (zq w 0)), (2, .int x2), (3, .int x3), (4, .int x4), (5, .int x5), (6, .int x6)] [] 83 := by
  intro m
  induction m with
  | zero => intro σ x3 x4 x6 ko; exact ko.elim
  | succ m ih =>
    intro σ x3 x4 x6 ko kk
    have ht : l_L_law_83 L xs x2 x5 (m + 1) σ x3 x4 x6 = l_L_law_83 L xs x2 x5 (m + 1) σ x3 x4 x6 := rfl
    refine z_iload O zd_L_law_83 6 rfl ?_
    refine z_iload O zd_L_law_85 5 rfl ?_
    refine z_icmp_ge O (tgt := 758) zd_L_law_87 (by decide) (fun c14 => ?_) (fun c14 => ?_)
    · have ht := ht.trans (if_pos c14)
      refine z_sub (lv' := [(1, .ref (zq w 0)), (2, .int x2), (3, .int x3), (4, .int x4)]) [1, 2, 3, 4] rfl ?_
      exact kk (x3, x4, σ) ht.symm
    · have ht := ht.trans (if_neg c14)
      have ko := ko c14
      refine z_iload O zd_L_law_90 4 rfl ?_
      refine z_if_eq O (tgt := 758) zd_L_law_92 (by decide) (fun c15 => ?_) (fun c15 => ?_)
      · have ht := ht.trans (if_pos c15)
        refine z_sub (lv' := [(1, .ref (zq w 0)), (2, .int x2), (3, .int x3), (4, .int x4)]) [1, 2, 3, 4] rfl ?_
        exact kk (x3, x4, σ) ht.symm
      · have ht := ht.trans (if_neg c15)
        have ko := ko c15
        refine z_sub (lv' := [(0, .ref b), (1, .ref (zq w 0)), (2, .int x2), (3, .int x3), (4, .int x4), (5, .int x5), (6, .int x6)]) [0, 1, 2, 3, 4, 5, 6] rfl ?_
        refine S_L_law_95 O hl0 hscr σ x2 x3 x4 x5 x6 ko.1 (fun r18 er18 => ?_)
        have ht := ht.trans (zlet_e er18)
        have ko := ko.2 r18 er18
        refine z_iload O zd_L_law_129 7 rfl ?_
        refine z_iconst O (v := 4) zd_L_law_131 (by decide) ?_
        refine z_ishr O zd_L_law_132 ?_
        refine z_istore O (lv' := [(8, .int ((r18 >>> ((4 : Int32) &&& (31 : Int32))) : Int32)), (0, .ref b), (1, .ref (zq w 0)), (2, .int x2), (3, .int x3), (4, .int x4), (5, .int x5), (6, .int x6), (7, .int r18)]) zd_L_law_133 (Nat.le_of_ble_eq_true rfl) rfl ?_
        refine z_sub (lv' := [(0, .ref b), (1, .ref (zq w 0)), (2, .int x2), (3, .int x3), (4, .int x4), (5, .int x5), (6, .int x6), (7, .int r18), (8, .int ((r18 >>> ((4 : Int32) &&& (31 : Int32))) : Int32))]) [1, 2, 3, 4, 5, 6, 7, 8, 0] rfl ?_
        refine S_L_law_135 O hl0 hscr σ x2 x3 x4 x5 x6 r18 ((r18 >>> ((4 : Int32) &&& (31 : Int32))) : Int32) (fun r20 er20 => ?_)
        have ht := ht.trans (zlet_e er20)
        have ko := ko r20 er20
        refine z_aload_n O zd_L_law_151 rfl 1 rfl ?_
        refine z_callri O hl0 (st := []) 0 5 (fs := zo0 w σ) rfl rfl (c_X_segments l w σ) zl_L_97 zm440 zm441 rfl rfl (Nat.le_of_ble_eq_true rfl) (Nat.le_of_ble_eq_true rfl) (Nat.le_of_ble_eq_true rfl) zd_L_law_152 (fun r21 e22 => ?_)
        have ht := ht.trans (zlet_e e22)
        have ko := ko r21 e22
        refine z_istore O (lv' := [(10, .int r21), (0, .ref b), (1, .ref (zq w 0)), (2, .int x2), (3, .int x3), (4, .int x4), (5, .int x5), (6, .int x6), (8, .int ((r18 >>> ((4 : Int32) &&& (31 : Int32))) : Int32)), (9, .int r20)]) zd_L_law_155 (Nat.le_of_ble_eq_true rfl) rfl ?_
        refine z_sub (lv' := [(0, .ref b), (1, .ref (zq w 0)), (2, .int x2), (3, .int x3), (4, .int x4), (5, .int x5), (6, .int x6), (8, .int ((r18 >>> ((4 : Int32) &&& (31 : Int32))) : Int32)), (9, .int r20), (10, .int r21)]) [1, 2, 3, 4, 5, 6, 7, 8, 9, 0] rfl ?_
        refine S_L_law_157 O hl0 hscr σ x2 x3 x4 x5 x6 ((r18 >>> ((4 : Int32) &&& (31 : Int32))) : Int32) r20 r21 ko.1 (fun r26 er26 => ?_)
        have ht := ht.trans (zlet_e er26)
        have ko := ko.2 r26 er26
        refine z_sub (lv' := [(0, .ref b), (1, .ref (zq w 0)), (2, .int x2), (3, .int x3), (4, .int x4), (5, .int x5), (6, .int x6), (8, .int ((r18 >>> ((4 : Int32) &&& (31 : Int32))) : Int32)), (9, .int r20), (10, .int r21), (11, .int r26)]) [0, 1, 2, 3, 4, 5, 6, 7, 8, 9, 10] rfl ?_
        refine S_L_law_190 O hl0 hscr σ x2 x3 x4 x5 x6 ((r18 >>> ((4 : Int32) &&& (31 : Int32))) : Int32) r20 r21 r26 ko.1 (fun r34 er34 => ?_)
        have ht := ht.trans (zlet_e er34)
        have ko := ko.2 r34 er34
        refine z_sub (lv' := [(0, .ref b), (1, .ref (zq w 0)), (2, .int x2), (3, .int x3), (4, .int x4), (5, .int x5), (6, .int x6), (8, .int ((r18 >>> ((4 : Int32) &&& (31 : Int32))) : Int32)), (9, .int r20), (10, .int r21), (11, .int r26), (12, .int r34)]) [0, 1, 2, 3, 4, 5, 6, 7, 8, 9, 10, 11] rfl ?_
        refine S_L_law_227 O hl0 hscr σ x2 x3 x4 x5 x6 ((r18 >>> ((4 : Int32) &&& (31 : Int32))) : Int32) r20 r21 r26 r34 ko.1 (fun r162 er162 => ?_)
        have ht := ht.trans (zlet_e er162)
        have ko := ko.2 r162 er162
        refine z_sub (lv' := [(0, .ref b), (1, .ref (zq w 0)), (2, .int x2), (3, .int r162.1), (4, .int r162.2.1), (5, .int x5), (6, .int x6)]) [0, 1, 2, 3, 4, 5, 6] rfl ?_
        refine S_L_law_726 O hl0 hscr r162.2.2 x2 r162.1 r162.2.1 x5 x6 ko.1 (fun r170 er170 => ?_)
        have ht := ht.trans (zlet_e er170)
        have ko := ko.2 r170 er170
        refine z_iinc O (v := (x6 + 1)) (lv' := [(6, .int (x6 + 1)), (0, .ref b), (1, .ref (zq w 0)), (2, .int x2), (3, .int r162.1), (4, .int r170), (5, .int x5)]) zd_L_law_752 6 rfl rfl (Nat.le_of_ble_eq_true rfl) rfl ?_
        refine z_goto O (tgt := 83) zd_L_law_755 (by decide) ?_
        refine z_sub (lv' := [(0, .ref b), (1, .ref (zq w 0)), (2, .int x2), (3, .int r162.1), (4, .int r170), (5, .int x5), (6, .int (x6 + 1))]) [1, 2, 3, 4, 5, 6, 0] rfl ?_
        exact ih r162.2.2 r162.1 r170 (x6 + 1) ko (fun r e => kk r (e.trans ht.symm))
set_option maxHeartbeats 4000000 in
set_option maxRecDepth 100000 in
theorem J_L_law_8 {K : zCx} {w : zWd} {l : Launch} (O : zOk K w code "SluiceStreamLaw" 17 10 380) (hl0 : kl K = l) {b L : Nat} {xs : Nat → Int32} (hscr : zScr K b L xs) (σ : zSt) {X : Int32 × zSt} (E : zRi K w code .boolean (fun r u => (r, u) = X)) (ht : X = j_L_law_8 L xs σ) (ko : kj_L_law_8 L xs σ) : Z K w σ [(0, .ref b), (1, .ref (zq w 0))] [] 8 := by
  refine z_sub (lv' := [(0, .ref b), (1, .ref (zq w 0))]) [0, 1] rfl ?_
  refine S_L_law_8 O hl0 hscr σ ko.1 (fun r3 er3 => ?_)
  have ht := ht.trans (zlet_e er3)
  have ko := ko.2 r3 er3
  refine z_iconst O (v := 0) zd_L_law_26 (by decide) ?_
  refine z_istore_n O (lv' := [(3, .int 0), (0, .ref b), (1, .ref (zq w 0)), (2, .int r3)]) zd_L_law_27 rfl (Nat.le_of_ble_eq_true rfl) rfl ?_
  refine z_sub (lv' := [(0, .ref b), (1, .ref (zq w 0)), (2, .int r3), (3, .int 0)]) [1, 2, 3, 0] rfl ?_
  refine S_L_law_28 O hl0 hscr σ r3 0 ko.1 (fun r10 er10 => ?_)
  have ht := ht.trans (zlet_e er10)
  have ko := ko.2 r10 er10
  refine z_sub (lv' := [(0, .ref b), (1, .ref (zq w 0)), (2, .int r3), (3, .int 0), (4, .int r10)]) [0, 1, 2, 3, 4] rfl ?_
  refine S_L_law_49 O hl0 hscr σ r3 0 r10 (fun r13 er13 => ?_)
  have ht := ht.trans (zlet_e er13)
  have ko := ko r13 er13
  refine z_iconst O (v := 0) zd_L_law_80 (by decide) ?_
  refine z_istore O (lv' := [(6, .int 0), (0, .ref b), (1, .ref (zq w 0)), (2, .int r3), (3, .int 0), (4, .int r10), (5, .int r13)]) zd_L_law_81 (Nat.le_of_ble_eq_true rfl) rfl ?_
  refine z_sub (lv' := [(0, .ref b), (1, .ref (zq w 0)), (2, .int r3), (3, .int 0), (4, .int r10), (5, .int r13), (6, .int 0)]) [1, 2, 3, 4, 5, 6, 0] rfl ?_
  refine L_L_law_83 O hl0 hscr r3 r13 (400) σ 0 r10 0 ko.1 (fun r171 er171 => ?_)
  have ht := ht.trans (zlet_e er171)
  have ko := ko.2 r171 er171
  refine z_iload O zd_L_law_758 3 rfl ?_
  refine z_if_eq O (tgt := 794) zd_L_law_760 (by decide) (fun c172 => ?_) (fun c172 => ?_)
  · have ht := ht.trans (if_pos c172)
    refine z_iconst O (v := 0) zd_L_law_794 (by decide) ?_
    exact E _ _ _ _ zd_L_law_795 rfl ht.symm
  · have ht := ht.trans (if_neg c172)
    have ko := ko c172
    refine z_aload_n O zd_L_law_763 rfl 0 rfl ?_
    refine z_iload_n O zd_L_law_764 rfl 1 rfl ?_
    refine z_iload_n O zd_L_law_765 rfl 2 rfl ?_
    refine z_callsi O hl0 (st := []) (c_L_drains l w r171.2.2 r3 r171.1 ko.1) zl_L_151 zm670 rfl rfl (Nat.le_of_ble_eq_true rfl) (Nat.le_of_ble_eq_true rfl) (Nat.le_of_ble_eq_true rfl) zd_L_law_766 (fun r173 u174 e175 => ?_)
    have ht := ht.trans (zseq_e e175)
    have ko := ko.2 r173 u174 e175
    refine z_aload_n O zd_L_law_769 rfl 0 rfl ?_
    refine z_callri O hl0 (st := [.int r173]) 0 5 (fs := zo0 w u174) rfl rfl (c_X_written l w u174) zl_L_19 zm460 zm461 rfl rfl (Nat.le_of_ble_eq_true rfl) (Nat.le_of_ble_eq_true rfl) (Nat.le_of_ble_eq_true rfl) zd_L_law_770 (fun r176 e177 => ?_)
    have ht := ht.trans (zlet_e e177)
    have ko := ko r176 e177
    refine z_icmp_ne O (tgt := 794) zd_L_law_773 (by decide) (fun c178 => ?_) (fun c178 => ?_)
    · have ht := ht.trans (if_neg c178)
      refine z_iconst O (v := 0) zd_L_law_794 (by decide) ?_
      exact E _ _ _ _ zd_L_law_795 rfl ht.symm
    · have ht := ht.trans (if_pos c178)
      have ko := ko c178
      refine z_aload_n O zd_L_law_776 rfl 0 rfl ?_
      refine z_callsri O hl0 (st := []) (c_L_isSender l w u174 ko.1) zl_L_122 zm472 rfl rfl (Nat.le_of_ble_eq_true rfl) (Nat.le_of_ble_eq_true rfl) (Nat.le_of_ble_eq_true rfl) zd_L_law_777 (fun r179 e180 => ?_)
      have ht := ht.trans (zlet_e e180)
      have ko := ko.2 r179 e180
      refine z_if_eq O (tgt := 794) zd_L_law_780 (by decide) (fun c181 => ?_) (fun c181 => ?_)
      · have ht := ht.trans (if_pos c181)
        refine z_iconst O (v := 0) zd_L_law_794 (by decide) ?_
        exact E _ _ _ _ zd_L_law_795 rfl ht.symm
      · have ht := ht.trans (if_neg c181)
        have ko := ko c181
        refine z_aload_n O zd_L_law_783 rfl 0 rfl ?_
        refine z_callsri O hl0 (st := []) (c_L_isReceiver l w u174 ko) zl_L_128 zm537 rfl rfl (Nat.le_of_ble_eq_true rfl) (Nat.le_of_ble_eq_true rfl) (Nat.le_of_ble_eq_true rfl) zd_L_law_784 (fun r182 e183 => ?_)
        have ht := ht.trans (zlet_e e183)
        refine z_if_eq O (tgt := 794) zd_L_law_787 (by decide) (fun c184 => ?_) (fun c184 => ?_)
        · have ht := ht.trans (if_pos c184)
          refine z_iconst O (v := 0) zd_L_law_794 (by decide) ?_
          exact E _ _ _ _ zd_L_law_795 rfl ht.symm
        · have ht := ht.trans (if_neg c184)
          refine z_iconst O (v := 1) zd_L_law_790 (by decide) ?_
          refine z_goto O (tgt := 795) zd_L_law_791 (by decide) ?_
          exact E _ _ _ _ zd_L_law_795 rfl ht.symm
