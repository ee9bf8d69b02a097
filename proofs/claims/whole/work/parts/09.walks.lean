set_option maxHeartbeats 4000000 in
set_option maxRecDepth 100000 in
theorem c_P_at_3 (l : Launch) (w : zWd) (σ : zSt) (a1 : Int32) (ko : k_P_at 3 σ a1) : zMi l ({ cls := "SluiceStream$Positions", name := "at", desc := "(I)I" } : Jvm.MethodName) prog_2_method_2_code 2 0 0 .int w [.ref (zq w 3), .int a1] σ (fun r u => r = (f_P_at 3 σ a1) ∧ u = σ) := by
  refine zMi_of (by decide +kernel) (Nat.le_of_ble_eq_true rfl) ?_
  intro K O hl0 E
  have ht : (f_P_at 3 σ a1) = (f_P_at 3 σ a1) := rfl
  refine z_sub (lv' := [(0, .ref (zq w 3)), (1, .int a1)]) [0, 1] rfl ?_
  refine z_iload_n O zd_P_at_0 rfl 1 rfl ?_
  refine z_if_lt O (tgt := 22) zd_P_at_1 (by decide) (fun c1 => ?_) (fun c1 => ?_)
  · have ht := ht.trans (if_pos c1)
    refine z_iconst O (v := 0) zd_P_at_22 (by decide) ?_
    exact E _ _ _ _ zd_P_at_23 rfl ⟨ht.symm, rfl⟩
  · have ht := ht.trans (if_neg c1)
    have ko := ko c1
    refine z_iload_n O zd_P_at_4 rfl 1 rfl ?_
    refine z_aload_n O zd_P_at_5 rfl 0 rfl ?_
    refine zg_P_9_3 O zd_P_at_6 (v := .ref (zq w 4)) rfl ?_
    refine z_alen O 4 (zae4 w σ) (v := 600) rfl zd_P_at_9 ?_
    refine z_icmp_ge O (tgt := 22) zd_P_at_10 (by decide) (fun c2 => ?_) (fun c2 => ?_)
    · have ht := ht.trans (if_pos c2)
      refine z_iconst O (v := 0) zd_P_at_22 (by decide) ?_
      exact E _ _ _ _ zd_P_at_23 rfl ⟨ht.symm, rfl⟩
    · have ht := ht.trans (if_neg c2)
      have ko := ko c2
      refine z_aload_n O zd_P_at_13 rfl 0 rfl ?_
      refine zg_P_9_3 O zd_P_at_14 (v := .ref (zq w 4)) rfl ?_
      refine z_iload_n O zd_P_at_17 rfl 1 rfl ?_
      have b3 := ko
      refine z_iald O 4 (zae4 w σ) b3 (v := (σ 4 a1.toNatClampNeg)) rfl zd_P_at_18 ?_
      refine z_goto O (tgt := 23) zd_P_at_19 (by decide) ?_
      exact E _ _ _ _ zd_P_at_23 rfl ⟨ht.symm, rfl⟩
set_option maxHeartbeats 4000000 in
set_option maxRecDepth 100000 in
theorem c_P_at_7 (l : Launch) (w : zWd) (σ : zSt) (a1 : Int32) (ko : k_P_at 7 σ a1) : zMi l ({ cls := "SluiceStream$Positions", name := "at", desc := "(I)I" } : Jvm.MethodName) prog_2_method_2_code 2 0 0 .int w [.ref (zq w 7), .int a1] σ (fun r u => r = (f_P_at 7 σ a1) ∧ u = σ) := by
  refine zMi_of (by decide +kernel) (Nat.le_of_ble_eq_true rfl) ?_
  intro K O hl0 E
  have ht : (f_P_at 7 σ a1) = (f_P_at 7 σ a1) := rfl
  refine z_sub (lv' := [(0, .ref (zq w 7)), (1, .int a1)]) [0, 1] rfl ?_
  refine z_iload_n O zd_P_at_0 rfl 1 rfl ?_
  refine z_if_lt O (tgt := 22) zd_P_at_1 (by decide) (fun c1 => ?_) (fun c1 => ?_)
  · have ht := ht.trans (if_pos c1)
    refine z_iconst O (v := 0) zd_P_at_22 (by decide) ?_
    exact E _ _ _ _ zd_P_at_23 rfl ⟨ht.symm, rfl⟩
  · have ht := ht.trans (if_neg c1)
    have ko := ko c1
    refine z_iload_n O zd_P_at_4 rfl 1 rfl ?_
    refine z_aload_n O zd_P_at_5 rfl 0 rfl ?_
    refine zg_P_9_7 O zd_P_at_6 (v := .ref (zq w 8)) rfl ?_
    refine z_alen O 8 (zae8 w σ) (v := 600) rfl zd_P_at_9 ?_
    refine z_icmp_ge O (tgt := 22) zd_P_at_10 (by decide) (fun c2 => ?_) (fun c2 => ?_)
    · have ht := ht.trans (if_pos c2)
      refine z_iconst O (v := 0) zd_P_at_22 (by decide) ?_
      exact E _ _ _ _ zd_P_at_23 rfl ⟨ht.symm, rfl⟩
    · have ht := ht.trans (if_neg c2)
      have ko := ko c2
      refine z_aload_n O zd_P_at_13 rfl 0 rfl ?_
      refine zg_P_9_7 O zd_P_at_14 (v := .ref (zq w 8)) rfl ?_
      refine z_iload_n O zd_P_at_17 rfl 1 rfl ?_
      have b3 := ko
      refine z_iald O 8 (zae8 w σ) b3 (v := (σ 8 a1.toNatClampNeg)) rfl zd_P_at_18 ?_
      refine z_goto O (tgt := 23) zd_P_at_19 (by decide) ?_
      exact E _ _ _ _ zd_P_at_23 rfl ⟨ht.symm, rfl⟩
set_option maxHeartbeats 4000000 in
set_option maxRecDepth 100000 in
theorem L_P_fillEmpty_10_3 {K : zCx} {w : zWd} {l : Launch} (O : zOk K w prog_2_method_3_code "SluiceStream$Positions" 6 1 21) (hl0 : kl K = l) (x2 x3 : Int32) : ∀ (m : Nat) (σ : zSt) (x4 x5 : Int32), kl_P_fillEmpty_10 3 x2 x3 m σ x4 x5 → (∀ r, r = (l_P_fillEmpty_10 3 x2 x3 m σ x4 x5) → Z K w r.2 [(4, .int r.1)] [] 53) → Z K w σ [(0, .ref (zq w 3)), (2, .int x2), (3, .int x3), (4, .int x4), (5, .int x5)] [] 10 := by
  intro m
  induction m with
  | zero => intro σ x4 x5 ko; exact ko.elim
  | succ m ih =>
    intro σ x4 x5 ko kk
    have ht : l_P_fillEmpty_10 3 x2 x3 (m + 1) σ x4 x5 = l_P_fillEmpty_10 3 x2 x3 (m + 1) σ x4 x5 := rfl
    refine z_iload O zd_P_fillEmpty_10 4 rfl ?_
    refine z_iload_n O zd_P_fillEmpty_12 rfl 1 rfl ?_
    refine z_icmp_ge O (tgt := 53) zd_P_fillEmpty_13 (by decide) (fun c1 => ?_) (fun c1 => ?_)
    · have ht := ht.trans (if_pos c1)
      refine z_sub (lv' := [(4, .int x4)]) [3] rfl ?_
      exact kk (x4, σ) ht.symm
    · have ht := ht.trans (if_neg c1)
      have ko := ko c1
      refine z_iload O zd_P_fillEmpty_16 4 rfl ?_
      refine z_aload_n O zd_P_fillEmpty_18 rfl 0 rfl ?_
      refine zg_P_9_3 O zd_P_fillEmpty_19 (v := .ref (zq w 4)) rfl ?_
      refine z_alen O 4 (zae4 w σ) (v := 600) rfl zd_P_fillEmpty_22 ?_
      refine z_icmp_ge O (tgt := 53) zd_P_fillEmpty_23 (by decide) (fun c2 => ?_) (fun c2 => ?_)
      · have ht := ht.trans (if_pos c2)
        refine z_sub (lv' := [(4, .int x4)]) [3] rfl ?_
        exact kk (x4, σ) ht.symm
      · have ht := ht.trans (if_neg c2)
        have ko := ko c2
        refine z_aload_n O zd_P_fillEmpty_26 rfl 0 rfl ?_
        refine zg_P_9_3 O zd_P_fillEmpty_27 (v := .ref (zq w 4)) rfl ?_
        refine z_iload O zd_P_fillEmpty_30 4 rfl ?_
        have b3 := ko.1
        have ko := ko.2
        refine z_iald O 4 (zae4 w σ) b3 (v := (σ 4 x5.toNatClampNeg)) rfl zd_P_fillEmpty_32 ?_
        refine z_if_ne O (tgt := 47) zd_P_fillEmpty_33 (by decide) (fun c4 => ?_) (fun c4 => ?_)
        · have ht := ht.trans (if_neg c4)
          have ko := ko.2 c4
          refine z_iinc O (v := (x5 + 1)) (lv' := [(5, .int (x5 + 1)), (0, .ref (zq w 3)), (2, .int x2), (3, .int x3), (4, .int x4)]) zd_P_fillEmpty_47 4 rfl rfl (Nat.le_of_ble_eq_true rfl) rfl ?_
          refine z_goto O (tgt := 10) zd_P_fillEmpty_50 (by decide) ?_
          refine z_sub (lv' := [(0, .ref (zq w 3)), (2, .int x2), (3, .int x3), (4, .int x4), (5, .int (x5 + 1))]) [1, 2, 3, 4, 0] rfl ?_
          exact ih σ x4 (x5 + 1) ko (fun r e => kk r (e.trans ht.symm))
        · have ht := ht.trans (if_pos c4)
          have ko := ko.1 c4
          refine z_aload_n O zd_P_fillEmpty_36 rfl 0 rfl ?_
          refine zg_P_9_3 O zd_P_fillEmpty_37 (v := .ref (zq w 4)) rfl ?_
          refine z_iload O zd_P_fillEmpty_40 4 rfl ?_
          refine z_iload_n O zd_P_fillEmpty_42 rfl 2 rfl ?_
          have b5 := ko.1
          have ko := ko.2
          refine z_iast O 4 (zae4 w σ) b5 (zas4 w σ _ _) zd_P_fillEmpty_43 ?_
          refine z_iinc O (v := (x4 + 1)) (lv' := [(4, .int (x4 + 1)), (0, .ref (zq w 3)), (2, .int x2), (3, .int x3), (5, .int x5)]) zd_P_fillEmpty_44 3 rfl rfl (Nat.le_of_ble_eq_true rfl) rfl ?_
          refine z_iinc O (v := (x5 + 1)) (lv' := [(5, .int (x5 + 1)), (4, .int (x4 + 1)), (0, .ref (zq w 3)), (2, .int x2), (3, .int x3)]) zd_P_fillEmpty_47 4 rfl rfl (Nat.le_of_ble_eq_true rfl) rfl ?_
          refine z_goto O (tgt := 10) zd_P_fillEmpty_50 (by decide) ?_
          refine z_sub (lv' := [(0, .ref (zq w 3)), (2, .int x2), (3, .int x3), (4, .int (x4 + 1)), (5, .int (x5 + 1))]) [2, 3, 4, 1, 0] rfl ?_
          exact ih (zuf σ 4 x5.toNatClampNeg x3) (x4 + 1) (x5 + 1) ko (fun r e => kk r (e.trans ht.symm))
set_option maxHeartbeats 4000000 in
set_option maxRecDepth 100000 in
theorem c_P_fillEmpty_3 (l : Launch) (w : zWd) (σ : zSt) (a1 : Int32) (a2 : Int32) (a3 : Int32) (ko : k_P_fillEmpty 3 σ a1 a2 a3) : zMi l ({ cls := "SluiceStream$Positions", name := "fillEmpty", desc := "(III)I" } : Jvm.MethodName) prog_2_method_3_code 6 1 21 .int w [.ref (zq w 3), .int a1, .int a2, .int a3] σ (fun r u => (r, u) = (f_P_fillEmpty 3 σ a1 a2 a3)) := by
  refine zMi_of (by decide +kernel) (Nat.le_of_ble_eq_true rfl) ?_
  intro K O hl0 E
  have ht : (f_P_fillEmpty 3 σ a1 a2 a3) = (f_P_fillEmpty 3 σ a1 a2 a3) := rfl
  refine z_sub (lv' := [(0, .ref (zq w 3)), (1, .int a1), (2, .int a2), (3, .int a3)]) [0, 1, 2, 3] rfl ?_
  refine z_iconst O (v := 0) zd_P_fillEmpty_0 (by decide) ?_
  refine z_istore O (lv' := [(4, .int 0), (0, .ref (zq w 3)), (1, .int a1), (2, .int a2), (3, .int a3)]) zd_P_fillEmpty_1 (Nat.le_of_ble_eq_true rfl) rfl ?_
  refine z_iload_n O zd_P_fillEmpty_3 rfl 2 rfl ?_
  refine z_iconst O (v := 0) zd_P_fillEmpty_4 (by decide) ?_
  refine z_max O zm261 zm262 zm13 zm263 (Nat.le_of_ble_eq_true rfl) (Nat.le_of_ble_eq_true rfl) zd_P_fillEmpty_5 ?_
  refine z_istore O (lv' := [(5, .int (if a1 < 0 then 0 else a1)), (4, .int 0), (0, .ref (zq w 3)), (1, .int a1), (2, .int a2), (3, .int a3)]) zd_P_fillEmpty_8 (Nat.le_of_ble_eq_true rfl) rfl ?_
  refine z_sub (lv' := [(0, .ref (zq w 3)), (2, .int a2), (3, .int a3), (4, .int 0), (5, .int (if a1 < 0 then 0 else a1))]) [2, 4, 5, 1, 0] rfl ?_
  refine L_P_fillEmpty_10_3 O hl0 a2 a3 (((a2).toInt - ((if a1 < 0 then 0 else a1)).toInt).toNat + 2) σ 0 (if a1 < 0 then 0 else a1) ko (fun r6 er6 => ?_)
  have ht := ht.trans (zlet_e er6)
  refine z_iload O zd_P_fillEmpty_53 0 rfl ?_
  exact E _ _ _ _ zd_P_fillEmpty_55 rfl ht.symm
set_option maxHeartbeats 4000000 in
set_option maxRecDepth 100000 in
theorem L_P_fillEmpty_10_7 {K : zCx} {w : zWd} {l : Launch} (O : zOk K w prog_2_method_3_code "SluiceStream$Positions" 6 1 21) (hl0 : kl K = l) (x2 x3 : Int32) : ∀ (m : Nat) (σ : zSt) (x4 x5 : Int32), kl_P_fillEmpty_10 7 x2 x3 m σ x4 x5 → (∀ r, r = (l_P_fillEmpty_10 7 x2 x3 m σ x4 x5) → Z K w r.2 [(4, .int r.1)] [] 53) → Z K w σ [(0, .ref (zq w 7)), (2, .int x2), (3, .int x3), (4, .int x4), (5, .int x5)] [] 10 := by
  intro m
  induction m with
  | zero => intro σ x4 x5 ko; exact ko.elim
  | succ m ih =>
    intro σ x4 x5 ko kk
    have ht : l_P_fillEmpty_10 7 x2 x3 (m + 1) σ x4 x5 = l_P_fillEmpty_10 7 x2 x3 (m + 1) σ x4 x5 := rfl
    refine z_iload O zd_P_fillEmpty_10 4 rfl ?_
    refine z_iload_n O zd_P_fillEmpty_12 rfl 1 rfl ?_
    refine z_icmp_ge O (tgt := 53) zd_P_fillEmpty_13 (by decide) (fun c1 => ?_) (fun c1 => ?_)
    · have ht := ht.trans (if_pos c1)
      refine z_sub (lv' := [(4, .int x4)]) [3] rfl ?_
      exact kk (x4, σ) ht.symm
    · have ht := ht.trans (if_neg c1)
      have ko := ko c1
      refine z_iload O zd_P_fillEmpty_16 4 rfl ?_
      refine z_aload_n O zd_P_fillEmpty_18 rfl 0 rfl ?_
      refine zg_P_9_7 O zd_P_fillEmpty_19 (v := .ref (zq w 8)) rfl ?_
      refine z_alen O 8 (zae8 w σ) (v := 600) rfl zd_P_fillEmpty_22 ?_
      refine z_icmp_ge O (tgt := 53) zd_P_fillEmpty_23 (by decide) (fun c2 => ?_) (fun c2 => ?_)
      · have ht := ht.trans (if_pos c2)
        refine z_sub (lv' := [(4, .int x4)]) [3] rfl ?_
        exact kk (x4, σ) ht.symm
      · have ht := ht.trans (if_neg c2)
        have ko := ko c2
        refine z_aload_n O zd_P_fillEmpty_26 rfl 0 rfl ?_
        refine zg_P_9_7 O zd_P_fillEmpty_27 (v := .ref (zq w 8)) rfl ?_
        refine z_iload O zd_P_fillEmpty_30 4 rfl ?_
        have b3 := ko.1
        have ko := ko.2
        refine z_iald O 8 (zae8 w σ) b3 (v := (σ 8 x5.toNatClampNeg)) rfl zd_P_fillEmpty_32 ?_
        refine z_if_ne O (tgt := 47) zd_P_fillEmpty_33 (by decide) (fun c4 => ?_) (fun c4 => ?_)
        · have ht := ht.trans (if_neg c4)
          have ko := ko.2 c4
          refine z_iinc O (v := (x5 + 1)) (lv' := [(5, .int (x5 + 1)), (0, .ref (zq w 7)), (2, .int x2), (3, .int x3), (4, .int x4)]) zd_P_fillEmpty_47 4 rfl rfl (Nat.le_of_ble_eq_true rfl) rfl ?_
          refine z_goto O (tgt := 10) zd_P_fillEmpty_50 (by decide) ?_
          refine z_sub (lv' := [(0, .ref (zq w 7)), (2, .int x2), (3, .int x3), (4, .int x4), (5, .int (x5 + 1))]) [1, 2, 3, 4, 0] rfl ?_
          exact ih σ x4 (x5 + 1) ko (fun r e => kk r (e.trans ht.symm))
        · have ht := ht.trans (if_pos c4)
          have ko := ko.1 c4
          refine z_aload_n O zd_P_fillEmpty_36 rfl 0 rfl ?_
          refine zg_P_9_7 O zd_P_fillEmpty_37 (v := .ref (zq w 8)) rfl ?_
          refine z_iload O zd_P_fillEmpty_40 4 rfl ?_
          refine z_iload_n O zd_P_fillEmpty_42 rfl 2 rfl ?_
          have b5 := ko.1
          have ko := ko.2
          refine z_iast O 8 (zae8 w σ) b5 (zas8 w σ _ _) zd_P_fillEmpty_43 ?_
          refine z_iinc O (v := (x4 + 1)) (lv' := [(4, .int (x4 + 1)), (0, .ref (zq w 7)), (2, .int x2), (3, .int x3), (5, .int x5)]) zd_P_fillEmpty_44 3 rfl rfl (Nat.le_of_ble_eq_true rfl) rfl ?_
          refine z_iinc O (v := (x5 + 1)) (lv' := [(5, .int (x5 + 1)), (4, .int (x4 + 1)), (0, .ref (zq w 7)), (2, .int x2), (3, .int x3)]) zd_P_fillEmpty_47 4 rfl rfl (Nat.le_of_ble_eq_true rfl) rfl ?_
          refine z_goto O (tgt := 10) zd_P_fillEmpty_50 (by decide) ?_
          refine z_sub (lv' := [(0, .ref (zq w 7)), (2, .int x2), (3, .int x3), (4, .int (x4 + 1)), (5, .int (x5 + 1))]) [2, 3, 4, 1, 0] rfl ?_
          exact ih (zuf σ 8 x5.toNatClampNeg x3) (x4 + 1) (x5 + 1) ko (fun r e => kk r (e.trans ht.symm))
set_option maxHeartbeats 4000000 in
set_option maxRecDepth 100000 in
theorem c_P_fillEmpty_7 (l : Launch) (w : zWd) (σ : zSt) (a1 : Int32) (a2 : Int32) (a3 : Int32) (ko : k_P_fillEmpty 7 σ a1 a2 a3) : zMi l ({ cls := "SluiceStream$Positions", name := "fillEmpty", desc := "(III)I" } : Jvm.MethodName) prog_2_method_3_code 6 1 21 .int w [.ref (zq w 7), .int a1, .int a2, .int a3] σ (fun r u => (r, u) = (f_P_fillEmpty 7 σ a1 a2 a3)) := by
  refine zMi_of (by decide +kernel) (Nat.le_of_ble_eq_true rfl) ?_
  intro K O hl0 E
  have ht : (f_P_fillEmpty 7 σ a1 a2 a3) = (f_P_fillEmpty 7 σ a1 a2 a3) := rfl
  refine z_sub (lv' := [(0, .ref (zq w 7)), (1, .int a1), (2, .int a2), (3, .int a3)]) [0, 1, 2, 3] rfl ?_
  refine z_iconst O (v := 0) zd_P_fillEmpty_0 (by decide) ?_
  refine z_istore O (lv' := [(4, .int 0), (0, .ref (zq w 7)), (1, .int a1), (2, .int a2), (3, .int a3)]) zd_P_fillEmpty_1 (Nat.le_of_ble_eq_true rfl) rfl ?_
  refine z_iload_n O zd_P_fillEmpty_3 rfl 2 rfl ?_
  refine z_iconst O (v := 0) zd_P_fillEmpty_4 (by decide) ?_
  refine z_max O zm261 zm262 zm13 zm263 (Nat.le_of_ble_eq_true rfl) (Nat.le_of_ble_eq_true rfl) zd_P_fillEmpty_5 ?_
  refine z_istore O (lv' := [(5, .int (if a1 < 0 then 0 else a1)), (4, .int 0), (0, .ref (zq w 7)), (1, .int a1), (2, .int a2), (3, .int a3)]) zd_P_fillEmpty_8 (Nat.le_of_ble_eq_true rfl) rfl ?_
  refine z_sub (lv' := [(0, .ref (zq w 7)), (2, .int a2), (3, .int a3), (4, .int 0), (5, .int (if a1 < 0 then 0 else a1))]) [2, 4, 5, 1, 0] rfl ?_
  refine L_P_fillEmpty_10_7 O hl0 a2 a3 (((a2).toInt - ((if a1 < 0 then 0 else a1)).toInt).toNat + 2) σ 0 (if a1 < 0 then 0 else a1) ko (fun r6 er6 => ?_)
  have ht := ht.trans (zlet_e er6)
  refine z_iload O zd_P_fillEmpty_53 0 rfl ?_
  exact E _ _ _ _ zd_P_fillEmpty_55 rfl ht.symm
set_option maxHeartbeats 4000000 in
set_option maxRecDepth 100000 in
theorem L_P_empty_6_3 {K : zCx} {w : zWd} {l : Launch} (O : zOk K w prog_2_method_4_code "SluiceStream$Positions" 4 1 21) (hl0 : kl K = l) (x2 : Int32) : ∀ (m : Nat) (σ : zSt) (x3 : Int32), kl_P_empty_6 3 x2 m σ x3 → (∀ r, r = (l_P_empty_6 3 x2 m σ x3) → Z K w r [] [] 33) → Z K w σ [(0, .ref (zq w 3)), (2, .int x2), (3, .int x3)] [] 6 := by
  intro m
  induction m with
  | zero => intro σ x3 ko; exact ko.elim
  | succ m ih =>
    intro σ x3 ko kk
    have ht : l_P_empty_6 3 x2 (m + 1) σ x3 = l_P_empty_6 3 x2 (m + 1) σ x3 := rfl
    refine z_iload_n O zd_P_empty_6 rfl 2 rfl ?_
    refine z_iload_n O zd_P_empty_7 rfl 1 rfl ?_
    refine z_icmp_ge O (tgt := 33) zd_P_empty_8 (by decide) (fun c1 => ?_) (fun c1 => ?_)
    · have ht := ht.trans (if_pos c1)
      refine z_sub (lv' := []) [] rfl ?_
      exact kk σ ht.symm
    · have ht := ht.trans (if_neg c1)
      have ko := ko c1
      refine z_iload_n O zd_P_empty_11 rfl 2 rfl ?_
      refine z_aload_n O zd_P_empty_12 rfl 0 rfl ?_
      refine zg_P_9_3 O zd_P_empty_13 (v := .ref (zq w 4)) rfl ?_
      refine z_alen O 4 (zae4 w σ) (v := 600) rfl zd_P_empty_16 ?_
      refine z_icmp_ge O (tgt := 33) zd_P_empty_17 (by decide) (fun c2 => ?_) (fun c2 => ?_)
      · have ht := ht.trans (if_pos c2)
        refine z_sub (lv' := []) [] rfl ?_
        exact kk σ ht.symm
      · have ht := ht.trans (if_neg c2)
        have ko := ko c2
        refine z_aload_n O zd_P_empty_20 rfl 0 rfl ?_
        refine zg_P_9_3 O zd_P_empty_21 (v := .ref (zq w 4)) rfl ?_
        refine z_iload_n O zd_P_empty_24 rfl 2 rfl ?_
        refine z_iconst O (v := 0) zd_P_empty_25 (by decide) ?_
        have b3 := ko.1
        have ko := ko.2
        refine z_iast O 4 (zae4 w σ) b3 (zas4 w σ _ _) zd_P_empty_26 ?_
        refine z_iinc O (v := (x3 + 1)) (lv' := [(3, .int (x3 + 1)), (0, .ref (zq w 3)), (2, .int x2)]) zd_P_empty_27 2 rfl rfl (Nat.le_of_ble_eq_true rfl) rfl ?_
        refine z_goto O (tgt := 6) zd_P_empty_30 (by decide) ?_
        refine z_sub (lv' := [(0, .ref (zq w 3)), (2, .int x2), (3, .int (x3 + 1))]) [1, 2, 0] rfl ?_
        exact ih (zuf σ 4 x3.toNatClampNeg 0) (x3 + 1) ko (fun r e => kk r (e.trans ht.symm))
set_option maxHeartbeats 4000000 in
set_option maxRecDepth 100000 in
theorem c_P_empty_3 (l : Launch) (w : zWd) (σ : zSt) (a1 : Int32) (a2 : Int32) (ko : k_P_empty 3 σ a1 a2) : zMv l ({ cls := "SluiceStream$Positions", name := "empty", desc := "(II)V" } : Jvm.MethodName) prog_2_method_4_code 4 1 21 w [.ref (zq w 3), .int a1, .int a2] σ (fun u => u = (f_P_empty 3 σ a1 a2)) := by
  refine zMv_of (by decide +kernel) (Nat.le_of_ble_eq_true rfl) ?_
  intro K O hl0 E
  have ht : (f_P_empty 3 σ a1 a2) = (f_P_empty 3 σ a1 a2) := rfl
  refine z_sub (lv' := [(0, .ref (zq w 3)), (1, .int a1), (2, .int a2)]) [0, 1, 2] rfl ?_
  refine z_iload_n O zd_P_empty_0 rfl 1 rfl ?_
  refine z_iconst O (v := 0) zd_P_empty_1 (by decide) ?_
  refine z_max O zm261 zm262 zm13 zm263 (Nat.le_of_ble_eq_true rfl) (Nat.le_of_ble_eq_true rfl) zd_P_empty_2 ?_
  refine z_istore_n O (lv' := [(3, .int (if a1 < 0 then 0 else a1)), (0, .ref (zq w 3)), (1, .int a1), (2, .int a2)]) zd_P_empty_5 rfl (Nat.le_of_ble_eq_true rfl) rfl ?_
  refine z_sub (lv' := [(0, .ref (zq w 3)), (2, .int a2), (3, .int (if a1 < 0 then 0 else a1))]) [1, 3, 0] rfl ?_
  refine L_P_empty_6_3 O hl0 a2 (((a2).toInt - ((if a1 < 0 then 0 else a1)).toInt).toNat + 2) σ (if a1 < 0 then 0 else a1) ko (fun r4 er4 => ?_)
  have ht := ht.trans (zlet_e er4)
  exact E _ _ _ zd_P_empty_33 ht.symm
set_option maxHeartbeats 4000000 in
set_option maxRecDepth 100000 in
theorem L_P_empty_6_7 {K : zCx} {w : zWd} {l : Launch} (O : zOk K w prog_2_method_4_code "SluiceStream$Positions" 4 1 21) (hl0 : kl K = l) (x2 : Int32) : ∀ (m : Nat) (σ : zSt) (x3 : Int32), kl_P_empty_6 7 x2 m σ x3 → (∀ r, r = (l_P_empty_6 7 x2 m σ x3) → Z K w r [] [] 33) → Z K w σ [(0, .ref (zq w 7)), (2, .int x2), (3, .int x3)] [] 6 := by
  intro m
  induction m with
  | zero => intro σ x3 ko; exact ko.elim
  | succ m ih =>
    intro σ x3 ko kk
    have ht : l_P_empty_6 7 x2 (m + 1) σ x3 = l_P_empty_6 7 x2 (m + 1) σ x3 := rfl
    refine z_iload_n O zd_P_empty_6 rfl 2 rfl ?_
    refine z_iload_n O zd_P_empty_7 rfl 1 rfl ?_
    refine z_icmp_ge O (tgt := 33) zd_P_empty_8 (by decide) (fun c1 => ?_) (fun c1 => ?_)
    · have ht := ht.trans (if_pos c1)
      refine z_sub (lv' := []) [] rfl ?_
      exact kk σ ht.symm
    · have ht := ht.trans (if_neg c1)
      have ko := ko c1
      refine z_iload_n O zd_P_empty_11 rfl 2 rfl ?_
      refine z_aload_n O zd_P_empty_12 rfl 0 rfl ?_
      refine zg_P_9_7 O zd_P_empty_13 (v := .ref (zq w 8)) rfl ?_
      refine z_alen O 8 (zae8 w σ) (v := 600) rfl zd_P_empty_16 ?_
      refine z_icmp_ge O (tgt := 33) zd_P_empty_17 (by decide) (fun c2 => ?_) (fun c2 => ?_)
      · have ht := ht.trans (if_pos c2)
        refine z_sub (lv' := []) [] rfl ?_
        exact kk σ ht.symm
      · have ht := ht.trans (if_neg c2)
        have ko := ko c2
        refine z_aload_n O zd_P_empty_20 rfl 0 rfl ?_
        refine zg_P_9_7 O zd_P_empty_21 (v := .ref (zq w 8)) rfl ?_
        refine z_iload_n O zd_P_empty_24 rfl 2 rfl ?_
        refine z_iconst O (v := 0) zd_P_empty_25 (by decide) ?_
        have b3 := ko.1
        have ko := ko.2
        refine z_iast O 8 (zae8 w σ) b3 (zas8 w σ _ _) zd_P_empty_26 ?_
        refine z_iinc O (v := (x3 + 1)) (lv' := [(3, .int (x3 + 1)), (0, .ref (zq w 7)), (2, .int x2)]) zd_P_empty_27 2 rfl rfl (Nat.le_of_ble_eq_true rfl) rfl ?_
        refine z_goto O (tgt := 6) zd_P_empty_30 (by decide) ?_
        refine z_sub (lv' := [(0, .ref (zq w 7)), (2, .int x2), (3, .int (x3 + 1))]) [1, 2, 0] rfl ?_
        exact ih (zuf σ 8 x3.toNatClampNeg 0) (x3 + 1) ko (fun r e => kk r (e.trans ht.symm))
set_option maxHeartbeats 4000000 in
set_option maxRecDepth 100000 in
theorem c_P_empty_7 (l : Launch) (w : zWd) (σ : zSt) (a1 : Int32) (a2 : Int32) (ko : k_P_empty 7 σ a1 a2) : zMv l ({ cls := "SluiceStream$Positions", name := "empty", desc := "(II)V" } : Jvm.MethodName) prog_2_method_4_code 4 1 21 w [.ref (zq w 7), .int a1, .int a2] σ (fun u => u = (f_P_empty 7 σ a1 a2)) := by
  refine zMv_of (by decide +kernel) (Nat.le_of_ble_eq_true rfl) ?_
  intro K O hl0 E
  have ht : (f_P_empty 7 σ a1 a2) = (f_P_empty 7 σ a1 a2) := rfl
  refine z_sub (lv' := [(0, .ref (zq w 7)), (1, .int a1), (2, .int a2)]) [0, 1, 2] rfl ?_
  refine z_iload_n O zd_P_empty_0 rfl 1 rfl ?_
  refine z_iconst O (v := 0) zd_P_empty_1 (by decide) ?_
  refine z_max O zm261 zm262 zm13 zm263 (Nat.le_of_ble_eq_true rfl) (Nat.le_of_ble_eq_true rfl) zd_P_empty_2 ?_
  refine z_istore_n O (lv' := [(3, .int (if a1 < 0 then 0 else a1)), (0, .ref (zq w 7)), (1, .int a1), (2, .int a2)]) zd_P_empty_5 rfl (Nat.le_of_ble_eq_true rfl) rfl ?_
  refine z_sub (lv' := [(0, .ref (zq w 7)), (2, .int a2), (3, .int (if a1 < 0 then 0 else a1))]) [1, 3, 0] rfl ?_
  refine L_P_empty_6_7 O hl0 a2 (((a2).toInt - ((if a1 < 0 then 0 else a1)).toInt).toNat + 2) σ (if a1 < 0 then 0 else a1) ko (fun r4 er4 => ?_)
  have ht := ht.trans (zlet_e er4)
  exact E _ _ _ zd_P_empty_33 ht.symm
set_option maxHeartbeats 4000000 in
set_option maxRecDepth 100000 in
theorem L_P_countEmpty_5_3 {K : zCx} {w : zWd} {l : Launch} (O : zOk K w prog_2_method_5_code "SluiceStream$Positions" 5 1 21) (hl0 : kl K = l) (σ : zSt) (x2 : Int32) : ∀ (m : Nat) (x3 x4 : Int32), kl_P_countEmpty_5 3 σ x2 m x3 x4 → (∀ r, r = (l_P_countEmpty_5 3 σ x2 m x3 x4) → Z K w σ [(3, .int r)] [] 29) → Z K w σ [(0, .ref (zq w 3)), (2, .int x2), (3, .int x3), (4, .int x4)] [] 5 := by
  intro m
  induction m with
  | zero => intro x3 x4 ko; exact ko.elim
  | succ m ih =>
    intro x3 x4 ko kk
    have ht : l_P_countEmpty_5 3 σ x2 (m + 1) x3 x4 = l_P_countEmpty_5 3 σ x2 (m + 1) x3 x4 := rfl
    refine z_iload O zd_P_countEmpty_5 3 rfl ?_
    refine z_iload_n O zd_P_countEmpty_7 rfl 1 rfl ?_
    refine z_icmp_ge O (tgt := 29) zd_P_countEmpty_8 (by decide) (fun c1 => ?_) (fun c1 => ?_)
    · have ht := ht.trans (if_pos c1)
      refine z_sub (lv' := [(3, .int x3)]) [2] rfl ?_
      exact kk x3 ht.symm
    · have ht := ht.trans (if_neg c1)
      have ko := ko c1
      refine z_aload_n O zd_P_countEmpty_11 rfl 0 rfl ?_
      refine z_iload O zd_P_countEmpty_12 3 rfl ?_
      refine z_callri O hl0 (st := []) 3 0 (fs := zo3 w σ) rfl rfl (c_P_at_3 l w σ x4 ko.1) zl_P_21 zm246 zm247 rfl rfl (Nat.le_of_ble_eq_true rfl) (Nat.le_of_ble_eq_true rfl) (Nat.le_of_ble_eq_true rfl) zd_P_countEmpty_14 (fun r2 e3 => ?_)
      have ht := ht.trans (zlet_e e3)
      have ko := ko.2 r2 e3
      refine z_if_ne O (tgt := 23) zd_P_countEmpty_17 (by decide) (fun c4 => ?_) (fun c4 => ?_)
      · have ht := ht.trans (if_neg c4)
        have ko := ko.2 c4
        refine z_iinc O (v := (x4 + 1)) (lv' := [(4, .int (x4 + 1)), (0, .ref (zq w 3)), (2, .int x2), (3, .int x3)]) zd_P_countEmpty_23 3 rfl rfl (Nat.le_of_ble_eq_true rfl) rfl ?_
        refine z_goto O (tgt := 5) zd_P_countEmpty_26 (by decide) ?_
        refine z_sub (lv' := [(0, .ref (zq w 3)), (2, .int x2), (3, .int x3), (4, .int (x4 + 1))]) [1, 2, 3, 0] rfl ?_
        exact ih x3 (x4 + 1) ko (fun r e => kk r (e.trans ht.symm))
      · have ht := ht.trans (if_pos c4)
        have ko := ko.1 c4
        refine z_iinc O (v := (x3 + 1)) (lv' := [(3, .int (x3 + 1)), (0, .ref (zq w 3)), (2, .int x2), (4, .int x4)]) zd_P_countEmpty_20 2 rfl rfl (Nat.le_of_ble_eq_true rfl) rfl ?_
        refine z_iinc O (v := (x4 + 1)) (lv' := [(4, .int (x4 + 1)), (3, .int (x3 + 1)), (0, .ref (zq w 3)), (2, .int x2)]) zd_P_countEmpty_23 3 rfl rfl (Nat.le_of_ble_eq_true rfl) rfl ?_
        refine z_goto O (tgt := 5) zd_P_countEmpty_26 (by decide) ?_
        refine z_sub (lv' := [(0, .ref (zq w 3)), (2, .int x2), (3, .int (x3 + 1)), (4, .int (x4 + 1))]) [2, 3, 1, 0] rfl ?_
        exact ih (x3 + 1) (x4 + 1) ko (fun r e => kk r (e.trans ht.symm))
set_option maxHeartbeats 4000000 in
set_option maxRecDepth 100000 in
theorem c_P_countEmpty_3 (l : Launch) (w : zWd) (σ : zSt) (a1 : Int32) (a2 : Int32) (ko : k_P_countEmpty 3 σ a1 a2) : zMi l ({ cls := "SluiceStream$Positions", name := "countEmpty", desc := "(II)I" } : Jvm.MethodName) prog_2_method_5_code 5 1 21 .int w [.ref (zq w 3), .int a1, .int a2] σ (fun r u => r = (f_P_countEmpty 3 σ a1 a2) ∧ u = σ) := by
  refine zMi_of (by decide +kernel) (Nat.le_of_ble_eq_true rfl) ?_
  intro K O hl0 E
  have ht : (f_P_countEmpty 3 σ a1 a2) = (f_P_countEmpty 3 σ a1 a2) := rfl
  refine z_sub (lv' := [(0, .ref (zq w 3)), (1, .int a1), (2, .int a2)]) [0, 1, 2] rfl ?_
  refine z_iconst O (v := 0) zd_P_countEmpty_0 (by decide) ?_
  refine z_istore_n O (lv' := [(3, .int 0), (0, .ref (zq w 3)), (1, .int a1), (2, .int a2)]) zd_P_countEmpty_1 rfl (Nat.le_of_ble_eq_true rfl) rfl ?_
  refine z_iload_n O zd_P_countEmpty_2 rfl 2 rfl ?_
  refine z_istore O (lv' := [(4, .int a1), (3, .int 0), (0, .ref (zq w 3)), (1, .int a1), (2, .int a2)]) zd_P_countEmpty_3 (Nat.le_of_ble_eq_true rfl) rfl ?_
  refine z_sub (lv' := [(0, .ref (zq w 3)), (2, .int a2), (3, .int 0), (4, .int a1)]) [2, 4, 1, 0] rfl ?_
  refine L_P_countEmpty_5_3 O hl0 σ a2 (((a2).toInt - (a1).toInt).toNat + 2) 0 a1 ko (fun r5 er5 => ?_)
  have ht := ht.trans (zlet_e er5)
  refine z_iload_n O zd_P_countEmpty_29 rfl 0 rfl ?_
  exact E _ _ _ _ zd_P_countEmpty_30 rfl ⟨ht.symm, rfl⟩
set_option maxHeartbeats 4000000 in
set_option maxRecDepth 100000 in
theorem L_P_countEmpty_5_7 {K : zCx} {w : zWd} {l : Launch} (O : zOk K w prog_2_method_5_code "SluiceStream$Positions" 5 1 21) (hl0 : kl K = l) (σ : zSt) (x2 : Int32) : ∀ (m : Nat) (x3 x4 : Int32), kl_P_countEmpty_5 7 σ x2 m x3 x4 → (∀ r, r = (l_P_countEmpty_5 7 σ x2 m x3 x4) → Z K w σ [(3, .int r)] [] 29) → Z K w σ [(0, .ref (zq w 7)), (2, .int x2), (3, .int x3), (4, .int x4)] [] 5 := by
  intro m
  induction m with
  | zero => intro x3 x4 ko; exact ko.elim
  | succ m ih =>
    intro x3 x4 ko kk
    have ht : l_P_countEmpty_5 7 σ x2 (m + 1) x3 x4 = l_P_countEmpty_5 7 σ x2 (m + 1) x3 x4 := rfl
    refine z_iload O zd_P_countEmpty_5 3 rfl ?_
    refine z_iload_n O zd_P_countEmpty_7 rfl 1 rfl ?_
    refine z_icmp_ge O (tgt := 29) zd_P_countEmpty_8 (by decide) (fun c1 => ?_) (fun c1 => ?_)
    · have ht := ht.trans (if_pos c1)
      refine z_sub (lv' := [(3, .int x3)]) [2] rfl ?_
      exact kk x3 ht.symm
    · have ht := ht.trans (if_neg c1)
      have ko := ko c1
      refine z_aload_n O zd_P_countEmpty_11 rfl 0 rfl ?_
      refine z_iload O zd_P_countEmpty_12 3 rfl ?_
      refine z_callri O hl0 (st := []) 7 0 (fs := zo7 w σ) rfl rfl (c_P_at_7 l w σ x4 ko.1) zl_P_21 zm246 zm247 rfl rfl (Nat.le_of_ble_eq_true rfl) (Nat.le_of_ble_eq_true rfl) (Nat.le_of_ble_eq_true rfl) zd_P_countEmpty_14 (fun r2 e3 => ?_)
      have ht := ht.trans (zlet_e e3)
      have ko := ko.2 r2 e3
      refine z_if_ne O (tgt := 23) zd_P_countEmpty_17 (by decide) (fun c4 => ?_) (fun c4 => ?_)
      · have ht := ht.trans (if_neg c4)
        have ko := ko.2 c4
        refine z_iinc O (v := (x4 + 1)) (lv' := [(4, .int (x4 + 1)), (0, .ref (zq w 7)), (2, .int x2), (3, .int x3)]) zd_P_countEmpty_23 3 rfl rfl (Nat.le_of_ble_eq_true rfl) rfl ?_
        refine z_goto O (tgt := 5) zd_P_countEmpty_26 (by decide) ?_
        refine z_sub (lv' := [(0, .ref (zq w 7)), (2, .int x2), (3, .int x3), (4, .int (x4 + 1))]) [1, 2, 3, 0] rfl ?_
        exact ih x3 (x4 + 1) ko (fun r e => kk r (e.trans ht.symm))
      · have ht := ht.trans (if_pos c4)
        have ko := ko.1 c4
        refine z_iinc O (v := (x3 + 1)) (lv' := [(3, .int (x3 + 1)), (0, .ref (zq w 7)), (2, .int x2), (4, .int x4)]) zd_P_countEmpty_20 2 rfl rfl (Nat.le_of_ble_eq_true rfl) rfl ?_
        refine z_iinc O (v := (x4 + 1)) (lv' := [(4, .int (x4 + 1)), (3, .int (x3 + 1)), (0, .ref (zq w 7)), (2, .int x2)]) zd_P_countEmpty_23 3 rfl rfl (Nat.le_of_ble_eq_true rfl) rfl ?_
        refine z_goto O (tgt := 5) zd_P_countEmpty_26 (by decide) ?_
        refine z_sub (lv' := [(0, .ref (zq w 7)), (2, .int x2), (3, .int (x3 + 1)), (4, .int (x4 + 1))]) [2, 3, 1, 0] rfl ?_
        exact ih (x3 + 1) (x4 + 1) ko (fun r e => kk r (e.trans ht.symm))
set_option maxHeartbeats 4000000 in
set_option maxRecDepth 100000 in
theorem c_P_countEmpty_7 (l : Launch) (w : zWd) (σ : zSt) (a1 : Int32) (a2 : Int32) (ko : k_P_countEmpty 7 σ a1 a2) : zMi l ({ cls := "SluiceStream$Positions", name := "countEmpty", desc := "(II)I" } : Jvm.MethodName) prog_2_method_5_code 5 1 21 .int w [.ref (zq w 7), .int a1, .int a2] σ (fun r u => r = (f_P_countEmpty 7 σ a1 a2) ∧ u = σ) := by
  refine zMi_of (by decide +kernel) (Nat.le_of_ble_eq_true rfl) ?_
  intro K O hl0 E
  have ht : (f_P_countEmpty 7 σ a1 a2) = (f_P_countEmpty 7 σ a1 a2) := rfl
  refine z_sub (lv' := [(0, .ref (zq w 7)), (1, .int a1), (2, .int a2)]) [0, 1, 2] rfl ?_
  refine z_iconst O (v := 0) zd_P_countEmpty_0 (by decide) ?_
  refine z_istore_n O (lv' := [(3, .int 0), (0, .ref (zq w 7)), (1, .int a1), (2, .int a2)]) zd_P_countEmpty_1 rfl (Nat.le_of_ble_eq_true rfl) rfl ?_
  refine z_iload_n O zd_P_countEmpty_2 rfl 2 rfl ?_
  refine z_istore O (lv' := [(4, .int a1), (3, .int 0), (0, .ref (zq w 7)), (1, .int a1), (2, .int a2)]) zd_P_countEmpty_3 (Nat.le_of_ble_eq_true rfl) rfl ?_
  refine z_sub (lv' := [(0, .ref (zq w 7)), (2, .int a2), (3, .int 0), (4, .int a1)]) [2, 4, 1, 0] rfl ?_
  refine L_P_countEmpty_5_7 O hl0 σ a2 (((a2).toInt - (a1).toInt).toNat + 2) 0 a1 ko (fun r5 er5 => ?_)
  have ht := ht.trans (zlet_e er5)
  refine z_iload_n O zd_P_countEmpty_29 rfl 0 rfl ?_
  exact E _ _ _ _ zd_P_countEmpty_30 rfl ⟨ht.symm, rfl⟩
set_option maxHeartbeats 4000000 in
set_option maxRecDepth 100000 in
theorem L_P_firstEmpty_2_3 {K : zCx} {w : zWd} {l : Launch} (O : zOk K w prog_2_method_6_code "SluiceStream$Positions" 4 1 21) (hl0 : kl K = l) (σ : zSt) (x2 : Int32) : ∀ (m : Nat) (x3 : Int32), kl_P_firstEmpty_2 3 σ x2 m x3 → (∀ r, r = (l_P_firstEmpty_2 3 σ x2 m x3) → Z K w σ [(3, .int r)] [] 21) → Z K w σ [(0, .ref (zq w 3)), (2, .int x2), (3, .int x3)] [] 2 := by
  intro m
  induction m with
  | zero => intro x3 ko; exact ko.elim
  | succ m ih =>
    intro x3 ko kk
    have ht : l_P_firstEmpty_2 3 σ x2 (m + 1) x3 = l_P_firstEmpty_2 3 σ x2 (m + 1) x3 := rfl
    refine z_iload_n O zd_P_firstEmpty_2 rfl 2 rfl ?_
    refine z_iload_n O zd_P_firstEmpty_3 rfl 1 rfl ?_
    refine z_icmp_ge O (tgt := 21) zd_P_firstEmpty_4 (by decide) (fun c1 => ?_) (fun c1 => ?_)
    · have ht := ht.trans (if_pos c1)
      refine z_sub (lv' := [(3, .int x3)]) [2] rfl ?_
      exact kk x3 ht.symm
    · have ht := ht.trans (if_neg c1)
      have ko := ko c1
      refine z_aload_n O zd_P_firstEmpty_7 rfl 0 rfl ?_
      refine z_iload_n O zd_P_firstEmpty_8 rfl 2 rfl ?_
      refine z_callri O hl0 (st := []) 3 0 (fs := zo3 w σ) rfl rfl (c_P_at_3 l w σ x3 ko.1) zl_P_21 zm246 zm247 rfl rfl (Nat.le_of_ble_eq_true rfl) (Nat.le_of_ble_eq_true rfl) (Nat.le_of_ble_eq_true rfl) zd_P_firstEmpty_9 (fun r2 e3 => ?_)
      have ht := ht.trans (zlet_e e3)
      have ko := ko.2 r2 e3
      refine z_if_eq O (tgt := 21) zd_P_firstEmpty_12 (by decide) (fun c4 => ?_) (fun c4 => ?_)
      · have ht := ht.trans (if_pos c4)
        refine z_sub (lv' := [(3, .int x3)]) [2] rfl ?_
        exact kk x3 ht.symm
      · have ht := ht.trans (if_neg c4)
        have ko := ko c4
        refine z_iinc O (v := (x3 + 1)) (lv' := [(3, .int (x3 + 1)), (0, .ref (zq w 3)), (2, .int x2)]) zd_P_firstEmpty_15 2 rfl rfl (Nat.le_of_ble_eq_true rfl) rfl ?_
        refine z_goto O (tgt := 2) zd_P_firstEmpty_18 (by decide) ?_
        refine z_sub (lv' := [(0, .ref (zq w 3)), (2, .int x2), (3, .int (x3 + 1))]) [1, 2, 0] rfl ?_
        exact ih (x3 + 1) ko (fun r e => kk r (e.trans ht.symm))
set_option maxHeartbeats 4000000 in
set_option maxRecDepth 100000 in
theorem c_P_firstEmpty_3 (l : Launch) (w : zWd) (σ : zSt) (a1 : Int32) (a2 : Int32) (ko : k_P_firstEmpty 3 σ a1 a2) : zMi l ({ cls := "SluiceStream$Positions", name := "firstEmpty", desc := "(II)I" } : Jvm.MethodName) prog_2_method_6_code 4 1 21 .int w [.ref (zq w 3), .int a1, .int a2] σ (fun r u => r = (f_P_firstEmpty 3 σ a1 a2) ∧ u = σ) := by
  refine zMi_of (by decide +kernel) (Nat.le_of_ble_eq_true rfl) ?_
  intro K O hl0 E
  have ht : (f_P_firstEmpty 3 σ a1 a2) = (f_P_firstEmpty 3 σ a1 a2) := rfl
  refine z_sub (lv' := [(0, .ref (zq w 3)), (1, .int a1), (2, .int a2)]) [0, 1, 2] rfl ?_
  refine z_iload_n O zd_P_firstEmpty_0 rfl 1 rfl ?_
  refine z_istore_n O (lv' := [(3, .int a1), (0, .ref (zq w 3)), (1, .int a1), (2, .int a2)]) zd_P_firstEmpty_1 rfl (Nat.le_of_ble_eq_true rfl) rfl ?_
  refine z_sub (lv' := [(0, .ref (zq w 3)), (2, .int a2), (3, .int a1)]) [1, 3, 0] rfl ?_
  refine L_P_firstEmpty_2_3 O hl0 σ a2 (((a2).toInt - (a1).toInt).toNat + 2) a1 ko (fun r5 er5 => ?_)
  have ht := ht.trans (zlet_e er5)
  refine z_iload_n O zd_P_firstEmpty_21 rfl 0 rfl ?_
  exact E _ _ _ _ zd_P_firstEmpty_22 rfl ⟨ht.symm, rfl⟩
set_option maxHeartbeats 4000000 in
set_option maxRecDepth 100000 in
theorem L_P_firstEmpty_2_7 {K : zCx} {w : zWd} {l : Launch} (O : zOk K w prog_2_method_6_code "SluiceStream$Positions" 4 1 21) (hl0 : kl K = l) (σ : zSt) (x2 : Int32) : ∀ (m : Nat) (x3 : Int32), kl_P_firstEmpty_2 7 σ x2 m x3 → (∀ r, r = (l_P_firstEmpty_2 7 σ x2 m x3) → Z K w σ [(3, .int r)] [] 21) → Z K w σ [(0, .ref (zq w 7)), (2, .int x2), (3, .int x3)] [] 2 := by
  intro m
  induction m with
  | zero => intro x3 ko; exact ko.elim
  | succ m ih =>
    intro x3 ko kk
    have ht : l_P_firstEmpty_2 7 σ x2 (m + 1) x3 = l_P_firstEmpty_2 7 σ x2 (m + 1) x3 := rfl
    refine z_iload_n O zd_P_firstEmpty_2 rfl 2 rfl ?_
    refine z_iload_n O zd_P_firstEmpty_3 rfl 1 rfl ?_
    refine z_icmp_ge O (tgt := 21) zd_P_firstEmpty_4 (by decide) (fun c1 => ?_) (fun c1 => ?_)
    · have ht := ht.trans (if_pos c1)
      refine z_sub (lv' := [(3, .int x3)]) [2] rfl ?_
      exact kk x3 ht.symm
    · have ht := ht.trans (if_neg c1)
      have ko := ko c1
      refine z_aload_n O zd_P_firstEmpty_7 rfl 0 rfl ?_
      refine z_iload_n O zd_P_firstEmpty_8 rfl 2 rfl ?_
      refine z_callri O hl0 (st := []) 7 0 (fs := zo7 w σ) rfl rfl (c_P_at_7 l w σ x3 ko.1) zl_P_21 zm246 zm247 rfl rfl (Nat.le_of_ble_eq_true rfl) (Nat.le_of_ble_eq_true rfl) (Nat.le_of_ble_eq_true rfl) zd_P_firstEmpty_9 (fun r2 e3 => ?_)
      have ht := ht.trans (zlet_e e3)
      have ko := ko.2 r2 e3
      refine z_if_eq O (tgt := 21) zd_P_firstEmpty_12 (by decide) (fun c4 => ?_) (fun c4 => ?_)
      · have ht := ht.trans (if_pos c4)
        refine z_sub (lv' := [(3, .int x3)]) [2] rfl ?_
        exact kk x3 ht.symm
      · have ht := ht.trans (if_neg c4)
        have ko := ko c4
        refine z_iinc O (v := (x3 + 1)) (lv' := [(3, .int (x3 + 1)), (0, .ref (zq w 7)), (2, .int x2)]) zd_P_firstEmpty_15 2 rfl rfl (Nat.le_of_ble_eq_true rfl) rfl ?_
        refine z_goto O (tgt := 2) zd_P_firstEmpty_18 (by decide) ?_
        refine z_sub (lv' := [(0, .ref (zq w 7)), (2, .int x2), (3, .int (x3 + 1))]) [1, 2, 0] rfl ?_
        exact ih (x3 + 1) ko (fun r e => kk r (e.trans ht.symm))
set_option maxHeartbeats 4000000 in
set_option maxRecDepth 100000 in
theorem c_P_firstEmpty_7 (l : Launch) (w : zWd) (σ : zSt) (a1 : Int32) (a2 : Int32) (ko : k_P_firstEmpty 7 σ a1 a2) : zMi l ({ cls := "SluiceStream$Positions", name := "firstEmpty", desc := "(II)I" } : Jvm.MethodName) prog_2_method_6_code 4 1 21 .int w [.ref (zq w 7), .int a1, .int a2] σ (fun r u => r = (f_P_firstEmpty 7 σ a1 a2) ∧ u = σ) := by
  refine zMi_of (by decide +kernel) (Nat.le_of_ble_eq_true rfl) ?_
  intro K O hl0 E
  have ht : (f_P_firstEmpty 7 σ a1 a2) = (f_P_firstEmpty 7 σ a1 a2) := rfl
  refine z_sub (lv' := [(0, .ref (zq w 7)), (1, .int a1), (2, .int a2)]) [0, 1, 2] rfl ?_
  refine z_iload_n O zd_P_firstEmpty_0 rfl 1 rfl ?_
  refine z_istore_n O (lv' := [(3, .int a1), (0, .ref (zq w 7)), (1, .int a1), (2, .int a2)]) zd_P_firstEmpty_1 rfl (Nat.le_of_ble_eq_true rfl) rfl ?_
  refine z_sub (lv' := [(0, .ref (zq w 7)), (2, .int a2), (3, .int a1)]) [1, 3, 0] rfl ?_
  refine L_P_firstEmpty_2_7 O hl0 σ a2 (((a2).toInt - (a1).toInt).toNat + 2) a1 ko (fun r5 er5 => ?_)
  have ht := ht.trans (zlet_e er5)
  refine z_iload_n O zd_P_firstEmpty_21 rfl 0 rfl ?_
  exact E _ _ _ _ zd_P_firstEmpty_22 rfl ⟨ht.symm, rfl⟩
set_option maxHeartbeats 4000000 in
set_option maxRecDepth 100000 in
theorem L_P_firstFilled_2_3 {K : zCx} {w : zWd} {l : Launch} (O : zOk K w prog_2_method_7_code "SluiceStream$Positions" 4 1 21) (hl0 : kl K = l) (σ : zSt) (x2 : Int32) : ∀ (m : Nat) (x3 : Int32), kl_P_firstFilled_2 3 σ x2 m x3 → (∀ r, r = (l_P_firstFilled_2 3 σ x2 m x3) → Z K w σ [(3, .int r)] [] 21) → Z K w σ [(0, .ref (zq w 3)), (2, .int x2), (3, .int x3)] [] 2 := by
  intro m
  induction m with
  | zero => intro x3 ko; exact ko.elim
  | succ m ih =>
    intro x3 ko kk
    have ht : l_P_firstFilled_2 3 σ x2 (m + 1) x3 = l_P_firstFilled_2 3 σ x2 (m + 1) x3 := rfl
    refine z_iload_n O zd_P_firstFilled_2 rfl 2 rfl ?_
    refine z_iload_n O zd_P_firstFilled_3 rfl 1 rfl ?_
    refine z_icmp_ge O (tgt := 21) zd_P_firstFilled_4 (by decide) (fun c1 => ?_) (fun c1 => ?_)
    · have ht := ht.trans (if_pos c1)
      refine z_sub (lv' := [(3, .int x3)]) [2] rfl ?_
      exact kk x3 ht.symm
    · have ht := ht.trans (if_neg c1)
      have ko := ko c1
      refine z_aload_n O zd_P_firstFilled_7 rfl 0 rfl ?_
      refine z_iload_n O zd_P_firstFilled_8 rfl 2 rfl ?_
      refine z_callri O hl0 (st := []) 3 0 (fs := zo3 w σ) rfl rfl (c_P_at_3 l w σ x3 ko.1) zl_P_21 zm246 zm247 rfl rfl (Nat.le_of_ble_eq_true rfl) (Nat.le_of_ble_eq_true rfl) (Nat.le_of_ble_eq_true rfl) zd_P_firstFilled_9 (fun r2 e3 => ?_)
      have ht := ht.trans (zlet_e e3)
      have ko := ko.2 r2 e3
      refine z_if_ne O (tgt := 21) zd_P_firstFilled_12 (by decide) (fun c4 => ?_) (fun c4 => ?_)
      · have ht := ht.trans (if_neg c4)
        refine z_sub (lv' := [(3, .int x3)]) [2] rfl ?_
        exact kk x3 ht.symm
      · have ht := ht.trans (if_pos c4)
        have ko := ko c4
        refine z_iinc O (v := (x3 + 1)) (lv' := [(3, .int (x3 + 1)), (0, .ref (zq w 3)), (2, .int x2)]) zd_P_firstFilled_15 2 rfl rfl (Nat.le_of_ble_eq_true rfl) rfl ?_
        refine z_goto O (tgt := 2) zd_P_firstFilled_18 (by decide) ?_
        refine z_sub (lv' := [(0, .ref (zq w 3)), (2, .int x2), (3, .int (x3 + 1))]) [1, 2, 0] rfl ?_
        exact ih (x3 + 1) ko (fun r e => kk r (e.trans ht.symm))
set_option maxHeartbeats 4000000 in
set_option maxRecDepth 100000 in
theorem c_P_firstFilled_3 (l : Launch) (w : zWd) (σ : zSt) (a1 : Int32) (a2 : Int32) (ko : k_P_firstFilled 3 σ a1 a2) : zMi l ({ cls := "SluiceStream$Positions", name := "firstFilled", desc := "(II)I" } : Jvm.MethodName) prog_2_method_7_code 4 1 21 .int w [.ref (zq w 3), .int a1, .int a2] σ (fun r u => r = (f_P_firstFilled 3 σ a1 a2) ∧ u = σ) := by
  refine zMi_of (by decide +kernel) (Nat.le_of_ble_eq_true rfl) ?_
  intro K O hl0 E
  have ht : (f_P_firstFilled 3 σ a1 a2) = (f_P_firstFilled 3 σ a1 a2) := rfl
  refine z_sub (lv' := [(0, .ref (zq w 3)), (1, .int a1), (2, .int a2)]) [0, 1, 2] rfl ?_
  refine z_iload_n O zd_P_firstFilled_0 rfl 1 rfl ?_
  refine z_istore_n O (lv' := [(3, .int a1), (0, .ref (zq w 3)), (1, .int a1), (2, .int a2)]) zd_P_firstFilled_1 rfl (Nat.le_of_ble_eq_true rfl) rfl ?_
  refine z_sub (lv' := [(0, .ref (zq w 3)), (2, .int a2), (3, .int a1)]) [1, 3, 0] rfl ?_
  refine L_P_firstFilled_2_3 O hl0 σ a2 (((a2).toInt - (a1).toInt).toNat + 2) a1 ko (fun r5 er5 => ?_)
  have ht := ht.trans (zlet_e er5)
  refine z_iload_n O zd_P_firstFilled_21 rfl 0 rfl ?_
  exact E _ _ _ _ zd_P_firstFilled_22 rfl ⟨ht.symm, rfl⟩
set_option maxHeartbeats 4000000 in
set_option maxRecDepth 100000 in
theorem L_P_firstFilled_2_7 {K : zCx} {w : zWd} {l : Launch} (O : zOk K w prog_2_method_7_code "SluiceStream$Positions" 4 1 21) (hl0 : kl K = l) (σ : zSt) (x2 : Int32) : ∀ (m : Nat) (x3 : Int32), kl_P_firstFilled_2 7 σ x2 m x3 → (∀ r, r = (l_P_firstFilled_2 7 σ x2 m x3) → Z K w σ [(3, .int r)] [] 21) → Z K w σ [(0, .ref (zq w 7)), (2, .int x2), (3, .int x3)] [] 2 := by
  intro m
  induction m with
  | zero => intro x3 ko; exact ko.elim
  | succ m ih =>
    intro x3 ko kk
    have ht : l_P_firstFilled_2 7 σ x2 (m + 1) x3 = l_P_firstFilled_2 7 σ x2 (m + 1) x3 := rfl
    refine z_iload_n O zd_P_firstFilled_2 rfl 2 rfl ?_
    refine z_iload_n O zd_P_firstFilled_3 rfl 1 rfl ?_
    refine z_icmp_ge O (tgt := 21) zd_P_firstFilled_4 (by decide) (fun c1 => ?_) (fun c1 => ?_)
    · have ht := ht.trans (if_pos c1)
      refine z_sub (lv' := [(3, .int x3)]) [2] rfl ?_
      exact kk x3 ht.symm
    · have ht := ht.trans (if_neg c1)
      have ko := ko c1
      refine z_aload_n O zd_P_firstFilled_7 rfl 0 rfl ?_
      refine z_iload_n O zd_P_firstFilled_8 rfl 2 rfl ?_
      refine z_callri O hl0 (st := []) 7 0 (fs := zo7 w σ) rfl rfl (c_P_at_7 l w σ x3 ko.1) zl_P_21 zm246 zm247 rfl rfl (Nat.le_of_ble_eq_true rfl) (Nat.le_of_ble_eq_true rfl) (Nat.le_of_ble_eq_true rfl) zd_P_firstFilled_9 (fun r2 e3 => ?_)
      have ht := ht.trans (zlet_e e3)
      have ko := ko.2 r2 e3
      refine z_if_ne O (tgt := 21) zd_P_firstFilled_12 (by decide) (fun c4 => ?_) (fun c4 => ?_)
      · have ht := ht.trans (if_neg c4)
        refine z_sub (lv' := [(3, .int x3)]) [2] rfl ?_
        exact kk x3 ht.symm
      · have ht := ht.trans (if_pos c4)
        have ko := ko c4
        refine z_iinc O (v := (x3 + 1)) (lv' := [(3, .int (x3 + 1)), (0, .ref (zq w 7)), (2, .int x2)]) zd_P_firstFilled_15 2 rfl rfl (Nat.le_of_ble_eq_true rfl) rfl ?_
        refine z_goto O (tgt := 2) zd_P_firstFilled_18 (by decide) ?_
        refine z_sub (lv' := [(0, .ref (zq w 7)), (2, .int x2), (3, .int (x3 + 1))]) [1, 2, 0] rfl ?_
        exact ih (x3 + 1) ko (fun r e => kk r (e.trans ht.symm))
set_option maxHeartbeats 4000000 in
set_option maxRecDepth 100000 in
theorem c_P_firstFilled_7 (l : Launch) (w : zWd) (σ : zSt) (a1 : Int32) (a2 : Int32) (ko : k_P_firstFilled 7 σ a1 a2) : zMi l ({ cls := "SluiceStream$Positions", name := "firstFilled", desc := "(II)I" } : Jvm.MethodName) prog_2_method_7_code 4 1 21 .int w [.ref (zq w 7), .int a1, .int a2] σ (fun r u => r = (f_P_firstFilled 7 σ a1 a2) ∧ u = σ) := by
  refine zMi_of (by decide +kernel) (Nat.le_of_ble_eq_true rfl) ?_
  intro K O hl0 E
  have ht : (f_P_firstFilled 7 σ a1 a2) = (f_P_firstFilled 7 σ a1 a2) := rfl
  refine z_sub (lv' := [(0, .ref (zq w 7)), (1, .int a1), (2, .int a2)]) [0, 1, 2] rfl ?_
  refine z_iload_n O zd_P_firstFilled_0 rfl 1 rfl ?_
  refine z_istore_n O (lv' := [(3, .int a1), (0, .ref (zq w 7)), (1, .int a1), (2, .int a2)]) zd_P_firstFilled_1 rfl (Nat.le_of_ble_eq_true rfl) rfl ?_
  refine z_sub (lv' := [(0, .ref (zq w 7)), (2, .int a2), (3, .int a1)]) [1, 3, 0] rfl ?_
  refine L_P_firstFilled_2_7 O hl0 σ a2 (((a2).toInt - (a1).toInt).toNat + 2) a1 ko (fun r5 er5 => ?_)
  have ht := ht.trans (zlet_e er5)
  refine z_iload_n O zd_P_firstFilled_21 rfl 0 rfl ?_
  exact E _ _ _ _ zd_P_firstFilled_22 rfl ⟨ht.symm, rfl⟩
set_option maxHeartbeats 4000000 in
set_option maxRecDepth 100000 in
theorem L_P_greatest_5_3 {K : zCx} {w : zWd} {l : Launch} (O : zOk K w prog_2_method_8_code "SluiceStream$Positions" 5 1 21) (hl0 : kl K = l) (σ : zSt) (x2 : Int32) : ∀ (m : Nat) (x3 x4 : Int32), kl_P_greatest_5 3 σ x2 m x3 x4 → (∀ r, r = (l_P_greatest_5 3 σ x2 m x3 x4) → Z K w σ [(3, .int r)] [] 28) → Z K w σ [(0, .ref (zq w 3)), (2, .int x2), (3, .int x3), (4, .int x4)] [] 5 := by
  intro m
  induction m with
  | zero => intro x3 x4 ko; exact ko.elim
  | succ m ih =>
    intro x3 x4 ko kk
    have ht : l_P_greatest_5 3 σ x2 (m + 1) x3 x4 = l_P_greatest_5 3 σ x2 (m + 1) x3 x4 := rfl
    refine z_iload O zd_P_greatest_5 3 rfl ?_
    refine z_iload_n O zd_P_greatest_7 rfl 1 rfl ?_
    refine z_icmp_ge O (tgt := 28) zd_P_greatest_8 (by decide) (fun c1 => ?_) (fun c1 => ?_)
    · have ht := ht.trans (if_pos c1)
      refine z_sub (lv' := [(3, .int x3)]) [2] rfl ?_
      exact kk x3 ht.symm
    · have ht := ht.trans (if_neg c1)
      have ko := ko c1
      refine z_iload_n O zd_P_greatest_11 rfl 2 rfl ?_
      refine z_aload_n O zd_P_greatest_12 rfl 0 rfl ?_
      refine z_iload O zd_P_greatest_13 3 rfl ?_
      refine z_callri O hl0 (st := [.int x3]) 3 0 (fs := zo3 w σ) rfl rfl (c_P_at_3 l w σ x4 ko.1) zl_P_21 zm246 zm247 rfl rfl (Nat.le_of_ble_eq_true rfl) (Nat.le_of_ble_eq_true rfl) (Nat.le_of_ble_eq_true rfl) zd_P_greatest_15 (fun r2 e3 => ?_)
      have ht := ht.trans (zlet_e e3)
      have ko := ko.2 r2 e3
      refine z_max O zm261 zm262 zm13 zm263 (Nat.le_of_ble_eq_true rfl) (Nat.le_of_ble_eq_true rfl) zd_P_greatest_18 ?_
      refine z_istore_n O (lv' := [(3, .int (if x3 < r2 then r2 else x3)), (0, .ref (zq w 3)), (2, .int x2), (4, .int x4)]) zd_P_greatest_21 rfl (Nat.le_of_ble_eq_true rfl) rfl ?_
      refine z_iinc O (v := (x4 + 1)) (lv' := [(4, .int (x4 + 1)), (3, .int (if x3 < r2 then r2 else x3)), (0, .ref (zq w 3)), (2, .int x2)]) zd_P_greatest_22 3 rfl rfl (Nat.le_of_ble_eq_true rfl) rfl ?_
      refine z_goto O (tgt := 5) zd_P_greatest_25 (by decide) ?_
      refine z_sub (lv' := [(0, .ref (zq w 3)), (2, .int x2), (3, .int (if x3 < r2 then r2 else x3)), (4, .int (x4 + 1))]) [2, 3, 1, 0] rfl ?_
      exact ih (if x3 < r2 then r2 else x3) (x4 + 1) ko (fun r e => kk r (e.trans ht.symm))
set_option maxHeartbeats 4000000 in
set_option maxRecDepth 100000 in
theorem c_P_greatest_3 (l : Launch) (w : zWd) (σ : zSt) (a1 : Int32) (a2 : Int32) (ko : k_P_greatest 3 σ a1 a2) : zMi l ({ cls := "SluiceStream$Positions", name := "greatest", desc := "(II)I" } : Jvm.MethodName) prog_2_method_8_code 5 1 21 .int w [.ref (zq w 3), .int a1, .int a2] σ (fun r u => r = (f_P_greatest 3 σ a1 a2) ∧ u = σ) := by
  refine zMi_of (by decide +kernel) (Nat.le_of_ble_eq_true rfl) ?_
  intro K O hl0 E
  have ht : (f_P_greatest 3 σ a1 a2) = (f_P_greatest 3 σ a1 a2) := rfl
  refine z_sub (lv' := [(0, .ref (zq w 3)), (1, .int a1), (2, .int a2)]) [0, 1, 2] rfl ?_
  refine z_iconst O (v := 0) zd_P_greatest_0 (by decide) ?_
  refine z_istore_n O (lv' := [(3, .int 0), (0, .ref (zq w 3)), (1, .int a1), (2, .int a2)]) zd_P_greatest_1 rfl (Nat.le_of_ble_eq_true rfl) rfl ?_
  refine z_iload_n O zd_P_greatest_2 rfl 2 rfl ?_
  refine z_istore O (lv' := [(4, .int a1), (3, .int 0), (0, .ref (zq w 3)), (1, .int a1), (2, .int a2)]) zd_P_greatest_3 (Nat.le_of_ble_eq_true rfl) rfl ?_
  refine z_sub (lv' := [(0, .ref (zq w 3)), (2, .int a2), (3, .int 0), (4, .int a1)]) [2, 4, 1, 0] rfl ?_
  refine L_P_greatest_5_3 O hl0 σ a2 (((a2).toInt - (a1).toInt).toNat + 2) 0 a1 ko (fun r4 er4 => ?_)
  have ht := ht.trans (zlet_e er4)
  refine z_iload_n O zd_P_greatest_28 rfl 0 rfl ?_
  exact E _ _ _ _ zd_P_greatest_29 rfl ⟨ht.symm, rfl⟩
set_option maxHeartbeats 4000000 in
set_option maxRecDepth 100000 in
theorem L_P_greatest_5_7 {K : zCx} {w : zWd} {l : Launch} (O : zOk K w prog_2_method_8_code "SluiceStream$Positions" 5 1 21) (hl0 : kl K = l) (σ : zSt) (x2 : Int32) : ∀ (m : Nat) (x3 x4 : Int32), kl_P_greatest_5 7 σ x2 m x3 x4 → (∀ r, r = (l_P_greatest_5 7 σ x2 m x3 x4) → Z K w σ [(3, .int r)] [] 28) → Z K w σ [(0, .ref (zq w 7)), (2, .int x2), (3, .int x3), (4, .int x4)] [] 5 := by
  intro m
  induction m with
  | zero => intro x3 x4 ko; exact ko.elim
  | succ m ih =>
    intro x3 x4 ko kk
    have ht : l_P_greatest_5 7 σ x2 (m + 1) x3 x4 = l_P_greatest_5 7 σ x2 (m + 1) x3 x4 := rfl
    refine z_iload O zd_P_greatest_5 3 rfl ?_
    refine z_iload_n O zd_P_greatest_7 rfl 1 rfl ?_
    refine z_icmp_ge O (tgt := 28) zd_P_greatest_8 (by decide) (fun c1 => ?_) (fun c1 => ?_)
    · have ht := ht.trans (if_pos c1)
      refine z_sub (lv' := [(3, .int x3)]) [2] rfl ?_
      exact kk x3 ht.symm
    · have ht := ht.trans (if_neg c1)
      have ko := ko c1
      refine z_iload_n O zd_P_greatest_11 rfl 2 rfl ?_
      refine z_aload_n O zd_P_greatest_12 rfl 0 rfl ?_
      refine z_iload O zd_P_greatest_13 3 rfl ?_
      refine z_callri O hl0 (st := [.int x3]) 7 0 (fs := zo7 w σ) rfl rfl (c_P_at_7 l w σ x4 ko.1) zl_P_21 zm246 zm247 rfl rfl (Nat.le_of_ble_eq_true rfl) (Nat.le_of_ble_eq_true rfl) (Nat.le_of_ble_eq_true rfl) zd_P_greatest_15 (fun r2 e3 => ?_)
      have ht := ht.trans (zlet_e e3)
      have ko := ko.2 r2 e3
      refine z_max O zm261 zm262 zm13 zm263 (Nat.le_of_ble_eq_true rfl) (Nat.le_of_ble_eq_true rfl) zd_P_greatest_18 ?_
      refine z_istore_n O (lv' := [(3, .int (if x3 < r2 then r2 else x3)), (0, .ref (zq w 7)), (2, .int x2), (4, .int x4)]) zd_P_greatest_21 rfl (Nat.le_of_ble_eq_true rfl) rfl ?_
      refine z_iinc O (v := (x4 + 1)) (lv' := [(4, .int (x4 + 1)), (3, .int (if x3 < r2 then r2 else x3)), (0, .ref (zq w 7)), (2, .int x2)]) zd_P_greatest_22 3 rfl rfl (Nat.le_of_ble_eq_true rfl) rfl ?_
      refine z_goto O (tgt := 5) zd_P_greatest_25 (by decide) ?_
      refine z_sub (lv' := [(0, .ref (zq w 7)), (2, .int x2), (3, .int (if x3 < r2 then r2 else x3)), (4, .int (x4 + 1))]) [2, 3, 1, 0] rfl ?_
      exact ih (if x3 < r2 then r2 else x3) (x4 + 1) ko (fun r e => kk r (e.trans ht.symm))
set_option maxHeartbeats 4000000 in
set_option maxRecDepth 100000 in
theorem c_P_greatest_7 (l : Launch) (w : zWd) (σ : zSt) (a1 : Int32) (a2 : Int32) (ko : k_P_greatest 7 σ a1 a2) : zMi l ({ cls := "SluiceStream$Positions", name := "greatest", desc := "(II)I" } : Jvm.MethodName) prog_2_method_8_code 5 1 21 .int w [.ref (zq w 7), .int a1, .int a2] σ (fun r u => r = (f_P_greatest 7 σ a1 a2) ∧ u = σ) := by
  refine zMi_of (by decide +kernel) (Nat.le_of_ble_eq_true rfl) ?_
  intro K O hl0 E
  have ht : (f_P_greatest 7 σ a1 a2) = (f_P_greatest 7 σ a1 a2) := rfl
  refine z_sub (lv' := [(0, .ref (zq w 7)), (1, .int a1), (2, .int a2)]) [0, 1, 2] rfl ?_
  refine z_iconst O (v := 0) zd_P_greatest_0 (by decide) ?_
  refine z_istore_n O (lv' := [(3, .int 0), (0, .ref (zq w 7)), (1, .int a1), (2, .int a2)]) zd_P_greatest_1 rfl (Nat.le_of_ble_eq_true rfl) rfl ?_
  refine z_iload_n O zd_P_greatest_2 rfl 2 rfl ?_
  refine z_istore O (lv' := [(4, .int a1), (3, .int 0), (0, .ref (zq w 7)), (1, .int a1), (2, .int a2)]) zd_P_greatest_3 (Nat.le_of_ble_eq_true rfl) rfl ?_
  refine z_sub (lv' := [(0, .ref (zq w 7)), (2, .int a2), (3, .int 0), (4, .int a1)]) [2, 4, 1, 0] rfl ?_
  refine L_P_greatest_5_7 O hl0 σ a2 (((a2).toInt - (a1).toInt).toNat + 2) 0 a1 ko (fun r4 er4 => ?_)
  have ht := ht.trans (zlet_e er4)
  refine z_iload_n O zd_P_greatest_28 rfl 0 rfl ?_
  exact E _ _ _ _ zd_P_greatest_29 rfl ⟨ht.symm, rfl⟩
set_option maxHeartbeats 4000000 in
set_option maxRecDepth 100000 in
theorem c_R_room (l : Launch) (w : zWd) (σ : zSt) : zMi l ({ cls := "SluiceStream$Receiver", name := "room", desc := "()I" } : Jvm.MethodName) prog_3_method_2_code 1 0 0 .int w [.ref (zq w 6)] σ (fun r u => r = (f_R_room σ) ∧ u = σ) := by
  refine zMi_of (by decide +kernel) (Nat.le_of_ble_eq_true rfl) ?_
  intro K O hl0 E
  have ht : (f_R_room σ) = (f_R_room σ) := rfl
  refine z_sub (lv' := [(0, .ref (zq w 6))]) [0] rfl ?_
  refine z_aload_n O zd_R_room_0 rfl 0 rfl ?_
  refine zg_R_25_6 O zd_R_room_1 (v := .int (σ 6 3)) rfl ?_
  refine z_bipush O (v := 32) zd_R_room_4 (by decide) ?_
  refine z_iadd O zd_R_room_6 ?_
  refine z_aload_n O zd_R_room_7 rfl 0 rfl ?_
  refine zg_R_22_6 O zd_R_room_8 (v := .int (σ 6 2)) rfl ?_
  refine z_isub O zd_R_room_11 ?_
  exact E _ _ _ _ zd_R_room_12 rfl ⟨ht.symm, rfl⟩
set_option maxHeartbeats 4000000 in
set_option maxRecDepth 100000 in
theorem c_R_takeBytes (l : Launch) (w : zWd) (σ : zSt) (a1 : Int32) (a2 : Int32) (ko : k_R_takeBytes σ a1 a2) : zMi l ({ cls := "SluiceStream$Receiver", name := "takeBytes", desc := "(II)I" } : Jvm.MethodName) prog_3_method_3_code 4 2 46 .int w [.ref (zq w 6), .int a1, .int a2] σ (fun r u => (r, u) = (f_R_takeBytes σ a1 a2)) := by
  refine zMi_of (by decide +kernel) (Nat.le_of_ble_eq_true rfl) ?_
  intro K O hl0 E
  have ht : (f_R_takeBytes σ a1 a2) = (f_R_takeBytes σ a1 a2) := rfl
  refine z_sub (lv' := [(0, .ref (zq w 6)), (1, .int a1), (2, .int a2)]) [0, 1, 2] rfl ?_
  refine z_aload_n O zd_R_takeBytes_0 rfl 0 rfl ?_
  refine z_dup O zd_R_takeBytes_1 rfl ?_
  refine zg_R_18_6 O zd_R_takeBytes_2 (v := .int (σ 6 1)) rfl ?_
  refine z_iconst O (v := 1) zd_R_takeBytes_5 (by decide) ?_
  refine z_iadd O zd_R_takeBytes_6 ?_
  refine zp_R_18_6 O zd_R_takeBytes_7 ?_
  refine z_aload_n O zd_R_takeBytes_10 rfl 0 rfl ?_
  refine zg_R_12_6 O zd_R_takeBytes_11 (v := .ref (zq w 7)) rfl ?_
  refine z_iload_n O zd_R_takeBytes_14 rfl 1 rfl ?_
  refine z_iload_n O zd_R_takeBytes_15 rfl 2 rfl ?_
  refine z_aload_n O zd_R_takeBytes_16 rfl 0 rfl ?_
  refine zg_R_25_6 O zd_R_takeBytes_17 (v := .int (σ 6 3)) rfl ?_
  refine z_bipush O (v := 32) zd_R_takeBytes_20 (by decide) ?_
  refine z_iadd O zd_R_takeBytes_22 ?_
  refine z_min O zm588 zm491 zm13 zm492 (Nat.le_of_ble_eq_true rfl) (Nat.le_of_ble_eq_true rfl) zd_R_takeBytes_23 ?_
  refine z_aload_n O zd_R_takeBytes_26 rfl 0 rfl ?_
  refine zg_R_18_6 O zd_R_takeBytes_27 (v := .int ((σ 6 1) + 1)) rfl ?_
  refine z_calli O hl0 (st := []) 7 0 (fs := zo7 w (zuf σ 6 1 ((σ 6 1) + 1))) rfl rfl (c_P_fillEmpty_7 l w (zuf σ 6 1 ((σ 6 1) + 1)) a1 (if ((σ 6 3) + 32) < a2 then ((σ 6 3) + 32) else a2) ((σ 6 1) + 1) ko.1) zl_R_34 zm590 zm591 rfl rfl (Nat.le_of_ble_eq_true rfl) (Nat.le_of_ble_eq_true rfl) (Nat.le_of_ble_eq_true rfl) zd_R_takeBytes_30 (fun r1 u2 e3 => ?_)
  have ht := ht.trans (zseq_e e3)
  have ko := ko.2 r1 u2 e3
  refine z_istore_n O (lv' := [(3, .int r1), (0, .ref (zq w 6)), (1, .int a1), (2, .int a2)]) zd_R_takeBytes_33 rfl (Nat.le_of_ble_eq_true rfl) rfl ?_
  refine z_aload_n O zd_R_takeBytes_34 rfl 1 rfl ?_
  refine z_aload_n O zd_R_takeBytes_35 rfl 1 rfl ?_
  refine zg_R_12_6 O zd_R_takeBytes_36 (v := .ref (zq w 7)) rfl ?_
  refine z_aload_n O zd_R_takeBytes_39 rfl 1 rfl ?_
  refine zg_R_22_6 O zd_R_takeBytes_40 (v := .int (u2 6 2)) rfl ?_
  refine z_sipush O (v := 600) zd_R_takeBytes_43 (by decide) ?_
  refine z_callri O hl0 (st := [.ref (zq w 6)]) 7 0 (fs := zo7 w u2) rfl rfl (c_P_firstEmpty_7 l w u2 (u2 6 2) 600 ko) zl_R_38 zm254 zm255 rfl rfl (Nat.le_of_ble_eq_true rfl) (Nat.le_of_ble_eq_true rfl) (Nat.le_of_ble_eq_true rfl) zd_R_takeBytes_46 (fun r4 e5 => ?_)
  have ht := ht.trans (zlet_e e5)
  refine zp_R_22_6 O zd_R_takeBytes_49 ?_
  refine z_iload_n O zd_R_takeBytes_52 rfl 0 rfl ?_
  exact E _ _ _ _ zd_R_takeBytes_53 rfl ht.symm
set_option maxHeartbeats 4000000 in
set_option maxRecDepth 100000 in
theorem c_R_passByte (l : Launch) (w : zWd) (σ : zSt) : zMi l ({ cls := "SluiceStream$Receiver", name := "passByte", desc := "()Z" } : Jvm.MethodName) prog_3_method_4_code 2 1 20 .boolean w [.ref (zq w 6)] σ (fun r u => (r, u) = (f_R_passByte σ)) := by
  refine zMi_of (by decide +kernel) (Nat.le_of_ble_eq_true rfl) ?_
  intro K O hl0 E
  have ht : (f_R_passByte σ) = (f_R_passByte σ) := rfl
  refine z_sub (lv' := [(0, .ref (zq w 6))]) [0] rfl ?_
  refine z_aload_n O zd_R_passByte_0 rfl 0 rfl ?_
  refine z_callri O hl0 (st := []) 6 1 (fs := zo6 w σ) rfl rfl (c_R_room l w σ) zl_R_41 zm202 zm203 rfl rfl (Nat.le_of_ble_eq_true rfl) (Nat.le_of_ble_eq_true rfl) (Nat.le_of_ble_eq_true rfl) zd_R_passByte_1 (fun r1 e2 => ?_)
  have ht := ht.trans (zlet_e e2)
  refine z_istore_n O (lv' := [(1, .int r1), (0, .ref (zq w 6))]) zd_R_passByte_4 rfl (Nat.le_of_ble_eq_true rfl) rfl ?_
  refine z_aload_n O zd_R_passByte_5 rfl 1 rfl ?_
  refine z_dup O zd_R_passByte_6 rfl ?_
  refine zg_R_25_6 O zd_R_passByte_7 (v := .int (σ 6 3)) rfl ?_
  refine z_iconst O (v := 1) zd_R_passByte_10 (by decide) ?_
  refine z_iadd O zd_R_passByte_11 ?_
  refine zp_R_25_6 O zd_R_passByte_12 ?_
  refine z_iload_n O zd_R_passByte_15 rfl 0 rfl ?_
  refine z_iconst O (v := 4) zd_R_passByte_16 (by decide) ?_
  refine z_icmp_ge O (tgt := 32) zd_R_passByte_17 (by decide) (fun c3 => ?_) (fun c3 => ?_)
  · have ht := ht.trans (if_pos c3)
    refine z_iconst O (v := 0) zd_R_passByte_32 (by decide) ?_
    exact E _ _ _ _ zd_R_passByte_33 rfl ht.symm
  · have ht := ht.trans (if_neg c3)
    refine z_aload_n O zd_R_passByte_20 rfl 1 rfl ?_
    refine z_callri O hl0 (st := []) 6 1 (fs := zo6 w (zuf σ 6 3 ((σ 6 3) + 1))) rfl rfl (c_R_room l w (zuf σ 6 3 ((σ 6 3) + 1))) zl_R_41 zm202 zm203 rfl rfl (Nat.le_of_ble_eq_true rfl) (Nat.le_of_ble_eq_true rfl) (Nat.le_of_ble_eq_true rfl) zd_R_passByte_21 (fun r4 e5 => ?_)
    have ht := ht.trans (zlet_e e5)
    refine z_iconst O (v := 4) zd_R_passByte_24 (by decide) ?_
    refine z_icmp_lt O (tgt := 32) zd_R_passByte_25 (by decide) (fun c6 => ?_) (fun c6 => ?_)
    · have ht := ht.trans (if_pos c6)
      refine z_iconst O (v := 0) zd_R_passByte_32 (by decide) ?_
      exact E _ _ _ _ zd_R_passByte_33 rfl ht.symm
    · have ht := ht.trans (if_neg c6)
      refine z_iconst O (v := 1) zd_R_passByte_28 (by decide) ?_
      refine z_goto O (tgt := 33) zd_R_passByte_29 (by decide) ?_
      exact E _ _ _ _ zd_R_passByte_33 rfl ht.symm
set_option maxHeartbeats 4000000 in
set_option maxRecDepth 100000 in
theorem c_W_isFull_9 (l : Launch) (w : zWd) (σ : zSt) : zMi l ({ cls := "SluiceStream$Rows", name := "isFull", desc := "()Z" } : Jvm.MethodName) prog_4_method_3_code 1 0 0 .boolean w [.ref (zq w 9)] σ (fun r u => r = (f_W_isFull 9 σ) ∧ u = σ) := by
  refine zMi_of (by decide +kernel) (Nat.le_of_ble_eq_true rfl) ?_
  intro K O hl0 E
  have ht : (f_W_isFull 9 σ) = (f_W_isFull 9 σ) := rfl
  refine z_sub (lv' := [(0, .ref (zq w 9))]) [0] rfl ?_
  refine z_aload_n O zd_W_isFull_0 rfl 0 rfl ?_
  refine zg_W_9_9 O zd_W_isFull_1 (v := .int (σ 9 2)) rfl ?_
  refine z_bipush O (v := 40) zd_W_isFull_4 (by decide) ?_
  refine z_icmp_lt O (tgt := 13) zd_W_isFull_6 (by decide) (fun c1 => ?_) (fun c1 => ?_)
  · have ht := ht.trans (if_pos c1)
    refine z_iconst O (v := 0) zd_W_isFull_13 (by decide) ?_
    exact E _ _ _ _ zd_W_isFull_14 rfl ⟨ht.symm, rfl⟩
  · have ht := ht.trans (if_neg c1)
    refine z_iconst O (v := 1) zd_W_isFull_9 (by decide) ?_
    refine z_goto O (tgt := 14) zd_W_isFull_10 (by decide) ?_
    exact E _ _ _ _ zd_W_isFull_14 rfl ⟨ht.symm, rfl⟩
set_option maxHeartbeats 4000000 in
set_option maxRecDepth 100000 in
theorem c_W_isFull_11 (l : Launch) (w : zWd) (σ : zSt) : zMi l ({ cls := "SluiceStream$Rows", name := "isFull", desc := "()Z" } : Jvm.MethodName) prog_4_method_3_code 1 0 0 .boolean w [.ref (zq w 11)] σ (fun r u => r = (f_W_isFull 11 σ) ∧ u = σ) := by
  refine zMi_of (by decide +kernel) (Nat.le_of_ble_eq_true rfl) ?_
  intro K O hl0 E
  have ht : (f_W_isFull 11 σ) = (f_W_isFull 11 σ) := rfl
  refine z_sub (lv' := [(0, .ref (zq w 11))]) [0] rfl ?_
  refine z_aload_n O zd_W_isFull_0 rfl 0 rfl ?_
  refine zg_W_9_11 O zd_W_isFull_1 (v := .int (σ 11 2)) rfl ?_
  refine z_bipush O (v := 40) zd_W_isFull_4 (by decide) ?_
  refine z_icmp_lt O (tgt := 13) zd_W_isFull_6 (by decide) (fun c1 => ?_) (fun c1 => ?_)
  · have ht := ht.trans (if_pos c1)
    refine z_iconst O (v := 0) zd_W_isFull_13 (by decide) ?_
    exact E _ _ _ _ zd_W_isFull_14 rfl ⟨ht.symm, rfl⟩
  · have ht := ht.trans (if_neg c1)
    refine z_iconst O (v := 1) zd_W_isFull_9 (by decide) ?_
    refine z_goto O (tgt := 14) zd_W_isFull_10 (by decide) ?_
    exact E _ _ _ _ zd_W_isFull_14 rfl ⟨ht.symm, rfl⟩
set_option maxHeartbeats 4000000 in
set_option maxRecDepth 100000 in
theorem c_W_holds_9 (l : Launch) (w : zWd) (σ : zSt) (a1 : Int32) : zMi l ({ cls := "SluiceStream$Rows", name := "holds", desc := "(I)Z" } : Jvm.MethodName) prog_4_method_2_code 2 0 0 .boolean w [.ref (zq w 9), .int a1] σ (fun r u => r = (f_W_holds 9 σ a1) ∧ u = σ) := by
  refine zMi_of (by decide +kernel) (Nat.le_of_ble_eq_true rfl) ?_
  intro K O hl0 E
  have ht : (f_W_holds 9 σ a1) = (f_W_holds 9 σ a1) := rfl
  refine z_sub (lv' := [(0, .ref (zq w 9)), (1, .int a1)]) [0, 1] rfl ?_
  refine z_iload_n O zd_W_holds_0 rfl 1 rfl ?_
  refine z_if_lt O (tgt := 16) zd_W_holds_1 (by decide) (fun c1 => ?_) (fun c1 => ?_)
  · have ht := ht.trans (if_pos c1)
    refine z_iconst O (v := 0) zd_W_holds_16 (by decide) ?_
    exact E _ _ _ _ zd_W_holds_17 rfl ⟨ht.symm, rfl⟩
  · have ht := ht.trans (if_neg c1)
    refine z_iload_n O zd_W_holds_4 rfl 1 rfl ?_
    refine z_aload_n O zd_W_holds_5 rfl 0 rfl ?_
    refine zg_W_9_9 O zd_W_holds_6 (v := .int (σ 9 2)) rfl ?_
    refine z_icmp_ge O (tgt := 16) zd_W_holds_9 (by decide) (fun c2 => ?_) (fun c2 => ?_)
    · have ht := ht.trans (if_pos c2)
      refine z_iconst O (v := 0) zd_W_holds_16 (by decide) ?_
      exact E _ _ _ _ zd_W_holds_17 rfl ⟨ht.symm, rfl⟩
    · have ht := ht.trans (if_neg c2)
      refine z_iconst O (v := 1) zd_W_holds_12 (by decide) ?_
      refine z_goto O (tgt := 17) zd_W_holds_13 (by decide) ?_
      exact E _ _ _ _ zd_W_holds_17 rfl ⟨ht.symm, rfl⟩
set_option maxHeartbeats 4000000 in
set_option maxRecDepth 100000 in
theorem c_W_holds_11 (l : Launch) (w : zWd) (σ : zSt) (a1 : Int32) : zMi l ({ cls := "SluiceStream$Rows", name := "holds", desc := "(I)Z" } : Jvm.MethodName) prog_4_method_2_code 2 0 0 .boolean w [.ref (zq w 11), .int a1] σ (fun r u => r = (f_W_holds 11 σ a1) ∧ u = σ) := by
  refine zMi_of (by decide +kernel) (Nat.le_of_ble_eq_true rfl) ?_
  intro K O hl0 E
  have ht : (f_W_holds 11 σ a1) = (f_W_holds 11 σ a1) := rfl
  refine z_sub (lv' := [(0, .ref (zq w 11)), (1, .int a1)]) [0, 1] rfl ?_
  refine z_iload_n O zd_W_holds_0 rfl 1 rfl ?_
  refine z_if_lt O (tgt := 16) zd_W_holds_1 (by decide) (fun c1 => ?_) (fun c1 => ?_)
  · have ht := ht.trans (if_pos c1)
    refine z_iconst O (v := 0) zd_W_holds_16 (by decide) ?_
    exact E _ _ _ _ zd_W_holds_17 rfl ⟨ht.symm, rfl⟩
  · have ht := ht.trans (if_neg c1)
    refine z_iload_n O zd_W_holds_4 rfl 1 rfl ?_
    refine z_aload_n O zd_W_holds_5 rfl 0 rfl ?_
    refine zg_W_9_11 O zd_W_holds_6 (v := .int (σ 11 2)) rfl ?_
    refine z_icmp_ge O (tgt := 16) zd_W_holds_9 (by decide) (fun c2 => ?_) (fun c2 => ?_)
    · have ht := ht.trans (if_pos c2)
      refine z_iconst O (v := 0) zd_W_holds_16 (by decide) ?_
      exact E _ _ _ _ zd_W_holds_17 rfl ⟨ht.symm, rfl⟩
    · have ht := ht.trans (if_neg c2)
      refine z_iconst O (v := 1) zd_W_holds_12 (by decide) ?_
      refine z_goto O (tgt := 17) zd_W_holds_13 (by decide) ?_
      exact E _ _ _ _ zd_W_holds_17 rfl ⟨ht.symm, rfl⟩
set_option maxHeartbeats 4000000 in
set_option maxRecDepth 100000 in
theorem L_W_remove_26_9 {K : zCx} {w : zWd} {l : Launch} (O : zOk K w prog_4_method_7_code "SluiceStream$Rows" 3 1 21) (hl0 : kl K = l) : ∀ (m : Nat) (σ : zSt) (x2 : Int32), kl_W_remove_26 9  m σ x2 → (∀ r, r = (l_W_remove_26 9  m σ x2) → Z K w r [] [] 80) → Z K w σ [(0, .ref (zq w 9)), (2, .int x2)] [] 26 := by
  intro m
  induction m with
  | zero => intro σ x2 ko; exact ko.elim
  | succ m ih =>
    intro σ x2 ko kk
    have ht : l_W_remove_26 9  (m + 1) σ x2 = l_W_remove_26 9  (m + 1) σ x2 := rfl
    refine z_iload_n O zd_W_remove_26 rfl 1 rfl ?_
    refine z_aload_n O zd_W_remove_27 rfl 0 rfl ?_
    refine zg_W_9_9 O zd_W_remove_28 (v := .int (σ 9 2)) rfl ?_
    refine z_aload_n O zd_W_remove_31 rfl 0 rfl ?_
    refine zg_W_15_9 O zd_W_remove_32 (v := .int (zcol 9)) rfl ?_
    refine z_imul O zd_W_remove_35 ?_
    refine z_icmp_ge O (tgt := 80) zd_W_remove_36 (by decide) (fun c4 => ?_) (fun c4 => ?_)
    · have ht := ht.trans (if_pos c4)
      refine z_sub (lv' := []) [] rfl ?_
      exact kk σ ht.symm
    · have ht := ht.trans (if_neg c4)
      have ko := ko c4
      refine z_iload_n O zd_W_remove_39 rfl 1 rfl ?_
      refine z_if_lt O (tgt := 80) zd_W_remove_40 (by decide) (fun c5 => ?_) (fun c5 => ?_)
      · have ht := ht.trans (if_pos c5)
        refine z_sub (lv' := []) [] rfl ?_
        exact kk σ ht.symm
      · have ht := ht.trans (if_neg c5)
        have ko := ko c5
        refine z_iload_n O zd_W_remove_43 rfl 1 rfl ?_
        refine z_aload_n O zd_W_remove_44 rfl 0 rfl ?_
        refine zg_W_15_9 O zd_W_remove_45 (v := .int (zcol 9)) rfl ?_
        refine z_iadd O zd_W_remove_48 ?_
        refine z_aload_n O zd_W_remove_49 rfl 0 rfl ?_
        refine zg_W_18_9 O zd_W_remove_50 (v := .ref (zq w 10)) rfl ?_
        refine z_alen O 10 (zae10 w σ) (v := (zlen 9)) rfl zd_W_remove_53 ?_
        refine z_icmp_ge O (tgt := 80) zd_W_remove_54 (by decide) (fun c6 => ?_) (fun c6 => ?_)
        · have ht := ht.trans (if_pos c6)
          refine z_sub (lv' := []) [] rfl ?_
          exact kk σ ht.symm
        · have ht := ht.trans (if_neg c6)
          have ko := ko c6
          refine z_aload_n O zd_W_remove_57 rfl 0 rfl ?_
          refine zg_W_18_9 O zd_W_remove_58 (v := .ref (zq w 10)) rfl ?_
          refine z_iload_n O zd_W_remove_61 rfl 1 rfl ?_
          refine z_aload_n O zd_W_remove_62 rfl 0 rfl ?_
          refine zg_W_18_9 O zd_W_remove_63 (v := .ref (zq w 10)) rfl ?_
          refine z_iload_n O zd_W_remove_66 rfl 1 rfl ?_
          refine z_aload_n O zd_W_remove_67 rfl 0 rfl ?_
          refine zg_W_15_9 O zd_W_remove_68 (v := .int (zcol 9)) rfl ?_
          refine z_iadd O zd_W_remove_71 ?_
          have b7 := ko.1
          have ko := ko.2
          refine z_iald O 10 (zae10 w σ) b7 (v := (σ 10 ((x2 + (zcol 9)) : Int32).toNatClampNeg)) rfl zd_W_remove_72 ?_
          have b8 := ko.1
          have ko := ko.2
          refine z_iast O 10 (zae10 w σ) b8 (zas10 w σ _ _) zd_W_remove_73 ?_
          refine z_iinc O (v := (x2 + 1)) (lv' := [(2, .int (x2 + 1)), (0, .ref (zq w 9))]) zd_W_remove_74 1 rfl rfl (Nat.le_of_ble_eq_true rfl) rfl ?_
          refine z_goto O (tgt := 26) zd_W_remove_77 (by decide) ?_
          refine z_sub (lv' := [(0, .ref (zq w 9)), (2, .int (x2 + 1))]) [1, 0] rfl ?_
          exact ih (zuf σ 10 x2.toNatClampNeg (σ 10 ((x2 + (zcol 9)) : Int32).toNatClampNeg)) (x2 + 1) ko (fun r e => kk r (e.trans ht.symm))
set_option maxHeartbeats 4000000 in
set_option maxRecDepth 100000 in
theorem c_W_remove_9 (l : Launch) (w : zWd) (σ : zSt) (a1 : Int32) (ko : k_W_remove 9 σ a1) : zMv l ({ cls := "SluiceStream$Rows", name := "remove", desc := "(I)V" } : Jvm.MethodName) prog_4_method_7_code 3 1 21 w [.ref (zq w 9), .int a1] σ (fun u => u = (f_W_remove 9 σ a1)) := by
  refine zMv_of (by decide +kernel) (Nat.le_of_ble_eq_true rfl) ?_
  intro K O hl0 E
  have ht : (f_W_remove 9 σ a1) = (f_W_remove 9 σ a1) := rfl
  refine z_sub (lv' := [(0, .ref (zq w 9)), (1, .int a1)]) [0, 1] rfl ?_
  refine z_aload_n O zd_W_remove_0 rfl 0 rfl ?_
  refine z_iload_n O zd_W_remove_1 rfl 1 rfl ?_
  refine z_callri O hl0 (st := []) 9 2 (fs := zo9 w σ) rfl rfl (c_W_holds_9 l w σ a1) zl_W_22 zm218 zm219 rfl rfl (Nat.le_of_ble_eq_true rfl) (Nat.le_of_ble_eq_true rfl) (Nat.le_of_ble_eq_true rfl) zd_W_remove_2 (fun r1 e2 => ?_)
  have ht := ht.trans (zlet_e e2)
  have ko := ko r1 e2
  refine z_if_ne O (tgt := 9) zd_W_remove_5 (by decide) (fun c3 => ?_) (fun c3 => ?_)
  · have ht := ht.trans (if_neg c3)
    have ko := ko c3
    refine z_aload_n O zd_W_remove_9 rfl 0 rfl ?_
    refine z_dup O zd_W_remove_10 rfl ?_
    refine zg_W_9_9 O zd_W_remove_11 (v := .int (σ 9 2)) rfl ?_
    refine z_iconst O (v := 1) zd_W_remove_14 (by decide) ?_
    refine z_isub O zd_W_remove_15 ?_
    refine zp_W_9_9 O zd_W_remove_16 ?_
    refine z_iload_n O zd_W_remove_19 rfl 1 rfl ?_
    refine z_aload_n O zd_W_remove_20 rfl 0 rfl ?_
    refine zg_W_15_9 O zd_W_remove_21 (v := .int (zcol 9)) rfl ?_
    refine z_imul O zd_W_remove_24 ?_
    refine z_istore_n O (lv' := [(2, .int (a1 * (zcol 9))), (0, .ref (zq w 9)), (1, .int a1)]) zd_W_remove_25 rfl (Nat.le_of_ble_eq_true rfl) rfl ?_
    refine z_sub (lv' := [(0, .ref (zq w 9)), (2, .int (a1 * (zcol 9)))]) [1, 0] rfl ?_
    refine L_W_remove_26_9 O hl0 ((((((zuf σ 9 2 ((σ 9 2) - 1)) 9 2) * (zcol 9))).toInt - ((a1 * (zcol 9))).toInt).toNat + 2) (zuf σ 9 2 ((σ 9 2) - 1)) (a1 * (zcol 9)) ko (fun r9 er9 => ?_)
    have ht := ht.trans (zlet_e er9)
    exact E _ _ _ zd_W_remove_80 ht.symm
  · have ht := ht.trans (if_pos c3)
    exact E _ _ _ zd_W_remove_8 ht.symm
set_option maxHeartbeats 4000000 in
set_option maxRecDepth 100000 in
theorem L_W_remove_26_11 {K : zCx} {w : zWd} {l : Launch} (O : zOk K w prog_4_method_7_code "SluiceStream$Rows" 3 1 21) (hl0 : kl K = l) : ∀ (m : Nat) (σ : zSt) (x2 : Int32), kl_W_remove_26 11  m σ x2 → (∀ r, r = (l_W_remove_26 11  m σ x2) → Z K w r [] [] 80) → Z K w σ [(0, .ref (zq w 11)), (2, .int x2)] [] 26 := by
  intro m
  induction m with
  | zero => intro σ x2 ko; exact ko.elim
  | succ m ih =>
    intro σ x2 ko kk
    have ht : l_W_remove_26 11  (m + 1) σ x2 = l_W_remove_26 11  (m + 1) σ x2 := rfl
    refine z_iload_n O zd_W_remove_26 rfl 1 rfl ?_
    refine z_aload_n O zd_W_remove_27 rfl 0 rfl ?_
    refine zg_W_9_11 O zd_W_remove_28 (v := .int (σ 11 2)) rfl ?_
    refine z_aload_n O zd_W_remove_31 rfl 0 rfl ?_
    refine zg_W_15_11 O zd_W_remove_32 (v := .int (zcol 11)) rfl ?_
    refine z_imul O zd_W_remove_35 ?_
    refine z_icmp_ge O (tgt := 80) zd_W_remove_36 (by decide) (fun c4 => ?_) (fun c4 => ?_)
    · have ht := ht.trans (if_pos c4)
      refine z_sub (lv' := []) [] rfl ?_
      exact kk σ ht.symm
    · have ht := ht.trans (if_neg c4)
      have ko := ko c4
      refine z_iload_n O zd_W_remove_39 rfl 1 rfl ?_
      refine z_if_lt O (tgt := 80) zd_W_remove_40 (by decide) (fun c5 => ?_) (fun c5 => ?_)
      · have ht := ht.trans (if_pos c5)
        refine z_sub (lv' := []) [] rfl ?_
        exact kk σ ht.symm
      · have ht := ht.trans (if_neg c5)
        have ko := ko c5
        refine z_iload_n O zd_W_remove_43 rfl 1 rfl ?_
        refine z_aload_n O zd_W_remove_44 rfl 0 rfl ?_
        refine zg_W_15_11 O zd_W_remove_45 (v := .int (zcol 11)) rfl ?_
        refine z_iadd O zd_W_remove_48 ?_
        refine z_aload_n O zd_W_remove_49 rfl 0 rfl ?_
        refine zg_W_18_11 O zd_W_remove_50 (v := .ref (zq w 12)) rfl ?_
        refine z_alen O 12 (zae12 w σ) (v := (zlen 11)) rfl zd_W_remove_53 ?_
        refine z_icmp_ge O (tgt := 80) zd_W_remove_54 (by decide) (fun c6 => ?_) (fun c6 => ?_)
        · have ht := ht.trans (if_pos c6)
          refine z_sub (lv' := []) [] rfl ?_
          exact kk σ ht.symm
        · have ht := ht.trans (if_neg c6)
          have ko := ko c6
          refine z_aload_n O zd_W_remove_57 rfl 0 rfl ?_
          refine zg_W_18_11 O zd_W_remove_58 (v := .ref (zq w 12)) rfl ?_
          refine z_iload_n O zd_W_remove_61 rfl 1 rfl ?_
          refine z_aload_n O zd_W_remove_62 rfl 0 rfl ?_
          refine zg_W_18_11 O zd_W_remove_63 (v := .ref (zq w 12)) rfl ?_
          refine z_iload_n O zd_W_remove_66 rfl 1 rfl ?_
          refine z_aload_n O zd_W_remove_67 rfl 0 rfl ?_
          refine zg_W_15_11 O zd_W_remove_68 (v := .int (zcol 11)) rfl ?_
          refine z_iadd O zd_W_remove_71 ?_
          have b7 := ko.1
          have ko := ko.2
          refine z_iald O 12 (zae12 w σ) b7 (v := (σ 12 ((x2 + (zcol 11)) : Int32).toNatClampNeg)) rfl zd_W_remove_72 ?_
          have b8 := ko.1
          have ko := ko.2
          refine z_iast O 12 (zae12 w σ) b8 (zas12 w σ _ _) zd_W_remove_73 ?_
          refine z_iinc O (v := (x2 + 1)) (lv' := [(2, .int (x2 + 1)), (0, .ref (zq w 11))]) zd_W_remove_74 1 rfl rfl (Nat.le_of_ble_eq_true rfl) rfl ?_
          refine z_goto O (tgt := 26) zd_W_remove_77 (by decide) ?_
          refine z_sub (lv' := [(0, .ref (zq w 11)), (2, .int (x2 + 1))]) [1, 0] rfl ?_
          exact ih (zuf σ 12 x2.toNatClampNeg (σ 12 ((x2 + (zcol 11)) : Int32).toNatClampNeg)) (x2 + 1) ko (fun r e => kk r (e.trans ht.symm))
set_option maxHeartbeats 4000000 in
set_option maxRecDepth 100000 in
theorem c_W_remove_11 (l : Launch) (w : zWd) (σ : zSt) (a1 : Int32) (ko : k_W_remove 11 σ a1) : zMv l ({ cls := "SluiceStream$Rows", name := "remove", desc := "(I)V" } : Jvm.MethodName) prog_4_method_7_code 3 1 21 w [.ref (zq w 11), .int a1] σ (fun u => u = (f_W_remove 11 σ a1)) := by
  refine zMv_of (by decide +kernel) (Nat.le_of_ble_eq_true rfl) ?_
  intro K O hl0 E
  have ht : (f_W_remove 11 σ a1) = (f_W_remove 11 σ a1) := rfl
  refine z_sub (lv' := [(0, .ref (zq w 11)), (1, .int a1)]) [0, 1] rfl ?_
  refine z_aload_n O zd_W_remove_0 rfl 0 rfl ?_
  refine z_iload_n O zd_W_remove_1 rfl 1 rfl ?_
  refine z_callri O hl0 (st := []) 11 2 (fs := zo11 w σ) rfl rfl (c_W_holds_11 l w σ a1) zl_W_22 zm218 zm219 rfl rfl (Nat.le_of_ble_eq_true rfl) (Nat.le_of_ble_eq_true rfl) (Nat.le_of_ble_eq_true rfl) zd_W_remove_2 (fun r1 e2 => ?_)
  have ht := ht.trans (zlet_e e2)
  have ko := ko r1 e2
  refine z_if_ne O (tgt := 9) zd_W_remove_5 (by decide) (fun c3 => ?_) (fun c3 => ?_)
  · have ht := ht.trans (if_neg c3)
    have ko := ko c3
    refine z_aload_n O zd_W_remove_9 rfl 0 rfl ?_
    refine z_dup O zd_W_remove_10 rfl ?_
    refine zg_W_9_11 O zd_W_remove_11 (v := .int (σ 11 2)) rfl ?_
    refine z_iconst O (v := 1) zd_W_remove_14 (by decide) ?_
    refine z_isub O zd_W_remove_15 ?_
    refine zp_W_9_11 O zd_W_remove_16 ?_
    refine z_iload_n O zd_W_remove_19 rfl 1 rfl ?_
    refine z_aload_n O zd_W_remove_20 rfl 0 rfl ?_
    refine zg_W_15_11 O zd_W_remove_21 (v := .int (zcol 11)) rfl ?_
    refine z_imul O zd_W_remove_24 ?_
    refine z_istore_n O (lv' := [(2, .int (a1 * (zcol 11))), (0, .ref (zq w 11)), (1, .int a1)]) zd_W_remove_25 rfl (Nat.le_of_ble_eq_true rfl) rfl ?_
    refine z_sub (lv' := [(0, .ref (zq w 11)), (2, .int (a1 * (zcol 11)))]) [1, 0] rfl ?_
    refine L_W_remove_26_11 O hl0 ((((((zuf σ 11 2 ((σ 11 2) - 1)) 11 2) * (zcol 11))).toInt - ((a1 * (zcol 11))).toInt).toNat + 2) (zuf σ 11 2 ((σ 11 2) - 1)) (a1 * (zcol 11)) ko (fun r9 er9 => ?_)
    have ht := ht.trans (zlet_e er9)
    exact E _ _ _ zd_W_remove_80 ht.symm
  · have ht := ht.trans (if_pos c3)
    exact E _ _ _ zd_W_remove_8 ht.symm
set_option maxHeartbeats 4000000 in
set_option maxRecDepth 100000 in
theorem c_W_addRow_9 (l : Launch) (w : zWd) (σ : zSt) : zMi l ({ cls := "SluiceStream$Rows", name := "addRow", desc := "()I" } : Jvm.MethodName) prog_4_method_6_code 1 0 0 .int w [.ref (zq w 9)] σ (fun r u => (r, u) = (f_W_addRow 9 σ)) := by
  refine zMi_of (by decide +kernel) (Nat.le_of_ble_eq_true rfl) ?_
  intro K O hl0 E
  have ht : (f_W_addRow 9 σ) = (f_W_addRow 9 σ) := rfl
  refine z_sub (lv' := [(0, .ref (zq w 9))]) [0] rfl ?_
  refine z_aload_n O zd_W_addRow_0 rfl 0 rfl ?_
  refine zg_W_9_9 O zd_W_addRow_1 (v := .int (σ 9 2)) rfl ?_
  refine z_bipush O (v := 40) zd_W_addRow_4 (by decide) ?_
  refine z_icmp_ge O (tgt := 19) zd_W_addRow_6 (by decide) (fun c1 => ?_) (fun c1 => ?_)
  · have ht := ht.trans (if_pos c1)
    refine z_aload_n O zd_W_addRow_19 rfl 0 rfl ?_
    refine zg_W_9_9 O zd_W_addRow_20 (v := .int (σ 9 2)) rfl ?_
    refine z_iconst O (v := 1) zd_W_addRow_23 (by decide) ?_
    refine z_isub O zd_W_addRow_24 ?_
    exact E _ _ _ _ zd_W_addRow_25 rfl ht.symm
  · have ht := ht.trans (if_neg c1)
    refine z_aload_n O zd_W_addRow_9 rfl 0 rfl ?_
    refine z_dup O zd_W_addRow_10 rfl ?_
    refine zg_W_9_9 O zd_W_addRow_11 (v := .int (σ 9 2)) rfl ?_
    refine z_iconst O (v := 1) zd_W_addRow_14 (by decide) ?_
    refine z_iadd O zd_W_addRow_15 ?_
    refine zp_W_9_9 O zd_W_addRow_16 ?_
    refine z_aload_n O zd_W_addRow_19 rfl 0 rfl ?_
    refine zg_W_9_9 O zd_W_addRow_20 (v := .int ((σ 9 2) + 1)) rfl ?_
    refine z_iconst O (v := 1) zd_W_addRow_23 (by decide) ?_
    refine z_isub O zd_W_addRow_24 ?_
    exact E _ _ _ _ zd_W_addRow_25 rfl ht.symm
set_option maxHeartbeats 4000000 in
set_option maxRecDepth 100000 in
theorem c_W_addRow_11 (l : Launch) (w : zWd) (σ : zSt) : zMi l ({ cls := "SluiceStream$Rows", name := "addRow", desc := "()I" } : Jvm.MethodName) prog_4_method_6_code 1 0 0 .int w [.ref (zq w 11)] σ (fun r u => (r, u) = (f_W_addRow 11 σ)) := by
  refine zMi_of (by decide +kernel) (Nat.le_of_ble_eq_true rfl) ?_
  intro K O hl0 E
  have ht : (f_W_addRow 11 σ) = (f_W_addRow 11 σ) := rfl
  refine z_sub (lv' := [(0, .ref (zq w 11))]) [0] rfl ?_
  refine z_aload_n O zd_W_addRow_0 rfl 0 rfl ?_
  refine zg_W_9_11 O zd_W_addRow_1 (v := .int (σ 11 2)) rfl ?_
  refine z_bipush O (v := 40) zd_W_addRow_4 (by decide) ?_
  refine z_icmp_ge O (tgt := 19) zd_W_addRow_6 (by decide) (fun c1 => ?_) (fun c1 => ?_)
  · have ht := ht.trans (if_pos c1)
    refine z_aload_n O zd_W_addRow_19 rfl 0 rfl ?_
    refine zg_W_9_11 O zd_W_addRow_20 (v := .int (σ 11 2)) rfl ?_
    refine z_iconst O (v := 1) zd_W_addRow_23 (by decide) ?_
    refine z_isub O zd_W_addRow_24 ?_
    exact E _ _ _ _ zd_W_addRow_25 rfl ht.symm
  · have ht := ht.trans (if_neg c1)
    refine z_aload_n O zd_W_addRow_9 rfl 0 rfl ?_
    refine z_dup O zd_W_addRow_10 rfl ?_
    refine zg_W_9_11 O zd_W_addRow_11 (v := .int (σ 11 2)) rfl ?_
    refine z_iconst O (v := 1) zd_W_addRow_14 (by decide) ?_
    refine z_iadd O zd_W_addRow_15 ?_
    refine zp_W_9_11 O zd_W_addRow_16 ?_
    refine z_aload_n O zd_W_addRow_19 rfl 0 rfl ?_
    refine zg_W_9_11 O zd_W_addRow_20 (v := .int ((σ 11 2) + 1)) rfl ?_
    refine z_iconst O (v := 1) zd_W_addRow_23 (by decide) ?_
    refine z_isub O zd_W_addRow_24 ?_
    exact E _ _ _ _ zd_W_addRow_25 rfl ht.symm
set_option maxHeartbeats 4000000 in
set_option maxRecDepth 100000 in
theorem c_W_setCell_9 (l : Launch) (w : zWd) (σ : zSt) (a1 : Int32) (a2 : Int32) (a3 : Int32) (ko : k_W_setCell 9 σ a1 a2 a3) : zMv l ({ cls := "SluiceStream$Rows", name := "setCell", desc := "(III)V" } : Jvm.MethodName) prog_4_method_5_code 5 0 0 w [.ref (zq w 9), .int a1, .int a2, .int a3] σ (fun u => u = (f_W_setCell 9 σ a1 a2 a3)) := by
  refine zMv_of (by decide +kernel) (Nat.le_of_ble_eq_true rfl) ?_
  intro K O hl0 E
  have ht : (f_W_setCell 9 σ a1 a2 a3) = (f_W_setCell 9 σ a1 a2 a3) := rfl
  refine z_sub (lv' := [(0, .ref (zq w 9)), (1, .int a1), (2, .int a2), (3, .int a3)]) [0, 1, 2, 3] rfl ?_
  refine z_iload_n O zd_W_setCell_0 rfl 1 rfl ?_
  refine z_aload_n O zd_W_setCell_1 rfl 0 rfl ?_
  refine zg_W_15_9 O zd_W_setCell_2 (v := .int (zcol 9)) rfl ?_
  refine z_imul O zd_W_setCell_5 ?_
  refine z_iload_n O zd_W_setCell_6 rfl 2 rfl ?_
  refine z_iadd O zd_W_setCell_7 ?_
  refine z_istore O (lv' := [(4, .int ((a1 * (zcol 9)) + a2)), (0, .ref (zq w 9)), (1, .int a1), (2, .int a2), (3, .int a3)]) zd_W_setCell_8 (Nat.le_of_ble_eq_true rfl) rfl ?_
  refine z_iload O zd_W_setCell_10 0 rfl ?_
  refine z_if_lt O (tgt := 33) zd_W_setCell_12 (by decide) (fun c1 => ?_) (fun c1 => ?_)
  · have ht := ht.trans (if_pos c1)
    exact E _ _ _ zd_W_setCell_33 ht.symm
  · have ht := ht.trans (if_neg c1)
    have ko := ko c1
    refine z_iload O zd_W_setCell_15 0 rfl ?_
    refine z_aload_n O zd_W_setCell_17 rfl 1 rfl ?_
    refine zg_W_18_9 O zd_W_setCell_18 (v := .ref (zq w 10)) rfl ?_
    refine z_alen O 10 (zae10 w σ) (v := (zlen 9)) rfl zd_W_setCell_21 ?_
    refine z_icmp_ge O (tgt := 33) zd_W_setCell_22 (by decide) (fun c2 => ?_) (fun c2 => ?_)
    · have ht := ht.trans (if_pos c2)
      exact E _ _ _ zd_W_setCell_33 ht.symm
    · have ht := ht.trans (if_neg c2)
      have ko := ko c2
      refine z_aload_n O zd_W_setCell_25 rfl 1 rfl ?_
      refine zg_W_18_9 O zd_W_setCell_26 (v := .ref (zq w 10)) rfl ?_
      refine z_iload O zd_W_setCell_29 0 rfl ?_
      refine z_iload_n O zd_W_setCell_31 rfl 4 rfl ?_
      have b3 := ko
      refine z_iast O 10 (zae10 w σ) b3 (zas10 w σ _ _) zd_W_setCell_32 ?_
      exact E _ _ _ zd_W_setCell_33 ht.symm
set_option maxHeartbeats 4000000 in
set_option maxRecDepth 100000 in
theorem c_W_setCell_11 (l : Launch) (w : zWd) (σ : zSt) (a1 : Int32) (a2 : Int32) (a3 : Int32) (ko : k_W_setCell 11 σ a1 a2 a3) : zMv l ({ cls := "SluiceStream$Rows", name := "setCell", desc := "(III)V" } : Jvm.MethodName) prog_4_method_5_code 5 0 0 w [.ref (zq w 11), .int a1, .int a2, .int a3] σ (fun u => u = (f_W_setCell 11 σ a1 a2 a3)) := by
  refine zMv_of (by decide +kernel) (Nat.le_of_ble_eq_true rfl) ?_
  intro K O hl0 E
  have ht : (f_W_setCell 11 σ a1 a2 a3) = (f_W_setCell 11 σ a1 a2 a3) := rfl
  refine z_sub (lv' := [(0, .ref (zq w 11)), (1, .int a1), (2, .int a2), (3, .int a3)]) [0, 1, 2, 3] rfl ?_
  refine z_iload_n O zd_W_setCell_0 rfl 1 rfl ?_
  refine z_aload_n O zd_W_setCell_1 rfl 0 rfl ?_
  refine zg_W_15_11 O zd_W_setCell_2 (v := .int (zcol 11)) rfl ?_
  refine z_imul O zd_W_setCell_5 ?_
  refine z_iload_n O zd_W_setCell_6 rfl 2 rfl ?_
  refine z_iadd O zd_W_setCell_7 ?_
  refine z_istore O (lv' := [(4, .int ((a1 * (zcol 11)) + a2)), (0, .ref (zq w 11)), (1, .int a1), (2, .int a2), (3, .int a3)]) zd_W_setCell_8 (Nat.le_of_ble_eq_true rfl) rfl ?_
  refine z_iload O zd_W_setCell_10 0 rfl ?_
  refine z_if_lt O (tgt := 33) zd_W_setCell_12 (by decide) (fun c1 => ?_) (fun c1 => ?_)
  · have ht := ht.trans (if_pos c1)
    exact E _ _ _ zd_W_setCell_33 ht.symm
  · have ht := ht.trans (if_neg c1)
    have ko := ko c1
    refine z_iload O zd_W_setCell_15 0 rfl ?_
    refine z_aload_n O zd_W_setCell_17 rfl 1 rfl ?_
    refine zg_W_18_11 O zd_W_setCell_18 (v := .ref (zq w 12)) rfl ?_
    refine z_alen O 12 (zae12 w σ) (v := (zlen 11)) rfl zd_W_setCell_21 ?_
    refine z_icmp_ge O (tgt := 33) zd_W_setCell_22 (by decide) (fun c2 => ?_) (fun c2 => ?_)
    · have ht := ht.trans (if_pos c2)
      exact E _ _ _ zd_W_setCell_33 ht.symm
    · have ht := ht.trans (if_neg c2)
      have ko := ko c2
      refine z_aload_n O zd_W_setCell_25 rfl 1 rfl ?_
      refine zg_W_18_11 O zd_W_setCell_26 (v := .ref (zq w 12)) rfl ?_
      refine z_iload O zd_W_setCell_29 0 rfl ?_
      refine z_iload_n O zd_W_setCell_31 rfl 4 rfl ?_
      have b3 := ko
      refine z_iast O 12 (zae12 w σ) b3 (zas12 w σ _ _) zd_W_setCell_32 ?_
      exact E _ _ _ zd_W_setCell_33 ht.symm
set_option maxHeartbeats 4000000 in
set_option maxRecDepth 100000 in
theorem c_R_blockFrom (l : Launch) (w : zWd) (σ : zSt) (a1 : Int32) (ko : k_R_blockFrom σ a1) : zMi l ({ cls := "SluiceStream$Receiver", name := "blockFrom", desc := "(I)I" } : Jvm.MethodName) prog_3_method_11_code 4 2 44 .int w [.ref (zq w 6), .int a1] σ (fun r u => r = (f_R_blockFrom σ a1) ∧ u = σ) := by
  refine zMi_of (by decide +kernel) (Nat.le_of_ble_eq_true rfl) ?_
  intro K O hl0 E
  have ht : (f_R_blockFrom σ a1) = (f_R_blockFrom σ a1) := rfl
  refine z_sub (lv' := [(0, .ref (zq w 6)), (1, .int a1)]) [0, 1] rfl ?_
  refine z_aload_n O zd_R_blockFrom_0 rfl 0 rfl ?_
  refine zg_R_25_6 O zd_R_blockFrom_1 (v := .int (σ 6 3)) rfl ?_
  refine z_bipush O (v := 32) zd_R_blockFrom_4 (by decide) ?_
  refine z_iadd O zd_R_blockFrom_6 ?_
  refine z_istore_n O (lv' := [(2, .int ((σ 6 3) + 32)), (0, .ref (zq w 6)), (1, .int a1)]) zd_R_blockFrom_7 rfl (Nat.le_of_ble_eq_true rfl) rfl ?_
  refine z_aload_n O zd_R_blockFrom_8 rfl 1 rfl ?_
  refine zg_R_12_6 O zd_R_blockFrom_9 (v := .ref (zq w 7)) rfl ?_
  refine z_iload_n O zd_R_blockFrom_12 rfl 2 rfl ?_
  refine z_iload_n O zd_R_blockFrom_13 rfl 0 rfl ?_
  refine z_callri O hl0 (st := []) 7 0 (fs := zo7 w σ) rfl rfl (c_P_firstFilled_7 l w σ a1 ((σ 6 3) + 32) ko) zl_R_79 zm242 zm243 rfl rfl (Nat.le_of_ble_eq_true rfl) (Nat.le_of_ble_eq_true rfl) (Nat.le_of_ble_eq_true rfl) zd_R_blockFrom_14 (fun r1 e2 => ?_)
  have ht := ht.trans (zlet_e e2)
  refine z_istore_n O (lv' := [(3, .int r1), (2, .int ((σ 6 3) + 32)), (0, .ref (zq w 6)), (1, .int a1)]) zd_R_blockFrom_17 rfl (Nat.le_of_ble_eq_true rfl) rfl ?_
  refine z_iload_n O zd_R_blockFrom_18 rfl 0 rfl ?_
  refine z_iload_n O zd_R_blockFrom_19 rfl 1 rfl ?_
  refine z_icmp_ge O (tgt := 27) zd_R_blockFrom_20 (by decide) (fun c3 => ?_) (fun c3 => ?_)
  · have ht := ht.trans (if_pos c3)
    refine z_iconst O (v := (-1)) zd_R_blockFrom_27 (by decide) ?_
    exact E _ _ _ _ zd_R_blockFrom_28 rfl ⟨ht.symm, rfl⟩
  · have ht := ht.trans (if_neg c3)
    refine z_iload_n O zd_R_blockFrom_23 rfl 0 rfl ?_
    refine z_goto O (tgt := 28) zd_R_blockFrom_24 (by decide) ?_
    exact E _ _ _ _ zd_R_blockFrom_28 rfl ⟨ht.symm, rfl⟩
set_option maxHeartbeats 4000000 in
set_option maxRecDepth 100000 in
theorem c_R_endOfRun (l : Launch) (w : zWd) (σ : zSt) (a1 : Int32) (ko : k_R_endOfRun σ a1) : zMi l ({ cls := "SluiceStream$Receiver", name := "endOfRun", desc := "(I)I" } : Jvm.MethodName) prog_3_method_10_code 2 2 44 .int w [.ref (zq w 6), .int a1] σ (fun r u => r = (f_R_endOfRun σ a1) ∧ u = σ) := by
  refine zMi_of (by decide +kernel) (Nat.le_of_ble_eq_true rfl) ?_
  intro K O hl0 E
  have ht : (f_R_endOfRun σ a1) = (f_R_endOfRun σ a1) := rfl
  refine z_sub (lv' := [(0, .ref (zq w 6)), (1, .int a1)]) [0, 1] rfl ?_
  refine z_aload_n O zd_R_endOfRun_0 rfl 0 rfl ?_
  refine zg_R_12_6 O zd_R_endOfRun_1 (v := .ref (zq w 7)) rfl ?_
  refine z_iload_n O zd_R_endOfRun_4 rfl 1 rfl ?_
  refine z_sipush O (v := 600) zd_R_endOfRun_5 (by decide) ?_
  refine z_callri O hl0 (st := []) 7 0 (fs := zo7 w σ) rfl rfl (c_P_firstEmpty_7 l w σ a1 600 ko) zl_R_38 zm254 zm255 rfl rfl (Nat.le_of_ble_eq_true rfl) (Nat.le_of_ble_eq_true rfl) (Nat.le_of_ble_eq_true rfl) zd_R_endOfRun_8 (fun r1 e2 => ?_)
  have ht := ht.trans (zlet_e e2)
  exact E _ _ _ _ zd_R_endOfRun_11 rfl ⟨ht.symm, rfl⟩
set_option maxHeartbeats 4000000 in
set_option maxRecDepth 100000 in
theorem L_R_newestBlockBefore_17 {K : zCx} {w : zWd} {l : Launch} (O : zOk K w prog_3_method_7_code "SluiceStream$Receiver" 8 3 67) (hl0 : kl K = l) (σ : zSt) (x1 : Int32) : ∀ (m : Nat) (x2 x3 x4 x5 : Int32), kl_R_newestBlockBefore_17 σ x1 m x2 x3 x4 x5 → (∀ r, r = (l_R_newestBlockBefore_17 σ x1 m x2 x3 x4 x5) → Z K w σ [(3, .int r)] [] 83) → Z K w σ [(0, .ref (zq w 6)), (1, .int x1), (2, .int x2), (3, .int x3), (4, .int x4), (5, .int x5)] [] 17 := by
  intro m
  induction m with
  | zero => intro x2 x3 x4 x5 ko; exact ko.elim
  | succ m ih =>
    intro x2 x3 x4 x5 ko kk
    have ht : l_R_newestBlockBefore_17 σ x1 (m + 1) x2 x3 x4 x5 = l_R_newestBlockBefore_17 σ x1 (m + 1) x2 x3 x4 x5 := rfl
    refine z_iload O zd_R_newestBlockBefore_17 5 rfl ?_
    refine z_bipush O (v := 32) zd_R_newestBlockBefore_19 (by decide) ?_
    refine z_icmp_ge O (tgt := 83) zd_R_newestBlockBefore_21 (by decide) (fun c3 => ?_) (fun c3 => ?_)
    · have ht := ht.trans (if_pos c3)
      refine z_sub (lv' := [(3, .int x3)]) [3] rfl ?_
      exact kk x3 ht.symm
    · have ht := ht.trans (if_neg c3)
      have ko := ko c3
      refine z_iload O zd_R_newestBlockBefore_24 4 rfl ?_
      refine z_iconst O (v := (-1)) zd_R_newestBlockBefore_26 (by decide) ?_
      refine z_icmp_eq O (tgt := 83) zd_R_newestBlockBefore_27 (by decide) (fun c4 => ?_) (fun c4 => ?_)
      · have ht := ht.trans (if_pos c4)
        refine z_sub (lv' := [(3, .int x3)]) [3] rfl ?_
        exact kk x3 ht.symm
      · have ht := ht.trans (if_neg c4)
        have ko := ko c4
        refine z_aload_n O zd_R_newestBlockBefore_30 rfl 0 rfl ?_
        refine z_iload O zd_R_newestBlockBefore_31 4 rfl ?_
        refine z_callri O hl0 (st := []) 6 1 (fs := zo6 w σ) rfl rfl (c_R_endOfRun l w σ x4 ko.1) zl_R_70 zm250 zm251 rfl rfl (Nat.le_of_ble_eq_true rfl) (Nat.le_of_ble_eq_true rfl) (Nat.le_of_ble_eq_true rfl) zd_R_newestBlockBefore_33 (fun r5 e6 => ?_)
        have ht := ht.trans (zlet_e e6)
        have ko := ko.2 r5 e6
        refine z_istore O (lv' := [(6, .int r5), (0, .ref (zq w 6)), (1, .int x1), (2, .int x2), (3, .int x3), (4, .int x4), (5, .int x5)]) zd_R_newestBlockBefore_36 (Nat.le_of_ble_eq_true rfl) rfl ?_
        refine z_aload_n O zd_R_newestBlockBefore_38 rfl 1 rfl ?_
        refine zg_R_12_6 O zd_R_newestBlockBefore_39 (v := .ref (zq w 7)) rfl ?_
        refine z_iload O zd_R_newestBlockBefore_42 5 rfl ?_
        refine z_iload O zd_R_newestBlockBefore_44 0 rfl ?_
        refine z_callri O hl0 (st := []) 7 0 (fs := zo7 w σ) rfl rfl (c_P_greatest_7 l w σ x4 r5 ko.1) zl_R_73 zm258 zm259 rfl rfl (Nat.le_of_ble_eq_true rfl) (Nat.le_of_ble_eq_true rfl) (Nat.le_of_ble_eq_true rfl) zd_R_newestBlockBefore_46 (fun r7 e8 => ?_)
        have ht := ht.trans (zlet_e e8)
        have ko := ko.2 r7 e8
        refine z_istore O (lv' := [(7, .int r7), (6, .int r5), (0, .ref (zq w 6)), (1, .int x1), (2, .int x2), (3, .int x3), (4, .int x4), (5, .int x5)]) zd_R_newestBlockBefore_49 (Nat.le_of_ble_eq_true rfl) rfl ?_
        refine z_iload O zd_R_newestBlockBefore_51 0 rfl ?_
        refine z_iload_n O zd_R_newestBlockBefore_53 rfl 4 rfl ?_
        refine z_icmp_le O (tgt := 69) zd_R_newestBlockBefore_54 (by decide) (fun c9 => ?_) (fun c9 => ?_)
        · have ht := ht.trans (if_pos c9)
          have ko := ko.1 c9
          refine z_aload_n O zd_R_newestBlockBefore_69 rfl 2 rfl ?_
          refine z_iload O zd_R_newestBlockBefore_70 1 rfl ?_
          refine z_callri O hl0 (st := []) 6 1 (fs := zo6 w σ) rfl rfl (c_R_blockFrom l w σ r5 ko.1) zl_R_76 zm239 zms2 rfl rfl (Nat.le_of_ble_eq_true rfl) (Nat.le_of_ble_eq_true rfl) (Nat.le_of_ble_eq_true rfl) zd_R_newestBlockBefore_72 (fun r10 e11 => ?_)
          have ht := ht.trans (zlet_e e11)
          have ko := ko.2 r10 e11
          refine z_istore O (lv' := [(4, .int r10), (7, .int r7), (6, .int r5), (0, .ref (zq w 6)), (1, .int x1), (2, .int x2), (3, .int x3), (5, .int x5)]) zd_R_newestBlockBefore_75 (Nat.le_of_ble_eq_true rfl) rfl ?_
          refine z_iinc O (v := (x5 + 1)) (lv' := [(5, .int (x5 + 1)), (4, .int r10), (7, .int r7), (6, .int r5), (0, .ref (zq w 6)), (1, .int x1), (2, .int x2), (3, .int x3)]) zd_R_newestBlockBefore_77 7 rfl rfl (Nat.le_of_ble_eq_true rfl) rfl ?_
          refine z_goto O (tgt := 17) zd_R_newestBlockBefore_80 (by decide) ?_
          refine z_sub (lv' := [(0, .ref (zq w 6)), (1, .int x1), (2, .int x2), (3, .int x3), (4, .int r10), (5, .int (x5 + 1))]) [4, 5, 6, 7, 1, 0] rfl ?_
          exact ih x2 x3 r10 (x5 + 1) ko (fun r e => kk r (e.trans ht.symm))
        · have ht := ht.trans (if_neg c9)
          have ko := ko.2 c9
          refine z_iload O zd_R_newestBlockBefore_57 0 rfl ?_
          refine z_iload_n O zd_R_newestBlockBefore_59 rfl 3 rfl ?_
          refine z_icmp_ge O (tgt := 69) zd_R_newestBlockBefore_60 (by decide) (fun c12 => ?_) (fun c12 => ?_)
          · have ht := ht.trans (if_pos c12)
            have ko := ko.1 c12
            refine z_aload_n O zd_R_newestBlockBefore_69 rfl 2 rfl ?_
            refine z_iload O zd_R_newestBlockBefore_70 1 rfl ?_
            refine z_callri O hl0 (st := []) 6 1 (fs := zo6 w σ) rfl rfl (c_R_blockFrom l w σ r5 ko.1) zl_R_76 zm239 zms2 rfl rfl (Nat.le_of_ble_eq_true rfl) (Nat.le_of_ble_eq_true rfl) (Nat.le_of_ble_eq_true rfl) zd_R_newestBlockBefore_72 (fun r13 e14 => ?_)
            have ht := ht.trans (zlet_e e14)
            have ko := ko.2 r13 e14
            refine z_istore O (lv' := [(4, .int r13), (7, .int r7), (6, .int r5), (0, .ref (zq w 6)), (1, .int x1), (2, .int x2), (3, .int x3), (5, .int x5)]) zd_R_newestBlockBefore_75 (Nat.le_of_ble_eq_true rfl) rfl ?_
            refine z_iinc O (v := (x5 + 1)) (lv' := [(5, .int (x5 + 1)), (4, .int r13), (7, .int r7), (6, .int r5), (0, .ref (zq w 6)), (1, .int x1), (2, .int x2), (3, .int x3)]) zd_R_newestBlockBefore_77 7 rfl rfl (Nat.le_of_ble_eq_true rfl) rfl ?_
            refine z_goto O (tgt := 17) zd_R_newestBlockBefore_80 (by decide) ?_
            refine z_sub (lv' := [(0, .ref (zq w 6)), (1, .int x1), (2, .int x2), (3, .int x3), (4, .int r13), (5, .int (x5 + 1))]) [4, 5, 6, 7, 1, 0] rfl ?_
            exact ih x2 x3 r13 (x5 + 1) ko (fun r e => kk r (e.trans ht.symm))
          · have ht := ht.trans (if_neg c12)
            have ko := ko.2 c12
            refine z_iload O zd_R_newestBlockBefore_63 0 rfl ?_
            refine z_istore_n O (lv' := [(2, .int r7), (7, .int r7), (6, .int r5), (0, .ref (zq w 6)), (1, .int x1), (3, .int x3), (4, .int x4), (5, .int x5)]) zd_R_newestBlockBefore_65 rfl (Nat.le_of_ble_eq_true rfl) rfl ?_
            refine z_iload O zd_R_newestBlockBefore_66 6 rfl ?_
            refine z_istore_n O (lv' := [(3, .int x4), (2, .int r7), (7, .int r7), (6, .int r5), (0, .ref (zq w 6)), (1, .int x1), (4, .int x4), (5, .int x5)]) zd_R_newestBlockBefore_68 rfl (Nat.le_of_ble_eq_true rfl) rfl ?_
            refine z_aload_n O zd_R_newestBlockBefore_69 rfl 4 rfl ?_
            refine z_iload O zd_R_newestBlockBefore_70 3 rfl ?_
            refine z_callri O hl0 (st := []) 6 1 (fs := zo6 w σ) rfl rfl (c_R_blockFrom l w σ r5 ko.1) zl_R_76 zm239 zms2 rfl rfl (Nat.le_of_ble_eq_true rfl) (Nat.le_of_ble_eq_true rfl) (Nat.le_of_ble_eq_true rfl) zd_R_newestBlockBefore_72 (fun r15 e16 => ?_)
            have ht := ht.trans (zlet_e e16)
            have ko := ko.2 r15 e16
            refine z_istore O (lv' := [(4, .int r15), (3, .int x4), (2, .int r7), (7, .int r7), (6, .int r5), (0, .ref (zq w 6)), (1, .int x1), (5, .int x5)]) zd_R_newestBlockBefore_75 (Nat.le_of_ble_eq_true rfl) rfl ?_
            refine z_iinc O (v := (x5 + 1)) (lv' := [(5, .int (x5 + 1)), (4, .int r15), (3, .int x4), (2, .int r7), (7, .int r7), (6, .int r5), (0, .ref (zq w 6)), (1, .int x1)]) zd_R_newestBlockBefore_77 7 rfl rfl (Nat.le_of_ble_eq_true rfl) rfl ?_
            refine z_goto O (tgt := 17) zd_R_newestBlockBefore_80 (by decide) ?_
            refine z_sub (lv' := [(0, .ref (zq w 6)), (1, .int x1), (2, .int r7), (3, .int x4), (4, .int r15), (5, .int (x5 + 1))]) [6, 7, 3, 2, 1, 0] rfl ?_
            exact ih r7 x4 r15 (x5 + 1) ko (fun r e => kk r (e.trans ht.symm))
set_option maxHeartbeats 4000000 in
set_option maxRecDepth 100000 in
theorem c_R_newestBlockBefore (l : Launch) (w : zWd) (σ : zSt) (a1 : Int32) (ko : k_R_newestBlockBefore σ a1) : zMi l ({ cls := "SluiceStream$Receiver", name := "newestBlockBefore", desc := "(I)I" } : Jvm.MethodName) prog_3_method_7_code 8 3 67 .int w [.ref (zq w 6), .int a1] σ (fun r u => r = (f_R_newestBlockBefore σ a1) ∧ u = σ) := by
  refine zMi_of (by decide +kernel) (Nat.le_of_ble_eq_true rfl) ?_
  intro K O hl0 E
  have ht : (f_R_newestBlockBefore σ a1) = (f_R_newestBlockBefore σ a1) := rfl
  refine z_sub (lv' := [(0, .ref (zq w 6)), (1, .int a1)]) [0, 1] rfl ?_
  refine z_iconst O (v := 0) zd_R_newestBlockBefore_0 (by decide) ?_
  refine z_istore_n O (lv' := [(2, .int 0), (0, .ref (zq w 6)), (1, .int a1)]) zd_R_newestBlockBefore_1 rfl (Nat.le_of_ble_eq_true rfl) rfl ?_
  refine z_iconst O (v := (-1)) zd_R_newestBlockBefore_2 (by decide) ?_
  refine z_istore_n O (lv' := [(3, .int (-1)), (2, .int 0), (0, .ref (zq w 6)), (1, .int a1)]) zd_R_newestBlockBefore_3 rfl (Nat.le_of_ble_eq_true rfl) rfl ?_
  refine z_aload_n O zd_R_newestBlockBefore_4 rfl 2 rfl ?_
  refine z_aload_n O zd_R_newestBlockBefore_5 rfl 2 rfl ?_
  refine zg_R_22_6 O zd_R_newestBlockBefore_6 (v := .int (σ 6 2)) rfl ?_
  refine z_callri O hl0 (st := []) 6 1 (fs := zo6 w σ) rfl rfl (c_R_blockFrom l w σ (σ 6 2) ko.1) zl_R_76 zm239 zms2 rfl rfl (Nat.le_of_ble_eq_true rfl) (Nat.le_of_ble_eq_true rfl) (Nat.le_of_ble_eq_true rfl) zd_R_newestBlockBefore_9 (fun r1 e2 => ?_)
  have ht := ht.trans (zlet_e e2)
  have ko := ko.2 r1 e2
  refine z_istore O (lv' := [(4, .int r1), (3, .int (-1)), (2, .int 0), (0, .ref (zq w 6)), (1, .int a1)]) zd_R_newestBlockBefore_12 (Nat.le_of_ble_eq_true rfl) rfl ?_
  refine z_iconst O (v := 0) zd_R_newestBlockBefore_14 (by decide) ?_
  refine z_istore O (lv' := [(5, .int 0), (4, .int r1), (3, .int (-1)), (2, .int 0), (0, .ref (zq w 6)), (1, .int a1)]) zd_R_newestBlockBefore_15 (Nat.le_of_ble_eq_true rfl) rfl ?_
  refine z_sub (lv' := [(0, .ref (zq w 6)), (1, .int a1), (2, .int 0), (3, .int (-1)), (4, .int r1), (5, .int 0)]) [4, 5, 3, 2, 1, 0] rfl ?_
  refine L_R_newestBlockBefore_17 O hl0 σ a1 (((32 : Int32).toInt - (0 : Int32).toInt).toNat + 2) 0 (-1) r1 0 ko (fun r17 er17 => ?_)
  have ht := ht.trans (zlet_e er17)
  refine z_iload_n O zd_R_newestBlockBefore_83 rfl 0 rfl ?_
  exact E _ _ _ _ zd_R_newestBlockBefore_84 rfl ⟨ht.symm, rfl⟩
set_option maxHeartbeats 4000000 in
set_option maxRecDepth 100000 in
theorem L_R_tellBlocks_13 {K : zCx} {w : zWd} {l : Launch} (O : zOk K w prog_3_method_6_code "SluiceStream$Receiver" 8 4 94) (hl0 : kl K = l) (x2 : Int32) : ∀ (m : Nat) (σ : zSt) (x3 x4 x5 : Int32), kl_R_tellBlocks_13 x2 m σ x3 x4 x5 → (∀ r, r = (l_R_tellBlocks_13 x2 m σ x3 x4 x5) → Z K w r.2 [(3, .int r.1)] [] 91) → Z K w σ [(0, .ref (zq w 6)), (1, .ref (zq w 11)), (2, .int x2), (3, .int x3), (4, .int x4), (5, .int x5)] [] 13 := by
  intro m
  induction m with
  | zero => intro σ x3 x4 x5 ko; exact ko.elim
  | succ m ih =>
    intro σ x3 x4 x5 ko kk
    have ht : l_R_tellBlocks_13 x2 (m + 1) σ x3 x4 x5 = l_R_tellBlocks_13 x2 (m + 1) σ x3 x4 x5 := rfl
    refine z_iload O zd_R_tellBlocks_13 5 rfl ?_
    refine z_iconst O (v := 3) zd_R_tellBlocks_15 (by decide) ?_
    refine z_icmp_ge O (tgt := 91) zd_R_tellBlocks_16 (by decide) (fun c1 => ?_) (fun c1 => ?_)
    · have ht := ht.trans (if_pos c1)
      refine z_sub (lv' := [(3, .int x3)]) [3] rfl ?_
      exact kk (x3, σ) ht.symm
    · have ht := ht.trans (if_neg c1)
      have ko := ko c1
      refine z_aload_n O zd_R_tellBlocks_19 rfl 0 rfl ?_
      refine z_iload O zd_R_tellBlocks_20 4 rfl ?_
      refine z_callri O hl0 (st := []) 6 1 (fs := zo6 w σ) rfl rfl (c_R_newestBlockBefore l w σ x4 ko.1) zl_R_66 zm235 zms1 rfl rfl (Nat.le_of_ble_eq_true rfl) (Nat.le_of_ble_eq_true rfl) (Nat.le_of_ble_eq_true rfl) zd_R_tellBlocks_22 (fun r2 e3 => ?_)
      have ht := ht.trans (zlet_e e3)
      have ko := ko.2 r2 e3
      refine z_istore O (lv' := [(6, .int r2), (0, .ref (zq w 6)), (1, .ref (zq w 11)), (2, .int x2), (3, .int x3), (4, .int x4), (5, .int x5)]) zd_R_tellBlocks_25 (Nat.le_of_ble_eq_true rfl) rfl ?_
      refine z_iload O zd_R_tellBlocks_27 0 rfl ?_
      refine z_iconst O (v := (-1)) zd_R_tellBlocks_29 (by decide) ?_
      refine z_icmp_eq O (tgt := 85) zd_R_tellBlocks_30 (by decide) (fun c4 => ?_) (fun c4 => ?_)
      · have ht := ht.trans (if_pos c4)
        have ko := ko.1 c4
        refine z_iinc O (v := (x5 + 1)) (lv' := [(5, .int (x5 + 1)), (6, .int r2), (0, .ref (zq w 6)), (1, .ref (zq w 11)), (2, .int x2), (3, .int x3), (4, .int x4)]) zd_R_tellBlocks_85 6 rfl rfl (Nat.le_of_ble_eq_true rfl) rfl ?_
        refine z_goto O (tgt := 13) zd_R_tellBlocks_88 (by decide) ?_
        refine z_sub (lv' := [(0, .ref (zq w 6)), (1, .ref (zq w 11)), (2, .int x2), (3, .int x3), (4, .int x4), (5, .int (x5 + 1))]) [2, 3, 4, 5, 6, 0] rfl ?_
        exact ih σ x3 x4 (x5 + 1) ko (fun r e => kk r (e.trans ht.symm))
      · have ht := ht.trans (if_neg c4)
        have ko := ko.2 c4
        refine z_aload_n O zd_R_tellBlocks_33 rfl 1 rfl ?_
        refine z_iload O zd_R_tellBlocks_34 0 rfl ?_
        refine z_callri O hl0 (st := []) 6 1 (fs := zo6 w σ) rfl rfl (c_R_endOfRun l w σ r2 ko.1) zl_R_70 zm250 zm251 rfl rfl (Nat.le_of_ble_eq_true rfl) (Nat.le_of_ble_eq_true rfl) (Nat.le_of_ble_eq_true rfl) zd_R_tellBlocks_36 (fun r5 e6 => ?_)
        have ht := ht.trans (zlet_e e6)
        have ko := ko.2 r5 e6
        refine z_istore O (lv' := [(7, .int r5), (6, .int r2), (0, .ref (zq w 6)), (1, .ref (zq w 11)), (2, .int x2), (3, .int x3), (4, .int x4), (5, .int x5)]) zd_R_tellBlocks_39 (Nat.le_of_ble_eq_true rfl) rfl ?_
        refine z_aload_n O zd_R_tellBlocks_41 rfl 3 rfl ?_
        refine z_iload_n O zd_R_tellBlocks_42 rfl 4 rfl ?_
        refine z_iconst O (v := 3) zd_R_tellBlocks_43 (by decide) ?_
        refine z_iconst O (v := 2) zd_R_tellBlocks_44 (by decide) ?_
        refine z_iload O zd_R_tellBlocks_45 7 rfl ?_
        refine z_imul O zd_R_tellBlocks_47 ?_
        refine z_iadd O zd_R_tellBlocks_48 ?_
        refine z_iload O zd_R_tellBlocks_49 1 rfl ?_
        refine z_callv O hl0 (st := []) 11 2 (fs := zo11 w σ) rfl rfl (c_W_setCell_11 l w σ x2 (3 + (2 * x5)) r2 ko.1) zl_R_58 zm226 zm227 rfl rfl (Nat.le_of_ble_eq_true rfl) (Nat.le_of_ble_eq_true rfl) (Nat.le_of_ble_eq_true rfl) zd_R_tellBlocks_51 (fun u7 e8 => ?_)
        have ht := ht.trans (zlet_e e8)
        have ko := ko.2 u7 e8
        refine z_aload_n O zd_R_tellBlocks_54 rfl 3 rfl ?_
        refine z_iload_n O zd_R_tellBlocks_55 rfl 4 rfl ?_
        refine z_iconst O (v := 3) zd_R_tellBlocks_56 (by decide) ?_
        refine z_iconst O (v := 2) zd_R_tellBlocks_57 (by decide) ?_
        refine z_iload O zd_R_tellBlocks_58 7 rfl ?_
        refine z_imul O zd_R_tellBlocks_60 ?_
        refine z_iadd O zd_R_tellBlocks_61 ?_
        refine z_iconst O (v := 1) zd_R_tellBlocks_62 (by decide) ?_
        refine z_iadd O zd_R_tellBlocks_63 ?_
        refine z_iload O zd_R_tellBlocks_64 0 rfl ?_
        refine z_callv O hl0 (st := []) 11 2 (fs := zo11 w u7) rfl rfl (c_W_setCell_11 l w u7 x2 ((3 + (2 * x5)) + 1) r5 ko.1) zl_R_58 zm226 zm227 rfl rfl (Nat.le_of_ble_eq_true rfl) (Nat.le_of_ble_eq_true rfl) (Nat.le_of_ble_eq_true rfl) zd_R_tellBlocks_66 (fun u9 e10 => ?_)
        have ht := ht.trans (zlet_e e10)
        have ko := ko.2 u9 e10
        refine z_aload_n O zd_R_tellBlocks_69 rfl 2 rfl ?_
        refine zg_R_12_6 O zd_R_tellBlocks_70 (v := .ref (zq w 7)) rfl ?_
        refine z_iload O zd_R_tellBlocks_73 1 rfl ?_
        refine z_iload O zd_R_tellBlocks_75 0 rfl ?_
        refine z_callri O hl0 (st := []) 7 0 (fs := zo7 w u9) rfl rfl (c_P_greatest_7 l w u9 r2 r5 ko.1) zl_R_73 zm258 zm259 rfl rfl (Nat.le_of_ble_eq_true rfl) (Nat.le_of_ble_eq_true rfl) (Nat.le_of_ble_eq_true rfl) zd_R_tellBlocks_77 (fun r11 e12 => ?_)
        have ht := ht.trans (zlet_e e12)
        have ko := ko.2 r11 e12
        refine z_istore O (lv' := [(4, .int r11), (7, .int r5), (6, .int r2), (0, .ref (zq w 6)), (1, .ref (zq w 11)), (2, .int x2), (3, .int x3), (5, .int x5)]) zd_R_tellBlocks_80 (Nat.le_of_ble_eq_true rfl) rfl ?_
        refine z_iinc O (v := (x3 + 1)) (lv' := [(3, .int (x3 + 1)), (4, .int r11), (7, .int r5), (6, .int r2), (0, .ref (zq w 6)), (1, .ref (zq w 11)), (2, .int x2), (5, .int x5)]) zd_R_tellBlocks_82 6 rfl rfl (Nat.le_of_ble_eq_true rfl) rfl ?_
        refine z_iinc O (v := (x5 + 1)) (lv' := [(5, .int (x5 + 1)), (3, .int (x3 + 1)), (4, .int r11), (7, .int r5), (6, .int r2), (0, .ref (zq w 6)), (1, .ref (zq w 11)), (2, .int x2)]) zd_R_tellBlocks_85 7 rfl rfl (Nat.le_of_ble_eq_true rfl) rfl ?_
        refine z_goto O (tgt := 13) zd_R_tellBlocks_88 (by decide) ?_
        refine z_sub (lv' := [(0, .ref (zq w 6)), (1, .ref (zq w 11)), (2, .int x2), (3, .int (x3 + 1)), (4, .int r11), (5, .int (x5 + 1))]) [5, 6, 7, 1, 2, 0] rfl ?_
        exact ih u9 (x3 + 1) r11 (x5 + 1) ko (fun r e => kk r (e.trans ht.symm))
set_option maxHeartbeats 4000000 in
set_option maxRecDepth 100000 in
theorem c_R_tellBlocks (l : Launch) (w : zWd) (σ : zSt) (a2 : Int32) (ko : k_R_tellBlocks σ a2) : zMi l ({ cls := "SluiceStream$Receiver", name := "tellBlocks", desc := "(LSluiceStream$Rows;I)I" } : Jvm.MethodName) prog_3_method_6_code 8 4 94 .int w [.ref (zq w 6), .ref (zq w 11), .int a2] σ (fun r u => (r, u) = (f_R_tellBlocks σ a2)) := by
  refine zMi_of (by decide +kernel) (Nat.le_of_ble_eq_true rfl) ?_
  intro K O hl0 E
  have ht : (f_R_tellBlocks σ a2) = (f_R_tellBlocks σ a2) := rfl
  refine z_sub (lv' := [(0, .ref (zq w 6)), (1, .ref (zq w 11)), (2, .int a2)]) [0, 1, 2] rfl ?_
  refine z_iconst O (v := 0) zd_R_tellBlocks_0 (by decide) ?_
  refine z_istore_n O (lv' := [(3, .int 0), (0, .ref (zq w 6)), (1, .ref (zq w 11)), (2, .int a2)]) zd_R_tellBlocks_1 rfl (Nat.le_of_ble_eq_true rfl) rfl ?_
  refine z_aload_n O zd_R_tellBlocks_2 rfl 1 rfl ?_
  refine zg_R_18_6 O zd_R_tellBlocks_3 (v := .int (σ 6 1)) rfl ?_
  refine z_iconst O (v := 1) zd_R_tellBlocks_6 (by decide) ?_
  refine z_iadd O zd_R_tellBlocks_7 ?_
  refine z_istore O (lv' := [(4, .int ((σ 6 1) + 1)), (3, .int 0), (0, .ref (zq w 6)), (1, .ref (zq w 11)), (2, .int a2)]) zd_R_tellBlocks_8 (Nat.le_of_ble_eq_true rfl) rfl ?_
  refine z_iconst O (v := 0) zd_R_tellBlocks_10 (by decide) ?_
  refine z_istore O (lv' := [(5, .int 0), (4, .int ((σ 6 1) + 1)), (3, .int 0), (0, .ref (zq w 6)), (1, .ref (zq w 11)), (2, .int a2)]) zd_R_tellBlocks_11 (Nat.le_of_ble_eq_true rfl) rfl ?_
  refine z_sub (lv' := [(0, .ref (zq w 6)), (1, .ref (zq w 11)), (2, .int a2), (3, .int 0), (4, .int ((σ 6 1) + 1)), (5, .int 0)]) [3, 4, 5, 2, 1, 0] rfl ?_
  refine L_R_tellBlocks_13 O hl0 a2 (((3 : Int32).toInt - (0 : Int32).toInt).toNat + 2) σ 0 ((σ 6 1) + 1) 0 ko (fun r13 er13 => ?_)
  have ht := ht.trans (zlet_e er13)
  refine z_iload_n O zd_R_tellBlocks_91 rfl 0 rfl ?_
  exact E _ _ _ _ zd_R_tellBlocks_92 rfl ht.symm
set_option maxHeartbeats 4000000 in
set_option maxRecDepth 100000 in
theorem c_R_makeAck (l : Launch) (w : zWd) (σ : zSt) (ko : k_R_makeAck σ) : zMv l ({ cls := "SluiceStream$Receiver", name := "makeAck", desc := "(LSluiceStream$Rows;)V" } : Jvm.MethodName) prog_3_method_5_code 3 5 121 w [.ref (zq w 6), .ref (zq w 11)] σ (fun u => u = (f_R_makeAck σ)) := by
  refine zMv_of (by decide +kernel) (Nat.le_of_ble_eq_true rfl) ?_
  intro K O hl0 E
  have ht : (f_R_makeAck σ) = (f_R_makeAck σ) := rfl
  refine z_sub (lv' := [(0, .ref (zq w 6)), (1, .ref (zq w 11))]) [0, 1] rfl ?_
  refine z_aload_n O zd_R_makeAck_0 rfl 1 rfl ?_
  refine z_callri O hl0 (st := []) 11 2 (fs := zo11 w σ) rfl rfl (c_W_isFull_11 l w σ) zl_R_45 zm210 zm211 rfl rfl (Nat.le_of_ble_eq_true rfl) (Nat.le_of_ble_eq_true rfl) (Nat.le_of_ble_eq_true rfl) zd_R_makeAck_1 (fun r1 e2 => ?_)
  have ht := ht.trans (zlet_e e2)
  have ko := ko r1 e2
  refine z_if_eq O (tgt := 12) zd_R_makeAck_4 (by decide) (fun c3 => ?_) (fun c3 => ?_)
  · have ht := ht.trans (if_pos c3)
    have ko := ko.1 c3
    refine z_aload_n O zd_R_makeAck_12 rfl 1 rfl ?_
    refine z_calli O hl0 (st := []) 11 2 (fs := zo11 w σ) rfl rfl (c_W_addRow_11 l w σ) zl_R_55 zm222 zm223 rfl rfl (Nat.le_of_ble_eq_true rfl) (Nat.le_of_ble_eq_true rfl) (Nat.le_of_ble_eq_true rfl) zd_R_makeAck_13 (fun r4 u5 e6 => ?_)
    have ht := ht.trans (zseq_e e6)
    have ko := ko r4 u5 e6
    refine z_istore_n O (lv' := [(2, .int r4), (0, .ref (zq w 6)), (1, .ref (zq w 11))]) zd_R_makeAck_16 rfl (Nat.le_of_ble_eq_true rfl) rfl ?_
    refine z_aload_n O zd_R_makeAck_17 rfl 2 rfl ?_
    refine z_iload_n O zd_R_makeAck_18 rfl 0 rfl ?_
    refine z_iconst O (v := 0) zd_R_makeAck_19 (by decide) ?_
    refine z_aload_n O zd_R_makeAck_20 rfl 1 rfl ?_
    refine zg_R_22_6 O zd_R_makeAck_21 (v := .int (u5 6 2)) rfl ?_
    refine z_callv O hl0 (st := []) 11 2 (fs := zo11 w u5) rfl rfl (c_W_setCell_11 l w u5 r4 0 (u5 6 2) ko.1) zl_R_58 zm226 zm227 rfl rfl (Nat.le_of_ble_eq_true rfl) (Nat.le_of_ble_eq_true rfl) (Nat.le_of_ble_eq_true rfl) zd_R_makeAck_24 (fun u7 e8 => ?_)
    have ht := ht.trans (zlet_e e8)
    have ko := ko.2 u7 e8
    refine z_aload_n O zd_R_makeAck_27 rfl 2 rfl ?_
    refine z_iload_n O zd_R_makeAck_28 rfl 0 rfl ?_
    refine z_iconst O (v := 1) zd_R_makeAck_29 (by decide) ?_
    refine z_aload_n O zd_R_makeAck_30 rfl 1 rfl ?_
    refine z_callri O hl0 (st := [.int 1, .int r4, .ref (zq w 11)]) 6 1 (fs := zo6 w u7) rfl rfl (c_R_room l w u7) zl_R_41 zm202 zm203 rfl rfl (Nat.le_of_ble_eq_true rfl) (Nat.le_of_ble_eq_true rfl) (Nat.le_of_ble_eq_true rfl) zd_R_makeAck_31 (fun r9 e10 => ?_)
    have ht := ht.trans (zlet_e e10)
    have ko := ko r9 e10
    refine z_callv O hl0 (st := []) 11 2 (fs := zo11 w u7) rfl rfl (c_W_setCell_11 l w u7 r4 1 r9 ko.1) zl_R_58 zm226 zm227 rfl rfl (Nat.le_of_ble_eq_true rfl) (Nat.le_of_ble_eq_true rfl) (Nat.le_of_ble_eq_true rfl) zd_R_makeAck_34 (fun u11 e12 => ?_)
    have ht := ht.trans (zlet_e e12)
    have ko := ko.2 u11 e12
    refine z_aload_n O zd_R_makeAck_37 rfl 2 rfl ?_
    refine z_iload_n O zd_R_makeAck_38 rfl 0 rfl ?_
    refine z_iconst O (v := 2) zd_R_makeAck_39 (by decide) ?_
    refine z_aload_n O zd_R_makeAck_40 rfl 1 rfl ?_
    refine z_aload_n O zd_R_makeAck_41 rfl 2 rfl ?_
    refine z_iload_n O zd_R_makeAck_42 rfl 0 rfl ?_
    refine z_calli O hl0 (st := [.int 2, .int r4, .ref (zq w 11)]) 6 1 (fs := zo6 w u11) rfl rfl (c_R_tellBlocks l w u11 r4 ko.1) zl_R_62 zm231 zms0 rfl rfl (Nat.le_of_ble_eq_true rfl) (Nat.le_of_ble_eq_true rfl) (Nat.le_of_ble_eq_true rfl) zd_R_makeAck_43 (fun r13 u14 e15 => ?_)
    have ht := ht.trans (zseq_e e15)
    have ko := ko.2 r13 u14 e15
    refine z_callv O hl0 (st := []) 11 2 (fs := zo11 w u14) rfl rfl (c_W_setCell_11 l w u14 r4 2 r13 ko) zl_R_58 zm226 zm227 rfl rfl (Nat.le_of_ble_eq_true rfl) (Nat.le_of_ble_eq_true rfl) (Nat.le_of_ble_eq_true rfl) zd_R_makeAck_46 (fun u16 e17 => ?_)
    have ht := ht.trans (zlet_e e17)
    exact E _ _ _ zd_R_makeAck_49 ht.symm
  · have ht := ht.trans (if_neg c3)
    have ko := ko.2 c3
    refine z_aload_n O zd_R_makeAck_7 rfl 1 rfl ?_
    refine z_iconst O (v := 0) zd_R_makeAck_8 (by decide) ?_
    refine z_callv O hl0 (st := []) 11 2 (fs := zo11 w σ) rfl rfl (c_W_remove_11 l w σ 0 ko.1) zl_R_51 zm214 zm215 rfl rfl (Nat.le_of_ble_eq_true rfl) (Nat.le_of_ble_eq_true rfl) (Nat.le_of_ble_eq_true rfl) zd_R_makeAck_9 (fun u18 e19 => ?_)
    have ht := ht.trans (zlet_e e19)
    have ko := ko.2 u18 e19
    refine z_aload_n O zd_R_makeAck_12 rfl 1 rfl ?_
    refine z_calli O hl0 (st := []) 11 2 (fs := zo11 w u18) rfl rfl (c_W_addRow_11 l w u18) zl_R_55 zm222 zm223 rfl rfl (Nat.le_of_ble_eq_true rfl) (Nat.le_of_ble_eq_true rfl) (Nat.le_of_ble_eq_true rfl) zd_R_makeAck_13 (fun r20 u21 e22 => ?_)
    have ht := ht.trans (zseq_e e22)
    have ko := ko r20 u21 e22
    refine z_istore_n O (lv' := [(2, .int r20), (0, .ref (zq w 6)), (1, .ref (zq w 11))]) zd_R_makeAck_16 rfl (Nat.le_of_ble_eq_true rfl) rfl ?_
    refine z_aload_n O zd_R_makeAck_17 rfl 2 rfl ?_
    refine z_iload_n O zd_R_makeAck_18 rfl 0 rfl ?_
    refine z_iconst O (v := 0) zd_R_makeAck_19 (by decide) ?_
    refine z_aload_n O zd_R_makeAck_20 rfl 1 rfl ?_
    refine zg_R_22_6 O zd_R_makeAck_21 (v := .int (u21 6 2)) rfl ?_
    refine z_callv O hl0 (st := []) 11 2 (fs := zo11 w u21) rfl rfl (c_W_setCell_11 l w u21 r20 0 (u21 6 2) ko.1) zl_R_58 zm226 zm227 rfl rfl (Nat.le_of_ble_eq_true rfl) (Nat.le_of_ble_eq_true rfl) (Nat.le_of_ble_eq_true rfl) zd_R_makeAck_24 (fun u23 e24 => ?_)
    have ht := ht.trans (zlet_e e24)
    have ko := ko.2 u23 e24
    refine z_aload_n O zd_R_makeAck_27 rfl 2 rfl ?_
    refine z_iload_n O zd_R_makeAck_28 rfl 0 rfl ?_
    refine z_iconst O (v := 1) zd_R_makeAck_29 (by decide) ?_
    refine z_aload_n O zd_R_makeAck_30 rfl 1 rfl ?_
    refine z_callri O hl0 (st := [.int 1, .int r20, .ref (zq w 11)]) 6 1 (fs := zo6 w u23) rfl rfl (c_R_room l w u23) zl_R_41 zm202 zm203 rfl rfl (Nat.le_of_ble_eq_true rfl) (Nat.le_of_ble_eq_true rfl) (Nat.le_of_ble_eq_true rfl) zd_R_makeAck_31 (fun r25 e26 => ?_)
    have ht := ht.trans (zlet_e e26)
    have ko := ko r25 e26
    refine z_callv O hl0 (st := []) 11 2 (fs := zo11 w u23) rfl rfl (c_W_setCell_11 l w u23 r20 1 r25 ko.1) zl_R_58 zm226 zm227 rfl rfl (Nat.le_of_ble_eq_true rfl) (Nat.le_of_ble_eq_true rfl) (Nat.le_of_ble_eq_true rfl) zd_R_makeAck_34 (fun u27 e28 => ?_)
    have ht := ht.trans (zlet_e e28)
    have ko := ko.2 u27 e28
    refine z_aload_n O zd_R_makeAck_37 rfl 2 rfl ?_
    refine z_iload_n O zd_R_makeAck_38 rfl 0 rfl ?_
    refine z_iconst O (v := 2) zd_R_makeAck_39 (by decide) ?_
    refine z_aload_n O zd_R_makeAck_40 rfl 1 rfl ?_
    refine z_aload_n O zd_R_makeAck_41 rfl 2 rfl ?_
    refine z_iload_n O zd_R_makeAck_42 rfl 0 rfl ?_
    refine z_calli O hl0 (st := [.int 2, .int r20, .ref (zq w 11)]) 6 1 (fs := zo6 w u27) rfl rfl (c_R_tellBlocks l w u27 r20 ko.1) zl_R_62 zm231 zms0 rfl rfl (Nat.le_of_ble_eq_true rfl) (Nat.le_of_ble_eq_true rfl) (Nat.le_of_ble_eq_true rfl) zd_R_makeAck_43 (fun r29 u30 e31 => ?_)
    have ht := ht.trans (zseq_e e31)
    have ko := ko.2 r29 u30 e31
    refine z_callv O hl0 (st := []) 11 2 (fs := zo11 w u30) rfl rfl (c_W_setCell_11 l w u30 r20 2 r29 ko) zl_R_58 zm226 zm227 rfl rfl (Nat.le_of_ble_eq_true rfl) (Nat.le_of_ble_eq_true rfl) (Nat.le_of_ble_eq_true rfl) zd_R_makeAck_46 (fun u32 e33 => ?_)
    have ht := ht.trans (zlet_e e33)
    exact E _ _ _ zd_R_makeAck_49 ht.symm
set_option maxHeartbeats 4000000 in
set_option maxRecDepth 100000 in
theorem L_R_countBlocks_13 {K : zCx} {w : zWd} {l : Launch} (O : zOk K w prog_3_method_8_code "SluiceStream$Receiver" 4 3 67) (hl0 : kl K = l) (σ : zSt) : ∀ (m : Nat) (x1 x2 x3 : Int32), kl_R_countBlocks_13 σ  m x1 x2 x3 → (∀ r, r = (l_R_countBlocks_13 σ  m x1 x2 x3) → Z K w σ [(1, .int r)] [] 43) → Z K w σ [(0, .ref (zq w 6)), (1, .int x1), (2, .int x2), (3, .int x3)] [] 13 := by
  intro m
  induction m with
  | zero => intro x1 x2 x3 ko; exact ko.elim
  | succ m ih =>
    intro x1 x2 x3 ko kk
    have ht : l_R_countBlocks_13 σ  (m + 1) x1 x2 x3 = l_R_countBlocks_13 σ  (m + 1) x1 x2 x3 := rfl
    refine z_iload_n O zd_R_countBlocks_13 rfl 3 rfl ?_
    refine z_bipush O (v := 32) zd_R_countBlocks_14 (by decide) ?_
    refine z_icmp_ge O (tgt := 43) zd_R_countBlocks_16 (by decide) (fun c3 => ?_) (fun c3 => ?_)
    · have ht := ht.trans (if_pos c3)
      refine z_sub (lv' := [(1, .int x1)]) [1] rfl ?_
      exact kk x1 ht.symm
    · have ht := ht.trans (if_neg c3)
      have ko := ko c3
      refine z_iload_n O zd_R_countBlocks_19 rfl 2 rfl ?_
      refine z_iconst O (v := (-1)) zd_R_countBlocks_20 (by decide) ?_
      refine z_icmp_eq O (tgt := 43) zd_R_countBlocks_21 (by decide) (fun c4 => ?_) (fun c4 => ?_)
      · have ht := ht.trans (if_pos c4)
        refine z_sub (lv' := [(1, .int x1)]) [1] rfl ?_
        exact kk x1 ht.symm
      · have ht := ht.trans (if_neg c4)
        have ko := ko c4
        refine z_iinc O (v := (x1 + 1)) (lv' := [(1, .int (x1 + 1)), (0, .ref (zq w 6)), (2, .int x2), (3, .int x3)]) zd_R_countBlocks_24 1 rfl rfl (Nat.le_of_ble_eq_true rfl) rfl ?_
        refine z_aload_n O zd_R_countBlocks_27 rfl 1 rfl ?_
        refine z_aload_n O zd_R_countBlocks_28 rfl 1 rfl ?_
        refine z_iload_n O zd_R_countBlocks_29 rfl 2 rfl ?_
        refine z_callri O hl0 (st := [.ref (zq w 6)]) 6 1 (fs := zo6 w σ) rfl rfl (c_R_endOfRun l w σ x2 ko.1) zl_R_70 zm250 zm251 rfl rfl (Nat.le_of_ble_eq_true rfl) (Nat.le_of_ble_eq_true rfl) (Nat.le_of_ble_eq_true rfl) zd_R_countBlocks_30 (fun r5 e6 => ?_)
        have ht := ht.trans (zlet_e e6)
        have ko := ko.2 r5 e6
        refine z_callri O hl0 (st := []) 6 1 (fs := zo6 w σ) rfl rfl (c_R_blockFrom l w σ r5 ko.1) zl_R_76 zm239 zms2 rfl rfl (Nat.le_of_ble_eq_true rfl) (Nat.le_of_ble_eq_true rfl) (Nat.le_of_ble_eq_true rfl) zd_R_countBlocks_33 (fun r7 e8 => ?_)
        have ht := ht.trans (zlet_e e8)
        have ko := ko.2 r7 e8
        refine z_istore_n O (lv' := [(2, .int r7), (1, .int (x1 + 1)), (0, .ref (zq w 6)), (3, .int x3)]) zd_R_countBlocks_36 rfl (Nat.le_of_ble_eq_true rfl) rfl ?_
        refine z_iinc O (v := (x3 + 1)) (lv' := [(3, .int (x3 + 1)), (2, .int r7), (1, .int (x1 + 1)), (0, .ref (zq w 6))]) zd_R_countBlocks_37 3 rfl rfl (Nat.le_of_ble_eq_true rfl) rfl ?_
        refine z_goto O (tgt := 13) zd_R_countBlocks_40 (by decide) ?_
        refine z_sub (lv' := [(0, .ref (zq w 6)), (1, .int (x1 + 1)), (2, .int r7), (3, .int (x3 + 1))]) [3, 2, 1, 0] rfl ?_
        exact ih (x1 + 1) r7 (x3 + 1) ko (fun r e => kk r (e.trans ht.symm))
set_option maxHeartbeats 4000000 in
set_option maxRecDepth 100000 in
theorem c_R_countBlocks (l : Launch) (w : zWd) (σ : zSt) (ko : k_R_countBlocks σ) : zMi l ({ cls := "SluiceStream$Receiver", name := "countBlocks", desc := "()I" } : Jvm.MethodName) prog_3_method_8_code 4 3 67 .int w [.ref (zq w 6)] σ (fun r u => r = (f_R_countBlocks σ) ∧ u = σ) := by
  refine zMi_of (by decide +kernel) (Nat.le_of_ble_eq_true rfl) ?_
  intro K O hl0 E
  have ht : (f_R_countBlocks σ) = (f_R_countBlocks σ) := rfl
  refine z_sub (lv' := [(0, .ref (zq w 6))]) [0] rfl ?_
  refine z_iconst O (v := 0) zd_R_countBlocks_0 (by decide) ?_
  refine z_istore_n O (lv' := [(1, .int 0), (0, .ref (zq w 6))]) zd_R_countBlocks_1 rfl (Nat.le_of_ble_eq_true rfl) rfl ?_
  refine z_aload_n O zd_R_countBlocks_2 rfl 1 rfl ?_
  refine z_aload_n O zd_R_countBlocks_3 rfl 1 rfl ?_
  refine zg_R_22_6 O zd_R_countBlocks_4 (v := .int (σ 6 2)) rfl ?_
  refine z_callri O hl0 (st := []) 6 1 (fs := zo6 w σ) rfl rfl (c_R_blockFrom l w σ (σ 6 2) ko.1) zl_R_76 zm239 zms2 rfl rfl (Nat.le_of_ble_eq_true rfl) (Nat.le_of_ble_eq_true rfl) (Nat.le_of_ble_eq_true rfl) zd_R_countBlocks_7 (fun r1 e2 => ?_)
  have ht := ht.trans (zlet_e e2)
  have ko := ko.2 r1 e2
  refine z_istore_n O (lv' := [(2, .int r1), (1, .int 0), (0, .ref (zq w 6))]) zd_R_countBlocks_10 rfl (Nat.le_of_ble_eq_true rfl) rfl ?_
  refine z_iconst O (v := 0) zd_R_countBlocks_11 (by decide) ?_
  refine z_istore_n O (lv' := [(3, .int 0), (2, .int r1), (1, .int 0), (0, .ref (zq w 6))]) zd_R_countBlocks_12 rfl (Nat.le_of_ble_eq_true rfl) rfl ?_
  refine z_sub (lv' := [(0, .ref (zq w 6)), (1, .int 0), (2, .int r1), (3, .int 0)]) [3, 2, 1, 0] rfl ?_
  refine L_R_countBlocks_13 O hl0 σ (((32 : Int32).toInt - (0 : Int32).toInt).toNat + 2) 0 r1 0 ko (fun r9 er9 => ?_)
  have ht := ht.trans (zlet_e er9)
  refine z_iload_n O zd_R_countBlocks_43 rfl 0 rfl ?_
  exact E _ _ _ _ zd_R_countBlocks_44 rfl ⟨ht.symm, rfl⟩
set_option maxHeartbeats 4000000 in
set_option maxRecDepth 100000 in
theorem L_R_startOfBlock_11 {K : zCx} {w : zWd} {l : Launch} (O : zOk K w prog_3_method_9_code "SluiceStream$Receiver" 4 3 67) (hl0 : kl K = l) (σ : zSt) (x1 : Int32) : ∀ (m : Nat) (x2 x3 : Int32), kl_R_startOfBlock_11 σ x1 m x2 x3 → (∀ r, r = (l_R_startOfBlock_11 σ x1 m x2 x3) → Z K w σ [(2, .int r)] [] 37) → Z K w σ [(0, .ref (zq w 6)), (1, .int x1), (2, .int x2), (3, .int x3)] [] 11 := by
  intro m
  induction m with
  | zero => intro x2 x3 ko; exact ko.elim
  | succ m ih =>
    intro x2 x3 ko kk
    have ht : l_R_startOfBlock_11 σ x1 (m + 1) x2 x3 = l_R_startOfBlock_11 σ x1 (m + 1) x2 x3 := rfl
    refine z_iload_n O zd_R_startOfBlock_11 rfl 3 rfl ?_
    refine z_iload_n O zd_R_startOfBlock_12 rfl 1 rfl ?_
    refine z_icmp_ge O (tgt := 37) zd_R_startOfBlock_13 (by decide) (fun c3 => ?_) (fun c3 => ?_)
    · have ht := ht.trans (if_pos c3)
      refine z_sub (lv' := [(2, .int x2)]) [2] rfl ?_
      exact kk x2 ht.symm
    · have ht := ht.trans (if_neg c3)
      have ko := ko c3
      refine z_iload_n O zd_R_startOfBlock_16 rfl 2 rfl ?_
      refine z_iconst O (v := (-1)) zd_R_startOfBlock_17 (by decide) ?_
      refine z_icmp_eq O (tgt := 37) zd_R_startOfBlock_18 (by decide) (fun c4 => ?_) (fun c4 => ?_)
      · have ht := ht.trans (if_pos c4)
        refine z_sub (lv' := [(2, .int x2)]) [2] rfl ?_
        exact kk x2 ht.symm
      · have ht := ht.trans (if_neg c4)
        have ko := ko c4
        refine z_aload_n O zd_R_startOfBlock_21 rfl 0 rfl ?_
        refine z_aload_n O zd_R_startOfBlock_22 rfl 0 rfl ?_
        refine z_iload_n O zd_R_startOfBlock_23 rfl 2 rfl ?_
        refine z_callri O hl0 (st := [.ref (zq w 6)]) 6 1 (fs := zo6 w σ) rfl rfl (c_R_endOfRun l w σ x2 ko.1) zl_R_70 zm250 zm251 rfl rfl (Nat.le_of_ble_eq_true rfl) (Nat.le_of_ble_eq_true rfl) (Nat.le_of_ble_eq_true rfl) zd_R_startOfBlock_24 (fun r5 e6 => ?_)
        have ht := ht.trans (zlet_e e6)
        have ko := ko.2 r5 e6
        refine z_callri O hl0 (st := []) 6 1 (fs := zo6 w σ) rfl rfl (c_R_blockFrom l w σ r5 ko.1) zl_R_76 zm239 zms2 rfl rfl (Nat.le_of_ble_eq_true rfl) (Nat.le_of_ble_eq_true rfl) (Nat.le_of_ble_eq_true rfl) zd_R_startOfBlock_27 (fun r7 e8 => ?_)
        have ht := ht.trans (zlet_e e8)
        have ko := ko.2 r7 e8
        refine z_istore_n O (lv' := [(2, .int r7), (0, .ref (zq w 6)), (1, .int x1), (3, .int x3)]) zd_R_startOfBlock_30 rfl (Nat.le_of_ble_eq_true rfl) rfl ?_
        refine z_iinc O (v := (x3 + 1)) (lv' := [(3, .int (x3 + 1)), (2, .int r7), (0, .ref (zq w 6)), (1, .int x1)]) zd_R_startOfBlock_31 3 rfl rfl (Nat.le_of_ble_eq_true rfl) rfl ?_
        refine z_goto O (tgt := 11) zd_R_startOfBlock_34 (by decide) ?_
        refine z_sub (lv' := [(0, .ref (zq w 6)), (1, .int x1), (2, .int r7), (3, .int (x3 + 1))]) [2, 3, 1, 0] rfl ?_
        exact ih r7 (x3 + 1) ko (fun r e => kk r (e.trans ht.symm))
set_option maxHeartbeats 4000000 in
set_option maxRecDepth 100000 in
theorem c_R_startOfBlock (l : Launch) (w : zWd) (σ : zSt) (a1 : Int32) (ko : k_R_startOfBlock σ a1) : zMi l ({ cls := "SluiceStream$Receiver", name := "startOfBlock", desc := "(I)I" } : Jvm.MethodName) prog_3_method_9_code 4 3 67 .int w [.ref (zq w 6), .int a1] σ (fun r u => r = (f_R_startOfBlock σ a1) ∧ u = σ) := by
  refine zMi_of (by decide +kernel) (Nat.le_of_ble_eq_true rfl) ?_
  intro K O hl0 E
  have ht : (f_R_startOfBlock σ a1) = (f_R_startOfBlock σ a1) := rfl
  refine z_sub (lv' := [(0, .ref (zq w 6)), (1, .int a1)]) [0, 1] rfl ?_
  refine z_aload_n O zd_R_startOfBlock_0 rfl 0 rfl ?_
  refine z_aload_n O zd_R_startOfBlock_1 rfl 0 rfl ?_
  refine zg_R_22_6 O zd_R_startOfBlock_2 (v := .int (σ 6 2)) rfl ?_
  refine z_callri O hl0 (st := []) 6 1 (fs := zo6 w σ) rfl rfl (c_R_blockFrom l w σ (σ 6 2) ko.1) zl_R_76 zm239 zms2 rfl rfl (Nat.le_of_ble_eq_true rfl) (Nat.le_of_ble_eq_true rfl) (Nat.le_of_ble_eq_true rfl) zd_R_startOfBlock_5 (fun r1 e2 => ?_)
  have ht := ht.trans (zlet_e e2)
  have ko := ko.2 r1 e2
  refine z_istore_n O (lv' := [(2, .int r1), (0, .ref (zq w 6)), (1, .int a1)]) zd_R_startOfBlock_8 rfl (Nat.le_of_ble_eq_true rfl) rfl ?_
  refine z_iconst O (v := 0) zd_R_startOfBlock_9 (by decide) ?_
  refine z_istore_n O (lv' := [(3, .int 0), (2, .int r1), (0, .ref (zq w 6)), (1, .int a1)]) zd_R_startOfBlock_10 rfl (Nat.le_of_ble_eq_true rfl) rfl ?_
  refine z_sub (lv' := [(0, .ref (zq w 6)), (1, .int a1), (2, .int r1), (3, .int 0)]) [2, 3, 1, 0] rfl ?_
  refine L_R_startOfBlock_11 O hl0 σ a1 (((a1).toInt - (0 : Int32).toInt).toNat + 2) r1 0 ko (fun r9 er9 => ?_)
  have ht := ht.trans (zlet_e er9)
  refine z_iload_n O zd_R_startOfBlock_37 rfl 0 rfl ?_
  exact E _ _ _ _ zd_R_startOfBlock_38 rfl ⟨ht.symm, rfl⟩
set_option maxHeartbeats 4000000 in
set_option maxRecDepth 100000 in
theorem c_W_cell_9 (l : Launch) (w : zWd) (σ : zSt) (a1 : Int32) (a2 : Int32) (ko : k_W_cell 9 σ a1 a2) : zMi l ({ cls := "SluiceStream$Rows", name := "cell", desc := "(II)I" } : Jvm.MethodName) prog_4_method_4_code 4 0 0 .int w [.ref (zq w 9), .int a1, .int a2] σ (fun r u => r = (f_W_cell 9 σ a1 a2) ∧ u = σ) := by
  refine zMi_of (by decide +kernel) (Nat.le_of_ble_eq_true rfl) ?_
  intro K O hl0 E
  have ht : (f_W_cell 9 σ a1 a2) = (f_W_cell 9 σ a1 a2) := rfl
  refine z_sub (lv' := [(0, .ref (zq w 9)), (1, .int a1), (2, .int a2)]) [0, 1, 2] rfl ?_
  refine z_iload_n O zd_W_cell_0 rfl 1 rfl ?_
  refine z_aload_n O zd_W_cell_1 rfl 0 rfl ?_
  refine zg_W_15_9 O zd_W_cell_2 (v := .int (zcol 9)) rfl ?_
  refine z_imul O zd_W_cell_5 ?_
  refine z_iload_n O zd_W_cell_6 rfl 2 rfl ?_
  refine z_iadd O zd_W_cell_7 ?_
  refine z_istore_n O (lv' := [(3, .int ((a1 * (zcol 9)) + a2)), (0, .ref (zq w 9)), (1, .int a1), (2, .int a2)]) zd_W_cell_8 rfl (Nat.le_of_ble_eq_true rfl) rfl ?_
  refine z_iload_n O zd_W_cell_9 rfl 0 rfl ?_
  refine z_if_lt O (tgt := 31) zd_W_cell_10 (by decide) (fun c1 => ?_) (fun c1 => ?_)
  · have ht := ht.trans (if_pos c1)
    refine z_iconst O (v := (-1)) zd_W_cell_31 (by decide) ?_
    exact E _ _ _ _ zd_W_cell_32 rfl ⟨ht.symm, rfl⟩
  · have ht := ht.trans (if_neg c1)
    have ko := ko c1
    refine z_iload_n O zd_W_cell_13 rfl 0 rfl ?_
    refine z_aload_n O zd_W_cell_14 rfl 1 rfl ?_
    refine zg_W_18_9 O zd_W_cell_15 (v := .ref (zq w 10)) rfl ?_
    refine z_alen O 10 (zae10 w σ) (v := (zlen 9)) rfl zd_W_cell_18 ?_
    refine z_icmp_ge O (tgt := 31) zd_W_cell_19 (by decide) (fun c2 => ?_) (fun c2 => ?_)
    · have ht := ht.trans (if_pos c2)
      refine z_iconst O (v := (-1)) zd_W_cell_31 (by decide) ?_
      exact E _ _ _ _ zd_W_cell_32 rfl ⟨ht.symm, rfl⟩
    · have ht := ht.trans (if_neg c2)
      have ko := ko c2
      refine z_aload_n O zd_W_cell_22 rfl 1 rfl ?_
      refine zg_W_18_9 O zd_W_cell_23 (v := .ref (zq w 10)) rfl ?_
      refine z_iload_n O zd_W_cell_26 rfl 0 rfl ?_
      have b3 := ko
      refine z_iald O 10 (zae10 w σ) b3 (v := (σ 10 (((a1 * (zcol 9)) + a2) : Int32).toNatClampNeg)) rfl zd_W_cell_27 ?_
      refine z_goto O (tgt := 32) zd_W_cell_28 (by decide) ?_
      exact E _ _ _ _ zd_W_cell_32 rfl ⟨ht.symm, rfl⟩
set_option maxHeartbeats 4000000 in
set_option maxRecDepth 100000 in
theorem c_W_cell_11 (l : Launch) (w : zWd) (σ : zSt) (a1 : Int32) (a2 : Int32) (ko : k_W_cell 11 σ a1 a2) : zMi l ({ cls := "SluiceStream$Rows", name := "cell", desc := "(II)I" } : Jvm.MethodName) prog_4_method_4_code 4 0 0 .int w [.ref (zq w 11), .int a1, .int a2] σ (fun r u => r = (f_W_cell 11 σ a1 a2) ∧ u = σ) := by
  refine zMi_of (by decide +kernel) (Nat.le_of_ble_eq_true rfl) ?_
  intro K O hl0 E
  have ht : (f_W_cell 11 σ a1 a2) = (f_W_cell 11 σ a1 a2) := rfl
  refine z_sub (lv' := [(0, .ref (zq w 11)), (1, .int a1), (2, .int a2)]) [0, 1, 2] rfl ?_
  refine z_iload_n O zd_W_cell_0 rfl 1 rfl ?_
  refine z_aload_n O zd_W_cell_1 rfl 0 rfl ?_
  refine zg_W_15_11 O zd_W_cell_2 (v := .int (zcol 11)) rfl ?_
  refine z_imul O zd_W_cell_5 ?_
  refine z_iload_n O zd_W_cell_6 rfl 2 rfl ?_
  refine z_iadd O zd_W_cell_7 ?_
  refine z_istore_n O (lv' := [(3, .int ((a1 * (zcol 11)) + a2)), (0, .ref (zq w 11)), (1, .int a1), (2, .int a2)]) zd_W_cell_8 rfl (Nat.le_of_ble_eq_true rfl) rfl ?_
  refine z_iload_n O zd_W_cell_9 rfl 0 rfl ?_
  refine z_if_lt O (tgt := 31) zd_W_cell_10 (by decide) (fun c1 => ?_) (fun c1 => ?_)
  · have ht := ht.trans (if_pos c1)
    refine z_iconst O (v := (-1)) zd_W_cell_31 (by decide) ?_
    exact E _ _ _ _ zd_W_cell_32 rfl ⟨ht.symm, rfl⟩
  · have ht := ht.trans (if_neg c1)
    have ko := ko c1
    refine z_iload_n O zd_W_cell_13 rfl 0 rfl ?_
    refine z_aload_n O zd_W_cell_14 rfl 1 rfl ?_
    refine zg_W_18_11 O zd_W_cell_15 (v := .ref (zq w 12)) rfl ?_
    refine z_alen O 12 (zae12 w σ) (v := (zlen 11)) rfl zd_W_cell_18 ?_
    refine z_icmp_ge O (tgt := 31) zd_W_cell_19 (by decide) (fun c2 => ?_) (fun c2 => ?_)
    · have ht := ht.trans (if_pos c2)
      refine z_iconst O (v := (-1)) zd_W_cell_31 (by decide) ?_
      exact E _ _ _ _ zd_W_cell_32 rfl ⟨ht.symm, rfl⟩
    · have ht := ht.trans (if_neg c2)
      have ko := ko c2
      refine z_aload_n O zd_W_cell_22 rfl 1 rfl ?_
      refine zg_W_18_11 O zd_W_cell_23 (v := .ref (zq w 12)) rfl ?_
      refine z_iload_n O zd_W_cell_26 rfl 0 rfl ?_
      have b3 := ko
      refine z_iald O 12 (zae12 w σ) b3 (v := (σ 12 (((a1 * (zcol 11)) + a2) : Int32).toNatClampNeg)) rfl zd_W_cell_27 ?_
      refine z_goto O (tgt := 32) zd_W_cell_28 (by decide) ?_
      exact E _ _ _ _ zd_W_cell_32 rfl ⟨ht.symm, rfl⟩
set_option maxHeartbeats 4000000 in
set_option maxRecDepth 100000 in
theorem c_S_countFlying (l : Launch) (w : zWd) (σ : zSt) (ko : k_S_countFlying σ) : zMi l ({ cls := "SluiceStream$Sender", name := "countFlying", desc := "()I" } : Jvm.MethodName) prog_5_method_2_code 1 2 45 .int w [.ref (zq w 2)] σ (fun r u => r = (f_S_countFlying σ) ∧ u = σ) := by
  refine zMi_of (by decide +kernel) (Nat.le_of_ble_eq_true rfl) ?_
  intro K O hl0 E
  have ht : (f_S_countFlying σ) = (f_S_countFlying σ) := rfl
  refine z_sub (lv' := [(0, .ref (zq w 2))]) [0] rfl ?_
  refine z_aload_n O zd_S_countFlying_0 rfl 0 rfl ?_
  refine zg_S_12_2 O zd_S_countFlying_1 (v := .ref (zq w 3)) rfl ?_
  refine z_aload_n O zd_S_countFlying_4 rfl 0 rfl ?_
  refine zg_S_25_2 O zd_S_countFlying_5 (v := .int (σ 2 2)) rfl ?_
  refine z_aload_n O zd_S_countFlying_8 rfl 0 rfl ?_
  refine zg_S_29_2 O zd_S_countFlying_9 (v := .int (σ 2 3)) rfl ?_
  refine z_callri O hl0 (st := []) 3 0 (fs := zo3 w σ) rfl rfl (c_P_countEmpty_3 l w σ (σ 2 2) (σ 2 3) ko) zl_S_65 zm305 zm306 rfl rfl (Nat.le_of_ble_eq_true rfl) (Nat.le_of_ble_eq_true rfl) (Nat.le_of_ble_eq_true rfl) zd_S_countFlying_12 (fun r1 e2 => ?_)
  have ht := ht.trans (zlet_e e2)
  exact E _ _ _ _ zd_S_countFlying_15 rfl ⟨ht.symm, rfl⟩
set_option maxHeartbeats 4000000 in
set_option maxRecDepth 100000 in
theorem c_S_startOfRepair (l : Launch) (w : zWd) (σ : zSt) (ko : k_S_startOfRepair σ) : zMi l ({ cls := "SluiceStream$Sender", name := "startOfRepair", desc := "()I" } : Jvm.MethodName) prog_5_method_4_code 3 2 44 .int w [.ref (zq w 2)] σ (fun r u => r = (f_S_startOfRepair σ) ∧ u = σ) := by
  refine zMi_of (by decide +kernel) (Nat.le_of_ble_eq_true rfl) ?_
  intro K O hl0 E
  have ht : (f_S_startOfRepair σ) = (f_S_startOfRepair σ) := rfl
  refine z_sub (lv' := [(0, .ref (zq w 2))]) [0] rfl ?_
  refine z_aload_n O zd_S_startOfRepair_0 rfl 0 rfl ?_
  refine zg_S_53_2 O zd_S_startOfRepair_1 (v := .int (σ 2 11)) rfl ?_
  refine z_iconst O (v := (-1)) zd_S_startOfRepair_4 (by decide) ?_
  refine z_icmp_ne O (tgt := 10) zd_S_startOfRepair_5 (by decide) (fun c1 => ?_) (fun c1 => ?_)
  · have ht := ht.trans (if_neg c1)
    have ko := ko c1
    refine z_aload_n O zd_S_startOfRepair_10 rfl 0 rfl ?_
    refine zg_S_12_2 O zd_S_startOfRepair_11 (v := .ref (zq w 3)) rfl ?_
    refine z_aload_n O zd_S_startOfRepair_14 rfl 0 rfl ?_
    refine zg_S_25_2 O zd_S_startOfRepair_15 (v := .int (σ 2 2)) rfl ?_
    refine z_aload_n O zd_S_startOfRepair_18 rfl 0 rfl ?_
    refine zg_S_56_2 O zd_S_startOfRepair_19 (v := .int (σ 2 12)) rfl ?_
    refine z_max O zm483 zm262 zm13 zm263 (Nat.le_of_ble_eq_true rfl) (Nat.le_of_ble_eq_true rfl) zd_S_startOfRepair_22 ?_
    refine z_aload_n O zd_S_startOfRepair_25 rfl 0 rfl ?_
    refine zg_S_29_2 O zd_S_startOfRepair_26 (v := .int (σ 2 3)) rfl ?_
    refine z_callri O hl0 (st := []) 3 0 (fs := zo3 w σ) rfl rfl (c_P_firstEmpty_3 l w σ (if (σ 2 2) < (σ 2 12) then (σ 2 12) else (σ 2 2)) (σ 2 3) ko.1) zl_S_76 zm254 zm255 rfl rfl (Nat.le_of_ble_eq_true rfl) (Nat.le_of_ble_eq_true rfl) (Nat.le_of_ble_eq_true rfl) zd_S_startOfRepair_29 (fun r2 e3 => ?_)
    have ht := ht.trans (zlet_e e3)
    have ko := ko.2 r2 e3
    refine z_istore_n O (lv' := [(1, .int r2), (0, .ref (zq w 2))]) zd_S_startOfRepair_32 rfl (Nat.le_of_ble_eq_true rfl) rfl ?_
    refine z_iload_n O zd_S_startOfRepair_33 rfl 0 rfl ?_
    refine z_aload_n O zd_S_startOfRepair_34 rfl 1 rfl ?_
    refine zg_S_29_2 O zd_S_startOfRepair_35 (v := .int (σ 2 3)) rfl ?_
    refine z_icmp_lt O (tgt := 43) zd_S_startOfRepair_38 (by decide) (fun c4 => ?_) (fun c4 => ?_)
    · have ht := ht.trans (if_pos c4)
      have ko := ko c4
      refine z_aload_n O zd_S_startOfRepair_43 rfl 1 rfl ?_
      refine zg_S_12_2 O zd_S_startOfRepair_44 (v := .ref (zq w 3)) rfl ?_
      refine z_iload_n O zd_S_startOfRepair_47 rfl 0 rfl ?_
      refine z_aload_n O zd_S_startOfRepair_48 rfl 1 rfl ?_
      refine zg_S_32_2 O zd_S_startOfRepair_49 (v := .int (σ 2 4)) rfl ?_
      refine z_callri O hl0 (st := []) 3 0 (fs := zo3 w σ) rfl rfl (c_P_firstFilled_3 l w σ r2 (σ 2 4) ko) zl_S_100 zm242 zm243 rfl rfl (Nat.le_of_ble_eq_true rfl) (Nat.le_of_ble_eq_true rfl) (Nat.le_of_ble_eq_true rfl) zd_S_startOfRepair_52 (fun r5 e6 => ?_)
      have ht := ht.trans (zlet_e e6)
      refine z_aload_n O zd_S_startOfRepair_55 rfl 1 rfl ?_
      refine zg_S_32_2 O zd_S_startOfRepair_56 (v := .int (σ 2 4)) rfl ?_
      refine z_icmp_ge O (tgt := 66) zd_S_startOfRepair_59 (by decide) (fun c7 => ?_) (fun c7 => ?_)
      · have ht := ht.trans (if_pos c7)
        refine z_iconst O (v := 0) zd_S_startOfRepair_66 (by decide) ?_
        refine z_istore_n O (lv' := [(2, .int 0), (1, .int r2), (0, .ref (zq w 2))]) zd_S_startOfRepair_67 rfl (Nat.le_of_ble_eq_true rfl) rfl ?_
        refine z_iload_n O zd_S_startOfRepair_68 rfl 1 rfl ?_
        refine z_aload_n O zd_S_startOfRepair_69 rfl 2 rfl ?_
        refine zg_S_25_2 O zd_S_startOfRepair_70 (v := .int (σ 2 2)) rfl ?_
        refine z_icmp_eq O (tgt := 80) zd_S_startOfRepair_73 (by decide) (fun c8 => ?_) (fun c8 => ?_)
        · have ht := ht.trans (if_pos c8)
          refine z_iload_n O zd_S_startOfRepair_80 rfl 1 rfl ?_
          refine z_goto O (tgt := 85) zd_S_startOfRepair_81 (by decide) ?_
          exact E _ _ _ _ zd_S_startOfRepair_85 rfl ⟨ht.symm, rfl⟩
        · have ht := ht.trans (if_neg c8)
          refine z_iload_n O zd_S_startOfRepair_76 rfl 0 rfl ?_
          refine z_if_eq O (tgt := 84) zd_S_startOfRepair_77 (by decide) (fun c9 => ?_) (fun c9 => absurd c9 (by decide))
          refine z_iconst O (v := (-1)) zd_S_startOfRepair_84 (by decide) ?_
          exact E _ _ _ _ zd_S_startOfRepair_85 rfl ⟨ht.symm, rfl⟩
      · have ht := ht.trans (if_neg c7)
        refine z_iconst O (v := 1) zd_S_startOfRepair_62 (by decide) ?_
        refine z_goto O (tgt := 67) zd_S_startOfRepair_63 (by decide) ?_
        refine z_istore_n O (lv' := [(2, .int 1), (1, .int r2), (0, .ref (zq w 2))]) zd_S_startOfRepair_67 rfl (Nat.le_of_ble_eq_true rfl) rfl ?_
        refine z_iload_n O zd_S_startOfRepair_68 rfl 1 rfl ?_
        refine z_aload_n O zd_S_startOfRepair_69 rfl 2 rfl ?_
        refine zg_S_25_2 O zd_S_startOfRepair_70 (v := .int (σ 2 2)) rfl ?_
        refine z_icmp_eq O (tgt := 80) zd_S_startOfRepair_73 (by decide) (fun c10 => ?_) (fun c10 => ?_)
        · have ht := ht.trans (if_pos c10)
          refine z_iload_n O zd_S_startOfRepair_80 rfl 1 rfl ?_
          refine z_goto O (tgt := 85) zd_S_startOfRepair_81 (by decide) ?_
          exact E _ _ _ _ zd_S_startOfRepair_85 rfl ⟨ht.symm, rfl⟩
        · have ht := ht.trans (if_neg c10)
          refine z_iload_n O zd_S_startOfRepair_76 rfl 0 rfl ?_
          refine z_if_eq O (tgt := 84) zd_S_startOfRepair_77 (by decide) (fun c11 => absurd c11 (by decide)) (fun c11 => ?_)
          refine z_iload_n O zd_S_startOfRepair_80 rfl 1 rfl ?_
          refine z_goto O (tgt := 85) zd_S_startOfRepair_81 (by decide) ?_
          exact E _ _ _ _ zd_S_startOfRepair_85 rfl ⟨ht.symm, rfl⟩
    · have ht := ht.trans (if_neg c4)
      refine z_iconst O (v := (-1)) zd_S_startOfRepair_41 (by decide) ?_
      exact E _ _ _ _ zd_S_startOfRepair_42 rfl ⟨ht.symm, rfl⟩
  · have ht := ht.trans (if_pos c1)
    refine z_iconst O (v := (-1)) zd_S_startOfRepair_8 (by decide) ?_
    exact E _ _ _ _ zd_S_startOfRepair_9 rfl ⟨ht.symm, rfl⟩
set_option maxHeartbeats 4000000 in
set_option maxRecDepth 100000 in
theorem c_S_endOfRun (l : Launch) (w : zWd) (σ : zSt) (a1 : Int32) (a2 : Int32) (ko : k_S_endOfRun σ a1 a2) : zMi l ({ cls := "SluiceStream$Sender", name := "endOfRun", desc := "(II)I" } : Jvm.MethodName) prog_5_method_5_code 3 2 44 .int w [.ref (zq w 2), .int a1, .int a2] σ (fun r u => r = (f_S_endOfRun σ a1 a2) ∧ u = σ) := by
  refine zMi_of (by decide +kernel) (Nat.le_of_ble_eq_true rfl) ?_
  intro K O hl0 E
  have ht : (f_S_endOfRun σ a1 a2) = (f_S_endOfRun σ a1 a2) := rfl
  refine z_sub (lv' := [(0, .ref (zq w 2)), (1, .int a1), (2, .int a2)]) [0, 1, 2] rfl ?_
  refine z_aload_n O zd_S_endOfRun_0 rfl 0 rfl ?_
  refine zg_S_12_2 O zd_S_endOfRun_1 (v := .ref (zq w 3)) rfl ?_
  refine z_iload_n O zd_S_endOfRun_4 rfl 1 rfl ?_
  refine z_iload_n O zd_S_endOfRun_5 rfl 1 rfl ?_
  refine z_iconst O (v := 4) zd_S_endOfRun_6 (by decide) ?_
  refine z_iadd O zd_S_endOfRun_7 ?_
  refine z_iload_n O zd_S_endOfRun_8 rfl 2 rfl ?_
  refine z_min O zm490 zm491 zm13 zm492 (Nat.le_of_ble_eq_true rfl) (Nat.le_of_ble_eq_true rfl) zd_S_endOfRun_9 ?_
  refine z_callri O hl0 (st := []) 3 0 (fs := zo3 w σ) rfl rfl (c_P_firstFilled_3 l w σ a1 (if a2 < (a1 + 4) then a2 else (a1 + 4)) ko) zl_S_100 zm242 zm243 rfl rfl (Nat.le_of_ble_eq_true rfl) (Nat.le_of_ble_eq_true rfl) (Nat.le_of_ble_eq_true rfl) zd_S_endOfRun_12 (fun r1 e2 => ?_)
  have ht := ht.trans (zlet_e e2)
  exact E _ _ _ _ zd_S_endOfRun_15 rfl ⟨ht.symm, rfl⟩
set_option maxHeartbeats 4000000 in
set_option maxRecDepth 100000 in
theorem c_S_endOfFresh (l : Launch) (w : zWd) (σ : zSt) (ko : k_S_endOfFresh σ) : zMi l ({ cls := "SluiceStream$Sender", name := "endOfFresh", desc := "()I" } : Jvm.MethodName) prog_5_method_6_code 4 3 66 .int w [.ref (zq w 2)] σ (fun r u => r = (f_S_endOfFresh σ) ∧ u = σ) := by
  refine zMi_of (by decide +kernel) (Nat.le_of_ble_eq_true rfl) ?_
  intro K O hl0 E
  have ht : (f_S_endOfFresh σ) = (f_S_endOfFresh σ) := rfl
  refine z_sub (lv' := [(0, .ref (zq w 2))]) [0] rfl ?_
  refine z_aload_n O zd_S_endOfFresh_0 rfl 0 rfl ?_
  refine zg_S_29_2 O zd_S_endOfFresh_1 (v := .int (σ 2 3)) rfl ?_
  refine z_aload_n O zd_S_endOfFresh_4 rfl 0 rfl ?_
  refine zg_S_35_2 O zd_S_endOfFresh_5 (v := .int (σ 2 5)) rfl ?_
  refine z_icmp_lt O (tgt := 16) zd_S_endOfFresh_8 (by decide) (fun c1 => ?_) (fun c1 => ?_)
  · have ht := ht.trans (if_pos c1)
    have ko := ko c1
    refine z_aload_n O zd_S_endOfFresh_16 rfl 0 rfl ?_
    refine z_callri O hl0 (st := []) 2 3 (fs := zo2 w σ) rfl rfl (c_S_countFlying l w σ ko.1) zl_S_106 zm301 zm302 rfl rfl (Nat.le_of_ble_eq_true rfl) (Nat.le_of_ble_eq_true rfl) (Nat.le_of_ble_eq_true rfl) zd_S_endOfFresh_17 (fun r2 e3 => ?_)
    have ht := ht.trans (zlet_e e3)
    have ko := ko.2 r2 e3
    refine z_istore_n O (lv' := [(1, .int r2), (0, .ref (zq w 2))]) zd_S_endOfFresh_20 rfl (Nat.le_of_ble_eq_true rfl) rfl ?_
    refine z_aload_n O zd_S_endOfFresh_21 rfl 1 rfl ?_
    refine zg_S_29_2 O zd_S_endOfFresh_22 (v := .int (σ 2 3)) rfl ?_
    refine z_aload_n O zd_S_endOfFresh_25 rfl 1 rfl ?_
    refine zg_S_38_2 O zd_S_endOfFresh_26 (v := .int (σ 2 6)) rfl ?_
    refine z_icmp_lt O (tgt := 50) zd_S_endOfFresh_29 (by decide) (fun c4 => ?_) (fun c4 => ?_)
    · have ht := ht.trans (if_pos c4)
      have ko := ko c4
      refine z_aload_n O zd_S_endOfFresh_50 rfl 1 rfl ?_
      refine z_aload_n O zd_S_endOfFresh_51 rfl 1 rfl ?_
      refine zg_S_29_2 O zd_S_endOfFresh_52 (v := .int (σ 2 3)) rfl ?_
      refine z_aload_n O zd_S_endOfFresh_55 rfl 1 rfl ?_
      refine zg_S_35_2 O zd_S_endOfFresh_56 (v := .int (σ 2 5)) rfl ?_
      refine z_aload_n O zd_S_endOfFresh_59 rfl 1 rfl ?_
      refine zg_S_38_2 O zd_S_endOfFresh_60 (v := .int (σ 2 6)) rfl ?_
      refine z_min O zm490 zm491 zm13 zm492 (Nat.le_of_ble_eq_true rfl) (Nat.le_of_ble_eq_true rfl) zd_S_endOfFresh_63 ?_
      refine z_callri O hl0 (st := []) 2 3 (fs := zo2 w σ) rfl rfl (c_S_endOfRun l w σ (σ 2 3) (if (σ 2 6) < (σ 2 5) then (σ 2 6) else (σ 2 5)) ko) zl_S_73 zm488 zms5 rfl rfl (Nat.le_of_ble_eq_true rfl) (Nat.le_of_ble_eq_true rfl) (Nat.le_of_ble_eq_true rfl) zd_S_endOfFresh_66 (fun r5 e6 => ?_)
      have ht := ht.trans (zlet_e e6)
      refine z_istore_n O (lv' := [(2, .int r5), (1, .int r2), (0, .ref (zq w 2))]) zd_S_endOfFresh_69 rfl (Nat.le_of_ble_eq_true rfl) rfl ?_
      refine z_iload_n O zd_S_endOfFresh_70 rfl 1 rfl ?_
      refine z_iload_n O zd_S_endOfFresh_71 rfl 0 rfl ?_
      refine z_iadd O zd_S_endOfFresh_72 ?_
      refine z_aload_n O zd_S_endOfFresh_73 rfl 2 rfl ?_
      refine zg_S_29_2 O zd_S_endOfFresh_74 (v := .int (σ 2 3)) rfl ?_
      refine z_isub O zd_S_endOfFresh_77 ?_
      refine z_aload_n O zd_S_endOfFresh_78 rfl 2 rfl ?_
      refine zg_S_41_2 O zd_S_endOfFresh_79 (v := .int (σ 2 7)) rfl ?_
      refine z_aload_n O zd_S_endOfFresh_82 rfl 2 rfl ?_
      refine zg_S_47_2 O zd_S_endOfFresh_83 (v := .int (σ 2 9)) rfl ?_
      refine z_min O zm490 zm491 zm13 zm492 (Nat.le_of_ble_eq_true rfl) (Nat.le_of_ble_eq_true rfl) zd_S_endOfFresh_86 ?_
      refine z_icmp_gt O (tgt := 96) zd_S_endOfFresh_89 (by decide) (fun c7 => ?_) (fun c7 => ?_)
      · have ht := ht.trans (if_pos c7)
        refine z_iconst O (v := 0) zd_S_endOfFresh_96 (by decide) ?_
        refine z_istore_n O (lv' := [(3, .int 0), (2, .int r5), (1, .int r2), (0, .ref (zq w 2))]) zd_S_endOfFresh_97 rfl (Nat.le_of_ble_eq_true rfl) rfl ?_
        refine z_iload_n O zd_S_endOfFresh_98 rfl 2 rfl ?_
        refine z_if_eq O (tgt := 106) zd_S_endOfFresh_99 (by decide) (fun c8 => ?_) (fun c8 => ?_)
        · have ht := ht.trans (if_pos c8)
          refine z_iload_n O zd_S_endOfFresh_106 rfl 1 rfl ?_
          refine z_goto O (tgt := 114) zd_S_endOfFresh_107 (by decide) ?_
          exact E _ _ _ _ zd_S_endOfFresh_114 rfl ⟨ht.symm, rfl⟩
        · have ht := ht.trans (if_neg c8)
          refine z_iload_n O zd_S_endOfFresh_102 rfl 0 rfl ?_
          refine z_if_eq O (tgt := 110) zd_S_endOfFresh_103 (by decide) (fun c9 => ?_) (fun c9 => absurd c9 (by decide))
          refine z_aload_n O zd_S_endOfFresh_110 rfl 3 rfl ?_
          refine zg_S_29_2 O zd_S_endOfFresh_111 (v := .int (σ 2 3)) rfl ?_
          exact E _ _ _ _ zd_S_endOfFresh_114 rfl ⟨ht.symm, rfl⟩
      · have ht := ht.trans (if_neg c7)
        refine z_iconst O (v := 1) zd_S_endOfFresh_92 (by decide) ?_
        refine z_goto O (tgt := 97) zd_S_endOfFresh_93 (by decide) ?_
        refine z_istore_n O (lv' := [(3, .int 1), (2, .int r5), (1, .int r2), (0, .ref (zq w 2))]) zd_S_endOfFresh_97 rfl (Nat.le_of_ble_eq_true rfl) rfl ?_
        refine z_iload_n O zd_S_endOfFresh_98 rfl 2 rfl ?_
        refine z_if_eq O (tgt := 106) zd_S_endOfFresh_99 (by decide) (fun c10 => ?_) (fun c10 => ?_)
        · have ht := ht.trans (if_pos c10)
          refine z_iload_n O zd_S_endOfFresh_106 rfl 1 rfl ?_
          refine z_goto O (tgt := 114) zd_S_endOfFresh_107 (by decide) ?_
          exact E _ _ _ _ zd_S_endOfFresh_114 rfl ⟨ht.symm, rfl⟩
        · have ht := ht.trans (if_neg c10)
          refine z_iload_n O zd_S_endOfFresh_102 rfl 0 rfl ?_
          refine z_if_eq O (tgt := 110) zd_S_endOfFresh_103 (by decide) (fun c11 => absurd c11 (by decide)) (fun c11 => ?_)
          refine z_iload_n O zd_S_endOfFresh_106 rfl 1 rfl ?_
          refine z_goto O (tgt := 114) zd_S_endOfFresh_107 (by decide) ?_
          exact E _ _ _ _ zd_S_endOfFresh_114 rfl ⟨ht.symm, rfl⟩
    · have ht := ht.trans (if_neg c4)
      refine z_iload_n O zd_S_endOfFresh_32 rfl 0 rfl ?_
      refine z_if_ne O (tgt := 45) zd_S_endOfFresh_33 (by decide) (fun c12 => ?_) (fun c12 => ?_)
      · have ht := ht.trans (if_neg c12)
        refine z_aload_n O zd_S_endOfFresh_45 rfl 1 rfl ?_
        refine zg_S_29_2 O zd_S_endOfFresh_46 (v := .int (σ 2 3)) rfl ?_
        exact E _ _ _ _ zd_S_endOfFresh_49 rfl ⟨ht.symm, rfl⟩
      · have ht := ht.trans (if_pos c12)
        refine z_aload_n O zd_S_endOfFresh_36 rfl 1 rfl ?_
        refine zg_S_29_2 O zd_S_endOfFresh_37 (v := .int (σ 2 3)) rfl ?_
        refine z_iconst O (v := 1) zd_S_endOfFresh_40 (by decide) ?_
        refine z_iadd O zd_S_endOfFresh_41 ?_
        refine z_goto O (tgt := 49) zd_S_endOfFresh_42 (by decide) ?_
        exact E _ _ _ _ zd_S_endOfFresh_49 rfl ⟨ht.symm, rfl⟩
  · have ht := ht.trans (if_neg c1)
    refine z_aload_n O zd_S_endOfFresh_11 rfl 0 rfl ?_
    refine zg_S_29_2 O zd_S_endOfFresh_12 (v := .int (σ 2 3)) rfl ?_
    exact E _ _ _ _ zd_S_endOfFresh_15 rfl ⟨ht.symm, rfl⟩
set_option maxHeartbeats 4000000 in
set_option maxRecDepth 100000 in
theorem c_T_timeSegment (l : Launch) (w : zWd) (σ : zSt) (a1 : Int32) : zMv l ({ cls := "SluiceStream$Timer", name := "timeSegment", desc := "(I)V" } : Jvm.MethodName) prog_6_method_7_code 2 0 0 w [.ref (zq w 5), .int a1] σ (fun u => u = (f_T_timeSegment σ a1)) := by
  refine zMv_of (by decide +kernel) (Nat.le_of_ble_eq_true rfl) ?_
  intro K O hl0 E
  have ht : (f_T_timeSegment σ a1) = (f_T_timeSegment σ a1) := rfl
  refine z_sub (lv' := [(0, .ref (zq w 5)), (1, .int a1)]) [0, 1] rfl ?_
  refine z_aload_n O zd_T_timeSegment_0 rfl 0 rfl ?_
  refine zg_T_21_5 O zd_T_timeSegment_1 (v := .int (σ 5 3)) rfl ?_
  refine z_iconst O (v := (-1)) zd_T_timeSegment_4 (by decide) ?_
  refine z_icmp_ne O (tgt := 21) zd_T_timeSegment_5 (by decide) (fun c1 => ?_) (fun c1 => ?_)
  · have ht := ht.trans (if_neg c1)
    exact E _ _ _ zd_T_timeSegment_21 ht.symm
  · have ht := ht.trans (if_pos c1)
    refine z_aload_n O zd_T_timeSegment_8 rfl 0 rfl ?_
    refine z_iload_n O zd_T_timeSegment_9 rfl 1 rfl ?_
    refine zp_T_21_5 O zd_T_timeSegment_10 ?_
    refine z_aload_n O zd_T_timeSegment_13 rfl 0 rfl ?_
    refine z_aload_n O zd_T_timeSegment_14 rfl 0 rfl ?_
    refine zg_T_9_5 O zd_T_timeSegment_15 (v := .int (σ 5 0)) rfl ?_
    refine zp_T_30_5 O zd_T_timeSegment_18 ?_
    exact E _ _ _ zd_T_timeSegment_21 ht.symm
set_option maxHeartbeats 4000000 in
set_option maxRecDepth 100000 in
theorem c_T_startAnew (l : Launch) (w : zWd) (σ : zSt) : zMv l ({ cls := "SluiceStream$Timer", name := "startAnew", desc := "()V" } : Jvm.MethodName) prog_6_method_3_code 1 0 0 w [.ref (zq w 5)] σ (fun u => u = (f_T_startAnew σ)) := by
  refine zMv_of (by decide +kernel) (Nat.le_of_ble_eq_true rfl) ?_
  intro K O hl0 E
  have ht : (f_T_startAnew σ) = (f_T_startAnew σ) := rfl
  refine z_sub (lv' := [(0, .ref (zq w 5))]) [0] rfl ?_
  refine z_aload_n O zd_T_startAnew_0 rfl 0 rfl ?_
  refine z_aload_n O zd_T_startAnew_1 rfl 0 rfl ?_
  refine zg_T_9_5 O zd_T_startAnew_2 (v := .int (σ 5 0)) rfl ?_
  refine z_aload_n O zd_T_startAnew_5 rfl 0 rfl ?_
  refine zg_T_15_5 O zd_T_startAnew_6 (v := .int (σ 5 1)) rfl ?_
  refine z_iadd O zd_T_startAnew_9 ?_
  refine zp_T_18_5 O zd_T_startAnew_10 ?_
  exact E _ _ _ zd_T_startAnew_13 ht.symm
set_option maxHeartbeats 4000000 in
set_option maxRecDepth 100000 in
theorem c_T_startIfStopped (l : Launch) (w : zWd) (σ : zSt) : zMv l ({ cls := "SluiceStream$Timer", name := "startIfStopped", desc := "()V" } : Jvm.MethodName) prog_6_method_4_code 1 1 20 w [.ref (zq w 5)] σ (fun u => u = (f_T_startIfStopped σ)) := by
  refine zMv_of (by decide +kernel) (Nat.le_of_ble_eq_true rfl) ?_
  intro K O hl0 E
  have ht : (f_T_startIfStopped σ) = (f_T_startIfStopped σ) := rfl
  refine z_sub (lv' := [(0, .ref (zq w 5))]) [0] rfl ?_
  refine z_aload_n O zd_T_startIfStopped_0 rfl 0 rfl ?_
  refine zg_T_18_5 O zd_T_startIfStopped_1 (v := .int (σ 5 2)) rfl ?_
  refine z_iconst O (v := (-1)) zd_T_startIfStopped_4 (by decide) ?_
  refine z_icmp_ne O (tgt := 12) zd_T_startIfStopped_5 (by decide) (fun c1 => ?_) (fun c1 => ?_)
  · have ht := ht.trans (if_neg c1)
    exact E _ _ _ zd_T_startIfStopped_12 ht.symm
  · have ht := ht.trans (if_pos c1)
    refine z_aload_n O zd_T_startIfStopped_8 rfl 0 rfl ?_
    refine z_callv O hl0 (st := []) 5 4 (fs := zo5 w σ) rfl rfl (c_T_startAnew l w σ) zl_T_37 zm511 zm512 rfl rfl (Nat.le_of_ble_eq_true rfl) (Nat.le_of_ble_eq_true rfl) (Nat.le_of_ble_eq_true rfl) zd_T_startIfStopped_9 (fun u2 e3 => ?_)
    have ht := ht.trans (zlet_e e3)
    exact E _ _ _ zd_T_startIfStopped_12 ht.symm
set_option maxHeartbeats 4000000 in
set_option maxRecDepth 100000 in
theorem c_S_noteSent (l : Launch) (w : zWd) (σ : zSt) (a1 : Int32) (a2 : Int32) : zMv l ({ cls := "SluiceStream$Sender", name := "noteSent", desc := "(II)V" } : Jvm.MethodName) prog_5_method_7_code 3 2 40 w [.ref (zq w 2), .int a1, .int a2] σ (fun u => u = (f_S_noteSent σ a1 a2)) := by
  refine zMv_of (by decide +kernel) (Nat.le_of_ble_eq_true rfl) ?_
  intro K O hl0 E
  have ht : (f_S_noteSent σ a1 a2) = (f_S_noteSent σ a1 a2) := rfl
  refine z_sub (lv' := [(0, .ref (zq w 2)), (1, .int a1), (2, .int a2)]) [0, 1, 2] rfl ?_
  refine z_aload_n O zd_S_noteSent_0 rfl 0 rfl ?_
  refine z_dup O zd_S_noteSent_1 rfl ?_
  refine zg_S_59_2 O zd_S_noteSent_2 (v := .int (σ 2 13)) rfl ?_
  refine z_iconst O (v := 1) zd_S_noteSent_5 (by decide) ?_
  refine z_iadd O zd_S_noteSent_6 ?_
  refine zp_S_59_2 O zd_S_noteSent_7 ?_
  refine z_iload_n O zd_S_noteSent_10 rfl 1 rfl ?_
  refine z_aload_n O zd_S_noteSent_11 rfl 0 rfl ?_
  refine zg_S_32_2 O zd_S_noteSent_12 (v := .int (σ 2 4)) rfl ?_
  refine z_icmp_ge O (tgt := 31) zd_S_noteSent_15 (by decide) (fun c1 => ?_) (fun c1 => ?_)
  · have ht := ht.trans (if_pos c1)
    refine z_aload_n O zd_S_noteSent_31 rfl 0 rfl ?_
    refine zg_S_21_2 O zd_S_noteSent_32 (v := .ref (zq w 5)) rfl ?_
    refine z_iload_n O zd_S_noteSent_35 rfl 2 rfl ?_
    refine z_callv O hl0 (st := []) 5 4 (fs := zo5 w (zuf σ 2 13 ((σ 2 13) + 1))) rfl rfl (c_T_timeSegment l w (zuf σ 2 13 ((σ 2 13) + 1)) a2) zl_S_109 zm503 zm504 rfl rfl (Nat.le_of_ble_eq_true rfl) (Nat.le_of_ble_eq_true rfl) (Nat.le_of_ble_eq_true rfl) zd_S_noteSent_36 (fun u2 e3 => ?_)
    have ht := ht.trans (zlet_e e3)
    refine z_aload_n O zd_S_noteSent_39 rfl 0 rfl ?_
    refine z_aload_n O zd_S_noteSent_40 rfl 0 rfl ?_
    refine zg_S_32_2 O zd_S_noteSent_41 (v := .int (u2 2 4)) rfl ?_
    refine z_aload_n O zd_S_noteSent_44 rfl 0 rfl ?_
    refine zg_S_29_2 O zd_S_noteSent_45 (v := .int (u2 2 3)) rfl ?_
    refine z_max O zm483 zm262 zm13 zm263 (Nat.le_of_ble_eq_true rfl) (Nat.le_of_ble_eq_true rfl) zd_S_noteSent_48 ?_
    refine zp_S_32_2 O zd_S_noteSent_51 ?_
    refine z_aload_n O zd_S_noteSent_54 rfl 0 rfl ?_
    refine zg_S_21_2 O zd_S_noteSent_55 (v := .ref (zq w 5)) rfl ?_
    refine z_callv O hl0 (st := []) 5 4 (fs := zo5 w (zuf u2 2 4 (if (u2 2 4) < (u2 2 3) then (u2 2 3) else (u2 2 4)))) rfl rfl (c_T_startIfStopped l w (zuf u2 2 4 (if (u2 2 4) < (u2 2 3) then (u2 2 3) else (u2 2 4)))) zl_S_113 zm507 zm508 rfl rfl (Nat.le_of_ble_eq_true rfl) (Nat.le_of_ble_eq_true rfl) (Nat.le_of_ble_eq_true rfl) zd_S_noteSent_58 (fun u4 e5 => ?_)
    have ht := ht.trans (zlet_e e5)
    exact E _ _ _ zd_S_noteSent_61 ht.symm
  · have ht := ht.trans (if_neg c1)
    refine z_aload_n O zd_S_noteSent_18 rfl 0 rfl ?_
    refine z_dup O zd_S_noteSent_19 rfl ?_
    refine zg_S_62_2 O zd_S_noteSent_20 (v := .int (σ 2 14)) rfl ?_
    refine z_iconst O (v := 1) zd_S_noteSent_23 (by decide) ?_
    refine z_iadd O zd_S_noteSent_24 ?_
    refine zp_S_62_2 O zd_S_noteSent_25 ?_
    refine z_goto O (tgt := 39) zd_S_noteSent_28 (by decide) ?_
    refine z_aload_n O zd_S_noteSent_39 rfl 0 rfl ?_
    refine z_aload_n O zd_S_noteSent_40 rfl 0 rfl ?_
    refine zg_S_32_2 O zd_S_noteSent_41 (v := .int (σ 2 4)) rfl ?_
    refine z_aload_n O zd_S_noteSent_44 rfl 0 rfl ?_
    refine zg_S_29_2 O zd_S_noteSent_45 (v := .int (σ 2 3)) rfl ?_
    refine z_max O zm483 zm262 zm13 zm263 (Nat.le_of_ble_eq_true rfl) (Nat.le_of_ble_eq_true rfl) zd_S_noteSent_48 ?_
    refine zp_S_32_2 O zd_S_noteSent_51 ?_
    refine z_aload_n O zd_S_noteSent_54 rfl 0 rfl ?_
    refine zg_S_21_2 O zd_S_noteSent_55 (v := .ref (zq w 5)) rfl ?_
    refine z_callv O hl0 (st := []) 5 4 (fs := zo5 w (zuf (zuf (zuf σ 2 13 ((σ 2 13) + 1)) 2 14 ((σ 2 14) + 1)) 2 4 (if (σ 2 4) < (σ 2 3) then (σ 2 3) else (σ 2 4)))) rfl rfl (c_T_startIfStopped l w (zuf (zuf (zuf σ 2 13 ((σ 2 13) + 1)) 2 14 ((σ 2 14) + 1)) 2 4 (if (σ 2 4) < (σ 2 3) then (σ 2 3) else (σ 2 4)))) zl_S_113 zm507 zm508 rfl rfl (Nat.le_of_ble_eq_true rfl) (Nat.le_of_ble_eq_true rfl) (Nat.le_of_ble_eq_true rfl) zd_S_noteSent_58 (fun u6 e7 => ?_)
    have ht := ht.trans (zlet_e e7)
    exact E _ _ _ zd_S_noteSent_61 ht.symm
set_option maxHeartbeats 4000000 in
set_option maxRecDepth 100000 in
theorem c_S_sendInto (l : Launch) (w : zWd) (σ : zSt) (ko : k_S_sendInto σ) : zMi l ({ cls := "SluiceStream$Sender", name := "sendInto", desc := "(LSluiceStream$Rows;)I" } : Jvm.MethodName) prog_5_method_3_code 5 4 89 .int w [.ref (zq w 2), .ref (zq w 9)] σ (fun r u => (r, u) = (f_S_sendInto σ)) := by
  refine zMi_of (by decide +kernel) (Nat.le_of_ble_eq_true rfl) ?_
  intro K O hl0 E
  have ht : (f_S_sendInto σ) = (f_S_sendInto σ) := rfl
  refine z_sub (lv' := [(0, .ref (zq w 2)), (1, .ref (zq w 9))]) [0, 1] rfl ?_
  refine z_aload_n O zd_S_sendInto_0 rfl 0 rfl ?_
  refine z_callri O hl0 (st := []) 2 3 (fs := zo2 w σ) rfl rfl (c_S_startOfRepair l w σ ko.1) zl_S_69 zm481 zms4 rfl rfl (Nat.le_of_ble_eq_true rfl) (Nat.le_of_ble_eq_true rfl) (Nat.le_of_ble_eq_true rfl) zd_S_sendInto_1 (fun r1 e2 => ?_)
  have ht := ht.trans (zlet_e e2)
  have ko := ko.2 r1 e2
  refine z_istore_n O (lv' := [(2, .int r1), (0, .ref (zq w 2)), (1, .ref (zq w 9))]) zd_S_sendInto_4 rfl (Nat.le_of_ble_eq_true rfl) rfl ?_
  refine z_iload_n O zd_S_sendInto_5 rfl 0 rfl ?_
  refine z_iconst O (v := (-1)) zd_S_sendInto_6 (by decide) ?_
  refine z_icmp_eq O (tgt := 28) zd_S_sendInto_7 (by decide) (fun c3 => ?_) (fun c3 => ?_)
  · have ht := ht.trans (if_pos c3)
    have ko := ko.1 c3
    refine z_aload_n O zd_S_sendInto_28 rfl 1 rfl ?_
    refine z_aload_n O zd_S_sendInto_29 rfl 1 rfl ?_
    refine zg_S_12_2 O zd_S_sendInto_30 (v := .ref (zq w 3)) rfl ?_
    refine z_aload_n O zd_S_sendInto_33 rfl 1 rfl ?_
    refine zg_S_29_2 O zd_S_sendInto_34 (v := .int (σ 2 3)) rfl ?_
    refine z_aload_n O zd_S_sendInto_37 rfl 1 rfl ?_
    refine zg_S_35_2 O zd_S_sendInto_38 (v := .int (σ 2 5)) rfl ?_
    refine z_callri O hl0 (st := [.ref (zq w 2)]) 3 0 (fs := zo3 w σ) rfl rfl (c_P_firstEmpty_3 l w σ (σ 2 3) (σ 2 5) ko.1) zl_S_76 zm254 zm255 rfl rfl (Nat.le_of_ble_eq_true rfl) (Nat.le_of_ble_eq_true rfl) (Nat.le_of_ble_eq_true rfl) zd_S_sendInto_41 (fun r4 e5 => ?_)
    have ht := ht.trans (zlet_e e5)
    have ko := ko.2 r4 e5
    refine zp_S_29_2 O zd_S_sendInto_44 ?_
    refine z_aload_n O zd_S_sendInto_47 rfl 1 rfl ?_
    refine zg_S_29_2 O zd_S_sendInto_48 (v := .int r4) rfl ?_
    refine z_istore_n O (lv' := [(2, .int r4), (0, .ref (zq w 2)), (1, .ref (zq w 9))]) zd_S_sendInto_51 rfl (Nat.le_of_ble_eq_true rfl) rfl ?_
    refine z_aload_n O zd_S_sendInto_52 rfl 1 rfl ?_
    refine z_callri O hl0 (st := []) 2 3 (fs := zo2 w (zuf σ 2 3 r4)) rfl rfl (c_S_endOfFresh l w (zuf σ 2 3 r4) ko.1) zl_S_79 zm495 zms6 rfl rfl (Nat.le_of_ble_eq_true rfl) (Nat.le_of_ble_eq_true rfl) (Nat.le_of_ble_eq_true rfl) zd_S_sendInto_53 (fun r6 e7 => ?_)
    have ht := ht.trans (zlet_e e7)
    have ko := ko.2 r6 e7
    refine z_istore_n O (lv' := [(3, .int r6), (2, .int r4), (0, .ref (zq w 2)), (1, .ref (zq w 9))]) zd_S_sendInto_56 rfl (Nat.le_of_ble_eq_true rfl) rfl ?_
    refine z_aload_n O zd_S_sendInto_57 rfl 2 rfl ?_
    refine z_iload_n O zd_S_sendInto_58 rfl 0 rfl ?_
    refine zp_S_29_2 O zd_S_sendInto_59 ?_
    refine z_iload_n O zd_S_sendInto_62 rfl 0 rfl ?_
    refine z_iload_n O zd_S_sendInto_63 rfl 1 rfl ?_
    refine z_icmp_le O (tgt := 95) zd_S_sendInto_64 (by decide) (fun c8 => ?_) (fun c8 => ?_)
    · have ht := ht.trans (if_pos c8)
      refine z_iload_n O zd_S_sendInto_95 rfl 0 rfl ?_
      refine z_iload_n O zd_S_sendInto_96 rfl 1 rfl ?_
      refine z_isub O zd_S_sendInto_97 ?_
      exact E _ _ _ _ zd_S_sendInto_98 rfl ht.symm
    · have ht := ht.trans (if_neg c8)
      have ko := ko c8
      refine z_aload_n O zd_S_sendInto_67 rfl 2 rfl ?_
      refine z_iload_n O zd_S_sendInto_68 rfl 1 rfl ?_
      refine z_iload_n O zd_S_sendInto_69 rfl 0 rfl ?_
      refine z_callv O hl0 (st := []) 2 3 (fs := zo2 w (zuf (zuf σ 2 3 r4) 2 3 r6)) rfl rfl (c_S_noteSent l w (zuf (zuf σ 2 3 r4) 2 3 r6) r4 r6) zl_S_82 zm500 zms7 rfl rfl (Nat.le_of_ble_eq_true rfl) (Nat.le_of_ble_eq_true rfl) (Nat.le_of_ble_eq_true rfl) zd_S_sendInto_70 (fun u9 e10 => ?_)
      have ht := ht.trans (zlet_e e10)
      have ko := ko u9 e10
      refine z_aload_n O zd_S_sendInto_73 rfl 3 rfl ?_
      refine z_calli O hl0 (st := []) 9 2 (fs := zo9 w u9) rfl rfl (c_W_addRow_9 l w u9) zl_S_86 zm222 zm223 rfl rfl (Nat.le_of_ble_eq_true rfl) (Nat.le_of_ble_eq_true rfl) (Nat.le_of_ble_eq_true rfl) zd_S_sendInto_74 (fun r11 u12 e13 => ?_)
      have ht := ht.trans (zseq_e e13)
      have ko := ko r11 u12 e13
      refine z_istore O (lv' := [(4, .int r11), (3, .int r6), (2, .int r4), (0, .ref (zq w 2)), (1, .ref (zq w 9))]) zd_S_sendInto_77 (Nat.le_of_ble_eq_true rfl) rfl ?_
      refine z_aload_n O zd_S_sendInto_79 rfl 4 rfl ?_
      refine z_iload O zd_S_sendInto_80 0 rfl ?_
      refine z_iconst O (v := 0) zd_S_sendInto_82 (by decide) ?_
      refine z_iload_n O zd_S_sendInto_83 rfl 2 rfl ?_
      refine z_callv O hl0 (st := []) 9 2 (fs := zo9 w u12) rfl rfl (c_W_setCell_9 l w u12 r11 0 r4 ko.1) zl_S_91 zm226 zm227 rfl rfl (Nat.le_of_ble_eq_true rfl) (Nat.le_of_ble_eq_true rfl) (Nat.le_of_ble_eq_true rfl) zd_S_sendInto_84 (fun u14 e15 => ?_)
      have ht := ht.trans (zlet_e e15)
      have ko := ko.2 u14 e15
      refine z_aload_n O zd_S_sendInto_87 rfl 4 rfl ?_
      refine z_iload O zd_S_sendInto_88 0 rfl ?_
      refine z_iconst O (v := 1) zd_S_sendInto_90 (by decide) ?_
      refine z_iload_n O zd_S_sendInto_91 rfl 1 rfl ?_
      refine z_callv O hl0 (st := []) 9 2 (fs := zo9 w u14) rfl rfl (c_W_setCell_9 l w u14 r11 1 r6 ko) zl_S_91 zm226 zm227 rfl rfl (Nat.le_of_ble_eq_true rfl) (Nat.le_of_ble_eq_true rfl) (Nat.le_of_ble_eq_true rfl) zd_S_sendInto_92 (fun u16 e17 => ?_)
      have ht := ht.trans (zlet_e e17)
      refine z_iload_n O zd_S_sendInto_95 rfl 1 rfl ?_
      refine z_iload_n O zd_S_sendInto_96 rfl 2 rfl ?_
      refine z_isub O zd_S_sendInto_97 ?_
      exact E _ _ _ _ zd_S_sendInto_98 rfl ht.symm
  · have ht := ht.trans (if_neg c3)
    have ko := ko.2 c3
    refine z_aload_n O zd_S_sendInto_10 rfl 1 rfl ?_
    refine z_iload_n O zd_S_sendInto_11 rfl 0 rfl ?_
    refine z_aload_n O zd_S_sendInto_12 rfl 1 rfl ?_
    refine zg_S_29_2 O zd_S_sendInto_13 (v := .int (σ 2 3)) rfl ?_
    refine z_callri O hl0 (st := []) 2 3 (fs := zo2 w σ) rfl rfl (c_S_endOfRun l w σ r1 (σ 2 3) ko.1) zl_S_73 zm488 zms5 rfl rfl (Nat.le_of_ble_eq_true rfl) (Nat.le_of_ble_eq_true rfl) (Nat.le_of_ble_eq_true rfl) zd_S_sendInto_16 (fun r18 e19 => ?_)
    have ht := ht.trans (zlet_e e19)
    have ko := ko.2 r18 e19
    refine z_istore_n O (lv' := [(3, .int r18), (2, .int r1), (0, .ref (zq w 2)), (1, .ref (zq w 9))]) zd_S_sendInto_19 rfl (Nat.le_of_ble_eq_true rfl) rfl ?_
    refine z_aload_n O zd_S_sendInto_20 rfl 2 rfl ?_
    refine z_iload_n O zd_S_sendInto_21 rfl 0 rfl ?_
    refine zp_S_56_2 O zd_S_sendInto_22 ?_
    refine z_goto O (tgt := 62) zd_S_sendInto_25 (by decide) ?_
    refine z_iload_n O zd_S_sendInto_62 rfl 0 rfl ?_
    refine z_iload_n O zd_S_sendInto_63 rfl 1 rfl ?_
    refine z_icmp_le O (tgt := 95) zd_S_sendInto_64 (by decide) (fun c20 => ?_) (fun c20 => ?_)
    · have ht := ht.trans (if_pos c20)
      refine z_iload_n O zd_S_sendInto_95 rfl 0 rfl ?_
      refine z_iload_n O zd_S_sendInto_96 rfl 1 rfl ?_
      refine z_isub O zd_S_sendInto_97 ?_
      exact E _ _ _ _ zd_S_sendInto_98 rfl ht.symm
    · have ht := ht.trans (if_neg c20)
      have ko := ko c20
      refine z_aload_n O zd_S_sendInto_67 rfl 2 rfl ?_
      refine z_iload_n O zd_S_sendInto_68 rfl 1 rfl ?_
      refine z_iload_n O zd_S_sendInto_69 rfl 0 rfl ?_
      refine z_callv O hl0 (st := []) 2 3 (fs := zo2 w (zuf σ 2 12 r18)) rfl rfl (c_S_noteSent l w (zuf σ 2 12 r18) r1 r18) zl_S_82 zm500 zms7 rfl rfl (Nat.le_of_ble_eq_true rfl) (Nat.le_of_ble_eq_true rfl) (Nat.le_of_ble_eq_true rfl) zd_S_sendInto_70 (fun u21 e22 => ?_)
      have ht := ht.trans (zlet_e e22)
      have ko := ko u21 e22
      refine z_aload_n O zd_S_sendInto_73 rfl 3 rfl ?_
      refine z_calli O hl0 (st := []) 9 2 (fs := zo9 w u21) rfl rfl (c_W_addRow_9 l w u21) zl_S_86 zm222 zm223 rfl rfl (Nat.le_of_ble_eq_true rfl) (Nat.le_of_ble_eq_true rfl) (Nat.le_of_ble_eq_true rfl) zd_S_sendInto_74 (fun r23 u24 e25 => ?_)
      have ht := ht.trans (zseq_e e25)
      have ko := ko r23 u24 e25
      refine z_istore O (lv' := [(4, .int r23), (3, .int r18), (2, .int r1), (0, .ref (zq w 2)), (1, .ref (zq w 9))]) zd_S_sendInto_77 (Nat.le_of_ble_eq_true rfl) rfl ?_
      refine z_aload_n O zd_S_sendInto_79 rfl 4 rfl ?_
      refine z_iload O zd_S_sendInto_80 0 rfl ?_
      refine z_iconst O (v := 0) zd_S_sendInto_82 (by decide) ?_
      refine z_iload_n O zd_S_sendInto_83 rfl 2 rfl ?_
      refine z_callv O hl0 (st := []) 9 2 (fs := zo9 w u24) rfl rfl (c_W_setCell_9 l w u24 r23 0 r1 ko.1) zl_S_91 zm226 zm227 rfl rfl (Nat.le_of_ble_eq_true rfl) (Nat.le_of_ble_eq_true rfl) (Nat.le_of_ble_eq_true rfl) zd_S_sendInto_84 (fun u26 e27 => ?_)
      have ht := ht.trans (zlet_e e27)
      have ko := ko.2 u26 e27
      refine z_aload_n O zd_S_sendInto_87 rfl 4 rfl ?_
      refine z_iload O zd_S_sendInto_88 0 rfl ?_
      refine z_iconst O (v := 1) zd_S_sendInto_90 (by decide) ?_
      refine z_iload_n O zd_S_sendInto_91 rfl 1 rfl ?_
      refine z_callv O hl0 (st := []) 9 2 (fs := zo9 w u26) rfl rfl (c_W_setCell_9 l w u26 r23 1 r18 ko) zl_S_91 zm226 zm227 rfl rfl (Nat.le_of_ble_eq_true rfl) (Nat.le_of_ble_eq_true rfl) (Nat.le_of_ble_eq_true rfl) zd_S_sendInto_92 (fun u28 e29 => ?_)
      have ht := ht.trans (zlet_e e29)
      refine z_iload_n O zd_S_sendInto_95 rfl 1 rfl ?_
      refine z_iload_n O zd_S_sendInto_96 rfl 2 rfl ?_
      refine z_isub O zd_S_sendInto_97 ?_
      exact E _ _ _ _ zd_S_sendInto_98 rfl ht.symm
set_option maxHeartbeats 4000000 in
set_option maxRecDepth 100000 in
theorem c_T_passTick (l : Launch) (w : zWd) (σ : zSt) : zMi l ({ cls := "SluiceStream$Timer", name := "passTick", desc := "()Z" } : Jvm.MethodName) prog_6_method_2_code 1 0 0 .boolean w [.ref (zq w 5)] σ (fun r u => (r, u) = (f_T_passTick σ)) := by
  refine zMi_of (by decide +kernel) (Nat.le_of_ble_eq_true rfl) ?_
  intro K O hl0 E
  have ht : (f_T_passTick σ) = (f_T_passTick σ) := rfl
  refine z_sub (lv' := [(0, .ref (zq w 5))]) [0] rfl ?_
  refine z_aload_n O zd_T_passTick_0 rfl 0 rfl ?_
  refine z_dup O zd_T_passTick_1 rfl ?_
  refine zg_T_9_5 O zd_T_passTick_2 (v := .int (σ 5 0)) rfl ?_
  refine z_iconst O (v := 1) zd_T_passTick_5 (by decide) ?_
  refine z_iadd O zd_T_passTick_6 ?_
  refine zp_T_9_5 O zd_T_passTick_7 ?_
  refine z_aload_n O zd_T_passTick_10 rfl 0 rfl ?_
  refine zg_T_18_5 O zd_T_passTick_11 (v := .int (σ 5 2)) rfl ?_
  refine z_iconst O (v := (-1)) zd_T_passTick_14 (by decide) ?_
  refine z_icmp_eq O (tgt := 33) zd_T_passTick_15 (by decide) (fun c1 => ?_) (fun c1 => ?_)
  · have ht := ht.trans (if_pos c1)
    refine z_iconst O (v := 0) zd_T_passTick_33 (by decide) ?_
    exact E _ _ _ _ zd_T_passTick_34 rfl ht.symm
  · have ht := ht.trans (if_neg c1)
    refine z_aload_n O zd_T_passTick_18 rfl 0 rfl ?_
    refine zg_T_9_5 O zd_T_passTick_19 (v := .int ((σ 5 0) + 1)) rfl ?_
    refine z_aload_n O zd_T_passTick_22 rfl 0 rfl ?_
    refine zg_T_18_5 O zd_T_passTick_23 (v := .int (σ 5 2)) rfl ?_
    refine z_icmp_ne O (tgt := 33) zd_T_passTick_26 (by decide) (fun c2 => ?_) (fun c2 => ?_)
    · have ht := ht.trans (if_neg c2)
      refine z_iconst O (v := 0) zd_T_passTick_33 (by decide) ?_
      exact E _ _ _ _ zd_T_passTick_34 rfl ht.symm
    · have ht := ht.trans (if_pos c2)
      refine z_iconst O (v := 1) zd_T_passTick_29 (by decide) ?_
      refine z_goto O (tgt := 34) zd_T_passTick_30 (by decide) ?_
      exact E _ _ _ _ zd_T_passTick_34 rfl ht.symm
set_option maxHeartbeats 4000000 in
set_option maxRecDepth 100000 in
theorem c_S_halfOfFlying (l : Launch) (w : zWd) (σ : zSt) (ko : k_S_halfOfFlying σ) : zMi l ({ cls := "SluiceStream$Sender", name := "halfOfFlying", desc := "()I" } : Jvm.MethodName) prog_5_method_10_code 1 3 65 .int w [.ref (zq w 2)] σ (fun r u => r = (f_S_halfOfFlying σ) ∧ u = σ) := by
  refine zMi_of (by decide +kernel) (Nat.le_of_ble_eq_true rfl) ?_
  intro K O hl0 E
  have ht : (f_S_halfOfFlying σ) = (f_S_halfOfFlying σ) := rfl
  refine z_sub (lv' := [(0, .ref (zq w 2))]) [0] rfl ?_
  refine z_bipush O (v := 8) zd_S_halfOfFlying_0 (by decide) ?_
  refine z_aload_n O zd_S_halfOfFlying_2 rfl 0 rfl ?_
  refine z_callri O hl0 (st := [.int 8]) 2 3 (fs := zo2 w σ) rfl rfl (c_S_countFlying l w σ ko) zl_S_106 zm301 zm302 rfl rfl (Nat.le_of_ble_eq_true rfl) (Nat.le_of_ble_eq_true rfl) (Nat.le_of_ble_eq_true rfl) zd_S_halfOfFlying_3 (fun r1 e2 => ?_)
  have ht := ht.trans (zlet_e e2)
  refine z_iconst O (v := 2) zd_S_halfOfFlying_6 (by decide) ?_
  refine z_idiv O zd_S_halfOfFlying_7 (by decide) ?_
  refine z_max O zm483 zm262 zm13 zm263 (Nat.le_of_ble_eq_true rfl) (Nat.le_of_ble_eq_true rfl) zd_S_halfOfFlying_8 ?_
  exact E _ _ _ _ zd_S_halfOfFlying_11 rfl ⟨ht.symm, rfl⟩
set_option maxHeartbeats 4000000 in
set_option maxRecDepth 100000 in
theorem c_T_forgetTiming (l : Launch) (w : zWd) (σ : zSt) : zMv l ({ cls := "SluiceStream$Timer", name := "forgetTiming", desc := "()V" } : Jvm.MethodName) prog_6_method_8_code 1 0 0 w [.ref (zq w 5)] σ (fun u => u = (f_T_forgetTiming σ)) := by
  refine zMv_of (by decide +kernel) (Nat.le_of_ble_eq_true rfl) ?_
  intro K O hl0 E
  have ht : (f_T_forgetTiming σ) = (f_T_forgetTiming σ) := rfl
  refine z_sub (lv' := [(0, .ref (zq w 5))]) [0] rfl ?_
  refine z_aload_n O zd_T_forgetTiming_0 rfl 0 rfl ?_
  refine z_iconst O (v := (-1)) zd_T_forgetTiming_1 (by decide) ?_
  refine zp_T_21_5 O zd_T_forgetTiming_2 ?_
  exact E _ _ _ zd_T_forgetTiming_5 ht.symm
set_option maxHeartbeats 4000000 in
set_option maxRecDepth 100000 in
theorem c_T_stop (l : Launch) (w : zWd) (σ : zSt) : zMv l ({ cls := "SluiceStream$Timer", name := "stop", desc := "()V" } : Jvm.MethodName) prog_6_method_5_code 1 0 0 w [.ref (zq w 5)] σ (fun u => u = (f_T_stop σ)) := by
  refine zMv_of (by decide +kernel) (Nat.le_of_ble_eq_true rfl) ?_
  intro K O hl0 E
  have ht : (f_T_stop σ) = (f_T_stop σ) := rfl
  refine z_sub (lv' := [(0, .ref (zq w 5))]) [0] rfl ?_
  refine z_aload_n O zd_T_stop_0 rfl 0 rfl ?_
  refine z_iconst O (v := (-1)) zd_T_stop_1 (by decide) ?_
  refine zp_T_18_5 O zd_T_stop_2 ?_
  exact E _ _ _ zd_T_stop_5 ht.symm
set_option maxHeartbeats 4000000 in
set_option maxRecDepth 100000 in
theorem c_T_backOff (l : Launch) (w : zWd) (σ : zSt) : zMv l ({ cls := "SluiceStream$Timer", name := "backOff", desc := "()V" } : Jvm.MethodName) prog_6_method_6_code 1 1 21 w [.ref (zq w 5)] σ (fun u => u = (f_T_backOff σ)) := by
  refine zMv_of (by decide +kernel) (Nat.le_of_ble_eq_true rfl) ?_
  intro K O hl0 E
  have ht : (f_T_backOff σ) = (f_T_backOff σ) := rfl
  refine z_sub (lv' := [(0, .ref (zq w 5))]) [0] rfl ?_
  refine z_aload_n O zd_T_backOff_0 rfl 0 rfl ?_
  refine z_bipush O (v := 64) zd_T_backOff_1 (by decide) ?_
  refine z_iconst O (v := 2) zd_T_backOff_3 (by decide) ?_
  refine z_aload_n O zd_T_backOff_4 rfl 0 rfl ?_
  refine zg_T_15_5 O zd_T_backOff_5 (v := .int (σ 5 1)) rfl ?_
  refine z_imul O zd_T_backOff_8 ?_
  refine z_min O zm543 zm491 zm13 zm492 (Nat.le_of_ble_eq_true rfl) (Nat.le_of_ble_eq_true rfl) zd_T_backOff_9 ?_
  refine zp_T_15_5 O zd_T_backOff_12 ?_
  refine z_aload_n O zd_T_backOff_15 rfl 0 rfl ?_
  refine z_callv O hl0 (st := []) 5 4 (fs := zo5 w (zuf σ 5 1 (if (2 * (σ 5 1)) < 64 then (2 * (σ 5 1)) else 64))) rfl rfl (c_T_forgetTiming l w (zuf σ 5 1 (if (2 * (σ 5 1)) < 64 then (2 * (σ 5 1)) else 64))) zl_T_46 zm545 zm546 rfl rfl (Nat.le_of_ble_eq_true rfl) (Nat.le_of_ble_eq_true rfl) (Nat.le_of_ble_eq_true rfl) zd_T_backOff_16 (fun u1 e2 => ?_)
  have ht := ht.trans (zlet_e e2)
  refine z_aload_n O zd_T_backOff_19 rfl 0 rfl ?_
  refine z_callv O hl0 (st := []) 5 4 (fs := zo5 w u1) rfl rfl (c_T_stop l w u1) zl_T_49 zm549 zm550 rfl rfl (Nat.le_of_ble_eq_true rfl) (Nat.le_of_ble_eq_true rfl) (Nat.le_of_ble_eq_true rfl) zd_T_backOff_20 (fun u3 e4 => ?_)
  have ht := ht.trans (zlet_e e4)
  exact E _ _ _ zd_T_backOff_23 ht.symm
set_option maxHeartbeats 4000000 in
set_option maxRecDepth 100000 in
theorem c_S_startOver (l : Launch) (w : zWd) (σ : zSt) (ko : k_S_startOver σ) : zMv l ({ cls := "SluiceStream$Sender", name := "startOver", desc := "()V" } : Jvm.MethodName) prog_5_method_9_code 1 4 85 w [.ref (zq w 2)] σ (fun u => u = (f_S_startOver σ)) := by
  refine zMv_of (by decide +kernel) (Nat.le_of_ble_eq_true rfl) ?_
  intro K O hl0 E
  have ht : (f_S_startOver σ) = (f_S_startOver σ) := rfl
  refine z_sub (lv' := [(0, .ref (zq w 2))]) [0] rfl ?_
  refine z_aload_n O zd_S_startOver_0 rfl 0 rfl ?_
  refine z_aload_n O zd_S_startOver_1 rfl 0 rfl ?_
  refine z_callri O hl0 (st := [.ref (zq w 2)]) 2 3 (fs := zo2 w σ) rfl rfl (c_S_halfOfFlying l w σ ko.1) zl_S_123 zm537 zms9 rfl rfl (Nat.le_of_ble_eq_true rfl) (Nat.le_of_ble_eq_true rfl) (Nat.le_of_ble_eq_true rfl) zd_S_startOver_2 (fun r1 e2 => ?_)
  have ht := ht.trans (zlet_e e2)
  have ko := ko.2 r1 e2
  refine zp_S_44_2 O zd_S_startOver_5 ?_
  refine z_aload_n O zd_S_startOver_8 rfl 0 rfl ?_
  refine z_iconst O (v := 4) zd_S_startOver_9 (by decide) ?_
  refine zp_S_41_2 O zd_S_startOver_10 ?_
  refine z_aload_n O zd_S_startOver_13 rfl 0 rfl ?_
  refine zg_S_21_2 O zd_S_startOver_14 (v := .ref (zq w 5)) rfl ?_
  refine z_callv O hl0 (st := []) 5 4 (fs := zo5 w (zuf (zuf σ 2 8 r1) 2 7 4)) rfl rfl (c_T_backOff l w (zuf (zuf σ 2 8 r1) 2 7 4)) zl_S_126 zm540 zm541 rfl rfl (Nat.le_of_ble_eq_true rfl) (Nat.le_of_ble_eq_true rfl) (Nat.le_of_ble_eq_true rfl) zd_S_startOver_17 (fun u3 e4 => ?_)
  have ht := ht.trans (zlet_e e4)
  have ko := ko u3 e4
  refine z_aload_n O zd_S_startOver_20 rfl 0 rfl ?_
  refine zg_S_12_2 O zd_S_startOver_21 (v := .ref (zq w 3)) rfl ?_
  refine z_aload_n O zd_S_startOver_24 rfl 0 rfl ?_
  refine zg_S_25_2 O zd_S_startOver_25 (v := .int (u3 2 2)) rfl ?_
  refine z_aload_n O zd_S_startOver_28 rfl 0 rfl ?_
  refine zg_S_32_2 O zd_S_startOver_29 (v := .int (u3 2 4)) rfl ?_
  refine z_callv O hl0 (st := []) 3 0 (fs := zo3 w u3) rfl rfl (c_P_empty_3 l w u3 (u3 2 2) (u3 2 4) ko) zl_S_129 zm553 zm554 rfl rfl (Nat.le_of_ble_eq_true rfl) (Nat.le_of_ble_eq_true rfl) (Nat.le_of_ble_eq_true rfl) zd_S_startOver_32 (fun u5 e6 => ?_)
  have ht := ht.trans (zlet_e e6)
  refine z_aload_n O zd_S_startOver_35 rfl 0 rfl ?_
  refine z_aload_n O zd_S_startOver_36 rfl 0 rfl ?_
  refine zg_S_25_2 O zd_S_startOver_37 (v := .int (u5 2 2)) rfl ?_
  refine zp_S_29_2 O zd_S_startOver_40 ?_
  refine z_aload_n O zd_S_startOver_43 rfl 0 rfl ?_
  refine z_iconst O (v := (-1)) zd_S_startOver_44 (by decide) ?_
  refine zp_S_53_2 O zd_S_startOver_45 ?_
  refine z_aload_n O zd_S_startOver_48 rfl 0 rfl ?_
  refine z_iconst O (v := 0) zd_S_startOver_49 (by decide) ?_
  refine zp_S_50_2 O zd_S_startOver_50 ?_
  exact E _ _ _ zd_S_startOver_53 ht.symm
set_option maxHeartbeats 4000000 in
set_option maxRecDepth 100000 in
theorem L_S_passTicks_4 {K : zCx} {w : zWd} {l : Launch} (O : zOk K w prog_5_method_8_code "SluiceStream$Sender" 4 5 105) (hl0 : kl K = l) (x1 : Int32) : ∀ (m : Nat) (σ : zSt) (x2 x3 : Int32), kl_S_passTicks_4 x1 m σ x2 x3 → (∀ r, r = (l_S_passTicks_4 x1 m σ x2 x3) → Z K w r.2 [(2, .int r.1)] [] 32) → Z K w σ [(0, .ref (zq w 2)), (1, .int x1), (2, .int x2), (3, .int x3)] [] 4 := by
  intro m
  induction m with
  | zero => intro σ x2 x3 ko; exact ko.elim
  | succ m ih =>
    intro σ x2 x3 ko kk
    have ht : l_S_passTicks_4 x1 (m + 1) σ x2 x3 = l_S_passTicks_4 x1 (m + 1) σ x2 x3 := rfl
    refine z_iload_n O zd_S_passTicks_4 rfl 3 rfl ?_
    refine z_iload_n O zd_S_passTicks_5 rfl 1 rfl ?_
    refine z_icmp_ge O (tgt := 32) zd_S_passTicks_6 (by decide) (fun c1 => ?_) (fun c1 => ?_)
    · have ht := ht.trans (if_pos c1)
      refine z_sub (lv' := [(2, .int x2)]) [2] rfl ?_
      exact kk (x2, σ) ht.symm
    · have ht := ht.trans (if_neg c1)
      have ko := ko c1
      refine z_aload_n O zd_S_passTicks_9 rfl 0 rfl ?_
      refine zg_S_21_2 O zd_S_passTicks_10 (v := .ref (zq w 5)) rfl ?_
      refine z_calli O hl0 (st := []) 5 4 (fs := zo5 w σ) rfl rfl (c_T_passTick l w σ) zl_S_116 zm528 zm529 rfl rfl (Nat.le_of_ble_eq_true rfl) (Nat.le_of_ble_eq_true rfl) (Nat.le_of_ble_eq_true rfl) zd_S_passTicks_13 (fun r2 u3 e4 => ?_)
      have ht := ht.trans (zseq_e e4)
      have ko := ko r2 u3 e4
      refine z_if_eq O (tgt := 26) zd_S_passTicks_16 (by decide) (fun c5 => ?_) (fun c5 => ?_)
      · have ht := ht.trans (if_pos c5)
        have ko := ko.1 c5
        refine z_iinc O (v := (x3 + 1)) (lv' := [(3, .int (x3 + 1)), (0, .ref (zq w 2)), (1, .int x1), (2, .int x2)]) zd_S_passTicks_26 3 rfl rfl (Nat.le_of_ble_eq_true rfl) rfl ?_
        refine z_goto O (tgt := 4) zd_S_passTicks_29 (by decide) ?_
        refine z_sub (lv' := [(0, .ref (zq w 2)), (1, .int x1), (2, .int x2), (3, .int (x3 + 1))]) [1, 2, 3, 0] rfl ?_
        exact ih u3 x2 (x3 + 1) ko (fun r e => kk r (e.trans ht.symm))
      · have ht := ht.trans (if_neg c5)
        have ko := ko.2 c5
        refine z_aload_n O zd_S_passTicks_19 rfl 0 rfl ?_
        refine z_callv O hl0 (st := []) 2 3 (fs := zo2 w u3) rfl rfl (c_S_startOver l w u3 ko.1) zl_S_120 zm533 zms8 rfl rfl (Nat.le_of_ble_eq_true rfl) (Nat.le_of_ble_eq_true rfl) (Nat.le_of_ble_eq_true rfl) zd_S_passTicks_20 (fun u6 e7 => ?_)
        have ht := ht.trans (zlet_e e7)
        have ko := ko.2 u6 e7
        refine z_iinc O (v := (x2 + 1)) (lv' := [(2, .int (x2 + 1)), (0, .ref (zq w 2)), (1, .int x1), (3, .int x3)]) zd_S_passTicks_23 2 rfl rfl (Nat.le_of_ble_eq_true rfl) rfl ?_
        refine z_iinc O (v := (x3 + 1)) (lv' := [(3, .int (x3 + 1)), (2, .int (x2 + 1)), (0, .ref (zq w 2)), (1, .int x1)]) zd_S_passTicks_26 3 rfl rfl (Nat.le_of_ble_eq_true rfl) rfl ?_
        refine z_goto O (tgt := 4) zd_S_passTicks_29 (by decide) ?_
        refine z_sub (lv' := [(0, .ref (zq w 2)), (1, .int x1), (2, .int (x2 + 1)), (3, .int (x3 + 1))]) [2, 3, 1, 0] rfl ?_
        exact ih u6 (x2 + 1) (x3 + 1) ko (fun r e => kk r (e.trans ht.symm))
set_option maxHeartbeats 4000000 in
set_option maxRecDepth 100000 in
theorem c_S_passTicks (l : Launch) (w : zWd) (σ : zSt) (a1 : Int32) (ko : k_S_passTicks σ a1) : zMi l ({ cls := "SluiceStream$Sender", name := "passTicks", desc := "(I)I" } : Jvm.MethodName) prog_5_method_8_code 4 5 105 .int w [.ref (zq w 2), .int a1] σ (fun r u => (r, u) = (f_S_passTicks σ a1)) := by
  refine zMi_of (by decide +kernel) (Nat.le_of_ble_eq_true rfl) ?_
  intro K O hl0 E
  have ht : (f_S_passTicks σ a1) = (f_S_passTicks σ a1) := rfl
  refine z_sub (lv' := [(0, .ref (zq w 2)), (1, .int a1)]) [0, 1] rfl ?_
  refine z_iconst O (v := 0) zd_S_passTicks_0 (by decide) ?_
  refine z_istore_n O (lv' := [(2, .int 0), (0, .ref (zq w 2)), (1, .int a1)]) zd_S_passTicks_1 rfl (Nat.le_of_ble_eq_true rfl) rfl ?_
  refine z_iconst O (v := 0) zd_S_passTicks_2 (by decide) ?_
  refine z_istore_n O (lv' := [(3, .int 0), (2, .int 0), (0, .ref (zq w 2)), (1, .int a1)]) zd_S_passTicks_3 rfl (Nat.le_of_ble_eq_true rfl) rfl ?_
  refine z_sub (lv' := [(0, .ref (zq w 2)), (1, .int a1), (2, .int 0), (3, .int 0)]) [2, 3, 1, 0] rfl ?_
  refine L_S_passTicks_4 O hl0 a1 (((a1).toInt - (0 : Int32).toInt).toNat + 2) σ 0 0 ko (fun r8 er8 => ?_)
  have ht := ht.trans (zlet_e er8)
  refine z_iload_n O zd_S_passTicks_32 rfl 0 rfl ?_
  exact E _ _ _ _ zd_S_passTicks_33 rfl ht.symm
set_option maxHeartbeats 4000000 in
set_option maxRecDepth 100000 in
theorem c_T_takeSample (l : Launch) (w : zWd) (σ : zSt) (a1 : Int32) : zMv l ({ cls := "SluiceStream$Timer", name := "takeSample", desc := "(I)V" } : Jvm.MethodName) prog_6_method_10_code 3 1 21 w [.ref (zq w 5), .int a1] σ (fun u => u = (f_T_takeSample σ a1)) := by
  refine zMv_of (by decide +kernel) (Nat.le_of_ble_eq_true rfl) ?_
  intro K O hl0 E
  have ht : (f_T_takeSample σ a1) = (f_T_takeSample σ a1) := rfl
  refine z_sub (lv' := [(0, .ref (zq w 5)), (1, .int a1)]) [0, 1] rfl ?_
  refine z_aload_n O zd_T_takeSample_0 rfl 0 rfl ?_
  refine zg_T_33_5 O zd_T_takeSample_1 (v := .int (σ 5 7)) rfl ?_
  refine z_if_eq O (tgt := 50) zd_T_takeSample_4 (by decide) (fun c1 => ?_) (fun c1 => ?_)
  · have ht := ht.trans (if_pos c1)
    refine z_aload_n O zd_T_takeSample_50 rfl 0 rfl ?_
    refine z_bipush O (v := 8) zd_T_takeSample_51 (by decide) ?_
    refine z_iload_n O zd_T_takeSample_53 rfl 1 rfl ?_
    refine z_imul O zd_T_takeSample_54 ?_
    refine zp_T_24_5 O zd_T_takeSample_55 ?_
    refine z_aload_n O zd_T_takeSample_58 rfl 0 rfl ?_
    refine z_iconst O (v := 2) zd_T_takeSample_59 (by decide) ?_
    refine z_iload_n O zd_T_takeSample_60 rfl 1 rfl ?_
    refine z_imul O zd_T_takeSample_61 ?_
    refine zp_T_27_5 O zd_T_takeSample_62 ?_
    refine z_aload_n O zd_T_takeSample_65 rfl 0 rfl ?_
    refine z_iconst O (v := 1) zd_T_takeSample_66 (by decide) ?_
    refine zp_T_33_5 O zd_T_takeSample_67 rfl rfl ?_
    refine z_aload_n O zd_T_takeSample_70 rfl 0 rfl ?_
    refine zg_T_24_5 O zd_T_takeSample_71 (v := .int (8 * a1)) rfl ?_
    refine z_bipush O (v := 8) zd_T_takeSample_74 (by decide) ?_
    refine z_idiv O zd_T_takeSample_76 (by decide) ?_
    refine z_aload_n O zd_T_takeSample_77 rfl 0 rfl ?_
    refine zg_T_27_5 O zd_T_takeSample_78 (v := .int (2 * a1)) rfl ?_
    refine z_iconst O (v := 1) zd_T_takeSample_81 (by decide) ?_
    refine z_max O zm637 zm262 zm13 zm263 (Nat.le_of_ble_eq_true rfl) (Nat.le_of_ble_eq_true rfl) zd_T_takeSample_82 ?_
    refine z_iadd O zd_T_takeSample_85 ?_
    refine z_istore_n O (lv' := [(2, .int (((8 * a1) / 8) + (if (2 * a1) < 1 then 1 else (2 * a1)))), (0, .ref (zq w 5)), (1, .int a1)]) zd_T_takeSample_86 rfl (Nat.le_of_ble_eq_true rfl) rfl ?_
    refine z_aload_n O zd_T_takeSample_87 rfl 1 rfl ?_
    refine z_bipush O (v := 64) zd_T_takeSample_88 (by decide) ?_
    refine z_iconst O (v := 2) zd_T_takeSample_90 (by decide) ?_
    refine z_iload_n O zd_T_takeSample_91 rfl 0 rfl ?_
    refine z_max O zm637 zm262 zm13 zm263 (Nat.le_of_ble_eq_true rfl) (Nat.le_of_ble_eq_true rfl) zd_T_takeSample_92 ?_
    refine z_min O zm543 zm491 zm13 zm492 (Nat.le_of_ble_eq_true rfl) (Nat.le_of_ble_eq_true rfl) zd_T_takeSample_95 ?_
    refine zp_T_15_5 O zd_T_takeSample_98 ?_
    exact E _ _ _ zd_T_takeSample_101 ht.symm
  · have ht := ht.trans (if_neg c1)
    refine z_iload_n O zd_T_takeSample_7 rfl 1 rfl ?_
    refine z_aload_n O zd_T_takeSample_8 rfl 0 rfl ?_
    refine zg_T_24_5 O zd_T_takeSample_9 (v := .int (σ 5 4)) rfl ?_
    refine z_bipush O (v := 8) zd_T_takeSample_12 (by decide) ?_
    refine z_idiv O zd_T_takeSample_14 (by decide) ?_
    refine z_isub O zd_T_takeSample_15 ?_
    refine z_istore_n O (lv' := [(2, .int (a1 - ((σ 5 4) / 8))), (0, .ref (zq w 5)), (1, .int a1)]) zd_T_takeSample_16 rfl (Nat.le_of_ble_eq_true rfl) rfl ?_
    refine z_aload_n O zd_T_takeSample_17 rfl 1 rfl ?_
    refine z_dup O zd_T_takeSample_18 rfl ?_
    refine zg_T_24_5 O zd_T_takeSample_19 (v := .int (σ 5 4)) rfl ?_
    refine z_iload_n O zd_T_takeSample_22 rfl 0 rfl ?_
    refine z_iadd O zd_T_takeSample_23 ?_
    refine zp_T_24_5 O zd_T_takeSample_24 ?_
    refine z_aload_n O zd_T_takeSample_27 rfl 1 rfl ?_
    refine z_dup O zd_T_takeSample_28 rfl ?_
    refine zg_T_27_5 O zd_T_takeSample_29 (v := .int (σ 5 5)) rfl ?_
    refine z_iload_n O zd_T_takeSample_32 rfl 0 rfl ?_
    refine z_abs O zm634 zm635 zm13 zm636 (Nat.le_of_ble_eq_true rfl) (Nat.le_of_ble_eq_true rfl) zd_T_takeSample_33 ?_
    refine z_aload_n O zd_T_takeSample_36 rfl 1 rfl ?_
    refine zg_T_27_5 O zd_T_takeSample_37 (v := .int (σ 5 5)) rfl ?_
    refine z_iconst O (v := 4) zd_T_takeSample_40 (by decide) ?_
    refine z_idiv O zd_T_takeSample_41 (by decide) ?_
    refine z_isub O zd_T_takeSample_42 ?_
    refine z_iadd O zd_T_takeSample_43 ?_
    refine zp_T_27_5 O zd_T_takeSample_44 ?_
    refine z_goto O (tgt := 70) zd_T_takeSample_47 (by decide) ?_
    refine z_aload_n O zd_T_takeSample_70 rfl 1 rfl ?_
    refine zg_T_24_5 O zd_T_takeSample_71 (v := .int ((σ 5 4) + (a1 - ((σ 5 4) / 8)))) rfl ?_
    refine z_bipush O (v := 8) zd_T_takeSample_74 (by decide) ?_
    refine z_idiv O zd_T_takeSample_76 (by decide) ?_
    refine z_aload_n O zd_T_takeSample_77 rfl 1 rfl ?_
    refine zg_T_27_5 O zd_T_takeSample_78 (v := .int ((σ 5 5) + ((if 0 ≤ (a1 - ((σ 5 4) / 8)) then (a1 - ((σ 5 4) / 8)) else 0 - (a1 - ((σ 5 4) / 8))) - ((σ 5 5) / 4)))) rfl ?_
    refine z_iconst O (v := 1) zd_T_takeSample_81 (by decide) ?_
    refine z_max O zm637 zm262 zm13 zm263 (Nat.le_of_ble_eq_true rfl) (Nat.le_of_ble_eq_true rfl) zd_T_takeSample_82 ?_
    refine z_iadd O zd_T_takeSample_85 ?_
    refine z_istore_n O (lv' := [(2, .int ((((σ 5 4) + (a1 - ((σ 5 4) / 8))) / 8) + (if ((σ 5 5) + ((if 0 ≤ (a1 - ((σ 5 4) / 8)) then (a1 - ((σ 5 4) / 8)) else 0 - (a1 - ((σ 5 4) / 8))) - ((σ 5 5) / 4))) < 1 then 1 else ((σ 5 5) + ((if 0 ≤ (a1 - ((σ 5 4) / 8)) then (a1 - ((σ 5 4) / 8)) else 0 - (a1 - ((σ 5 4) / 8))) - ((σ 5 5) / 4)))))), (0, .ref (zq w 5)), (1, .int a1)]) zd_T_takeSample_86 rfl (Nat.le_of_ble_eq_true rfl) rfl ?_
    refine z_aload_n O zd_T_takeSample_87 rfl 1 rfl ?_
    refine z_bipush O (v := 64) zd_T_takeSample_88 (by decide) ?_
    refine z_iconst O (v := 2) zd_T_takeSample_90 (by decide) ?_
    refine z_iload_n O zd_T_takeSample_91 rfl 0 rfl ?_
    refine z_max O zm637 zm262 zm13 zm263 (Nat.le_of_ble_eq_true rfl) (Nat.le_of_ble_eq_true rfl) zd_T_takeSample_92 ?_
    refine z_min O zm543 zm491 zm13 zm492 (Nat.le_of_ble_eq_true rfl) (Nat.le_of_ble_eq_true rfl) zd_T_takeSample_95 ?_
    refine zp_T_15_5 O zd_T_takeSample_98 ?_
    exact E _ _ _ zd_T_takeSample_101 ht.symm
set_option maxHeartbeats 4000000 in
set_option maxRecDepth 100000 in
theorem c_T_endTiming (l : Launch) (w : zWd) (σ : zSt) (a1 : Int32) : zMv l ({ cls := "SluiceStream$Timer", name := "endTiming", desc := "(I)V" } : Jvm.MethodName) prog_6_method_9_code 2 2 43 w [.ref (zq w 5), .int a1] σ (fun u => u = (f_T_endTiming σ a1)) := by
  refine zMv_of (by decide +kernel) (Nat.le_of_ble_eq_true rfl) ?_
  intro K O hl0 E
  have ht : (f_T_endTiming σ a1) = (f_T_endTiming σ a1) := rfl
  refine z_sub (lv' := [(0, .ref (zq w 5)), (1, .int a1)]) [0, 1] rfl ?_
  refine z_aload_n O zd_T_endTiming_0 rfl 0 rfl ?_
  refine zg_T_21_5 O zd_T_endTiming_1 (v := .int (σ 5 3)) rfl ?_
  refine z_iconst O (v := (-1)) zd_T_endTiming_4 (by decide) ?_
  refine z_icmp_eq O (tgt := 33) zd_T_endTiming_5 (by decide) (fun c1 => ?_) (fun c1 => ?_)
  · have ht := ht.trans (if_pos c1)
    exact E _ _ _ zd_T_endTiming_33 ht.symm
  · have ht := ht.trans (if_neg c1)
    refine z_iload_n O zd_T_endTiming_8 rfl 1 rfl ?_
    refine z_aload_n O zd_T_endTiming_9 rfl 0 rfl ?_
    refine zg_T_21_5 O zd_T_endTiming_10 (v := .int (σ 5 3)) rfl ?_
    refine z_icmp_lt O (tgt := 33) zd_T_endTiming_13 (by decide) (fun c2 => ?_) (fun c2 => ?_)
    · have ht := ht.trans (if_pos c2)
      exact E _ _ _ zd_T_endTiming_33 ht.symm
    · have ht := ht.trans (if_neg c2)
      refine z_aload_n O zd_T_endTiming_16 rfl 0 rfl ?_
      refine z_aload_n O zd_T_endTiming_17 rfl 0 rfl ?_
      refine zg_T_9_5 O zd_T_endTiming_18 (v := .int (σ 5 0)) rfl ?_
      refine z_aload_n O zd_T_endTiming_21 rfl 0 rfl ?_
      refine zg_T_30_5 O zd_T_endTiming_22 (v := .int (σ 5 6)) rfl ?_
      refine z_isub O zd_T_endTiming_25 ?_
      refine z_callv O hl0 (st := []) 5 4 (fs := zo5 w σ) rfl rfl (c_T_takeSample l w σ ((σ 5 0) - (σ 5 6))) zl_T_52 zm632 zms11 rfl rfl (Nat.le_of_ble_eq_true rfl) (Nat.le_of_ble_eq_true rfl) (Nat.le_of_ble_eq_true rfl) zd_T_endTiming_26 (fun u3 e4 => ?_)
      have ht := ht.trans (zlet_e e4)
      refine z_aload_n O zd_T_endTiming_29 rfl 0 rfl ?_
      refine z_callv O hl0 (st := []) 5 4 (fs := zo5 w u3) rfl rfl (c_T_forgetTiming l w u3) zl_T_46 zm545 zm546 rfl rfl (Nat.le_of_ble_eq_true rfl) (Nat.le_of_ble_eq_true rfl) (Nat.le_of_ble_eq_true rfl) zd_T_endTiming_30 (fun u5 e6 => ?_)
      have ht := ht.trans (zlet_e e6)
      exact E _ _ _ zd_T_endTiming_33 ht.symm
set_option maxHeartbeats 4000000 in
set_option maxRecDepth 100000 in
theorem c_S_growCongestion (l : Launch) (w : zWd) (σ : zSt) (ko : k_S_growCongestion σ) : zMv l ({ cls := "SluiceStream$Sender", name := "growCongestion", desc := "()V" } : Jvm.MethodName) prog_5_method_13_code 2 1 21 w [.ref (zq w 2)] σ (fun u => u = (f_S_growCongestion σ)) := by
  refine zMv_of (by decide +kernel) (Nat.le_of_ble_eq_true rfl) ?_
  intro K O hl0 E
  have ht : (f_S_growCongestion σ) = (f_S_growCongestion σ) := rfl
  refine z_sub (lv' := [(0, .ref (zq w 2))]) [0] rfl ?_
  refine z_iconst O (v := 1) zd_S_growCongestion_0 (by decide) ?_
  refine z_istore_n O (lv' := [(1, .int 1), (0, .ref (zq w 2))]) zd_S_growCongestion_1 rfl (Nat.le_of_ble_eq_true rfl) rfl ?_
  refine z_aload_n O zd_S_growCongestion_2 rfl 1 rfl ?_
  refine zg_S_41_2 O zd_S_growCongestion_3 (v := .int (σ 2 7)) rfl ?_
  refine z_aload_n O zd_S_growCongestion_6 rfl 1 rfl ?_
  refine zg_S_44_2 O zd_S_growCongestion_7 (v := .int (σ 2 8)) rfl ?_
  refine z_icmp_ge O (tgt := 18) zd_S_growCongestion_10 (by decide) (fun c1 => ?_) (fun c1 => ?_)
  · have ht := ht.trans (if_pos c1)
    have ko := ko c1
    refine z_aload_n O zd_S_growCongestion_18 rfl 1 rfl ?_
    refine zg_S_41_2 O zd_S_growCongestion_19 (v := .int (σ 2 7)) rfl ?_
    refine z_if_le O (tgt := 37) zd_S_growCongestion_22 (by decide) (fun c2 => ?_) (fun c2 => ?_)
    · have ht := ht.trans (if_pos c2)
      refine z_aload_n O zd_S_growCongestion_37 rfl 1 rfl ?_
      refine z_sipush O (v := 256) zd_S_growCongestion_38 (by decide) ?_
      refine z_aload_n O zd_S_growCongestion_41 rfl 1 rfl ?_
      refine zg_S_41_2 O zd_S_growCongestion_42 (v := .int (σ 2 7)) rfl ?_
      refine z_iload_n O zd_S_growCongestion_45 rfl 0 rfl ?_
      refine z_iadd O zd_S_growCongestion_46 ?_
      refine z_min O zm490 zm491 zm13 zm492 (Nat.le_of_ble_eq_true rfl) (Nat.le_of_ble_eq_true rfl) zd_S_growCongestion_47 ?_
      refine zp_S_41_2 O zd_S_growCongestion_50 ?_
      exact E _ _ _ zd_S_growCongestion_53 ht.symm
    · have ht := ht.trans (if_neg c2)
      have ko := ko c2
      refine z_iconst O (v := 1) zd_S_growCongestion_25 (by decide) ?_
      refine z_bipush O (v := 16) zd_S_growCongestion_26 (by decide) ?_
      refine z_aload_n O zd_S_growCongestion_28 rfl 1 rfl ?_
      refine zg_S_41_2 O zd_S_growCongestion_29 (v := .int (σ 2 7)) rfl ?_
      have b3 := ko
      refine z_idiv O zd_S_growCongestion_32 b3 ?_
      refine z_max O zm483 zm262 zm13 zm263 (Nat.le_of_ble_eq_true rfl) (Nat.le_of_ble_eq_true rfl) zd_S_growCongestion_33 ?_
      refine z_istore_n O (lv' := [(1, .int (if 1 < (16 / (σ 2 7)) then (16 / (σ 2 7)) else 1)), (0, .ref (zq w 2))]) zd_S_growCongestion_36 rfl (Nat.le_of_ble_eq_true rfl) rfl ?_
      refine z_aload_n O zd_S_growCongestion_37 rfl 1 rfl ?_
      refine z_sipush O (v := 256) zd_S_growCongestion_38 (by decide) ?_
      refine z_aload_n O zd_S_growCongestion_41 rfl 1 rfl ?_
      refine zg_S_41_2 O zd_S_growCongestion_42 (v := .int (σ 2 7)) rfl ?_
      refine z_iload_n O zd_S_growCongestion_45 rfl 0 rfl ?_
      refine z_iadd O zd_S_growCongestion_46 ?_
      refine z_min O zm490 zm491 zm13 zm492 (Nat.le_of_ble_eq_true rfl) (Nat.le_of_ble_eq_true rfl) zd_S_growCongestion_47 ?_
      refine zp_S_41_2 O zd_S_growCongestion_50 ?_
      exact E _ _ _ zd_S_growCongestion_53 ht.symm
  · have ht := ht.trans (if_neg c1)
    refine z_iconst O (v := 4) zd_S_growCongestion_13 (by decide) ?_
    refine z_istore_n O (lv' := [(1, .int 4), (0, .ref (zq w 2))]) zd_S_growCongestion_14 rfl (Nat.le_of_ble_eq_true rfl) rfl ?_
    refine z_goto O (tgt := 37) zd_S_growCongestion_15 (by decide) ?_
    refine z_aload_n O zd_S_growCongestion_37 rfl 1 rfl ?_
    refine z_sipush O (v := 256) zd_S_growCongestion_38 (by decide) ?_
    refine z_aload_n O zd_S_growCongestion_41 rfl 1 rfl ?_
    refine zg_S_41_2 O zd_S_growCongestion_42 (v := .int (σ 2 7)) rfl ?_
    refine z_iload_n O zd_S_growCongestion_45 rfl 0 rfl ?_
    refine z_iadd O zd_S_growCongestion_46 ?_
    refine z_min O zm490 zm491 zm13 zm492 (Nat.le_of_ble_eq_true rfl) (Nat.le_of_ble_eq_true rfl) zd_S_growCongestion_47 ?_
    refine zp_S_41_2 O zd_S_growCongestion_50 ?_
    exact E _ _ _ zd_S_growCongestion_53 ht.symm
set_option maxHeartbeats 4000000 in
set_option maxRecDepth 100000 in
theorem c_S_advanceTo (l : Launch) (w : zWd) (σ : zSt) (a1 : Int32) (ko : k_S_advanceTo σ a1) : zMv l ({ cls := "SluiceStream$Sender", name := "advanceTo", desc := "(I)V" } : Jvm.MethodName) prog_5_method_12_code 2 3 64 w [.ref (zq w 2), .int a1] σ (fun u => u = (f_S_advanceTo σ a1)) := by
  refine zMv_of (by decide +kernel) (Nat.le_of_ble_eq_true rfl) ?_
  intro K O hl0 E
  have ht : (f_S_advanceTo σ a1) = (f_S_advanceTo σ a1) := rfl
  refine z_sub (lv' := [(0, .ref (zq w 2)), (1, .int a1)]) [0, 1] rfl ?_
  refine z_aload_n O zd_S_advanceTo_0 rfl 0 rfl ?_
  refine zg_S_21_2 O zd_S_advanceTo_1 (v := .ref (zq w 5)) rfl ?_
  refine z_iload_n O zd_S_advanceTo_4 rfl 1 rfl ?_
  refine z_callv O hl0 (st := []) 5 4 (fs := zo5 w σ) rfl rfl (c_T_endTiming l w σ a1) zl_S_145 zm627 zm628 rfl rfl (Nat.le_of_ble_eq_true rfl) (Nat.le_of_ble_eq_true rfl) (Nat.le_of_ble_eq_true rfl) zd_S_advanceTo_5 (fun u1 e2 => ?_)
  have ht := ht.trans (zlet_e e2)
  have ko := ko u1 e2
  refine z_aload_n O zd_S_advanceTo_8 rfl 0 rfl ?_
  refine zg_S_12_2 O zd_S_advanceTo_9 (v := .ref (zq w 3)) rfl ?_
  refine z_aload_n O zd_S_advanceTo_12 rfl 0 rfl ?_
  refine zg_S_25_2 O zd_S_advanceTo_13 (v := .int (u1 2 2)) rfl ?_
  refine z_iload_n O zd_S_advanceTo_16 rfl 1 rfl ?_
  refine z_callv O hl0 (st := []) 3 0 (fs := zo3 w u1) rfl rfl (c_P_empty_3 l w u1 (u1 2 2) a1 ko.1) zl_S_129 zm553 zm554 rfl rfl (Nat.le_of_ble_eq_true rfl) (Nat.le_of_ble_eq_true rfl) (Nat.le_of_ble_eq_true rfl) zd_S_advanceTo_17 (fun u3 e4 => ?_)
  have ht := ht.trans (zlet_e e4)
  have ko := ko.2 u3 e4
  refine z_aload_n O zd_S_advanceTo_20 rfl 0 rfl ?_
  refine z_iload_n O zd_S_advanceTo_21 rfl 1 rfl ?_
  refine zp_S_25_2 O zd_S_advanceTo_22 ?_
  refine z_aload_n O zd_S_advanceTo_25 rfl 0 rfl ?_
  refine z_aload_n O zd_S_advanceTo_26 rfl 0 rfl ?_
  refine zg_S_29_2 O zd_S_advanceTo_27 (v := .int (u3 2 3)) rfl ?_
  refine z_aload_n O zd_S_advanceTo_30 rfl 0 rfl ?_
  refine zg_S_25_2 O zd_S_advanceTo_31 (v := .int a1) rfl ?_
  refine z_max O zm483 zm262 zm13 zm263 (Nat.le_of_ble_eq_true rfl) (Nat.le_of_ble_eq_true rfl) zd_S_advanceTo_34 ?_
  refine zp_S_29_2 O zd_S_advanceTo_37 ?_
  refine z_aload_n O zd_S_advanceTo_40 rfl 0 rfl ?_
  refine z_iconst O (v := 0) zd_S_advanceTo_41 (by decide) ?_
  refine zp_S_50_2 O zd_S_advanceTo_42 ?_
  refine z_aload_n O zd_S_advanceTo_45 rfl 0 rfl ?_
  refine zg_S_53_2 O zd_S_advanceTo_46 (v := .int (u3 2 11)) rfl ?_
  refine z_iconst O (v := (-1)) zd_S_advanceTo_49 (by decide) ?_
  refine z_icmp_ne O (tgt := 60) zd_S_advanceTo_50 (by decide) (fun c5 => ?_) (fun c5 => ?_)
  · have ht := ht.trans (if_neg c5)
    refine z_aload_n O zd_S_advanceTo_60 rfl 0 rfl ?_
    refine zg_S_25_2 O zd_S_advanceTo_61 (v := .int a1) rfl ?_
    refine z_aload_n O zd_S_advanceTo_64 rfl 0 rfl ?_
    refine zg_S_53_2 O zd_S_advanceTo_65 (v := .int (u3 2 11)) rfl ?_
    refine z_icmp_lt O (tgt := 84) zd_S_advanceTo_68 (by decide) (fun c6 => ?_) (fun c6 => ?_)
    · have ht := ht.trans (if_pos c6)
      refine z_aload_n O zd_S_advanceTo_84 rfl 0 rfl ?_
      refine zg_S_25_2 O zd_S_advanceTo_85 (v := .int a1) rfl ?_
      refine z_aload_n O zd_S_advanceTo_88 rfl 0 rfl ?_
      refine zg_S_29_2 O zd_S_advanceTo_89 (v := .int (if (u3 2 3) < a1 then a1 else (u3 2 3))) rfl ?_
      refine z_icmp_ne O (tgt := 105) zd_S_advanceTo_92 (by decide) (fun c7 => ?_) (fun c7 => ?_)
      · have ht := ht.trans (if_neg c7)
        refine z_aload_n O zd_S_advanceTo_105 rfl 0 rfl ?_
        refine zg_S_21_2 O zd_S_advanceTo_106 (v := .ref (zq w 5)) rfl ?_
        refine z_callv O hl0 (st := []) 5 4 (fs := zo5 w (zuf (zuf (zuf u3 2 2 a1) 2 3 (if (u3 2 3) < a1 then a1 else (u3 2 3))) 2 10 0)) rfl rfl (c_T_startAnew l w (zuf (zuf (zuf u3 2 2 a1) 2 3 (if (u3 2 3) < a1 then a1 else (u3 2 3))) 2 10 0)) zl_S_154 zm511 zm512 rfl rfl (Nat.le_of_ble_eq_true rfl) (Nat.le_of_ble_eq_true rfl) (Nat.le_of_ble_eq_true rfl) zd_S_advanceTo_109 (fun u8 e9 => ?_)
        have ht := ht.trans (zlet_e e9)
        exact E _ _ _ zd_S_advanceTo_112 ht.symm
      · have ht := ht.trans (if_pos c7)
        refine z_aload_n O zd_S_advanceTo_95 rfl 0 rfl ?_
        refine zg_S_21_2 O zd_S_advanceTo_96 (v := .ref (zq w 5)) rfl ?_
        refine z_callv O hl0 (st := []) 5 4 (fs := zo5 w (zuf (zuf (zuf u3 2 2 a1) 2 3 (if (u3 2 3) < a1 then a1 else (u3 2 3))) 2 10 0)) rfl rfl (c_T_stop l w (zuf (zuf (zuf u3 2 2 a1) 2 3 (if (u3 2 3) < a1 then a1 else (u3 2 3))) 2 10 0)) zl_S_151 zm549 zm550 rfl rfl (Nat.le_of_ble_eq_true rfl) (Nat.le_of_ble_eq_true rfl) (Nat.le_of_ble_eq_true rfl) zd_S_advanceTo_99 (fun u10 e11 => ?_)
        have ht := ht.trans (zlet_e e11)
        refine z_goto O (tgt := 112) zd_S_advanceTo_102 (by decide) ?_
        exact E _ _ _ zd_S_advanceTo_112 ht.symm
    · have ht := ht.trans (if_neg c6)
      refine z_aload_n O zd_S_advanceTo_71 rfl 0 rfl ?_
      refine z_iconst O (v := (-1)) zd_S_advanceTo_72 (by decide) ?_
      refine zp_S_53_2 O zd_S_advanceTo_73 ?_
      refine z_aload_n O zd_S_advanceTo_76 rfl 0 rfl ?_
      refine z_aload_n O zd_S_advanceTo_77 rfl 0 rfl ?_
      refine zg_S_44_2 O zd_S_advanceTo_78 (v := .int (u3 2 8)) rfl ?_
      refine zp_S_41_2 O zd_S_advanceTo_81 ?_
      refine z_aload_n O zd_S_advanceTo_84 rfl 0 rfl ?_
      refine zg_S_25_2 O zd_S_advanceTo_85 (v := .int a1) rfl ?_
      refine z_aload_n O zd_S_advanceTo_88 rfl 0 rfl ?_
      refine zg_S_29_2 O zd_S_advanceTo_89 (v := .int (if (u3 2 3) < a1 then a1 else (u3 2 3))) rfl ?_
      refine z_icmp_ne O (tgt := 105) zd_S_advanceTo_92 (by decide) (fun c12 => ?_) (fun c12 => ?_)
      · have ht := ht.trans (if_neg c12)
        refine z_aload_n O zd_S_advanceTo_105 rfl 0 rfl ?_
        refine zg_S_21_2 O zd_S_advanceTo_106 (v := .ref (zq w 5)) rfl ?_
        refine z_callv O hl0 (st := []) 5 4 (fs := zo5 w (zuf (zuf (zuf (zuf (zuf u3 2 2 a1) 2 3 (if (u3 2 3) < a1 then a1 else (u3 2 3))) 2 10 0) 2 11 (-1)) 2 7 (u3 2 8))) rfl rfl (c_T_startAnew l w (zuf (zuf (zuf (zuf (zuf u3 2 2 a1) 2 3 (if (u3 2 3) < a1 then a1 else (u3 2 3))) 2 10 0) 2 11 (-1)) 2 7 (u3 2 8))) zl_S_154 zm511 zm512 rfl rfl (Nat.le_of_ble_eq_true rfl) (Nat.le_of_ble_eq_true rfl) (Nat.le_of_ble_eq_true rfl) zd_S_advanceTo_109 (fun u13 e14 => ?_)
        have ht := ht.trans (zlet_e e14)
        exact E _ _ _ zd_S_advanceTo_112 ht.symm
      · have ht := ht.trans (if_pos c12)
        refine z_aload_n O zd_S_advanceTo_95 rfl 0 rfl ?_
        refine zg_S_21_2 O zd_S_advanceTo_96 (v := .ref (zq w 5)) rfl ?_
        refine z_callv O hl0 (st := []) 5 4 (fs := zo5 w (zuf (zuf (zuf (zuf (zuf u3 2 2 a1) 2 3 (if (u3 2 3) < a1 then a1 else (u3 2 3))) 2 10 0) 2 11 (-1)) 2 7 (u3 2 8))) rfl rfl (c_T_stop l w (zuf (zuf (zuf (zuf (zuf u3 2 2 a1) 2 3 (if (u3 2 3) < a1 then a1 else (u3 2 3))) 2 10 0) 2 11 (-1)) 2 7 (u3 2 8))) zl_S_151 zm549 zm550 rfl rfl (Nat.le_of_ble_eq_true rfl) (Nat.le_of_ble_eq_true rfl) (Nat.le_of_ble_eq_true rfl) zd_S_advanceTo_99 (fun u15 e16 => ?_)
        have ht := ht.trans (zlet_e e16)
        refine z_goto O (tgt := 112) zd_S_advanceTo_102 (by decide) ?_
        exact E _ _ _ zd_S_advanceTo_112 ht.symm
  · have ht := ht.trans (if_pos c5)
    have ko := ko c5
    refine z_aload_n O zd_S_advanceTo_53 rfl 0 rfl ?_
    refine z_callv O hl0 (st := []) 2 3 (fs := zo2 w (zuf (zuf (zuf u3 2 2 a1) 2 3 (if (u3 2 3) < a1 then a1 else (u3 2 3))) 2 10 0)) rfl rfl (c_S_growCongestion l w (zuf (zuf (zuf u3 2 2 a1) 2 3 (if (u3 2 3) < a1 then a1 else (u3 2 3))) 2 10 0) ko) zl_S_148 zm640 zms12 rfl rfl (Nat.le_of_ble_eq_true rfl) (Nat.le_of_ble_eq_true rfl) (Nat.le_of_ble_eq_true rfl) zd_S_advanceTo_54 (fun u17 e18 => ?_)
    have ht := ht.trans (zlet_e e18)
    refine z_goto O (tgt := 84) zd_S_advanceTo_57 (by decide) ?_
    refine z_aload_n O zd_S_advanceTo_84 rfl 0 rfl ?_
    refine zg_S_25_2 O zd_S_advanceTo_85 (v := .int (u17 2 2)) rfl ?_
    refine z_aload_n O zd_S_advanceTo_88 rfl 0 rfl ?_
    refine zg_S_29_2 O zd_S_advanceTo_89 (v := .int (u17 2 3)) rfl ?_
    refine z_icmp_ne O (tgt := 105) zd_S_advanceTo_92 (by decide) (fun c19 => ?_) (fun c19 => ?_)
    · have ht := ht.trans (if_neg c19)
      refine z_aload_n O zd_S_advanceTo_105 rfl 0 rfl ?_
      refine zg_S_21_2 O zd_S_advanceTo_106 (v := .ref (zq w 5)) rfl ?_
      refine z_callv O hl0 (st := []) 5 4 (fs := zo5 w u17) rfl rfl (c_T_startAnew l w u17) zl_S_154 zm511 zm512 rfl rfl (Nat.le_of_ble_eq_true rfl) (Nat.le_of_ble_eq_true rfl) (Nat.le_of_ble_eq_true rfl) zd_S_advanceTo_109 (fun u20 e21 => ?_)
      have ht := ht.trans (zlet_e e21)
      exact E _ _ _ zd_S_advanceTo_112 ht.symm
    · have ht := ht.trans (if_pos c19)
      refine z_aload_n O zd_S_advanceTo_95 rfl 0 rfl ?_
      refine zg_S_21_2 O zd_S_advanceTo_96 (v := .ref (zq w 5)) rfl ?_
      refine z_callv O hl0 (st := []) 5 4 (fs := zo5 w u17) rfl rfl (c_T_stop l w u17) zl_S_151 zm549 zm550 rfl rfl (Nat.le_of_ble_eq_true rfl) (Nat.le_of_ble_eq_true rfl) (Nat.le_of_ble_eq_true rfl) zd_S_advanceTo_99 (fun u22 e23 => ?_)
      have ht := ht.trans (zlet_e e23)
      refine z_goto O (tgt := 112) zd_S_advanceTo_102 (by decide) ?_
      exact E _ _ _ zd_S_advanceTo_112 ht.symm
set_option maxHeartbeats 4000000 in
set_option maxRecDepth 100000 in
theorem L_S_markBlocks_14 {K : zCx} {w : zWd} {l : Launch} (O : zOk K w prog_5_method_14_code "SluiceStream$Sender" 7 2 46) (hl0 : kl K = l) (x2 x3 : Int32) : ∀ (m : Nat) (σ : zSt) (x4 : Int32), kl_S_markBlocks_14 x2 x3 m σ x4 → (∀ r, r = (l_S_markBlocks_14 x2 x3 m σ x4) → Z K w r [] [] 74) → Z K w σ [(0, .ref (zq w 2)), (1, .ref (zq w 11)), (2, .int x2), (3, .int x3), (4, .int x4)] [] 14 := by
  intro m
  induction m with
  | zero => intro σ x4 ko; exact ko.elim
  | succ m ih =>
    intro σ x4 ko kk
    have ht : l_S_markBlocks_14 x2 x3 (m + 1) σ x4 = l_S_markBlocks_14 x2 x3 (m + 1) σ x4 := rfl
    refine z_iload O zd_S_markBlocks_14 4 rfl ?_
    refine z_iload_n O zd_S_markBlocks_16 rfl 3 rfl ?_
    refine z_icmp_ge O (tgt := 74) zd_S_markBlocks_17 (by decide) (fun c3 => ?_) (fun c3 => ?_)
    · have ht := ht.trans (if_pos c3)
      refine z_sub (lv' := []) [] rfl ?_
      exact kk σ ht.symm
    · have ht := ht.trans (if_neg c3)
      have ko := ko c3
      refine z_aload_n O zd_S_markBlocks_20 rfl 1 rfl ?_
      refine z_iload_n O zd_S_markBlocks_21 rfl 2 rfl ?_
      refine z_iconst O (v := 3) zd_S_markBlocks_22 (by decide) ?_
      refine z_iconst O (v := 2) zd_S_markBlocks_23 (by decide) ?_
      refine z_iload O zd_S_markBlocks_24 4 rfl ?_
      refine z_imul O zd_S_markBlocks_26 ?_
      refine z_iadd O zd_S_markBlocks_27 ?_
      refine z_callri O hl0 (st := []) 11 2 (fs := zo11 w σ) rfl rfl (c_W_cell_11 l w σ x2 (3 + (2 * x4)) ko.1) zl_S_132 zm581 zm582 rfl rfl (Nat.le_of_ble_eq_true rfl) (Nat.le_of_ble_eq_true rfl) (Nat.le_of_ble_eq_true rfl) zd_S_markBlocks_28 (fun r4 e5 => ?_)
      have ht := ht.trans (zlet_e e5)
      have ko := ko.2 r4 e5
      refine z_istore O (lv' := [(5, .int r4), (0, .ref (zq w 2)), (1, .ref (zq w 11)), (2, .int x2), (3, .int x3), (4, .int x4)]) zd_S_markBlocks_31 (Nat.le_of_ble_eq_true rfl) rfl ?_
      refine z_aload_n O zd_S_markBlocks_33 rfl 2 rfl ?_
      refine z_iload_n O zd_S_markBlocks_34 rfl 3 rfl ?_
      refine z_iconst O (v := 3) zd_S_markBlocks_35 (by decide) ?_
      refine z_iconst O (v := 2) zd_S_markBlocks_36 (by decide) ?_
      refine z_iload O zd_S_markBlocks_37 5 rfl ?_
      refine z_imul O zd_S_markBlocks_39 ?_
      refine z_iadd O zd_S_markBlocks_40 ?_
      refine z_iconst O (v := 1) zd_S_markBlocks_41 (by decide) ?_
      refine z_iadd O zd_S_markBlocks_42 ?_
      refine z_callri O hl0 (st := []) 11 2 (fs := zo11 w σ) rfl rfl (c_W_cell_11 l w σ x2 ((3 + (2 * x4)) + 1) ko.1) zl_S_132 zm581 zm582 rfl rfl (Nat.le_of_ble_eq_true rfl) (Nat.le_of_ble_eq_true rfl) (Nat.le_of_ble_eq_true rfl) zd_S_markBlocks_43 (fun r6 e7 => ?_)
      have ht := ht.trans (zlet_e e7)
      have ko := ko.2 r6 e7
      refine z_istore O (lv' := [(6, .int r6), (5, .int r4), (0, .ref (zq w 2)), (1, .ref (zq w 11)), (2, .int x2), (3, .int x3), (4, .int x4)]) zd_S_markBlocks_46 (Nat.le_of_ble_eq_true rfl) rfl ?_
      refine z_aload_n O zd_S_markBlocks_48 rfl 2 rfl ?_
      refine zg_S_12_2 O zd_S_markBlocks_49 (v := .ref (zq w 3)) rfl ?_
      refine z_aload_n O zd_S_markBlocks_52 rfl 2 rfl ?_
      refine zg_S_25_2 O zd_S_markBlocks_53 (v := .int (σ 2 2)) rfl ?_
      refine z_iload O zd_S_markBlocks_56 1 rfl ?_
      refine z_max O zm483 zm262 zm13 zm263 (Nat.le_of_ble_eq_true rfl) (Nat.le_of_ble_eq_true rfl) zd_S_markBlocks_58 ?_
      refine z_iload O zd_S_markBlocks_61 0 rfl ?_
      refine z_iconst O (v := 1) zd_S_markBlocks_63 (by decide) ?_
      refine z_calli O hl0 (st := []) 3 0 (fs := zo3 w σ) rfl rfl (c_P_fillEmpty_3 l w σ (if (σ 2 2) < r4 then r4 else (σ 2 2)) r6 1 ko.1) zl_S_157 zm590 zm591 rfl rfl (Nat.le_of_ble_eq_true rfl) (Nat.le_of_ble_eq_true rfl) (Nat.le_of_ble_eq_true rfl) zd_S_markBlocks_64 (fun r8 u9 e10 => ?_)
      have ht := ht.trans (zseq_e e10)
      have ko := ko.2 r8 u9 e10
      refine z_pop O zd_S_markBlocks_67 rfl ?_
      refine z_iinc O (v := (x4 + 1)) (lv' := [(4, .int (x4 + 1)), (6, .int r6), (5, .int r4), (0, .ref (zq w 2)), (1, .ref (zq w 11)), (2, .int x2), (3, .int x3)]) zd_S_markBlocks_68 6 rfl rfl (Nat.le_of_ble_eq_true rfl) rfl ?_
      refine z_goto O (tgt := 14) zd_S_markBlocks_71 (by decide) ?_
      refine z_sub (lv' := [(0, .ref (zq w 2)), (1, .ref (zq w 11)), (2, .int x2), (3, .int x3), (4, .int (x4 + 1))]) [3, 4, 5, 6, 0] rfl ?_
      exact ih u9 (x4 + 1) ko (fun r e => kk r (e.trans ht.symm))
set_option maxHeartbeats 4000000 in
set_option maxRecDepth 100000 in
theorem c_S_markBlocks (l : Launch) (w : zWd) (σ : zSt) (a2 : Int32) (ko : k_S_markBlocks σ a2) : zMv l ({ cls := "SluiceStream$Sender", name := "markBlocks", desc := "(LSluiceStream$Rows;I)V" } : Jvm.MethodName) prog_5_method_14_code 7 2 46 w [.ref (zq w 2), .ref (zq w 11), .int a2] σ (fun u => u = (f_S_markBlocks σ a2)) := by
  refine zMv_of (by decide +kernel) (Nat.le_of_ble_eq_true rfl) ?_
  intro K O hl0 E
  have ht : (f_S_markBlocks σ a2) = (f_S_markBlocks σ a2) := rfl
  refine z_sub (lv' := [(0, .ref (zq w 2)), (1, .ref (zq w 11)), (2, .int a2)]) [0, 1, 2] rfl ?_
  refine z_iconst O (v := 3) zd_S_markBlocks_0 (by decide) ?_
  refine z_aload_n O zd_S_markBlocks_1 rfl 1 rfl ?_
  refine z_iload_n O zd_S_markBlocks_2 rfl 2 rfl ?_
  refine z_iconst O (v := 2) zd_S_markBlocks_3 (by decide) ?_
  refine z_callri O hl0 (st := [.int 3]) 11 2 (fs := zo11 w σ) rfl rfl (c_W_cell_11 l w σ a2 2 ko.1) zl_S_132 zm581 zm582 rfl rfl (Nat.le_of_ble_eq_true rfl) (Nat.le_of_ble_eq_true rfl) (Nat.le_of_ble_eq_true rfl) zd_S_markBlocks_4 (fun r1 e2 => ?_)
  have ht := ht.trans (zlet_e e2)
  have ko := ko.2 r1 e2
  refine z_min O zm490 zm491 zm13 zm492 (Nat.le_of_ble_eq_true rfl) (Nat.le_of_ble_eq_true rfl) zd_S_markBlocks_7 ?_
  refine z_istore_n O (lv' := [(3, .int (if r1 < 3 then r1 else 3)), (0, .ref (zq w 2)), (1, .ref (zq w 11)), (2, .int a2)]) zd_S_markBlocks_10 rfl (Nat.le_of_ble_eq_true rfl) rfl ?_
  refine z_iconst O (v := 0) zd_S_markBlocks_11 (by decide) ?_
  refine z_istore O (lv' := [(4, .int 0), (3, .int (if r1 < 3 then r1 else 3)), (0, .ref (zq w 2)), (1, .ref (zq w 11)), (2, .int a2)]) zd_S_markBlocks_12 (Nat.le_of_ble_eq_true rfl) rfl ?_
  refine z_sub (lv' := [(0, .ref (zq w 2)), (1, .ref (zq w 11)), (2, .int a2), (3, .int (if r1 < 3 then r1 else 3)), (4, .int 0)]) [2, 3, 4, 1, 0] rfl ?_
  refine L_S_markBlocks_14 O hl0 a2 (if r1 < 3 then r1 else 3) ((((if r1 < 3 then r1 else 3)).toInt - (0 : Int32).toInt).toNat + 2) σ 0 ko (fun r11 er11 => ?_)
  have ht := ht.trans (zlet_e er11)
  exact E _ _ _ zd_S_markBlocks_74 ht.symm
set_option maxHeartbeats 4000000 in
set_option maxRecDepth 100000 in
theorem c_S_countDuplicate (l : Launch) (w : zWd) (σ : zSt) (ko : k_S_countDuplicate σ) : zMv l ({ cls := "SluiceStream$Sender", name := "countDuplicate", desc := "()V" } : Jvm.MethodName) prog_5_method_15_code 1 4 85 w [.ref (zq w 2)] σ (fun u => u = (f_S_countDuplicate σ)) := by
  refine zMv_of (by decide +kernel) (Nat.le_of_ble_eq_true rfl) ?_
  intro K O hl0 E
  have ht : (f_S_countDuplicate σ) = (f_S_countDuplicate σ) := rfl
  refine z_sub (lv' := [(0, .ref (zq w 2))]) [0] rfl ?_
  refine z_aload_n O zd_S_countDuplicate_0 rfl 0 rfl ?_
  refine z_dup O zd_S_countDuplicate_1 rfl ?_
  refine zg_S_50_2 O zd_S_countDuplicate_2 (v := .int (σ 2 10)) rfl ?_
  refine z_iconst O (v := 1) zd_S_countDuplicate_5 (by decide) ?_
  refine z_iadd O zd_S_countDuplicate_6 ?_
  refine zp_S_50_2 O zd_S_countDuplicate_7 ?_
  refine z_aload_n O zd_S_countDuplicate_10 rfl 0 rfl ?_
  refine zg_S_50_2 O zd_S_countDuplicate_11 (v := .int ((σ 2 10) + 1)) rfl ?_
  refine z_iconst O (v := 3) zd_S_countDuplicate_14 (by decide) ?_
  refine z_icmp_ne O (tgt := 65) zd_S_countDuplicate_15 (by decide) (fun c1 => ?_) (fun c1 => ?_)
  · have ht := ht.trans (if_neg c1)
    exact E _ _ _ zd_S_countDuplicate_65 ht.symm
  · have ht := ht.trans (if_pos c1)
    have ko := ko c1
    refine z_aload_n O zd_S_countDuplicate_18 rfl 0 rfl ?_
    refine zg_S_53_2 O zd_S_countDuplicate_19 (v := .int (σ 2 11)) rfl ?_
    refine z_iconst O (v := (-1)) zd_S_countDuplicate_22 (by decide) ?_
    refine z_icmp_ne O (tgt := 65) zd_S_countDuplicate_23 (by decide) (fun c2 => ?_) (fun c2 => ?_)
    · have ht := ht.trans (if_neg c2)
      exact E _ _ _ zd_S_countDuplicate_65 ht.symm
    · have ht := ht.trans (if_pos c2)
      have ko := ko c2
      refine z_aload_n O zd_S_countDuplicate_26 rfl 0 rfl ?_
      refine z_aload_n O zd_S_countDuplicate_27 rfl 0 rfl ?_
      refine z_callri O hl0 (st := [.ref (zq w 2)]) 2 3 (fs := zo2 w (zuf σ 2 10 ((σ 2 10) + 1))) rfl rfl (c_S_halfOfFlying l w (zuf σ 2 10 ((σ 2 10) + 1)) ko) zl_S_123 zm537 zms9 rfl rfl (Nat.le_of_ble_eq_true rfl) (Nat.le_of_ble_eq_true rfl) (Nat.le_of_ble_eq_true rfl) zd_S_countDuplicate_28 (fun r3 e4 => ?_)
      have ht := ht.trans (zlet_e e4)
      refine zp_S_44_2 O zd_S_countDuplicate_31 ?_
      refine z_aload_n O zd_S_countDuplicate_34 rfl 0 rfl ?_
      refine z_aload_n O zd_S_countDuplicate_35 rfl 0 rfl ?_
      refine zg_S_44_2 O zd_S_countDuplicate_36 (v := .int r3) rfl ?_
      refine zp_S_41_2 O zd_S_countDuplicate_39 ?_
      refine z_aload_n O zd_S_countDuplicate_42 rfl 0 rfl ?_
      refine z_aload_n O zd_S_countDuplicate_43 rfl 0 rfl ?_
      refine zg_S_29_2 O zd_S_countDuplicate_44 (v := .int (σ 2 3)) rfl ?_
      refine zp_S_53_2 O zd_S_countDuplicate_47 ?_
      refine z_aload_n O zd_S_countDuplicate_50 rfl 0 rfl ?_
      refine z_aload_n O zd_S_countDuplicate_51 rfl 0 rfl ?_
      refine zg_S_25_2 O zd_S_countDuplicate_52 (v := .int (σ 2 2)) rfl ?_
      refine zp_S_56_2 O zd_S_countDuplicate_55 ?_
      refine z_aload_n O zd_S_countDuplicate_58 rfl 0 rfl ?_
      refine zg_S_21_2 O zd_S_countDuplicate_59 (v := .ref (zq w 5)) rfl ?_
      refine z_callv O hl0 (st := []) 5 4 (fs := zo5 w (zuf (zuf (zuf (zuf (zuf σ 2 10 ((σ 2 10) + 1)) 2 8 r3) 2 7 r3) 2 11 (σ 2 3)) 2 12 (σ 2 2))) rfl rfl (c_T_forgetTiming l w (zuf (zuf (zuf (zuf (zuf σ 2 10 ((σ 2 10) + 1)) 2 8 r3) 2 7 r3) 2 11 (σ 2 3)) 2 12 (σ 2 2))) zl_S_161 zm545 zm546 rfl rfl (Nat.le_of_ble_eq_true rfl) (Nat.le_of_ble_eq_true rfl) (Nat.le_of_ble_eq_true rfl) zd_S_countDuplicate_62 (fun u5 e6 => ?_)
      have ht := ht.trans (zlet_e e6)
      exact E _ _ _ zd_S_countDuplicate_65 ht.symm
set_option maxHeartbeats 4000000 in
set_option maxRecDepth 100000 in
theorem c_S_takeAck (l : Launch) (w : zWd) (σ : zSt) (a2 : Int32) (ko : k_S_takeAck σ a2) : zMi l ({ cls := "SluiceStream$Sender", name := "takeAck", desc := "(LSluiceStream$Rows;I)I" } : Jvm.MethodName) prog_5_method_11_code 7 5 105 .int w [.ref (zq w 2), .ref (zq w 11), .int a2] σ (fun r u => (r, u) = (f_S_takeAck σ a2)) := by
  refine zMi_of (by decide +kernel) (Nat.le_of_ble_eq_true rfl) ?_
  intro K O hl0 E
  have ht : (f_S_takeAck σ a2) = (f_S_takeAck σ a2) := rfl
  refine z_sub (lv' := [(0, .ref (zq w 2)), (1, .ref (zq w 11)), (2, .int a2)]) [0, 1, 2] rfl ?_
  refine z_aload_n O zd_S_takeAck_0 rfl 1 rfl ?_
  refine z_iload_n O zd_S_takeAck_1 rfl 2 rfl ?_
  refine z_iconst O (v := 0) zd_S_takeAck_2 (by decide) ?_
  refine z_callri O hl0 (st := []) 11 2 (fs := zo11 w σ) rfl rfl (c_W_cell_11 l w σ a2 0 ko.1) zl_S_132 zm581 zm582 rfl rfl (Nat.le_of_ble_eq_true rfl) (Nat.le_of_ble_eq_true rfl) (Nat.le_of_ble_eq_true rfl) zd_S_takeAck_3 (fun r1 e2 => ?_)
  have ht := ht.trans (zlet_e e2)
  have ko := ko.2 r1 e2
  refine z_istore_n O (lv' := [(3, .int r1), (0, .ref (zq w 2)), (1, .ref (zq w 11)), (2, .int a2)]) zd_S_takeAck_6 rfl (Nat.le_of_ble_eq_true rfl) rfl ?_
  refine z_iload_n O zd_S_takeAck_7 rfl 0 rfl ?_
  refine z_aload_n O zd_S_takeAck_8 rfl 1 rfl ?_
  refine zg_S_25_2 O zd_S_takeAck_9 (v := .int (σ 2 2)) rfl ?_
  refine z_icmp_ge O (tgt := 17) zd_S_takeAck_12 (by decide) (fun c3 => ?_) (fun c3 => ?_)
  · have ht := ht.trans (if_pos c3)
    have ko := ko c3
    refine z_iload_n O zd_S_takeAck_17 rfl 0 rfl ?_
    refine z_aload_n O zd_S_takeAck_18 rfl 2 rfl ?_
    refine z_iload_n O zd_S_takeAck_19 rfl 3 rfl ?_
    refine z_iconst O (v := 1) zd_S_takeAck_20 (by decide) ?_
    refine z_callri O hl0 (st := [.int r1]) 11 2 (fs := zo11 w σ) rfl rfl (c_W_cell_11 l w σ a2 1 ko.1) zl_S_132 zm581 zm582 rfl rfl (Nat.le_of_ble_eq_true rfl) (Nat.le_of_ble_eq_true rfl) (Nat.le_of_ble_eq_true rfl) zd_S_takeAck_21 (fun r4 e5 => ?_)
    have ht := ht.trans (zlet_e e5)
    have ko := ko.2 r4 e5
    refine z_iadd O zd_S_takeAck_24 ?_
    refine z_istore O (lv' := [(4, .int (r1 + r4)), (3, .int r1), (0, .ref (zq w 2)), (1, .ref (zq w 11)), (2, .int a2)]) zd_S_takeAck_25 (Nat.le_of_ble_eq_true rfl) rfl ?_
    refine z_iload O zd_S_takeAck_27 0 rfl ?_
    refine z_aload_n O zd_S_takeAck_29 rfl 2 rfl ?_
    refine zg_S_38_2 O zd_S_takeAck_30 (v := .int (σ 2 6)) rfl ?_
    refine z_icmp_le O (tgt := 40) zd_S_takeAck_33 (by decide) (fun c6 => ?_) (fun c6 => ?_)
    · have ht := ht.trans (if_pos c6)
      have ko := ko.1 c6
      refine z_iconst O (v := 0) zd_S_takeAck_40 (by decide) ?_
      refine z_istore O (lv' := [(5, .int 0), (4, .int (r1 + r4)), (3, .int r1), (0, .ref (zq w 2)), (1, .ref (zq w 11)), (2, .int a2)]) zd_S_takeAck_41 (Nat.le_of_ble_eq_true rfl) rfl ?_
      refine z_aload_n O zd_S_takeAck_43 rfl 3 rfl ?_
      refine z_aload_n O zd_S_takeAck_44 rfl 3 rfl ?_
      refine zg_S_38_2 O zd_S_takeAck_45 (v := .int (σ 2 6)) rfl ?_
      refine z_iload O zd_S_takeAck_48 1 rfl ?_
      refine z_max O zm483 zm262 zm13 zm263 (Nat.le_of_ble_eq_true rfl) (Nat.le_of_ble_eq_true rfl) zd_S_takeAck_50 ?_
      refine zp_S_38_2 O zd_S_takeAck_53 ?_
      refine z_iload_n O zd_S_takeAck_56 rfl 2 rfl ?_
      refine z_aload_n O zd_S_takeAck_57 rfl 3 rfl ?_
      refine zg_S_25_2 O zd_S_takeAck_58 (v := .int (σ 2 2)) rfl ?_
      refine z_isub O zd_S_takeAck_61 ?_
      refine z_istore O (lv' := [(6, .int (r1 - (σ 2 2))), (5, .int 0), (4, .int (r1 + r4)), (3, .int r1), (0, .ref (zq w 2)), (1, .ref (zq w 11)), (2, .int a2)]) zd_S_takeAck_62 (Nat.le_of_ble_eq_true rfl) rfl ?_
      refine z_iload O zd_S_takeAck_64 0 rfl ?_
      refine z_if_le O (tgt := 74) zd_S_takeAck_66 (by decide) (fun c7 => ?_) (fun c7 => ?_)
      · have ht := ht.trans (if_pos c7)
        have ko := ko.1 c7
        refine z_aload_n O zd_S_takeAck_74 rfl 4 rfl ?_
        refine z_aload_n O zd_S_takeAck_75 rfl 5 rfl ?_
        refine z_iload_n O zd_S_takeAck_76 rfl 6 rfl ?_
        refine z_callv O hl0 (st := []) 2 3 (fs := zo2 w (zuf σ 2 6 (if (σ 2 6) < (r1 + r4) then (r1 + r4) else (σ 2 6)))) rfl rfl (c_S_markBlocks l w (zuf σ 2 6 (if (σ 2 6) < (r1 + r4) then (r1 + r4) else (σ 2 6))) a2 ko.1) zl_S_138 zm646 zms13 rfl rfl (Nat.le_of_ble_eq_true rfl) (Nat.le_of_ble_eq_true rfl) (Nat.le_of_ble_eq_true rfl) zd_S_takeAck_77 (fun u8 e9 => ?_)
        have ht := ht.trans (zlet_e e9)
        have ko := ko.2 u8 e9
        refine z_iload O zd_S_takeAck_80 0 rfl ?_
        refine z_if_ne O (tgt := 105) zd_S_takeAck_82 (by decide) (fun c10 => ?_) (fun c10 => ?_)
        · have ht := ht.trans (if_neg c10)
          refine z_iload O zd_S_takeAck_105 0 rfl ?_
          exact E _ _ _ _ zd_S_takeAck_107 rfl ht.symm
        · have ht := ht.trans (if_pos c10)
          have ko := ko c10
          refine z_aload_n O zd_S_takeAck_85 rfl 4 rfl ?_
          refine zg_S_25_2 O zd_S_takeAck_86 (v := .int (u8 2 2)) rfl ?_
          refine z_aload_n O zd_S_takeAck_89 rfl 4 rfl ?_
          refine zg_S_29_2 O zd_S_takeAck_90 (v := .int (u8 2 3)) rfl ?_
          refine z_icmp_ge O (tgt := 105) zd_S_takeAck_93 (by decide) (fun c11 => ?_) (fun c11 => ?_)
          · have ht := ht.trans (if_pos c11)
            refine z_iload O zd_S_takeAck_105 0 rfl ?_
            exact E _ _ _ _ zd_S_takeAck_107 rfl ht.symm
          · have ht := ht.trans (if_neg c11)
            have ko := ko c11
            refine z_iload O zd_S_takeAck_96 1 rfl ?_
            refine z_if_ne O (tgt := 105) zd_S_takeAck_98 (by decide) (fun c12 => absurd c12 (by decide)) (fun c12 => ?_)
            refine z_aload_n O zd_S_takeAck_101 rfl 4 rfl ?_
            refine z_callv O hl0 (st := []) 2 3 (fs := zo2 w u8) rfl rfl (c_S_countDuplicate l w u8 ko) zl_S_142 zm651 zms14 rfl rfl (Nat.le_of_ble_eq_true rfl) (Nat.le_of_ble_eq_true rfl) (Nat.le_of_ble_eq_true rfl) zd_S_takeAck_102 (fun u13 e14 => ?_)
            have ht := ht.trans (zlet_e e14)
            refine z_iload O zd_S_takeAck_105 0 rfl ?_
            exact E _ _ _ _ zd_S_takeAck_107 rfl ht.symm
      · have ht := ht.trans (if_neg c7)
        have ko := ko.2 c7
        refine z_aload_n O zd_S_takeAck_69 rfl 4 rfl ?_
        refine z_iload_n O zd_S_takeAck_70 rfl 3 rfl ?_
        refine z_callv O hl0 (st := []) 2 3 (fs := zo2 w (zuf σ 2 6 (if (σ 2 6) < (r1 + r4) then (r1 + r4) else (σ 2 6)))) rfl rfl (c_S_advanceTo l w (zuf σ 2 6 (if (σ 2 6) < (r1 + r4) then (r1 + r4) else (σ 2 6))) r1 ko.1) zl_S_135 zm624 zms10 rfl rfl (Nat.le_of_ble_eq_true rfl) (Nat.le_of_ble_eq_true rfl) (Nat.le_of_ble_eq_true rfl) zd_S_takeAck_71 (fun u15 e16 => ?_)
        have ht := ht.trans (zlet_e e16)
        have ko := ko.2 u15 e16
        refine z_aload_n O zd_S_takeAck_74 rfl 4 rfl ?_
        refine z_aload_n O zd_S_takeAck_75 rfl 5 rfl ?_
        refine z_iload_n O zd_S_takeAck_76 rfl 6 rfl ?_
        refine z_callv O hl0 (st := []) 2 3 (fs := zo2 w u15) rfl rfl (c_S_markBlocks l w u15 a2 ko.1) zl_S_138 zm646 zms13 rfl rfl (Nat.le_of_ble_eq_true rfl) (Nat.le_of_ble_eq_true rfl) (Nat.le_of_ble_eq_true rfl) zd_S_takeAck_77 (fun u17 e18 => ?_)
        have ht := ht.trans (zlet_e e18)
        have ko := ko.2 u17 e18
        refine z_iload O zd_S_takeAck_80 0 rfl ?_
        refine z_if_ne O (tgt := 105) zd_S_takeAck_82 (by decide) (fun c19 => ?_) (fun c19 => ?_)
        · have ht := ht.trans (if_neg c19)
          refine z_iload O zd_S_takeAck_105 0 rfl ?_
          exact E _ _ _ _ zd_S_takeAck_107 rfl ht.symm
        · have ht := ht.trans (if_pos c19)
          have ko := ko c19
          refine z_aload_n O zd_S_takeAck_85 rfl 4 rfl ?_
          refine zg_S_25_2 O zd_S_takeAck_86 (v := .int (u17 2 2)) rfl ?_
          refine z_aload_n O zd_S_takeAck_89 rfl 4 rfl ?_
          refine zg_S_29_2 O zd_S_takeAck_90 (v := .int (u17 2 3)) rfl ?_
          refine z_icmp_ge O (tgt := 105) zd_S_takeAck_93 (by decide) (fun c20 => ?_) (fun c20 => ?_)
          · have ht := ht.trans (if_pos c20)
            refine z_iload O zd_S_takeAck_105 0 rfl ?_
            exact E _ _ _ _ zd_S_takeAck_107 rfl ht.symm
          · have ht := ht.trans (if_neg c20)
            have ko := ko c20
            refine z_iload O zd_S_takeAck_96 1 rfl ?_
            refine z_if_ne O (tgt := 105) zd_S_takeAck_98 (by decide) (fun c21 => absurd c21 (by decide)) (fun c21 => ?_)
            refine z_aload_n O zd_S_takeAck_101 rfl 4 rfl ?_
            refine z_callv O hl0 (st := []) 2 3 (fs := zo2 w u17) rfl rfl (c_S_countDuplicate l w u17 ko) zl_S_142 zm651 zms14 rfl rfl (Nat.le_of_ble_eq_true rfl) (Nat.le_of_ble_eq_true rfl) (Nat.le_of_ble_eq_true rfl) zd_S_takeAck_102 (fun u22 e23 => ?_)
            have ht := ht.trans (zlet_e e23)
            refine z_iload O zd_S_takeAck_105 0 rfl ?_
            exact E _ _ _ _ zd_S_takeAck_107 rfl ht.symm
    · have ht := ht.trans (if_neg c6)
      have ko := ko.2 c6
      refine z_iconst O (v := 1) zd_S_takeAck_36 (by decide) ?_
      refine z_goto O (tgt := 41) zd_S_takeAck_37 (by decide) ?_
      refine z_istore O (lv' := [(5, .int 1), (4, .int (r1 + r4)), (3, .int r1), (0, .ref (zq w 2)), (1, .ref (zq w 11)), (2, .int a2)]) zd_S_takeAck_41 (Nat.le_of_ble_eq_true rfl) rfl ?_
      refine z_aload_n O zd_S_takeAck_43 rfl 3 rfl ?_
      refine z_aload_n O zd_S_takeAck_44 rfl 3 rfl ?_
      refine zg_S_38_2 O zd_S_takeAck_45 (v := .int (σ 2 6)) rfl ?_
      refine z_iload O zd_S_takeAck_48 1 rfl ?_
      refine z_max O zm483 zm262 zm13 zm263 (Nat.le_of_ble_eq_true rfl) (Nat.le_of_ble_eq_true rfl) zd_S_takeAck_50 ?_
      refine zp_S_38_2 O zd_S_takeAck_53 ?_
      refine z_iload_n O zd_S_takeAck_56 rfl 2 rfl ?_
      refine z_aload_n O zd_S_takeAck_57 rfl 3 rfl ?_
      refine zg_S_25_2 O zd_S_takeAck_58 (v := .int (σ 2 2)) rfl ?_
      refine z_isub O zd_S_takeAck_61 ?_
      refine z_istore O (lv' := [(6, .int (r1 - (σ 2 2))), (5, .int 1), (4, .int (r1 + r4)), (3, .int r1), (0, .ref (zq w 2)), (1, .ref (zq w 11)), (2, .int a2)]) zd_S_takeAck_62 (Nat.le_of_ble_eq_true rfl) rfl ?_
      refine z_iload O zd_S_takeAck_64 0 rfl ?_
      refine z_if_le O (tgt := 74) zd_S_takeAck_66 (by decide) (fun c24 => ?_) (fun c24 => ?_)
      · have ht := ht.trans (if_pos c24)
        have ko := ko.1 c24
        refine z_aload_n O zd_S_takeAck_74 rfl 4 rfl ?_
        refine z_aload_n O zd_S_takeAck_75 rfl 5 rfl ?_
        refine z_iload_n O zd_S_takeAck_76 rfl 6 rfl ?_
        refine z_callv O hl0 (st := []) 2 3 (fs := zo2 w (zuf σ 2 6 (if (σ 2 6) < (r1 + r4) then (r1 + r4) else (σ 2 6)))) rfl rfl (c_S_markBlocks l w (zuf σ 2 6 (if (σ 2 6) < (r1 + r4) then (r1 + r4) else (σ 2 6))) a2 ko) zl_S_138 zm646 zms13 rfl rfl (Nat.le_of_ble_eq_true rfl) (Nat.le_of_ble_eq_true rfl) (Nat.le_of_ble_eq_true rfl) zd_S_takeAck_77 (fun u25 e26 => ?_)
        have ht := ht.trans (zlet_e e26)
        refine z_iload O zd_S_takeAck_80 0 rfl ?_
        refine z_if_ne O (tgt := 105) zd_S_takeAck_82 (by decide) (fun c27 => ?_) (fun c27 => ?_)
        · have ht := ht.trans (if_neg c27)
          refine z_iload O zd_S_takeAck_105 0 rfl ?_
          exact E _ _ _ _ zd_S_takeAck_107 rfl ht.symm
        · have ht := ht.trans (if_pos c27)
          refine z_aload_n O zd_S_takeAck_85 rfl 4 rfl ?_
          refine zg_S_25_2 O zd_S_takeAck_86 (v := .int (u25 2 2)) rfl ?_
          refine z_aload_n O zd_S_takeAck_89 rfl 4 rfl ?_
          refine zg_S_29_2 O zd_S_takeAck_90 (v := .int (u25 2 3)) rfl ?_
          refine z_icmp_ge O (tgt := 105) zd_S_takeAck_93 (by decide) (fun c28 => ?_) (fun c28 => ?_)
          · have ht := ht.trans (if_pos c28)
            refine z_iload O zd_S_takeAck_105 0 rfl ?_
            exact E _ _ _ _ zd_S_takeAck_107 rfl ht.symm
          · have ht := ht.trans (if_neg c28)
            refine z_iload O zd_S_takeAck_96 1 rfl ?_
            refine z_if_ne O (tgt := 105) zd_S_takeAck_98 (by decide) (fun c29 => ?_) (fun c29 => absurd c29 (by decide))
            refine z_iload O zd_S_takeAck_105 0 rfl ?_
            exact E _ _ _ _ zd_S_takeAck_107 rfl ht.symm
      · have ht := ht.trans (if_neg c24)
        have ko := ko.2 c24
        refine z_aload_n O zd_S_takeAck_69 rfl 4 rfl ?_
        refine z_iload_n O zd_S_takeAck_70 rfl 3 rfl ?_
        refine z_callv O hl0 (st := []) 2 3 (fs := zo2 w (zuf σ 2 6 (if (σ 2 6) < (r1 + r4) then (r1 + r4) else (σ 2 6)))) rfl rfl (c_S_advanceTo l w (zuf σ 2 6 (if (σ 2 6) < (r1 + r4) then (r1 + r4) else (σ 2 6))) r1 ko.1) zl_S_135 zm624 zms10 rfl rfl (Nat.le_of_ble_eq_true rfl) (Nat.le_of_ble_eq_true rfl) (Nat.le_of_ble_eq_true rfl) zd_S_takeAck_71 (fun u30 e31 => ?_)
        have ht := ht.trans (zlet_e e31)
        have ko := ko.2 u30 e31
        refine z_aload_n O zd_S_takeAck_74 rfl 4 rfl ?_
        refine z_aload_n O zd_S_takeAck_75 rfl 5 rfl ?_
        refine z_iload_n O zd_S_takeAck_76 rfl 6 rfl ?_
        refine z_callv O hl0 (st := []) 2 3 (fs := zo2 w u30) rfl rfl (c_S_markBlocks l w u30 a2 ko) zl_S_138 zm646 zms13 rfl rfl (Nat.le_of_ble_eq_true rfl) (Nat.le_of_ble_eq_true rfl) (Nat.le_of_ble_eq_true rfl) zd_S_takeAck_77 (fun u32 e33 => ?_)
        have ht := ht.trans (zlet_e e33)
        refine z_iload O zd_S_takeAck_80 0 rfl ?_
        refine z_if_ne O (tgt := 105) zd_S_takeAck_82 (by decide) (fun c34 => ?_) (fun c34 => ?_)
        · have ht := ht.trans (if_neg c34)
          refine z_iload O zd_S_takeAck_105 0 rfl ?_
          exact E _ _ _ _ zd_S_takeAck_107 rfl ht.symm
        · have ht := ht.trans (if_pos c34)
          refine z_aload_n O zd_S_takeAck_85 rfl 4 rfl ?_
          refine zg_S_25_2 O zd_S_takeAck_86 (v := .int (u32 2 2)) rfl ?_
          refine z_aload_n O zd_S_takeAck_89 rfl 4 rfl ?_
          refine zg_S_29_2 O zd_S_takeAck_90 (v := .int (u32 2 3)) rfl ?_
          refine z_icmp_ge O (tgt := 105) zd_S_takeAck_93 (by decide) (fun c35 => ?_) (fun c35 => ?_)
          · have ht := ht.trans (if_pos c35)
            refine z_iload O zd_S_takeAck_105 0 rfl ?_
            exact E _ _ _ _ zd_S_takeAck_107 rfl ht.symm
          · have ht := ht.trans (if_neg c35)
            refine z_iload O zd_S_takeAck_96 1 rfl ?_
            refine z_if_ne O (tgt := 105) zd_S_takeAck_98 (by decide) (fun c36 => ?_) (fun c36 => absurd c36 (by decide))
            refine z_iload O zd_S_takeAck_105 0 rfl ?_
            exact E _ _ _ _ zd_S_takeAck_107 rfl ht.symm
  · have ht := ht.trans (if_neg c3)
    refine z_iconst O (v := 0) zd_S_takeAck_15 (by decide) ?_
    exact E _ _ _ _ zd_S_takeAck_16 rfl ht.symm
set_option maxHeartbeats 4000000 in
set_option maxRecDepth 100000 in
theorem c_M_thrown (l : Launch) (w : zWd) (σ : zSt) : zMi l ({ cls := "SluiceStreamModel", name := "thrown", desc := "()I" } : Jvm.MethodName) prog_8_method_2_code 1 0 0 .int w [.ref (zq w 13)] σ (fun r u => r = (f_M_thrown σ) ∧ u = σ) := by
  refine zMi_of (by decide +kernel) (Nat.le_of_ble_eq_true rfl) ?_
  intro K O hl0 E
  have ht : (f_M_thrown σ) = (f_M_thrown σ) := rfl
  refine z_sub (lv' := [(0, .ref (zq w 13))]) [0] rfl ?_
  refine z_aload_n O zd_M_thrown_0 rfl 0 rfl ?_
  refine zg_M_66_13 O zd_M_thrown_1 (v := .int (σ 13 0)) rfl ?_
  exact E _ _ _ _ zd_M_thrown_4 rfl ⟨ht.symm, rfl⟩
set_option maxHeartbeats 4000000 in
set_option maxRecDepth 100000 in
theorem c_M_isFine (l : Launch) (w : zWd) (σ : zSt) (a1 : Int32) : zMi l ({ cls := "SluiceStreamModel", name := "isFine", desc := "(I)Z" } : Jvm.MethodName) prog_8_method_3_code 2 0 0 .boolean w [.ref (zq w 13), .int a1] σ (fun r u => (r, u) = (f_M_isFine σ a1)) := by
  refine zMi_of (by decide +kernel) (Nat.le_of_ble_eq_true rfl) ?_
  intro K O hl0 E
  have ht : (f_M_isFine σ a1) = (f_M_isFine σ a1) := rfl
  refine z_sub (lv' := [(0, .ref (zq w 13)), (1, .int a1)]) [0, 1] rfl ?_
  refine z_aload_n O zd_M_isFine_0 rfl 0 rfl ?_
  refine z_iload_n O zd_M_isFine_1 rfl 1 rfl ?_
  refine zp_M_66_13 O zd_M_isFine_2 ?_
  refine z_iload_n O zd_M_isFine_5 rfl 1 rfl ?_
  refine z_if_ne O (tgt := 13) zd_M_isFine_6 (by decide) (fun c1 => ?_) (fun c1 => ?_)
  · have ht := ht.trans (if_neg c1)
    refine z_iconst O (v := 0) zd_M_isFine_13 (by decide) ?_
    exact E _ _ _ _ zd_M_isFine_14 rfl ht.symm
  · have ht := ht.trans (if_pos c1)
    refine z_iconst O (v := 1) zd_M_isFine_9 (by decide) ?_
    refine z_goto O (tgt := 14) zd_M_isFine_10 (by decide) ?_
    exact E _ _ _ _ zd_M_isFine_14 rfl ht.symm
set_option maxHeartbeats 4000000 in
set_option maxRecDepth 100000 in
theorem c_M_isIn (l : Launch) (w : zWd) (σ : zSt) (a1 : Int32) (a2 : Int32) (a3 : Int32) : zMi l ({ cls := "SluiceStreamModel", name := "isIn", desc := "(III)Z" } : Jvm.MethodName) prog_8_method_4_code 3 0 0 .boolean w [.int a1, .int a2, .int a3] σ (fun r u => r = (f_M_isIn σ a1 a2 a3) ∧ u = σ) := by
  refine zMi_of (by decide +kernel) (Nat.le_of_ble_eq_true rfl) ?_
  intro K O hl0 E
  have ht : (f_M_isIn σ a1 a2 a3) = (f_M_isIn σ a1 a2 a3) := rfl
  refine z_sub (lv' := [(0, .int a1), (1, .int a2), (2, .int a3)]) [0, 1, 2] rfl ?_
  refine z_iload_n O zd_M_isIn_0 rfl 0 rfl ?_
  refine z_iload_n O zd_M_isIn_1 rfl 1 rfl ?_
  refine z_icmp_lt O (tgt := 14) zd_M_isIn_2 (by decide) (fun c1 => ?_) (fun c1 => ?_)
  · have ht := ht.trans (if_pos c1)
    refine z_iconst O (v := 0) zd_M_isIn_14 (by decide) ?_
    exact E _ _ _ _ zd_M_isIn_15 rfl ⟨ht.symm, rfl⟩
  · have ht := ht.trans (if_neg c1)
    refine z_iload_n O zd_M_isIn_5 rfl 0 rfl ?_
    refine z_iload_n O zd_M_isIn_6 rfl 2 rfl ?_
    refine z_icmp_gt O (tgt := 14) zd_M_isIn_7 (by decide) (fun c2 => ?_) (fun c2 => ?_)
    · have ht := ht.trans (if_pos c2)
      refine z_iconst O (v := 0) zd_M_isIn_14 (by decide) ?_
      exact E _ _ _ _ zd_M_isIn_15 rfl ⟨ht.symm, rfl⟩
    · have ht := ht.trans (if_neg c2)
      refine z_iconst O (v := 1) zd_M_isIn_10 (by decide) ?_
      refine z_goto O (tgt := 15) zd_M_isIn_11 (by decide) ?_
      exact E _ _ _ _ zd_M_isIn_15 rfl ⟨ht.symm, rfl⟩
set_option maxHeartbeats 4000000 in
set_option maxRecDepth 100000 in
theorem c_M_lesser (l : Launch) (w : zWd) (σ : zSt) (a1 : Int32) (a2 : Int32) : zMi l ({ cls := "SluiceStreamModel", name := "lesser", desc := "(II)I" } : Jvm.MethodName) prog_8_method_5_code 2 0 0 .int w [.int a1, .int a2] σ (fun r u => r = (f_M_lesser σ a1 a2) ∧ u = σ) := by
  refine zMi_of (by decide +kernel) (Nat.le_of_ble_eq_true rfl) ?_
  intro K O hl0 E
  have ht : (f_M_lesser σ a1 a2) = (f_M_lesser σ a1 a2) := rfl
  refine z_sub (lv' := [(0, .int a1), (1, .int a2)]) [0, 1] rfl ?_
  refine z_iload_n O zd_M_lesser_0 rfl 0 rfl ?_
  refine z_iload_n O zd_M_lesser_1 rfl 1 rfl ?_
  refine z_icmp_ge O (tgt := 9) zd_M_lesser_2 (by decide) (fun c1 => ?_) (fun c1 => ?_)
  · have ht := ht.trans (if_pos c1)
    refine z_iload_n O zd_M_lesser_9 rfl 1 rfl ?_
    exact E _ _ _ _ zd_M_lesser_10 rfl ⟨ht.symm, rfl⟩
  · have ht := ht.trans (if_neg c1)
    refine z_iload_n O zd_M_lesser_5 rfl 0 rfl ?_
    refine z_goto O (tgt := 10) zd_M_lesser_6 (by decide) ?_
    exact E _ _ _ _ zd_M_lesser_10 rfl ⟨ht.symm, rfl⟩
set_option maxHeartbeats 4000000 in
set_option maxRecDepth 100000 in
theorem c_M_greater (l : Launch) (w : zWd) (σ : zSt) (a1 : Int32) (a2 : Int32) : zMi l ({ cls := "SluiceStreamModel", name := "greater", desc := "(II)I" } : Jvm.MethodName) prog_8_method_6_code 2 0 0 .int w [.int a1, .int a2] σ (fun r u => r = (f_M_greater σ a1 a2) ∧ u = σ) := by
  refine zMi_of (by decide +kernel) (Nat.le_of_ble_eq_true rfl) ?_
  intro K O hl0 E
  have ht : (f_M_greater σ a1 a2) = (f_M_greater σ a1 a2) := rfl
  refine z_sub (lv' := [(0, .int a1), (1, .int a2)]) [0, 1] rfl ?_
  refine z_iload_n O zd_M_greater_0 rfl 0 rfl ?_
  refine z_iload_n O zd_M_greater_1 rfl 1 rfl ?_
  refine z_icmp_le O (tgt := 9) zd_M_greater_2 (by decide) (fun c1 => ?_) (fun c1 => ?_)
  · have ht := ht.trans (if_pos c1)
    refine z_iload_n O zd_M_greater_9 rfl 1 rfl ?_
    exact E _ _ _ _ zd_M_greater_10 rfl ⟨ht.symm, rfl⟩
  · have ht := ht.trans (if_neg c1)
    refine z_iload_n O zd_M_greater_5 rfl 0 rfl ?_
    refine z_goto O (tgt := 10) zd_M_greater_6 (by decide) ?_
    exact E _ _ _ _ zd_M_greater_10 rfl ⟨ht.symm, rfl⟩
set_option maxHeartbeats 4000000 in
set_option maxRecDepth 100000 in
theorem L_M_write_53 {K : zCx} {w : zWd} {l : Launch} (O : zOk K w prog_8_method_7_code "SluiceStreamModel" 4 1 22) (hl0 : kl K = l) (x1 x2 : Int32) : ∀ (m : Nat) (σ : zSt) (x3 : Int32), kl_M_write_53 x1 x2 m σ x3 → (∀ r, r = (l_M_write_53 x1 x2 m σ x3) → Z K w r [(0, .ref (zq w 13)), (2, .int x2)] [] 82) → Z K w σ [(0, .ref (zq w 13)), (1, .int x1), (2, .int x2), (3, .int x3)] [] 53 := by
  intro m
  induction m with
  | zero => intro σ x3 ko; exact ko.elim
  | succ m ih =>
    intro σ x3 ko kk
    have ht : l_M_write_53 x1 x2 (m + 1) σ x3 = l_M_write_53 x1 x2 (m + 1) σ x3 := rfl
    refine z_iload_n O zd_M_write_53 rfl 3 rfl ?_
    refine z_iload_n O zd_M_write_54 rfl 2 rfl ?_
    refine z_icmp_ge O (tgt := 82) zd_M_write_55 (by decide) (fun c8 => ?_) (fun c8 => ?_)
    · have ht := ht.trans (if_pos c8)
      refine z_sub (lv' := [(0, .ref (zq w 13)), (2, .int x2)]) [0, 2] rfl ?_
      exact kk σ ht.symm
    · have ht := ht.trans (if_neg c8)
      have ko := ko c8
      refine z_aload_n O zd_M_write_58 rfl 0 rfl ?_
      refine zg_M_31_13 O zd_M_write_59 (v := .ref (zq w 14)) rfl ?_
      refine z_aload_n O zd_M_write_62 rfl 0 rfl ?_
      refine zg_M_73_13 O zd_M_write_63 (v := .int (σ 13 5)) rfl ?_
      refine z_iload_n O zd_M_write_66 rfl 3 rfl ?_
      refine z_iadd O zd_M_write_67 ?_
      refine z_iload_n O zd_M_write_68 rfl 1 rfl ?_
      refine z_iload_n O zd_M_write_69 rfl 3 rfl ?_
      refine z_iadd O zd_M_write_70 ?_
      refine z_sipush O (v := 256) zd_M_write_71 (by decide) ?_
      refine z_irem O zd_M_write_74 (by decide) ?_
      have b9 := ko.1
      have ko := ko.2
      refine z_iast O 14 (zae14 w σ) b9 (zas14 w σ _ _) zd_M_write_75 ?_
      refine z_iinc O (v := (x3 + 1)) (lv' := [(3, .int (x3 + 1)), (0, .ref (zq w 13)), (1, .int x1), (2, .int x2)]) zd_M_write_76 3 rfl rfl (Nat.le_of_ble_eq_true rfl) rfl ?_
      refine z_goto O (tgt := 53) zd_M_write_79 (by decide) ?_
      refine z_sub (lv' := [(0, .ref (zq w 13)), (1, .int x1), (2, .int x2), (3, .int (x3 + 1))]) [1, 2, 3, 0] rfl ?_
      exact ih (zuf σ 14 (((σ 13 5) + x3) : Int32).toNatClampNeg ((x1 + x3) - (x1 + x3) / 256 * 256)) (x3 + 1) ko (fun r e => kk r (e.trans ht.symm))
set_option maxHeartbeats 4000000 in
set_option maxRecDepth 100000 in
theorem c_M_write (l : Launch) (w : zWd) (σ : zSt) (a1 : Int32) (a2 : Int32) (ko : k_M_write σ a1 a2) : zMi l ({ cls := "SluiceStreamModel", name := "write", desc := "(II)I" } : Jvm.MethodName) prog_8_method_7_code 4 1 22 .int w [.ref (zq w 13), .int a1, .int a2] σ (fun r u => (r, u) = (f_M_write σ a1 a2)) := by
  refine zMi_of (by decide +kernel) (Nat.le_of_ble_eq_true rfl) ?_
  intro K O hl0 E
  have ht : (f_M_write σ a1 a2) = (f_M_write σ a1 a2) := rfl
  refine z_sub (lv' := [(0, .ref (zq w 13)), (1, .int a1), (2, .int a2)]) [0, 1, 2] rfl ?_
  refine z_aload_n O zd_M_write_0 rfl 0 rfl ?_
  refine z_iload_n O zd_M_write_1 rfl 1 rfl ?_
  refine z_iconst O (v := 0) zd_M_write_2 (by decide) ?_
  refine z_sipush O (v := 255) zd_M_write_3 (by decide) ?_
  refine z_callsri O hl0 (st := [.ref (zq w 13)]) (c_M_isIn l w σ a1 0 255) zl_M_69 zm864 rfl rfl (Nat.le_of_ble_eq_true rfl) (Nat.le_of_ble_eq_true rfl) (Nat.le_of_ble_eq_true rfl) zd_M_write_6 (fun r1 e2 => ?_)
  have ht := ht.trans (zlet_e e2)
  have ko := ko r1 e2
  refine z_if_eq O (tgt := 22) zd_M_write_9 (by decide) (fun c3 => ?_) (fun c3 => ?_)
  · have ht := ht.trans (if_pos c3)
    have ko := ko.1 c3
    refine z_iconst O (v := 1) zd_M_write_22 (by decide) ?_
    refine z_goto O (tgt := 43) zd_M_write_23 (by decide) ?_
    refine z_calli O hl0 (st := []) 13 6 (fs := zo13 w σ) rfl rfl (c_M_isFine l w σ 1) zl_M_76 zm868 zms15 rfl rfl (Nat.le_of_ble_eq_true rfl) (Nat.le_of_ble_eq_true rfl) (Nat.le_of_ble_eq_true rfl) zd_M_write_43 (fun r4 u5 e6 => ?_)
    have ht := ht.trans (zseq_e e6)
    have ko := ko r4 u5 e6
    refine z_if_ne O (tgt := 51) zd_M_write_46 (by decide) (fun c7 => ?_) (fun c7 => ?_)
    · have ht := ht.trans (if_neg c7)
      have ko := ko c7
      refine z_iconst O (v := 0) zd_M_write_51 (by decide) ?_
      refine z_istore_n O (lv' := [(3, .int 0), (0, .ref (zq w 13)), (1, .int a1), (2, .int a2)]) zd_M_write_52 rfl (Nat.le_of_ble_eq_true rfl) rfl ?_
      refine z_sub (lv' := [(0, .ref (zq w 13)), (1, .int a1), (2, .int a2), (3, .int 0)]) [1, 2, 3, 0] rfl ?_
      refine L_M_write_53 O hl0 a1 a2 (((a2).toInt - (0 : Int32).toInt).toNat + 2) u5 0 ko (fun r10 er10 => ?_)
      have ht := ht.trans (zlet_e er10)
      refine z_aload_n O zd_M_write_82 rfl 0 rfl ?_
      refine z_dup O zd_M_write_83 rfl ?_
      refine zg_M_73_13 O zd_M_write_84 (v := .int (r10 13 5)) rfl ?_
      refine z_iload_n O zd_M_write_87 rfl 1 rfl ?_
      refine z_iadd O zd_M_write_88 ?_
      refine zp_M_73_13 O zd_M_write_89 ?_
      refine z_aload_n O zd_M_write_92 rfl 0 rfl ?_
      refine zg_M_73_13 O zd_M_write_93 (v := .int ((r10 13 5) + a2)) rfl ?_
      exact E _ _ _ _ zd_M_write_96 rfl ht.symm
    · have ht := ht.trans (if_pos c7)
      refine z_iconst O (v := 0) zd_M_write_49 (by decide) ?_
      exact E _ _ _ _ zd_M_write_50 rfl ht.symm
  · have ht := ht.trans (if_neg c3)
    have ko := ko.2 c3
    refine z_iload_n O zd_M_write_12 rfl 2 rfl ?_
    refine z_iconst O (v := 1) zd_M_write_13 (by decide) ?_
    refine z_bipush O (v := 100) zd_M_write_14 (by decide) ?_
    refine z_callsri O hl0 (st := [.ref (zq w 13)]) (c_M_isIn l w σ a2 1 100) zl_M_69 zm864 rfl rfl (Nat.le_of_ble_eq_true rfl) (Nat.le_of_ble_eq_true rfl) (Nat.le_of_ble_eq_true rfl) zd_M_write_16 (fun r11 e12 => ?_)
    have ht := ht.trans (zlet_e e12)
    have ko := ko r11 e12
    refine z_if_ne O (tgt := 26) zd_M_write_19 (by decide) (fun c13 => ?_) (fun c13 => ?_)
    · have ht := ht.trans (if_neg c13)
      have ko := ko.2 c13
      refine z_aload_n O zd_M_write_26 rfl 0 rfl ?_
      refine zg_M_73_13 O zd_M_write_27 (v := .int (σ 13 5)) rfl ?_
      refine z_iload_n O zd_M_write_30 rfl 2 rfl ?_
      refine z_iadd O zd_M_write_31 ?_
      refine z_sipush O (v := 600) zd_M_write_32 (by decide) ?_
      refine z_icmp_le O (tgt := 42) zd_M_write_35 (by decide) (fun c14 => ?_) (fun c14 => ?_)
      · have ht := ht.trans (if_pos c14)
        have ko := ko.1 c14
        refine z_iconst O (v := 0) zd_M_write_42 (by decide) ?_
        refine z_calli O hl0 (st := []) 13 6 (fs := zo13 w σ) rfl rfl (c_M_isFine l w σ 0) zl_M_76 zm868 zms15 rfl rfl (Nat.le_of_ble_eq_true rfl) (Nat.le_of_ble_eq_true rfl) (Nat.le_of_ble_eq_true rfl) zd_M_write_43 (fun r15 u16 e17 => ?_)
        have ht := ht.trans (zseq_e e17)
        have ko := ko r15 u16 e17
        refine z_if_ne O (tgt := 51) zd_M_write_46 (by decide) (fun c18 => ?_) (fun c18 => ?_)
        · have ht := ht.trans (if_neg c18)
          have ko := ko c18
          refine z_iconst O (v := 0) zd_M_write_51 (by decide) ?_
          refine z_istore_n O (lv' := [(3, .int 0), (0, .ref (zq w 13)), (1, .int a1), (2, .int a2)]) zd_M_write_52 rfl (Nat.le_of_ble_eq_true rfl) rfl ?_
          refine z_sub (lv' := [(0, .ref (zq w 13)), (1, .int a1), (2, .int a2), (3, .int 0)]) [1, 2, 3, 0] rfl ?_
          refine L_M_write_53 O hl0 a1 a2 (((a2).toInt - (0 : Int32).toInt).toNat + 2) u16 0 ko (fun r19 er19 => ?_)
          have ht := ht.trans (zlet_e er19)
          refine z_aload_n O zd_M_write_82 rfl 0 rfl ?_
          refine z_dup O zd_M_write_83 rfl ?_
          refine zg_M_73_13 O zd_M_write_84 (v := .int (r19 13 5)) rfl ?_
          refine z_iload_n O zd_M_write_87 rfl 1 rfl ?_
          refine z_iadd O zd_M_write_88 ?_
          refine zp_M_73_13 O zd_M_write_89 ?_
          refine z_aload_n O zd_M_write_92 rfl 0 rfl ?_
          refine zg_M_73_13 O zd_M_write_93 (v := .int ((r19 13 5) + a2)) rfl ?_
          exact E _ _ _ _ zd_M_write_96 rfl ht.symm
        · have ht := ht.trans (if_pos c18)
          refine z_iconst O (v := 0) zd_M_write_49 (by decide) ?_
          exact E _ _ _ _ zd_M_write_50 rfl ht.symm
      · have ht := ht.trans (if_neg c14)
        have ko := ko.2 c14
        refine z_iconst O (v := 2) zd_M_write_38 (by decide) ?_
        refine z_goto O (tgt := 43) zd_M_write_39 (by decide) ?_
        refine z_calli O hl0 (st := []) 13 6 (fs := zo13 w σ) rfl rfl (c_M_isFine l w σ 2) zl_M_76 zm868 zms15 rfl rfl (Nat.le_of_ble_eq_true rfl) (Nat.le_of_ble_eq_true rfl) (Nat.le_of_ble_eq_true rfl) zd_M_write_43 (fun r20 u21 e22 => ?_)
        have ht := ht.trans (zseq_e e22)
        have ko := ko r20 u21 e22
        refine z_if_ne O (tgt := 51) zd_M_write_46 (by decide) (fun c23 => ?_) (fun c23 => ?_)
        · have ht := ht.trans (if_neg c23)
          have ko := ko c23
          refine z_iconst O (v := 0) zd_M_write_51 (by decide) ?_
          refine z_istore_n O (lv' := [(3, .int 0), (0, .ref (zq w 13)), (1, .int a1), (2, .int a2)]) zd_M_write_52 rfl (Nat.le_of_ble_eq_true rfl) rfl ?_
          refine z_sub (lv' := [(0, .ref (zq w 13)), (1, .int a1), (2, .int a2), (3, .int 0)]) [1, 2, 3, 0] rfl ?_
          refine L_M_write_53 O hl0 a1 a2 (((a2).toInt - (0 : Int32).toInt).toNat + 2) u21 0 ko (fun r24 er24 => ?_)
          have ht := ht.trans (zlet_e er24)
          refine z_aload_n O zd_M_write_82 rfl 0 rfl ?_
          refine z_dup O zd_M_write_83 rfl ?_
          refine zg_M_73_13 O zd_M_write_84 (v := .int (r24 13 5)) rfl ?_
          refine z_iload_n O zd_M_write_87 rfl 1 rfl ?_
          refine z_iadd O zd_M_write_88 ?_
          refine zp_M_73_13 O zd_M_write_89 ?_
          refine z_aload_n O zd_M_write_92 rfl 0 rfl ?_
          refine zg_M_73_13 O zd_M_write_93 (v := .int ((r24 13 5) + a2)) rfl ?_
          exact E _ _ _ _ zd_M_write_96 rfl ht.symm
        · have ht := ht.trans (if_pos c23)
          refine z_iconst O (v := 0) zd_M_write_49 (by decide) ?_
          exact E _ _ _ _ zd_M_write_50 rfl ht.symm
    · have ht := ht.trans (if_pos c13)
      have ko := ko.1 c13
      refine z_iconst O (v := 1) zd_M_write_22 (by decide) ?_
      refine z_goto O (tgt := 43) zd_M_write_23 (by decide) ?_
      refine z_calli O hl0 (st := []) 13 6 (fs := zo13 w σ) rfl rfl (c_M_isFine l w σ 1) zl_M_76 zm868 zms15 rfl rfl (Nat.le_of_ble_eq_true rfl) (Nat.le_of_ble_eq_true rfl) (Nat.le_of_ble_eq_true rfl) zd_M_write_43 (fun r25 u26 e27 => ?_)
      have ht := ht.trans (zseq_e e27)
      have ko := ko r25 u26 e27
      refine z_if_ne O (tgt := 51) zd_M_write_46 (by decide) (fun c28 => ?_) (fun c28 => ?_)
      · have ht := ht.trans (if_neg c28)
        have ko := ko c28
        refine z_iconst O (v := 0) zd_M_write_51 (by decide) ?_
        refine z_istore_n O (lv' := [(3, .int 0), (0, .ref (zq w 13)), (1, .int a1), (2, .int a2)]) zd_M_write_52 rfl (Nat.le_of_ble_eq_true rfl) rfl ?_
        refine z_sub (lv' := [(0, .ref (zq w 13)), (1, .int a1), (2, .int a2), (3, .int 0)]) [1, 2, 3, 0] rfl ?_
        refine L_M_write_53 O hl0 a1 a2 (((a2).toInt - (0 : Int32).toInt).toNat + 2) u26 0 ko (fun r29 er29 => ?_)
        have ht := ht.trans (zlet_e er29)
        refine z_aload_n O zd_M_write_82 rfl 0 rfl ?_
        refine z_dup O zd_M_write_83 rfl ?_
        refine zg_M_73_13 O zd_M_write_84 (v := .int (r29 13 5)) rfl ?_
        refine z_iload_n O zd_M_write_87 rfl 1 rfl ?_
        refine z_iadd O zd_M_write_88 ?_
        refine zp_M_73_13 O zd_M_write_89 ?_
        refine z_aload_n O zd_M_write_92 rfl 0 rfl ?_
        refine zg_M_73_13 O zd_M_write_93 (v := .int ((r29 13 5) + a2)) rfl ?_
        exact E _ _ _ _ zd_M_write_96 rfl ht.symm
      · have ht := ht.trans (if_pos c28)
        refine z_iconst O (v := 0) zd_M_write_49 (by decide) ?_
        exact E _ _ _ _ zd_M_write_50 rfl ht.symm
set_option maxHeartbeats 4000000 in
set_option maxRecDepth 100000 in
theorem c_M_room (l : Launch) (w : zWd) (σ : zSt) : zMi l ({ cls := "SluiceStreamModel", name := "room", desc := "()I" } : Jvm.MethodName) prog_8_method_8_code 1 0 0 .int w [.ref (zq w 13)] σ (fun r u => r = (f_M_room σ) ∧ u = σ) := by
  refine zMi_of (by decide +kernel) (Nat.le_of_ble_eq_true rfl) ?_
  intro K O hl0 E
  have ht : (f_M_room σ) = (f_M_room σ) := rfl
  refine z_sub (lv' := [(0, .ref (zq w 13))]) [0] rfl ?_
  refine z_aload_n O zd_M_room_0 rfl 0 rfl ?_
  refine zg_M_80_13 O zd_M_room_1 (v := .int (σ 13 29)) rfl ?_
  refine z_bipush O (v := 32) zd_M_room_4 (by decide) ?_
  refine z_iadd O zd_M_room_6 ?_
  refine z_aload_n O zd_M_room_7 rfl 0 rfl ?_
  refine zg_M_83_13 O zd_M_room_8 (v := .int (σ 13 28)) rfl ?_
  refine z_isub O zd_M_room_11 ?_
  exact E _ _ _ _ zd_M_room_12 rfl ⟨ht.symm, rfl⟩
set_option maxHeartbeats 4000000 in
set_option maxRecDepth 100000 in
theorem L_M_leaves_12 {K : zCx} {w : zWd} {l : Launch} (O : zOk K w prog_8_method_27_code "SluiceStreamModel" 3 0 0) (hl0 : kl K = l) (x1 : Int32) : ∀ (m : Nat) (σ : zSt) (x2 : Int32), kl_M_leaves_12 x1 m σ x2 → (∀ r, r = (l_M_leaves_12 x1 m σ x2) → Z K w r [(0, .ref (zq w 13)), (1, .int x1)] [] 68) → Z K w σ [(0, .ref (zq w 13)), (1, .int x1), (2, .int x2)] [] 12 := by
  intro m
  induction m with
  | zero => intro σ x2 ko; exact ko.elim
  | succ m ih =>
    intro σ x2 ko kk
    have ht : l_M_leaves_12 x1 (m + 1) σ x2 = l_M_leaves_12 x1 (m + 1) σ x2 := rfl
    refine z_iload_n O zd_M_leaves_12 rfl 2 rfl ?_
    refine z_aload_n O zd_M_leaves_13 rfl 0 rfl ?_
    refine zg_M_174_13 O zd_M_leaves_14 (v := .int (σ 13 38)) rfl ?_
    refine z_icmp_ge O (tgt := 68) zd_M_leaves_17 (by decide) (fun c1 => ?_) (fun c1 => ?_)
    · have ht := ht.trans (if_pos c1)
      refine z_sub (lv' := [(0, .ref (zq w 13)), (1, .int x1)]) [0, 1] rfl ?_
      exact kk σ ht.symm
    · have ht := ht.trans (if_neg c1)
      have ko := ko c1
      refine z_aload_n O zd_M_leaves_20 rfl 0 rfl ?_
      refine zg_M_51_13 O zd_M_leaves_21 (v := .ref (zq w 20)) rfl ?_
      refine z_iload_n O zd_M_leaves_24 rfl 2 rfl ?_
      refine z_aload_n O zd_M_leaves_25 rfl 0 rfl ?_
      refine zg_M_51_13 O zd_M_leaves_26 (v := .ref (zq w 20)) rfl ?_
      refine z_iload_n O zd_M_leaves_29 rfl 2 rfl ?_
      refine z_iconst O (v := 1) zd_M_leaves_30 (by decide) ?_
      refine z_iadd O zd_M_leaves_31 ?_
      have b2 := ko.1
      have ko := ko.2
      refine z_iald O 20 (zae20 w σ) b2 (v := (σ 20 ((x2 + 1) : Int32).toNatClampNeg)) rfl zd_M_leaves_32 ?_
      have b3 := ko.1
      have ko := ko.2
      refine z_iast O 20 (zae20 w σ) b3 (zas20 w σ _ _) zd_M_leaves_33 ?_
      refine z_aload_n O zd_M_leaves_34 rfl 0 rfl ?_
      refine zg_M_54_13 O zd_M_leaves_35 (v := .ref (zq w 21)) rfl ?_
      refine z_iload_n O zd_M_leaves_38 rfl 2 rfl ?_
      refine z_aload_n O zd_M_leaves_39 rfl 0 rfl ?_
      refine zg_M_54_13 O zd_M_leaves_40 (v := .ref (zq w 21)) rfl ?_
      refine z_iload_n O zd_M_leaves_43 rfl 2 rfl ?_
      refine z_iconst O (v := 1) zd_M_leaves_44 (by decide) ?_
      refine z_iadd O zd_M_leaves_45 ?_
      have b4 := ko.1
      have ko := ko.2
      refine z_iald O 21 (zae21 w (zuf σ 20 x2.toNatClampNeg (σ 20 ((x2 + 1) : Int32).toNatClampNeg))) b4 (v := (σ 21 ((x2 + 1) : Int32).toNatClampNeg)) rfl zd_M_leaves_46 ?_
      have b5 := ko.1
      have ko := ko.2
      refine z_iast O 21 (zae21 w (zuf σ 20 x2.toNatClampNeg (σ 20 ((x2 + 1) : Int32).toNatClampNeg))) b5 (zas21 w (zuf σ 20 x2.toNatClampNeg (σ 20 ((x2 + 1) : Int32).toNatClampNeg)) _ _) zd_M_leaves_47 ?_
      refine z_aload_n O zd_M_leaves_48 rfl 0 rfl ?_
      refine zg_M_57_13 O zd_M_leaves_49 (v := .ref (zq w 22)) rfl ?_
      refine z_iload_n O zd_M_leaves_52 rfl 2 rfl ?_
      refine z_aload_n O zd_M_leaves_53 rfl 0 rfl ?_
      refine zg_M_57_13 O zd_M_leaves_54 (v := .ref (zq w 22)) rfl ?_
      refine z_iload_n O zd_M_leaves_57 rfl 2 rfl ?_
      refine z_iconst O (v := 1) zd_M_leaves_58 (by decide) ?_
      refine z_iadd O zd_M_leaves_59 ?_
      have b6 := ko.1
      have ko := ko.2
      refine z_iald O 22 (zae22 w (zuf (zuf σ 20 x2.toNatClampNeg (σ 20 ((x2 + 1) : Int32).toNatClampNeg)) 21 x2.toNatClampNeg (σ 21 ((x2 + 1) : Int32).toNatClampNeg))) b6 (v := (σ 22 ((x2 + 1) : Int32).toNatClampNeg)) rfl zd_M_leaves_60 ?_
      have b7 := ko.1
      have ko := ko.2
      refine z_iast O 22 (zae22 w (zuf (zuf σ 20 x2.toNatClampNeg (σ 20 ((x2 + 1) : Int32).toNatClampNeg)) 21 x2.toNatClampNeg (σ 21 ((x2 + 1) : Int32).toNatClampNeg))) b7 (zas22 w (zuf (zuf σ 20 x2.toNatClampNeg (σ 20 ((x2 + 1) : Int32).toNatClampNeg)) 21 x2.toNatClampNeg (σ 21 ((x2 + 1) : Int32).toNatClampNeg)) _ _) zd_M_leaves_61 ?_
      refine z_iinc O (v := (x2 + 1)) (lv' := [(2, .int (x2 + 1)), (0, .ref (zq w 13)), (1, .int x1)]) zd_M_leaves_62 2 rfl rfl (Nat.le_of_ble_eq_true rfl) rfl ?_
      refine z_goto O (tgt := 12) zd_M_leaves_65 (by decide) ?_
      refine z_sub (lv' := [(0, .ref (zq w 13)), (1, .int x1), (2, .int (x2 + 1))]) [1, 2, 0] rfl ?_
      exact ih (zuf (zuf (zuf σ 20 x2.toNatClampNeg (σ 20 ((x2 + 1) : Int32).toNatClampNeg)) 21 x2.toNatClampNeg (σ 21 ((x2 + 1) : Int32).toNatClampNeg)) 22 x2.toNatClampNeg (σ 22 ((x2 + 1) : Int32).toNatClampNeg)) (x2 + 1) ko (fun r e => kk r (e.trans ht.symm))
set_option maxHeartbeats 4000000 in
set_option maxRecDepth 100000 in
theorem L_M_leaves_72 {K : zCx} {w : zWd} {l : Launch} (O : zOk K w prog_8_method_27_code "SluiceStreamModel" 3 0 0) (hl0 : kl K = l) : ∀ (m : Nat) (σ : zSt) (x2 : Int32), kl_M_leaves_72  m σ x2 → (∀ r, r = (l_M_leaves_72  m σ x2) → Z K w r [] [] 116) → Z K w σ [(0, .ref (zq w 13)), (2, .int x2)] [] 72 := by
  intro m
  induction m with
  | zero => intro σ x2 ko; exact ko.elim
  | succ m ih =>
    intro σ x2 ko kk
    have ht : l_M_leaves_72  (m + 1) σ x2 = l_M_leaves_72  (m + 1) σ x2 := rfl
    refine z_iload_n O zd_M_leaves_72 rfl 1 rfl ?_
    refine z_iconst O (v := 3) zd_M_leaves_73 (by decide) ?_
    refine z_aload_n O zd_M_leaves_74 rfl 0 rfl ?_
    refine zg_M_174_13 O zd_M_leaves_75 (v := .int (σ 13 38)) rfl ?_
    refine z_imul O zd_M_leaves_78 ?_
    refine z_icmp_ge O (tgt := 116) zd_M_leaves_79 (by decide) (fun c9 => ?_) (fun c9 => ?_)
    · have ht := ht.trans (if_pos c9)
      refine z_sub (lv' := []) [] rfl ?_
      exact kk σ ht.symm
    · have ht := ht.trans (if_neg c9)
      have ko := ko c9
      refine z_aload_n O zd_M_leaves_82 rfl 0 rfl ?_
      refine zg_M_60_13 O zd_M_leaves_83 (v := .ref (zq w 23)) rfl ?_
      refine z_iload_n O zd_M_leaves_86 rfl 1 rfl ?_
      refine z_aload_n O zd_M_leaves_87 rfl 0 rfl ?_
      refine zg_M_60_13 O zd_M_leaves_88 (v := .ref (zq w 23)) rfl ?_
      refine z_iload_n O zd_M_leaves_91 rfl 1 rfl ?_
      refine z_iconst O (v := 3) zd_M_leaves_92 (by decide) ?_
      refine z_iadd O zd_M_leaves_93 ?_
      have b10 := ko.1
      have ko := ko.2
      refine z_iald O 23 (zae23 w σ) b10 (v := (σ 23 ((x2 + 3) : Int32).toNatClampNeg)) rfl zd_M_leaves_94 ?_
      have b11 := ko.1
      have ko := ko.2
      refine z_iast O 23 (zae23 w σ) b11 (zas23 w σ _ _) zd_M_leaves_95 ?_
      refine z_aload_n O zd_M_leaves_96 rfl 0 rfl ?_
      refine zg_M_63_13 O zd_M_leaves_97 (v := .ref (zq w 24)) rfl ?_
      refine z_iload_n O zd_M_leaves_100 rfl 1 rfl ?_
      refine z_aload_n O zd_M_leaves_101 rfl 0 rfl ?_
      refine zg_M_63_13 O zd_M_leaves_102 (v := .ref (zq w 24)) rfl ?_
      refine z_iload_n O zd_M_leaves_105 rfl 1 rfl ?_
      refine z_iconst O (v := 3) zd_M_leaves_106 (by decide) ?_
      refine z_iadd O zd_M_leaves_107 ?_
      have b12 := ko.1
      have ko := ko.2
      refine z_iald O 24 (zae24 w (zuf σ 23 x2.toNatClampNeg (σ 23 ((x2 + 3) : Int32).toNatClampNeg))) b12 (v := (σ 24 ((x2 + 3) : Int32).toNatClampNeg)) rfl zd_M_leaves_108 ?_
      have b13 := ko.1
      have ko := ko.2
      refine z_iast O 24 (zae24 w (zuf σ 23 x2.toNatClampNeg (σ 23 ((x2 + 3) : Int32).toNatClampNeg))) b13 (zas24 w (zuf σ 23 x2.toNatClampNeg (σ 23 ((x2 + 3) : Int32).toNatClampNeg)) _ _) zd_M_leaves_109 ?_
      refine z_iinc O (v := (x2 + 1)) (lv' := [(2, .int (x2 + 1)), (0, .ref (zq w 13))]) zd_M_leaves_110 1 rfl rfl (Nat.le_of_ble_eq_true rfl) rfl ?_
      refine z_goto O (tgt := 72) zd_M_leaves_113 (by decide) ?_
      refine z_sub (lv' := [(0, .ref (zq w 13)), (2, .int (x2 + 1))]) [1, 0] rfl ?_
      exact ih (zuf (zuf σ 23 x2.toNatClampNeg (σ 23 ((x2 + 3) : Int32).toNatClampNeg)) 24 x2.toNatClampNeg (σ 24 ((x2 + 3) : Int32).toNatClampNeg)) (x2 + 1) ko (fun r e => kk r (e.trans ht.symm))
set_option maxHeartbeats 4000000 in
set_option maxRecDepth 100000 in
theorem c_M_leaves (l : Launch) (w : zWd) (σ : zSt) (a1 : Int32) (ko : k_M_leaves σ a1) : zMv l ({ cls := "SluiceStreamModel", name := "leaves", desc := "(I)V" } : Jvm.MethodName) prog_8_method_27_code 3 0 0 w [.ref (zq w 13), .int a1] σ (fun u => u = (f_M_leaves σ a1)) := by
  refine zMv_of (by decide +kernel) (Nat.le_of_ble_eq_true rfl) ?_
  intro K O hl0 E
  have ht : (f_M_leaves σ a1) = (f_M_leaves σ a1) := rfl
  refine z_sub (lv' := [(0, .ref (zq w 13)), (1, .int a1)]) [0, 1] rfl ?_
  refine z_aload_n O zd_M_leaves_0 rfl 0 rfl ?_
  refine z_dup O zd_M_leaves_1 rfl ?_
  refine zg_M_174_13 O zd_M_leaves_2 (v := .int (σ 13 38)) rfl ?_
  refine z_iconst O (v := 1) zd_M_leaves_5 (by decide) ?_
  refine z_isub O zd_M_leaves_6 ?_
  refine zp_M_174_13 O zd_M_leaves_7 ?_
  refine z_iload_n O zd_M_leaves_10 rfl 1 rfl ?_
  refine z_istore_n O (lv' := [(2, .int a1), (0, .ref (zq w 13)), (1, .int a1)]) zd_M_leaves_11 rfl (Nat.le_of_ble_eq_true rfl) rfl ?_
  refine z_sub (lv' := [(0, .ref (zq w 13)), (1, .int a1), (2, .int a1)]) [1, 2, 0] rfl ?_
  refine L_M_leaves_12 O hl0 a1 (((((zuf σ 13 38 ((σ 13 38) - 1)) 13 38)).toInt - (a1).toInt).toNat + 2) (zuf σ 13 38 ((σ 13 38) - 1)) a1 ko.1 (fun r8 er8 => ?_)
  have ht := ht.trans (zlet_e er8)
  have ko := ko.2 r8 er8
  refine z_iconst O (v := 3) zd_M_leaves_68 (by decide) ?_
  refine z_iload_n O zd_M_leaves_69 rfl 1 rfl ?_
  refine z_imul O zd_M_leaves_70 ?_
  refine z_istore_n O (lv' := [(2, .int (3 * a1)), (0, .ref (zq w 13)), (1, .int a1)]) zd_M_leaves_71 rfl (Nat.le_of_ble_eq_true rfl) rfl ?_
  refine z_sub (lv' := [(0, .ref (zq w 13)), (2, .int (3 * a1))]) [1, 0] rfl ?_
  refine L_M_leaves_72 O hl0 ((((3 * (r8 13 38))).toInt - ((3 * a1)).toInt).toNat + 2) r8 (3 * a1) ko (fun r14 er14 => ?_)
  have ht := ht.trans (zlet_e er14)
  exact E _ _ _ zd_M_leaves_116 ht.symm
set_option maxHeartbeats 4000000 in
set_option maxRecDepth 100000 in
theorem c_M_isStart (l : Launch) (w : zWd) (σ : zSt) (a1 : Int32) (ko : k_M_isStart σ a1) : zMi l ({ cls := "SluiceStreamModel", name := "isStart", desc := "(I)Z" } : Jvm.MethodName) prog_8_method_24_code 2 0 0 .boolean w [.ref (zq w 13), .int a1] σ (fun r u => r = (f_M_isStart σ a1) ∧ u = σ) := by
  refine zMi_of (by decide +kernel) (Nat.le_of_ble_eq_true rfl) ?_
  intro K O hl0 E
  have ht : (f_M_isStart σ a1) = (f_M_isStart σ a1) := rfl
  refine z_sub (lv' := [(0, .ref (zq w 13)), (1, .int a1)]) [0, 1] rfl ?_
  refine z_iload_n O zd_M_isStart_0 rfl 1 rfl ?_
  refine z_aload_n O zd_M_isStart_1 rfl 0 rfl ?_
  refine zg_M_83_13 O zd_M_isStart_2 (v := .int (σ 13 28)) rfl ?_
  refine z_icmp_le O (tgt := 32) zd_M_isStart_5 (by decide) (fun c1 => ?_) (fun c1 => ?_)
  · have ht := ht.trans (if_pos c1)
    refine z_iconst O (v := 0) zd_M_isStart_32 (by decide) ?_
    exact E _ _ _ _ zd_M_isStart_33 rfl ⟨ht.symm, rfl⟩
  · have ht := ht.trans (if_neg c1)
    have ko := ko c1
    refine z_aload_n O zd_M_isStart_8 rfl 0 rfl ?_
    refine zg_M_39_13 O zd_M_isStart_9 (v := .ref (zq w 16)) rfl ?_
    refine z_iload_n O zd_M_isStart_12 rfl 1 rfl ?_
    have b2 := ko.1
    have ko := ko.2
    refine z_zald O 16 (zae16 w σ) b2 (v := (σ 16 a1.toNatClampNeg)) rfl zd_M_isStart_13 ?_
    refine z_if_eq O (tgt := 32) zd_M_isStart_14 (by decide) (fun c3 => ?_) (fun c3 => ?_)
    · have ht := ht.trans (if_pos c3)
      refine z_iconst O (v := 0) zd_M_isStart_32 (by decide) ?_
      exact E _ _ _ _ zd_M_isStart_33 rfl ⟨ht.symm, rfl⟩
    · have ht := ht.trans (if_neg c3)
      have ko := ko c3
      refine z_aload_n O zd_M_isStart_17 rfl 0 rfl ?_
      refine zg_M_39_13 O zd_M_isStart_18 (v := .ref (zq w 16)) rfl ?_
      refine z_iload_n O zd_M_isStart_21 rfl 1 rfl ?_
      refine z_iconst O (v := 1) zd_M_isStart_22 (by decide) ?_
      refine z_isub O zd_M_isStart_23 ?_
      have b4 := ko
      refine z_zald O 16 (zae16 w σ) b4 (v := (σ 16 ((a1 - 1) : Int32).toNatClampNeg)) rfl zd_M_isStart_24 ?_
      refine z_if_ne O (tgt := 32) zd_M_isStart_25 (by decide) (fun c5 => ?_) (fun c5 => ?_)
      · have ht := ht.trans (if_neg c5)
        refine z_iconst O (v := 0) zd_M_isStart_32 (by decide) ?_
        exact E _ _ _ _ zd_M_isStart_33 rfl ⟨ht.symm, rfl⟩
      · have ht := ht.trans (if_pos c5)
        refine z_iconst O (v := 1) zd_M_isStart_28 (by decide) ?_
        refine z_goto O (tgt := 33) zd_M_isStart_29 (by decide) ?_
        exact E _ _ _ _ zd_M_isStart_33 rfl ⟨ht.symm, rfl⟩
set_option maxHeartbeats 4000000 in
set_option maxRecDepth 100000 in
theorem L_M_latest_4 {K : zCx} {w : zWd} {l : Launch} (O : zOk K w prog_8_method_23_code "SluiceStreamModel" 4 1 21) (hl0 : kl K = l) (σ : zSt) : ∀ (m : Nat) (x2 x3 : Int32), kl_M_latest_4 σ  m x2 x3 → (∀ r, r = (l_M_latest_4 σ  m x2 x3) → Z K w σ [(2, .int r)] [] 37) → Z K w σ [(0, .ref (zq w 13)), (2, .int x2), (3, .int x3)] [] 4 := by
  intro m
  induction m with
  | zero => intro x2 x3 ko; exact ko.elim
  | succ m ih =>
    intro x2 x3 ko kk
    have ht : l_M_latest_4 σ  (m + 1) x2 x3 = l_M_latest_4 σ  (m + 1) x2 x3 := rfl
    refine z_iload_n O zd_M_latest_4 rfl 2 rfl ?_
    refine z_sipush O (v := 600) zd_M_latest_5 (by decide) ?_
    refine z_icmp_ge O (tgt := 37) zd_M_latest_8 (by decide) (fun c1 => ?_) (fun c1 => ?_)
    · have ht := ht.trans (if_pos c1)
      refine z_sub (lv' := [(2, .int x2)]) [1] rfl ?_
      exact kk x2 ht.symm
    · have ht := ht.trans (if_neg c1)
      have ko := ko c1
      refine z_aload_n O zd_M_latest_11 rfl 0 rfl ?_
      refine zg_M_39_13 O zd_M_latest_12 (v := .ref (zq w 16)) rfl ?_
      refine z_iload_n O zd_M_latest_15 rfl 2 rfl ?_
      have b2 := ko.1
      have ko := ko.2
      refine z_zald O 16 (zae16 w σ) b2 (v := (σ 16 x3.toNatClampNeg)) rfl zd_M_latest_16 ?_
      refine z_if_eq O (tgt := 37) zd_M_latest_17 (by decide) (fun c3 => ?_) (fun c3 => ?_)
      · have ht := ht.trans (if_pos c3)
        refine z_sub (lv' := [(2, .int x2)]) [1] rfl ?_
        exact kk x2 ht.symm
      · have ht := ht.trans (if_neg c3)
        have ko := ko c3
        refine z_iload_n O zd_M_latest_20 rfl 1 rfl ?_
        refine z_aload_n O zd_M_latest_21 rfl 0 rfl ?_
        refine zg_M_42_13 O zd_M_latest_22 (v := .ref (zq w 17)) rfl ?_
        refine z_iload_n O zd_M_latest_25 rfl 2 rfl ?_
        have b4 := ko.1
        have ko := ko.2
        refine z_iald O 17 (zae17 w σ) b4 (v := (σ 17 x3.toNatClampNeg)) rfl zd_M_latest_26 ?_
        refine z_callsri O hl0 (st := []) (c_M_greater l w σ x2 (σ 17 x3.toNatClampNeg)) zl_M_102 zm895 rfl rfl (Nat.le_of_ble_eq_true rfl) (Nat.le_of_ble_eq_true rfl) (Nat.le_of_ble_eq_true rfl) zd_M_latest_27 (fun r5 e6 => ?_)
        have ht := ht.trans (zlet_e e6)
        have ko := ko r5 e6
        refine z_istore_n O (lv' := [(2, .int r5), (0, .ref (zq w 13)), (3, .int x3)]) zd_M_latest_30 rfl (Nat.le_of_ble_eq_true rfl) rfl ?_
        refine z_iinc O (v := (x3 + 1)) (lv' := [(3, .int (x3 + 1)), (2, .int r5), (0, .ref (zq w 13))]) zd_M_latest_31 2 rfl rfl (Nat.le_of_ble_eq_true rfl) rfl ?_
        refine z_goto O (tgt := 4) zd_M_latest_34 (by decide) ?_
        refine z_sub (lv' := [(0, .ref (zq w 13)), (2, .int r5), (3, .int (x3 + 1))]) [2, 1, 0] rfl ?_
        exact ih r5 (x3 + 1) ko (fun r e => kk r (e.trans ht.symm))
set_option maxHeartbeats 4000000 in
set_option maxRecDepth 100000 in
theorem c_M_latest (l : Launch) (w : zWd) (σ : zSt) (a1 : Int32) (ko : k_M_latest σ a1) : zMi l ({ cls := "SluiceStreamModel", name := "latest", desc := "(I)I" } : Jvm.MethodName) prog_8_method_23_code 4 1 21 .int w [.ref (zq w 13), .int a1] σ (fun r u => r = (f_M_latest σ a1) ∧ u = σ) := by
  refine zMi_of (by decide +kernel) (Nat.le_of_ble_eq_true rfl) ?_
  intro K O hl0 E
  have ht : (f_M_latest σ a1) = (f_M_latest σ a1) := rfl
  refine z_sub (lv' := [(0, .ref (zq w 13)), (1, .int a1)]) [0, 1] rfl ?_
  refine z_iconst O (v := 0) zd_M_latest_0 (by decide) ?_
  refine z_istore_n O (lv' := [(2, .int 0), (0, .ref (zq w 13)), (1, .int a1)]) zd_M_latest_1 rfl (Nat.le_of_ble_eq_true rfl) rfl ?_
  refine z_iload_n O zd_M_latest_2 rfl 2 rfl ?_
  refine z_istore_n O (lv' := [(3, .int a1), (2, .int 0), (0, .ref (zq w 13)), (1, .int a1)]) zd_M_latest_3 rfl (Nat.le_of_ble_eq_true rfl) rfl ?_
  refine z_sub (lv' := [(0, .ref (zq w 13)), (2, .int 0), (3, .int a1)]) [2, 1, 0] rfl ?_
  refine L_M_latest_4 O hl0 σ (((600 : Int32).toInt - (a1).toInt).toNat + 2) 0 a1 ko (fun r7 er7 => ?_)
  have ht := ht.trans (zlet_e er7)
  refine z_iload_n O zd_M_latest_37 rfl 0 rfl ?_
  exact E _ _ _ _ zd_M_latest_38 rfl ⟨ht.symm, rfl⟩
set_option maxHeartbeats 4000000 in
set_option maxRecDepth 100000 in
theorem L_M_runEnd_2 {K : zCx} {w : zWd} {l : Launch} (O : zOk K w prog_8_method_25_code "SluiceStreamModel" 3 0 0) (hl0 : kl K = l) (σ : zSt) : ∀ (m : Nat) (x2 : Int32), kl_M_runEnd_2 σ  m x2 → (∀ r, r = (l_M_runEnd_2 σ  m x2) → Z K w σ [(2, .int r)] [] 24) → Z K w σ [(0, .ref (zq w 13)), (2, .int x2)] [] 2 := by
  intro m
  induction m with
  | zero => intro x2 ko; exact ko.elim
  | succ m ih =>
    intro x2 ko kk
    have ht : l_M_runEnd_2 σ  (m + 1) x2 = l_M_runEnd_2 σ  (m + 1) x2 := rfl
    refine z_iload_n O zd_M_runEnd_2 rfl 1 rfl ?_
    refine z_sipush O (v := 600) zd_M_runEnd_3 (by decide) ?_
    refine z_icmp_ge O (tgt := 24) zd_M_runEnd_6 (by decide) (fun c1 => ?_) (fun c1 => ?_)
    · have ht := ht.trans (if_pos c1)
      refine z_sub (lv' := [(2, .int x2)]) [1] rfl ?_
      exact kk x2 ht.symm
    · have ht := ht.trans (if_neg c1)
      have ko := ko c1
      refine z_aload_n O zd_M_runEnd_9 rfl 0 rfl ?_
      refine zg_M_39_13 O zd_M_runEnd_10 (v := .ref (zq w 16)) rfl ?_
      refine z_iload_n O zd_M_runEnd_13 rfl 1 rfl ?_
      have b2 := ko.1
      have ko := ko.2
      refine z_zald O 16 (zae16 w σ) b2 (v := (σ 16 x2.toNatClampNeg)) rfl zd_M_runEnd_14 ?_
      refine z_if_eq O (tgt := 24) zd_M_runEnd_15 (by decide) (fun c3 => ?_) (fun c3 => ?_)
      · have ht := ht.trans (if_pos c3)
        refine z_sub (lv' := [(2, .int x2)]) [1] rfl ?_
        exact kk x2 ht.symm
      · have ht := ht.trans (if_neg c3)
        have ko := ko c3
        refine z_iinc O (v := (x2 + 1)) (lv' := [(2, .int (x2 + 1)), (0, .ref (zq w 13))]) zd_M_runEnd_18 1 rfl rfl (Nat.le_of_ble_eq_true rfl) rfl ?_
        refine z_goto O (tgt := 2) zd_M_runEnd_21 (by decide) ?_
        refine z_sub (lv' := [(0, .ref (zq w 13)), (2, .int (x2 + 1))]) [1, 0] rfl ?_
        exact ih (x2 + 1) ko (fun r e => kk r (e.trans ht.symm))
set_option maxHeartbeats 4000000 in
set_option maxRecDepth 100000 in
theorem c_M_runEnd (l : Launch) (w : zWd) (σ : zSt) (a1 : Int32) (ko : k_M_runEnd σ a1) : zMi l ({ cls := "SluiceStreamModel", name := "runEnd", desc := "(I)I" } : Jvm.MethodName) prog_8_method_25_code 3 0 0 .int w [.ref (zq w 13), .int a1] σ (fun r u => r = (f_M_runEnd σ a1) ∧ u = σ) := by
  refine zMi_of (by decide +kernel) (Nat.le_of_ble_eq_true rfl) ?_
  intro K O hl0 E
  have ht : (f_M_runEnd σ a1) = (f_M_runEnd σ a1) := rfl
  refine z_sub (lv' := [(0, .ref (zq w 13)), (1, .int a1)]) [0, 1] rfl ?_
  refine z_iload_n O zd_M_runEnd_0 rfl 1 rfl ?_
  refine z_istore_n O (lv' := [(2, .int a1), (0, .ref (zq w 13)), (1, .int a1)]) zd_M_runEnd_1 rfl (Nat.le_of_ble_eq_true rfl) rfl ?_
  refine z_sub (lv' := [(0, .ref (zq w 13)), (2, .int a1)]) [1, 0] rfl ?_
  refine L_M_runEnd_2 O hl0 σ (((600 : Int32).toInt - (a1).toInt).toNat + 2) a1 ko (fun r4 er4 => ?_)
  have ht := ht.trans (zlet_e er4)
  refine z_iload_n O zd_M_runEnd_24 rfl 0 rfl ?_
  exact E _ _ _ _ zd_M_runEnd_25 rfl ⟨ht.symm, rfl⟩
set_option maxHeartbeats 4000000 in
set_option maxRecDepth 100000 in
theorem L_M_answers_74 {K : zCx} {w : zWd} {l : Launch} (O : zOk K w prog_8_method_26_code "SluiceStreamModel" 6 2 44) (hl0 : kl K = l) (σ : zSt) (x1 x2 : Int32) : ∀ (m : Nat) (x3 x4 : Int32), kl_M_answers_74 σ x1 x2 m x3 x4 → (∀ r, r = (l_M_answers_74 σ x1 x2 m x3 x4) → Z K w σ [(0, .ref (zq w 13)), (1, .int x1), (2, .int x2), (3, .int r)] [] 145) → Z K w σ [(0, .ref (zq w 13)), (1, .int x1), (2, .int x2), (3, .int x3), (4, .int x4)] [] 74 := by
  intro m
  induction m with
  | zero => intro x3 x4 ko; exact ko.elim
  | succ m ih =>
    intro x3 x4 ko kk
    have ht : l_M_answers_74 σ x1 x2 (m + 1) x3 x4 = l_M_answers_74 σ x1 x2 (m + 1) x3 x4 := rfl
    refine z_iload O zd_M_answers_74 4 rfl ?_
    refine z_sipush O (v := 600) zd_M_answers_76 (by decide) ?_
    refine z_icmp_ge O (tgt := 145) zd_M_answers_79 (by decide) (fun c8 => ?_) (fun c8 => ?_)
    · have ht := ht.trans (if_pos c8)
      refine z_sub (lv' := [(0, .ref (zq w 13)), (1, .int x1), (2, .int x2), (3, .int x3)]) [0, 1, 2, 3] rfl ?_
      exact kk x3 ht.symm
    · have ht := ht.trans (if_neg c8)
      have ko := ko c8
      refine z_aload_n O zd_M_answers_82 rfl 0 rfl ?_
      refine z_iload O zd_M_answers_83 4 rfl ?_
      refine z_callri O hl0 (st := []) 13 6 (fs := zo13 w σ) rfl rfl (c_M_isStart l w σ x4 ko.1) zl_M_183 zm888 zms19 rfl rfl (Nat.le_of_ble_eq_true rfl) (Nat.le_of_ble_eq_true rfl) (Nat.le_of_ble_eq_true rfl) zd_M_answers_85 (fun r9 e10 => ?_)
      have ht := ht.trans (zlet_e e10)
      have ko := ko.2 r9 e10
      refine z_if_eq O (tgt := 124) zd_M_answers_88 (by decide) (fun c11 => ?_) (fun c11 => ?_)
      · have ht := ht.trans (if_pos c11)
        have ko := ko.1 c11
        refine z_iconst O (v := 0) zd_M_answers_124 (by decide) ?_
        refine z_istore O (lv' := [(5, .int 0), (0, .ref (zq w 13)), (1, .int x1), (2, .int x2), (3, .int x3), (4, .int x4)]) zd_M_answers_125 (Nat.le_of_ble_eq_true rfl) rfl ?_
        refine z_iload O zd_M_answers_127 0 rfl ?_
        refine z_if_eq O (tgt := 137) zd_M_answers_129 (by decide) (fun c12 => ?_) (fun c12 => absurd c12 (by decide))
        refine z_iload_n O zd_M_answers_137 rfl 4 rfl ?_
        refine z_istore_n O (lv' := [(3, .int x3), (5, .int 0), (0, .ref (zq w 13)), (1, .int x1), (2, .int x2), (4, .int x4)]) zd_M_answers_138 rfl (Nat.le_of_ble_eq_true rfl) rfl ?_
        refine z_iinc O (v := (x4 + 1)) (lv' := [(4, .int (x4 + 1)), (3, .int x3), (5, .int 0), (0, .ref (zq w 13)), (1, .int x1), (2, .int x2)]) zd_M_answers_139 5 rfl rfl (Nat.le_of_ble_eq_true rfl) rfl ?_
        refine z_goto O (tgt := 74) zd_M_answers_142 (by decide) ?_
        refine z_sub (lv' := [(0, .ref (zq w 13)), (1, .int x1), (2, .int x2), (3, .int x3), (4, .int (x4 + 1))]) [3, 4, 5, 1, 0] rfl ?_
        exact ih x3 (x4 + 1) ko (fun r e => kk r (e.trans ht.symm))
      · have ht := ht.trans (if_neg c11)
        have ko := ko.2 c11
        refine z_aload_n O zd_M_answers_91 rfl 0 rfl ?_
        refine z_iload O zd_M_answers_92 4 rfl ?_
        refine z_callri O hl0 (st := []) 13 6 (fs := zo13 w σ) rfl rfl (c_M_latest l w σ x4 ko.1) zl_M_186 zm892 zms20 rfl rfl (Nat.le_of_ble_eq_true rfl) (Nat.le_of_ble_eq_true rfl) (Nat.le_of_ble_eq_true rfl) zd_M_answers_94 (fun r13 e14 => ?_)
        have ht := ht.trans (zlet_e e14)
        have ko := ko.2 r13 e14
        refine z_iload_n O zd_M_answers_97 rfl 1 rfl ?_
        refine z_icmp_ge O (tgt := 124) zd_M_answers_98 (by decide) (fun c15 => ?_) (fun c15 => ?_)
        · have ht := ht.trans (if_pos c15)
          have ko := ko.1 c15
          refine z_iconst O (v := 0) zd_M_answers_124 (by decide) ?_
          refine z_istore O (lv' := [(5, .int 0), (0, .ref (zq w 13)), (1, .int x1), (2, .int x2), (3, .int x3), (4, .int x4)]) zd_M_answers_125 (Nat.le_of_ble_eq_true rfl) rfl ?_
          refine z_iload O zd_M_answers_127 0 rfl ?_
          refine z_if_eq O (tgt := 137) zd_M_answers_129 (by decide) (fun c16 => ?_) (fun c16 => absurd c16 (by decide))
          refine z_iload_n O zd_M_answers_137 rfl 4 rfl ?_
          refine z_istore_n O (lv' := [(3, .int x3), (5, .int 0), (0, .ref (zq w 13)), (1, .int x1), (2, .int x2), (4, .int x4)]) zd_M_answers_138 rfl (Nat.le_of_ble_eq_true rfl) rfl ?_
          refine z_iinc O (v := (x4 + 1)) (lv' := [(4, .int (x4 + 1)), (3, .int x3), (5, .int 0), (0, .ref (zq w 13)), (1, .int x1), (2, .int x2)]) zd_M_answers_139 5 rfl rfl (Nat.le_of_ble_eq_true rfl) rfl ?_
          refine z_goto O (tgt := 74) zd_M_answers_142 (by decide) ?_
          refine z_sub (lv' := [(0, .ref (zq w 13)), (1, .int x1), (2, .int x2), (3, .int x3), (4, .int (x4 + 1))]) [3, 4, 5, 1, 0] rfl ?_
          exact ih x3 (x4 + 1) ko (fun r e => kk r (e.trans ht.symm))
        · have ht := ht.trans (if_neg c15)
          have ko := ko.2 c15
          refine z_iload_n O zd_M_answers_101 rfl 3 rfl ?_
          refine z_iconst O (v := (-1)) zd_M_answers_102 (by decide) ?_
          refine z_icmp_eq O (tgt := 120) zd_M_answers_103 (by decide) (fun c17 => ?_) (fun c17 => ?_)
          · have ht := ht.trans (if_pos c17)
            have ko := ko.1 c17
            refine z_iconst O (v := 1) zd_M_answers_120 (by decide) ?_
            refine z_goto O (tgt := 125) zd_M_answers_121 (by decide) ?_
            refine z_istore O (lv' := [(5, .int 1), (0, .ref (zq w 13)), (1, .int x1), (2, .int x2), (3, .int x3), (4, .int x4)]) zd_M_answers_125 (Nat.le_of_ble_eq_true rfl) rfl ?_
            refine z_iload O zd_M_answers_127 0 rfl ?_
            refine z_if_eq O (tgt := 137) zd_M_answers_129 (by decide) (fun c18 => absurd c18 (by decide)) (fun c18 => ?_)
            refine z_iload O zd_M_answers_132 5 rfl ?_
            refine z_goto O (tgt := 138) zd_M_answers_134 (by decide) ?_
            refine z_istore_n O (lv' := [(3, .int x4), (5, .int 1), (0, .ref (zq w 13)), (1, .int x1), (2, .int x2), (4, .int x4)]) zd_M_answers_138 rfl (Nat.le_of_ble_eq_true rfl) rfl ?_
            refine z_iinc O (v := (x4 + 1)) (lv' := [(4, .int (x4 + 1)), (3, .int x4), (5, .int 1), (0, .ref (zq w 13)), (1, .int x1), (2, .int x2)]) zd_M_answers_139 5 rfl rfl (Nat.le_of_ble_eq_true rfl) rfl ?_
            refine z_goto O (tgt := 74) zd_M_answers_142 (by decide) ?_
            refine z_sub (lv' := [(0, .ref (zq w 13)), (1, .int x1), (2, .int x2), (3, .int x4), (4, .int (x4 + 1))]) [3, 4, 5, 1, 0] rfl ?_
            exact ih x4 (x4 + 1) ko (fun r e => kk r (e.trans ht.symm))
          · have ht := ht.trans (if_neg c17)
            have ko := ko.2 c17
            refine z_aload_n O zd_M_answers_106 rfl 0 rfl ?_
            refine z_iload O zd_M_answers_107 4 rfl ?_
            refine z_callri O hl0 (st := []) 13 6 (fs := zo13 w σ) rfl rfl (c_M_latest l w σ x4 ko.1) zl_M_186 zm892 zms20 rfl rfl (Nat.le_of_ble_eq_true rfl) (Nat.le_of_ble_eq_true rfl) (Nat.le_of_ble_eq_true rfl) zd_M_answers_109 (fun r19 e20 => ?_)
            have ht := ht.trans (zlet_e e20)
            have ko := ko.2 r19 e20
            refine z_aload_n O zd_M_answers_112 rfl 0 rfl ?_
            refine z_iload_n O zd_M_answers_113 rfl 3 rfl ?_
            refine z_callri O hl0 (st := [.int r19]) 13 6 (fs := zo13 w σ) rfl rfl (c_M_latest l w σ x3 ko.1) zl_M_186 zm892 zms20 rfl rfl (Nat.le_of_ble_eq_true rfl) (Nat.le_of_ble_eq_true rfl) (Nat.le_of_ble_eq_true rfl) zd_M_answers_114 (fun r21 e22 => ?_)
            have ht := ht.trans (zlet_e e22)
            have ko := ko.2 r21 e22
            refine z_icmp_le O (tgt := 124) zd_M_answers_117 (by decide) (fun c23 => ?_) (fun c23 => ?_)
            · have ht := ht.trans (if_pos c23)
              have ko := ko.1 c23
              refine z_iconst O (v := 0) zd_M_answers_124 (by decide) ?_
              refine z_istore O (lv' := [(5, .int 0), (0, .ref (zq w 13)), (1, .int x1), (2, .int x2), (3, .int x3), (4, .int x4)]) zd_M_answers_125 (Nat.le_of_ble_eq_true rfl) rfl ?_
              refine z_iload O zd_M_answers_127 0 rfl ?_
              refine z_if_eq O (tgt := 137) zd_M_answers_129 (by decide) (fun c24 => ?_) (fun c24 => absurd c24 (by decide))
              refine z_iload_n O zd_M_answers_137 rfl 4 rfl ?_
              refine z_istore_n O (lv' := [(3, .int x3), (5, .int 0), (0, .ref (zq w 13)), (1, .int x1), (2, .int x2), (4, .int x4)]) zd_M_answers_138 rfl (Nat.le_of_ble_eq_true rfl) rfl ?_
              refine z_iinc O (v := (x4 + 1)) (lv' := [(4, .int (x4 + 1)), (3, .int x3), (5, .int 0), (0, .ref (zq w 13)), (1, .int x1), (2, .int x2)]) zd_M_answers_139 5 rfl rfl (Nat.le_of_ble_eq_true rfl) rfl ?_
              refine z_goto O (tgt := 74) zd_M_answers_142 (by decide) ?_
              refine z_sub (lv' := [(0, .ref (zq w 13)), (1, .int x1), (2, .int x2), (3, .int x3), (4, .int (x4 + 1))]) [3, 4, 5, 1, 0] rfl ?_
              exact ih x3 (x4 + 1) ko (fun r e => kk r (e.trans ht.symm))
            · have ht := ht.trans (if_neg c23)
              have ko := ko.2 c23
              refine z_iconst O (v := 1) zd_M_answers_120 (by decide) ?_
              refine z_goto O (tgt := 125) zd_M_answers_121 (by decide) ?_
              refine z_istore O (lv' := [(5, .int 1), (0, .ref (zq w 13)), (1, .int x1), (2, .int x2), (3, .int x3), (4, .int x4)]) zd_M_answers_125 (Nat.le_of_ble_eq_true rfl) rfl ?_
              refine z_iload O zd_M_answers_127 0 rfl ?_
              refine z_if_eq O (tgt := 137) zd_M_answers_129 (by decide) (fun c25 => absurd c25 (by decide)) (fun c25 => ?_)
              refine z_iload O zd_M_answers_132 5 rfl ?_
              refine z_goto O (tgt := 138) zd_M_answers_134 (by decide) ?_
              refine z_istore_n O (lv' := [(3, .int x4), (5, .int 1), (0, .ref (zq w 13)), (1, .int x1), (2, .int x2), (4, .int x4)]) zd_M_answers_138 rfl (Nat.le_of_ble_eq_true rfl) rfl ?_
              refine z_iinc O (v := (x4 + 1)) (lv' := [(4, .int (x4 + 1)), (3, .int x4), (5, .int 1), (0, .ref (zq w 13)), (1, .int x1), (2, .int x2)]) zd_M_answers_139 5 rfl rfl (Nat.le_of_ble_eq_true rfl) rfl ?_
              refine z_goto O (tgt := 74) zd_M_answers_142 (by decide) ?_
              refine z_sub (lv' := [(0, .ref (zq w 13)), (1, .int x1), (2, .int x2), (3, .int x4), (4, .int (x4 + 1))]) [3, 4, 5, 1, 0] rfl ?_
              exact ih x4 (x4 + 1) ko (fun r e => kk r (e.trans ht.symm))
set_option maxHeartbeats 4000000 in
set_option maxRecDepth 100000 in
theorem L_M_answers_59 {K : zCx} {w : zWd} {l : Launch} (O : zOk K w prog_8_method_26_code "SluiceStreamModel" 6 2 44) (hl0 : kl K = l) : ∀ (m : Nat) (σ : zSt) (x1 x2 : Int32), kl_M_answers_59  m σ x1 x2 → (∀ r, r = (l_M_answers_59  m σ x1 x2) → Z K w r [(0, .ref (zq w 13))] [] 207) → Z K w σ [(0, .ref (zq w 13)), (1, .int x1), (2, .int x2)] [] 59 := by
  intro m
  induction m with
  | zero => intro σ x1 x2 ko; exact ko.elim
  | succ m ih =>
    intro σ x1 x2 ko kk
    have ht : l_M_answers_59  (m + 1) σ x1 x2 = l_M_answers_59  (m + 1) σ x1 x2 := rfl
    refine z_iload_n O zd_M_answers_59 rfl 2 rfl ?_
    refine z_iconst O (v := 3) zd_M_answers_60 (by decide) ?_
    refine z_icmp_ge O (tgt := 207) zd_M_answers_61 (by decide) (fun c7 => ?_) (fun c7 => ?_)
    · have ht := ht.trans (if_pos c7)
      refine z_sub (lv' := [(0, .ref (zq w 13))]) [0] rfl ?_
      exact kk σ ht.symm
    · have ht := ht.trans (if_neg c7)
      have ko := ko c7
      refine z_iconst O (v := (-1)) zd_M_answers_64 (by decide) ?_
      refine z_istore_n O (lv' := [(3, .int (-1)), (0, .ref (zq w 13)), (1, .int x1), (2, .int x2)]) zd_M_answers_65 rfl (Nat.le_of_ble_eq_true rfl) rfl ?_
      refine z_aload_n O zd_M_answers_66 rfl 1 rfl ?_
      refine zg_M_83_13 O zd_M_answers_67 (v := .int (σ 13 28)) rfl ?_
      refine z_iconst O (v := 1) zd_M_answers_70 (by decide) ?_
      refine z_iadd O zd_M_answers_71 ?_
      refine z_istore O (lv' := [(4, .int ((σ 13 28) + 1)), (3, .int (-1)), (0, .ref (zq w 13)), (1, .int x1), (2, .int x2)]) zd_M_answers_72 (Nat.le_of_ble_eq_true rfl) rfl ?_
      refine z_sub (lv' := [(0, .ref (zq w 13)), (1, .int x1), (2, .int x2), (3, .int (-1)), (4, .int ((σ 13 28) + 1))]) [2, 3, 4, 1, 0] rfl ?_
      refine L_M_answers_74 O hl0 σ x1 x2 (((600 : Int32).toInt - (((σ 13 28) + 1)).toInt).toNat + 2) (-1) ((σ 13 28) + 1) ko.1 (fun r26 er26 => ?_)
      have ht := ht.trans (zlet_e er26)
      have ko := ko.2 r26 er26
      refine z_iload_n O zd_M_answers_145 rfl 3 rfl ?_
      refine z_iconst O (v := (-1)) zd_M_answers_146 (by decide) ?_
      refine z_icmp_eq O (tgt := 201) zd_M_answers_147 (by decide) (fun c27 => ?_) (fun c27 => ?_)
      · have ht := ht.trans (if_pos c27)
        have ko := ko.1 c27
        refine z_iinc O (v := (x2 + 1)) (lv' := [(2, .int (x2 + 1)), (0, .ref (zq w 13)), (1, .int x1), (3, .int r26)]) zd_M_answers_201 2 rfl rfl (Nat.le_of_ble_eq_true rfl) rfl ?_
        refine z_goto O (tgt := 59) zd_M_answers_204 (by decide) ?_
        refine z_sub (lv' := [(0, .ref (zq w 13)), (1, .int x1), (2, .int (x2 + 1))]) [1, 2, 0] rfl ?_
        exact ih σ x1 (x2 + 1) ko (fun r e => kk r (e.trans ht.symm))
      · have ht := ht.trans (if_neg c27)
        have ko := ko.2 c27
        refine z_aload_n O zd_M_answers_150 rfl 0 rfl ?_
        refine zg_M_60_13 O zd_M_answers_151 (v := .ref (zq w 23)) rfl ?_
        refine z_iconst O (v := 3) zd_M_answers_154 (by decide) ?_
        refine z_aload_n O zd_M_answers_155 rfl 0 rfl ?_
        refine zg_M_174_13 O zd_M_answers_156 (v := .int (σ 13 38)) rfl ?_
        refine z_imul O zd_M_answers_159 ?_
        refine z_iload_n O zd_M_answers_160 rfl 2 rfl ?_
        refine z_iadd O zd_M_answers_161 ?_
        refine z_iload_n O zd_M_answers_162 rfl 3 rfl ?_
        have b28 := ko.1
        have ko := ko.2
        refine z_iast O 23 (zae23 w σ) b28 (zas23 w σ _ _) zd_M_answers_163 ?_
        refine z_aload_n O zd_M_answers_164 rfl 0 rfl ?_
        refine zg_M_63_13 O zd_M_answers_165 (v := .ref (zq w 24)) rfl ?_
        refine z_iconst O (v := 3) zd_M_answers_168 (by decide) ?_
        refine z_aload_n O zd_M_answers_169 rfl 0 rfl ?_
        refine zg_M_174_13 O zd_M_answers_170 (v := .int (σ 13 38)) rfl ?_
        refine z_imul O zd_M_answers_173 ?_
        refine z_iload_n O zd_M_answers_174 rfl 2 rfl ?_
        refine z_iadd O zd_M_answers_175 ?_
        refine z_aload_n O zd_M_answers_176 rfl 0 rfl ?_
        refine z_iload_n O zd_M_answers_177 rfl 3 rfl ?_
        refine z_callri O hl0 (st := [.int ((3 * (σ 13 38)) + x2), .ref (zq w 24)]) 13 6 (fs := zo13 w (zuf σ 23 (((3 * (σ 13 38)) + x2) : Int32).toNatClampNeg r26)) rfl rfl (c_M_runEnd l w (zuf σ 23 (((3 * (σ 13 38)) + x2) : Int32).toNatClampNeg r26) r26 ko.1) zl_M_190 zm899 zms21 rfl rfl (Nat.le_of_ble_eq_true rfl) (Nat.le_of_ble_eq_true rfl) (Nat.le_of_ble_eq_true rfl) zd_M_answers_178 (fun r29 e30 => ?_)
        have ht := ht.trans (zlet_e e30)
        have ko := ko.2 r29 e30
        have b31 := ko.1
        have ko := ko.2
        refine z_iast O 24 (zae24 w (zuf σ 23 (((3 * (σ 13 38)) + x2) : Int32).toNatClampNeg r26)) b31 (zas24 w (zuf σ 23 (((3 * (σ 13 38)) + x2) : Int32).toNatClampNeg r26) _ _) zd_M_answers_181 ?_
        refine z_aload_n O zd_M_answers_182 rfl 0 rfl ?_
        refine zg_M_57_13 O zd_M_answers_183 (v := .ref (zq w 22)) rfl ?_
        refine z_aload_n O zd_M_answers_186 rfl 0 rfl ?_
        refine zg_M_174_13 O zd_M_answers_187 (v := .int (σ 13 38)) rfl ?_
        refine z_dup2 O zd_M_answers_190 rfl rfl ?_
        have b32 := ko.1
        have ko := ko.2
        refine z_iald O 22 (zae22 w (zuf (zuf σ 23 (((3 * (σ 13 38)) + x2) : Int32).toNatClampNeg r26) 24 (((3 * (σ 13 38)) + x2) : Int32).toNatClampNeg r29)) b32 (v := (σ 22 ((σ 13 38) : Int32).toNatClampNeg)) rfl zd_M_answers_191 ?_
        refine z_iconst O (v := 1) zd_M_answers_192 (by decide) ?_
        refine z_iadd O zd_M_answers_193 ?_
        have b33 := ko.1
        have ko := ko.2
        refine z_iast O 22 (zae22 w (zuf (zuf σ 23 (((3 * (σ 13 38)) + x2) : Int32).toNatClampNeg r26) 24 (((3 * (σ 13 38)) + x2) : Int32).toNatClampNeg r29)) b33 (zas22 w (zuf (zuf σ 23 (((3 * (σ 13 38)) + x2) : Int32).toNatClampNeg r26) 24 (((3 * (σ 13 38)) + x2) : Int32).toNatClampNeg r29) _ _) zd_M_answers_194 ?_
        refine z_aload_n O zd_M_answers_195 rfl 0 rfl ?_
        refine z_iload_n O zd_M_answers_196 rfl 3 rfl ?_
        refine z_callri O hl0 (st := []) 13 6 (fs := zo13 w (zuf (zuf (zuf σ 23 (((3 * (σ 13 38)) + x2) : Int32).toNatClampNeg r26) 24 (((3 * (σ 13 38)) + x2) : Int32).toNatClampNeg r29) 22 ((σ 13 38) : Int32).toNatClampNeg ((σ 22 ((σ 13 38) : Int32).toNatClampNeg) + 1))) rfl rfl (c_M_latest l w (zuf (zuf (zuf σ 23 (((3 * (σ 13 38)) + x2) : Int32).toNatClampNeg r26) 24 (((3 * (σ 13 38)) + x2) : Int32).toNatClampNeg r29) 22 ((σ 13 38) : Int32).toNatClampNeg ((σ 22 ((σ 13 38) : Int32).toNatClampNeg) + 1)) r26 ko.1) zl_M_186 zm892 zms20 rfl rfl (Nat.le_of_ble_eq_true rfl) (Nat.le_of_ble_eq_true rfl) (Nat.le_of_ble_eq_true rfl) zd_M_answers_197 (fun r34 e35 => ?_)
        have ht := ht.trans (zlet_e e35)
        have ko := ko.2 r34 e35
        refine z_istore_n O (lv' := [(1, .int r34), (0, .ref (zq w 13)), (2, .int x2), (3, .int r26)]) zd_M_answers_200 rfl (Nat.le_of_ble_eq_true rfl) rfl ?_
        refine z_iinc O (v := (x2 + 1)) (lv' := [(2, .int (x2 + 1)), (1, .int r34), (0, .ref (zq w 13)), (3, .int r26)]) zd_M_answers_201 2 rfl rfl (Nat.le_of_ble_eq_true rfl) rfl ?_
        refine z_goto O (tgt := 59) zd_M_answers_204 (by decide) ?_
        refine z_sub (lv' := [(0, .ref (zq w 13)), (1, .int r34), (2, .int (x2 + 1))]) [2, 1, 0] rfl ?_
        exact ih (zuf (zuf (zuf σ 23 (((3 * (σ 13 38)) + x2) : Int32).toNatClampNeg r26) 24 (((3 * (σ 13 38)) + x2) : Int32).toNatClampNeg r29) 22 ((σ 13 38) : Int32).toNatClampNeg ((σ 22 ((σ 13 38) : Int32).toNatClampNeg) + 1)) r34 (x2 + 1) ko (fun r e => kk r (e.trans ht.symm))
set_option maxHeartbeats 4000000 in
set_option maxRecDepth 100000 in
theorem c_M_answers (l : Launch) (w : zWd) (σ : zSt) (ko : k_M_answers σ) : zMv l ({ cls := "SluiceStreamModel", name := "answers", desc := "()V" } : Jvm.MethodName) prog_8_method_26_code 6 2 44 w [.ref (zq w 13)] σ (fun u => u = (f_M_answers σ)) := by
  refine zMv_of (by decide +kernel) (Nat.le_of_ble_eq_true rfl) ?_
  intro K O hl0 E
  have ht : (f_M_answers σ) = (f_M_answers σ) := rfl
  refine z_sub (lv' := [(0, .ref (zq w 13))]) [0] rfl ?_
  refine z_aload_n O zd_M_answers_0 rfl 0 rfl ?_
  refine zg_M_174_13 O zd_M_answers_1 (v := .int (σ 13 38)) rfl ?_
  refine z_bipush O (v := 40) zd_M_answers_4 (by decide) ?_
  refine z_icmp_ne O (tgt := 14) zd_M_answers_6 (by decide) (fun c1 => ?_) (fun c1 => ?_)
  · have ht := ht.trans (if_neg c1)
    have ko := ko.2 c1
    refine z_aload_n O zd_M_answers_14 rfl 0 rfl ?_
    refine zg_M_51_13 O zd_M_answers_15 (v := .ref (zq w 20)) rfl ?_
    refine z_aload_n O zd_M_answers_18 rfl 0 rfl ?_
    refine zg_M_174_13 O zd_M_answers_19 (v := .int (σ 13 38)) rfl ?_
    refine z_aload_n O zd_M_answers_22 rfl 0 rfl ?_
    refine zg_M_83_13 O zd_M_answers_23 (v := .int (σ 13 28)) rfl ?_
    have b2 := ko.1
    have ko := ko.2
    refine z_iast O 20 (zae20 w σ) b2 (zas20 w σ _ _) zd_M_answers_26 ?_
    refine z_aload_n O zd_M_answers_27 rfl 0 rfl ?_
    refine zg_M_54_13 O zd_M_answers_28 (v := .ref (zq w 21)) rfl ?_
    refine z_aload_n O zd_M_answers_31 rfl 0 rfl ?_
    refine zg_M_174_13 O zd_M_answers_32 (v := .int (σ 13 38)) rfl ?_
    refine z_aload_n O zd_M_answers_35 rfl 0 rfl ?_
    refine z_callri O hl0 (st := [.int (σ 13 38), .ref (zq w 21)]) 13 6 (fs := zo13 w (zuf σ 20 ((σ 13 38) : Int32).toNatClampNeg (σ 13 28))) rfl rfl (c_M_room l w (zuf σ 20 ((σ 13 38) : Int32).toNatClampNeg (σ 13 28))) zl_M_86 zm876 zms16 rfl rfl (Nat.le_of_ble_eq_true rfl) (Nat.le_of_ble_eq_true rfl) (Nat.le_of_ble_eq_true rfl) zd_M_answers_36 (fun r3 e4 => ?_)
    have ht := ht.trans (zlet_e e4)
    have ko := ko r3 e4
    have b5 := ko.1
    have ko := ko.2
    refine z_iast O 21 (zae21 w (zuf σ 20 ((σ 13 38) : Int32).toNatClampNeg (σ 13 28))) b5 (zas21 w (zuf σ 20 ((σ 13 38) : Int32).toNatClampNeg (σ 13 28)) _ _) zd_M_answers_39 ?_
    refine z_aload_n O zd_M_answers_40 rfl 0 rfl ?_
    refine zg_M_57_13 O zd_M_answers_41 (v := .ref (zq w 22)) rfl ?_
    refine z_aload_n O zd_M_answers_44 rfl 0 rfl ?_
    refine zg_M_174_13 O zd_M_answers_45 (v := .int (σ 13 38)) rfl ?_
    refine z_iconst O (v := 0) zd_M_answers_48 (by decide) ?_
    have b6 := ko.1
    have ko := ko.2
    refine z_iast O 22 (zae22 w (zuf (zuf σ 20 ((σ 13 38) : Int32).toNatClampNeg (σ 13 28)) 21 ((σ 13 38) : Int32).toNatClampNeg r3)) b6 (zas22 w (zuf (zuf σ 20 ((σ 13 38) : Int32).toNatClampNeg (σ 13 28)) 21 ((σ 13 38) : Int32).toNatClampNeg r3) _ _) zd_M_answers_49 ?_
    refine z_aload_n O zd_M_answers_50 rfl 0 rfl ?_
    refine zg_M_180_13 O zd_M_answers_51 (v := .int (σ 13 27)) rfl ?_
    refine z_iconst O (v := 1) zd_M_answers_54 (by decide) ?_
    refine z_iadd O zd_M_answers_55 ?_
    refine z_istore_n O (lv' := [(1, .int ((σ 13 27) + 1)), (0, .ref (zq w 13))]) zd_M_answers_56 rfl (Nat.le_of_ble_eq_true rfl) rfl ?_
    refine z_iconst O (v := 0) zd_M_answers_57 (by decide) ?_
    refine z_istore_n O (lv' := [(2, .int 0), (1, .int ((σ 13 27) + 1)), (0, .ref (zq w 13))]) zd_M_answers_58 rfl (Nat.le_of_ble_eq_true rfl) rfl ?_
    refine z_sub (lv' := [(0, .ref (zq w 13)), (1, .int ((σ 13 27) + 1)), (2, .int 0)]) [2, 1, 0] rfl ?_
    refine L_M_answers_59 O hl0 (((3 : Int32).toInt - (0 : Int32).toInt).toNat + 2) (zuf (zuf (zuf σ 20 ((σ 13 38) : Int32).toNatClampNeg (σ 13 28)) 21 ((σ 13 38) : Int32).toNatClampNeg r3) 22 ((σ 13 38) : Int32).toNatClampNeg 0) ((σ 13 27) + 1) 0 ko (fun r36 er36 => ?_)
    have ht := ht.trans (zlet_e er36)
    refine z_aload_n O zd_M_answers_207 rfl 0 rfl ?_
    refine z_dup O zd_M_answers_208 rfl ?_
    refine zg_M_174_13 O zd_M_answers_209 (v := .int (r36 13 38)) rfl ?_
    refine z_iconst O (v := 1) zd_M_answers_212 (by decide) ?_
    refine z_iadd O zd_M_answers_213 ?_
    refine zp_M_174_13 O zd_M_answers_214 ?_
    exact E _ _ _ zd_M_answers_217 ht.symm
  · have ht := ht.trans (if_pos c1)
    have ko := ko.1 c1
    refine z_aload_n O zd_M_answers_9 rfl 0 rfl ?_
    refine z_iconst O (v := 0) zd_M_answers_10 (by decide) ?_
    refine z_callv O hl0 (st := []) 13 6 (fs := zo13 w σ) rfl rfl (c_M_leaves l w σ 0 ko.1) zl_M_177 zm884 zms18 rfl rfl (Nat.le_of_ble_eq_true rfl) (Nat.le_of_ble_eq_true rfl) (Nat.le_of_ble_eq_true rfl) zd_M_answers_11 (fun u37 e38 => ?_)
    have ht := ht.trans (zlet_e e38)
    have ko := ko.2 u37 e38
    refine z_aload_n O zd_M_answers_14 rfl 0 rfl ?_
    refine zg_M_51_13 O zd_M_answers_15 (v := .ref (zq w 20)) rfl ?_
    refine z_aload_n O zd_M_answers_18 rfl 0 rfl ?_
    refine zg_M_174_13 O zd_M_answers_19 (v := .int (u37 13 38)) rfl ?_
    refine z_aload_n O zd_M_answers_22 rfl 0 rfl ?_
    refine zg_M_83_13 O zd_M_answers_23 (v := .int (u37 13 28)) rfl ?_
    have b39 := ko.1
    have ko := ko.2
    refine z_iast O 20 (zae20 w u37) b39 (zas20 w u37 _ _) zd_M_answers_26 ?_
    refine z_aload_n O zd_M_answers_27 rfl 0 rfl ?_
    refine zg_M_54_13 O zd_M_answers_28 (v := .ref (zq w 21)) rfl ?_
    refine z_aload_n O zd_M_answers_31 rfl 0 rfl ?_
    refine zg_M_174_13 O zd_M_answers_32 (v := .int (u37 13 38)) rfl ?_
    refine z_aload_n O zd_M_answers_35 rfl 0 rfl ?_
    refine z_callri O hl0 (st := [.int (u37 13 38), .ref (zq w 21)]) 13 6 (fs := zo13 w (zuf u37 20 ((u37 13 38) : Int32).toNatClampNeg (u37 13 28))) rfl rfl (c_M_room l w (zuf u37 20 ((u37 13 38) : Int32).toNatClampNeg (u37 13 28))) zl_M_86 zm876 zms16 rfl rfl (Nat.le_of_ble_eq_true rfl) (Nat.le_of_ble_eq_true rfl) (Nat.le_of_ble_eq_true rfl) zd_M_answers_36 (fun r40 e41 => ?_)
    have ht := ht.trans (zlet_e e41)
    have ko := ko r40 e41
    have b42 := ko.1
    have ko := ko.2
    refine z_iast O 21 (zae21 w (zuf u37 20 ((u37 13 38) : Int32).toNatClampNeg (u37 13 28))) b42 (zas21 w (zuf u37 20 ((u37 13 38) : Int32).toNatClampNeg (u37 13 28)) _ _) zd_M_answers_39 ?_
    refine z_aload_n O zd_M_answers_40 rfl 0 rfl ?_
    refine zg_M_57_13 O zd_M_answers_41 (v := .ref (zq w 22)) rfl ?_
    refine z_aload_n O zd_M_answers_44 rfl 0 rfl ?_
    refine zg_M_174_13 O zd_M_answers_45 (v := .int (u37 13 38)) rfl ?_
    refine z_iconst O (v := 0) zd_M_answers_48 (by decide) ?_
    have b43 := ko.1
    have ko := ko.2
    refine z_iast O 22 (zae22 w (zuf (zuf u37 20 ((u37 13 38) : Int32).toNatClampNeg (u37 13 28)) 21 ((u37 13 38) : Int32).toNatClampNeg r40)) b43 (zas22 w (zuf (zuf u37 20 ((u37 13 38) : Int32).toNatClampNeg (u37 13 28)) 21 ((u37 13 38) : Int32).toNatClampNeg r40) _ _) zd_M_answers_49 ?_
    refine z_aload_n O zd_M_answers_50 rfl 0 rfl ?_
    refine zg_M_180_13 O zd_M_answers_51 (v := .int (u37 13 27)) rfl ?_
    refine z_iconst O (v := 1) zd_M_answers_54 (by decide) ?_
    refine z_iadd O zd_M_answers_55 ?_
    refine z_istore_n O (lv' := [(1, .int ((u37 13 27) + 1)), (0, .ref (zq w 13))]) zd_M_answers_56 rfl (Nat.le_of_ble_eq_true rfl) rfl ?_
    refine z_iconst O (v := 0) zd_M_answers_57 (by decide) ?_
    refine z_istore_n O (lv' := [(2, .int 0), (1, .int ((u37 13 27) + 1)), (0, .ref (zq w 13))]) zd_M_answers_58 rfl (Nat.le_of_ble_eq_true rfl) rfl ?_
    refine z_sub (lv' := [(0, .ref (zq w 13)), (1, .int ((u37 13 27) + 1)), (2, .int 0)]) [2, 1, 0] rfl ?_
    refine L_M_answers_59 O hl0 (((3 : Int32).toInt - (0 : Int32).toInt).toNat + 2) (zuf (zuf (zuf u37 20 ((u37 13 38) : Int32).toNatClampNeg (u37 13 28)) 21 ((u37 13 38) : Int32).toNatClampNeg r40) 22 ((u37 13 38) : Int32).toNatClampNeg 0) ((u37 13 27) + 1) 0 ko (fun r44 er44 => ?_)
    have ht := ht.trans (zlet_e er44)
    refine z_aload_n O zd_M_answers_207 rfl 0 rfl ?_
    refine z_dup O zd_M_answers_208 rfl ?_
    refine zg_M_174_13 O zd_M_answers_209 (v := .int (r44 13 38)) rfl ?_
    refine z_iconst O (v := 1) zd_M_answers_212 (by decide) ?_
    refine z_iadd O zd_M_answers_213 ?_
    refine zp_M_174_13 O zd_M_answers_214 ?_
    exact E _ _ _ zd_M_answers_217 ht.symm
set_option maxHeartbeats 4000000 in
set_option maxRecDepth 100000 in
theorem c_M_read (l : Launch) (w : zWd) (σ : zSt) (ko : k_M_read σ) : zMi l ({ cls := "SluiceStreamModel", name := "read", desc := "()I" } : Jvm.MethodName) prog_8_method_9_code 1 3 69 .int w [.ref (zq w 13)] σ (fun r u => (r, u) = (f_M_read σ)) := by
  refine zMi_of (by decide +kernel) (Nat.le_of_ble_eq_true rfl) ?_
  intro K O hl0 E
  have ht : (f_M_read σ) = (f_M_read σ) := rfl
  refine z_sub (lv' := [(0, .ref (zq w 13))]) [0] rfl ?_
  refine z_aload_n O zd_M_read_0 rfl 0 rfl ?_
  refine z_iconst O (v := 0) zd_M_read_1 (by decide) ?_
  refine zp_M_66_13 O zd_M_read_2 ?_
  refine z_aload_n O zd_M_read_5 rfl 0 rfl ?_
  refine zg_M_80_13 O zd_M_read_6 (v := .int (σ 13 29)) rfl ?_
  refine z_aload_n O zd_M_read_9 rfl 0 rfl ?_
  refine zg_M_83_13 O zd_M_read_10 (v := .int (σ 13 28)) rfl ?_
  refine z_icmp_ne O (tgt := 18) zd_M_read_13 (by decide) (fun c1 => ?_) (fun c1 => ?_)
  · have ht := ht.trans (if_neg c1)
    have ko := ko c1
    refine z_aload_n O zd_M_read_18 rfl 0 rfl ?_
    refine z_dup O zd_M_read_19 rfl ?_
    refine zg_M_80_13 O zd_M_read_20 (v := .int (σ 13 29)) rfl ?_
    refine z_iconst O (v := 1) zd_M_read_23 (by decide) ?_
    refine z_iadd O zd_M_read_24 ?_
    refine zp_M_80_13 O zd_M_read_25 ?_
    refine z_aload_n O zd_M_read_28 rfl 0 rfl ?_
    refine z_callri O hl0 (st := []) 13 6 (fs := zo13 w (zuf (zuf σ 13 0 0) 13 29 ((σ 13 29) + 1))) rfl rfl (c_M_room l w (zuf (zuf σ 13 0 0) 13 29 ((σ 13 29) + 1))) zl_M_86 zm876 zms16 rfl rfl (Nat.le_of_ble_eq_true rfl) (Nat.le_of_ble_eq_true rfl) (Nat.le_of_ble_eq_true rfl) zd_M_read_29 (fun r2 e3 => ?_)
    have ht := ht.trans (zlet_e e3)
    have ko := ko r2 e3
    refine z_iconst O (v := 4) zd_M_read_32 (by decide) ?_
    refine z_icmp_ne O (tgt := 40) zd_M_read_33 (by decide) (fun c4 => ?_) (fun c4 => ?_)
    · have ht := ht.trans (if_neg c4)
      have ko := ko.2 c4
      refine z_aload_n O zd_M_read_40 rfl 0 rfl ?_
      refine zg_M_31_13 O zd_M_read_41 (v := .ref (zq w 14)) rfl ?_
      refine z_aload_n O zd_M_read_44 rfl 0 rfl ?_
      refine zg_M_80_13 O zd_M_read_45 (v := .int ((σ 13 29) + 1)) rfl ?_
      refine z_iconst O (v := 1) zd_M_read_48 (by decide) ?_
      refine z_isub O zd_M_read_49 ?_
      have b5 := ko
      refine z_iald O 14 (zae14 w (zuf (zuf σ 13 0 0) 13 29 ((σ 13 29) + 1))) b5 (v := (σ 14 ((((σ 13 29) + 1) - 1) : Int32).toNatClampNeg)) rfl zd_M_read_50 ?_
      exact E _ _ _ _ zd_M_read_51 rfl ht.symm
    · have ht := ht.trans (if_pos c4)
      have ko := ko.1 c4
      refine z_aload_n O zd_M_read_36 rfl 0 rfl ?_
      refine z_callv O hl0 (st := []) 13 6 (fs := zo13 w (zuf (zuf σ 13 0 0) 13 29 ((σ 13 29) + 1))) rfl rfl (c_M_answers l w (zuf (zuf σ 13 0 0) 13 29 ((σ 13 29) + 1)) ko.1) zl_M_90 zm880 zms17 rfl rfl (Nat.le_of_ble_eq_true rfl) (Nat.le_of_ble_eq_true rfl) (Nat.le_of_ble_eq_true rfl) zd_M_read_37 (fun u6 e7 => ?_)
      have ht := ht.trans (zlet_e e7)
      have ko := ko.2 u6 e7
      refine z_aload_n O zd_M_read_40 rfl 0 rfl ?_
      refine zg_M_31_13 O zd_M_read_41 (v := .ref (zq w 14)) rfl ?_
      refine z_aload_n O zd_M_read_44 rfl 0 rfl ?_
      refine zg_M_80_13 O zd_M_read_45 (v := .int (u6 13 29)) rfl ?_
      refine z_iconst O (v := 1) zd_M_read_48 (by decide) ?_
      refine z_isub O zd_M_read_49 ?_
      have b8 := ko
      refine z_iald O 14 (zae14 w u6) b8 (v := (u6 14 (((u6 13 29) - 1) : Int32).toNatClampNeg)) rfl zd_M_read_50 ?_
      exact E _ _ _ _ zd_M_read_51 rfl ht.symm
  · have ht := ht.trans (if_pos c1)
    refine z_iconst O (v := (-1)) zd_M_read_16 (by decide) ?_
    exact E _ _ _ _ zd_M_read_17 rfl ht.symm
set_option maxHeartbeats 4000000 in
set_option maxRecDepth 100000 in
theorem c_M_setLimit (l : Launch) (w : zWd) (σ : zSt) (a1 : Int32) : zMi l ({ cls := "SluiceStreamModel", name := "setLimit", desc := "(I)I" } : Jvm.MethodName) prog_8_method_10_code 3 1 22 .int w [.ref (zq w 13), .int a1] σ (fun r u => (r, u) = (f_M_setLimit σ a1)) := by
  refine zMi_of (by decide +kernel) (Nat.le_of_ble_eq_true rfl) ?_
  intro K O hl0 E
  have ht : (f_M_setLimit σ a1) = (f_M_setLimit σ a1) := rfl
  refine z_sub (lv' := [(0, .ref (zq w 13)), (1, .int a1)]) [0, 1] rfl ?_
  refine z_aload_n O zd_M_setLimit_0 rfl 0 rfl ?_
  refine z_iload_n O zd_M_setLimit_1 rfl 1 rfl ?_
  refine z_iconst O (v := 4) zd_M_setLimit_2 (by decide) ?_
  refine z_sipush O (v := 256) zd_M_setLimit_3 (by decide) ?_
  refine z_callsri O hl0 (st := [.ref (zq w 13)]) (c_M_isIn l w σ a1 4 256) zl_M_69 zm864 rfl rfl (Nat.le_of_ble_eq_true rfl) (Nat.le_of_ble_eq_true rfl) (Nat.le_of_ble_eq_true rfl) zd_M_setLimit_6 (fun r1 e2 => ?_)
  have ht := ht.trans (zlet_e e2)
  refine z_if_eq O (tgt := 16) zd_M_setLimit_9 (by decide) (fun c3 => ?_) (fun c3 => ?_)
  · have ht := ht.trans (if_pos c3)
    refine z_iconst O (v := 1) zd_M_setLimit_16 (by decide) ?_
    refine z_calli O hl0 (st := []) 13 6 (fs := zo13 w σ) rfl rfl (c_M_isFine l w σ 1) zl_M_76 zm868 zms15 rfl rfl (Nat.le_of_ble_eq_true rfl) (Nat.le_of_ble_eq_true rfl) (Nat.le_of_ble_eq_true rfl) zd_M_setLimit_17 (fun r4 u5 e6 => ?_)
    have ht := ht.trans (zseq_e e6)
    refine z_if_ne O (tgt := 25) zd_M_setLimit_20 (by decide) (fun c7 => ?_) (fun c7 => ?_)
    · have ht := ht.trans (if_neg c7)
      refine z_aload_n O zd_M_setLimit_25 rfl 0 rfl ?_
      refine zg_M_19_13 O zd_M_setLimit_26 (v := .int (u5 13 9)) rfl ?_
      refine z_istore_n O (lv' := [(2, .int (u5 13 9)), (0, .ref (zq w 13)), (1, .int a1)]) zd_M_setLimit_29 rfl (Nat.le_of_ble_eq_true rfl) rfl ?_
      refine z_aload_n O zd_M_setLimit_30 rfl 1 rfl ?_
      refine z_iload_n O zd_M_setLimit_31 rfl 2 rfl ?_
      refine zp_M_19_13 O zd_M_setLimit_32 ?_
      refine z_iload_n O zd_M_setLimit_35 rfl 0 rfl ?_
      exact E _ _ _ _ zd_M_setLimit_36 rfl ht.symm
    · have ht := ht.trans (if_pos c7)
      refine z_iconst O (v := 0) zd_M_setLimit_23 (by decide) ?_
      exact E _ _ _ _ zd_M_setLimit_24 rfl ht.symm
  · have ht := ht.trans (if_neg c3)
    refine z_iconst O (v := 0) zd_M_setLimit_12 (by decide) ?_
    refine z_goto O (tgt := 17) zd_M_setLimit_13 (by decide) ?_
    refine z_calli O hl0 (st := []) 13 6 (fs := zo13 w σ) rfl rfl (c_M_isFine l w σ 0) zl_M_76 zm868 zms15 rfl rfl (Nat.le_of_ble_eq_true rfl) (Nat.le_of_ble_eq_true rfl) (Nat.le_of_ble_eq_true rfl) zd_M_setLimit_17 (fun r8 u9 e10 => ?_)
    have ht := ht.trans (zseq_e e10)
    refine z_if_ne O (tgt := 25) zd_M_setLimit_20 (by decide) (fun c11 => ?_) (fun c11 => ?_)
    · have ht := ht.trans (if_neg c11)
      refine z_aload_n O zd_M_setLimit_25 rfl 0 rfl ?_
      refine zg_M_19_13 O zd_M_setLimit_26 (v := .int (u9 13 9)) rfl ?_
      refine z_istore_n O (lv' := [(2, .int (u9 13 9)), (0, .ref (zq w 13)), (1, .int a1)]) zd_M_setLimit_29 rfl (Nat.le_of_ble_eq_true rfl) rfl ?_
      refine z_aload_n O zd_M_setLimit_30 rfl 1 rfl ?_
      refine z_iload_n O zd_M_setLimit_31 rfl 2 rfl ?_
      refine zp_M_19_13 O zd_M_setLimit_32 ?_
      refine z_iload_n O zd_M_setLimit_35 rfl 0 rfl ?_
      exact E _ _ _ _ zd_M_setLimit_36 rfl ht.symm
    · have ht := ht.trans (if_pos c11)
      refine z_iconst O (v := 0) zd_M_setLimit_23 (by decide) ?_
      exact E _ _ _ _ zd_M_setLimit_24 rfl ht.symm
set_option maxHeartbeats 4000000 in
set_option maxRecDepth 100000 in
theorem L_M_flight_7 {K : zCx} {w : zWd} {l : Launch} (O : zOk K w prog_8_method_11_code "SluiceStreamModel" 3 0 0) (hl0 : kl K = l) (σ : zSt) : ∀ (m : Nat) (x1 x2 : Int32), kl_M_flight_7 σ  m x1 x2 → (∀ r, r = (l_M_flight_7 σ  m x1 x2) → Z K w σ [(1, .int r)] [] 38) → Z K w σ [(0, .ref (zq w 13)), (1, .int x1), (2, .int x2)] [] 7 := by
  intro m
  induction m with
  | zero => intro x1 x2 ko; exact ko.elim
  | succ m ih =>
    intro x1 x2 ko kk
    have ht : l_M_flight_7 σ  (m + 1) x1 x2 = l_M_flight_7 σ  (m + 1) x1 x2 := rfl
    refine z_iload_n O zd_M_flight_7 rfl 2 rfl ?_
    refine z_aload_n O zd_M_flight_8 rfl 0 rfl ?_
    refine zg_M_96_13 O zd_M_flight_9 (v := .int (σ 13 3)) rfl ?_
    refine z_icmp_ge O (tgt := 38) zd_M_flight_12 (by decide) (fun c1 => ?_) (fun c1 => ?_)
    · have ht := ht.trans (if_pos c1)
      refine z_sub (lv' := [(1, .int x1)]) [1] rfl ?_
      exact kk x1 ht.symm
    · have ht := ht.trans (if_neg c1)
      have ko := ko c1
      refine z_iload_n O zd_M_flight_15 rfl 1 rfl ?_
      refine z_aload_n O zd_M_flight_16 rfl 0 rfl ?_
      refine zg_M_35_13 O zd_M_flight_17 (v := .ref (zq w 15)) rfl ?_
      refine z_iload_n O zd_M_flight_20 rfl 2 rfl ?_
      have b2 := ko.1
      have ko := ko.2
      refine z_zald O 15 (zae15 w σ) b2 (v := (σ 15 x2.toNatClampNeg)) rfl zd_M_flight_21 ?_
      refine z_if_eq O (tgt := 29) zd_M_flight_22 (by decide) (fun c3 => ?_) (fun c3 => ?_)
      · have ht := ht.trans (if_pos c3)
        have ko := ko.1 c3
        refine z_iconst O (v := 1) zd_M_flight_29 (by decide) ?_
        refine z_iadd O zd_M_flight_30 ?_
        refine z_istore_n O (lv' := [(1, .int (x1 + 1)), (0, .ref (zq w 13)), (2, .int x2)]) zd_M_flight_31 rfl (Nat.le_of_ble_eq_true rfl) rfl ?_
        refine z_iinc O (v := (x2 + 1)) (lv' := [(2, .int (x2 + 1)), (1, .int (x1 + 1)), (0, .ref (zq w 13))]) zd_M_flight_32 2 rfl rfl (Nat.le_of_ble_eq_true rfl) rfl ?_
        refine z_goto O (tgt := 7) zd_M_flight_35 (by decide) ?_
        refine z_sub (lv' := [(0, .ref (zq w 13)), (1, .int (x1 + 1)), (2, .int (x2 + 1))]) [2, 1, 0] rfl ?_
        exact ih (x1 + 1) (x2 + 1) ko (fun r e => kk r (e.trans ht.symm))
      · have ht := ht.trans (if_neg c3)
        have ko := ko.2 c3
        refine z_iconst O (v := 0) zd_M_flight_25 (by decide) ?_
        refine z_goto O (tgt := 30) zd_M_flight_26 (by decide) ?_
        refine z_iadd O zd_M_flight_30 ?_
        refine z_istore_n O (lv' := [(1, .int (x1 + 0)), (0, .ref (zq w 13)), (2, .int x2)]) zd_M_flight_31 rfl (Nat.le_of_ble_eq_true rfl) rfl ?_
        refine z_iinc O (v := (x2 + 1)) (lv' := [(2, .int (x2 + 1)), (1, .int (x1 + 0)), (0, .ref (zq w 13))]) zd_M_flight_32 2 rfl rfl (Nat.le_of_ble_eq_true rfl) rfl ?_
        refine z_goto O (tgt := 7) zd_M_flight_35 (by decide) ?_
        refine z_sub (lv' := [(0, .ref (zq w 13)), (1, .int (x1 + 0)), (2, .int (x2 + 1))]) [2, 1, 0] rfl ?_
        exact ih (x1 + 0) (x2 + 1) ko (fun r e => kk r (e.trans ht.symm))
set_option maxHeartbeats 4000000 in
set_option maxRecDepth 100000 in
theorem c_M_flight (l : Launch) (w : zWd) (σ : zSt) (ko : k_M_flight σ) : zMi l ({ cls := "SluiceStreamModel", name := "flight", desc := "()I" } : Jvm.MethodName) prog_8_method_11_code 3 0 0 .int w [.ref (zq w 13)] σ (fun r u => r = (f_M_flight σ) ∧ u = σ) := by
  refine zMi_of (by decide +kernel) (Nat.le_of_ble_eq_true rfl) ?_
  intro K O hl0 E
  have ht : (f_M_flight σ) = (f_M_flight σ) := rfl
  refine z_sub (lv' := [(0, .ref (zq w 13))]) [0] rfl ?_
  refine z_iconst O (v := 0) zd_M_flight_0 (by decide) ?_
  refine z_istore_n O (lv' := [(1, .int 0), (0, .ref (zq w 13))]) zd_M_flight_1 rfl (Nat.le_of_ble_eq_true rfl) rfl ?_
  refine z_aload_n O zd_M_flight_2 rfl 1 rfl ?_
  refine zg_M_93_13 O zd_M_flight_3 (v := .int (σ 13 2)) rfl ?_
  refine z_istore_n O (lv' := [(2, .int (σ 13 2)), (1, .int 0), (0, .ref (zq w 13))]) zd_M_flight_6 rfl (Nat.le_of_ble_eq_true rfl) rfl ?_
  refine z_sub (lv' := [(0, .ref (zq w 13)), (1, .int 0), (2, .int (σ 13 2))]) [2, 1, 0] rfl ?_
  refine L_M_flight_7 O hl0 σ ((((σ 13 3)).toInt - ((σ 13 2)).toInt).toNat + 2) 0 (σ 13 2) ko (fun r4 er4 => ?_)
  have ht := ht.trans (zlet_e er4)
  refine z_iload_n O zd_M_flight_38 rfl 0 rfl ?_
  exact E _ _ _ _ zd_M_flight_39 rfl ⟨ht.symm, rfl⟩
set_option maxHeartbeats 4000000 in
set_option maxRecDepth 100000 in
theorem L_M_lastMark_7 {K : zCx} {w : zWd} {l : Launch} (O : zOk K w prog_8_method_12_code "SluiceStreamModel" 2 0 0) (hl0 : kl K = l) (σ : zSt) : ∀ (m : Nat) (x1 : Int32), kl_M_lastMark_7 σ  m x1 → (∀ r, r = (l_M_lastMark_7 σ  m x1) → Z K w σ [(1, .int r)] [] 26) → Z K w σ [(0, .ref (zq w 13)), (1, .int x1)] [] 7 := by
  intro m
  induction m with
  | zero => intro x1 ko; exact ko.elim
  | succ m ih =>
    intro x1 ko kk
    have ht : l_M_lastMark_7 σ  (m + 1) x1 = l_M_lastMark_7 σ  (m + 1) x1 := rfl
    refine z_iload_n O zd_M_lastMark_7 rfl 1 rfl ?_
    refine z_if_lt O (tgt := 26) zd_M_lastMark_8 (by decide) (fun c1 => ?_) (fun c1 => ?_)
    · have ht := ht.trans (if_pos c1)
      refine z_sub (lv' := [(1, .int x1)]) [1] rfl ?_
      exact kk x1 ht.symm
    · have ht := ht.trans (if_neg c1)
      have ko := ko c1
      refine z_aload_n O zd_M_lastMark_11 rfl 0 rfl ?_
      refine zg_M_35_13 O zd_M_lastMark_12 (v := .ref (zq w 15)) rfl ?_
      refine z_iload_n O zd_M_lastMark_15 rfl 1 rfl ?_
      have b2 := ko.1
      have ko := ko.2
      refine z_zald O 15 (zae15 w σ) b2 (v := (σ 15 x1.toNatClampNeg)) rfl zd_M_lastMark_16 ?_
      refine z_if_ne O (tgt := 26) zd_M_lastMark_17 (by decide) (fun c3 => ?_) (fun c3 => ?_)
      · have ht := ht.trans (if_neg c3)
        refine z_sub (lv' := [(1, .int x1)]) [1] rfl ?_
        exact kk x1 ht.symm
      · have ht := ht.trans (if_pos c3)
        have ko := ko c3
        refine z_iinc O (v := (x1 + (-1))) (lv' := [(1, .int (x1 + (-1))), (0, .ref (zq w 13))]) zd_M_lastMark_20 1 rfl rfl (Nat.le_of_ble_eq_true rfl) rfl ?_
        refine z_goto O (tgt := 7) zd_M_lastMark_23 (by decide) ?_
        refine z_sub (lv' := [(0, .ref (zq w 13)), (1, .int (x1 + (-1)))]) [1, 0] rfl ?_
        exact ih (x1 + (-1)) ko (fun r e => kk r (e.trans ht.symm))
set_option maxHeartbeats 4000000 in
set_option maxRecDepth 100000 in
theorem c_M_lastMark (l : Launch) (w : zWd) (σ : zSt) (ko : k_M_lastMark σ) : zMi l ({ cls := "SluiceStreamModel", name := "lastMark", desc := "()I" } : Jvm.MethodName) prog_8_method_12_code 2 0 0 .int w [.ref (zq w 13)] σ (fun r u => r = (f_M_lastMark σ) ∧ u = σ) := by
  refine zMi_of (by decide +kernel) (Nat.le_of_ble_eq_true rfl) ?_
  intro K O hl0 E
  have ht : (f_M_lastMark σ) = (f_M_lastMark σ) := rfl
  refine z_sub (lv' := [(0, .ref (zq w 13))]) [0] rfl ?_
  refine z_aload_n O zd_M_lastMark_0 rfl 0 rfl ?_
  refine zg_M_73_13 O zd_M_lastMark_1 (v := .int (σ 13 5)) rfl ?_
  refine z_iconst O (v := 1) zd_M_lastMark_4 (by decide) ?_
  refine z_isub O zd_M_lastMark_5 ?_
  refine z_istore_n O (lv' := [(1, .int ((σ 13 5) - 1)), (0, .ref (zq w 13))]) zd_M_lastMark_6 rfl (Nat.le_of_ble_eq_true rfl) rfl ?_
  refine z_sub (lv' := [(0, .ref (zq w 13)), (1, .int ((σ 13 5) - 1))]) [1, 0] rfl ?_
  refine L_M_lastMark_7 O hl0 σ (((((σ 13 5) - 1)).toInt + 1).toNat + 1) ((σ 13 5) - 1) ko (fun r4 er4 => ?_)
  have ht := ht.trans (zlet_e er4)
  refine z_iload_n O zd_M_lastMark_26 rfl 0 rfl ?_
  exact E _ _ _ _ zd_M_lastMark_27 rfl ⟨ht.symm, rfl⟩
set_option maxHeartbeats 4000000 in
set_option maxRecDepth 100000 in
theorem L_M_markOr_2 {K : zCx} {w : zWd} {l : Launch} (O : zOk K w prog_8_method_13_code "SluiceStreamModel" 4 0 0) (hl0 : kl K = l) (σ : zSt) (x2 : Int32) : ∀ (m : Nat) (x3 : Int32), kl_M_markOr_2 σ x2 m x3 → (∀ r, r = (l_M_markOr_2 σ x2 m x3) → Z K w σ [(3, .int r)] [] 22) → Z K w σ [(0, .ref (zq w 13)), (2, .int x2), (3, .int x3)] [] 2 := by
  intro m
  induction m with
  | zero => intro x3 ko; exact ko.elim
  | succ m ih =>
    intro x3 ko kk
    have ht : l_M_markOr_2 σ x2 (m + 1) x3 = l_M_markOr_2 σ x2 (m + 1) x3 := rfl
    refine z_iload_n O zd_M_markOr_2 rfl 2 rfl ?_
    refine z_iload_n O zd_M_markOr_3 rfl 1 rfl ?_
    refine z_icmp_ge O (tgt := 22) zd_M_markOr_4 (by decide) (fun c1 => ?_) (fun c1 => ?_)
    · have ht := ht.trans (if_pos c1)
      refine z_sub (lv' := [(3, .int x3)]) [2] rfl ?_
      exact kk x3 ht.symm
    · have ht := ht.trans (if_neg c1)
      have ko := ko c1
      refine z_aload_n O zd_M_markOr_7 rfl 0 rfl ?_
      refine zg_M_35_13 O zd_M_markOr_8 (v := .ref (zq w 15)) rfl ?_
      refine z_iload_n O zd_M_markOr_11 rfl 2 rfl ?_
      have b2 := ko.1
      have ko := ko.2
      refine z_zald O 15 (zae15 w σ) b2 (v := (σ 15 x3.toNatClampNeg)) rfl zd_M_markOr_12 ?_
      refine z_if_ne O (tgt := 22) zd_M_markOr_13 (by decide) (fun c3 => ?_) (fun c3 => ?_)
      · have ht := ht.trans (if_neg c3)
        refine z_sub (lv' := [(3, .int x3)]) [2] rfl ?_
        exact kk x3 ht.symm
      · have ht := ht.trans (if_pos c3)
        have ko := ko c3
        refine z_iinc O (v := (x3 + 1)) (lv' := [(3, .int (x3 + 1)), (0, .ref (zq w 13)), (2, .int x2)]) zd_M_markOr_16 2 rfl rfl (Nat.le_of_ble_eq_true rfl) rfl ?_
        refine z_goto O (tgt := 2) zd_M_markOr_19 (by decide) ?_
        refine z_sub (lv' := [(0, .ref (zq w 13)), (2, .int x2), (3, .int (x3 + 1))]) [1, 2, 0] rfl ?_
        exact ih (x3 + 1) ko (fun r e => kk r (e.trans ht.symm))
set_option maxHeartbeats 4000000 in
set_option maxRecDepth 100000 in
theorem c_M_markOr (l : Launch) (w : zWd) (σ : zSt) (a1 : Int32) (a2 : Int32) (ko : k_M_markOr σ a1 a2) : zMi l ({ cls := "SluiceStreamModel", name := "markOr", desc := "(II)I" } : Jvm.MethodName) prog_8_method_13_code 4 0 0 .int w [.ref (zq w 13), .int a1, .int a2] σ (fun r u => r = (f_M_markOr σ a1 a2) ∧ u = σ) := by
  refine zMi_of (by decide +kernel) (Nat.le_of_ble_eq_true rfl) ?_
  intro K O hl0 E
  have ht : (f_M_markOr σ a1 a2) = (f_M_markOr σ a1 a2) := rfl
  refine z_sub (lv' := [(0, .ref (zq w 13)), (1, .int a1), (2, .int a2)]) [0, 1, 2] rfl ?_
  refine z_iload_n O zd_M_markOr_0 rfl 1 rfl ?_
  refine z_istore_n O (lv' := [(3, .int a1), (0, .ref (zq w 13)), (1, .int a1), (2, .int a2)]) zd_M_markOr_1 rfl (Nat.le_of_ble_eq_true rfl) rfl ?_
  refine z_sub (lv' := [(0, .ref (zq w 13)), (2, .int a2), (3, .int a1)]) [1, 3, 0] rfl ?_
  refine L_M_markOr_2 O hl0 σ a2 (((a2).toInt - (a1).toInt).toNat + 2) a1 ko (fun r4 er4 => ?_)
  have ht := ht.trans (zlet_e er4)
  refine z_iload_n O zd_M_markOr_22 rfl 0 rfl ?_
  exact E _ _ _ _ zd_M_markOr_23 rfl ⟨ht.symm, rfl⟩
set_option maxHeartbeats 4000000 in
set_option maxRecDepth 100000 in
theorem L_M_hole_12 {K : zCx} {w : zWd} {l : Launch} (O : zOk K w prog_8_method_14_code "SluiceStreamModel" 2 1 21) (hl0 : kl K = l) (σ : zSt) : ∀ (m : Nat) (x1 : Int32), kl_M_hole_12 σ  m x1 → (∀ r, r = (l_M_hole_12 σ  m x1) → Z K w σ [(0, .ref (zq w 13)), (1, .int r)] [] 35) → Z K w σ [(0, .ref (zq w 13)), (1, .int x1)] [] 12 := by
  intro m
  induction m with
  | zero => intro x1 ko; exact ko.elim
  | succ m ih =>
    intro x1 ko kk
    have ht : l_M_hole_12 σ  (m + 1) x1 = l_M_hole_12 σ  (m + 1) x1 := rfl
    refine z_iload_n O zd_M_hole_12 rfl 1 rfl ?_
    refine z_aload_n O zd_M_hole_13 rfl 0 rfl ?_
    refine zg_M_96_13 O zd_M_hole_14 (v := .int (σ 13 3)) rfl ?_
    refine z_icmp_ge O (tgt := 35) zd_M_hole_17 (by decide) (fun c3 => ?_) (fun c3 => ?_)
    · have ht := ht.trans (if_pos c3)
      refine z_sub (lv' := [(0, .ref (zq w 13)), (1, .int x1)]) [0, 1] rfl ?_
      exact kk x1 ht.symm
    · have ht := ht.trans (if_neg c3)
      have ko := ko c3
      refine z_aload_n O zd_M_hole_20 rfl 0 rfl ?_
      refine zg_M_35_13 O zd_M_hole_21 (v := .ref (zq w 15)) rfl ?_
      refine z_iload_n O zd_M_hole_24 rfl 1 rfl ?_
      have b4 := ko.1
      have ko := ko.2
      refine z_zald O 15 (zae15 w σ) b4 (v := (σ 15 x1.toNatClampNeg)) rfl zd_M_hole_25 ?_
      refine z_if_eq O (tgt := 35) zd_M_hole_26 (by decide) (fun c5 => ?_) (fun c5 => ?_)
      · have ht := ht.trans (if_pos c5)
        refine z_sub (lv' := [(0, .ref (zq w 13)), (1, .int x1)]) [0, 1] rfl ?_
        exact kk x1 ht.symm
      · have ht := ht.trans (if_neg c5)
        have ko := ko c5
        refine z_iinc O (v := (x1 + 1)) (lv' := [(1, .int (x1 + 1)), (0, .ref (zq w 13))]) zd_M_hole_29 1 rfl rfl (Nat.le_of_ble_eq_true rfl) rfl ?_
        refine z_goto O (tgt := 12) zd_M_hole_32 (by decide) ?_
        refine z_sub (lv' := [(0, .ref (zq w 13)), (1, .int (x1 + 1))]) [1, 0] rfl ?_
        exact ih (x1 + 1) ko (fun r e => kk r (e.trans ht.symm))
set_option maxHeartbeats 4000000 in
set_option maxRecDepth 100000 in
theorem c_M_hole (l : Launch) (w : zWd) (σ : zSt) (ko : k_M_hole σ) : zMi l ({ cls := "SluiceStreamModel", name := "hole", desc := "()I" } : Jvm.MethodName) prog_8_method_14_code 2 1 21 .int w [.ref (zq w 13)] σ (fun r u => r = (f_M_hole σ) ∧ u = σ) := by
  refine zMi_of (by decide +kernel) (Nat.le_of_ble_eq_true rfl) ?_
  intro K O hl0 E
  have ht : (f_M_hole σ) = (f_M_hole σ) := rfl
  refine z_sub (lv' := [(0, .ref (zq w 13))]) [0] rfl ?_
  refine z_aload_n O zd_M_hole_0 rfl 0 rfl ?_
  refine zg_M_93_13 O zd_M_hole_1 (v := .int (σ 13 2)) rfl ?_
  refine z_aload_n O zd_M_hole_4 rfl 0 rfl ?_
  refine zg_M_99_13 O zd_M_hole_5 (v := .int (σ 13 12)) rfl ?_
  refine z_callsri O hl0 (st := []) (c_M_greater l w σ (σ 13 2) (σ 13 12)) zl_M_102 zm895 rfl rfl (Nat.le_of_ble_eq_true rfl) (Nat.le_of_ble_eq_true rfl) (Nat.le_of_ble_eq_true rfl) zd_M_hole_8 (fun r1 e2 => ?_)
  have ht := ht.trans (zlet_e e2)
  have ko := ko r1 e2
  refine z_istore_n O (lv' := [(1, .int r1), (0, .ref (zq w 13))]) zd_M_hole_11 rfl (Nat.le_of_ble_eq_true rfl) rfl ?_
  refine z_sub (lv' := [(0, .ref (zq w 13)), (1, .int r1)]) [1, 0] rfl ?_
  refine L_M_hole_12 O hl0 σ ((((σ 13 3)).toInt - (r1).toInt).toNat + 2) r1 ko.1 (fun r6 er6 => ?_)
  have ht := ht.trans (zlet_e er6)
  have ko := ko.2 r6 er6
  refine z_iload_n O zd_M_hole_35 rfl 1 rfl ?_
  refine z_aload_n O zd_M_hole_36 rfl 0 rfl ?_
  refine zg_M_96_13 O zd_M_hole_37 (v := .int (σ 13 3)) rfl ?_
  refine z_icmp_ge O (tgt := 63) zd_M_hole_40 (by decide) (fun c7 => ?_) (fun c7 => ?_)
  · have ht := ht.trans (if_pos c7)
    refine z_iconst O (v := (-1)) zd_M_hole_63 (by decide) ?_
    exact E _ _ _ _ zd_M_hole_64 rfl ⟨ht.symm, rfl⟩
  · have ht := ht.trans (if_neg c7)
    have ko := ko c7
    refine z_iload_n O zd_M_hole_43 rfl 1 rfl ?_
    refine z_aload_n O zd_M_hole_44 rfl 0 rfl ?_
    refine zg_M_93_13 O zd_M_hole_45 (v := .int (σ 13 2)) rfl ?_
    refine z_icmp_eq O (tgt := 59) zd_M_hole_48 (by decide) (fun c8 => ?_) (fun c8 => ?_)
    · have ht := ht.trans (if_pos c8)
      refine z_iload_n O zd_M_hole_59 rfl 1 rfl ?_
      refine z_goto O (tgt := 64) zd_M_hole_60 (by decide) ?_
      exact E _ _ _ _ zd_M_hole_64 rfl ⟨ht.symm, rfl⟩
    · have ht := ht.trans (if_neg c8)
      have ko := ko c8
      refine z_iload_n O zd_M_hole_51 rfl 1 rfl ?_
      refine z_aload_n O zd_M_hole_52 rfl 0 rfl ?_
      refine z_callri O hl0 (st := [.int r6]) 13 6 (fs := zo13 w σ) rfl rfl (c_M_lastMark l w σ ko) zl_M_106 zm915 zms23 rfl rfl (Nat.le_of_ble_eq_true rfl) (Nat.le_of_ble_eq_true rfl) (Nat.le_of_ble_eq_true rfl) zd_M_hole_53 (fun r9 e10 => ?_)
      have ht := ht.trans (zlet_e e10)
      refine z_icmp_ge O (tgt := 63) zd_M_hole_56 (by decide) (fun c11 => ?_) (fun c11 => ?_)
      · have ht := ht.trans (if_pos c11)
        refine z_iconst O (v := (-1)) zd_M_hole_63 (by decide) ?_
        exact E _ _ _ _ zd_M_hole_64 rfl ⟨ht.symm, rfl⟩
      · have ht := ht.trans (if_neg c11)
        refine z_iload_n O zd_M_hole_59 rfl 1 rfl ?_
        refine z_goto O (tgt := 64) zd_M_hole_60 (by decide) ?_
        exact E _ _ _ _ zd_M_hole_64 rfl ⟨ht.symm, rfl⟩
set_option maxHeartbeats 4000000 in
set_option maxRecDepth 100000 in
theorem c_M_sends (l : Launch) (w : zWd) (σ : zSt) (a1 : Int32) (a2 : Int32) (ko : k_M_sends σ a1 a2) : zMi l ({ cls := "SluiceStreamModel", name := "sends", desc := "(II)I" } : Jvm.MethodName) prog_8_method_15_code 3 1 21 .int w [.ref (zq w 13), .int a1, .int a2] σ (fun r u => (r, u) = (f_M_sends σ a1 a2)) := by
  refine zMi_of (by decide +kernel) (Nat.le_of_ble_eq_true rfl) ?_
  intro K O hl0 E
  have ht : (f_M_sends σ a1 a2) = (f_M_sends σ a1 a2) := rfl
  refine z_sub (lv' := [(0, .ref (zq w 13)), (1, .int a1), (2, .int a2)]) [0, 1, 2] rfl ?_
  refine z_aload_n O zd_M_sends_0 rfl 0 rfl ?_
  refine zg_M_45_13 O zd_M_sends_1 (v := .ref (zq w 18)) rfl ?_
  refine z_aload_n O zd_M_sends_4 rfl 0 rfl ?_
  refine zg_M_109_13 O zd_M_sends_5 (v := .int (σ 13 32)) rfl ?_
  refine z_iload_n O zd_M_sends_8 rfl 1 rfl ?_
  have b1 := ko.1
  have ko := ko.2
  refine z_iast O 18 (zae18 w σ) b1 (zas18 w σ _ _) zd_M_sends_9 ?_
  refine z_aload_n O zd_M_sends_10 rfl 0 rfl ?_
  refine zg_M_48_13 O zd_M_sends_11 (v := .ref (zq w 19)) rfl ?_
  refine z_aload_n O zd_M_sends_14 rfl 0 rfl ?_
  refine zg_M_109_13 O zd_M_sends_15 (v := .int (σ 13 32)) rfl ?_
  refine z_iload_n O zd_M_sends_18 rfl 2 rfl ?_
  have b2 := ko
  refine z_iast O 19 (zae19 w (zuf σ 18 ((σ 13 32) : Int32).toNatClampNeg a1)) b2 (zas19 w (zuf σ 18 ((σ 13 32) : Int32).toNatClampNeg a1) _ _) zd_M_sends_19 ?_
  refine z_aload_n O zd_M_sends_20 rfl 0 rfl ?_
  refine z_dup O zd_M_sends_21 rfl ?_
  refine zg_M_109_13 O zd_M_sends_22 (v := .int (σ 13 32)) rfl ?_
  refine z_iconst O (v := 1) zd_M_sends_25 (by decide) ?_
  refine z_iadd O zd_M_sends_26 ?_
  refine zp_M_109_13 O zd_M_sends_27 ?_
  refine z_aload_n O zd_M_sends_30 rfl 0 rfl ?_
  refine z_dup O zd_M_sends_31 rfl ?_
  refine zg_M_112_13 O zd_M_sends_32 (v := .int (σ 13 21)) rfl ?_
  refine z_iconst O (v := 1) zd_M_sends_35 (by decide) ?_
  refine z_iadd O zd_M_sends_36 ?_
  refine zp_M_112_13 O zd_M_sends_37 ?_
  refine z_iload_n O zd_M_sends_40 rfl 1 rfl ?_
  refine z_aload_n O zd_M_sends_41 rfl 0 rfl ?_
  refine zg_M_115_13 O zd_M_sends_42 (v := .int (σ 13 4)) rfl ?_
  refine z_icmp_ge O (tgt := 61) zd_M_sends_45 (by decide) (fun c3 => ?_) (fun c3 => ?_)
  · have ht := ht.trans (if_pos c3)
    refine z_aload_n O zd_M_sends_61 rfl 0 rfl ?_
    refine zg_M_28_13 O zd_M_sends_62 (v := .int (σ 13 16)) rfl ?_
    refine z_iconst O (v := (-1)) zd_M_sends_65 (by decide) ?_
    refine z_icmp_ne O (tgt := 82) zd_M_sends_66 (by decide) (fun c4 => ?_) (fun c4 => ?_)
    · have ht := ht.trans (if_neg c4)
      refine z_aload_n O zd_M_sends_82 rfl 0 rfl ?_
      refine z_aload_n O zd_M_sends_83 rfl 0 rfl ?_
      refine zg_M_115_13 O zd_M_sends_84 (v := .int (σ 13 4)) rfl ?_
      refine z_aload_n O zd_M_sends_87 rfl 0 rfl ?_
      refine zg_M_96_13 O zd_M_sends_88 (v := .int (σ 13 3)) rfl ?_
      refine z_callsri O hl0 (st := [.ref (zq w 13)]) (c_M_greater l w (zuf (zuf (zuf (zuf σ 18 ((σ 13 32) : Int32).toNatClampNeg a1) 19 ((σ 13 32) : Int32).toNatClampNeg a2) 13 32 ((σ 13 32) + 1)) 13 21 ((σ 13 21) + 1)) (σ 13 4) (σ 13 3)) zl_M_102 zm895 rfl rfl (Nat.le_of_ble_eq_true rfl) (Nat.le_of_ble_eq_true rfl) (Nat.le_of_ble_eq_true rfl) zd_M_sends_91 (fun r5 e6 => ?_)
      have ht := ht.trans (zlet_e e6)
      refine zp_M_115_13 O zd_M_sends_94 ?_
      refine z_aload_n O zd_M_sends_97 rfl 0 rfl ?_
      refine zg_M_25_13 O zd_M_sends_98 (v := .int (σ 13 15)) rfl ?_
      refine z_iconst O (v := (-1)) zd_M_sends_101 (by decide) ?_
      refine z_icmp_ne O (tgt := 118) zd_M_sends_102 (by decide) (fun c7 => ?_) (fun c7 => ?_)
      · have ht := ht.trans (if_neg c7)
        refine z_iload_n O zd_M_sends_118 rfl 2 rfl ?_
        refine z_iload_n O zd_M_sends_119 rfl 1 rfl ?_
        refine z_isub O zd_M_sends_120 ?_
        exact E _ _ _ _ zd_M_sends_121 rfl ht.symm
      · have ht := ht.trans (if_pos c7)
        refine z_aload_n O zd_M_sends_105 rfl 0 rfl ?_
        refine z_aload_n O zd_M_sends_106 rfl 0 rfl ?_
        refine zg_M_121_13 O zd_M_sends_107 (v := .int (σ 13 1)) rfl ?_
        refine z_aload_n O zd_M_sends_110 rfl 0 rfl ?_
        refine zg_M_22_13 O zd_M_sends_111 (v := .int (σ 13 14)) rfl ?_
        refine z_iadd O zd_M_sends_114 ?_
        refine zp_M_25_13 O zd_M_sends_115 ?_
        refine z_iload_n O zd_M_sends_118 rfl 2 rfl ?_
        refine z_iload_n O zd_M_sends_119 rfl 1 rfl ?_
        refine z_isub O zd_M_sends_120 ?_
        exact E _ _ _ _ zd_M_sends_121 rfl ht.symm
    · have ht := ht.trans (if_pos c4)
      refine z_aload_n O zd_M_sends_69 rfl 0 rfl ?_
      refine z_iload_n O zd_M_sends_70 rfl 2 rfl ?_
      refine zp_M_28_13 O zd_M_sends_71 ?_
      refine z_aload_n O zd_M_sends_74 rfl 0 rfl ?_
      refine z_aload_n O zd_M_sends_75 rfl 0 rfl ?_
      refine zg_M_121_13 O zd_M_sends_76 (v := .int (σ 13 1)) rfl ?_
      refine zp_M_124_13 O zd_M_sends_79 ?_
      refine z_aload_n O zd_M_sends_82 rfl 0 rfl ?_
      refine z_aload_n O zd_M_sends_83 rfl 0 rfl ?_
      refine zg_M_115_13 O zd_M_sends_84 (v := .int (σ 13 4)) rfl ?_
      refine z_aload_n O zd_M_sends_87 rfl 0 rfl ?_
      refine zg_M_96_13 O zd_M_sends_88 (v := .int (σ 13 3)) rfl ?_
      refine z_callsri O hl0 (st := [.ref (zq w 13)]) (c_M_greater l w (zuf (zuf (zuf (zuf (zuf (zuf σ 18 ((σ 13 32) : Int32).toNatClampNeg a1) 19 ((σ 13 32) : Int32).toNatClampNeg a2) 13 32 ((σ 13 32) + 1)) 13 21 ((σ 13 21) + 1)) 13 16 a2) 13 17 (σ 13 1)) (σ 13 4) (σ 13 3)) zl_M_102 zm895 rfl rfl (Nat.le_of_ble_eq_true rfl) (Nat.le_of_ble_eq_true rfl) (Nat.le_of_ble_eq_true rfl) zd_M_sends_91 (fun r8 e9 => ?_)
      have ht := ht.trans (zlet_e e9)
      refine zp_M_115_13 O zd_M_sends_94 ?_
      refine z_aload_n O zd_M_sends_97 rfl 0 rfl ?_
      refine zg_M_25_13 O zd_M_sends_98 (v := .int (σ 13 15)) rfl ?_
      refine z_iconst O (v := (-1)) zd_M_sends_101 (by decide) ?_
      refine z_icmp_ne O (tgt := 118) zd_M_sends_102 (by decide) (fun c10 => ?_) (fun c10 => ?_)
      · have ht := ht.trans (if_neg c10)
        refine z_iload_n O zd_M_sends_118 rfl 2 rfl ?_
        refine z_iload_n O zd_M_sends_119 rfl 1 rfl ?_
        refine z_isub O zd_M_sends_120 ?_
        exact E _ _ _ _ zd_M_sends_121 rfl ht.symm
      · have ht := ht.trans (if_pos c10)
        refine z_aload_n O zd_M_sends_105 rfl 0 rfl ?_
        refine z_aload_n O zd_M_sends_106 rfl 0 rfl ?_
        refine zg_M_121_13 O zd_M_sends_107 (v := .int (σ 13 1)) rfl ?_
        refine z_aload_n O zd_M_sends_110 rfl 0 rfl ?_
        refine zg_M_22_13 O zd_M_sends_111 (v := .int (σ 13 14)) rfl ?_
        refine z_iadd O zd_M_sends_114 ?_
        refine zp_M_25_13 O zd_M_sends_115 ?_
        refine z_iload_n O zd_M_sends_118 rfl 2 rfl ?_
        refine z_iload_n O zd_M_sends_119 rfl 1 rfl ?_
        refine z_isub O zd_M_sends_120 ?_
        exact E _ _ _ _ zd_M_sends_121 rfl ht.symm
  · have ht := ht.trans (if_neg c3)
    refine z_aload_n O zd_M_sends_48 rfl 0 rfl ?_
    refine z_dup O zd_M_sends_49 rfl ?_
    refine zg_M_118_13 O zd_M_sends_50 (v := .int (σ 13 22)) rfl ?_
    refine z_iconst O (v := 1) zd_M_sends_53 (by decide) ?_
    refine z_iadd O zd_M_sends_54 ?_
    refine zp_M_118_13 O zd_M_sends_55 ?_
    refine z_goto O (tgt := 82) zd_M_sends_58 (by decide) ?_
    refine z_aload_n O zd_M_sends_82 rfl 0 rfl ?_
    refine z_aload_n O zd_M_sends_83 rfl 0 rfl ?_
    refine zg_M_115_13 O zd_M_sends_84 (v := .int (σ 13 4)) rfl ?_
    refine z_aload_n O zd_M_sends_87 rfl 0 rfl ?_
    refine zg_M_96_13 O zd_M_sends_88 (v := .int (σ 13 3)) rfl ?_
    refine z_callsri O hl0 (st := [.ref (zq w 13)]) (c_M_greater l w (zuf (zuf (zuf (zuf (zuf σ 18 ((σ 13 32) : Int32).toNatClampNeg a1) 19 ((σ 13 32) : Int32).toNatClampNeg a2) 13 32 ((σ 13 32) + 1)) 13 21 ((σ 13 21) + 1)) 13 22 ((σ 13 22) + 1)) (σ 13 4) (σ 13 3)) zl_M_102 zm895 rfl rfl (Nat.le_of_ble_eq_true rfl) (Nat.le_of_ble_eq_true rfl) (Nat.le_of_ble_eq_true rfl) zd_M_sends_91 (fun r11 e12 => ?_)
    have ht := ht.trans (zlet_e e12)
    refine zp_M_115_13 O zd_M_sends_94 ?_
    refine z_aload_n O zd_M_sends_97 rfl 0 rfl ?_
    refine zg_M_25_13 O zd_M_sends_98 (v := .int (σ 13 15)) rfl ?_
    refine z_iconst O (v := (-1)) zd_M_sends_101 (by decide) ?_
    refine z_icmp_ne O (tgt := 118) zd_M_sends_102 (by decide) (fun c13 => ?_) (fun c13 => ?_)
    · have ht := ht.trans (if_neg c13)
      refine z_iload_n O zd_M_sends_118 rfl 2 rfl ?_
      refine z_iload_n O zd_M_sends_119 rfl 1 rfl ?_
      refine z_isub O zd_M_sends_120 ?_
      exact E _ _ _ _ zd_M_sends_121 rfl ht.symm
    · have ht := ht.trans (if_pos c13)
      refine z_aload_n O zd_M_sends_105 rfl 0 rfl ?_
      refine z_aload_n O zd_M_sends_106 rfl 0 rfl ?_
      refine zg_M_121_13 O zd_M_sends_107 (v := .int (σ 13 1)) rfl ?_
      refine z_aload_n O zd_M_sends_110 rfl 0 rfl ?_
      refine zg_M_22_13 O zd_M_sends_111 (v := .int (σ 13 14)) rfl ?_
      refine z_iadd O zd_M_sends_114 ?_
      refine zp_M_25_13 O zd_M_sends_115 ?_
      refine z_iload_n O zd_M_sends_118 rfl 2 rfl ?_
      refine z_iload_n O zd_M_sends_119 rfl 1 rfl ?_
      refine z_isub O zd_M_sends_120 ?_
      exact E _ _ _ _ zd_M_sends_121 rfl ht.symm
set_option maxHeartbeats 4000000 in
set_option maxRecDepth 100000 in
theorem L_M_send_73 {K : zCx} {w : zWd} {l : Launch} (O : zOk K w prog_8_method_16_code "SluiceStreamModel" 6 2 43) (hl0 : kl K = l) : ∀ (m : Nat) (σ : zSt), kl_M_send_73  m σ → (∀ r, r = (l_M_send_73  m σ) → Z K w r [(0, .ref (zq w 13))] [] 109) → Z K w σ [(0, .ref (zq w 13))] [] 73 := by
  intro m
  induction m with
  | zero => intro σ ko; exact ko.elim
  | succ m ih =>
    intro σ ko kk
    have ht : l_M_send_73  (m + 1) σ = l_M_send_73  (m + 1) σ := rfl
    refine z_aload_n O zd_M_send_73 rfl 0 rfl ?_
    refine zg_M_96_13 O zd_M_send_74 (v := .int (σ 13 3)) rfl ?_
    refine z_aload_n O zd_M_send_77 rfl 0 rfl ?_
    refine zg_M_73_13 O zd_M_send_78 (v := .int (σ 13 5)) rfl ?_
    refine z_icmp_ge O (tgt := 109) zd_M_send_81 (by decide) (fun c8 => ?_) (fun c8 => ?_)
    · have ht := ht.trans (if_pos c8)
      refine z_sub (lv' := [(0, .ref (zq w 13))]) [0] rfl ?_
      exact kk σ ht.symm
    · have ht := ht.trans (if_neg c8)
      have ko := ko c8
      refine z_aload_n O zd_M_send_84 rfl 0 rfl ?_
      refine zg_M_35_13 O zd_M_send_85 (v := .ref (zq w 15)) rfl ?_
      refine z_aload_n O zd_M_send_88 rfl 0 rfl ?_
      refine zg_M_96_13 O zd_M_send_89 (v := .int (σ 13 3)) rfl ?_
      have b9 := ko.1
      have ko := ko.2
      refine z_zald O 15 (zae15 w σ) b9 (v := (σ 15 ((σ 13 3) : Int32).toNatClampNeg)) rfl zd_M_send_92 ?_
      refine z_if_eq O (tgt := 109) zd_M_send_93 (by decide) (fun c10 => ?_) (fun c10 => ?_)
      · have ht := ht.trans (if_pos c10)
        refine z_sub (lv' := [(0, .ref (zq w 13))]) [0] rfl ?_
        exact kk σ ht.symm
      · have ht := ht.trans (if_neg c10)
        have ko := ko c10
        refine z_aload_n O zd_M_send_96 rfl 0 rfl ?_
        refine z_dup O zd_M_send_97 rfl ?_
        refine zg_M_96_13 O zd_M_send_98 (v := .int (σ 13 3)) rfl ?_
        refine z_iconst O (v := 1) zd_M_send_101 (by decide) ?_
        refine z_iadd O zd_M_send_102 ?_
        refine zp_M_96_13 O zd_M_send_103 ?_
        refine z_goto O (tgt := 73) zd_M_send_106 (by decide) ?_
        refine z_sub (lv' := [(0, .ref (zq w 13))]) [0] rfl ?_
        exact ih (zuf σ 13 3 ((σ 13 3) + 1)) ko (fun r e => kk r (e.trans ht.symm))
set_option maxHeartbeats 4000000 in
set_option maxRecDepth 100000 in
theorem c_M_send (l : Launch) (w : zWd) (σ : zSt) (ko : k_M_send σ) : zMi l ({ cls := "SluiceStreamModel", name := "send", desc := "()I" } : Jvm.MethodName) prog_8_method_16_code 6 2 43 .int w [.ref (zq w 13)] σ (fun r u => (r, u) = (f_M_send σ)) := by
  refine zMi_of (by decide +kernel) (Nat.le_of_ble_eq_true rfl) ?_
  intro K O hl0 E
  have ht : (f_M_send σ) = (f_M_send σ) := rfl
  refine z_sub (lv' := [(0, .ref (zq w 13))]) [0] rfl ?_
  refine z_aload_n O zd_M_send_0 rfl 0 rfl ?_
  refine z_aload_n O zd_M_send_1 rfl 0 rfl ?_
  refine zg_M_109_13 O zd_M_send_2 (v := .int (σ 13 32)) rfl ?_
  refine z_bipush O (v := 40) zd_M_send_5 (by decide) ?_
  refine z_icmp_ne O (tgt := 14) zd_M_send_7 (by decide) (fun c1 => ?_) (fun c1 => ?_)
  · have ht := ht.trans (if_neg c1)
    have ko := ko.2 c1
    refine z_iconst O (v := 0) zd_M_send_14 (by decide) ?_
    refine z_calli O hl0 (st := []) 13 6 (fs := zo13 w σ) rfl rfl (c_M_isFine l w σ 0) zl_M_76 zm868 zms15 rfl rfl (Nat.le_of_ble_eq_true rfl) (Nat.le_of_ble_eq_true rfl) (Nat.le_of_ble_eq_true rfl) zd_M_send_15 (fun r2 u3 e4 => ?_)
    have ht := ht.trans (zseq_e e4)
    have ko := ko r2 u3 e4
    refine z_if_ne O (tgt := 23) zd_M_send_18 (by decide) (fun c5 => ?_) (fun c5 => ?_)
    · have ht := ht.trans (if_neg c5)
      have ko := ko c5
      refine z_aload_n O zd_M_send_23 rfl 0 rfl ?_
      refine zg_M_127_13 O zd_M_send_24 (v := .int (u3 13 10)) rfl ?_
      refine z_if_eq O (tgt := 37) zd_M_send_27 (by decide) (fun c6 => ?_) (fun c6 => ?_)
      · have ht := ht.trans (if_pos c6)
        have ko := ko.1 c6
        refine z_iconst O (v := (-1)) zd_M_send_37 (by decide) ?_
        refine z_istore_n O (lv' := [(1, .int (-1)), (0, .ref (zq w 13))]) zd_M_send_38 rfl (Nat.le_of_ble_eq_true rfl) rfl ?_
        refine z_iload_n O zd_M_send_39 rfl 0 rfl ?_
        refine z_iconst O (v := (-1)) zd_M_send_40 (by decide) ?_
        refine z_icmp_eq O (tgt := 73) zd_M_send_41 (by decide) (fun c7 => ?_) (fun c7 => absurd c7 (by decide))
        refine z_sub (lv' := [(0, .ref (zq w 13))]) [1] rfl ?_
        refine L_M_send_73 O hl0 ((((u3 13 5)).toInt - ((u3 13 3)).toInt).toNat + 2) u3 ko.1 (fun r11 er11 => ?_)
        have ht := ht.trans (zlet_e er11)
        have ko := ko.2 r11 er11
        refine z_aload_n O zd_M_send_109 rfl 0 rfl ?_
        refine zg_M_96_13 O zd_M_send_110 (v := .int (r11 13 3)) rfl ?_
        refine z_aload_n O zd_M_send_113 rfl 0 rfl ?_
        refine zg_M_73_13 O zd_M_send_114 (v := .int (r11 13 5)) rfl ?_
        refine z_icmp_ne O (tgt := 122) zd_M_send_117 (by decide) (fun c12 => ?_) (fun c12 => ?_)
        · have ht := ht.trans (if_neg c12)
          have ko := ko c12
          refine z_aload_n O zd_M_send_122 rfl 0 rfl ?_
          refine z_callri O hl0 (st := []) 13 6 (fs := zo13 w r11) rfl rfl (c_M_flight l w r11 ko.1) zl_M_143 zm930 zms26 rfl rfl (Nat.le_of_ble_eq_true rfl) (Nat.le_of_ble_eq_true rfl) (Nat.le_of_ble_eq_true rfl) zd_M_send_123 (fun r13 e14 => ?_)
          have ht := ht.trans (zlet_e e14)
          have ko := ko.2 r13 e14
          refine z_istore_n O (lv' := [(2, .int r13), (0, .ref (zq w 13))]) zd_M_send_126 rfl (Nat.le_of_ble_eq_true rfl) rfl ?_
          refine z_aload_n O zd_M_send_127 rfl 1 rfl ?_
          refine zg_M_96_13 O zd_M_send_128 (v := .int (r11 13 3)) rfl ?_
          refine z_istore_n O (lv' := [(3, .int (r11 13 3)), (2, .int r13), (0, .ref (zq w 13))]) zd_M_send_131 rfl (Nat.le_of_ble_eq_true rfl) rfl ?_
          refine z_aload_n O zd_M_send_132 rfl 2 rfl ?_
          refine zg_M_96_13 O zd_M_send_133 (v := .int (r11 13 3)) rfl ?_
          refine z_aload_n O zd_M_send_136 rfl 2 rfl ?_
          refine zg_M_9_13 O zd_M_send_137 (v := .int (r11 13 6)) rfl ?_
          refine z_icmp_ge O (tgt := 174) zd_M_send_140 (by decide) (fun c15 => ?_) (fun c15 => ?_)
          · have ht := ht.trans (if_pos c15)
            have ko := ko.1 c15
            refine z_aload_n O zd_M_send_174 rfl 2 rfl ?_
            refine zg_M_96_13 O zd_M_send_175 (v := .int (r11 13 3)) rfl ?_
            refine z_iconst O (v := 1) zd_M_send_178 (by decide) ?_
            refine z_iadd O zd_M_send_179 ?_
            refine z_istore O (lv' := [(4, .int ((r11 13 3) + 1)), (3, .int (r11 13 3)), (2, .int r13), (0, .ref (zq w 13))]) zd_M_send_180 (Nat.le_of_ble_eq_true rfl) rfl ?_
            refine z_iload_n O zd_M_send_182 rfl 2 rfl ?_
            refine z_if_eq O (tgt := 217) zd_M_send_183 (by decide) (fun c16 => ?_) (fun c16 => ?_)
            · have ht := ht.trans (if_pos c16)
              have ko := ko.1 c16
              refine z_iconst O (v := 1) zd_M_send_217 (by decide) ?_
              refine z_goto O (tgt := 222) zd_M_send_218 (by decide) ?_
              refine z_istore O (lv' := [(5, .int 1), (4, .int ((r11 13 3) + 1)), (3, .int (r11 13 3)), (2, .int r13), (0, .ref (zq w 13))]) zd_M_send_222 (Nat.le_of_ble_eq_true rfl) rfl ?_
              refine z_iload O zd_M_send_224 0 rfl ?_
              refine z_if_ne O (tgt := 231) zd_M_send_226 (by decide) (fun c17 => ?_) (fun c17 => absurd c17 (by decide))
              refine z_aload_n O zd_M_send_231 rfl 4 rfl ?_
              refine z_iload O zd_M_send_232 1 rfl ?_
              refine zp_M_96_13 O zd_M_send_234 ?_
              refine z_aload_n O zd_M_send_237 rfl 4 rfl ?_
              refine z_iload_n O zd_M_send_238 rfl 2 rfl ?_
              refine z_iload O zd_M_send_239 1 rfl ?_
              refine z_calli O hl0 (st := []) 13 6 (fs := zo13 w (zuf r11 13 3 ((r11 13 3) + 1))) rfl rfl (c_M_sends l w (zuf r11 13 3 ((r11 13 3) + 1)) (r11 13 3) ((r11 13 3) + 1) ko) zl_M_140 zm926 zms25 rfl rfl (Nat.le_of_ble_eq_true rfl) (Nat.le_of_ble_eq_true rfl) (Nat.le_of_ble_eq_true rfl) zd_M_send_241 (fun r18 u19 e20 => ?_)
              have ht := ht.trans (zseq_e e20)
              exact E _ _ _ _ zd_M_send_244 rfl ht.symm
            · have ht := ht.trans (if_neg c16)
              have ko := ko.2 c16
              refine z_aload_n O zd_M_send_186 rfl 3 rfl ?_
              refine zg_M_96_13 O zd_M_send_187 (v := .int (r11 13 3)) rfl ?_
              refine z_aload_n O zd_M_send_190 rfl 3 rfl ?_
              refine zg_M_9_13 O zd_M_send_191 (v := .int (r11 13 6)) rfl ?_
              refine z_icmp_ge O (tgt := 221) zd_M_send_194 (by decide) (fun c21 => ?_) (fun c21 => ?_)
              · have ht := ht.trans (if_pos c21)
                refine z_iconst O (v := 0) zd_M_send_221 (by decide) ?_
                refine z_istore O (lv' := [(5, .int 0), (4, .int ((r11 13 3) + 1)), (3, .int (r11 13 3)), (2, .int r13), (0, .ref (zq w 13))]) zd_M_send_222 (Nat.le_of_ble_eq_true rfl) rfl ?_
                refine z_iload O zd_M_send_224 0 rfl ?_
                refine z_if_ne O (tgt := 231) zd_M_send_226 (by decide) (fun c22 => absurd c22 (by decide)) (fun c22 => ?_)
                refine z_iconst O (v := 0) zd_M_send_229 (by decide) ?_
                exact E _ _ _ _ zd_M_send_230 rfl ht.symm
              · have ht := ht.trans (if_neg c21)
                have ko := ko c21
                refine z_iload_n O zd_M_send_197 rfl 2 rfl ?_
                refine z_iload O zd_M_send_198 0 rfl ?_
                refine z_iadd O zd_M_send_200 ?_
                refine z_iload_n O zd_M_send_201 rfl 1 rfl ?_
                refine z_isub O zd_M_send_202 ?_
                refine z_aload_n O zd_M_send_203 rfl 3 rfl ?_
                refine zg_M_13_13 O zd_M_send_204 (v := .int (r11 13 7)) rfl ?_
                refine z_aload_n O zd_M_send_207 rfl 3 rfl ?_
                refine zg_M_19_13 O zd_M_send_208 (v := .int (r11 13 9)) rfl ?_
                refine z_callsri O hl0 (st := [.int ((r13 + ((r11 13 3) + 1)) - (r11 13 3))]) (c_M_lesser l w r11 (r11 13 7) (r11 13 9)) zl_M_134 zm918 rfl rfl (Nat.le_of_ble_eq_true rfl) (Nat.le_of_ble_eq_true rfl) (Nat.le_of_ble_eq_true rfl) zd_M_send_211 (fun r23 e24 => ?_)
                have ht := ht.trans (zlet_e e24)
                have ko := ko r23 e24
                refine z_icmp_gt O (tgt := 221) zd_M_send_214 (by decide) (fun c25 => ?_) (fun c25 => ?_)
                · have ht := ht.trans (if_pos c25)
                  refine z_iconst O (v := 0) zd_M_send_221 (by decide) ?_
                  refine z_istore O (lv' := [(5, .int 0), (4, .int ((r11 13 3) + 1)), (3, .int (r11 13 3)), (2, .int r13), (0, .ref (zq w 13))]) zd_M_send_222 (Nat.le_of_ble_eq_true rfl) rfl ?_
                  refine z_iload O zd_M_send_224 0 rfl ?_
                  refine z_if_ne O (tgt := 231) zd_M_send_226 (by decide) (fun c26 => absurd c26 (by decide)) (fun c26 => ?_)
                  refine z_iconst O (v := 0) zd_M_send_229 (by decide) ?_
                  exact E _ _ _ _ zd_M_send_230 rfl ht.symm
                · have ht := ht.trans (if_neg c25)
                  have ko := ko c25
                  refine z_iconst O (v := 1) zd_M_send_217 (by decide) ?_
                  refine z_goto O (tgt := 222) zd_M_send_218 (by decide) ?_
                  refine z_istore O (lv' := [(5, .int 1), (4, .int ((r11 13 3) + 1)), (3, .int (r11 13 3)), (2, .int r13), (0, .ref (zq w 13))]) zd_M_send_222 (Nat.le_of_ble_eq_true rfl) rfl ?_
                  refine z_iload O zd_M_send_224 0 rfl ?_
                  refine z_if_ne O (tgt := 231) zd_M_send_226 (by decide) (fun c27 => ?_) (fun c27 => absurd c27 (by decide))
                  refine z_aload_n O zd_M_send_231 rfl 4 rfl ?_
                  refine z_iload O zd_M_send_232 1 rfl ?_
                  refine zp_M_96_13 O zd_M_send_234 ?_
                  refine z_aload_n O zd_M_send_237 rfl 4 rfl ?_
                  refine z_iload_n O zd_M_send_238 rfl 2 rfl ?_
                  refine z_iload O zd_M_send_239 1 rfl ?_
                  refine z_calli O hl0 (st := []) 13 6 (fs := zo13 w (zuf r11 13 3 ((r11 13 3) + 1))) rfl rfl (c_M_sends l w (zuf r11 13 3 ((r11 13 3) + 1)) (r11 13 3) ((r11 13 3) + 1) ko) zl_M_140 zm926 zms25 rfl rfl (Nat.le_of_ble_eq_true rfl) (Nat.le_of_ble_eq_true rfl) (Nat.le_of_ble_eq_true rfl) zd_M_send_241 (fun r28 u29 e30 => ?_)
                  have ht := ht.trans (zseq_e e30)
                  exact E _ _ _ _ zd_M_send_244 rfl ht.symm
          · have ht := ht.trans (if_neg c15)
            have ko := ko.2 c15
            refine z_aload_n O zd_M_send_143 rfl 2 rfl ?_
            refine z_aload_n O zd_M_send_144 rfl 2 rfl ?_
            refine zg_M_96_13 O zd_M_send_145 (v := .int (r11 13 3)) rfl ?_
            refine z_aload_n O zd_M_send_148 rfl 2 rfl ?_
            refine zg_M_96_13 O zd_M_send_149 (v := .int (r11 13 3)) rfl ?_
            refine z_iconst O (v := 4) zd_M_send_152 (by decide) ?_
            refine z_iadd O zd_M_send_153 ?_
            refine z_aload_n O zd_M_send_154 rfl 2 rfl ?_
            refine zg_M_73_13 O zd_M_send_155 (v := .int (r11 13 5)) rfl ?_
            refine z_aload_n O zd_M_send_158 rfl 2 rfl ?_
            refine zg_M_9_13 O zd_M_send_159 (v := .int (r11 13 6)) rfl ?_
            refine z_callsri O hl0 (st := [.int ((r11 13 3) + 4), .int (r11 13 3), .ref (zq w 13)]) (c_M_lesser l w r11 (r11 13 5) (r11 13 6)) zl_M_134 zm918 rfl rfl (Nat.le_of_ble_eq_true rfl) (Nat.le_of_ble_eq_true rfl) (Nat.le_of_ble_eq_true rfl) zd_M_send_162 (fun r31 e32 => ?_)
            have ht := ht.trans (zlet_e e32)
            have ko := ko r31 e32
            refine z_callsri O hl0 (st := [.int (r11 13 3), .ref (zq w 13)]) (c_M_lesser l w r11 ((r11 13 3) + 4) r31) zl_M_134 zm918 rfl rfl (Nat.le_of_ble_eq_true rfl) (Nat.le_of_ble_eq_true rfl) (Nat.le_of_ble_eq_true rfl) zd_M_send_165 (fun r33 e34 => ?_)
            have ht := ht.trans (zlet_e e34)
            have ko := ko r33 e34
            refine z_callri O hl0 (st := []) 13 6 (fs := zo13 w r11) rfl rfl (c_M_markOr l w r11 (r11 13 3) r33 ko.1) zl_M_137 zm922 zms24 rfl rfl (Nat.le_of_ble_eq_true rfl) (Nat.le_of_ble_eq_true rfl) (Nat.le_of_ble_eq_true rfl) zd_M_send_168 (fun r35 e36 => ?_)
            have ht := ht.trans (zlet_e e36)
            have ko := ko.2 r35 e36
            refine z_goto O (tgt := 180) zd_M_send_171 (by decide) ?_
            refine z_istore O (lv' := [(4, .int r35), (3, .int (r11 13 3)), (2, .int r13), (0, .ref (zq w 13))]) zd_M_send_180 (Nat.le_of_ble_eq_true rfl) rfl ?_
            refine z_iload_n O zd_M_send_182 rfl 2 rfl ?_
            refine z_if_eq O (tgt := 217) zd_M_send_183 (by decide) (fun c37 => ?_) (fun c37 => ?_)
            · have ht := ht.trans (if_pos c37)
              have ko := ko.1 c37
              refine z_iconst O (v := 1) zd_M_send_217 (by decide) ?_
              refine z_goto O (tgt := 222) zd_M_send_218 (by decide) ?_
              refine z_istore O (lv' := [(5, .int 1), (4, .int r35), (3, .int (r11 13 3)), (2, .int r13), (0, .ref (zq w 13))]) zd_M_send_222 (Nat.le_of_ble_eq_true rfl) rfl ?_
              refine z_iload O zd_M_send_224 0 rfl ?_
              refine z_if_ne O (tgt := 231) zd_M_send_226 (by decide) (fun c38 => ?_) (fun c38 => absurd c38 (by decide))
              refine z_aload_n O zd_M_send_231 rfl 4 rfl ?_
              refine z_iload O zd_M_send_232 1 rfl ?_
              refine zp_M_96_13 O zd_M_send_234 ?_
              refine z_aload_n O zd_M_send_237 rfl 4 rfl ?_
              refine z_iload_n O zd_M_send_238 rfl 2 rfl ?_
              refine z_iload O zd_M_send_239 1 rfl ?_
              refine z_calli O hl0 (st := []) 13 6 (fs := zo13 w (zuf r11 13 3 r35)) rfl rfl (c_M_sends l w (zuf r11 13 3 r35) (r11 13 3) r35 ko) zl_M_140 zm926 zms25 rfl rfl (Nat.le_of_ble_eq_true rfl) (Nat.le_of_ble_eq_true rfl) (Nat.le_of_ble_eq_true rfl) zd_M_send_241 (fun r39 u40 e41 => ?_)
              have ht := ht.trans (zseq_e e41)
              exact E _ _ _ _ zd_M_send_244 rfl ht.symm
            · have ht := ht.trans (if_neg c37)
              have ko := ko.2 c37
              refine z_aload_n O zd_M_send_186 rfl 3 rfl ?_
              refine zg_M_96_13 O zd_M_send_187 (v := .int (r11 13 3)) rfl ?_
              refine z_aload_n O zd_M_send_190 rfl 3 rfl ?_
              refine zg_M_9_13 O zd_M_send_191 (v := .int (r11 13 6)) rfl ?_
              refine z_icmp_ge O (tgt := 221) zd_M_send_194 (by decide) (fun c42 => ?_) (fun c42 => ?_)
              · have ht := ht.trans (if_pos c42)
                refine z_iconst O (v := 0) zd_M_send_221 (by decide) ?_
                refine z_istore O (lv' := [(5, .int 0), (4, .int r35), (3, .int (r11 13 3)), (2, .int r13), (0, .ref (zq w 13))]) zd_M_send_222 (Nat.le_of_ble_eq_true rfl) rfl ?_
                refine z_iload O zd_M_send_224 0 rfl ?_
                refine z_if_ne O (tgt := 231) zd_M_send_226 (by decide) (fun c43 => absurd c43 (by decide)) (fun c43 => ?_)
                refine z_iconst O (v := 0) zd_M_send_229 (by decide) ?_
                exact E _ _ _ _ zd_M_send_230 rfl ht.symm
              · have ht := ht.trans (if_neg c42)
                have ko := ko c42
                refine z_iload_n O zd_M_send_197 rfl 2 rfl ?_
                refine z_iload O zd_M_send_198 0 rfl ?_
                refine z_iadd O zd_M_send_200 ?_
                refine z_iload_n O zd_M_send_201 rfl 1 rfl ?_
                refine z_isub O zd_M_send_202 ?_
                refine z_aload_n O zd_M_send_203 rfl 3 rfl ?_
                refine zg_M_13_13 O zd_M_send_204 (v := .int (r11 13 7)) rfl ?_
                refine z_aload_n O zd_M_send_207 rfl 3 rfl ?_
                refine zg_M_19_13 O zd_M_send_208 (v := .int (r11 13 9)) rfl ?_
                refine z_callsri O hl0 (st := [.int ((r13 + r35) - (r11 13 3))]) (c_M_lesser l w r11 (r11 13 7) (r11 13 9)) zl_M_134 zm918 rfl rfl (Nat.le_of_ble_eq_true rfl) (Nat.le_of_ble_eq_true rfl) (Nat.le_of_ble_eq_true rfl) zd_M_send_211 (fun r44 e45 => ?_)
                have ht := ht.trans (zlet_e e45)
                have ko := ko r44 e45
                refine z_icmp_gt O (tgt := 221) zd_M_send_214 (by decide) (fun c46 => ?_) (fun c46 => ?_)
                · have ht := ht.trans (if_pos c46)
                  refine z_iconst O (v := 0) zd_M_send_221 (by decide) ?_
                  refine z_istore O (lv' := [(5, .int 0), (4, .int r35), (3, .int (r11 13 3)), (2, .int r13), (0, .ref (zq w 13))]) zd_M_send_222 (Nat.le_of_ble_eq_true rfl) rfl ?_
                  refine z_iload O zd_M_send_224 0 rfl ?_
                  refine z_if_ne O (tgt := 231) zd_M_send_226 (by decide) (fun c47 => absurd c47 (by decide)) (fun c47 => ?_)
                  refine z_iconst O (v := 0) zd_M_send_229 (by decide) ?_
                  exact E _ _ _ _ zd_M_send_230 rfl ht.symm
                · have ht := ht.trans (if_neg c46)
                  have ko := ko c46
                  refine z_iconst O (v := 1) zd_M_send_217 (by decide) ?_
                  refine z_goto O (tgt := 222) zd_M_send_218 (by decide) ?_
                  refine z_istore O (lv' := [(5, .int 1), (4, .int r35), (3, .int (r11 13 3)), (2, .int r13), (0, .ref (zq w 13))]) zd_M_send_222 (Nat.le_of_ble_eq_true rfl) rfl ?_
                  refine z_iload O zd_M_send_224 0 rfl ?_
                  refine z_if_ne O (tgt := 231) zd_M_send_226 (by decide) (fun c48 => ?_) (fun c48 => absurd c48 (by decide))
                  refine z_aload_n O zd_M_send_231 rfl 4 rfl ?_
                  refine z_iload O zd_M_send_232 1 rfl ?_
                  refine zp_M_96_13 O zd_M_send_234 ?_
                  refine z_aload_n O zd_M_send_237 rfl 4 rfl ?_
                  refine z_iload_n O zd_M_send_238 rfl 2 rfl ?_
                  refine z_iload O zd_M_send_239 1 rfl ?_
                  refine z_calli O hl0 (st := []) 13 6 (fs := zo13 w (zuf r11 13 3 r35)) rfl rfl (c_M_sends l w (zuf r11 13 3 r35) (r11 13 3) r35 ko) zl_M_140 zm926 zms25 rfl rfl (Nat.le_of_ble_eq_true rfl) (Nat.le_of_ble_eq_true rfl) (Nat.le_of_ble_eq_true rfl) zd_M_send_241 (fun r49 u50 e51 => ?_)
                  have ht := ht.trans (zseq_e e51)
                  exact E _ _ _ _ zd_M_send_244 rfl ht.symm
        · have ht := ht.trans (if_pos c12)
          refine z_iconst O (v := 0) zd_M_send_120 (by decide) ?_
          exact E _ _ _ _ zd_M_send_121 rfl ht.symm
      · have ht := ht.trans (if_neg c6)
        have ko := ko.2 c6
        refine z_aload_n O zd_M_send_30 rfl 0 rfl ?_
        refine z_callri O hl0 (st := []) 13 6 (fs := zo13 w u3) rfl rfl (c_M_hole l w u3 ko.1) zl_M_131 zm911 zms22 rfl rfl (Nat.le_of_ble_eq_true rfl) (Nat.le_of_ble_eq_true rfl) (Nat.le_of_ble_eq_true rfl) zd_M_send_31 (fun r52 e53 => ?_)
        have ht := ht.trans (zlet_e e53)
        have ko := ko.2 r52 e53
        refine z_goto O (tgt := 38) zd_M_send_34 (by decide) ?_
        refine z_istore_n O (lv' := [(1, .int r52), (0, .ref (zq w 13))]) zd_M_send_38 rfl (Nat.le_of_ble_eq_true rfl) rfl ?_
        refine z_iload_n O zd_M_send_39 rfl 0 rfl ?_
        refine z_iconst O (v := (-1)) zd_M_send_40 (by decide) ?_
        refine z_icmp_eq O (tgt := 73) zd_M_send_41 (by decide) (fun c54 => ?_) (fun c54 => ?_)
        · have ht := ht.trans (if_pos c54)
          have ko := ko.1 c54
          refine z_sub (lv' := [(0, .ref (zq w 13))]) [1] rfl ?_
          refine L_M_send_73 O hl0 ((((u3 13 5)).toInt - ((u3 13 3)).toInt).toNat + 2) u3 ko.1 (fun r55 er55 => ?_)
          have ht := ht.trans (zlet_e er55)
          have ko := ko.2 r55 er55
          refine z_aload_n O zd_M_send_109 rfl 0 rfl ?_
          refine zg_M_96_13 O zd_M_send_110 (v := .int (r55 13 3)) rfl ?_
          refine z_aload_n O zd_M_send_113 rfl 0 rfl ?_
          refine zg_M_73_13 O zd_M_send_114 (v := .int (r55 13 5)) rfl ?_
          refine z_icmp_ne O (tgt := 122) zd_M_send_117 (by decide) (fun c56 => ?_) (fun c56 => ?_)
          · have ht := ht.trans (if_neg c56)
            have ko := ko c56
            refine z_aload_n O zd_M_send_122 rfl 0 rfl ?_
            refine z_callri O hl0 (st := []) 13 6 (fs := zo13 w r55) rfl rfl (c_M_flight l w r55 ko.1) zl_M_143 zm930 zms26 rfl rfl (Nat.le_of_ble_eq_true rfl) (Nat.le_of_ble_eq_true rfl) (Nat.le_of_ble_eq_true rfl) zd_M_send_123 (fun r57 e58 => ?_)
            have ht := ht.trans (zlet_e e58)
            have ko := ko.2 r57 e58
            refine z_istore_n O (lv' := [(2, .int r57), (0, .ref (zq w 13))]) zd_M_send_126 rfl (Nat.le_of_ble_eq_true rfl) rfl ?_
            refine z_aload_n O zd_M_send_127 rfl 1 rfl ?_
            refine zg_M_96_13 O zd_M_send_128 (v := .int (r55 13 3)) rfl ?_
            refine z_istore_n O (lv' := [(3, .int (r55 13 3)), (2, .int r57), (0, .ref (zq w 13))]) zd_M_send_131 rfl (Nat.le_of_ble_eq_true rfl) rfl ?_
            refine z_aload_n O zd_M_send_132 rfl 2 rfl ?_
            refine zg_M_96_13 O zd_M_send_133 (v := .int (r55 13 3)) rfl ?_
            refine z_aload_n O zd_M_send_136 rfl 2 rfl ?_
            refine zg_M_9_13 O zd_M_send_137 (v := .int (r55 13 6)) rfl ?_
            refine z_icmp_ge O (tgt := 174) zd_M_send_140 (by decide) (fun c59 => ?_) (fun c59 => ?_)
            · have ht := ht.trans (if_pos c59)
              have ko := ko.1 c59
              refine z_aload_n O zd_M_send_174 rfl 2 rfl ?_
              refine zg_M_96_13 O zd_M_send_175 (v := .int (r55 13 3)) rfl ?_
              refine z_iconst O (v := 1) zd_M_send_178 (by decide) ?_
              refine z_iadd O zd_M_send_179 ?_
              refine z_istore O (lv' := [(4, .int ((r55 13 3) + 1)), (3, .int (r55 13 3)), (2, .int r57), (0, .ref (zq w 13))]) zd_M_send_180 (Nat.le_of_ble_eq_true rfl) rfl ?_
              refine z_iload_n O zd_M_send_182 rfl 2 rfl ?_
              refine z_if_eq O (tgt := 217) zd_M_send_183 (by decide) (fun c60 => ?_) (fun c60 => ?_)
              · have ht := ht.trans (if_pos c60)
                have ko := ko.1 c60
                refine z_iconst O (v := 1) zd_M_send_217 (by decide) ?_
                refine z_goto O (tgt := 222) zd_M_send_218 (by decide) ?_
                refine z_istore O (lv' := [(5, .int 1), (4, .int ((r55 13 3) + 1)), (3, .int (r55 13 3)), (2, .int r57), (0, .ref (zq w 13))]) zd_M_send_222 (Nat.le_of_ble_eq_true rfl) rfl ?_
                refine z_iload O zd_M_send_224 0 rfl ?_
                refine z_if_ne O (tgt := 231) zd_M_send_226 (by decide) (fun c61 => ?_) (fun c61 => absurd c61 (by decide))
                refine z_aload_n O zd_M_send_231 rfl 4 rfl ?_
                refine z_iload O zd_M_send_232 1 rfl ?_
                refine zp_M_96_13 O zd_M_send_234 ?_
                refine z_aload_n O zd_M_send_237 rfl 4 rfl ?_
                refine z_iload_n O zd_M_send_238 rfl 2 rfl ?_
                refine z_iload O zd_M_send_239 1 rfl ?_
                refine z_calli O hl0 (st := []) 13 6 (fs := zo13 w (zuf r55 13 3 ((r55 13 3) + 1))) rfl rfl (c_M_sends l w (zuf r55 13 3 ((r55 13 3) + 1)) (r55 13 3) ((r55 13 3) + 1) ko) zl_M_140 zm926 zms25 rfl rfl (Nat.le_of_ble_eq_true rfl) (Nat.le_of_ble_eq_true rfl) (Nat.le_of_ble_eq_true rfl) zd_M_send_241 (fun r62 u63 e64 => ?_)
                have ht := ht.trans (zseq_e e64)
                exact E _ _ _ _ zd_M_send_244 rfl ht.symm
              · have ht := ht.trans (if_neg c60)
                have ko := ko.2 c60
                refine z_aload_n O zd_M_send_186 rfl 3 rfl ?_
                refine zg_M_96_13 O zd_M_send_187 (v := .int (r55 13 3)) rfl ?_
                refine z_aload_n O zd_M_send_190 rfl 3 rfl ?_
                refine zg_M_9_13 O zd_M_send_191 (v := .int (r55 13 6)) rfl ?_
                refine z_icmp_ge O (tgt := 221) zd_M_send_194 (by decide) (fun c65 => ?_) (fun c65 => ?_)
                · have ht := ht.trans (if_pos c65)
                  refine z_iconst O (v := 0) zd_M_send_221 (by decide) ?_
                  refine z_istore O (lv' := [(5, .int 0), (4, .int ((r55 13 3) + 1)), (3, .int (r55 13 3)), (2, .int r57), (0, .ref (zq w 13))]) zd_M_send_222 (Nat.le_of_ble_eq_true rfl) rfl ?_
                  refine z_iload O zd_M_send_224 0 rfl ?_
                  refine z_if_ne O (tgt := 231) zd_M_send_226 (by decide) (fun c66 => absurd c66 (by decide)) (fun c66 => ?_)
                  refine z_iconst O (v := 0) zd_M_send_229 (by decide) ?_
                  exact E _ _ _ _ zd_M_send_230 rfl ht.symm
                · have ht := ht.trans (if_neg c65)
                  have ko := ko c65
                  refine z_iload_n O zd_M_send_197 rfl 2 rfl ?_
                  refine z_iload O zd_M_send_198 0 rfl ?_
                  refine z_iadd O zd_M_send_200 ?_
                  refine z_iload_n O zd_M_send_201 rfl 1 rfl ?_
                  refine z_isub O zd_M_send_202 ?_
                  refine z_aload_n O zd_M_send_203 rfl 3 rfl ?_
                  refine zg_M_13_13 O zd_M_send_204 (v := .int (r55 13 7)) rfl ?_
                  refine z_aload_n O zd_M_send_207 rfl 3 rfl ?_
                  refine zg_M_19_13 O zd_M_send_208 (v := .int (r55 13 9)) rfl ?_
                  refine z_callsri O hl0 (st := [.int ((r57 + ((r55 13 3) + 1)) - (r55 13 3))]) (c_M_lesser l w r55 (r55 13 7) (r55 13 9)) zl_M_134 zm918 rfl rfl (Nat.le_of_ble_eq_true rfl) (Nat.le_of_ble_eq_true rfl) (Nat.le_of_ble_eq_true rfl) zd_M_send_211 (fun r67 e68 => ?_)
                  have ht := ht.trans (zlet_e e68)
                  have ko := ko r67 e68
                  refine z_icmp_gt O (tgt := 221) zd_M_send_214 (by decide) (fun c69 => ?_) (fun c69 => ?_)
                  · have ht := ht.trans (if_pos c69)
                    refine z_iconst O (v := 0) zd_M_send_221 (by decide) ?_
                    refine z_istore O (lv' := [(5, .int 0), (4, .int ((r55 13 3) + 1)), (3, .int (r55 13 3)), (2, .int r57), (0, .ref (zq w 13))]) zd_M_send_222 (Nat.le_of_ble_eq_true rfl) rfl ?_
                    refine z_iload O zd_M_send_224 0 rfl ?_
                    refine z_if_ne O (tgt := 231) zd_M_send_226 (by decide) (fun c70 => absurd c70 (by decide)) (fun c70 => ?_)
                    refine z_iconst O (v := 0) zd_M_send_229 (by decide) ?_
                    exact E _ _ _ _ zd_M_send_230 rfl ht.symm
                  · have ht := ht.trans (if_neg c69)
                    have ko := ko c69
                    refine z_iconst O (v := 1) zd_M_send_217 (by decide) ?_
                    refine z_goto O (tgt := 222) zd_M_send_218 (by decide) ?_
                    refine z_istore O (lv' := [(5, .int 1), (4, .int ((r55 13 3) + 1)), (3, .int (r55 13 3)), (2, .int r57), (0, .ref (zq w 13))]) zd_M_send_222 (Nat.le_of_ble_eq_true rfl) rfl ?_
                    refine z_iload O zd_M_send_224 0 rfl ?_
                    refine z_if_ne O (tgt := 231) zd_M_send_226 (by decide) (fun c71 => ?_) (fun c71 => absurd c71 (by decide))
                    refine z_aload_n O zd_M_send_231 rfl 4 rfl ?_
                    refine z_iload O zd_M_send_232 1 rfl ?_
                    refine zp_M_96_13 O zd_M_send_234 ?_
                    refine z_aload_n O zd_M_send_237 rfl 4 rfl ?_
                    refine z_iload_n O zd_M_send_238 rfl 2 rfl ?_
                    refine z_iload O zd_M_send_239 1 rfl ?_
                    refine z_calli O hl0 (st := []) 13 6 (fs := zo13 w (zuf r55 13 3 ((r55 13 3) + 1))) rfl rfl (c_M_sends l w (zuf r55 13 3 ((r55 13 3) + 1)) (r55 13 3) ((r55 13 3) + 1) ko) zl_M_140 zm926 zms25 rfl rfl (Nat.le_of_ble_eq_true rfl) (Nat.le_of_ble_eq_true rfl) (Nat.le_of_ble_eq_true rfl) zd_M_send_241 (fun r72 u73 e74 => ?_)
                    have ht := ht.trans (zseq_e e74)
                    exact E _ _ _ _ zd_M_send_244 rfl ht.symm
            · have ht := ht.trans (if_neg c59)
              have ko := ko.2 c59
              refine z_aload_n O zd_M_send_143 rfl 2 rfl ?_
              refine z_aload_n O zd_M_send_144 rfl 2 rfl ?_
              refine zg_M_96_13 O zd_M_send_145 (v := .int (r55 13 3)) rfl ?_
              refine z_aload_n O zd_M_send_148 rfl 2 rfl ?_
              refine zg_M_96_13 O zd_M_send_149 (v := .int (r55 13 3)) rfl ?_
              refine z_iconst O (v := 4) zd_M_send_152 (by decide) ?_
              refine z_iadd O zd_M_send_153 ?_
              refine z_aload_n O zd_M_send_154 rfl 2 rfl ?_
              refine zg_M_73_13 O zd_M_send_155 (v := .int (r55 13 5)) rfl ?_
              refine z_aload_n O zd_M_send_158 rfl 2 rfl ?_
              refine zg_M_9_13 O zd_M_send_159 (v := .int (r55 13 6)) rfl ?_
              refine z_callsri O hl0 (st := [.int ((r55 13 3) + 4), .int (r55 13 3), .ref (zq w 13)]) (c_M_lesser l w r55 (r55 13 5) (r55 13 6)) zl_M_134 zm918 rfl rfl (Nat.le_of_ble_eq_true rfl) (Nat.le_of_ble_eq_true rfl) (Nat.le_of_ble_eq_true rfl) zd_M_send_162 (fun r75 e76 => ?_)
              have ht := ht.trans (zlet_e e76)
              have ko := ko r75 e76
              refine z_callsri O hl0 (st := [.int (r55 13 3), .ref (zq w 13)]) (c_M_lesser l w r55 ((r55 13 3) + 4) r75) zl_M_134 zm918 rfl rfl (Nat.le_of_ble_eq_true rfl) (Nat.le_of_ble_eq_true rfl) (Nat.le_of_ble_eq_true rfl) zd_M_send_165 (fun r77 e78 => ?_)
              have ht := ht.trans (zlet_e e78)
              have ko := ko r77 e78
              refine z_callri O hl0 (st := []) 13 6 (fs := zo13 w r55) rfl rfl (c_M_markOr l w r55 (r55 13 3) r77 ko.1) zl_M_137 zm922 zms24 rfl rfl (Nat.le_of_ble_eq_true rfl) (Nat.le_of_ble_eq_true rfl) (Nat.le_of_ble_eq_true rfl) zd_M_send_168 (fun r79 e80 => ?_)
              have ht := ht.trans (zlet_e e80)
              have ko := ko.2 r79 e80
              refine z_goto O (tgt := 180) zd_M_send_171 (by decide) ?_
              refine z_istore O (lv' := [(4, .int r79), (3, .int (r55 13 3)), (2, .int r57), (0, .ref (zq w 13))]) zd_M_send_180 (Nat.le_of_ble_eq_true rfl) rfl ?_
              refine z_iload_n O zd_M_send_182 rfl 2 rfl ?_
              refine z_if_eq O (tgt := 217) zd_M_send_183 (by decide) (fun c81 => ?_) (fun c81 => ?_)
              · have ht := ht.trans (if_pos c81)
                have ko := ko.1 c81
                refine z_iconst O (v := 1) zd_M_send_217 (by decide) ?_
                refine z_goto O (tgt := 222) zd_M_send_218 (by decide) ?_
                refine z_istore O (lv' := [(5, .int 1), (4, .int r79), (3, .int (r55 13 3)), (2, .int r57), (0, .ref (zq w 13))]) zd_M_send_222 (Nat.le_of_ble_eq_true rfl) rfl ?_
                refine z_iload O zd_M_send_224 0 rfl ?_
                refine z_if_ne O (tgt := 231) zd_M_send_226 (by decide) (fun c82 => ?_) (fun c82 => absurd c82 (by decide))
                refine z_aload_n O zd_M_send_231 rfl 4 rfl ?_
                refine z_iload O zd_M_send_232 1 rfl ?_
                refine zp_M_96_13 O zd_M_send_234 ?_
                refine z_aload_n O zd_M_send_237 rfl 4 rfl ?_
                refine z_iload_n O zd_M_send_238 rfl 2 rfl ?_
                refine z_iload O zd_M_send_239 1 rfl ?_
                refine z_calli O hl0 (st := []) 13 6 (fs := zo13 w (zuf r55 13 3 r79)) rfl rfl (c_M_sends l w (zuf r55 13 3 r79) (r55 13 3) r79 ko) zl_M_140 zm926 zms25 rfl rfl (Nat.le_of_ble_eq_true rfl) (Nat.le_of_ble_eq_true rfl) (Nat.le_of_ble_eq_true rfl) zd_M_send_241 (fun r83 u84 e85 => ?_)
                have ht := ht.trans (zseq_e e85)
                exact E _ _ _ _ zd_M_send_244 rfl ht.symm
              · have ht := ht.trans (if_neg c81)
                have ko := ko.2 c81
                refine z_aload_n O zd_M_send_186 rfl 3 rfl ?_
                refine zg_M_96_13 O zd_M_send_187 (v := .int (r55 13 3)) rfl ?_
                refine z_aload_n O zd_M_send_190 rfl 3 rfl ?_
                refine zg_M_9_13 O zd_M_send_191 (v := .int (r55 13 6)) rfl ?_
                refine z_icmp_ge O (tgt := 221) zd_M_send_194 (by decide) (fun c86 => ?_) (fun c86 => ?_)
                · have ht := ht.trans (if_pos c86)
                  refine z_iconst O (v := 0) zd_M_send_221 (by decide) ?_
                  refine z_istore O (lv' := [(5, .int 0), (4, .int r79), (3, .int (r55 13 3)), (2, .int r57), (0, .ref (zq w 13))]) zd_M_send_222 (Nat.le_of_ble_eq_true rfl) rfl ?_
                  refine z_iload O zd_M_send_224 0 rfl ?_
                  refine z_if_ne O (tgt := 231) zd_M_send_226 (by decide) (fun c87 => absurd c87 (by decide)) (fun c87 => ?_)
                  refine z_iconst O (v := 0) zd_M_send_229 (by decide) ?_
                  exact E _ _ _ _ zd_M_send_230 rfl ht.symm
                · have ht := ht.trans (if_neg c86)
                  have ko := ko c86
                  refine z_iload_n O zd_M_send_197 rfl 2 rfl ?_
                  refine z_iload O zd_M_send_198 0 rfl ?_
                  refine z_iadd O zd_M_send_200 ?_
                  refine z_iload_n O zd_M_send_201 rfl 1 rfl ?_
                  refine z_isub O zd_M_send_202 ?_
                  refine z_aload_n O zd_M_send_203 rfl 3 rfl ?_
                  refine zg_M_13_13 O zd_M_send_204 (v := .int (r55 13 7)) rfl ?_
                  refine z_aload_n O zd_M_send_207 rfl 3 rfl ?_
                  refine zg_M_19_13 O zd_M_send_208 (v := .int (r55 13 9)) rfl ?_
                  refine z_callsri O hl0 (st := [.int ((r57 + r79) - (r55 13 3))]) (c_M_lesser l w r55 (r55 13 7) (r55 13 9)) zl_M_134 zm918 rfl rfl (Nat.le_of_ble_eq_true rfl) (Nat.le_of_ble_eq_true rfl) (Nat.le_of_ble_eq_true rfl) zd_M_send_211 (fun r88 e89 => ?_)
                  have ht := ht.trans (zlet_e e89)
                  have ko := ko r88 e89
                  refine z_icmp_gt O (tgt := 221) zd_M_send_214 (by decide) (fun c90 => ?_) (fun c90 => ?_)
                  · have ht := ht.trans (if_pos c90)
                    refine z_iconst O (v := 0) zd_M_send_221 (by decide) ?_
                    refine z_istore O (lv' := [(5, .int 0), (4, .int r79), (3, .int (r55 13 3)), (2, .int r57), (0, .ref (zq w 13))]) zd_M_send_222 (Nat.le_of_ble_eq_true rfl) rfl ?_
                    refine z_iload O zd_M_send_224 0 rfl ?_
                    refine z_if_ne O (tgt := 231) zd_M_send_226 (by decide) (fun c91 => absurd c91 (by decide)) (fun c91 => ?_)
                    refine z_iconst O (v := 0) zd_M_send_229 (by decide) ?_
                    exact E _ _ _ _ zd_M_send_230 rfl ht.symm
                  · have ht := ht.trans (if_neg c90)
                    have ko := ko c90
                    refine z_iconst O (v := 1) zd_M_send_217 (by decide) ?_
                    refine z_goto O (tgt := 222) zd_M_send_218 (by decide) ?_
                    refine z_istore O (lv' := [(5, .int 1), (4, .int r79), (3, .int (r55 13 3)), (2, .int r57), (0, .ref (zq w 13))]) zd_M_send_222 (Nat.le_of_ble_eq_true rfl) rfl ?_
                    refine z_iload O zd_M_send_224 0 rfl ?_
                    refine z_if_ne O (tgt := 231) zd_M_send_226 (by decide) (fun c92 => ?_) (fun c92 => absurd c92 (by decide))
                    refine z_aload_n O zd_M_send_231 rfl 4 rfl ?_
                    refine z_iload O zd_M_send_232 1 rfl ?_
                    refine zp_M_96_13 O zd_M_send_234 ?_
                    refine z_aload_n O zd_M_send_237 rfl 4 rfl ?_
                    refine z_iload_n O zd_M_send_238 rfl 2 rfl ?_
                    refine z_iload O zd_M_send_239 1 rfl ?_
                    refine z_calli O hl0 (st := []) 13 6 (fs := zo13 w (zuf r55 13 3 r79)) rfl rfl (c_M_sends l w (zuf r55 13 3 r79) (r55 13 3) r79 ko) zl_M_140 zm926 zms25 rfl rfl (Nat.le_of_ble_eq_true rfl) (Nat.le_of_ble_eq_true rfl) (Nat.le_of_ble_eq_true rfl) zd_M_send_241 (fun r93 u94 e95 => ?_)
                    have ht := ht.trans (zseq_e e95)
                    exact E _ _ _ _ zd_M_send_244 rfl ht.symm
          · have ht := ht.trans (if_pos c56)
            refine z_iconst O (v := 0) zd_M_send_120 (by decide) ?_
            exact E _ _ _ _ zd_M_send_121 rfl ht.symm
        · have ht := ht.trans (if_neg c54)
          have ko := ko.2 c54
          refine z_aload_n O zd_M_send_44 rfl 1 rfl ?_
          refine z_aload_n O zd_M_send_45 rfl 1 rfl ?_
          refine z_iload_n O zd_M_send_46 rfl 0 rfl ?_
          refine z_iload_n O zd_M_send_47 rfl 0 rfl ?_
          refine z_iconst O (v := 4) zd_M_send_48 (by decide) ?_
          refine z_iadd O zd_M_send_49 ?_
          refine z_aload_n O zd_M_send_50 rfl 1 rfl ?_
          refine zg_M_96_13 O zd_M_send_51 (v := .int (u3 13 3)) rfl ?_
          refine z_callsri O hl0 (st := [.int r52, .ref (zq w 13), .ref (zq w 13)]) (c_M_lesser l w u3 (r52 + 4) (u3 13 3)) zl_M_134 zm918 rfl rfl (Nat.le_of_ble_eq_true rfl) (Nat.le_of_ble_eq_true rfl) (Nat.le_of_ble_eq_true rfl) zd_M_send_54 (fun r96 e97 => ?_)
          have ht := ht.trans (zlet_e e97)
          have ko := ko r96 e97
          refine z_callri O hl0 (st := [.ref (zq w 13)]) 13 6 (fs := zo13 w u3) rfl rfl (c_M_markOr l w u3 r52 r96 ko.1) zl_M_137 zm922 zms24 rfl rfl (Nat.le_of_ble_eq_true rfl) (Nat.le_of_ble_eq_true rfl) (Nat.le_of_ble_eq_true rfl) zd_M_send_57 (fun r98 e99 => ?_)
          have ht := ht.trans (zlet_e e99)
          have ko := ko.2 r98 e99
          refine zp_M_99_13 O zd_M_send_60 ?_
          refine z_aload_n O zd_M_send_63 rfl 1 rfl ?_
          refine z_iload_n O zd_M_send_64 rfl 0 rfl ?_
          refine z_aload_n O zd_M_send_65 rfl 1 rfl ?_
          refine zg_M_99_13 O zd_M_send_66 (v := .int r98) rfl ?_
          refine z_calli O hl0 (st := []) 13 6 (fs := zo13 w (zuf u3 13 12 r98)) rfl rfl (c_M_sends l w (zuf u3 13 12 r98) r52 r98 ko) zl_M_140 zm926 zms25 rfl rfl (Nat.le_of_ble_eq_true rfl) (Nat.le_of_ble_eq_true rfl) (Nat.le_of_ble_eq_true rfl) zd_M_send_69 (fun r100 u101 e102 => ?_)
          have ht := ht.trans (zseq_e e102)
          exact E _ _ _ _ zd_M_send_72 rfl ht.symm
    · have ht := ht.trans (if_pos c5)
      refine z_iconst O (v := 0) zd_M_send_21 (by decide) ?_
      exact E _ _ _ _ zd_M_send_22 rfl ht.symm
  · have ht := ht.trans (if_pos c1)
    have ko := ko.1 c1
    refine z_iconst O (v := 1) zd_M_send_10 (by decide) ?_
    refine z_goto O (tgt := 15) zd_M_send_11 (by decide) ?_
    refine z_calli O hl0 (st := []) 13 6 (fs := zo13 w σ) rfl rfl (c_M_isFine l w σ 1) zl_M_76 zm868 zms15 rfl rfl (Nat.le_of_ble_eq_true rfl) (Nat.le_of_ble_eq_true rfl) (Nat.le_of_ble_eq_true rfl) zd_M_send_15 (fun r103 u104 e105 => ?_)
    have ht := ht.trans (zseq_e e105)
    have ko := ko r103 u104 e105
    refine z_if_ne O (tgt := 23) zd_M_send_18 (by decide) (fun c106 => ?_) (fun c106 => ?_)
    · have ht := ht.trans (if_neg c106)
      have ko := ko c106
      refine z_aload_n O zd_M_send_23 rfl 0 rfl ?_
      refine zg_M_127_13 O zd_M_send_24 (v := .int (u104 13 10)) rfl ?_
      refine z_if_eq O (tgt := 37) zd_M_send_27 (by decide) (fun c107 => ?_) (fun c107 => ?_)
      · have ht := ht.trans (if_pos c107)
        have ko := ko.1 c107
        refine z_iconst O (v := (-1)) zd_M_send_37 (by decide) ?_
        refine z_istore_n O (lv' := [(1, .int (-1)), (0, .ref (zq w 13))]) zd_M_send_38 rfl (Nat.le_of_ble_eq_true rfl) rfl ?_
        refine z_iload_n O zd_M_send_39 rfl 0 rfl ?_
        refine z_iconst O (v := (-1)) zd_M_send_40 (by decide) ?_
        refine z_icmp_eq O (tgt := 73) zd_M_send_41 (by decide) (fun c108 => ?_) (fun c108 => absurd c108 (by decide))
        refine z_sub (lv' := [(0, .ref (zq w 13))]) [1] rfl ?_
        refine L_M_send_73 O hl0 ((((u104 13 5)).toInt - ((u104 13 3)).toInt).toNat + 2) u104 ko.1 (fun r109 er109 => ?_)
        have ht := ht.trans (zlet_e er109)
        have ko := ko.2 r109 er109
        refine z_aload_n O zd_M_send_109 rfl 0 rfl ?_
        refine zg_M_96_13 O zd_M_send_110 (v := .int (r109 13 3)) rfl ?_
        refine z_aload_n O zd_M_send_113 rfl 0 rfl ?_
        refine zg_M_73_13 O zd_M_send_114 (v := .int (r109 13 5)) rfl ?_
        refine z_icmp_ne O (tgt := 122) zd_M_send_117 (by decide) (fun c110 => ?_) (fun c110 => ?_)
        · have ht := ht.trans (if_neg c110)
          have ko := ko c110
          refine z_aload_n O zd_M_send_122 rfl 0 rfl ?_
          refine z_callri O hl0 (st := []) 13 6 (fs := zo13 w r109) rfl rfl (c_M_flight l w r109 ko.1) zl_M_143 zm930 zms26 rfl rfl (Nat.le_of_ble_eq_true rfl) (Nat.le_of_ble_eq_true rfl) (Nat.le_of_ble_eq_true rfl) zd_M_send_123 (fun r111 e112 => ?_)
          have ht := ht.trans (zlet_e e112)
          have ko := ko.2 r111 e112
          refine z_istore_n O (lv' := [(2, .int r111), (0, .ref (zq w 13))]) zd_M_send_126 rfl (Nat.le_of_ble_eq_true rfl) rfl ?_
          refine z_aload_n O zd_M_send_127 rfl 1 rfl ?_
          refine zg_M_96_13 O zd_M_send_128 (v := .int (r109 13 3)) rfl ?_
          refine z_istore_n O (lv' := [(3, .int (r109 13 3)), (2, .int r111), (0, .ref (zq w 13))]) zd_M_send_131 rfl (Nat.le_of_ble_eq_true rfl) rfl ?_
          refine z_aload_n O zd_M_send_132 rfl 2 rfl ?_
          refine zg_M_96_13 O zd_M_send_133 (v := .int (r109 13 3)) rfl ?_
          refine z_aload_n O zd_M_send_136 rfl 2 rfl ?_
          refine zg_M_9_13 O zd_M_send_137 (v := .int (r109 13 6)) rfl ?_
          refine z_icmp_ge O (tgt := 174) zd_M_send_140 (by decide) (fun c113 => ?_) (fun c113 => ?_)
          · have ht := ht.trans (if_pos c113)
            have ko := ko.1 c113
            refine z_aload_n O zd_M_send_174 rfl 2 rfl ?_
            refine zg_M_96_13 O zd_M_send_175 (v := .int (r109 13 3)) rfl ?_
            refine z_iconst O (v := 1) zd_M_send_178 (by decide) ?_
            refine z_iadd O zd_M_send_179 ?_
            refine z_istore O (lv' := [(4, .int ((r109 13 3) + 1)), (3, .int (r109 13 3)), (2, .int r111), (0, .ref (zq w 13))]) zd_M_send_180 (Nat.le_of_ble_eq_true rfl) rfl ?_
            refine z_iload_n O zd_M_send_182 rfl 2 rfl ?_
            refine z_if_eq O (tgt := 217) zd_M_send_183 (by decide) (fun c114 => ?_) (fun c114 => ?_)
            · have ht := ht.trans (if_pos c114)
              have ko := ko.1 c114
              refine z_iconst O (v := 1) zd_M_send_217 (by decide) ?_
              refine z_goto O (tgt := 222) zd_M_send_218 (by decide) ?_
              refine z_istore O (lv' := [(5, .int 1), (4, .int ((r109 13 3) + 1)), (3, .int (r109 13 3)), (2, .int r111), (0, .ref (zq w 13))]) zd_M_send_222 (Nat.le_of_ble_eq_true rfl) rfl ?_
              refine z_iload O zd_M_send_224 0 rfl ?_
              refine z_if_ne O (tgt := 231) zd_M_send_226 (by decide) (fun c115 => ?_) (fun c115 => absurd c115 (by decide))
              refine z_aload_n O zd_M_send_231 rfl 4 rfl ?_
              refine z_iload O zd_M_send_232 1 rfl ?_
              refine zp_M_96_13 O zd_M_send_234 ?_
              refine z_aload_n O zd_M_send_237 rfl 4 rfl ?_
              refine z_iload_n O zd_M_send_238 rfl 2 rfl ?_
              refine z_iload O zd_M_send_239 1 rfl ?_
              refine z_calli O hl0 (st := []) 13 6 (fs := zo13 w (zuf r109 13 3 ((r109 13 3) + 1))) rfl rfl (c_M_sends l w (zuf r109 13 3 ((r109 13 3) + 1)) (r109 13 3) ((r109 13 3) + 1) ko) zl_M_140 zm926 zms25 rfl rfl (Nat.le_of_ble_eq_true rfl) (Nat.le_of_ble_eq_true rfl) (Nat.le_of_ble_eq_true rfl) zd_M_send_241 (fun r116 u117 e118 => ?_)
              have ht := ht.trans (zseq_e e118)
              exact E _ _ _ _ zd_M_send_244 rfl ht.symm
            · have ht := ht.trans (if_neg c114)
              have ko := ko.2 c114
              refine z_aload_n O zd_M_send_186 rfl 3 rfl ?_
              refine zg_M_96_13 O zd_M_send_187 (v := .int (r109 13 3)) rfl ?_
              refine z_aload_n O zd_M_send_190 rfl 3 rfl ?_
              refine zg_M_9_13 O zd_M_send_191 (v := .int (r109 13 6)) rfl ?_
              refine z_icmp_ge O (tgt := 221) zd_M_send_194 (by decide) (fun c119 => ?_) (fun c119 => ?_)
              · have ht := ht.trans (if_pos c119)
                refine z_iconst O (v := 0) zd_M_send_221 (by decide) ?_
                refine z_istore O (lv' := [(5, .int 0), (4, .int ((r109 13 3) + 1)), (3, .int (r109 13 3)), (2, .int r111), (0, .ref (zq w 13))]) zd_M_send_222 (Nat.le_of_ble_eq_true rfl) rfl ?_
                refine z_iload O zd_M_send_224 0 rfl ?_
                refine z_if_ne O (tgt := 231) zd_M_send_226 (by decide) (fun c120 => absurd c120 (by decide)) (fun c120 => ?_)
                refine z_iconst O (v := 0) zd_M_send_229 (by decide) ?_
                exact E _ _ _ _ zd_M_send_230 rfl ht.symm
              · have ht := ht.trans (if_neg c119)
                have ko := ko c119
                refine z_iload_n O zd_M_send_197 rfl 2 rfl ?_
                refine z_iload O zd_M_send_198 0 rfl ?_
                refine z_iadd O zd_M_send_200 ?_
                refine z_iload_n O zd_M_send_201 rfl 1 rfl ?_
                refine z_isub O zd_M_send_202 ?_
                refine z_aload_n O zd_M_send_203 rfl 3 rfl ?_
                refine zg_M_13_13 O zd_M_send_204 (v := .int (r109 13 7)) rfl ?_
                refine z_aload_n O zd_M_send_207 rfl 3 rfl ?_
                refine zg_M_19_13 O zd_M_send_208 (v := .int (r109 13 9)) rfl ?_
                refine z_callsri O hl0 (st := [.int ((r111 + ((r109 13 3) + 1)) - (r109 13 3))]) (c_M_lesser l w r109 (r109 13 7) (r109 13 9)) zl_M_134 zm918 rfl rfl (Nat.le_of_ble_eq_true rfl) (Nat.le_of_ble_eq_true rfl) (Nat.le_of_ble_eq_true rfl) zd_M_send_211 (fun r121 e122 => ?_)
                have ht := ht.trans (zlet_e e122)
                have ko := ko r121 e122
                refine z_icmp_gt O (tgt := 221) zd_M_send_214 (by decide) (fun c123 => ?_) (fun c123 => ?_)
                · have ht := ht.trans (if_pos c123)
                  refine z_iconst O (v := 0) zd_M_send_221 (by decide) ?_
                  refine z_istore O (lv' := [(5, .int 0), (4, .int ((r109 13 3) + 1)), (3, .int (r109 13 3)), (2, .int r111), (0, .ref (zq w 13))]) zd_M_send_222 (Nat.le_of_ble_eq_true rfl) rfl ?_
                  refine z_iload O zd_M_send_224 0 rfl ?_
                  refine z_if_ne O (tgt := 231) zd_M_send_226 (by decide) (fun c124 => absurd c124 (by decide)) (fun c124 => ?_)
                  refine z_iconst O (v := 0) zd_M_send_229 (by decide) ?_
                  exact E _ _ _ _ zd_M_send_230 rfl ht.symm
                · have ht := ht.trans (if_neg c123)
                  have ko := ko c123
                  refine z_iconst O (v := 1) zd_M_send_217 (by decide) ?_
                  refine z_goto O (tgt := 222) zd_M_send_218 (by decide) ?_
                  refine z_istore O (lv' := [(5, .int 1), (4, .int ((r109 13 3) + 1)), (3, .int (r109 13 3)), (2, .int r111), (0, .ref (zq w 13))]) zd_M_send_222 (Nat.le_of_ble_eq_true rfl) rfl ?_
                  refine z_iload O zd_M_send_224 0 rfl ?_
                  refine z_if_ne O (tgt := 231) zd_M_send_226 (by decide) (fun c125 => ?_) (fun c125 => absurd c125 (by decide))
                  refine z_aload_n O zd_M_send_231 rfl 4 rfl ?_
                  refine z_iload O zd_M_send_232 1 rfl ?_
                  refine zp_M_96_13 O zd_M_send_234 ?_
                  refine z_aload_n O zd_M_send_237 rfl 4 rfl ?_
                  refine z_iload_n O zd_M_send_238 rfl 2 rfl ?_
                  refine z_iload O zd_M_send_239 1 rfl ?_
                  refine z_calli O hl0 (st := []) 13 6 (fs := zo13 w (zuf r109 13 3 ((r109 13 3) + 1))) rfl rfl (c_M_sends l w (zuf r109 13 3 ((r109 13 3) + 1)) (r109 13 3) ((r109 13 3) + 1) ko) zl_M_140 zm926 zms25 rfl rfl (Nat.le_of_ble_eq_true rfl) (Nat.le_of_ble_eq_true rfl) (Nat.le_of_ble_eq_true rfl) zd_M_send_241 (fun r126 u127 e128 => ?_)
                  have ht := ht.trans (zseq_e e128)
                  exact E _ _ _ _ zd_M_send_244 rfl ht.symm
          · have ht := ht.trans (if_neg c113)
            have ko := ko.2 c113
            refine z_aload_n O zd_M_send_143 rfl 2 rfl ?_
            refine z_aload_n O zd_M_send_144 rfl 2 rfl ?_
            refine zg_M_96_13 O zd_M_send_145 (v := .int (r109 13 3)) rfl ?_
            refine z_aload_n O zd_M_send_148 rfl 2 rfl ?_
            refine zg_M_96_13 O zd_M_send_149 (v := .int (r109 13 3)) rfl ?_
            refine z_iconst O (v := 4) zd_M_send_152 (by decide) ?_
            refine z_iadd O zd_M_send_153 ?_
            refine z_aload_n O zd_M_send_154 rfl 2 rfl ?_
            refine zg_M_73_13 O zd_M_send_155 (v := .int (r109 13 5)) rfl ?_
            refine z_aload_n O zd_M_send_158 rfl 2 rfl ?_
            refine zg_M_9_13 O zd_M_send_159 (v := .int (r109 13 6)) rfl ?_
            refine z_callsri O hl0 (st := [.int ((r109 13 3) + 4), .int (r109 13 3), .ref (zq w 13)]) (c_M_lesser l w r109 (r109 13 5) (r109 13 6)) zl_M_134 zm918 rfl rfl (Nat.le_of_ble_eq_true rfl) (Nat.le_of_ble_eq_true rfl) (Nat.le_of_ble_eq_true rfl) zd_M_send_162 (fun r129 e130 => ?_)
            have ht := ht.trans (zlet_e e130)
            have ko := ko r129 e130
            refine z_callsri O hl0 (st := [.int (r109 13 3), .ref (zq w 13)]) (c_M_lesser l w r109 ((r109 13 3) + 4) r129) zl_M_134 zm918 rfl rfl (Nat.le_of_ble_eq_true rfl) (Nat.le_of_ble_eq_true rfl) (Nat.le_of_ble_eq_true rfl) zd_M_send_165 (fun r131 e132 => ?_)
            have ht := ht.trans (zlet_e e132)
            have ko := ko r131 e132
            refine z_callri O hl0 (st := []) 13 6 (fs := zo13 w r109) rfl rfl (c_M_markOr l w r109 (r109 13 3) r131 ko.1) zl_M_137 zm922 zms24 rfl rfl (Nat.le_of_ble_eq_true rfl) (Nat.le_of_ble_eq_true rfl) (Nat.le_of_ble_eq_true rfl) zd_M_send_168 (fun r133 e134 => ?_)
            have ht := ht.trans (zlet_e e134)
            have ko := ko.2 r133 e134
            refine z_goto O (tgt := 180) zd_M_send_171 (by decide) ?_
            refine z_istore O (lv' := [(4, .int r133), (3, .int (r109 13 3)), (2, .int r111), (0, .ref (zq w 13))]) zd_M_send_180 (Nat.le_of_ble_eq_true rfl) rfl ?_
            refine z_iload_n O zd_M_send_182 rfl 2 rfl ?_
            refine z_if_eq O (tgt := 217) zd_M_send_183 (by decide) (fun c135 => ?_) (fun c135 => ?_)
            · have ht := ht.trans (if_pos c135)
              have ko := ko.1 c135
              refine z_iconst O (v := 1) zd_M_send_217 (by decide) ?_
              refine z_goto O (tgt := 222) zd_M_send_218 (by decide) ?_
              refine z_istore O (lv' := [(5, .int 1), (4, .int r133), (3, .int (r109 13 3)), (2, .int r111), (0, .ref (zq w 13))]) zd_M_send_222 (Nat.le_of_ble_eq_true rfl) rfl ?_
              refine z_iload O zd_M_send_224 0 rfl ?_
              refine z_if_ne O (tgt := 231) zd_M_send_226 (by decide) (fun c136 => ?_) (fun c136 => absurd c136 (by decide))
              refine z_aload_n O zd_M_send_231 rfl 4 rfl ?_
              refine z_iload O zd_M_send_232 1 rfl ?_
              refine zp_M_96_13 O zd_M_send_234 ?_
              refine z_aload_n O zd_M_send_237 rfl 4 rfl ?_
              refine z_iload_n O zd_M_send_238 rfl 2 rfl ?_
              refine z_iload O zd_M_send_239 1 rfl ?_
              refine z_calli O hl0 (st := []) 13 6 (fs := zo13 w (zuf r109 13 3 r133)) rfl rfl (c_M_sends l w (zuf r109 13 3 r133) (r109 13 3) r133 ko) zl_M_140 zm926 zms25 rfl rfl (Nat.le_of_ble_eq_true rfl) (Nat.le_of_ble_eq_true rfl) (Nat.le_of_ble_eq_true rfl) zd_M_send_241 (fun r137 u138 e139 => ?_)
              have ht := ht.trans (zseq_e e139)
              exact E _ _ _ _ zd_M_send_244 rfl ht.symm
            · have ht := ht.trans (if_neg c135)
              have ko := ko.2 c135
              refine z_aload_n O zd_M_send_186 rfl 3 rfl ?_
              refine zg_M_96_13 O zd_M_send_187 (v := .int (r109 13 3)) rfl ?_
              refine z_aload_n O zd_M_send_190 rfl 3 rfl ?_
              refine zg_M_9_13 O zd_M_send_191 (v := .int (r109 13 6)) rfl ?_
              refine z_icmp_ge O (tgt := 221) zd_M_send_194 (by decide) (fun c140 => ?_) (fun c140 => ?_)
              · have ht := ht.trans (if_pos c140)
                refine z_iconst O (v := 0) zd_M_send_221 (by decide) ?_
                refine z_istore O (lv' := [(5, .int 0), (4, .int r133), (3, .int (r109 13 3)), (2, .int r111), (0, .ref (zq w 13))]) zd_M_send_222 (Nat.le_of_ble_eq_true rfl) rfl ?_
                refine z_iload O zd_M_send_224 0 rfl ?_
                refine z_if_ne O (tgt := 231) zd_M_send_226 (by decide) (fun c141 => absurd c141 (by decide)) (fun c141 => ?_)
                refine z_iconst O (v := 0) zd_M_send_229 (by decide) ?_
                exact E _ _ _ _ zd_M_send_230 rfl ht.symm
              · have ht := ht.trans (if_neg c140)
                have ko := ko c140
                refine z_iload_n O zd_M_send_197 rfl 2 rfl ?_
                refine z_iload O zd_M_send_198 0 rfl ?_
                refine z_iadd O zd_M_send_200 ?_
                refine z_iload_n O zd_M_send_201 rfl 1 rfl ?_
                refine z_isub O zd_M_send_202 ?_
                refine z_aload_n O zd_M_send_203 rfl 3 rfl ?_
                refine zg_M_13_13 O zd_M_send_204 (v := .int (r109 13 7)) rfl ?_
                refine z_aload_n O zd_M_send_207 rfl 3 rfl ?_
                refine zg_M_19_13 O zd_M_send_208 (v := .int (r109 13 9)) rfl ?_
                refine z_callsri O hl0 (st := [.int ((r111 + r133) - (r109 13 3))]) (c_M_lesser l w r109 (r109 13 7) (r109 13 9)) zl_M_134 zm918 rfl rfl (Nat.le_of_ble_eq_true rfl) (Nat.le_of_ble_eq_true rfl) (Nat.le_of_ble_eq_true rfl) zd_M_send_211 (fun r142 e143 => ?_)
                have ht := ht.trans (zlet_e e143)
                have ko := ko r142 e143
                refine z_icmp_gt O (tgt := 221) zd_M_send_214 (by decide) (fun c144 => ?_) (fun c144 => ?_)
                · have ht := ht.trans (if_pos c144)
                  refine z_iconst O (v := 0) zd_M_send_221 (by decide) ?_
                  refine z_istore O (lv' := [(5, .int 0), (4, .int r133), (3, .int (r109 13 3)), (2, .int r111), (0, .ref (zq w 13))]) zd_M_send_222 (Nat.le_of_ble_eq_true rfl) rfl ?_
                  refine z_iload O zd_M_send_224 0 rfl ?_
                  refine z_if_ne O (tgt := 231) zd_M_send_226 (by decide) (fun c145 => absurd c145 (by decide)) (fun c145 => ?_)
                  refine z_iconst O (v := 0) zd_M_send_229 (by decide) ?_
                  exact E _ _ _ _ zd_M_send_230 rfl ht.symm
                · have ht := ht.trans (if_neg c144)
                  have ko := ko c144
                  refine z_iconst O (v := 1) zd_M_send_217 (by decide) ?_
                  refine z_goto O (tgt := 222) zd_M_send_218 (by decide) ?_
                  refine z_istore O (lv' := [(5, .int 1), (4, .int r133), (3, .int (r109 13 3)), (2, .int r111), (0, .ref (zq w 13))]) zd_M_send_222 (Nat.le_of_ble_eq_true rfl) rfl ?_
                  refine z_iload O zd_M_send_224 0 rfl ?_
                  refine z_if_ne O (tgt := 231) zd_M_send_226 (by decide) (fun c146 => ?_) (fun c146 => absurd c146 (by decide))
                  refine z_aload_n O zd_M_send_231 rfl 4 rfl ?_
                  refine z_iload O zd_M_send_232 1 rfl ?_
                  refine zp_M_96_13 O zd_M_send_234 ?_
                  refine z_aload_n O zd_M_send_237 rfl 4 rfl ?_
                  refine z_iload_n O zd_M_send_238 rfl 2 rfl ?_
                  refine z_iload O zd_M_send_239 1 rfl ?_
                  refine z_calli O hl0 (st := []) 13 6 (fs := zo13 w (zuf r109 13 3 r133)) rfl rfl (c_M_sends l w (zuf r109 13 3 r133) (r109 13 3) r133 ko) zl_M_140 zm926 zms25 rfl rfl (Nat.le_of_ble_eq_true rfl) (Nat.le_of_ble_eq_true rfl) (Nat.le_of_ble_eq_true rfl) zd_M_send_241 (fun r147 u148 e149 => ?_)
                  have ht := ht.trans (zseq_e e149)
                  exact E _ _ _ _ zd_M_send_244 rfl ht.symm
        · have ht := ht.trans (if_pos c110)
          refine z_iconst O (v := 0) zd_M_send_120 (by decide) ?_
          exact E _ _ _ _ zd_M_send_121 rfl ht.symm
      · have ht := ht.trans (if_neg c107)
        have ko := ko.2 c107
        refine z_aload_n O zd_M_send_30 rfl 0 rfl ?_
        refine z_callri O hl0 (st := []) 13 6 (fs := zo13 w u104) rfl rfl (c_M_hole l w u104 ko.1) zl_M_131 zm911 zms22 rfl rfl (Nat.le_of_ble_eq_true rfl) (Nat.le_of_ble_eq_true rfl) (Nat.le_of_ble_eq_true rfl) zd_M_send_31 (fun r150 e151 => ?_)
        have ht := ht.trans (zlet_e e151)
        have ko := ko.2 r150 e151
        refine z_goto O (tgt := 38) zd_M_send_34 (by decide) ?_
        refine z_istore_n O (lv' := [(1, .int r150), (0, .ref (zq w 13))]) zd_M_send_38 rfl (Nat.le_of_ble_eq_true rfl) rfl ?_
        refine z_iload_n O zd_M_send_39 rfl 0 rfl ?_
        refine z_iconst O (v := (-1)) zd_M_send_40 (by decide) ?_
        refine z_icmp_eq O (tgt := 73) zd_M_send_41 (by decide) (fun c152 => ?_) (fun c152 => ?_)
        · have ht := ht.trans (if_pos c152)
          have ko := ko.1 c152
          refine z_sub (lv' := [(0, .ref (zq w 13))]) [1] rfl ?_
          refine L_M_send_73 O hl0 ((((u104 13 5)).toInt - ((u104 13 3)).toInt).toNat + 2) u104 ko.1 (fun r153 er153 => ?_)
          have ht := ht.trans (zlet_e er153)
          have ko := ko.2 r153 er153
          refine z_aload_n O zd_M_send_109 rfl 0 rfl ?_
          refine zg_M_96_13 O zd_M_send_110 (v := .int (r153 13 3)) rfl ?_
          refine z_aload_n O zd_M_send_113 rfl 0 rfl ?_
          refine zg_M_73_13 O zd_M_send_114 (v := .int (r153 13 5)) rfl ?_
          refine z_icmp_ne O (tgt := 122) zd_M_send_117 (by decide) (fun c154 => ?_) (fun c154 => ?_)
          · have ht := ht.trans (if_neg c154)
            have ko := ko c154
            refine z_aload_n O zd_M_send_122 rfl 0 rfl ?_
            refine z_callri O hl0 (st := []) 13 6 (fs := zo13 w r153) rfl rfl (c_M_flight l w r153 ko.1) zl_M_143 zm930 zms26 rfl rfl (Nat.le_of_ble_eq_true rfl) (Nat.le_of_ble_eq_true rfl) (Nat.le_of_ble_eq_true rfl) zd_M_send_123 (fun r155 e156 => ?_)
            have ht := ht.trans (zlet_e e156)
            have ko := ko.2 r155 e156
            refine z_istore_n O (lv' := [(2, .int r155), (0, .ref (zq w 13))]) zd_M_send_126 rfl (Nat.le_of_ble_eq_true rfl) rfl ?_
            refine z_aload_n O zd_M_send_127 rfl 1 rfl ?_
            refine zg_M_96_13 O zd_M_send_128 (v := .int (r153 13 3)) rfl ?_
            refine z_istore_n O (lv' := [(3, .int (r153 13 3)), (2, .int r155), (0, .ref (zq w 13))]) zd_M_send_131 rfl (Nat.le_of_ble_eq_true rfl) rfl ?_
            refine z_aload_n O zd_M_send_132 rfl 2 rfl ?_
            refine zg_M_96_13 O zd_M_send_133 (v := .int (r153 13 3)) rfl ?_
            refine z_aload_n O zd_M_send_136 rfl 2 rfl ?_
            refine zg_M_9_13 O zd_M_send_137 (v := .int (r153 13 6)) rfl ?_
            refine z_icmp_ge O (tgt := 174) zd_M_send_140 (by decide) (fun c157 => ?_) (fun c157 => ?_)
            · have ht := ht.trans (if_pos c157)
              have ko := ko.1 c157
              refine z_aload_n O zd_M_send_174 rfl 2 rfl ?_
              refine zg_M_96_13 O zd_M_send_175 (v := .int (r153 13 3)) rfl ?_
              refine z_iconst O (v := 1) zd_M_send_178 (by decide) ?_
              refine z_iadd O zd_M_send_179 ?_
              refine z_istore O (lv' := [(4, .int ((r153 13 3) + 1)), (3, .int (r153 13 3)), (2, .int r155), (0, .ref (zq w 13))]) zd_M_send_180 (Nat.le_of_ble_eq_true rfl) rfl ?_
              refine z_iload_n O zd_M_send_182 rfl 2 rfl ?_
              refine z_if_eq O (tgt := 217) zd_M_send_183 (by decide) (fun c158 => ?_) (fun c158 => ?_)
              · have ht := ht.trans (if_pos c158)
                have ko := ko.1 c158
                refine z_iconst O (v := 1) zd_M_send_217 (by decide) ?_
                refine z_goto O (tgt := 222) zd_M_send_218 (by decide) ?_
                refine z_istore O (lv' := [(5, .int 1), (4, .int ((r153 13 3) + 1)), (3, .int (r153 13 3)), (2, .int r155), (0, .ref (zq w 13))]) zd_M_send_222 (Nat.le_of_ble_eq_true rfl) rfl ?_
                refine z_iload O zd_M_send_224 0 rfl ?_
                refine z_if_ne O (tgt := 231) zd_M_send_226 (by decide) (fun c159 => ?_) (fun c159 => absurd c159 (by decide))
                refine z_aload_n O zd_M_send_231 rfl 4 rfl ?_
                refine z_iload O zd_M_send_232 1 rfl ?_
                refine zp_M_96_13 O zd_M_send_234 ?_
                refine z_aload_n O zd_M_send_237 rfl 4 rfl ?_
                refine z_iload_n O zd_M_send_238 rfl 2 rfl ?_
                refine z_iload O zd_M_send_239 1 rfl ?_
                refine z_calli O hl0 (st := []) 13 6 (fs := zo13 w (zuf r153 13 3 ((r153 13 3) + 1))) rfl rfl (c_M_sends l w (zuf r153 13 3 ((r153 13 3) + 1)) (r153 13 3) ((r153 13 3) + 1) ko) zl_M_140 zm926 zms25 rfl rfl (Nat.le_of_ble_eq_true rfl) (Nat.le_of_ble_eq_true rfl) (Nat.le_of_ble_eq_true rfl) zd_M_send_241 (fun r160 u161 e162 => ?_)
                have ht := ht.trans (zseq_e e162)
                exact E _ _ _ _ zd_M_send_244 rfl ht.symm
              · have ht := ht.trans (if_neg c158)
                have ko := ko.2 c158
                refine z_aload_n O zd_M_send_186 rfl 3 rfl ?_
                refine zg_M_96_13 O zd_M_send_187 (v := .int (r153 13 3)) rfl ?_
                refine z_aload_n O zd_M_send_190 rfl 3 rfl ?_
                refine zg_M_9_13 O zd_M_send_191 (v := .int (r153 13 6)) rfl ?_
                refine z_icmp_ge O (tgt := 221) zd_M_send_194 (by decide) (fun c163 => ?_) (fun c163 => ?_)
                · have ht := ht.trans (if_pos c163)
                  refine z_iconst O (v := 0) zd_M_send_221 (by decide) ?_
                  refine z_istore O (lv' := [(5, .int 0), (4, .int ((r153 13 3) + 1)), (3, .int (r153 13 3)), (2, .int r155), (0, .ref (zq w 13))]) zd_M_send_222 (Nat.le_of_ble_eq_true rfl) rfl ?_
                  refine z_iload O zd_M_send_224 0 rfl ?_
                  refine z_if_ne O (tgt := 231) zd_M_send_226 (by decide) (fun c164 => absurd c164 (by decide)) (fun c164 => ?_)
                  refine z_iconst O (v := 0) zd_M_send_229 (by decide) ?_
                  exact E _ _ _ _ zd_M_send_230 rfl ht.symm
                · have ht := ht.trans (if_neg c163)
                  have ko := ko c163
                  refine z_iload_n O zd_M_send_197 rfl 2 rfl ?_
                  refine z_iload O zd_M_send_198 0 rfl ?_
                  refine z_iadd O zd_M_send_200 ?_
                  refine z_iload_n O zd_M_send_201 rfl 1 rfl ?_
                  refine z_isub O zd_M_send_202 ?_
                  refine z_aload_n O zd_M_send_203 rfl 3 rfl ?_
                  refine zg_M_13_13 O zd_M_send_204 (v := .int (r153 13 7)) rfl ?_
                  refine z_aload_n O zd_M_send_207 rfl 3 rfl ?_
                  refine zg_M_19_13 O zd_M_send_208 (v := .int (r153 13 9)) rfl ?_
                  refine z_callsri O hl0 (st := [.int ((r155 + ((r153 13 3) + 1)) - (r153 13 3))]) (c_M_lesser l w r153 (r153 13 7) (r153 13 9)) zl_M_134 zm918 rfl rfl (Nat.le_of_ble_eq_true rfl) (Nat.le_of_ble_eq_true rfl) (Nat.le_of_ble_eq_true rfl) zd_M_send_211 (fun r165 e166 => ?_)
                  have ht := ht.trans (zlet_e e166)
                  have ko := ko r165 e166
                  refine z_icmp_gt O (tgt := 221) zd_M_send_214 (by decide) (fun c167 => ?_) (fun c167 => ?_)
                  · have ht := ht.trans (if_pos c167)
                    refine z_iconst O (v := 0) zd_M_send_221 (by decide) ?_
                    refine z_istore O (lv' := [(5, .int 0), (4, .int ((r153 13 3) + 1)), (3, .int (r153 13 3)), (2, .int r155), (0, .ref (zq w 13))]) zd_M_send_222 (Nat.le_of_ble_eq_true rfl) rfl ?_
                    refine z_iload O zd_M_send_224 0 rfl ?_
                    refine z_if_ne O (tgt := 231) zd_M_send_226 (by decide) (fun c168 => absurd c168 (by decide)) (fun c168 => ?_)
                    refine z_iconst O (v := 0) zd_M_send_229 (by decide) ?_
                    exact E _ _ _ _ zd_M_send_230 rfl ht.symm
                  · have ht := ht.trans (if_neg c167)
                    have ko := ko c167
                    refine z_iconst O (v := 1) zd_M_send_217 (by decide) ?_
                    refine z_goto O (tgt := 222) zd_M_send_218 (by decide) ?_
                    refine z_istore O (lv' := [(5, .int 1), (4, .int ((r153 13 3) + 1)), (3, .int (r153 13 3)), (2, .int r155), (0, .ref (zq w 13))]) zd_M_send_222 (Nat.le_of_ble_eq_true rfl) rfl ?_
                    refine z_iload O zd_M_send_224 0 rfl ?_
                    refine z_if_ne O (tgt := 231) zd_M_send_226 (by decide) (fun c169 => ?_) (fun c169 => absurd c169 (by decide))
                    refine z_aload_n O zd_M_send_231 rfl 4 rfl ?_
                    refine z_iload O zd_M_send_232 1 rfl ?_
                    refine zp_M_96_13 O zd_M_send_234 ?_
                    refine z_aload_n O zd_M_send_237 rfl 4 rfl ?_
                    refine z_iload_n O zd_M_send_238 rfl 2 rfl ?_
                    refine z_iload O zd_M_send_239 1 rfl ?_
                    refine z_calli O hl0 (st := []) 13 6 (fs := zo13 w (zuf r153 13 3 ((r153 13 3) + 1))) rfl rfl (c_M_sends l w (zuf r153 13 3 ((r153 13 3) + 1)) (r153 13 3) ((r153 13 3) + 1) ko) zl_M_140 zm926 zms25 rfl rfl (Nat.le_of_ble_eq_true rfl) (Nat.le_of_ble_eq_true rfl) (Nat.le_of_ble_eq_true rfl) zd_M_send_241 (fun r170 u171 e172 => ?_)
                    have ht := ht.trans (zseq_e e172)
                    exact E _ _ _ _ zd_M_send_244 rfl ht.symm
            · have ht := ht.trans (if_neg c157)
              have ko := ko.2 c157
              refine z_aload_n O zd_M_send_143 rfl 2 rfl ?_
              refine z_aload_n O zd_M_send_144 rfl 2 rfl ?_
              refine zg_M_96_13 O zd_M_send_145 (v := .int (r153 13 3)) rfl ?_
              refine z_aload_n O zd_M_send_148 rfl 2 rfl ?_
              refine zg_M_96_13 O zd_M_send_149 (v := .int (r153 13 3)) rfl ?_
              refine z_iconst O (v := 4) zd_M_send_152 (by decide) ?_
              refine z_iadd O zd_M_send_153 ?_
              refine z_aload_n O zd_M_send_154 rfl 2 rfl ?_
              refine zg_M_73_13 O zd_M_send_155 (v := .int (r153 13 5)) rfl ?_
              refine z_aload_n O zd_M_send_158 rfl 2 rfl ?_
              refine zg_M_9_13 O zd_M_send_159 (v := .int (r153 13 6)) rfl ?_
              refine z_callsri O hl0 (st := [.int ((r153 13 3) + 4), .int (r153 13 3), .ref (zq w 13)]) (c_M_lesser l w r153 (r153 13 5) (r153 13 6)) zl_M_134 zm918 rfl rfl (Nat.le_of_ble_eq_true rfl) (Nat.le_of_ble_eq_true rfl) (Nat.le_of_ble_eq_true rfl) zd_M_send_162 (fun r173 e174 => ?_)
              have ht := ht.trans (zlet_e e174)
              have ko := ko r173 e174
              refine z_callsri O hl0 (st := [.int (r153 13 3), .ref (zq w 13)]) (c_M_lesser l w r153 ((r153 13 3) + 4) r173) zl_M_134 zm918 rfl rfl (Nat.le_of_ble_eq_true rfl) (Nat.le_of_ble_eq_true rfl) (Nat.le_of_ble_eq_true rfl) zd_M_send_165 (fun r175 e176 => ?_)
              have ht := ht.trans (zlet_e e176)
              have ko := ko r175 e176
              refine z_callri O hl0 (st := []) 13 6 (fs := zo13 w r153) rfl rfl (c_M_markOr l w r153 (r153 13 3) r175 ko.1) zl_M_137 zm922 zms24 rfl rfl (Nat.le_of_ble_eq_true rfl) (Nat.le_of_ble_eq_true rfl) (Nat.le_of_ble_eq_true rfl) zd_M_send_168 (fun r177 e178 => ?_)
              have ht := ht.trans (zlet_e e178)
              have ko := ko.2 r177 e178
              refine z_goto O (tgt := 180) zd_M_send_171 (by decide) ?_
              refine z_istore O (lv' := [(4, .int r177), (3, .int (r153 13 3)), (2, .int r155), (0, .ref (zq w 13))]) zd_M_send_180 (Nat.le_of_ble_eq_true rfl) rfl ?_
              refine z_iload_n O zd_M_send_182 rfl 2 rfl ?_
              refine z_if_eq O (tgt := 217) zd_M_send_183 (by decide) (fun c179 => ?_) (fun c179 => ?_)
              · have ht := ht.trans (if_pos c179)
                have ko := ko.1 c179
                refine z_iconst O (v := 1) zd_M_send_217 (by decide) ?_
                refine z_goto O (tgt := 222) zd_M_send_218 (by decide) ?_
                refine z_istore O (lv' := [(5, .int 1), (4, .int r177), (3, .int (r153 13 3)), (2, .int r155), (0, .ref (zq w 13))]) zd_M_send_222 (Nat.le_of_ble_eq_true rfl) rfl ?_
                refine z_iload O zd_M_send_224 0 rfl ?_
                refine z_if_ne O (tgt := 231) zd_M_send_226 (by decide) (fun c180 => ?_) (fun c180 => absurd c180 (by decide))
                refine z_aload_n O zd_M_send_231 rfl 4 rfl ?_
                refine z_iload O zd_M_send_232 1 rfl ?_
                refine zp_M_96_13 O zd_M_send_234 ?_
                refine z_aload_n O zd_M_send_237 rfl 4 rfl ?_
                refine z_iload_n O zd_M_send_238 rfl 2 rfl ?_
                refine z_iload O zd_M_send_239 1 rfl ?_
                refine z_calli O hl0 (st := []) 13 6 (fs := zo13 w (zuf r153 13 3 r177)) rfl rfl (c_M_sends l w (zuf r153 13 3 r177) (r153 13 3) r177 ko) zl_M_140 zm926 zms25 rfl rfl (Nat.le_of_ble_eq_true rfl) (Nat.le_of_ble_eq_true rfl) (Nat.le_of_ble_eq_true rfl) zd_M_send_241 (fun r181 u182 e183 => ?_)
                have ht := ht.trans (zseq_e e183)
                exact E _ _ _ _ zd_M_send_244 rfl ht.symm
              · have ht := ht.trans (if_neg c179)
                have ko := ko.2 c179
                refine z_aload_n O zd_M_send_186 rfl 3 rfl ?_
                refine zg_M_96_13 O zd_M_send_187 (v := .int (r153 13 3)) rfl ?_
                refine z_aload_n O zd_M_send_190 rfl 3 rfl ?_
                refine zg_M_9_13 O zd_M_send_191 (v := .int (r153 13 6)) rfl ?_
                refine z_icmp_ge O (tgt := 221) zd_M_send_194 (by decide) (fun c184 => ?_) (fun c184 => ?_)
                · have ht := ht.trans (if_pos c184)
                  refine z_iconst O (v := 0) zd_M_send_221 (by decide) ?_
                  refine z_istore O (lv' := [(5, .int 0), (4, .int r177), (3, .int (r153 13 3)), (2, .int r155), (0, .ref (zq w 13))]) zd_M_send_222 (Nat.le_of_ble_eq_true rfl) rfl ?_
                  refine z_iload O zd_M_send_224 0 rfl ?_
                  refine z_if_ne O (tgt := 231) zd_M_send_226 (by decide) (fun c185 => absurd c185 (by decide)) (fun c185 => ?_)
                  refine z_iconst O (v := 0) zd_M_send_229 (by decide) ?_
                  exact E _ _ _ _ zd_M_send_230 rfl ht.symm
                · have ht := ht.trans (if_neg c184)
                  have ko := ko c184
                  refine z_iload_n O zd_M_send_197 rfl 2 rfl ?_
                  refine z_iload O zd_M_send_198 0 rfl ?_
                  refine z_iadd O zd_M_send_200 ?_
                  refine z_iload_n O zd_M_send_201 rfl 1 rfl ?_
                  refine z_isub O zd_M_send_202 ?_
                  refine z_aload_n O zd_M_send_203 rfl 3 rfl ?_
                  refine zg_M_13_13 O zd_M_send_204 (v := .int (r153 13 7)) rfl ?_
                  refine z_aload_n O zd_M_send_207 rfl 3 rfl ?_
                  refine zg_M_19_13 O zd_M_send_208 (v := .int (r153 13 9)) rfl ?_
                  refine z_callsri O hl0 (st := [.int ((r155 + r177) - (r153 13 3))]) (c_M_lesser l w r153 (r153 13 7) (r153 13 9)) zl_M_134 zm918 rfl rfl (Nat.le_of_ble_eq_true rfl) (Nat.le_of_ble_eq_true rfl) (Nat.le_of_ble_eq_true rfl) zd_M_send_211 (fun r186 e187 => ?_)
                  have ht := ht.trans (zlet_e e187)
                  have ko := ko r186 e187
                  refine z_icmp_gt O (tgt := 221) zd_M_send_214 (by decide) (fun c188 => ?_) (fun c188 => ?_)
                  · have ht := ht.trans (if_pos c188)
                    refine z_iconst O (v := 0) zd_M_send_221 (by decide) ?_
                    refine z_istore O (lv' := [(5, .int 0), (4, .int r177), (3, .int (r153 13 3)), (2, .int r155), (0, .ref (zq w 13))]) zd_M_send_222 (Nat.le_of_ble_eq_true rfl) rfl ?_
                    refine z_iload O zd_M_send_224 0 rfl ?_
                    refine z_if_ne O (tgt := 231) zd_M_send_226 (by decide) (fun c189 => absurd c189 (by decide)) (fun c189 => ?_)
                    refine z_iconst O (v := 0) zd_M_send_229 (by decide) ?_
                    exact E _ _ _ _ zd_M_send_230 rfl ht.symm
                  · have ht := ht.trans (if_neg c188)
                    have ko := ko c188
                    refine z_iconst O (v := 1) zd_M_send_217 (by decide) ?_
                    refine z_goto O (tgt := 222) zd_M_send_218 (by decide) ?_
                    refine z_istore O (lv' := [(5, .int 1), (4, .int r177), (3, .int (r153 13 3)), (2, .int r155), (0, .ref (zq w 13))]) zd_M_send_222 (Nat.le_of_ble_eq_true rfl) rfl ?_
                    refine z_iload O zd_M_send_224 0 rfl ?_
                    refine z_if_ne O (tgt := 231) zd_M_send_226 (by decide) (fun c190 => ?_) (fun c190 => absurd c190 (by decide))
                    refine z_aload_n O zd_M_send_231 rfl 4 rfl ?_
                    refine z_iload O zd_M_send_232 1 rfl ?_
                    refine zp_M_96_13 O zd_M_send_234 ?_
                    refine z_aload_n O zd_M_send_237 rfl 4 rfl ?_
                    refine z_iload_n O zd_M_send_238 rfl 2 rfl ?_
                    refine z_iload O zd_M_send_239 1 rfl ?_
                    refine z_calli O hl0 (st := []) 13 6 (fs := zo13 w (zuf r153 13 3 r177)) rfl rfl (c_M_sends l w (zuf r153 13 3 r177) (r153 13 3) r177 ko) zl_M_140 zm926 zms25 rfl rfl (Nat.le_of_ble_eq_true rfl) (Nat.le_of_ble_eq_true rfl) (Nat.le_of_ble_eq_true rfl) zd_M_send_241 (fun r191 u192 e193 => ?_)
                    have ht := ht.trans (zseq_e e193)
                    exact E _ _ _ _ zd_M_send_244 rfl ht.symm
          · have ht := ht.trans (if_pos c154)
            refine z_iconst O (v := 0) zd_M_send_120 (by decide) ?_
            exact E _ _ _ _ zd_M_send_121 rfl ht.symm
        · have ht := ht.trans (if_neg c152)
          have ko := ko.2 c152
          refine z_aload_n O zd_M_send_44 rfl 1 rfl ?_
          refine z_aload_n O zd_M_send_45 rfl 1 rfl ?_
          refine z_iload_n O zd_M_send_46 rfl 0 rfl ?_
          refine z_iload_n O zd_M_send_47 rfl 0 rfl ?_
          refine z_iconst O (v := 4) zd_M_send_48 (by decide) ?_
          refine z_iadd O zd_M_send_49 ?_
          refine z_aload_n O zd_M_send_50 rfl 1 rfl ?_
          refine zg_M_96_13 O zd_M_send_51 (v := .int (u104 13 3)) rfl ?_
          refine z_callsri O hl0 (st := [.int r150, .ref (zq w 13), .ref (zq w 13)]) (c_M_lesser l w u104 (r150 + 4) (u104 13 3)) zl_M_134 zm918 rfl rfl (Nat.le_of_ble_eq_true rfl) (Nat.le_of_ble_eq_true rfl) (Nat.le_of_ble_eq_true rfl) zd_M_send_54 (fun r194 e195 => ?_)
          have ht := ht.trans (zlet_e e195)
          have ko := ko r194 e195
          refine z_callri O hl0 (st := [.ref (zq w 13)]) 13 6 (fs := zo13 w u104) rfl rfl (c_M_markOr l w u104 r150 r194 ko.1) zl_M_137 zm922 zms24 rfl rfl (Nat.le_of_ble_eq_true rfl) (Nat.le_of_ble_eq_true rfl) (Nat.le_of_ble_eq_true rfl) zd_M_send_57 (fun r196 e197 => ?_)
          have ht := ht.trans (zlet_e e197)
          have ko := ko.2 r196 e197
          refine zp_M_99_13 O zd_M_send_60 ?_
          refine z_aload_n O zd_M_send_63 rfl 1 rfl ?_
          refine z_iload_n O zd_M_send_64 rfl 0 rfl ?_
          refine z_aload_n O zd_M_send_65 rfl 1 rfl ?_
          refine zg_M_99_13 O zd_M_send_66 (v := .int r196) rfl ?_
          refine z_calli O hl0 (st := []) 13 6 (fs := zo13 w (zuf u104 13 12 r196)) rfl rfl (c_M_sends l w (zuf u104 13 12 r196) r150 r196 ko) zl_M_140 zm926 zms25 rfl rfl (Nat.le_of_ble_eq_true rfl) (Nat.le_of_ble_eq_true rfl) (Nat.le_of_ble_eq_true rfl) zd_M_send_69 (fun r198 u199 e200 => ?_)
          have ht := ht.trans (zseq_e e200)
          exact E _ _ _ _ zd_M_send_72 rfl ht.symm
    · have ht := ht.trans (if_pos c106)
      refine z_iconst O (v := 0) zd_M_send_21 (by decide) ?_
      exact E _ _ _ _ zd_M_send_22 rfl ht.symm
set_option maxHeartbeats 4000000 in
set_option maxRecDepth 100000 in
theorem L_M_runsOut_37 {K : zCx} {w : zWd} {l : Launch} (O : zOk K w prog_8_method_17_code "SluiceStreamModel" 2 1 22) (hl0 : kl K = l) : ∀ (m : Nat) (σ : zSt) (x1 : Int32), kl_M_runsOut_37  m σ x1 → (∀ r, r = (l_M_runsOut_37  m σ x1) → Z K w r [(0, .ref (zq w 13))] [] 57) → Z K w σ [(0, .ref (zq w 13)), (1, .int x1)] [] 37 := by
  intro m
  induction m with
  | zero => intro σ x1 ko; exact ko.elim
  | succ m ih =>
    intro σ x1 ko kk
    have ht : l_M_runsOut_37  (m + 1) σ x1 = l_M_runsOut_37  (m + 1) σ x1 := rfl
    refine z_iload_n O zd_M_runsOut_37 rfl 1 rfl ?_
    refine z_sipush O (v := 600) zd_M_runsOut_38 (by decide) ?_
    refine z_icmp_ge O (tgt := 57) zd_M_runsOut_41 (by decide) (fun c7 => ?_) (fun c7 => ?_)
    · have ht := ht.trans (if_pos c7)
      refine z_sub (lv' := [(0, .ref (zq w 13))]) [0] rfl ?_
      exact kk σ ht.symm
    · have ht := ht.trans (if_neg c7)
      have ko := ko c7
      refine z_aload_n O zd_M_runsOut_44 rfl 0 rfl ?_
      refine zg_M_35_13 O zd_M_runsOut_45 (v := .ref (zq w 15)) rfl ?_
      refine z_iload_n O zd_M_runsOut_48 rfl 1 rfl ?_
      refine z_iconst O (v := 0) zd_M_runsOut_49 (by decide) ?_
      have b8 := ko.1
      have ko := ko.2
      refine z_zast O 15 (zae15 w σ) b8 rfl (zas15 w σ _ _) zd_M_runsOut_50 ?_
      refine z_iinc O (v := (x1 + 1)) (lv' := [(1, .int (x1 + 1)), (0, .ref (zq w 13))]) zd_M_runsOut_51 1 rfl rfl (Nat.le_of_ble_eq_true rfl) rfl ?_
      refine z_goto O (tgt := 37) zd_M_runsOut_54 (by decide) ?_
      refine z_sub (lv' := [(0, .ref (zq w 13)), (1, .int (x1 + 1))]) [1, 0] rfl ?_
      exact ih (zuf σ 15 x1.toNatClampNeg 0) (x1 + 1) ko (fun r e => kk r (e.trans ht.symm))
set_option maxHeartbeats 4000000 in
set_option maxRecDepth 100000 in
theorem c_M_runsOut (l : Launch) (w : zWd) (σ : zSt) (ko : k_M_runsOut σ) : zMv l ({ cls := "SluiceStreamModel", name := "runsOut", desc := "()V" } : Jvm.MethodName) prog_8_method_17_code 2 1 22 w [.ref (zq w 13)] σ (fun u => u = (f_M_runsOut σ)) := by
  refine zMv_of (by decide +kernel) (Nat.le_of_ble_eq_true rfl) ?_
  intro K O hl0 E
  have ht : (f_M_runsOut σ) = (f_M_runsOut σ) := rfl
  refine z_sub (lv' := [(0, .ref (zq w 13))]) [0] rfl ?_
  refine z_aload_n O zd_M_runsOut_0 rfl 0 rfl ?_
  refine z_aload_n O zd_M_runsOut_1 rfl 0 rfl ?_
  refine z_callri O hl0 (st := [.ref (zq w 13)]) 13 6 (fs := zo13 w σ) rfl rfl (c_M_flight l w σ ko.1) zl_M_143 zm930 zms26 rfl rfl (Nat.le_of_ble_eq_true rfl) (Nat.le_of_ble_eq_true rfl) (Nat.le_of_ble_eq_true rfl) zd_M_runsOut_2 (fun r1 e2 => ?_)
  have ht := ht.trans (zlet_e e2)
  have ko := ko.2 r1 e2
  refine z_iconst O (v := 2) zd_M_runsOut_5 (by decide) ?_
  refine z_idiv O zd_M_runsOut_6 (by decide) ?_
  refine z_bipush O (v := 8) zd_M_runsOut_7 (by decide) ?_
  refine z_callsri O hl0 (st := [.ref (zq w 13)]) (c_M_greater l w σ (r1 / 2) 8) zl_M_102 zm895 rfl rfl (Nat.le_of_ble_eq_true rfl) (Nat.le_of_ble_eq_true rfl) (Nat.le_of_ble_eq_true rfl) zd_M_runsOut_9 (fun r3 e4 => ?_)
  have ht := ht.trans (zlet_e e4)
  have ko := ko r3 e4
  refine zp_M_16_13 O zd_M_runsOut_12 ?_
  refine z_aload_n O zd_M_runsOut_15 rfl 0 rfl ?_
  refine z_iconst O (v := 4) zd_M_runsOut_16 (by decide) ?_
  refine zp_M_13_13 O zd_M_runsOut_17 ?_
  refine z_aload_n O zd_M_runsOut_20 rfl 0 rfl ?_
  refine z_iconst O (v := 2) zd_M_runsOut_21 (by decide) ?_
  refine z_aload_n O zd_M_runsOut_22 rfl 0 rfl ?_
  refine zg_M_22_13 O zd_M_runsOut_23 (v := .int (σ 13 14)) rfl ?_
  refine z_imul O zd_M_runsOut_26 ?_
  refine z_bipush O (v := 64) zd_M_runsOut_27 (by decide) ?_
  refine z_callsri O hl0 (st := [.ref (zq w 13)]) (c_M_lesser l w (zuf (zuf σ 13 8 r3) 13 7 4) (2 * (σ 13 14)) 64) zl_M_134 zm918 rfl rfl (Nat.le_of_ble_eq_true rfl) (Nat.le_of_ble_eq_true rfl) (Nat.le_of_ble_eq_true rfl) zd_M_runsOut_29 (fun r5 e6 => ?_)
  have ht := ht.trans (zlet_e e6)
  have ko := ko r5 e6
  refine zp_M_22_13 O zd_M_runsOut_32 ?_
  refine z_iconst O (v := 0) zd_M_runsOut_35 (by decide) ?_
  refine z_istore_n O (lv' := [(1, .int 0), (0, .ref (zq w 13))]) zd_M_runsOut_36 rfl (Nat.le_of_ble_eq_true rfl) rfl ?_
  refine z_sub (lv' := [(0, .ref (zq w 13)), (1, .int 0)]) [1, 0] rfl ?_
  refine L_M_runsOut_37 O hl0 (((600 : Int32).toInt - (0 : Int32).toInt).toNat + 2) (zuf (zuf (zuf σ 13 8 r3) 13 7 4) 13 14 r5) 0 ko (fun r9 er9 => ?_)
  have ht := ht.trans (zlet_e er9)
  refine z_aload_n O zd_M_runsOut_57 rfl 0 rfl ?_
  refine z_aload_n O zd_M_runsOut_58 rfl 0 rfl ?_
  refine zg_M_93_13 O zd_M_runsOut_59 (v := .int (r9 13 2)) rfl ?_
  refine zp_M_96_13 O zd_M_runsOut_62 ?_
  refine z_aload_n O zd_M_runsOut_65 rfl 0 rfl ?_
  refine z_iconst O (v := 0) zd_M_runsOut_66 (by decide) ?_
  refine zp_M_127_13 O zd_M_runsOut_67 rfl rfl ?_
  refine z_aload_n O zd_M_runsOut_70 rfl 0 rfl ?_
  refine z_iconst O (v := 0) zd_M_runsOut_71 (by decide) ?_
  refine zp_M_146_13 O zd_M_runsOut_72 ?_
  refine z_aload_n O zd_M_runsOut_75 rfl 0 rfl ?_
  refine z_iconst O (v := (-1)) zd_M_runsOut_76 (by decide) ?_
  refine zp_M_28_13 O zd_M_runsOut_77 ?_
  refine z_aload_n O zd_M_runsOut_80 rfl 0 rfl ?_
  refine z_iconst O (v := (-1)) zd_M_runsOut_81 (by decide) ?_
  refine zp_M_25_13 O zd_M_runsOut_82 ?_
  exact E _ _ _ zd_M_runsOut_85 ht.symm
set_option maxHeartbeats 4000000 in
set_option maxRecDepth 100000 in
theorem L_M_tick_28 {K : zCx} {w : zWd} {l : Launch} (O : zOk K w prog_8_method_18_code "SluiceStreamModel" 4 2 43) (hl0 : kl K = l) (x1 : Int32) : ∀ (m : Nat) (σ : zSt) (x2 x3 : Int32), kl_M_tick_28 x1 m σ x2 x3 → (∀ r, r = (l_M_tick_28 x1 m σ x2 x3) → Z K w r.2 [(2, .int r.1)] [] 67) → Z K w σ [(0, .ref (zq w 13)), (1, .int x1), (2, .int x2), (3, .int x3)] [] 28 := by
  intro m
  induction m with
  | zero => intro σ x2 x3 ko; exact ko.elim
  | succ m ih =>
    intro σ x2 x3 ko kk
    have ht : l_M_tick_28 x1 (m + 1) σ x2 x3 = l_M_tick_28 x1 (m + 1) σ x2 x3 := rfl
    refine z_iload_n O zd_M_tick_28 rfl 3 rfl ?_
    refine z_iload_n O zd_M_tick_29 rfl 1 rfl ?_
    refine z_icmp_ge O (tgt := 67) zd_M_tick_30 (by decide) (fun c8 => ?_) (fun c8 => ?_)
    · have ht := ht.trans (if_pos c8)
      refine z_sub (lv' := [(2, .int x2)]) [2] rfl ?_
      exact kk (x2, σ) ht.symm
    · have ht := ht.trans (if_neg c8)
      have ko := ko c8
      refine z_aload_n O zd_M_tick_33 rfl 0 rfl ?_
      refine z_dup O zd_M_tick_34 rfl ?_
      refine zg_M_121_13 O zd_M_tick_35 (v := .int (σ 13 1)) rfl ?_
      refine z_iconst O (v := 1) zd_M_tick_38 (by decide) ?_
      refine z_iadd O zd_M_tick_39 ?_
      refine zp_M_121_13 O zd_M_tick_40 ?_
      refine z_aload_n O zd_M_tick_43 rfl 0 rfl ?_
      refine zg_M_121_13 O zd_M_tick_44 (v := .int ((σ 13 1) + 1)) rfl ?_
      refine z_aload_n O zd_M_tick_47 rfl 0 rfl ?_
      refine zg_M_25_13 O zd_M_tick_48 (v := .int (σ 13 15)) rfl ?_
      refine z_icmp_ne O (tgt := 61) zd_M_tick_51 (by decide) (fun c9 => ?_) (fun c9 => ?_)
      · have ht := ht.trans (if_neg c9)
        have ko := ko.2 c9
        refine z_iinc O (v := (x3 + 1)) (lv' := [(3, .int (x3 + 1)), (0, .ref (zq w 13)), (1, .int x1), (2, .int x2)]) zd_M_tick_61 3 rfl rfl (Nat.le_of_ble_eq_true rfl) rfl ?_
        refine z_goto O (tgt := 28) zd_M_tick_64 (by decide) ?_
        refine z_sub (lv' := [(0, .ref (zq w 13)), (1, .int x1), (2, .int x2), (3, .int (x3 + 1))]) [1, 2, 3, 0] rfl ?_
        exact ih (zuf σ 13 1 ((σ 13 1) + 1)) x2 (x3 + 1) ko (fun r e => kk r (e.trans ht.symm))
      · have ht := ht.trans (if_pos c9)
        have ko := ko.1 c9
        refine z_aload_n O zd_M_tick_54 rfl 0 rfl ?_
        refine z_callv O hl0 (st := []) 13 6 (fs := zo13 w (zuf σ 13 1 ((σ 13 1) + 1))) rfl rfl (c_M_runsOut l w (zuf σ 13 1 ((σ 13 1) + 1)) ko.1) zl_M_149 zm938 zms27 rfl rfl (Nat.le_of_ble_eq_true rfl) (Nat.le_of_ble_eq_true rfl) (Nat.le_of_ble_eq_true rfl) zd_M_tick_55 (fun u10 e11 => ?_)
        have ht := ht.trans (zlet_e e11)
        have ko := ko.2 u10 e11
        refine z_iinc O (v := (x2 + 1)) (lv' := [(2, .int (x2 + 1)), (0, .ref (zq w 13)), (1, .int x1), (3, .int x3)]) zd_M_tick_58 2 rfl rfl (Nat.le_of_ble_eq_true rfl) rfl ?_
        refine z_iinc O (v := (x3 + 1)) (lv' := [(3, .int (x3 + 1)), (2, .int (x2 + 1)), (0, .ref (zq w 13)), (1, .int x1)]) zd_M_tick_61 3 rfl rfl (Nat.le_of_ble_eq_true rfl) rfl ?_
        refine z_goto O (tgt := 28) zd_M_tick_64 (by decide) ?_
        refine z_sub (lv' := [(0, .ref (zq w 13)), (1, .int x1), (2, .int (x2 + 1)), (3, .int (x3 + 1))]) [2, 3, 1, 0] rfl ?_
        exact ih u10 (x2 + 1) (x3 + 1) ko (fun r e => kk r (e.trans ht.symm))
set_option maxHeartbeats 4000000 in
set_option maxRecDepth 100000 in
theorem c_M_tick (l : Launch) (w : zWd) (σ : zSt) (a1 : Int32) (ko : k_M_tick σ a1) : zMi l ({ cls := "SluiceStreamModel", name := "tick", desc := "(I)I" } : Jvm.MethodName) prog_8_method_18_code 4 2 43 .int w [.ref (zq w 13), .int a1] σ (fun r u => (r, u) = (f_M_tick σ a1)) := by
  refine zMi_of (by decide +kernel) (Nat.le_of_ble_eq_true rfl) ?_
  intro K O hl0 E
  have ht : (f_M_tick σ a1) = (f_M_tick σ a1) := rfl
  refine z_sub (lv' := [(0, .ref (zq w 13)), (1, .int a1)]) [0, 1] rfl ?_
  refine z_aload_n O zd_M_tick_0 rfl 0 rfl ?_
  refine z_iload_n O zd_M_tick_1 rfl 1 rfl ?_
  refine z_iconst O (v := 1) zd_M_tick_2 (by decide) ?_
  refine z_bipush O (v := 100) zd_M_tick_3 (by decide) ?_
  refine z_callsri O hl0 (st := [.ref (zq w 13)]) (c_M_isIn l w σ a1 1 100) zl_M_69 zm864 rfl rfl (Nat.le_of_ble_eq_true rfl) (Nat.le_of_ble_eq_true rfl) (Nat.le_of_ble_eq_true rfl) zd_M_tick_5 (fun r1 e2 => ?_)
  have ht := ht.trans (zlet_e e2)
  have ko := ko r1 e2
  refine z_if_eq O (tgt := 15) zd_M_tick_8 (by decide) (fun c3 => ?_) (fun c3 => ?_)
  · have ht := ht.trans (if_pos c3)
    have ko := ko.1 c3
    refine z_iconst O (v := 1) zd_M_tick_15 (by decide) ?_
    refine z_calli O hl0 (st := []) 13 6 (fs := zo13 w σ) rfl rfl (c_M_isFine l w σ 1) zl_M_76 zm868 zms15 rfl rfl (Nat.le_of_ble_eq_true rfl) (Nat.le_of_ble_eq_true rfl) (Nat.le_of_ble_eq_true rfl) zd_M_tick_16 (fun r4 u5 e6 => ?_)
    have ht := ht.trans (zseq_e e6)
    have ko := ko r4 u5 e6
    refine z_if_ne O (tgt := 24) zd_M_tick_19 (by decide) (fun c7 => ?_) (fun c7 => ?_)
    · have ht := ht.trans (if_neg c7)
      have ko := ko c7
      refine z_iconst O (v := 0) zd_M_tick_24 (by decide) ?_
      refine z_istore_n O (lv' := [(2, .int 0), (0, .ref (zq w 13)), (1, .int a1)]) zd_M_tick_25 rfl (Nat.le_of_ble_eq_true rfl) rfl ?_
      refine z_iconst O (v := 0) zd_M_tick_26 (by decide) ?_
      refine z_istore_n O (lv' := [(3, .int 0), (2, .int 0), (0, .ref (zq w 13)), (1, .int a1)]) zd_M_tick_27 rfl (Nat.le_of_ble_eq_true rfl) rfl ?_
      refine z_sub (lv' := [(0, .ref (zq w 13)), (1, .int a1), (2, .int 0), (3, .int 0)]) [2, 3, 1, 0] rfl ?_
      refine L_M_tick_28 O hl0 a1 (((a1).toInt - (0 : Int32).toInt).toNat + 2) u5 0 0 ko (fun r12 er12 => ?_)
      have ht := ht.trans (zlet_e er12)
      refine z_iload_n O zd_M_tick_67 rfl 0 rfl ?_
      exact E _ _ _ _ zd_M_tick_68 rfl ht.symm
    · have ht := ht.trans (if_pos c7)
      refine z_iconst O (v := 0) zd_M_tick_22 (by decide) ?_
      exact E _ _ _ _ zd_M_tick_23 rfl ht.symm
  · have ht := ht.trans (if_neg c3)
    have ko := ko.2 c3
    refine z_iconst O (v := 0) zd_M_tick_11 (by decide) ?_
    refine z_goto O (tgt := 16) zd_M_tick_12 (by decide) ?_
    refine z_calli O hl0 (st := []) 13 6 (fs := zo13 w σ) rfl rfl (c_M_isFine l w σ 0) zl_M_76 zm868 zms15 rfl rfl (Nat.le_of_ble_eq_true rfl) (Nat.le_of_ble_eq_true rfl) (Nat.le_of_ble_eq_true rfl) zd_M_tick_16 (fun r13 u14 e15 => ?_)
    have ht := ht.trans (zseq_e e15)
    have ko := ko r13 u14 e15
    refine z_if_ne O (tgt := 24) zd_M_tick_19 (by decide) (fun c16 => ?_) (fun c16 => ?_)
    · have ht := ht.trans (if_neg c16)
      have ko := ko c16
      refine z_iconst O (v := 0) zd_M_tick_24 (by decide) ?_
      refine z_istore_n O (lv' := [(2, .int 0), (0, .ref (zq w 13)), (1, .int a1)]) zd_M_tick_25 rfl (Nat.le_of_ble_eq_true rfl) rfl ?_
      refine z_iconst O (v := 0) zd_M_tick_26 (by decide) ?_
      refine z_istore_n O (lv' := [(3, .int 0), (2, .int 0), (0, .ref (zq w 13)), (1, .int a1)]) zd_M_tick_27 rfl (Nat.le_of_ble_eq_true rfl) rfl ?_
      refine z_sub (lv' := [(0, .ref (zq w 13)), (1, .int a1), (2, .int 0), (3, .int 0)]) [2, 3, 1, 0] rfl ?_
      refine L_M_tick_28 O hl0 a1 (((a1).toInt - (0 : Int32).toInt).toNat + 2) u14 0 0 ko (fun r17 er17 => ?_)
      have ht := ht.trans (zlet_e er17)
      refine z_iload_n O zd_M_tick_67 rfl 0 rfl ?_
      exact E _ _ _ _ zd_M_tick_68 rfl ht.symm
    · have ht := ht.trans (if_pos c16)
      refine z_iconst O (v := 0) zd_M_tick_22 (by decide) ?_
      exact E _ _ _ _ zd_M_tick_23 rfl ht.symm
set_option maxHeartbeats 4000000 in
set_option maxRecDepth 100000 in
theorem c_M_samples (l : Launch) (w : zWd) (σ : zSt) (a1 : Int32) : zMv l ({ cls := "SluiceStreamModel", name := "samples", desc := "(I)V" } : Jvm.MethodName) prog_8_method_19_code 3 1 21 w [.ref (zq w 13), .int a1] σ (fun u => u = (f_M_samples σ a1)) := by
  refine zMv_of (by decide +kernel) (Nat.le_of_ble_eq_true rfl) ?_
  intro K O hl0 E
  have ht : (f_M_samples σ a1) = (f_M_samples σ a1) := rfl
  refine z_sub (lv' := [(0, .ref (zq w 13)), (1, .int a1)]) [0, 1] rfl ?_
  refine z_aload_n O zd_M_samples_0 rfl 0 rfl ?_
  refine zg_M_152_13 O zd_M_samples_1 (v := .int (σ 13 20)) rfl ?_
  refine z_if_eq O (tgt := 56) zd_M_samples_4 (by decide) (fun c1 => ?_) (fun c1 => ?_)
  · have ht := ht.trans (if_pos c1)
    refine z_aload_n O zd_M_samples_56 rfl 0 rfl ?_
    refine z_bipush O (v := 8) zd_M_samples_57 (by decide) ?_
    refine z_iload_n O zd_M_samples_59 rfl 1 rfl ?_
    refine z_imul O zd_M_samples_60 ?_
    refine zp_M_155_13 O zd_M_samples_61 ?_
    refine z_aload_n O zd_M_samples_64 rfl 0 rfl ?_
    refine z_iconst O (v := 2) zd_M_samples_65 (by decide) ?_
    refine z_iload_n O zd_M_samples_66 rfl 1 rfl ?_
    refine z_imul O zd_M_samples_67 ?_
    refine zp_M_158_13 O zd_M_samples_68 ?_
    refine z_aload_n O zd_M_samples_71 rfl 0 rfl ?_
    refine z_iconst O (v := 1) zd_M_samples_72 (by decide) ?_
    refine zp_M_152_13 O zd_M_samples_73 rfl rfl ?_
    refine z_aload_n O zd_M_samples_76 rfl 0 rfl ?_
    refine z_aload_n O zd_M_samples_77 rfl 0 rfl ?_
    refine zg_M_155_13 O zd_M_samples_78 (v := .int (8 * a1)) rfl ?_
    refine z_bipush O (v := 8) zd_M_samples_81 (by decide) ?_
    refine z_idiv O zd_M_samples_83 (by decide) ?_
    refine z_aload_n O zd_M_samples_84 rfl 0 rfl ?_
    refine zg_M_158_13 O zd_M_samples_85 (v := .int (2 * a1)) rfl ?_
    refine z_iconst O (v := 1) zd_M_samples_88 (by decide) ?_
    refine z_callsri O hl0 (st := [.int ((8 * a1) / 8), .ref (zq w 13)]) (c_M_greater l w (zuf (zuf (zuf σ 13 18 (8 * a1)) 13 19 (2 * a1)) 13 20 1) (2 * a1) 1) zl_M_102 zm895 rfl rfl (Nat.le_of_ble_eq_true rfl) (Nat.le_of_ble_eq_true rfl) (Nat.le_of_ble_eq_true rfl) zd_M_samples_89 (fun r2 e3 => ?_)
    have ht := ht.trans (zlet_e e3)
    refine z_iadd O zd_M_samples_92 ?_
    refine z_iconst O (v := 2) zd_M_samples_93 (by decide) ?_
    refine z_callsri O hl0 (st := [.ref (zq w 13)]) (c_M_greater l w (zuf (zuf (zuf σ 13 18 (8 * a1)) 13 19 (2 * a1)) 13 20 1) (((8 * a1) / 8) + r2) 2) zl_M_102 zm895 rfl rfl (Nat.le_of_ble_eq_true rfl) (Nat.le_of_ble_eq_true rfl) (Nat.le_of_ble_eq_true rfl) zd_M_samples_94 (fun r4 e5 => ?_)
    have ht := ht.trans (zlet_e e5)
    refine z_bipush O (v := 64) zd_M_samples_97 (by decide) ?_
    refine z_callsri O hl0 (st := [.ref (zq w 13)]) (c_M_lesser l w (zuf (zuf (zuf σ 13 18 (8 * a1)) 13 19 (2 * a1)) 13 20 1) r4 64) zl_M_134 zm918 rfl rfl (Nat.le_of_ble_eq_true rfl) (Nat.le_of_ble_eq_true rfl) (Nat.le_of_ble_eq_true rfl) zd_M_samples_99 (fun r6 e7 => ?_)
    have ht := ht.trans (zlet_e e7)
    refine zp_M_22_13 O zd_M_samples_102 ?_
    exact E _ _ _ zd_M_samples_105 ht.symm
  · have ht := ht.trans (if_neg c1)
    refine z_iload_n O zd_M_samples_7 rfl 1 rfl ?_
    refine z_aload_n O zd_M_samples_8 rfl 0 rfl ?_
    refine zg_M_155_13 O zd_M_samples_9 (v := .int (σ 13 18)) rfl ?_
    refine z_bipush O (v := 8) zd_M_samples_12 (by decide) ?_
    refine z_idiv O zd_M_samples_14 (by decide) ?_
    refine z_isub O zd_M_samples_15 ?_
    refine z_istore_n O (lv' := [(2, .int (a1 - ((σ 13 18) / 8))), (0, .ref (zq w 13)), (1, .int a1)]) zd_M_samples_16 rfl (Nat.le_of_ble_eq_true rfl) rfl ?_
    refine z_aload_n O zd_M_samples_17 rfl 1 rfl ?_
    refine z_dup O zd_M_samples_18 rfl ?_
    refine zg_M_155_13 O zd_M_samples_19 (v := .int (σ 13 18)) rfl ?_
    refine z_iload_n O zd_M_samples_22 rfl 0 rfl ?_
    refine z_iadd O zd_M_samples_23 ?_
    refine zp_M_155_13 O zd_M_samples_24 ?_
    refine z_aload_n O zd_M_samples_27 rfl 1 rfl ?_
    refine z_dup O zd_M_samples_28 rfl ?_
    refine zg_M_158_13 O zd_M_samples_29 (v := .int (σ 13 19)) rfl ?_
    refine z_iload_n O zd_M_samples_32 rfl 0 rfl ?_
    refine z_if_ge O (tgt := 41) zd_M_samples_33 (by decide) (fun c8 => ?_) (fun c8 => ?_)
    · have ht := ht.trans (if_pos c8)
      refine z_iload_n O zd_M_samples_41 rfl 0 rfl ?_
      refine z_aload_n O zd_M_samples_42 rfl 1 rfl ?_
      refine zg_M_158_13 O zd_M_samples_43 (v := .int (σ 13 19)) rfl ?_
      refine z_iconst O (v := 4) zd_M_samples_46 (by decide) ?_
      refine z_idiv O zd_M_samples_47 (by decide) ?_
      refine z_isub O zd_M_samples_48 ?_
      refine z_iadd O zd_M_samples_49 ?_
      refine zp_M_158_13 O zd_M_samples_50 ?_
      refine z_goto O (tgt := 76) zd_M_samples_53 (by decide) ?_
      refine z_aload_n O zd_M_samples_76 rfl 1 rfl ?_
      refine z_aload_n O zd_M_samples_77 rfl 1 rfl ?_
      refine zg_M_155_13 O zd_M_samples_78 (v := .int ((σ 13 18) + (a1 - ((σ 13 18) / 8)))) rfl ?_
      refine z_bipush O (v := 8) zd_M_samples_81 (by decide) ?_
      refine z_idiv O zd_M_samples_83 (by decide) ?_
      refine z_aload_n O zd_M_samples_84 rfl 1 rfl ?_
      refine zg_M_158_13 O zd_M_samples_85 (v := .int ((σ 13 19) + ((a1 - ((σ 13 18) / 8)) - ((σ 13 19) / 4)))) rfl ?_
      refine z_iconst O (v := 1) zd_M_samples_88 (by decide) ?_
      refine z_callsri O hl0 (st := [.int (((σ 13 18) + (a1 - ((σ 13 18) / 8))) / 8), .ref (zq w 13)]) (c_M_greater l w (zuf (zuf σ 13 18 ((σ 13 18) + (a1 - ((σ 13 18) / 8)))) 13 19 ((σ 13 19) + ((a1 - ((σ 13 18) / 8)) - ((σ 13 19) / 4)))) ((σ 13 19) + ((a1 - ((σ 13 18) / 8)) - ((σ 13 19) / 4))) 1) zl_M_102 zm895 rfl rfl (Nat.le_of_ble_eq_true rfl) (Nat.le_of_ble_eq_true rfl) (Nat.le_of_ble_eq_true rfl) zd_M_samples_89 (fun r9 e10 => ?_)
      have ht := ht.trans (zlet_e e10)
      refine z_iadd O zd_M_samples_92 ?_
      refine z_iconst O (v := 2) zd_M_samples_93 (by decide) ?_
      refine z_callsri O hl0 (st := [.ref (zq w 13)]) (c_M_greater l w (zuf (zuf σ 13 18 ((σ 13 18) + (a1 - ((σ 13 18) / 8)))) 13 19 ((σ 13 19) + ((a1 - ((σ 13 18) / 8)) - ((σ 13 19) / 4)))) ((((σ 13 18) + (a1 - ((σ 13 18) / 8))) / 8) + r9) 2) zl_M_102 zm895 rfl rfl (Nat.le_of_ble_eq_true rfl) (Nat.le_of_ble_eq_true rfl) (Nat.le_of_ble_eq_true rfl) zd_M_samples_94 (fun r11 e12 => ?_)
      have ht := ht.trans (zlet_e e12)
      refine z_bipush O (v := 64) zd_M_samples_97 (by decide) ?_
      refine z_callsri O hl0 (st := [.ref (zq w 13)]) (c_M_lesser l w (zuf (zuf σ 13 18 ((σ 13 18) + (a1 - ((σ 13 18) / 8)))) 13 19 ((σ 13 19) + ((a1 - ((σ 13 18) / 8)) - ((σ 13 19) / 4)))) r11 64) zl_M_134 zm918 rfl rfl (Nat.le_of_ble_eq_true rfl) (Nat.le_of_ble_eq_true rfl) (Nat.le_of_ble_eq_true rfl) zd_M_samples_99 (fun r13 e14 => ?_)
      have ht := ht.trans (zlet_e e14)
      refine zp_M_22_13 O zd_M_samples_102 ?_
      exact E _ _ _ zd_M_samples_105 ht.symm
    · have ht := ht.trans (if_neg c8)
      refine z_iload_n O zd_M_samples_36 rfl 0 rfl ?_
      refine z_ineg O (v := (0 - (a1 - ((σ 13 18) / 8)))) zd_M_samples_37 rfl ?_
      refine z_goto O (tgt := 42) zd_M_samples_38 (by decide) ?_
      refine z_aload_n O zd_M_samples_42 rfl 1 rfl ?_
      refine zg_M_158_13 O zd_M_samples_43 (v := .int (σ 13 19)) rfl ?_
      refine z_iconst O (v := 4) zd_M_samples_46 (by decide) ?_
      refine z_idiv O zd_M_samples_47 (by decide) ?_
      refine z_isub O zd_M_samples_48 ?_
      refine z_iadd O zd_M_samples_49 ?_
      refine zp_M_158_13 O zd_M_samples_50 ?_
      refine z_goto O (tgt := 76) zd_M_samples_53 (by decide) ?_
      refine z_aload_n O zd_M_samples_76 rfl 1 rfl ?_
      refine z_aload_n O zd_M_samples_77 rfl 1 rfl ?_
      refine zg_M_155_13 O zd_M_samples_78 (v := .int ((σ 13 18) + (a1 - ((σ 13 18) / 8)))) rfl ?_
      refine z_bipush O (v := 8) zd_M_samples_81 (by decide) ?_
      refine z_idiv O zd_M_samples_83 (by decide) ?_
      refine z_aload_n O zd_M_samples_84 rfl 1 rfl ?_
      refine zg_M_158_13 O zd_M_samples_85 (v := .int ((σ 13 19) + ((0 - (a1 - ((σ 13 18) / 8))) - ((σ 13 19) / 4)))) rfl ?_
      refine z_iconst O (v := 1) zd_M_samples_88 (by decide) ?_
      refine z_callsri O hl0 (st := [.int (((σ 13 18) + (a1 - ((σ 13 18) / 8))) / 8), .ref (zq w 13)]) (c_M_greater l w (zuf (zuf σ 13 18 ((σ 13 18) + (a1 - ((σ 13 18) / 8)))) 13 19 ((σ 13 19) + ((0 - (a1 - ((σ 13 18) / 8))) - ((σ 13 19) / 4)))) ((σ 13 19) + ((0 - (a1 - ((σ 13 18) / 8))) - ((σ 13 19) / 4))) 1) zl_M_102 zm895 rfl rfl (Nat.le_of_ble_eq_true rfl) (Nat.le_of_ble_eq_true rfl) (Nat.le_of_ble_eq_true rfl) zd_M_samples_89 (fun r15 e16 => ?_)
      have ht := ht.trans (zlet_e e16)
      refine z_iadd O zd_M_samples_92 ?_
      refine z_iconst O (v := 2) zd_M_samples_93 (by decide) ?_
      refine z_callsri O hl0 (st := [.ref (zq w 13)]) (c_M_greater l w (zuf (zuf σ 13 18 ((σ 13 18) + (a1 - ((σ 13 18) / 8)))) 13 19 ((σ 13 19) + ((0 - (a1 - ((σ 13 18) / 8))) - ((σ 13 19) / 4)))) ((((σ 13 18) + (a1 - ((σ 13 18) / 8))) / 8) + r15) 2) zl_M_102 zm895 rfl rfl (Nat.le_of_ble_eq_true rfl) (Nat.le_of_ble_eq_true rfl) (Nat.le_of_ble_eq_true rfl) zd_M_samples_94 (fun r17 e18 => ?_)
      have ht := ht.trans (zlet_e e18)
      refine z_bipush O (v := 64) zd_M_samples_97 (by decide) ?_
      refine z_callsri O hl0 (st := [.ref (zq w 13)]) (c_M_lesser l w (zuf (zuf σ 13 18 ((σ 13 18) + (a1 - ((σ 13 18) / 8)))) 13 19 ((σ 13 19) + ((0 - (a1 - ((σ 13 18) / 8))) - ((σ 13 19) / 4)))) r17 64) zl_M_134 zm918 rfl rfl (Nat.le_of_ble_eq_true rfl) (Nat.le_of_ble_eq_true rfl) (Nat.le_of_ble_eq_true rfl) zd_M_samples_99 (fun r19 e20 => ?_)
      have ht := ht.trans (zlet_e e20)
      refine zp_M_22_13 O zd_M_samples_102 ?_
      exact E _ _ _ zd_M_samples_105 ht.symm
set_option maxHeartbeats 4000000 in
set_option maxRecDepth 100000 in
theorem L_M_advances_56 {K : zCx} {w : zWd} {l : Launch} (O : zOk K w prog_8_method_20_code "SluiceStreamModel" 3 2 43) (hl0 : kl K = l) : ∀ (m : Nat) (σ : zSt) (x2 : Int32), kl_M_advances_56  m σ x2 → (∀ r, r = (l_M_advances_56  m σ x2) → Z K w r [(0, .ref (zq w 13))] [] 77) → Z K w σ [(0, .ref (zq w 13)), (2, .int x2)] [] 56 := by
  intro m
  induction m with
  | zero => intro σ x2 ko; exact ko.elim
  | succ m ih =>
    intro σ x2 ko kk
    have ht : l_M_advances_56  (m + 1) σ x2 = l_M_advances_56  (m + 1) σ x2 := rfl
    refine z_iload_n O zd_M_advances_56 rfl 1 rfl ?_
    refine z_aload_n O zd_M_advances_57 rfl 0 rfl ?_
    refine zg_M_93_13 O zd_M_advances_58 (v := .int (σ 13 2)) rfl ?_
    refine z_icmp_ge O (tgt := 77) zd_M_advances_61 (by decide) (fun c4 => ?_) (fun c4 => ?_)
    · have ht := ht.trans (if_pos c4)
      refine z_sub (lv' := [(0, .ref (zq w 13))]) [0] rfl ?_
      exact kk σ ht.symm
    · have ht := ht.trans (if_neg c4)
      have ko := ko c4
      refine z_aload_n O zd_M_advances_64 rfl 0 rfl ?_
      refine zg_M_35_13 O zd_M_advances_65 (v := .ref (zq w 15)) rfl ?_
      refine z_iload_n O zd_M_advances_68 rfl 1 rfl ?_
      refine z_iconst O (v := 0) zd_M_advances_69 (by decide) ?_
      have b5 := ko.1
      have ko := ko.2
      refine z_zast O 15 (zae15 w σ) b5 rfl (zas15 w σ _ _) zd_M_advances_70 ?_
      refine z_iinc O (v := (x2 + 1)) (lv' := [(2, .int (x2 + 1)), (0, .ref (zq w 13))]) zd_M_advances_71 1 rfl rfl (Nat.le_of_ble_eq_true rfl) rfl ?_
      refine z_goto O (tgt := 56) zd_M_advances_74 (by decide) ?_
      refine z_sub (lv' := [(0, .ref (zq w 13)), (2, .int (x2 + 1))]) [1, 0] rfl ?_
      exact ih (zuf σ 15 x2.toNatClampNeg 0) (x2 + 1) ko (fun r e => kk r (e.trans ht.symm))
set_option maxHeartbeats 4000000 in
set_option maxRecDepth 100000 in
theorem c_M_advances (l : Launch) (w : zWd) (σ : zSt) (a1 : Int32) (ko : k_M_advances σ a1) : zMv l ({ cls := "SluiceStreamModel", name := "advances", desc := "(I)V" } : Jvm.MethodName) prog_8_method_20_code 3 2 43 w [.ref (zq w 13), .int a1] σ (fun u => u = (f_M_advances σ a1)) := by
  refine zMv_of (by decide +kernel) (Nat.le_of_ble_eq_true rfl) ?_
  intro K O hl0 E
  have ht : (f_M_advances σ a1) = (f_M_advances σ a1) := rfl
  refine z_sub (lv' := [(0, .ref (zq w 13)), (1, .int a1)]) [0, 1] rfl ?_
  refine z_aload_n O zd_M_advances_0 rfl 0 rfl ?_
  refine zg_M_28_13 O zd_M_advances_1 (v := .int (σ 13 16)) rfl ?_
  refine z_iconst O (v := (-1)) zd_M_advances_4 (by decide) ?_
  refine z_icmp_eq O (tgt := 34) zd_M_advances_5 (by decide) (fun c1 => ?_) (fun c1 => ?_)
  · have ht := ht.trans (if_pos c1)
    have ko := ko.1 c1
    refine z_aload_n O zd_M_advances_34 rfl 0 rfl ?_
    refine z_iload_n O zd_M_advances_35 rfl 1 rfl ?_
    refine zp_M_93_13 O zd_M_advances_36 ?_
    refine z_aload_n O zd_M_advances_39 rfl 0 rfl ?_
    refine z_aload_n O zd_M_advances_40 rfl 0 rfl ?_
    refine zg_M_96_13 O zd_M_advances_41 (v := .int (σ 13 3)) rfl ?_
    refine z_aload_n O zd_M_advances_44 rfl 0 rfl ?_
    refine zg_M_93_13 O zd_M_advances_45 (v := .int a1) rfl ?_
    refine z_callsri O hl0 (st := [.ref (zq w 13)]) (c_M_greater l w (zuf σ 13 2 a1) (σ 13 3) a1) zl_M_102 zm895 rfl rfl (Nat.le_of_ble_eq_true rfl) (Nat.le_of_ble_eq_true rfl) (Nat.le_of_ble_eq_true rfl) zd_M_advances_48 (fun r2 e3 => ?_)
    have ht := ht.trans (zlet_e e3)
    have ko := ko r2 e3
    refine zp_M_96_13 O zd_M_advances_51 ?_
    refine z_iconst O (v := 0) zd_M_advances_54 (by decide) ?_
    refine z_istore_n O (lv' := [(2, .int 0), (0, .ref (zq w 13)), (1, .int a1)]) zd_M_advances_55 rfl (Nat.le_of_ble_eq_true rfl) rfl ?_
    refine z_sub (lv' := [(0, .ref (zq w 13)), (2, .int 0)]) [1, 0] rfl ?_
    refine L_M_advances_56 O hl0 (((((zuf (zuf σ 13 2 a1) 13 3 r2) 13 2)).toInt - (0 : Int32).toInt).toNat + 2) (zuf (zuf σ 13 2 a1) 13 3 r2) 0 ko.1 (fun r6 er6 => ?_)
    have ht := ht.trans (zlet_e er6)
    have ko := ko.2 r6 er6
    refine z_aload_n O zd_M_advances_77 rfl 0 rfl ?_
    refine z_iconst O (v := 0) zd_M_advances_78 (by decide) ?_
    refine zp_M_146_13 O zd_M_advances_79 ?_
    refine z_aload_n O zd_M_advances_82 rfl 0 rfl ?_
    refine zg_M_127_13 O zd_M_advances_83 (v := .int (r6 13 10)) rfl ?_
    refine z_if_ne O (tgt := 133) zd_M_advances_86 (by decide) (fun c7 => ?_) (fun c7 => ?_)
    · have ht := ht.trans (if_neg c7)
      refine z_aload_n O zd_M_advances_133 rfl 0 rfl ?_
      refine zg_M_93_13 O zd_M_advances_134 (v := .int (r6 13 2)) rfl ?_
      refine z_aload_n O zd_M_advances_137 rfl 0 rfl ?_
      refine zg_M_165_13 O zd_M_advances_138 (v := .int (r6 13 11)) rfl ?_
      refine z_icmp_lt O (tgt := 157) zd_M_advances_141 (by decide) (fun c8 => ?_) (fun c8 => ?_)
      · have ht := ht.trans (if_pos c8)
        refine z_aload_n O zd_M_advances_157 rfl 0 rfl ?_
        refine z_aload_n O zd_M_advances_158 rfl 0 rfl ?_
        refine zg_M_93_13 O zd_M_advances_159 (v := .int (r6 13 2)) rfl ?_
        refine z_aload_n O zd_M_advances_162 rfl 0 rfl ?_
        refine zg_M_96_13 O zd_M_advances_163 (v := .int (r6 13 3)) rfl ?_
        refine z_icmp_ne O (tgt := 173) zd_M_advances_166 (by decide) (fun c9 => ?_) (fun c9 => ?_)
        · have ht := ht.trans (if_neg c9)
          refine z_aload_n O zd_M_advances_173 rfl 0 rfl ?_
          refine zg_M_121_13 O zd_M_advances_174 (v := .int (r6 13 1)) rfl ?_
          refine z_aload_n O zd_M_advances_177 rfl 0 rfl ?_
          refine zg_M_22_13 O zd_M_advances_178 (v := .int (r6 13 14)) rfl ?_
          refine z_iadd O zd_M_advances_181 ?_
          refine zp_M_25_13 O zd_M_advances_182 ?_
          exact E _ _ _ zd_M_advances_185 ht.symm
        · have ht := ht.trans (if_pos c9)
          refine z_iconst O (v := (-1)) zd_M_advances_169 (by decide) ?_
          refine z_goto O (tgt := 182) zd_M_advances_170 (by decide) ?_
          refine zp_M_25_13 O zd_M_advances_182 ?_
          exact E _ _ _ zd_M_advances_185 ht.symm
      · have ht := ht.trans (if_neg c8)
        refine z_aload_n O zd_M_advances_144 rfl 0 rfl ?_
        refine z_iconst O (v := 0) zd_M_advances_145 (by decide) ?_
        refine zp_M_127_13 O zd_M_advances_146 rfl rfl ?_
        refine z_aload_n O zd_M_advances_149 rfl 0 rfl ?_
        refine z_aload_n O zd_M_advances_150 rfl 0 rfl ?_
        refine zg_M_16_13 O zd_M_advances_151 (v := .int (r6 13 8)) rfl ?_
        refine zp_M_13_13 O zd_M_advances_154 ?_
        refine z_aload_n O zd_M_advances_157 rfl 0 rfl ?_
        refine z_aload_n O zd_M_advances_158 rfl 0 rfl ?_
        refine zg_M_93_13 O zd_M_advances_159 (v := .int (r6 13 2)) rfl ?_
        refine z_aload_n O zd_M_advances_162 rfl 0 rfl ?_
        refine zg_M_96_13 O zd_M_advances_163 (v := .int (r6 13 3)) rfl ?_
        refine z_icmp_ne O (tgt := 173) zd_M_advances_166 (by decide) (fun c10 => ?_) (fun c10 => ?_)
        · have ht := ht.trans (if_neg c10)
          refine z_aload_n O zd_M_advances_173 rfl 0 rfl ?_
          refine zg_M_121_13 O zd_M_advances_174 (v := .int (r6 13 1)) rfl ?_
          refine z_aload_n O zd_M_advances_177 rfl 0 rfl ?_
          refine zg_M_22_13 O zd_M_advances_178 (v := .int (r6 13 14)) rfl ?_
          refine z_iadd O zd_M_advances_181 ?_
          refine zp_M_25_13 O zd_M_advances_182 ?_
          exact E _ _ _ zd_M_advances_185 ht.symm
        · have ht := ht.trans (if_pos c10)
          refine z_iconst O (v := (-1)) zd_M_advances_169 (by decide) ?_
          refine z_goto O (tgt := 182) zd_M_advances_170 (by decide) ?_
          refine zp_M_25_13 O zd_M_advances_182 ?_
          exact E _ _ _ zd_M_advances_185 ht.symm
    · have ht := ht.trans (if_pos c7)
      have ko := ko c7
      refine z_aload_n O zd_M_advances_89 rfl 0 rfl ?_
      refine z_aload_n O zd_M_advances_90 rfl 0 rfl ?_
      refine zg_M_13_13 O zd_M_advances_91 (v := .int (r6 13 7)) rfl ?_
      refine z_aload_n O zd_M_advances_94 rfl 0 rfl ?_
      refine zg_M_13_13 O zd_M_advances_95 (v := .int (r6 13 7)) rfl ?_
      refine z_aload_n O zd_M_advances_98 rfl 0 rfl ?_
      refine zg_M_16_13 O zd_M_advances_99 (v := .int (r6 13 8)) rfl ?_
      refine z_icmp_ge O (tgt := 109) zd_M_advances_102 (by decide) (fun c11 => ?_) (fun c11 => ?_)
      · have ht := ht.trans (if_pos c11)
        have ko := ko c11
        refine z_bipush O (v := 16) zd_M_advances_109 (by decide) ?_
        refine z_aload_n O zd_M_advances_111 rfl 0 rfl ?_
        refine zg_M_13_13 O zd_M_advances_112 (v := .int (r6 13 7)) rfl ?_
        have b12 := ko
        refine z_idiv O zd_M_advances_115 b12 ?_
        refine z_iconst O (v := 1) zd_M_advances_116 (by decide) ?_
        refine z_callsri O hl0 (st := [.int (r6 13 7), .ref (zq w 13)]) (c_M_greater l w (zuf r6 13 13 0) (16 / (r6 13 7)) 1) zl_M_102 zm895 rfl rfl (Nat.le_of_ble_eq_true rfl) (Nat.le_of_ble_eq_true rfl) (Nat.le_of_ble_eq_true rfl) zd_M_advances_117 (fun r13 e14 => ?_)
        have ht := ht.trans (zlet_e e14)
        refine z_iadd O zd_M_advances_120 ?_
        refine z_sipush O (v := 256) zd_M_advances_121 (by decide) ?_
        refine z_callsri O hl0 (st := [.ref (zq w 13)]) (c_M_lesser l w (zuf r6 13 13 0) ((r6 13 7) + r13) 256) zl_M_134 zm918 rfl rfl (Nat.le_of_ble_eq_true rfl) (Nat.le_of_ble_eq_true rfl) (Nat.le_of_ble_eq_true rfl) zd_M_advances_124 (fun r15 e16 => ?_)
        have ht := ht.trans (zlet_e e16)
        refine zp_M_13_13 O zd_M_advances_127 ?_
        refine z_goto O (tgt := 157) zd_M_advances_130 (by decide) ?_
        refine z_aload_n O zd_M_advances_157 rfl 0 rfl ?_
        refine z_aload_n O zd_M_advances_158 rfl 0 rfl ?_
        refine zg_M_93_13 O zd_M_advances_159 (v := .int (r6 13 2)) rfl ?_
        refine z_aload_n O zd_M_advances_162 rfl 0 rfl ?_
        refine zg_M_96_13 O zd_M_advances_163 (v := .int (r6 13 3)) rfl ?_
        refine z_icmp_ne O (tgt := 173) zd_M_advances_166 (by decide) (fun c17 => ?_) (fun c17 => ?_)
        · have ht := ht.trans (if_neg c17)
          refine z_aload_n O zd_M_advances_173 rfl 0 rfl ?_
          refine zg_M_121_13 O zd_M_advances_174 (v := .int (r6 13 1)) rfl ?_
          refine z_aload_n O zd_M_advances_177 rfl 0 rfl ?_
          refine zg_M_22_13 O zd_M_advances_178 (v := .int (r6 13 14)) rfl ?_
          refine z_iadd O zd_M_advances_181 ?_
          refine zp_M_25_13 O zd_M_advances_182 ?_
          exact E _ _ _ zd_M_advances_185 ht.symm
        · have ht := ht.trans (if_pos c17)
          refine z_iconst O (v := (-1)) zd_M_advances_169 (by decide) ?_
          refine z_goto O (tgt := 182) zd_M_advances_170 (by decide) ?_
          refine zp_M_25_13 O zd_M_advances_182 ?_
          exact E _ _ _ zd_M_advances_185 ht.symm
      · have ht := ht.trans (if_neg c11)
        refine z_iconst O (v := 4) zd_M_advances_105 (by decide) ?_
        refine z_goto O (tgt := 120) zd_M_advances_106 (by decide) ?_
        refine z_iadd O zd_M_advances_120 ?_
        refine z_sipush O (v := 256) zd_M_advances_121 (by decide) ?_
        refine z_callsri O hl0 (st := [.ref (zq w 13)]) (c_M_lesser l w (zuf r6 13 13 0) ((r6 13 7) + 4) 256) zl_M_134 zm918 rfl rfl (Nat.le_of_ble_eq_true rfl) (Nat.le_of_ble_eq_true rfl) (Nat.le_of_ble_eq_true rfl) zd_M_advances_124 (fun r18 e19 => ?_)
        have ht := ht.trans (zlet_e e19)
        refine zp_M_13_13 O zd_M_advances_127 ?_
        refine z_goto O (tgt := 157) zd_M_advances_130 (by decide) ?_
        refine z_aload_n O zd_M_advances_157 rfl 0 rfl ?_
        refine z_aload_n O zd_M_advances_158 rfl 0 rfl ?_
        refine zg_M_93_13 O zd_M_advances_159 (v := .int (r6 13 2)) rfl ?_
        refine z_aload_n O zd_M_advances_162 rfl 0 rfl ?_
        refine zg_M_96_13 O zd_M_advances_163 (v := .int (r6 13 3)) rfl ?_
        refine z_icmp_ne O (tgt := 173) zd_M_advances_166 (by decide) (fun c20 => ?_) (fun c20 => ?_)
        · have ht := ht.trans (if_neg c20)
          refine z_aload_n O zd_M_advances_173 rfl 0 rfl ?_
          refine zg_M_121_13 O zd_M_advances_174 (v := .int (r6 13 1)) rfl ?_
          refine z_aload_n O zd_M_advances_177 rfl 0 rfl ?_
          refine zg_M_22_13 O zd_M_advances_178 (v := .int (r6 13 14)) rfl ?_
          refine z_iadd O zd_M_advances_181 ?_
          refine zp_M_25_13 O zd_M_advances_182 ?_
          exact E _ _ _ zd_M_advances_185 ht.symm
        · have ht := ht.trans (if_pos c20)
          refine z_iconst O (v := (-1)) zd_M_advances_169 (by decide) ?_
          refine z_goto O (tgt := 182) zd_M_advances_170 (by decide) ?_
          refine zp_M_25_13 O zd_M_advances_182 ?_
          exact E _ _ _ zd_M_advances_185 ht.symm
  · have ht := ht.trans (if_neg c1)
    have ko := ko.2 c1
    refine z_iload_n O zd_M_advances_8 rfl 1 rfl ?_
    refine z_aload_n O zd_M_advances_9 rfl 0 rfl ?_
    refine zg_M_28_13 O zd_M_advances_10 (v := .int (σ 13 16)) rfl ?_
    refine z_icmp_lt O (tgt := 34) zd_M_advances_13 (by decide) (fun c21 => ?_) (fun c21 => ?_)
    · have ht := ht.trans (if_pos c21)
      have ko := ko.1 c21
      refine z_aload_n O zd_M_advances_34 rfl 0 rfl ?_
      refine z_iload_n O zd_M_advances_35 rfl 1 rfl ?_
      refine zp_M_93_13 O zd_M_advances_36 ?_
      refine z_aload_n O zd_M_advances_39 rfl 0 rfl ?_
      refine z_aload_n O zd_M_advances_40 rfl 0 rfl ?_
      refine zg_M_96_13 O zd_M_advances_41 (v := .int (σ 13 3)) rfl ?_
      refine z_aload_n O zd_M_advances_44 rfl 0 rfl ?_
      refine zg_M_93_13 O zd_M_advances_45 (v := .int a1) rfl ?_
      refine z_callsri O hl0 (st := [.ref (zq w 13)]) (c_M_greater l w (zuf σ 13 2 a1) (σ 13 3) a1) zl_M_102 zm895 rfl rfl (Nat.le_of_ble_eq_true rfl) (Nat.le_of_ble_eq_true rfl) (Nat.le_of_ble_eq_true rfl) zd_M_advances_48 (fun r22 e23 => ?_)
      have ht := ht.trans (zlet_e e23)
      have ko := ko r22 e23
      refine zp_M_96_13 O zd_M_advances_51 ?_
      refine z_iconst O (v := 0) zd_M_advances_54 (by decide) ?_
      refine z_istore_n O (lv' := [(2, .int 0), (0, .ref (zq w 13)), (1, .int a1)]) zd_M_advances_55 rfl (Nat.le_of_ble_eq_true rfl) rfl ?_
      refine z_sub (lv' := [(0, .ref (zq w 13)), (2, .int 0)]) [1, 0] rfl ?_
      refine L_M_advances_56 O hl0 (((((zuf (zuf σ 13 2 a1) 13 3 r22) 13 2)).toInt - (0 : Int32).toInt).toNat + 2) (zuf (zuf σ 13 2 a1) 13 3 r22) 0 ko.1 (fun r24 er24 => ?_)
      have ht := ht.trans (zlet_e er24)
      have ko := ko.2 r24 er24
      refine z_aload_n O zd_M_advances_77 rfl 0 rfl ?_
      refine z_iconst O (v := 0) zd_M_advances_78 (by decide) ?_
      refine zp_M_146_13 O zd_M_advances_79 ?_
      refine z_aload_n O zd_M_advances_82 rfl 0 rfl ?_
      refine zg_M_127_13 O zd_M_advances_83 (v := .int (r24 13 10)) rfl ?_
      refine z_if_ne O (tgt := 133) zd_M_advances_86 (by decide) (fun c25 => ?_) (fun c25 => ?_)
      · have ht := ht.trans (if_neg c25)
        refine z_aload_n O zd_M_advances_133 rfl 0 rfl ?_
        refine zg_M_93_13 O zd_M_advances_134 (v := .int (r24 13 2)) rfl ?_
        refine z_aload_n O zd_M_advances_137 rfl 0 rfl ?_
        refine zg_M_165_13 O zd_M_advances_138 (v := .int (r24 13 11)) rfl ?_
        refine z_icmp_lt O (tgt := 157) zd_M_advances_141 (by decide) (fun c26 => ?_) (fun c26 => ?_)
        · have ht := ht.trans (if_pos c26)
          refine z_aload_n O zd_M_advances_157 rfl 0 rfl ?_
          refine z_aload_n O zd_M_advances_158 rfl 0 rfl ?_
          refine zg_M_93_13 O zd_M_advances_159 (v := .int (r24 13 2)) rfl ?_
          refine z_aload_n O zd_M_advances_162 rfl 0 rfl ?_
          refine zg_M_96_13 O zd_M_advances_163 (v := .int (r24 13 3)) rfl ?_
          refine z_icmp_ne O (tgt := 173) zd_M_advances_166 (by decide) (fun c27 => ?_) (fun c27 => ?_)
          · have ht := ht.trans (if_neg c27)
            refine z_aload_n O zd_M_advances_173 rfl 0 rfl ?_
            refine zg_M_121_13 O zd_M_advances_174 (v := .int (r24 13 1)) rfl ?_
            refine z_aload_n O zd_M_advances_177 rfl 0 rfl ?_
            refine zg_M_22_13 O zd_M_advances_178 (v := .int (r24 13 14)) rfl ?_
            refine z_iadd O zd_M_advances_181 ?_
            refine zp_M_25_13 O zd_M_advances_182 ?_
            exact E _ _ _ zd_M_advances_185 ht.symm
          · have ht := ht.trans (if_pos c27)
            refine z_iconst O (v := (-1)) zd_M_advances_169 (by decide) ?_
            refine z_goto O (tgt := 182) zd_M_advances_170 (by decide) ?_
            refine zp_M_25_13 O zd_M_advances_182 ?_
            exact E _ _ _ zd_M_advances_185 ht.symm
        · have ht := ht.trans (if_neg c26)
          refine z_aload_n O zd_M_advances_144 rfl 0 rfl ?_
          refine z_iconst O (v := 0) zd_M_advances_145 (by decide) ?_
          refine zp_M_127_13 O zd_M_advances_146 rfl rfl ?_
          refine z_aload_n O zd_M_advances_149 rfl 0 rfl ?_
          refine z_aload_n O zd_M_advances_150 rfl 0 rfl ?_
          refine zg_M_16_13 O zd_M_advances_151 (v := .int (r24 13 8)) rfl ?_
          refine zp_M_13_13 O zd_M_advances_154 ?_
          refine z_aload_n O zd_M_advances_157 rfl 0 rfl ?_
          refine z_aload_n O zd_M_advances_158 rfl 0 rfl ?_
          refine zg_M_93_13 O zd_M_advances_159 (v := .int (r24 13 2)) rfl ?_
          refine z_aload_n O zd_M_advances_162 rfl 0 rfl ?_
          refine zg_M_96_13 O zd_M_advances_163 (v := .int (r24 13 3)) rfl ?_
          refine z_icmp_ne O (tgt := 173) zd_M_advances_166 (by decide) (fun c28 => ?_) (fun c28 => ?_)
          · have ht := ht.trans (if_neg c28)
            refine z_aload_n O zd_M_advances_173 rfl 0 rfl ?_
            refine zg_M_121_13 O zd_M_advances_174 (v := .int (r24 13 1)) rfl ?_
            refine z_aload_n O zd_M_advances_177 rfl 0 rfl ?_
            refine zg_M_22_13 O zd_M_advances_178 (v := .int (r24 13 14)) rfl ?_
            refine z_iadd O zd_M_advances_181 ?_
            refine zp_M_25_13 O zd_M_advances_182 ?_
            exact E _ _ _ zd_M_advances_185 ht.symm
          · have ht := ht.trans (if_pos c28)
            refine z_iconst O (v := (-1)) zd_M_advances_169 (by decide) ?_
            refine z_goto O (tgt := 182) zd_M_advances_170 (by decide) ?_
            refine zp_M_25_13 O zd_M_advances_182 ?_
            exact E _ _ _ zd_M_advances_185 ht.symm
      · have ht := ht.trans (if_pos c25)
        have ko := ko c25
        refine z_aload_n O zd_M_advances_89 rfl 0 rfl ?_
        refine z_aload_n O zd_M_advances_90 rfl 0 rfl ?_
        refine zg_M_13_13 O zd_M_advances_91 (v := .int (r24 13 7)) rfl ?_
        refine z_aload_n O zd_M_advances_94 rfl 0 rfl ?_
        refine zg_M_13_13 O zd_M_advances_95 (v := .int (r24 13 7)) rfl ?_
        refine z_aload_n O zd_M_advances_98 rfl 0 rfl ?_
        refine zg_M_16_13 O zd_M_advances_99 (v := .int (r24 13 8)) rfl ?_
        refine z_icmp_ge O (tgt := 109) zd_M_advances_102 (by decide) (fun c29 => ?_) (fun c29 => ?_)
        · have ht := ht.trans (if_pos c29)
          have ko := ko c29
          refine z_bipush O (v := 16) zd_M_advances_109 (by decide) ?_
          refine z_aload_n O zd_M_advances_111 rfl 0 rfl ?_
          refine zg_M_13_13 O zd_M_advances_112 (v := .int (r24 13 7)) rfl ?_
          have b30 := ko
          refine z_idiv O zd_M_advances_115 b30 ?_
          refine z_iconst O (v := 1) zd_M_advances_116 (by decide) ?_
          refine z_callsri O hl0 (st := [.int (r24 13 7), .ref (zq w 13)]) (c_M_greater l w (zuf r24 13 13 0) (16 / (r24 13 7)) 1) zl_M_102 zm895 rfl rfl (Nat.le_of_ble_eq_true rfl) (Nat.le_of_ble_eq_true rfl) (Nat.le_of_ble_eq_true rfl) zd_M_advances_117 (fun r31 e32 => ?_)
          have ht := ht.trans (zlet_e e32)
          refine z_iadd O zd_M_advances_120 ?_
          refine z_sipush O (v := 256) zd_M_advances_121 (by decide) ?_
          refine z_callsri O hl0 (st := [.ref (zq w 13)]) (c_M_lesser l w (zuf r24 13 13 0) ((r24 13 7) + r31) 256) zl_M_134 zm918 rfl rfl (Nat.le_of_ble_eq_true rfl) (Nat.le_of_ble_eq_true rfl) (Nat.le_of_ble_eq_true rfl) zd_M_advances_124 (fun r33 e34 => ?_)
          have ht := ht.trans (zlet_e e34)
          refine zp_M_13_13 O zd_M_advances_127 ?_
          refine z_goto O (tgt := 157) zd_M_advances_130 (by decide) ?_
          refine z_aload_n O zd_M_advances_157 rfl 0 rfl ?_
          refine z_aload_n O zd_M_advances_158 rfl 0 rfl ?_
          refine zg_M_93_13 O zd_M_advances_159 (v := .int (r24 13 2)) rfl ?_
          refine z_aload_n O zd_M_advances_162 rfl 0 rfl ?_
          refine zg_M_96_13 O zd_M_advances_163 (v := .int (r24 13 3)) rfl ?_
          refine z_icmp_ne O (tgt := 173) zd_M_advances_166 (by decide) (fun c35 => ?_) (fun c35 => ?_)
          · have ht := ht.trans (if_neg c35)
            refine z_aload_n O zd_M_advances_173 rfl 0 rfl ?_
            refine zg_M_121_13 O zd_M_advances_174 (v := .int (r24 13 1)) rfl ?_
            refine z_aload_n O zd_M_advances_177 rfl 0 rfl ?_
            refine zg_M_22_13 O zd_M_advances_178 (v := .int (r24 13 14)) rfl ?_
            refine z_iadd O zd_M_advances_181 ?_
            refine zp_M_25_13 O zd_M_advances_182 ?_
            exact E _ _ _ zd_M_advances_185 ht.symm
          · have ht := ht.trans (if_pos c35)
            refine z_iconst O (v := (-1)) zd_M_advances_169 (by decide) ?_
            refine z_goto O (tgt := 182) zd_M_advances_170 (by decide) ?_
            refine zp_M_25_13 O zd_M_advances_182 ?_
            exact E _ _ _ zd_M_advances_185 ht.symm
        · have ht := ht.trans (if_neg c29)
          refine z_iconst O (v := 4) zd_M_advances_105 (by decide) ?_
          refine z_goto O (tgt := 120) zd_M_advances_106 (by decide) ?_
          refine z_iadd O zd_M_advances_120 ?_
          refine z_sipush O (v := 256) zd_M_advances_121 (by decide) ?_
          refine z_callsri O hl0 (st := [.ref (zq w 13)]) (c_M_lesser l w (zuf r24 13 13 0) ((r24 13 7) + 4) 256) zl_M_134 zm918 rfl rfl (Nat.le_of_ble_eq_true rfl) (Nat.le_of_ble_eq_true rfl) (Nat.le_of_ble_eq_true rfl) zd_M_advances_124 (fun r36 e37 => ?_)
          have ht := ht.trans (zlet_e e37)
          refine zp_M_13_13 O zd_M_advances_127 ?_
          refine z_goto O (tgt := 157) zd_M_advances_130 (by decide) ?_
          refine z_aload_n O zd_M_advances_157 rfl 0 rfl ?_
          refine z_aload_n O zd_M_advances_158 rfl 0 rfl ?_
          refine zg_M_93_13 O zd_M_advances_159 (v := .int (r24 13 2)) rfl ?_
          refine z_aload_n O zd_M_advances_162 rfl 0 rfl ?_
          refine zg_M_96_13 O zd_M_advances_163 (v := .int (r24 13 3)) rfl ?_
          refine z_icmp_ne O (tgt := 173) zd_M_advances_166 (by decide) (fun c38 => ?_) (fun c38 => ?_)
          · have ht := ht.trans (if_neg c38)
            refine z_aload_n O zd_M_advances_173 rfl 0 rfl ?_
            refine zg_M_121_13 O zd_M_advances_174 (v := .int (r24 13 1)) rfl ?_
            refine z_aload_n O zd_M_advances_177 rfl 0 rfl ?_
            refine zg_M_22_13 O zd_M_advances_178 (v := .int (r24 13 14)) rfl ?_
            refine z_iadd O zd_M_advances_181 ?_
            refine zp_M_25_13 O zd_M_advances_182 ?_
            exact E _ _ _ zd_M_advances_185 ht.symm
          · have ht := ht.trans (if_pos c38)
            refine z_iconst O (v := (-1)) zd_M_advances_169 (by decide) ?_
            refine z_goto O (tgt := 182) zd_M_advances_170 (by decide) ?_
            refine zp_M_25_13 O zd_M_advances_182 ?_
            exact E _ _ _ zd_M_advances_185 ht.symm
    · have ht := ht.trans (if_neg c21)
      have ko := ko.2 c21
      refine z_aload_n O zd_M_advances_16 rfl 0 rfl ?_
      refine z_aload_n O zd_M_advances_17 rfl 0 rfl ?_
      refine zg_M_121_13 O zd_M_advances_18 (v := .int (σ 13 1)) rfl ?_
      refine z_aload_n O zd_M_advances_21 rfl 0 rfl ?_
      refine zg_M_124_13 O zd_M_advances_22 (v := .int (σ 13 17)) rfl ?_
      refine z_isub O zd_M_advances_25 ?_
      refine z_callv O hl0 (st := []) 13 6 (fs := zo13 w σ) rfl rfl (c_M_samples l w σ ((σ 13 1) - (σ 13 17))) zl_M_161 zm978 zms33 rfl rfl (Nat.le_of_ble_eq_true rfl) (Nat.le_of_ble_eq_true rfl) (Nat.le_of_ble_eq_true rfl) zd_M_advances_26 (fun u39 e40 => ?_)
      have ht := ht.trans (zlet_e e40)
      have ko := ko u39 e40
      refine z_aload_n O zd_M_advances_29 rfl 0 rfl ?_
      refine z_iconst O (v := (-1)) zd_M_advances_30 (by decide) ?_
      refine zp_M_28_13 O zd_M_advances_31 ?_
      refine z_aload_n O zd_M_advances_34 rfl 0 rfl ?_
      refine z_iload_n O zd_M_advances_35 rfl 1 rfl ?_
      refine zp_M_93_13 O zd_M_advances_36 ?_
      refine z_aload_n O zd_M_advances_39 rfl 0 rfl ?_
      refine z_aload_n O zd_M_advances_40 rfl 0 rfl ?_
      refine zg_M_96_13 O zd_M_advances_41 (v := .int (u39 13 3)) rfl ?_
      refine z_aload_n O zd_M_advances_44 rfl 0 rfl ?_
      refine zg_M_93_13 O zd_M_advances_45 (v := .int a1) rfl ?_
      refine z_callsri O hl0 (st := [.ref (zq w 13)]) (c_M_greater l w (zuf (zuf u39 13 16 (-1)) 13 2 a1) (u39 13 3) a1) zl_M_102 zm895 rfl rfl (Nat.le_of_ble_eq_true rfl) (Nat.le_of_ble_eq_true rfl) (Nat.le_of_ble_eq_true rfl) zd_M_advances_48 (fun r41 e42 => ?_)
      have ht := ht.trans (zlet_e e42)
      have ko := ko r41 e42
      refine zp_M_96_13 O zd_M_advances_51 ?_
      refine z_iconst O (v := 0) zd_M_advances_54 (by decide) ?_
      refine z_istore_n O (lv' := [(2, .int 0), (0, .ref (zq w 13)), (1, .int a1)]) zd_M_advances_55 rfl (Nat.le_of_ble_eq_true rfl) rfl ?_
      refine z_sub (lv' := [(0, .ref (zq w 13)), (2, .int 0)]) [1, 0] rfl ?_
      refine L_M_advances_56 O hl0 (((((zuf (zuf (zuf u39 13 16 (-1)) 13 2 a1) 13 3 r41) 13 2)).toInt - (0 : Int32).toInt).toNat + 2) (zuf (zuf (zuf u39 13 16 (-1)) 13 2 a1) 13 3 r41) 0 ko.1 (fun r43 er43 => ?_)
      have ht := ht.trans (zlet_e er43)
      have ko := ko.2 r43 er43
      refine z_aload_n O zd_M_advances_77 rfl 0 rfl ?_
      refine z_iconst O (v := 0) zd_M_advances_78 (by decide) ?_
      refine zp_M_146_13 O zd_M_advances_79 ?_
      refine z_aload_n O zd_M_advances_82 rfl 0 rfl ?_
      refine zg_M_127_13 O zd_M_advances_83 (v := .int (r43 13 10)) rfl ?_
      refine z_if_ne O (tgt := 133) zd_M_advances_86 (by decide) (fun c44 => ?_) (fun c44 => ?_)
      · have ht := ht.trans (if_neg c44)
        refine z_aload_n O zd_M_advances_133 rfl 0 rfl ?_
        refine zg_M_93_13 O zd_M_advances_134 (v := .int (r43 13 2)) rfl ?_
        refine z_aload_n O zd_M_advances_137 rfl 0 rfl ?_
        refine zg_M_165_13 O zd_M_advances_138 (v := .int (r43 13 11)) rfl ?_
        refine z_icmp_lt O (tgt := 157) zd_M_advances_141 (by decide) (fun c45 => ?_) (fun c45 => ?_)
        · have ht := ht.trans (if_pos c45)
          refine z_aload_n O zd_M_advances_157 rfl 0 rfl ?_
          refine z_aload_n O zd_M_advances_158 rfl 0 rfl ?_
          refine zg_M_93_13 O zd_M_advances_159 (v := .int (r43 13 2)) rfl ?_
          refine z_aload_n O zd_M_advances_162 rfl 0 rfl ?_
          refine zg_M_96_13 O zd_M_advances_163 (v := .int (r43 13 3)) rfl ?_
          refine z_icmp_ne O (tgt := 173) zd_M_advances_166 (by decide) (fun c46 => ?_) (fun c46 => ?_)
          · have ht := ht.trans (if_neg c46)
            refine z_aload_n O zd_M_advances_173 rfl 0 rfl ?_
            refine zg_M_121_13 O zd_M_advances_174 (v := .int (r43 13 1)) rfl ?_
            refine z_aload_n O zd_M_advances_177 rfl 0 rfl ?_
            refine zg_M_22_13 O zd_M_advances_178 (v := .int (r43 13 14)) rfl ?_
            refine z_iadd O zd_M_advances_181 ?_
            refine zp_M_25_13 O zd_M_advances_182 ?_
            exact E _ _ _ zd_M_advances_185 ht.symm
          · have ht := ht.trans (if_pos c46)
            refine z_iconst O (v := (-1)) zd_M_advances_169 (by decide) ?_
            refine z_goto O (tgt := 182) zd_M_advances_170 (by decide) ?_
            refine zp_M_25_13 O zd_M_advances_182 ?_
            exact E _ _ _ zd_M_advances_185 ht.symm
        · have ht := ht.trans (if_neg c45)
          refine z_aload_n O zd_M_advances_144 rfl 0 rfl ?_
          refine z_iconst O (v := 0) zd_M_advances_145 (by decide) ?_
          refine zp_M_127_13 O zd_M_advances_146 rfl rfl ?_
          refine z_aload_n O zd_M_advances_149 rfl 0 rfl ?_
          refine z_aload_n O zd_M_advances_150 rfl 0 rfl ?_
          refine zg_M_16_13 O zd_M_advances_151 (v := .int (r43 13 8)) rfl ?_
          refine zp_M_13_13 O zd_M_advances_154 ?_
          refine z_aload_n O zd_M_advances_157 rfl 0 rfl ?_
          refine z_aload_n O zd_M_advances_158 rfl 0 rfl ?_
          refine zg_M_93_13 O zd_M_advances_159 (v := .int (r43 13 2)) rfl ?_
          refine z_aload_n O zd_M_advances_162 rfl 0 rfl ?_
          refine zg_M_96_13 O zd_M_advances_163 (v := .int (r43 13 3)) rfl ?_
          refine z_icmp_ne O (tgt := 173) zd_M_advances_166 (by decide) (fun c47 => ?_) (fun c47 => ?_)
          · have ht := ht.trans (if_neg c47)
            refine z_aload_n O zd_M_advances_173 rfl 0 rfl ?_
            refine zg_M_121_13 O zd_M_advances_174 (v := .int (r43 13 1)) rfl ?_
            refine z_aload_n O zd_M_advances_177 rfl 0 rfl ?_
            refine zg_M_22_13 O zd_M_advances_178 (v := .int (r43 13 14)) rfl ?_
            refine z_iadd O zd_M_advances_181 ?_
            refine zp_M_25_13 O zd_M_advances_182 ?_
            exact E _ _ _ zd_M_advances_185 ht.symm
          · have ht := ht.trans (if_pos c47)
            refine z_iconst O (v := (-1)) zd_M_advances_169 (by decide) ?_
            refine z_goto O (tgt := 182) zd_M_advances_170 (by decide) ?_
            refine zp_M_25_13 O zd_M_advances_182 ?_
            exact E _ _ _ zd_M_advances_185 ht.symm
      · have ht := ht.trans (if_pos c44)
        have ko := ko c44
        refine z_aload_n O zd_M_advances_89 rfl 0 rfl ?_
        refine z_aload_n O zd_M_advances_90 rfl 0 rfl ?_
        refine zg_M_13_13 O zd_M_advances_91 (v := .int (r43 13 7)) rfl ?_
        refine z_aload_n O zd_M_advances_94 rfl 0 rfl ?_
        refine zg_M_13_13 O zd_M_advances_95 (v := .int (r43 13 7)) rfl ?_
        refine z_aload_n O zd_M_advances_98 rfl 0 rfl ?_
        refine zg_M_16_13 O zd_M_advances_99 (v := .int (r43 13 8)) rfl ?_
        refine z_icmp_ge O (tgt := 109) zd_M_advances_102 (by decide) (fun c48 => ?_) (fun c48 => ?_)
        · have ht := ht.trans (if_pos c48)
          have ko := ko c48
          refine z_bipush O (v := 16) zd_M_advances_109 (by decide) ?_
          refine z_aload_n O zd_M_advances_111 rfl 0 rfl ?_
          refine zg_M_13_13 O zd_M_advances_112 (v := .int (r43 13 7)) rfl ?_
          have b49 := ko
          refine z_idiv O zd_M_advances_115 b49 ?_
          refine z_iconst O (v := 1) zd_M_advances_116 (by decide) ?_
          refine z_callsri O hl0 (st := [.int (r43 13 7), .ref (zq w 13)]) (c_M_greater l w (zuf r43 13 13 0) (16 / (r43 13 7)) 1) zl_M_102 zm895 rfl rfl (Nat.le_of_ble_eq_true rfl) (Nat.le_of_ble_eq_true rfl) (Nat.le_of_ble_eq_true rfl) zd_M_advances_117 (fun r50 e51 => ?_)
          have ht := ht.trans (zlet_e e51)
          refine z_iadd O zd_M_advances_120 ?_
          refine z_sipush O (v := 256) zd_M_advances_121 (by decide) ?_
          refine z_callsri O hl0 (st := [.ref (zq w 13)]) (c_M_lesser l w (zuf r43 13 13 0) ((r43 13 7) + r50) 256) zl_M_134 zm918 rfl rfl (Nat.le_of_ble_eq_true rfl) (Nat.le_of_ble_eq_true rfl) (Nat.le_of_ble_eq_true rfl) zd_M_advances_124 (fun r52 e53 => ?_)
          have ht := ht.trans (zlet_e e53)
          refine zp_M_13_13 O zd_M_advances_127 ?_
          refine z_goto O (tgt := 157) zd_M_advances_130 (by decide) ?_
          refine z_aload_n O zd_M_advances_157 rfl 0 rfl ?_
          refine z_aload_n O zd_M_advances_158 rfl 0 rfl ?_
          refine zg_M_93_13 O zd_M_advances_159 (v := .int (r43 13 2)) rfl ?_
          refine z_aload_n O zd_M_advances_162 rfl 0 rfl ?_
          refine zg_M_96_13 O zd_M_advances_163 (v := .int (r43 13 3)) rfl ?_
          refine z_icmp_ne O (tgt := 173) zd_M_advances_166 (by decide) (fun c54 => ?_) (fun c54 => ?_)
          · have ht := ht.trans (if_neg c54)
            refine z_aload_n O zd_M_advances_173 rfl 0 rfl ?_
            refine zg_M_121_13 O zd_M_advances_174 (v := .int (r43 13 1)) rfl ?_
            refine z_aload_n O zd_M_advances_177 rfl 0 rfl ?_
            refine zg_M_22_13 O zd_M_advances_178 (v := .int (r43 13 14)) rfl ?_
            refine z_iadd O zd_M_advances_181 ?_
            refine zp_M_25_13 O zd_M_advances_182 ?_
            exact E _ _ _ zd_M_advances_185 ht.symm
          · have ht := ht.trans (if_pos c54)
            refine z_iconst O (v := (-1)) zd_M_advances_169 (by decide) ?_
            refine z_goto O (tgt := 182) zd_M_advances_170 (by decide) ?_
            refine zp_M_25_13 O zd_M_advances_182 ?_
            exact E _ _ _ zd_M_advances_185 ht.symm
        · have ht := ht.trans (if_neg c48)
          refine z_iconst O (v := 4) zd_M_advances_105 (by decide) ?_
          refine z_goto O (tgt := 120) zd_M_advances_106 (by decide) ?_
          refine z_iadd O zd_M_advances_120 ?_
          refine z_sipush O (v := 256) zd_M_advances_121 (by decide) ?_
          refine z_callsri O hl0 (st := [.ref (zq w 13)]) (c_M_lesser l w (zuf r43 13 13 0) ((r43 13 7) + 4) 256) zl_M_134 zm918 rfl rfl (Nat.le_of_ble_eq_true rfl) (Nat.le_of_ble_eq_true rfl) (Nat.le_of_ble_eq_true rfl) zd_M_advances_124 (fun r55 e56 => ?_)
          have ht := ht.trans (zlet_e e56)
          refine zp_M_13_13 O zd_M_advances_127 ?_
          refine z_goto O (tgt := 157) zd_M_advances_130 (by decide) ?_
          refine z_aload_n O zd_M_advances_157 rfl 0 rfl ?_
          refine z_aload_n O zd_M_advances_158 rfl 0 rfl ?_
          refine zg_M_93_13 O zd_M_advances_159 (v := .int (r43 13 2)) rfl ?_
          refine z_aload_n O zd_M_advances_162 rfl 0 rfl ?_
          refine zg_M_96_13 O zd_M_advances_163 (v := .int (r43 13 3)) rfl ?_
          refine z_icmp_ne O (tgt := 173) zd_M_advances_166 (by decide) (fun c57 => ?_) (fun c57 => ?_)
          · have ht := ht.trans (if_neg c57)
            refine z_aload_n O zd_M_advances_173 rfl 0 rfl ?_
            refine zg_M_121_13 O zd_M_advances_174 (v := .int (r43 13 1)) rfl ?_
            refine z_aload_n O zd_M_advances_177 rfl 0 rfl ?_
            refine zg_M_22_13 O zd_M_advances_178 (v := .int (r43 13 14)) rfl ?_
            refine z_iadd O zd_M_advances_181 ?_
            refine zp_M_25_13 O zd_M_advances_182 ?_
            exact E _ _ _ zd_M_advances_185 ht.symm
          · have ht := ht.trans (if_pos c57)
            refine z_iconst O (v := (-1)) zd_M_advances_169 (by decide) ?_
            refine z_goto O (tgt := 182) zd_M_advances_170 (by decide) ?_
            refine zp_M_25_13 O zd_M_advances_182 ?_
            exact E _ _ _ zd_M_advances_185 ht.symm
set_option maxHeartbeats 4000000 in
set_option maxRecDepth 100000 in
theorem c_M_recovers (l : Launch) (w : zWd) (σ : zSt) (ko : k_M_recovers σ) : zMv l ({ cls := "SluiceStreamModel", name := "recovers", desc := "()V" } : Jvm.MethodName) prog_8_method_21_code 1 1 22 w [.ref (zq w 13)] σ (fun u => u = (f_M_recovers σ)) := by
  refine zMv_of (by decide +kernel) (Nat.le_of_ble_eq_true rfl) ?_
  intro K O hl0 E
  have ht : (f_M_recovers σ) = (f_M_recovers σ) := rfl
  refine z_sub (lv' := [(0, .ref (zq w 13))]) [0] rfl ?_
  refine z_aload_n O zd_M_recovers_0 rfl 0 rfl ?_
  refine z_iconst O (v := 1) zd_M_recovers_1 (by decide) ?_
  refine zp_M_127_13 O zd_M_recovers_2 rfl rfl ?_
  refine z_aload_n O zd_M_recovers_5 rfl 0 rfl ?_
  refine z_aload_n O zd_M_recovers_6 rfl 0 rfl ?_
  refine z_callri O hl0 (st := [.ref (zq w 13)]) 13 6 (fs := zo13 w (zuf σ 13 10 1)) rfl rfl (c_M_flight l w (zuf σ 13 10 1) ko) zl_M_143 zm930 zms26 rfl rfl (Nat.le_of_ble_eq_true rfl) (Nat.le_of_ble_eq_true rfl) (Nat.le_of_ble_eq_true rfl) zd_M_recovers_7 (fun r1 e2 => ?_)
  have ht := ht.trans (zlet_e e2)
  refine z_iconst O (v := 2) zd_M_recovers_10 (by decide) ?_
  refine z_idiv O zd_M_recovers_11 (by decide) ?_
  refine z_bipush O (v := 8) zd_M_recovers_12 (by decide) ?_
  refine z_callsri O hl0 (st := [.ref (zq w 13)]) (c_M_greater l w (zuf σ 13 10 1) (r1 / 2) 8) zl_M_102 zm895 rfl rfl (Nat.le_of_ble_eq_true rfl) (Nat.le_of_ble_eq_true rfl) (Nat.le_of_ble_eq_true rfl) zd_M_recovers_14 (fun r3 e4 => ?_)
  have ht := ht.trans (zlet_e e4)
  refine zp_M_16_13 O zd_M_recovers_17 ?_
  refine z_aload_n O zd_M_recovers_20 rfl 0 rfl ?_
  refine z_aload_n O zd_M_recovers_21 rfl 0 rfl ?_
  refine zg_M_16_13 O zd_M_recovers_22 (v := .int r3) rfl ?_
  refine zp_M_13_13 O zd_M_recovers_25 ?_
  refine z_aload_n O zd_M_recovers_28 rfl 0 rfl ?_
  refine z_aload_n O zd_M_recovers_29 rfl 0 rfl ?_
  refine zg_M_96_13 O zd_M_recovers_30 (v := .int (σ 13 3)) rfl ?_
  refine zp_M_165_13 O zd_M_recovers_33 ?_
  refine z_aload_n O zd_M_recovers_36 rfl 0 rfl ?_
  refine z_aload_n O zd_M_recovers_37 rfl 0 rfl ?_
  refine zg_M_93_13 O zd_M_recovers_38 (v := .int (σ 13 2)) rfl ?_
  refine zp_M_99_13 O zd_M_recovers_41 ?_
  refine z_aload_n O zd_M_recovers_44 rfl 0 rfl ?_
  refine z_iconst O (v := (-1)) zd_M_recovers_45 (by decide) ?_
  refine zp_M_28_13 O zd_M_recovers_46 ?_
  exact E _ _ _ zd_M_recovers_49 ht.symm
set_option maxHeartbeats 4000000 in
set_option maxRecDepth 100000 in
theorem L_M_arrives_123 {K : zCx} {w : zWd} {l : Launch} (O : zOk K w prog_8_method_22_code "SluiceStreamModel" 6 3 65) (hl0 : kl K = l) (x1 x2 x3 x4 : Int32) : ∀ (m : Nat) (σ : zSt) (x5 : Int32), kl_M_arrives_123 x1 x2 x3 x4 m σ x5 → (∀ r, r = (l_M_arrives_123 x1 x2 x3 x4 m σ x5) → Z K w r [(0, .ref (zq w 13)), (1, .int x1), (2, .int x2), (3, .int x3), (4, .int x4)] [] 149) → Z K w σ [(0, .ref (zq w 13)), (1, .int x1), (2, .int x2), (3, .int x3), (4, .int x4), (5, .int x5)] [] 123 := by
  intro m
  induction m with
  | zero => intro σ x5 ko; exact ko.elim
  | succ m ih =>
    intro σ x5 ko kk
    have ht : l_M_arrives_123 x1 x2 x3 x4 (m + 1) σ x5 = l_M_arrives_123 x1 x2 x3 x4 (m + 1) σ x5 := rfl
    refine z_iload O zd_M_arrives_123 5 rfl ?_
    refine z_aload_n O zd_M_arrives_125 rfl 0 rfl ?_
    refine zg_M_63_13 O zd_M_arrives_126 (v := .ref (zq w 24)) rfl ?_
    refine z_iload O zd_M_arrives_129 4 rfl ?_
    have b13 := ko.1
    have ko := ko.2
    refine z_iald O 24 (zae24 w σ) b13 (v := (σ 24 x4.toNatClampNeg)) rfl zd_M_arrives_131 ?_
    refine z_icmp_ge O (tgt := 149) zd_M_arrives_132 (by decide) (fun c14 => ?_) (fun c14 => ?_)
    · have ht := ht.trans (if_pos c14)
      refine z_sub (lv' := [(0, .ref (zq w 13)), (1, .int x1), (2, .int x2), (3, .int x3), (4, .int x4)]) [0, 1, 2, 3, 4] rfl ?_
      exact kk σ ht.symm
    · have ht := ht.trans (if_neg c14)
      have ko := ko c14
      refine z_aload_n O zd_M_arrives_135 rfl 0 rfl ?_
      refine zg_M_35_13 O zd_M_arrives_136 (v := .ref (zq w 15)) rfl ?_
      refine z_iload O zd_M_arrives_139 5 rfl ?_
      refine z_iconst O (v := 1) zd_M_arrives_141 (by decide) ?_
      have b15 := ko.1
      have ko := ko.2
      refine z_zast O 15 (zae15 w σ) b15 rfl (zas15 w σ _ _) zd_M_arrives_142 ?_
      refine z_iinc O (v := (x5 + 1)) (lv' := [(5, .int (x5 + 1)), (0, .ref (zq w 13)), (1, .int x1), (2, .int x2), (3, .int x3), (4, .int x4)]) zd_M_arrives_143 5 rfl rfl (Nat.le_of_ble_eq_true rfl) rfl ?_
      refine z_goto O (tgt := 123) zd_M_arrives_146 (by decide) ?_
      refine z_sub (lv' := [(0, .ref (zq w 13)), (1, .int x1), (2, .int x2), (3, .int x3), (4, .int x4), (5, .int (x5 + 1))]) [1, 2, 3, 4, 5, 0] rfl ?_
      exact ih (zuf σ 15 x5.toNatClampNeg 1) (x5 + 1) ko (fun r e => kk r (e.trans ht.symm))
set_option maxHeartbeats 4000000 in
set_option maxRecDepth 100000 in
theorem L_M_arrives_92 {K : zCx} {w : zWd} {l : Launch} (O : zOk K w prog_8_method_22_code "SluiceStreamModel" 6 3 65) (hl0 : kl K = l) (x1 x2 x3 : Int32) : ∀ (m : Nat) (σ : zSt) (x4 : Int32), kl_M_arrives_92 x1 x2 x3 m σ x4 → (∀ r, r = (l_M_arrives_92 x1 x2 x3 m σ x4) → Z K w r [(0, .ref (zq w 13)), (2, .int x2), (3, .int x3)] [] 155) → Z K w σ [(0, .ref (zq w 13)), (1, .int x1), (2, .int x2), (3, .int x3), (4, .int x4)] [] 92 := by
  intro m
  induction m with
  | zero => intro σ x4 ko; exact ko.elim
  | succ m ih =>
    intro σ x4 ko kk
    have ht : l_M_arrives_92 x1 x2 x3 (m + 1) σ x4 = l_M_arrives_92 x1 x2 x3 (m + 1) σ x4 := rfl
    refine z_iload O zd_M_arrives_92 4 rfl ?_
    refine z_iconst O (v := 3) zd_M_arrives_94 (by decide) ?_
    refine z_iload_n O zd_M_arrives_95 rfl 1 rfl ?_
    refine z_imul O zd_M_arrives_96 ?_
    refine z_aload_n O zd_M_arrives_97 rfl 0 rfl ?_
    refine zg_M_57_13 O zd_M_arrives_98 (v := .ref (zq w 22)) rfl ?_
    refine z_iload_n O zd_M_arrives_101 rfl 1 rfl ?_
    have b8 := ko.1
    have ko := ko.2
    refine z_iald O 22 (zae22 w σ) b8 (v := (σ 22 x1.toNatClampNeg)) rfl zd_M_arrives_102 ?_
    refine z_iadd O zd_M_arrives_103 ?_
    refine z_icmp_ge O (tgt := 155) zd_M_arrives_104 (by decide) (fun c9 => ?_) (fun c9 => ?_)
    · have ht := ht.trans (if_pos c9)
      refine z_sub (lv' := [(0, .ref (zq w 13)), (2, .int x2), (3, .int x3)]) [0, 2, 3] rfl ?_
      exact kk σ ht.symm
    · have ht := ht.trans (if_neg c9)
      have ko := ko c9
      refine z_aload_n O zd_M_arrives_107 rfl 0 rfl ?_
      refine zg_M_93_13 O zd_M_arrives_108 (v := .int (σ 13 2)) rfl ?_
      refine z_aload_n O zd_M_arrives_111 rfl 0 rfl ?_
      refine zg_M_60_13 O zd_M_arrives_112 (v := .ref (zq w 23)) rfl ?_
      refine z_iload O zd_M_arrives_115 4 rfl ?_
      have b10 := ko.1
      have ko := ko.2
      refine z_iald O 23 (zae23 w σ) b10 (v := (σ 23 x4.toNatClampNeg)) rfl zd_M_arrives_117 ?_
      refine z_callsri O hl0 (st := []) (c_M_greater l w σ (σ 13 2) (σ 23 x4.toNatClampNeg)) zl_M_102 zm895 rfl rfl (Nat.le_of_ble_eq_true rfl) (Nat.le_of_ble_eq_true rfl) (Nat.le_of_ble_eq_true rfl) zd_M_arrives_118 (fun r11 e12 => ?_)
      have ht := ht.trans (zlet_e e12)
      have ko := ko r11 e12
      refine z_istore O (lv' := [(5, .int r11), (0, .ref (zq w 13)), (1, .int x1), (2, .int x2), (3, .int x3), (4, .int x4)]) zd_M_arrives_121 (Nat.le_of_ble_eq_true rfl) rfl ?_
      refine z_sub (lv' := [(0, .ref (zq w 13)), (1, .int x1), (2, .int x2), (3, .int x3), (4, .int x4), (5, .int r11)]) [1, 2, 3, 4, 5, 0] rfl ?_
      refine L_M_arrives_123 O hl0 x1 x2 x3 x4 ((((σ 24 x4.toNatClampNeg)).toInt - (r11).toInt).toNat + 2) σ r11 ko.1 (fun r16 er16 => ?_)
      have ht := ht.trans (zlet_e er16)
      have ko := ko.2 r16 er16
      refine z_iinc O (v := (x4 + 1)) (lv' := [(4, .int (x4 + 1)), (0, .ref (zq w 13)), (1, .int x1), (2, .int x2), (3, .int x3)]) zd_M_arrives_149 4 rfl rfl (Nat.le_of_ble_eq_true rfl) rfl ?_
      refine z_goto O (tgt := 92) zd_M_arrives_152 (by decide) ?_
      refine z_sub (lv' := [(0, .ref (zq w 13)), (1, .int x1), (2, .int x2), (3, .int x3), (4, .int (x4 + 1))]) [1, 2, 3, 4, 0] rfl ?_
      exact ih r16 (x4 + 1) ko (fun r e => kk r (e.trans ht.symm))
set_option maxHeartbeats 4000000 in
set_option maxRecDepth 100000 in
theorem c_M_arrives (l : Launch) (w : zWd) (σ : zSt) (a1 : Int32) (ko : k_M_arrives σ a1) : zMv l ({ cls := "SluiceStreamModel", name := "arrives", desc := "(I)V" } : Jvm.MethodName) prog_8_method_22_code 6 3 65 w [.ref (zq w 13), .int a1] σ (fun u => u = (f_M_arrives σ a1)) := by
  refine zMv_of (by decide +kernel) (Nat.le_of_ble_eq_true rfl) ?_
  intro K O hl0 E
  have ht : (f_M_arrives σ a1) = (f_M_arrives σ a1) := rfl
  refine z_sub (lv' := [(0, .ref (zq w 13)), (1, .int a1)]) [0, 1] rfl ?_
  refine z_aload_n O zd_M_arrives_0 rfl 0 rfl ?_
  refine zg_M_51_13 O zd_M_arrives_1 (v := .ref (zq w 20)) rfl ?_
  refine z_iload_n O zd_M_arrives_4 rfl 1 rfl ?_
  have b1 := ko.1
  have ko := ko.2
  refine z_iald O 20 (zae20 w σ) b1 (v := (σ 20 a1.toNatClampNeg)) rfl zd_M_arrives_5 ?_
  refine z_aload_n O zd_M_arrives_6 rfl 0 rfl ?_
  refine zg_M_54_13 O zd_M_arrives_7 (v := .ref (zq w 21)) rfl ?_
  refine z_iload_n O zd_M_arrives_10 rfl 1 rfl ?_
  have b2 := ko.1
  have ko := ko.2
  refine z_iald O 21 (zae21 w σ) b2 (v := (σ 21 a1.toNatClampNeg)) rfl zd_M_arrives_11 ?_
  refine z_iadd O zd_M_arrives_12 ?_
  refine z_aload_n O zd_M_arrives_13 rfl 0 rfl ?_
  refine zg_M_9_13 O zd_M_arrives_14 (v := .int (σ 13 6)) rfl ?_
  refine z_icmp_le O (tgt := 24) zd_M_arrives_17 (by decide) (fun c3 => ?_) (fun c3 => ?_)
  · have ht := ht.trans (if_pos c3)
    have ko := ko.1 c3
    refine z_iconst O (v := 0) zd_M_arrives_24 (by decide) ?_
    refine z_istore_n O (lv' := [(2, .int 0), (0, .ref (zq w 13)), (1, .int a1)]) zd_M_arrives_25 rfl (Nat.le_of_ble_eq_true rfl) rfl ?_
    refine z_aload_n O zd_M_arrives_26 rfl 1 rfl ?_
    refine zg_M_51_13 O zd_M_arrives_27 (v := .ref (zq w 20)) rfl ?_
    refine z_iload_n O zd_M_arrives_30 rfl 2 rfl ?_
    have b4 := ko.1
    have ko := ko.2
    refine z_iald O 20 (zae20 w σ) b4 (v := (σ 20 a1.toNatClampNeg)) rfl zd_M_arrives_31 ?_
    refine z_aload_n O zd_M_arrives_32 rfl 1 rfl ?_
    refine zg_M_93_13 O zd_M_arrives_33 (v := .int (σ 13 2)) rfl ?_
    refine z_icmp_le O (tgt := 43) zd_M_arrives_36 (by decide) (fun c5 => ?_) (fun c5 => ?_)
    · have ht := ht.trans (if_pos c5)
      have ko := ko.1 c5
      refine z_iconst O (v := 0) zd_M_arrives_43 (by decide) ?_
      refine z_istore_n O (lv' := [(3, .int 0), (2, .int 0), (0, .ref (zq w 13)), (1, .int a1)]) zd_M_arrives_44 rfl (Nat.le_of_ble_eq_true rfl) rfl ?_
      refine z_aload_n O zd_M_arrives_45 rfl 2 rfl ?_
      refine z_iload_n O zd_M_arrives_46 rfl 1 rfl ?_
      refine z_if_eq O (tgt := 66) zd_M_arrives_47 (by decide) (fun c6 => ?_) (fun c6 => absurd c6 (by decide))
      refine z_aload_n O zd_M_arrives_66 rfl 2 rfl ?_
      refine zg_M_9_13 O zd_M_arrives_67 (v := .int (σ 13 6)) rfl ?_
      refine zp_M_9_13 O zd_M_arrives_70 ?_
      refine z_iload_n O zd_M_arrives_73 rfl 0 rfl ?_
      refine z_if_eq O (tgt := 87) zd_M_arrives_74 (by decide) (fun c7 => ?_) (fun c7 => absurd c7 (by decide))
      refine z_iconst O (v := 3) zd_M_arrives_87 (by decide) ?_
      refine z_iload_n O zd_M_arrives_88 rfl 3 rfl ?_
      refine z_imul O zd_M_arrives_89 ?_
      refine z_istore O (lv' := [(4, .int (3 * a1)), (3, .int 0), (2, .int 0), (0, .ref (zq w 13)), (1, .int a1)]) zd_M_arrives_90 (Nat.le_of_ble_eq_true rfl) rfl ?_
      refine z_sub (lv' := [(0, .ref (zq w 13)), (1, .int a1), (2, .int 0), (3, .int 0), (4, .int (3 * a1))]) [3, 4, 2, 1, 0] rfl ?_
      refine L_M_arrives_92 O hl0 a1 0 0 (((((3 * a1) + ((zuf σ 13 6 (σ 13 6)) 22 a1.toNatClampNeg))).toInt - ((3 * a1)).toInt).toNat + 2) (zuf σ 13 6 (σ 13 6)) (3 * a1) ko.1 (fun r17 er17 => ?_)
      have ht := ht.trans (zlet_e er17)
      have ko := ko.2 r17 er17
      refine z_iload_n O zd_M_arrives_155 rfl 2 rfl ?_
      refine z_if_ne O (tgt := 203) zd_M_arrives_156 (by decide) (fun c18 => absurd c18 (by decide)) (fun c18 => ?_)
      refine z_aload_n O zd_M_arrives_159 rfl 0 rfl ?_
      refine zg_M_93_13 O zd_M_arrives_160 (v := .int (r17 13 2)) rfl ?_
      refine z_aload_n O zd_M_arrives_163 rfl 0 rfl ?_
      refine zg_M_96_13 O zd_M_arrives_164 (v := .int (r17 13 3)) rfl ?_
      refine z_icmp_ge O (tgt := 203) zd_M_arrives_167 (by decide) (fun c19 => ?_) (fun c19 => ?_)
      · have ht := ht.trans (if_pos c19)
        exact E _ _ _ zd_M_arrives_203 ht.symm
      · have ht := ht.trans (if_neg c19)
        have ko := ko c19
        refine z_iload_n O zd_M_arrives_170 rfl 1 rfl ?_
        refine z_if_ne O (tgt := 203) zd_M_arrives_171 (by decide) (fun c20 => absurd c20 (by decide)) (fun c20 => ?_)
        refine z_aload_n O zd_M_arrives_174 rfl 0 rfl ?_
        refine z_dup O zd_M_arrives_175 rfl ?_
        refine zg_M_146_13 O zd_M_arrives_176 (v := .int (r17 13 13)) rfl ?_
        refine z_iconst O (v := 1) zd_M_arrives_179 (by decide) ?_
        refine z_iadd O zd_M_arrives_180 ?_
        refine zp_M_146_13 O zd_M_arrives_181 ?_
        refine z_aload_n O zd_M_arrives_184 rfl 0 rfl ?_
        refine zg_M_146_13 O zd_M_arrives_185 (v := .int ((r17 13 13) + 1)) rfl ?_
        refine z_iconst O (v := 3) zd_M_arrives_188 (by decide) ?_
        refine z_icmp_ne O (tgt := 203) zd_M_arrives_189 (by decide) (fun c21 => ?_) (fun c21 => ?_)
        · have ht := ht.trans (if_neg c21)
          exact E _ _ _ zd_M_arrives_203 ht.symm
        · have ht := ht.trans (if_pos c21)
          have ko := ko c21
          refine z_aload_n O zd_M_arrives_192 rfl 0 rfl ?_
          refine zg_M_127_13 O zd_M_arrives_193 (v := .int (r17 13 10)) rfl ?_
          refine z_if_ne O (tgt := 203) zd_M_arrives_196 (by decide) (fun c22 => ?_) (fun c22 => ?_)
          · have ht := ht.trans (if_neg c22)
            exact E _ _ _ zd_M_arrives_203 ht.symm
          · have ht := ht.trans (if_pos c22)
            have ko := ko c22
            refine z_aload_n O zd_M_arrives_199 rfl 0 rfl ?_
            refine z_callv O hl0 (st := []) 13 6 (fs := zo13 w (zuf r17 13 13 ((r17 13 13) + 1))) rfl rfl (c_M_recovers l w (zuf r17 13 13 ((r17 13 13) + 1)) ko) zl_M_171 zm982 zms34 rfl rfl (Nat.le_of_ble_eq_true rfl) (Nat.le_of_ble_eq_true rfl) (Nat.le_of_ble_eq_true rfl) zd_M_arrives_200 (fun u23 e24 => ?_)
            have ht := ht.trans (zlet_e e24)
            exact E _ _ _ zd_M_arrives_203 ht.symm
    · have ht := ht.trans (if_neg c5)
      have ko := ko.2 c5
      refine z_iconst O (v := 1) zd_M_arrives_39 (by decide) ?_
      refine z_goto O (tgt := 44) zd_M_arrives_40 (by decide) ?_
      refine z_istore_n O (lv' := [(3, .int 1), (2, .int 0), (0, .ref (zq w 13)), (1, .int a1)]) zd_M_arrives_44 rfl (Nat.le_of_ble_eq_true rfl) rfl ?_
      refine z_aload_n O zd_M_arrives_45 rfl 2 rfl ?_
      refine z_iload_n O zd_M_arrives_46 rfl 1 rfl ?_
      refine z_if_eq O (tgt := 66) zd_M_arrives_47 (by decide) (fun c25 => ?_) (fun c25 => absurd c25 (by decide))
      refine z_aload_n O zd_M_arrives_66 rfl 2 rfl ?_
      refine zg_M_9_13 O zd_M_arrives_67 (v := .int (σ 13 6)) rfl ?_
      refine zp_M_9_13 O zd_M_arrives_70 ?_
      refine z_iload_n O zd_M_arrives_73 rfl 0 rfl ?_
      refine z_if_eq O (tgt := 87) zd_M_arrives_74 (by decide) (fun c26 => absurd c26 (by decide)) (fun c26 => ?_)
      refine z_aload_n O zd_M_arrives_77 rfl 2 rfl ?_
      refine z_aload_n O zd_M_arrives_78 rfl 2 rfl ?_
      refine zg_M_51_13 O zd_M_arrives_79 (v := .ref (zq w 20)) rfl ?_
      refine z_iload_n O zd_M_arrives_82 rfl 3 rfl ?_
      have b27 := ko.1
      have ko := ko.2
      refine z_iald O 20 (zae20 w (zuf σ 13 6 (σ 13 6))) b27 (v := (σ 20 a1.toNatClampNeg)) rfl zd_M_arrives_83 ?_
      refine z_callv O hl0 (st := []) 13 6 (fs := zo13 w (zuf σ 13 6 (σ 13 6))) rfl rfl (c_M_advances l w (zuf σ 13 6 (σ 13 6)) (σ 20 a1.toNatClampNeg) ko.1) zl_M_168 zm974 zms32 rfl rfl (Nat.le_of_ble_eq_true rfl) (Nat.le_of_ble_eq_true rfl) (Nat.le_of_ble_eq_true rfl) zd_M_arrives_84 (fun u28 e29 => ?_)
      have ht := ht.trans (zlet_e e29)
      have ko := ko.2 u28 e29
      refine z_iconst O (v := 3) zd_M_arrives_87 (by decide) ?_
      refine z_iload_n O zd_M_arrives_88 rfl 3 rfl ?_
      refine z_imul O zd_M_arrives_89 ?_
      refine z_istore O (lv' := [(4, .int (3 * a1)), (3, .int 1), (2, .int 0), (0, .ref (zq w 13)), (1, .int a1)]) zd_M_arrives_90 (Nat.le_of_ble_eq_true rfl) rfl ?_
      refine z_sub (lv' := [(0, .ref (zq w 13)), (1, .int a1), (2, .int 0), (3, .int 1), (4, .int (3 * a1))]) [3, 4, 2, 1, 0] rfl ?_
      refine L_M_arrives_92 O hl0 a1 0 1 (((((3 * a1) + (u28 22 a1.toNatClampNeg))).toInt - ((3 * a1)).toInt).toNat + 2) u28 (3 * a1) ko (fun r30 er30 => ?_)
      have ht := ht.trans (zlet_e er30)
      refine z_iload_n O zd_M_arrives_155 rfl 2 rfl ?_
      refine z_if_ne O (tgt := 203) zd_M_arrives_156 (by decide) (fun c31 => ?_) (fun c31 => absurd c31 (by decide))
      exact E _ _ _ zd_M_arrives_203 ht.symm
  · have ht := ht.trans (if_neg c3)
    have ko := ko.2 c3
    refine z_iconst O (v := 1) zd_M_arrives_20 (by decide) ?_
    refine z_goto O (tgt := 25) zd_M_arrives_21 (by decide) ?_
    refine z_istore_n O (lv' := [(2, .int 1), (0, .ref (zq w 13)), (1, .int a1)]) zd_M_arrives_25 rfl (Nat.le_of_ble_eq_true rfl) rfl ?_
    refine z_aload_n O zd_M_arrives_26 rfl 1 rfl ?_
    refine zg_M_51_13 O zd_M_arrives_27 (v := .ref (zq w 20)) rfl ?_
    refine z_iload_n O zd_M_arrives_30 rfl 2 rfl ?_
    have b32 := ko.1
    have ko := ko.2
    refine z_iald O 20 (zae20 w σ) b32 (v := (σ 20 a1.toNatClampNeg)) rfl zd_M_arrives_31 ?_
    refine z_aload_n O zd_M_arrives_32 rfl 1 rfl ?_
    refine zg_M_93_13 O zd_M_arrives_33 (v := .int (σ 13 2)) rfl ?_
    refine z_icmp_le O (tgt := 43) zd_M_arrives_36 (by decide) (fun c33 => ?_) (fun c33 => ?_)
    · have ht := ht.trans (if_pos c33)
      have ko := ko.1 c33
      refine z_iconst O (v := 0) zd_M_arrives_43 (by decide) ?_
      refine z_istore_n O (lv' := [(3, .int 0), (2, .int 1), (0, .ref (zq w 13)), (1, .int a1)]) zd_M_arrives_44 rfl (Nat.le_of_ble_eq_true rfl) rfl ?_
      refine z_aload_n O zd_M_arrives_45 rfl 2 rfl ?_
      refine z_iload_n O zd_M_arrives_46 rfl 1 rfl ?_
      refine z_if_eq O (tgt := 66) zd_M_arrives_47 (by decide) (fun c34 => absurd c34 (by decide)) (fun c34 => ?_)
      refine z_aload_n O zd_M_arrives_50 rfl 2 rfl ?_
      refine zg_M_51_13 O zd_M_arrives_51 (v := .ref (zq w 20)) rfl ?_
      refine z_iload_n O zd_M_arrives_54 rfl 3 rfl ?_
      have b35 := ko.1
      have ko := ko.2
      refine z_iald O 20 (zae20 w σ) b35 (v := (σ 20 a1.toNatClampNeg)) rfl zd_M_arrives_55 ?_
      refine z_aload_n O zd_M_arrives_56 rfl 2 rfl ?_
      refine zg_M_54_13 O zd_M_arrives_57 (v := .ref (zq w 21)) rfl ?_
      refine z_iload_n O zd_M_arrives_60 rfl 3 rfl ?_
      have b36 := ko.1
      have ko := ko.2
      refine z_iald O 21 (zae21 w σ) b36 (v := (σ 21 a1.toNatClampNeg)) rfl zd_M_arrives_61 ?_
      refine z_iadd O zd_M_arrives_62 ?_
      refine z_goto O (tgt := 70) zd_M_arrives_63 (by decide) ?_
      refine zp_M_9_13 O zd_M_arrives_70 ?_
      refine z_iload_n O zd_M_arrives_73 rfl 0 rfl ?_
      refine z_if_eq O (tgt := 87) zd_M_arrives_74 (by decide) (fun c37 => ?_) (fun c37 => absurd c37 (by decide))
      refine z_iconst O (v := 3) zd_M_arrives_87 (by decide) ?_
      refine z_iload_n O zd_M_arrives_88 rfl 3 rfl ?_
      refine z_imul O zd_M_arrives_89 ?_
      refine z_istore O (lv' := [(4, .int (3 * a1)), (3, .int 0), (2, .int 1), (0, .ref (zq w 13)), (1, .int a1)]) zd_M_arrives_90 (Nat.le_of_ble_eq_true rfl) rfl ?_
      refine z_sub (lv' := [(0, .ref (zq w 13)), (1, .int a1), (2, .int 1), (3, .int 0), (4, .int (3 * a1))]) [3, 4, 2, 1, 0] rfl ?_
      refine L_M_arrives_92 O hl0 a1 1 0 (((((3 * a1) + ((zuf σ 13 6 ((σ 20 a1.toNatClampNeg) + (σ 21 a1.toNatClampNeg))) 22 a1.toNatClampNeg))).toInt - ((3 * a1)).toInt).toNat + 2) (zuf σ 13 6 ((σ 20 a1.toNatClampNeg) + (σ 21 a1.toNatClampNeg))) (3 * a1) ko (fun r38 er38 => ?_)
      have ht := ht.trans (zlet_e er38)
      refine z_iload_n O zd_M_arrives_155 rfl 2 rfl ?_
      refine z_if_ne O (tgt := 203) zd_M_arrives_156 (by decide) (fun c39 => absurd c39 (by decide)) (fun c39 => ?_)
      refine z_aload_n O zd_M_arrives_159 rfl 0 rfl ?_
      refine zg_M_93_13 O zd_M_arrives_160 (v := .int (r38 13 2)) rfl ?_
      refine z_aload_n O zd_M_arrives_163 rfl 0 rfl ?_
      refine zg_M_96_13 O zd_M_arrives_164 (v := .int (r38 13 3)) rfl ?_
      refine z_icmp_ge O (tgt := 203) zd_M_arrives_167 (by decide) (fun c40 => ?_) (fun c40 => ?_)
      · have ht := ht.trans (if_pos c40)
        exact E _ _ _ zd_M_arrives_203 ht.symm
      · have ht := ht.trans (if_neg c40)
        refine z_iload_n O zd_M_arrives_170 rfl 1 rfl ?_
        refine z_if_ne O (tgt := 203) zd_M_arrives_171 (by decide) (fun c41 => ?_) (fun c41 => absurd c41 (by decide))
        exact E _ _ _ zd_M_arrives_203 ht.symm
    · have ht := ht.trans (if_neg c33)
      have ko := ko.2 c33
      refine z_iconst O (v := 1) zd_M_arrives_39 (by decide) ?_
      refine z_goto O (tgt := 44) zd_M_arrives_40 (by decide) ?_
      refine z_istore_n O (lv' := [(3, .int 1), (2, .int 1), (0, .ref (zq w 13)), (1, .int a1)]) zd_M_arrives_44 rfl (Nat.le_of_ble_eq_true rfl) rfl ?_
      refine z_aload_n O zd_M_arrives_45 rfl 2 rfl ?_
      refine z_iload_n O zd_M_arrives_46 rfl 1 rfl ?_
      refine z_if_eq O (tgt := 66) zd_M_arrives_47 (by decide) (fun c42 => absurd c42 (by decide)) (fun c42 => ?_)
      refine z_aload_n O zd_M_arrives_50 rfl 2 rfl ?_
      refine zg_M_51_13 O zd_M_arrives_51 (v := .ref (zq w 20)) rfl ?_
      refine z_iload_n O zd_M_arrives_54 rfl 3 rfl ?_
      have b43 := ko.1
      have ko := ko.2
      refine z_iald O 20 (zae20 w σ) b43 (v := (σ 20 a1.toNatClampNeg)) rfl zd_M_arrives_55 ?_
      refine z_aload_n O zd_M_arrives_56 rfl 2 rfl ?_
      refine zg_M_54_13 O zd_M_arrives_57 (v := .ref (zq w 21)) rfl ?_
      refine z_iload_n O zd_M_arrives_60 rfl 3 rfl ?_
      have b44 := ko.1
      have ko := ko.2
      refine z_iald O 21 (zae21 w σ) b44 (v := (σ 21 a1.toNatClampNeg)) rfl zd_M_arrives_61 ?_
      refine z_iadd O zd_M_arrives_62 ?_
      refine z_goto O (tgt := 70) zd_M_arrives_63 (by decide) ?_
      refine zp_M_9_13 O zd_M_arrives_70 ?_
      refine z_iload_n O zd_M_arrives_73 rfl 0 rfl ?_
      refine z_if_eq O (tgt := 87) zd_M_arrives_74 (by decide) (fun c45 => absurd c45 (by decide)) (fun c45 => ?_)
      refine z_aload_n O zd_M_arrives_77 rfl 2 rfl ?_
      refine z_aload_n O zd_M_arrives_78 rfl 2 rfl ?_
      refine zg_M_51_13 O zd_M_arrives_79 (v := .ref (zq w 20)) rfl ?_
      refine z_iload_n O zd_M_arrives_82 rfl 3 rfl ?_
      have b46 := ko.1
      have ko := ko.2
      refine z_iald O 20 (zae20 w (zuf σ 13 6 ((σ 20 a1.toNatClampNeg) + (σ 21 a1.toNatClampNeg)))) b46 (v := (σ 20 a1.toNatClampNeg)) rfl zd_M_arrives_83 ?_
      refine z_callv O hl0 (st := []) 13 6 (fs := zo13 w (zuf σ 13 6 ((σ 20 a1.toNatClampNeg) + (σ 21 a1.toNatClampNeg)))) rfl rfl (c_M_advances l w (zuf σ 13 6 ((σ 20 a1.toNatClampNeg) + (σ 21 a1.toNatClampNeg))) (σ 20 a1.toNatClampNeg) ko.1) zl_M_168 zm974 zms32 rfl rfl (Nat.le_of_ble_eq_true rfl) (Nat.le_of_ble_eq_true rfl) (Nat.le_of_ble_eq_true rfl) zd_M_arrives_84 (fun u47 e48 => ?_)
      have ht := ht.trans (zlet_e e48)
      have ko := ko.2 u47 e48
      refine z_iconst O (v := 3) zd_M_arrives_87 (by decide) ?_
      refine z_iload_n O zd_M_arrives_88 rfl 3 rfl ?_
      refine z_imul O zd_M_arrives_89 ?_
      refine z_istore O (lv' := [(4, .int (3 * a1)), (3, .int 1), (2, .int 1), (0, .ref (zq w 13)), (1, .int a1)]) zd_M_arrives_90 (Nat.le_of_ble_eq_true rfl) rfl ?_
      refine z_sub (lv' := [(0, .ref (zq w 13)), (1, .int a1), (2, .int 1), (3, .int 1), (4, .int (3 * a1))]) [3, 4, 2, 1, 0] rfl ?_
      refine L_M_arrives_92 O hl0 a1 1 1 (((((3 * a1) + (u47 22 a1.toNatClampNeg))).toInt - ((3 * a1)).toInt).toNat + 2) u47 (3 * a1) ko (fun r49 er49 => ?_)
      have ht := ht.trans (zlet_e er49)
      refine z_iload_n O zd_M_arrives_155 rfl 2 rfl ?_
      refine z_if_ne O (tgt := 203) zd_M_arrives_156 (by decide) (fun c50 => ?_) (fun c50 => absurd c50 (by decide))
      exact E _ _ _ zd_M_arrives_203 ht.symm
set_option maxHeartbeats 4000000 in
set_option maxRecDepth 100000 in
theorem c_M_isSegment (l : Launch) (w : zWd) (σ : zSt) (a1 : Int32) : zMi l ({ cls := "SluiceStreamModel", name := "isSegment", desc := "(I)Z" } : Jvm.MethodName) prog_8_method_28_code 2 1 22 .boolean w [.ref (zq w 13), .int a1] σ (fun r u => r = (f_M_isSegment σ a1) ∧ u = σ) := by
  refine zMi_of (by decide +kernel) (Nat.le_of_ble_eq_true rfl) ?_
  intro K O hl0 E
  have ht : (f_M_isSegment σ a1) = (f_M_isSegment σ a1) := rfl
  refine z_sub (lv' := [(0, .ref (zq w 13)), (1, .int a1)]) [0, 1] rfl ?_
  refine z_iload_n O zd_M_isSegment_0 rfl 1 rfl ?_
  refine z_iconst O (v := 0) zd_M_isSegment_1 (by decide) ?_
  refine z_aload_n O zd_M_isSegment_2 rfl 0 rfl ?_
  refine zg_M_109_13 O zd_M_isSegment_3 (v := .int (σ 13 32)) rfl ?_
  refine z_iconst O (v := 1) zd_M_isSegment_6 (by decide) ?_
  refine z_isub O zd_M_isSegment_7 ?_
  refine z_callsri O hl0 (st := []) (c_M_isIn l w σ a1 0 ((σ 13 32) - 1)) zl_M_69 zm864 rfl rfl (Nat.le_of_ble_eq_true rfl) (Nat.le_of_ble_eq_true rfl) (Nat.le_of_ble_eq_true rfl) zd_M_isSegment_8 (fun r1 e2 => ?_)
  have ht := ht.trans (zlet_e e2)
  exact E _ _ _ _ zd_M_isSegment_11 (by rw [e2]; unfold f_M_isIn; (repeat' split) <;> rfl) ⟨ht.symm, rfl⟩
set_option maxHeartbeats 4000000 in
set_option maxRecDepth 100000 in
theorem c_M_isAck (l : Launch) (w : zWd) (σ : zSt) (a1 : Int32) : zMi l ({ cls := "SluiceStreamModel", name := "isAck", desc := "(I)Z" } : Jvm.MethodName) prog_8_method_29_code 2 1 22 .boolean w [.ref (zq w 13), .int a1] σ (fun r u => r = (f_M_isAck σ a1) ∧ u = σ) := by
  refine zMi_of (by decide +kernel) (Nat.le_of_ble_eq_true rfl) ?_
  intro K O hl0 E
  have ht : (f_M_isAck σ a1) = (f_M_isAck σ a1) := rfl
  refine z_sub (lv' := [(0, .ref (zq w 13)), (1, .int a1)]) [0, 1] rfl ?_
  refine z_iload_n O zd_M_isAck_0 rfl 1 rfl ?_
  refine z_iconst O (v := 0) zd_M_isAck_1 (by decide) ?_
  refine z_aload_n O zd_M_isAck_2 rfl 0 rfl ?_
  refine zg_M_174_13 O zd_M_isAck_3 (v := .int (σ 13 38)) rfl ?_
  refine z_iconst O (v := 1) zd_M_isAck_6 (by decide) ?_
  refine z_isub O zd_M_isAck_7 ?_
  refine z_callsri O hl0 (st := []) (c_M_isIn l w σ a1 0 ((σ 13 38) - 1)) zl_M_69 zm864 rfl rfl (Nat.le_of_ble_eq_true rfl) (Nat.le_of_ble_eq_true rfl) (Nat.le_of_ble_eq_true rfl) zd_M_isAck_8 (fun r1 e2 => ?_)
  have ht := ht.trans (zlet_e e2)
  exact E _ _ _ _ zd_M_isAck_11 (by rw [e2]; unfold f_M_isIn; (repeat' split) <;> rfl) ⟨ht.symm, rfl⟩
set_option maxHeartbeats 4000000 in
set_option maxRecDepth 100000 in
theorem L_M_takes_12 {K : zCx} {w : zWd} {l : Launch} (O : zOk K w prog_8_method_30_code "SluiceStreamModel" 3 0 0) (hl0 : kl K = l) : ∀ (m : Nat) (σ : zSt) (x2 : Int32), kl_M_takes_12  m σ x2 → (∀ r, r = (l_M_takes_12  m σ x2) → Z K w r [] [] 54) → Z K w σ [(0, .ref (zq w 13)), (2, .int x2)] [] 12 := by
  intro m
  induction m with
  | zero => intro σ x2 ko; exact ko.elim
  | succ m ih =>
    intro σ x2 ko kk
    have ht : l_M_takes_12  (m + 1) σ x2 = l_M_takes_12  (m + 1) σ x2 := rfl
    refine z_iload_n O zd_M_takes_12 rfl 1 rfl ?_
    refine z_aload_n O zd_M_takes_13 rfl 0 rfl ?_
    refine zg_M_109_13 O zd_M_takes_14 (v := .int (σ 13 32)) rfl ?_
    refine z_icmp_ge O (tgt := 54) zd_M_takes_17 (by decide) (fun c1 => ?_) (fun c1 => ?_)
    · have ht := ht.trans (if_pos c1)
      refine z_sub (lv' := []) [] rfl ?_
      exact kk σ ht.symm
    · have ht := ht.trans (if_neg c1)
      have ko := ko c1
      refine z_aload_n O zd_M_takes_20 rfl 0 rfl ?_
      refine zg_M_45_13 O zd_M_takes_21 (v := .ref (zq w 18)) rfl ?_
      refine z_iload_n O zd_M_takes_24 rfl 1 rfl ?_
      refine z_aload_n O zd_M_takes_25 rfl 0 rfl ?_
      refine zg_M_45_13 O zd_M_takes_26 (v := .ref (zq w 18)) rfl ?_
      refine z_iload_n O zd_M_takes_29 rfl 1 rfl ?_
      refine z_iconst O (v := 1) zd_M_takes_30 (by decide) ?_
      refine z_iadd O zd_M_takes_31 ?_
      have b2 := ko.1
      have ko := ko.2
      refine z_iald O 18 (zae18 w σ) b2 (v := (σ 18 ((x2 + 1) : Int32).toNatClampNeg)) rfl zd_M_takes_32 ?_
      have b3 := ko.1
      have ko := ko.2
      refine z_iast O 18 (zae18 w σ) b3 (zas18 w σ _ _) zd_M_takes_33 ?_
      refine z_aload_n O zd_M_takes_34 rfl 0 rfl ?_
      refine zg_M_48_13 O zd_M_takes_35 (v := .ref (zq w 19)) rfl ?_
      refine z_iload_n O zd_M_takes_38 rfl 1 rfl ?_
      refine z_aload_n O zd_M_takes_39 rfl 0 rfl ?_
      refine zg_M_48_13 O zd_M_takes_40 (v := .ref (zq w 19)) rfl ?_
      refine z_iload_n O zd_M_takes_43 rfl 1 rfl ?_
      refine z_iconst O (v := 1) zd_M_takes_44 (by decide) ?_
      refine z_iadd O zd_M_takes_45 ?_
      have b4 := ko.1
      have ko := ko.2
      refine z_iald O 19 (zae19 w (zuf σ 18 x2.toNatClampNeg (σ 18 ((x2 + 1) : Int32).toNatClampNeg))) b4 (v := (σ 19 ((x2 + 1) : Int32).toNatClampNeg)) rfl zd_M_takes_46 ?_
      have b5 := ko.1
      have ko := ko.2
      refine z_iast O 19 (zae19 w (zuf σ 18 x2.toNatClampNeg (σ 18 ((x2 + 1) : Int32).toNatClampNeg))) b5 (zas19 w (zuf σ 18 x2.toNatClampNeg (σ 18 ((x2 + 1) : Int32).toNatClampNeg)) _ _) zd_M_takes_47 ?_
      refine z_iinc O (v := (x2 + 1)) (lv' := [(2, .int (x2 + 1)), (0, .ref (zq w 13))]) zd_M_takes_48 1 rfl rfl (Nat.le_of_ble_eq_true rfl) rfl ?_
      refine z_goto O (tgt := 12) zd_M_takes_51 (by decide) ?_
      refine z_sub (lv' := [(0, .ref (zq w 13)), (2, .int (x2 + 1))]) [1, 0] rfl ?_
      exact ih (zuf (zuf σ 18 x2.toNatClampNeg (σ 18 ((x2 + 1) : Int32).toNatClampNeg)) 19 x2.toNatClampNeg (σ 19 ((x2 + 1) : Int32).toNatClampNeg)) (x2 + 1) ko (fun r e => kk r (e.trans ht.symm))
set_option maxHeartbeats 4000000 in
set_option maxRecDepth 100000 in
theorem c_M_takes (l : Launch) (w : zWd) (σ : zSt) (a1 : Int32) (ko : k_M_takes σ a1) : zMv l ({ cls := "SluiceStreamModel", name := "takes", desc := "(I)V" } : Jvm.MethodName) prog_8_method_30_code 3 0 0 w [.ref (zq w 13), .int a1] σ (fun u => u = (f_M_takes σ a1)) := by
  refine zMv_of (by decide +kernel) (Nat.le_of_ble_eq_true rfl) ?_
  intro K O hl0 E
  have ht : (f_M_takes σ a1) = (f_M_takes σ a1) := rfl
  refine z_sub (lv' := [(0, .ref (zq w 13)), (1, .int a1)]) [0, 1] rfl ?_
  refine z_aload_n O zd_M_takes_0 rfl 0 rfl ?_
  refine z_dup O zd_M_takes_1 rfl ?_
  refine zg_M_109_13 O zd_M_takes_2 (v := .int (σ 13 32)) rfl ?_
  refine z_iconst O (v := 1) zd_M_takes_5 (by decide) ?_
  refine z_isub O zd_M_takes_6 ?_
  refine zp_M_109_13 O zd_M_takes_7 ?_
  refine z_iload_n O zd_M_takes_10 rfl 1 rfl ?_
  refine z_istore_n O (lv' := [(2, .int a1), (0, .ref (zq w 13)), (1, .int a1)]) zd_M_takes_11 rfl (Nat.le_of_ble_eq_true rfl) rfl ?_
  refine z_sub (lv' := [(0, .ref (zq w 13)), (2, .int a1)]) [1, 0] rfl ?_
  refine L_M_takes_12 O hl0 (((((zuf σ 13 32 ((σ 13 32) - 1)) 13 32)).toInt - (a1).toInt).toNat + 2) (zuf σ 13 32 ((σ 13 32) - 1)) a1 ko (fun r6 er6 => ?_)
  have ht := ht.trans (zlet_e er6)
  exact E _ _ _ zd_M_takes_54 ht.symm
set_option maxHeartbeats 4000000 in
set_option maxRecDepth 100000 in
theorem L_M_deliver_41 {K : zCx} {w : zWd} {l : Launch} (O : zOk K w prog_8_method_31_code "SluiceStreamModel" 4 3 69) (hl0 : kl K = l) (x1 : Int32) : ∀ (m : Nat) (σ : zSt) (x2 x3 : Int32), kl_M_deliver_41 x1 m σ x2 x3 → (∀ r, r = (l_M_deliver_41 x1 m σ x2 x3) → Z K w r.2 [(0, .ref (zq w 13)), (1, .int x1), (2, .int r.1)] [] 97) → Z K w σ [(0, .ref (zq w 13)), (1, .int x1), (2, .int x2), (3, .int x3)] [] 41 := by
  intro m
  induction m with
  | zero => intro σ x2 x3 ko; exact ko.elim
  | succ m ih =>
    intro σ x2 x3 ko kk
    have ht : l_M_deliver_41 x1 (m + 1) σ x2 x3 = l_M_deliver_41 x1 (m + 1) σ x2 x3 := rfl
    refine z_iload_n O zd_M_deliver_41 rfl 3 rfl ?_
    refine z_aload_n O zd_M_deliver_42 rfl 0 rfl ?_
    refine zg_M_48_13 O zd_M_deliver_43 (v := .ref (zq w 19)) rfl ?_
    refine z_iload_n O zd_M_deliver_46 rfl 1 rfl ?_
    have b9 := ko.1
    have ko := ko.2
    refine z_iald O 19 (zae19 w σ) b9 (v := (σ 19 x1.toNatClampNeg)) rfl zd_M_deliver_47 ?_
    refine z_icmp_ge O (tgt := 97) zd_M_deliver_48 (by decide) (fun c10 => ?_) (fun c10 => ?_)
    · have ht := ht.trans (if_pos c10)
      refine z_sub (lv' := [(0, .ref (zq w 13)), (1, .int x1), (2, .int x2)]) [0, 1, 2] rfl ?_
      exact kk (x2, σ) ht.symm
    · have ht := ht.trans (if_neg c10)
      have ko := ko c10
      refine z_iload_n O zd_M_deliver_51 rfl 3 rfl ?_
      refine z_aload_n O zd_M_deliver_52 rfl 0 rfl ?_
      refine zg_M_80_13 O zd_M_deliver_53 (v := .int (σ 13 29)) rfl ?_
      refine z_bipush O (v := 32) zd_M_deliver_56 (by decide) ?_
      refine z_iadd O zd_M_deliver_58 ?_
      refine z_icmp_ge O (tgt := 97) zd_M_deliver_59 (by decide) (fun c11 => ?_) (fun c11 => ?_)
      · have ht := ht.trans (if_pos c11)
        refine z_sub (lv' := [(0, .ref (zq w 13)), (1, .int x1), (2, .int x2)]) [0, 1, 2] rfl ?_
        exact kk (x2, σ) ht.symm
      · have ht := ht.trans (if_neg c11)
        have ko := ko c11
        refine z_aload_n O zd_M_deliver_62 rfl 0 rfl ?_
        refine zg_M_39_13 O zd_M_deliver_63 (v := .ref (zq w 16)) rfl ?_
        refine z_iload_n O zd_M_deliver_66 rfl 3 rfl ?_
        have b12 := ko.1
        have ko := ko.2
        refine z_zald O 16 (zae16 w σ) b12 (v := (σ 16 x3.toNatClampNeg)) rfl zd_M_deliver_67 ?_
        refine z_if_ne O (tgt := 91) zd_M_deliver_68 (by decide) (fun c13 => ?_) (fun c13 => ?_)
        · have ht := ht.trans (if_neg c13)
          have ko := ko.2 c13
          refine z_iinc O (v := (x3 + 1)) (lv' := [(3, .int (x3 + 1)), (0, .ref (zq w 13)), (1, .int x1), (2, .int x2)]) zd_M_deliver_91 3 rfl rfl (Nat.le_of_ble_eq_true rfl) rfl ?_
          refine z_goto O (tgt := 41) zd_M_deliver_94 (by decide) ?_
          refine z_sub (lv' := [(0, .ref (zq w 13)), (1, .int x1), (2, .int x2), (3, .int (x3 + 1))]) [1, 2, 3, 0] rfl ?_
          exact ih σ x2 (x3 + 1) ko (fun r e => kk r (e.trans ht.symm))
        · have ht := ht.trans (if_pos c13)
          have ko := ko.1 c13
          refine z_aload_n O zd_M_deliver_71 rfl 0 rfl ?_
          refine zg_M_39_13 O zd_M_deliver_72 (v := .ref (zq w 16)) rfl ?_
          refine z_iload_n O zd_M_deliver_75 rfl 3 rfl ?_
          refine z_iconst O (v := 1) zd_M_deliver_76 (by decide) ?_
          have b14 := ko.1
          have ko := ko.2
          refine z_zast O 16 (zae16 w σ) b14 rfl (zas16 w σ _ _) zd_M_deliver_77 ?_
          refine z_aload_n O zd_M_deliver_78 rfl 0 rfl ?_
          refine zg_M_42_13 O zd_M_deliver_79 (v := .ref (zq w 17)) rfl ?_
          refine z_iload_n O zd_M_deliver_82 rfl 3 rfl ?_
          refine z_aload_n O zd_M_deliver_83 rfl 0 rfl ?_
          refine zg_M_180_13 O zd_M_deliver_84 (v := .int (σ 13 27)) rfl ?_
          have b15 := ko.1
          have ko := ko.2
          refine z_iast O 17 (zae17 w (zuf σ 16 x3.toNatClampNeg 1)) b15 (zas17 w (zuf σ 16 x3.toNatClampNeg 1) _ _) zd_M_deliver_87 ?_
          refine z_iinc O (v := (x2 + 1)) (lv' := [(2, .int (x2 + 1)), (0, .ref (zq w 13)), (1, .int x1), (3, .int x3)]) zd_M_deliver_88 2 rfl rfl (Nat.le_of_ble_eq_true rfl) rfl ?_
          refine z_iinc O (v := (x3 + 1)) (lv' := [(3, .int (x3 + 1)), (2, .int (x2 + 1)), (0, .ref (zq w 13)), (1, .int x1)]) zd_M_deliver_91 3 rfl rfl (Nat.le_of_ble_eq_true rfl) rfl ?_
          refine z_goto O (tgt := 41) zd_M_deliver_94 (by decide) ?_
          refine z_sub (lv' := [(0, .ref (zq w 13)), (1, .int x1), (2, .int (x2 + 1)), (3, .int (x3 + 1))]) [2, 3, 1, 0] rfl ?_
          exact ih (zuf (zuf σ 16 x3.toNatClampNeg 1) 17 x3.toNatClampNeg (σ 13 27)) (x2 + 1) (x3 + 1) ko (fun r e => kk r (e.trans ht.symm))
set_option maxHeartbeats 4000000 in
set_option maxRecDepth 100000 in
theorem c_M_deliver (l : Launch) (w : zWd) (σ : zSt) (a1 : Int32) (ko : k_M_deliver σ a1) : zMi l ({ cls := "SluiceStreamModel", name := "deliver", desc := "(I)I" } : Jvm.MethodName) prog_8_method_31_code 4 3 69 .int w [.ref (zq w 13), .int a1] σ (fun r u => (r, u) = (f_M_deliver σ a1)) := by
  refine zMi_of (by decide +kernel) (Nat.le_of_ble_eq_true rfl) ?_
  intro K O hl0 E
  have ht : (f_M_deliver σ a1) = (f_M_deliver σ a1) := rfl
  refine z_sub (lv' := [(0, .ref (zq w 13)), (1, .int a1)]) [0, 1] rfl ?_
  refine z_aload_n O zd_M_deliver_0 rfl 0 rfl ?_
  refine z_aload_n O zd_M_deliver_1 rfl 0 rfl ?_
  refine z_iload_n O zd_M_deliver_2 rfl 1 rfl ?_
  refine z_callri O hl0 (st := [.ref (zq w 13)]) 13 6 (fs := zo13 w σ) rfl rfl (c_M_isSegment l w σ a1) zl_M_193 zm946 zms28 rfl rfl (Nat.le_of_ble_eq_true rfl) (Nat.le_of_ble_eq_true rfl) (Nat.le_of_ble_eq_true rfl) zd_M_deliver_3 (fun r1 e2 => ?_)
  have ht := ht.trans (zlet_e e2)
  have ko := ko r1 e2
  refine z_if_eq O (tgt := 13) zd_M_deliver_6 (by decide) (fun c3 => ?_) (fun c3 => ?_)
  · have ht := ht.trans (if_pos c3)
    have ko := ko.1 c3
    refine z_iconst O (v := 1) zd_M_deliver_13 (by decide) ?_
    refine z_calli O hl0 (st := []) 13 6 (fs := zo13 w σ) rfl rfl (c_M_isFine l w σ 1) zl_M_76 zm868 zms15 rfl rfl (Nat.le_of_ble_eq_true rfl) (Nat.le_of_ble_eq_true rfl) (Nat.le_of_ble_eq_true rfl) zd_M_deliver_14 (fun r4 u5 e6 => ?_)
    have ht := ht.trans (zseq_e e6)
    have ko := ko r4 u5 e6
    refine z_if_ne O (tgt := 22) zd_M_deliver_17 (by decide) (fun c7 => ?_) (fun c7 => ?_)
    · have ht := ht.trans (if_neg c7)
      have ko := ko c7
      refine z_aload_n O zd_M_deliver_22 rfl 0 rfl ?_
      refine z_dup O zd_M_deliver_23 rfl ?_
      refine zg_M_180_13 O zd_M_deliver_24 (v := .int (u5 13 27)) rfl ?_
      refine z_iconst O (v := 1) zd_M_deliver_27 (by decide) ?_
      refine z_iadd O zd_M_deliver_28 ?_
      refine zp_M_180_13 O zd_M_deliver_29 ?_
      refine z_iconst O (v := 0) zd_M_deliver_32 (by decide) ?_
      refine z_istore_n O (lv' := [(2, .int 0), (0, .ref (zq w 13)), (1, .int a1)]) zd_M_deliver_33 rfl (Nat.le_of_ble_eq_true rfl) rfl ?_
      refine z_aload_n O zd_M_deliver_34 rfl 1 rfl ?_
      refine zg_M_45_13 O zd_M_deliver_35 (v := .ref (zq w 18)) rfl ?_
      refine z_iload_n O zd_M_deliver_38 rfl 2 rfl ?_
      have b8 := ko.1
      have ko := ko.2
      refine z_iald O 18 (zae18 w (zuf u5 13 27 ((u5 13 27) + 1))) b8 (v := (u5 18 a1.toNatClampNeg)) rfl zd_M_deliver_39 ?_
      refine z_istore_n O (lv' := [(3, .int (u5 18 a1.toNatClampNeg)), (2, .int 0), (0, .ref (zq w 13)), (1, .int a1)]) zd_M_deliver_40 rfl (Nat.le_of_ble_eq_true rfl) rfl ?_
      refine z_sub (lv' := [(0, .ref (zq w 13)), (1, .int a1), (2, .int 0), (3, .int (u5 18 a1.toNatClampNeg))]) [2, 3, 1, 0] rfl ?_
      refine L_M_deliver_41 O hl0 a1 (((((zuf u5 13 27 ((u5 13 27) + 1)) 19 a1.toNatClampNeg)).toInt - ((u5 18 a1.toNatClampNeg)).toInt).toNat + 2) (zuf u5 13 27 ((u5 13 27) + 1)) 0 (u5 18 a1.toNatClampNeg) ko.1 (fun r16 er16 => ?_)
      have ht := ht.trans (zlet_e er16)
      have ko := ko.2 r16 er16
      refine z_aload_n O zd_M_deliver_97 rfl 0 rfl ?_
      refine z_aload_n O zd_M_deliver_98 rfl 0 rfl ?_
      refine z_aload_n O zd_M_deliver_99 rfl 0 rfl ?_
      refine zg_M_83_13 O zd_M_deliver_100 (v := .int (r16.2 13 28)) rfl ?_
      refine z_callri O hl0 (st := [.ref (zq w 13)]) 13 6 (fs := zo13 w r16.2) rfl rfl (c_M_runEnd l w r16.2 (r16.2 13 28) ko.1) zl_M_190 zm899 zms21 rfl rfl (Nat.le_of_ble_eq_true rfl) (Nat.le_of_ble_eq_true rfl) (Nat.le_of_ble_eq_true rfl) zd_M_deliver_103 (fun r17 e18 => ?_)
      have ht := ht.trans (zlet_e e18)
      have ko := ko.2 r17 e18
      refine zp_M_83_13 O zd_M_deliver_106 ?_
      refine z_aload_n O zd_M_deliver_109 rfl 0 rfl ?_
      refine z_iload_n O zd_M_deliver_110 rfl 1 rfl ?_
      refine z_callv O hl0 (st := []) 13 6 (fs := zo13 w (zuf r16.2 13 28 r17)) rfl rfl (c_M_takes l w (zuf r16.2 13 28 r17) a1 ko.1) zl_M_196 zm950 zms29 rfl rfl (Nat.le_of_ble_eq_true rfl) (Nat.le_of_ble_eq_true rfl) (Nat.le_of_ble_eq_true rfl) zd_M_deliver_111 (fun u19 e20 => ?_)
      have ht := ht.trans (zlet_e e20)
      have ko := ko.2 u19 e20
      refine z_aload_n O zd_M_deliver_114 rfl 0 rfl ?_
      refine z_callv O hl0 (st := []) 13 6 (fs := zo13 w u19) rfl rfl (c_M_answers l w u19 ko) zl_M_90 zm880 zms17 rfl rfl (Nat.le_of_ble_eq_true rfl) (Nat.le_of_ble_eq_true rfl) (Nat.le_of_ble_eq_true rfl) zd_M_deliver_115 (fun u21 e22 => ?_)
      have ht := ht.trans (zlet_e e22)
      refine z_iload_n O zd_M_deliver_118 rfl 2 rfl ?_
      exact E _ _ _ _ zd_M_deliver_119 rfl ht.symm
    · have ht := ht.trans (if_pos c7)
      refine z_iconst O (v := 0) zd_M_deliver_20 (by decide) ?_
      exact E _ _ _ _ zd_M_deliver_21 rfl ht.symm
  · have ht := ht.trans (if_neg c3)
    have ko := ko.2 c3
    refine z_iconst O (v := 0) zd_M_deliver_9 (by decide) ?_
    refine z_goto O (tgt := 14) zd_M_deliver_10 (by decide) ?_
    refine z_calli O hl0 (st := []) 13 6 (fs := zo13 w σ) rfl rfl (c_M_isFine l w σ 0) zl_M_76 zm868 zms15 rfl rfl (Nat.le_of_ble_eq_true rfl) (Nat.le_of_ble_eq_true rfl) (Nat.le_of_ble_eq_true rfl) zd_M_deliver_14 (fun r23 u24 e25 => ?_)
    have ht := ht.trans (zseq_e e25)
    have ko := ko r23 u24 e25
    refine z_if_ne O (tgt := 22) zd_M_deliver_17 (by decide) (fun c26 => ?_) (fun c26 => ?_)
    · have ht := ht.trans (if_neg c26)
      have ko := ko c26
      refine z_aload_n O zd_M_deliver_22 rfl 0 rfl ?_
      refine z_dup O zd_M_deliver_23 rfl ?_
      refine zg_M_180_13 O zd_M_deliver_24 (v := .int (u24 13 27)) rfl ?_
      refine z_iconst O (v := 1) zd_M_deliver_27 (by decide) ?_
      refine z_iadd O zd_M_deliver_28 ?_
      refine zp_M_180_13 O zd_M_deliver_29 ?_
      refine z_iconst O (v := 0) zd_M_deliver_32 (by decide) ?_
      refine z_istore_n O (lv' := [(2, .int 0), (0, .ref (zq w 13)), (1, .int a1)]) zd_M_deliver_33 rfl (Nat.le_of_ble_eq_true rfl) rfl ?_
      refine z_aload_n O zd_M_deliver_34 rfl 1 rfl ?_
      refine zg_M_45_13 O zd_M_deliver_35 (v := .ref (zq w 18)) rfl ?_
      refine z_iload_n O zd_M_deliver_38 rfl 2 rfl ?_
      have b27 := ko.1
      have ko := ko.2
      refine z_iald O 18 (zae18 w (zuf u24 13 27 ((u24 13 27) + 1))) b27 (v := (u24 18 a1.toNatClampNeg)) rfl zd_M_deliver_39 ?_
      refine z_istore_n O (lv' := [(3, .int (u24 18 a1.toNatClampNeg)), (2, .int 0), (0, .ref (zq w 13)), (1, .int a1)]) zd_M_deliver_40 rfl (Nat.le_of_ble_eq_true rfl) rfl ?_
      refine z_sub (lv' := [(0, .ref (zq w 13)), (1, .int a1), (2, .int 0), (3, .int (u24 18 a1.toNatClampNeg))]) [2, 3, 1, 0] rfl ?_
      refine L_M_deliver_41 O hl0 a1 (((((zuf u24 13 27 ((u24 13 27) + 1)) 19 a1.toNatClampNeg)).toInt - ((u24 18 a1.toNatClampNeg)).toInt).toNat + 2) (zuf u24 13 27 ((u24 13 27) + 1)) 0 (u24 18 a1.toNatClampNeg) ko.1 (fun r28 er28 => ?_)
      have ht := ht.trans (zlet_e er28)
      have ko := ko.2 r28 er28
      refine z_aload_n O zd_M_deliver_97 rfl 0 rfl ?_
      refine z_aload_n O zd_M_deliver_98 rfl 0 rfl ?_
      refine z_aload_n O zd_M_deliver_99 rfl 0 rfl ?_
      refine zg_M_83_13 O zd_M_deliver_100 (v := .int (r28.2 13 28)) rfl ?_
      refine z_callri O hl0 (st := [.ref (zq w 13)]) 13 6 (fs := zo13 w r28.2) rfl rfl (c_M_runEnd l w r28.2 (r28.2 13 28) ko.1) zl_M_190 zm899 zms21 rfl rfl (Nat.le_of_ble_eq_true rfl) (Nat.le_of_ble_eq_true rfl) (Nat.le_of_ble_eq_true rfl) zd_M_deliver_103 (fun r29 e30 => ?_)
      have ht := ht.trans (zlet_e e30)
      have ko := ko.2 r29 e30
      refine zp_M_83_13 O zd_M_deliver_106 ?_
      refine z_aload_n O zd_M_deliver_109 rfl 0 rfl ?_
      refine z_iload_n O zd_M_deliver_110 rfl 1 rfl ?_
      refine z_callv O hl0 (st := []) 13 6 (fs := zo13 w (zuf r28.2 13 28 r29)) rfl rfl (c_M_takes l w (zuf r28.2 13 28 r29) a1 ko.1) zl_M_196 zm950 zms29 rfl rfl (Nat.le_of_ble_eq_true rfl) (Nat.le_of_ble_eq_true rfl) (Nat.le_of_ble_eq_true rfl) zd_M_deliver_111 (fun u31 e32 => ?_)
      have ht := ht.trans (zlet_e e32)
      have ko := ko.2 u31 e32
      refine z_aload_n O zd_M_deliver_114 rfl 0 rfl ?_
      refine z_callv O hl0 (st := []) 13 6 (fs := zo13 w u31) rfl rfl (c_M_answers l w u31 ko) zl_M_90 zm880 zms17 rfl rfl (Nat.le_of_ble_eq_true rfl) (Nat.le_of_ble_eq_true rfl) (Nat.le_of_ble_eq_true rfl) zd_M_deliver_115 (fun u33 e34 => ?_)
      have ht := ht.trans (zlet_e e34)
      refine z_iload_n O zd_M_deliver_118 rfl 2 rfl ?_
      exact E _ _ _ _ zd_M_deliver_119 rfl ht.symm
    · have ht := ht.trans (if_pos c26)
      refine z_iconst O (v := 0) zd_M_deliver_20 (by decide) ?_
      exact E _ _ _ _ zd_M_deliver_21 rfl ht.symm
set_option maxHeartbeats 4000000 in
set_option maxRecDepth 100000 in
theorem c_M_lose (l : Launch) (w : zWd) (σ : zSt) (a1 : Int32) (ko : k_M_lose σ a1) : zMi l ({ cls := "SluiceStreamModel", name := "lose", desc := "(I)I" } : Jvm.MethodName) prog_8_method_32_code 3 2 43 .int w [.ref (zq w 13), .int a1] σ (fun r u => (r, u) = (f_M_lose σ a1)) := by
  refine zMi_of (by decide +kernel) (Nat.le_of_ble_eq_true rfl) ?_
  intro K O hl0 E
  have ht : (f_M_lose σ a1) = (f_M_lose σ a1) := rfl
  refine z_sub (lv' := [(0, .ref (zq w 13)), (1, .int a1)]) [0, 1] rfl ?_
  refine z_aload_n O zd_M_lose_0 rfl 0 rfl ?_
  refine z_aload_n O zd_M_lose_1 rfl 0 rfl ?_
  refine z_iload_n O zd_M_lose_2 rfl 1 rfl ?_
  refine z_callri O hl0 (st := [.ref (zq w 13)]) 13 6 (fs := zo13 w σ) rfl rfl (c_M_isSegment l w σ a1) zl_M_193 zm946 zms28 rfl rfl (Nat.le_of_ble_eq_true rfl) (Nat.le_of_ble_eq_true rfl) (Nat.le_of_ble_eq_true rfl) zd_M_lose_3 (fun r1 e2 => ?_)
  have ht := ht.trans (zlet_e e2)
  have ko := ko r1 e2
  refine z_if_eq O (tgt := 13) zd_M_lose_6 (by decide) (fun c3 => ?_) (fun c3 => ?_)
  · have ht := ht.trans (if_pos c3)
    have ko := ko.1 c3
    refine z_iconst O (v := 1) zd_M_lose_13 (by decide) ?_
    refine z_calli O hl0 (st := []) 13 6 (fs := zo13 w σ) rfl rfl (c_M_isFine l w σ 1) zl_M_76 zm868 zms15 rfl rfl (Nat.le_of_ble_eq_true rfl) (Nat.le_of_ble_eq_true rfl) (Nat.le_of_ble_eq_true rfl) zd_M_lose_14 (fun r4 u5 e6 => ?_)
    have ht := ht.trans (zseq_e e6)
    have ko := ko r4 u5 e6
    refine z_if_ne O (tgt := 22) zd_M_lose_17 (by decide) (fun c7 => ?_) (fun c7 => ?_)
    · have ht := ht.trans (if_neg c7)
      have ko := ko c7
      refine z_aload_n O zd_M_lose_22 rfl 0 rfl ?_
      refine zg_M_45_13 O zd_M_lose_23 (v := .ref (zq w 18)) rfl ?_
      refine z_iload_n O zd_M_lose_26 rfl 1 rfl ?_
      have b8 := ko.1
      have ko := ko.2
      refine z_iald O 18 (zae18 w u5) b8 (v := (u5 18 a1.toNatClampNeg)) rfl zd_M_lose_27 ?_
      refine z_istore_n O (lv' := [(2, .int (u5 18 a1.toNatClampNeg)), (0, .ref (zq w 13)), (1, .int a1)]) zd_M_lose_28 rfl (Nat.le_of_ble_eq_true rfl) rfl ?_
      refine z_aload_n O zd_M_lose_29 rfl 1 rfl ?_
      refine z_iload_n O zd_M_lose_30 rfl 2 rfl ?_
      refine z_callv O hl0 (st := []) 13 6 (fs := zo13 w u5) rfl rfl (c_M_takes l w u5 a1 ko) zl_M_196 zm950 zms29 rfl rfl (Nat.le_of_ble_eq_true rfl) (Nat.le_of_ble_eq_true rfl) (Nat.le_of_ble_eq_true rfl) zd_M_lose_31 (fun u9 e10 => ?_)
      have ht := ht.trans (zlet_e e10)
      refine z_iload_n O zd_M_lose_34 rfl 0 rfl ?_
      exact E _ _ _ _ zd_M_lose_35 rfl ht.symm
    · have ht := ht.trans (if_pos c7)
      refine z_iconst O (v := 0) zd_M_lose_20 (by decide) ?_
      exact E _ _ _ _ zd_M_lose_21 rfl ht.symm
  · have ht := ht.trans (if_neg c3)
    have ko := ko.2 c3
    refine z_iconst O (v := 0) zd_M_lose_9 (by decide) ?_
    refine z_goto O (tgt := 14) zd_M_lose_10 (by decide) ?_
    refine z_calli O hl0 (st := []) 13 6 (fs := zo13 w σ) rfl rfl (c_M_isFine l w σ 0) zl_M_76 zm868 zms15 rfl rfl (Nat.le_of_ble_eq_true rfl) (Nat.le_of_ble_eq_true rfl) (Nat.le_of_ble_eq_true rfl) zd_M_lose_14 (fun r11 u12 e13 => ?_)
    have ht := ht.trans (zseq_e e13)
    have ko := ko r11 u12 e13
    refine z_if_ne O (tgt := 22) zd_M_lose_17 (by decide) (fun c14 => ?_) (fun c14 => ?_)
    · have ht := ht.trans (if_neg c14)
      have ko := ko c14
      refine z_aload_n O zd_M_lose_22 rfl 0 rfl ?_
      refine zg_M_45_13 O zd_M_lose_23 (v := .ref (zq w 18)) rfl ?_
      refine z_iload_n O zd_M_lose_26 rfl 1 rfl ?_
      have b15 := ko.1
      have ko := ko.2
      refine z_iald O 18 (zae18 w u12) b15 (v := (u12 18 a1.toNatClampNeg)) rfl zd_M_lose_27 ?_
      refine z_istore_n O (lv' := [(2, .int (u12 18 a1.toNatClampNeg)), (0, .ref (zq w 13)), (1, .int a1)]) zd_M_lose_28 rfl (Nat.le_of_ble_eq_true rfl) rfl ?_
      refine z_aload_n O zd_M_lose_29 rfl 1 rfl ?_
      refine z_iload_n O zd_M_lose_30 rfl 2 rfl ?_
      refine z_callv O hl0 (st := []) 13 6 (fs := zo13 w u12) rfl rfl (c_M_takes l w u12 a1 ko) zl_M_196 zm950 zms29 rfl rfl (Nat.le_of_ble_eq_true rfl) (Nat.le_of_ble_eq_true rfl) (Nat.le_of_ble_eq_true rfl) zd_M_lose_31 (fun u16 e17 => ?_)
      have ht := ht.trans (zlet_e e17)
      refine z_iload_n O zd_M_lose_34 rfl 0 rfl ?_
      exact E _ _ _ _ zd_M_lose_35 rfl ht.symm
    · have ht := ht.trans (if_pos c14)
      refine z_iconst O (v := 0) zd_M_lose_20 (by decide) ?_
      exact E _ _ _ _ zd_M_lose_21 rfl ht.symm
set_option maxHeartbeats 4000000 in
set_option maxRecDepth 100000 in
theorem c_M_duplicate (l : Launch) (w : zWd) (σ : zSt) (a1 : Int32) (ko : k_M_duplicate σ a1) : zMi l ({ cls := "SluiceStreamModel", name := "duplicate", desc := "(I)I" } : Jvm.MethodName) prog_8_method_33_code 2 2 43 .int w [.ref (zq w 13), .int a1] σ (fun r u => (r, u) = (f_M_duplicate σ a1)) := by
  refine zMi_of (by decide +kernel) (Nat.le_of_ble_eq_true rfl) ?_
  intro K O hl0 E
  have ht : (f_M_duplicate σ a1) = (f_M_duplicate σ a1) := rfl
  refine z_sub (lv' := [(0, .ref (zq w 13)), (1, .int a1)]) [0, 1] rfl ?_
  refine z_aload_n O zd_M_duplicate_0 rfl 0 rfl ?_
  refine z_aload_n O zd_M_duplicate_1 rfl 0 rfl ?_
  refine z_iload_n O zd_M_duplicate_2 rfl 1 rfl ?_
  refine z_callri O hl0 (st := [.ref (zq w 13)]) 13 6 (fs := zo13 w σ) rfl rfl (c_M_isSegment l w σ a1) zl_M_193 zm946 zms28 rfl rfl (Nat.le_of_ble_eq_true rfl) (Nat.le_of_ble_eq_true rfl) (Nat.le_of_ble_eq_true rfl) zd_M_duplicate_3 (fun r1 e2 => ?_)
  have ht := ht.trans (zlet_e e2)
  have ko := ko r1 e2
  refine z_if_ne O (tgt := 13) zd_M_duplicate_6 (by decide) (fun c3 => ?_) (fun c3 => ?_)
  · have ht := ht.trans (if_neg c3)
    have ko := ko.2 c3
    refine z_aload_n O zd_M_duplicate_13 rfl 0 rfl ?_
    refine zg_M_109_13 O zd_M_duplicate_14 (v := .int (σ 13 32)) rfl ?_
    refine z_bipush O (v := 40) zd_M_duplicate_17 (by decide) ?_
    refine z_icmp_ne O (tgt := 26) zd_M_duplicate_19 (by decide) (fun c4 => ?_) (fun c4 => ?_)
    · have ht := ht.trans (if_neg c4)
      have ko := ko.2 c4
      refine z_iconst O (v := 0) zd_M_duplicate_26 (by decide) ?_
      refine z_calli O hl0 (st := []) 13 6 (fs := zo13 w σ) rfl rfl (c_M_isFine l w σ 0) zl_M_76 zm868 zms15 rfl rfl (Nat.le_of_ble_eq_true rfl) (Nat.le_of_ble_eq_true rfl) (Nat.le_of_ble_eq_true rfl) zd_M_duplicate_27 (fun r5 u6 e7 => ?_)
      have ht := ht.trans (zseq_e e7)
      have ko := ko r5 u6 e7
      refine z_if_ne O (tgt := 35) zd_M_duplicate_30 (by decide) (fun c8 => ?_) (fun c8 => ?_)
      · have ht := ht.trans (if_neg c8)
        have ko := ko c8
        refine z_aload_n O zd_M_duplicate_35 rfl 0 rfl ?_
        refine zg_M_45_13 O zd_M_duplicate_36 (v := .ref (zq w 18)) rfl ?_
        refine z_aload_n O zd_M_duplicate_39 rfl 0 rfl ?_
        refine zg_M_109_13 O zd_M_duplicate_40 (v := .int (u6 13 32)) rfl ?_
        refine z_aload_n O zd_M_duplicate_43 rfl 0 rfl ?_
        refine zg_M_45_13 O zd_M_duplicate_44 (v := .ref (zq w 18)) rfl ?_
        refine z_iload_n O zd_M_duplicate_47 rfl 1 rfl ?_
        have b9 := ko.1
        have ko := ko.2
        refine z_iald O 18 (zae18 w u6) b9 (v := (u6 18 a1.toNatClampNeg)) rfl zd_M_duplicate_48 ?_
        have b10 := ko.1
        have ko := ko.2
        refine z_iast O 18 (zae18 w u6) b10 (zas18 w u6 _ _) zd_M_duplicate_49 ?_
        refine z_aload_n O zd_M_duplicate_50 rfl 0 rfl ?_
        refine zg_M_48_13 O zd_M_duplicate_51 (v := .ref (zq w 19)) rfl ?_
        refine z_aload_n O zd_M_duplicate_54 rfl 0 rfl ?_
        refine zg_M_109_13 O zd_M_duplicate_55 (v := .int (u6 13 32)) rfl ?_
        refine z_aload_n O zd_M_duplicate_58 rfl 0 rfl ?_
        refine zg_M_48_13 O zd_M_duplicate_59 (v := .ref (zq w 19)) rfl ?_
        refine z_iload_n O zd_M_duplicate_62 rfl 1 rfl ?_
        have b11 := ko.1
        have ko := ko.2
        refine z_iald O 19 (zae19 w (zuf u6 18 ((u6 13 32) : Int32).toNatClampNeg (u6 18 a1.toNatClampNeg))) b11 (v := (u6 19 a1.toNatClampNeg)) rfl zd_M_duplicate_63 ?_
        have b12 := ko
        refine z_iast O 19 (zae19 w (zuf u6 18 ((u6 13 32) : Int32).toNatClampNeg (u6 18 a1.toNatClampNeg))) b12 (zas19 w (zuf u6 18 ((u6 13 32) : Int32).toNatClampNeg (u6 18 a1.toNatClampNeg)) _ _) zd_M_duplicate_64 ?_
        refine z_aload_n O zd_M_duplicate_65 rfl 0 rfl ?_
        refine z_dup O zd_M_duplicate_66 rfl ?_
        refine zg_M_109_13 O zd_M_duplicate_67 (v := .int (u6 13 32)) rfl ?_
        refine z_iconst O (v := 1) zd_M_duplicate_70 (by decide) ?_
        refine z_iadd O zd_M_duplicate_71 ?_
        refine zp_M_109_13 O zd_M_duplicate_72 ?_
        refine z_aload_n O zd_M_duplicate_75 rfl 0 rfl ?_
        refine zg_M_109_13 O zd_M_duplicate_76 (v := .int ((u6 13 32) + 1)) rfl ?_
        exact E _ _ _ _ zd_M_duplicate_79 rfl ht.symm
      · have ht := ht.trans (if_pos c8)
        refine z_iconst O (v := 0) zd_M_duplicate_33 (by decide) ?_
        exact E _ _ _ _ zd_M_duplicate_34 rfl ht.symm
    · have ht := ht.trans (if_pos c4)
      have ko := ko.1 c4
      refine z_iconst O (v := 2) zd_M_duplicate_22 (by decide) ?_
      refine z_goto O (tgt := 27) zd_M_duplicate_23 (by decide) ?_
      refine z_calli O hl0 (st := []) 13 6 (fs := zo13 w σ) rfl rfl (c_M_isFine l w σ 2) zl_M_76 zm868 zms15 rfl rfl (Nat.le_of_ble_eq_true rfl) (Nat.le_of_ble_eq_true rfl) (Nat.le_of_ble_eq_true rfl) zd_M_duplicate_27 (fun r13 u14 e15 => ?_)
      have ht := ht.trans (zseq_e e15)
      have ko := ko r13 u14 e15
      refine z_if_ne O (tgt := 35) zd_M_duplicate_30 (by decide) (fun c16 => ?_) (fun c16 => ?_)
      · have ht := ht.trans (if_neg c16)
        have ko := ko c16
        refine z_aload_n O zd_M_duplicate_35 rfl 0 rfl ?_
        refine zg_M_45_13 O zd_M_duplicate_36 (v := .ref (zq w 18)) rfl ?_
        refine z_aload_n O zd_M_duplicate_39 rfl 0 rfl ?_
        refine zg_M_109_13 O zd_M_duplicate_40 (v := .int (u14 13 32)) rfl ?_
        refine z_aload_n O zd_M_duplicate_43 rfl 0 rfl ?_
        refine zg_M_45_13 O zd_M_duplicate_44 (v := .ref (zq w 18)) rfl ?_
        refine z_iload_n O zd_M_duplicate_47 rfl 1 rfl ?_
        have b17 := ko.1
        have ko := ko.2
        refine z_iald O 18 (zae18 w u14) b17 (v := (u14 18 a1.toNatClampNeg)) rfl zd_M_duplicate_48 ?_
        have b18 := ko.1
        have ko := ko.2
        refine z_iast O 18 (zae18 w u14) b18 (zas18 w u14 _ _) zd_M_duplicate_49 ?_
        refine z_aload_n O zd_M_duplicate_50 rfl 0 rfl ?_
        refine zg_M_48_13 O zd_M_duplicate_51 (v := .ref (zq w 19)) rfl ?_
        refine z_aload_n O zd_M_duplicate_54 rfl 0 rfl ?_
        refine zg_M_109_13 O zd_M_duplicate_55 (v := .int (u14 13 32)) rfl ?_
        refine z_aload_n O zd_M_duplicate_58 rfl 0 rfl ?_
        refine zg_M_48_13 O zd_M_duplicate_59 (v := .ref (zq w 19)) rfl ?_
        refine z_iload_n O zd_M_duplicate_62 rfl 1 rfl ?_
        have b19 := ko.1
        have ko := ko.2
        refine z_iald O 19 (zae19 w (zuf u14 18 ((u14 13 32) : Int32).toNatClampNeg (u14 18 a1.toNatClampNeg))) b19 (v := (u14 19 a1.toNatClampNeg)) rfl zd_M_duplicate_63 ?_
        have b20 := ko
        refine z_iast O 19 (zae19 w (zuf u14 18 ((u14 13 32) : Int32).toNatClampNeg (u14 18 a1.toNatClampNeg))) b20 (zas19 w (zuf u14 18 ((u14 13 32) : Int32).toNatClampNeg (u14 18 a1.toNatClampNeg)) _ _) zd_M_duplicate_64 ?_
        refine z_aload_n O zd_M_duplicate_65 rfl 0 rfl ?_
        refine z_dup O zd_M_duplicate_66 rfl ?_
        refine zg_M_109_13 O zd_M_duplicate_67 (v := .int (u14 13 32)) rfl ?_
        refine z_iconst O (v := 1) zd_M_duplicate_70 (by decide) ?_
        refine z_iadd O zd_M_duplicate_71 ?_
        refine zp_M_109_13 O zd_M_duplicate_72 ?_
        refine z_aload_n O zd_M_duplicate_75 rfl 0 rfl ?_
        refine zg_M_109_13 O zd_M_duplicate_76 (v := .int ((u14 13 32) + 1)) rfl ?_
        exact E _ _ _ _ zd_M_duplicate_79 rfl ht.symm
      · have ht := ht.trans (if_pos c16)
        refine z_iconst O (v := 0) zd_M_duplicate_33 (by decide) ?_
        exact E _ _ _ _ zd_M_duplicate_34 rfl ht.symm
  · have ht := ht.trans (if_pos c3)
    have ko := ko.1 c3
    refine z_iconst O (v := 1) zd_M_duplicate_9 (by decide) ?_
    refine z_goto O (tgt := 27) zd_M_duplicate_10 (by decide) ?_
    refine z_calli O hl0 (st := []) 13 6 (fs := zo13 w σ) rfl rfl (c_M_isFine l w σ 1) zl_M_76 zm868 zms15 rfl rfl (Nat.le_of_ble_eq_true rfl) (Nat.le_of_ble_eq_true rfl) (Nat.le_of_ble_eq_true rfl) zd_M_duplicate_27 (fun r21 u22 e23 => ?_)
    have ht := ht.trans (zseq_e e23)
    have ko := ko r21 u22 e23
    refine z_if_ne O (tgt := 35) zd_M_duplicate_30 (by decide) (fun c24 => ?_) (fun c24 => ?_)
    · have ht := ht.trans (if_neg c24)
      have ko := ko c24
      refine z_aload_n O zd_M_duplicate_35 rfl 0 rfl ?_
      refine zg_M_45_13 O zd_M_duplicate_36 (v := .ref (zq w 18)) rfl ?_
      refine z_aload_n O zd_M_duplicate_39 rfl 0 rfl ?_
      refine zg_M_109_13 O zd_M_duplicate_40 (v := .int (u22 13 32)) rfl ?_
      refine z_aload_n O zd_M_duplicate_43 rfl 0 rfl ?_
      refine zg_M_45_13 O zd_M_duplicate_44 (v := .ref (zq w 18)) rfl ?_
      refine z_iload_n O zd_M_duplicate_47 rfl 1 rfl ?_
      have b25 := ko.1
      have ko := ko.2
      refine z_iald O 18 (zae18 w u22) b25 (v := (u22 18 a1.toNatClampNeg)) rfl zd_M_duplicate_48 ?_
      have b26 := ko.1
      have ko := ko.2
      refine z_iast O 18 (zae18 w u22) b26 (zas18 w u22 _ _) zd_M_duplicate_49 ?_
      refine z_aload_n O zd_M_duplicate_50 rfl 0 rfl ?_
      refine zg_M_48_13 O zd_M_duplicate_51 (v := .ref (zq w 19)) rfl ?_
      refine z_aload_n O zd_M_duplicate_54 rfl 0 rfl ?_
      refine zg_M_109_13 O zd_M_duplicate_55 (v := .int (u22 13 32)) rfl ?_
      refine z_aload_n O zd_M_duplicate_58 rfl 0 rfl ?_
      refine zg_M_48_13 O zd_M_duplicate_59 (v := .ref (zq w 19)) rfl ?_
      refine z_iload_n O zd_M_duplicate_62 rfl 1 rfl ?_
      have b27 := ko.1
      have ko := ko.2
      refine z_iald O 19 (zae19 w (zuf u22 18 ((u22 13 32) : Int32).toNatClampNeg (u22 18 a1.toNatClampNeg))) b27 (v := (u22 19 a1.toNatClampNeg)) rfl zd_M_duplicate_63 ?_
      have b28 := ko
      refine z_iast O 19 (zae19 w (zuf u22 18 ((u22 13 32) : Int32).toNatClampNeg (u22 18 a1.toNatClampNeg))) b28 (zas19 w (zuf u22 18 ((u22 13 32) : Int32).toNatClampNeg (u22 18 a1.toNatClampNeg)) _ _) zd_M_duplicate_64 ?_
      refine z_aload_n O zd_M_duplicate_65 rfl 0 rfl ?_
      refine z_dup O zd_M_duplicate_66 rfl ?_
      refine zg_M_109_13 O zd_M_duplicate_67 (v := .int (u22 13 32)) rfl ?_
      refine z_iconst O (v := 1) zd_M_duplicate_70 (by decide) ?_
      refine z_iadd O zd_M_duplicate_71 ?_
      refine zp_M_109_13 O zd_M_duplicate_72 ?_
      refine z_aload_n O zd_M_duplicate_75 rfl 0 rfl ?_
      refine zg_M_109_13 O zd_M_duplicate_76 (v := .int ((u22 13 32) + 1)) rfl ?_
      exact E _ _ _ _ zd_M_duplicate_79 rfl ht.symm
    · have ht := ht.trans (if_pos c24)
      refine z_iconst O (v := 0) zd_M_duplicate_33 (by decide) ?_
      exact E _ _ _ _ zd_M_duplicate_34 rfl ht.symm
set_option maxHeartbeats 4000000 in
set_option maxRecDepth 100000 in
theorem c_M_deliverAck (l : Launch) (w : zWd) (σ : zSt) (a1 : Int32) (ko : k_M_deliverAck σ a1) : zMi l ({ cls := "SluiceStreamModel", name := "deliverAck", desc := "(I)I" } : Jvm.MethodName) prog_8_method_34_code 3 4 90 .int w [.ref (zq w 13), .int a1] σ (fun r u => (r, u) = (f_M_deliverAck σ a1)) := by
  refine zMi_of (by decide +kernel) (Nat.le_of_ble_eq_true rfl) ?_
  intro K O hl0 E
  have ht : (f_M_deliverAck σ a1) = (f_M_deliverAck σ a1) := rfl
  refine z_sub (lv' := [(0, .ref (zq w 13)), (1, .int a1)]) [0, 1] rfl ?_
  refine z_aload_n O zd_M_deliverAck_0 rfl 0 rfl ?_
  refine z_aload_n O zd_M_deliverAck_1 rfl 0 rfl ?_
  refine z_iload_n O zd_M_deliverAck_2 rfl 1 rfl ?_
  refine z_callri O hl0 (st := [.ref (zq w 13)]) 13 6 (fs := zo13 w σ) rfl rfl (c_M_isAck l w σ a1) zl_M_199 zm966 zms30 rfl rfl (Nat.le_of_ble_eq_true rfl) (Nat.le_of_ble_eq_true rfl) (Nat.le_of_ble_eq_true rfl) zd_M_deliverAck_3 (fun r1 e2 => ?_)
  have ht := ht.trans (zlet_e e2)
  have ko := ko r1 e2
  refine z_if_eq O (tgt := 13) zd_M_deliverAck_6 (by decide) (fun c3 => ?_) (fun c3 => ?_)
  · have ht := ht.trans (if_pos c3)
    have ko := ko.1 c3
    refine z_iconst O (v := 1) zd_M_deliverAck_13 (by decide) ?_
    refine z_calli O hl0 (st := []) 13 6 (fs := zo13 w σ) rfl rfl (c_M_isFine l w σ 1) zl_M_76 zm868 zms15 rfl rfl (Nat.le_of_ble_eq_true rfl) (Nat.le_of_ble_eq_true rfl) (Nat.le_of_ble_eq_true rfl) zd_M_deliverAck_14 (fun r4 u5 e6 => ?_)
    have ht := ht.trans (zseq_e e6)
    have ko := ko r4 u5 e6
    refine z_if_ne O (tgt := 22) zd_M_deliverAck_17 (by decide) (fun c7 => ?_) (fun c7 => ?_)
    · have ht := ht.trans (if_neg c7)
      have ko := ko c7
      refine z_aload_n O zd_M_deliverAck_22 rfl 0 rfl ?_
      refine zg_M_93_13 O zd_M_deliverAck_23 (v := .int (u5 13 2)) rfl ?_
      refine z_istore_n O (lv' := [(2, .int (u5 13 2)), (0, .ref (zq w 13)), (1, .int a1)]) zd_M_deliverAck_26 rfl (Nat.le_of_ble_eq_true rfl) rfl ?_
      refine z_aload_n O zd_M_deliverAck_27 rfl 1 rfl ?_
      refine zg_M_51_13 O zd_M_deliverAck_28 (v := .ref (zq w 20)) rfl ?_
      refine z_iload_n O zd_M_deliverAck_31 rfl 2 rfl ?_
      have b8 := ko.1
      have ko := ko.2
      refine z_iald O 20 (zae20 w u5) b8 (v := (u5 20 a1.toNatClampNeg)) rfl zd_M_deliverAck_32 ?_
      refine z_aload_n O zd_M_deliverAck_33 rfl 1 rfl ?_
      refine zg_M_93_13 O zd_M_deliverAck_34 (v := .int (u5 13 2)) rfl ?_
      refine z_icmp_lt O (tgt := 45) zd_M_deliverAck_37 (by decide) (fun c9 => ?_) (fun c9 => ?_)
      · have ht := ht.trans (if_pos c9)
        have ko := ko.1 c9
        refine z_aload_n O zd_M_deliverAck_45 rfl 1 rfl ?_
        refine z_iload_n O zd_M_deliverAck_46 rfl 2 rfl ?_
        refine z_callv O hl0 (st := []) 13 6 (fs := zo13 w u5) rfl rfl (c_M_leaves l w u5 a1 ko) zl_M_177 zm884 zms18 rfl rfl (Nat.le_of_ble_eq_true rfl) (Nat.le_of_ble_eq_true rfl) (Nat.le_of_ble_eq_true rfl) zd_M_deliverAck_47 (fun u10 e11 => ?_)
        have ht := ht.trans (zlet_e e11)
        refine z_aload_n O zd_M_deliverAck_50 rfl 1 rfl ?_
        refine zg_M_93_13 O zd_M_deliverAck_51 (v := .int (u10 13 2)) rfl ?_
        refine z_iload_n O zd_M_deliverAck_54 rfl 0 rfl ?_
        refine z_isub O zd_M_deliverAck_55 ?_
        exact E _ _ _ _ zd_M_deliverAck_56 rfl ht.symm
      · have ht := ht.trans (if_neg c9)
        have ko := ko.2 c9
        refine z_aload_n O zd_M_deliverAck_40 rfl 1 rfl ?_
        refine z_iload_n O zd_M_deliverAck_41 rfl 2 rfl ?_
        refine z_callv O hl0 (st := []) 13 6 (fs := zo13 w u5) rfl rfl (c_M_arrives l w u5 a1 ko.1) zl_M_202 zm970 zms31 rfl rfl (Nat.le_of_ble_eq_true rfl) (Nat.le_of_ble_eq_true rfl) (Nat.le_of_ble_eq_true rfl) zd_M_deliverAck_42 (fun u12 e13 => ?_)
        have ht := ht.trans (zlet_e e13)
        have ko := ko.2 u12 e13
        refine z_aload_n O zd_M_deliverAck_45 rfl 1 rfl ?_
        refine z_iload_n O zd_M_deliverAck_46 rfl 2 rfl ?_
        refine z_callv O hl0 (st := []) 13 6 (fs := zo13 w u12) rfl rfl (c_M_leaves l w u12 a1 ko) zl_M_177 zm884 zms18 rfl rfl (Nat.le_of_ble_eq_true rfl) (Nat.le_of_ble_eq_true rfl) (Nat.le_of_ble_eq_true rfl) zd_M_deliverAck_47 (fun u14 e15 => ?_)
        have ht := ht.trans (zlet_e e15)
        refine z_aload_n O zd_M_deliverAck_50 rfl 1 rfl ?_
        refine zg_M_93_13 O zd_M_deliverAck_51 (v := .int (u14 13 2)) rfl ?_
        refine z_iload_n O zd_M_deliverAck_54 rfl 0 rfl ?_
        refine z_isub O zd_M_deliverAck_55 ?_
        exact E _ _ _ _ zd_M_deliverAck_56 rfl ht.symm
    · have ht := ht.trans (if_pos c7)
      refine z_iconst O (v := 0) zd_M_deliverAck_20 (by decide) ?_
      exact E _ _ _ _ zd_M_deliverAck_21 rfl ht.symm
  · have ht := ht.trans (if_neg c3)
    have ko := ko.2 c3
    refine z_iconst O (v := 0) zd_M_deliverAck_9 (by decide) ?_
    refine z_goto O (tgt := 14) zd_M_deliverAck_10 (by decide) ?_
    refine z_calli O hl0 (st := []) 13 6 (fs := zo13 w σ) rfl rfl (c_M_isFine l w σ 0) zl_M_76 zm868 zms15 rfl rfl (Nat.le_of_ble_eq_true rfl) (Nat.le_of_ble_eq_true rfl) (Nat.le_of_ble_eq_true rfl) zd_M_deliverAck_14 (fun r16 u17 e18 => ?_)
    have ht := ht.trans (zseq_e e18)
    have ko := ko r16 u17 e18
    refine z_if_ne O (tgt := 22) zd_M_deliverAck_17 (by decide) (fun c19 => ?_) (fun c19 => ?_)
    · have ht := ht.trans (if_neg c19)
      have ko := ko c19
      refine z_aload_n O zd_M_deliverAck_22 rfl 0 rfl ?_
      refine zg_M_93_13 O zd_M_deliverAck_23 (v := .int (u17 13 2)) rfl ?_
      refine z_istore_n O (lv' := [(2, .int (u17 13 2)), (0, .ref (zq w 13)), (1, .int a1)]) zd_M_deliverAck_26 rfl (Nat.le_of_ble_eq_true rfl) rfl ?_
      refine z_aload_n O zd_M_deliverAck_27 rfl 1 rfl ?_
      refine zg_M_51_13 O zd_M_deliverAck_28 (v := .ref (zq w 20)) rfl ?_
      refine z_iload_n O zd_M_deliverAck_31 rfl 2 rfl ?_
      have b20 := ko.1
      have ko := ko.2
      refine z_iald O 20 (zae20 w u17) b20 (v := (u17 20 a1.toNatClampNeg)) rfl zd_M_deliverAck_32 ?_
      refine z_aload_n O zd_M_deliverAck_33 rfl 1 rfl ?_
      refine zg_M_93_13 O zd_M_deliverAck_34 (v := .int (u17 13 2)) rfl ?_
      refine z_icmp_lt O (tgt := 45) zd_M_deliverAck_37 (by decide) (fun c21 => ?_) (fun c21 => ?_)
      · have ht := ht.trans (if_pos c21)
        have ko := ko.1 c21
        refine z_aload_n O zd_M_deliverAck_45 rfl 1 rfl ?_
        refine z_iload_n O zd_M_deliverAck_46 rfl 2 rfl ?_
        refine z_callv O hl0 (st := []) 13 6 (fs := zo13 w u17) rfl rfl (c_M_leaves l w u17 a1 ko) zl_M_177 zm884 zms18 rfl rfl (Nat.le_of_ble_eq_true rfl) (Nat.le_of_ble_eq_true rfl) (Nat.le_of_ble_eq_true rfl) zd_M_deliverAck_47 (fun u22 e23 => ?_)
        have ht := ht.trans (zlet_e e23)
        refine z_aload_n O zd_M_deliverAck_50 rfl 1 rfl ?_
        refine zg_M_93_13 O zd_M_deliverAck_51 (v := .int (u22 13 2)) rfl ?_
        refine z_iload_n O zd_M_deliverAck_54 rfl 0 rfl ?_
        refine z_isub O zd_M_deliverAck_55 ?_
        exact E _ _ _ _ zd_M_deliverAck_56 rfl ht.symm
      · have ht := ht.trans (if_neg c21)
        have ko := ko.2 c21
        refine z_aload_n O zd_M_deliverAck_40 rfl 1 rfl ?_
        refine z_iload_n O zd_M_deliverAck_41 rfl 2 rfl ?_
        refine z_callv O hl0 (st := []) 13 6 (fs := zo13 w u17) rfl rfl (c_M_arrives l w u17 a1 ko.1) zl_M_202 zm970 zms31 rfl rfl (Nat.le_of_ble_eq_true rfl) (Nat.le_of_ble_eq_true rfl) (Nat.le_of_ble_eq_true rfl) zd_M_deliverAck_42 (fun u24 e25 => ?_)
        have ht := ht.trans (zlet_e e25)
        have ko := ko.2 u24 e25
        refine z_aload_n O zd_M_deliverAck_45 rfl 1 rfl ?_
        refine z_iload_n O zd_M_deliverAck_46 rfl 2 rfl ?_
        refine z_callv O hl0 (st := []) 13 6 (fs := zo13 w u24) rfl rfl (c_M_leaves l w u24 a1 ko) zl_M_177 zm884 zms18 rfl rfl (Nat.le_of_ble_eq_true rfl) (Nat.le_of_ble_eq_true rfl) (Nat.le_of_ble_eq_true rfl) zd_M_deliverAck_47 (fun u26 e27 => ?_)
        have ht := ht.trans (zlet_e e27)
        refine z_aload_n O zd_M_deliverAck_50 rfl 1 rfl ?_
        refine zg_M_93_13 O zd_M_deliverAck_51 (v := .int (u26 13 2)) rfl ?_
        refine z_iload_n O zd_M_deliverAck_54 rfl 0 rfl ?_
        refine z_isub O zd_M_deliverAck_55 ?_
        exact E _ _ _ _ zd_M_deliverAck_56 rfl ht.symm
    · have ht := ht.trans (if_pos c19)
      refine z_iconst O (v := 0) zd_M_deliverAck_20 (by decide) ?_
      exact E _ _ _ _ zd_M_deliverAck_21 rfl ht.symm
set_option maxHeartbeats 4000000 in
set_option maxRecDepth 100000 in
theorem c_M_loseAck (l : Launch) (w : zWd) (σ : zSt) (a1 : Int32) (ko : k_M_loseAck σ a1) : zMi l ({ cls := "SluiceStreamModel", name := "loseAck", desc := "(I)I" } : Jvm.MethodName) prog_8_method_35_code 3 2 43 .int w [.ref (zq w 13), .int a1] σ (fun r u => (r, u) = (f_M_loseAck σ a1)) := by
  refine zMi_of (by decide +kernel) (Nat.le_of_ble_eq_true rfl) ?_
  intro K O hl0 E
  have ht : (f_M_loseAck σ a1) = (f_M_loseAck σ a1) := rfl
  refine z_sub (lv' := [(0, .ref (zq w 13)), (1, .int a1)]) [0, 1] rfl ?_
  refine z_aload_n O zd_M_loseAck_0 rfl 0 rfl ?_
  refine z_aload_n O zd_M_loseAck_1 rfl 0 rfl ?_
  refine z_iload_n O zd_M_loseAck_2 rfl 1 rfl ?_
  refine z_callri O hl0 (st := [.ref (zq w 13)]) 13 6 (fs := zo13 w σ) rfl rfl (c_M_isAck l w σ a1) zl_M_199 zm966 zms30 rfl rfl (Nat.le_of_ble_eq_true rfl) (Nat.le_of_ble_eq_true rfl) (Nat.le_of_ble_eq_true rfl) zd_M_loseAck_3 (fun r1 e2 => ?_)
  have ht := ht.trans (zlet_e e2)
  have ko := ko r1 e2
  refine z_if_eq O (tgt := 13) zd_M_loseAck_6 (by decide) (fun c3 => ?_) (fun c3 => ?_)
  · have ht := ht.trans (if_pos c3)
    have ko := ko.1 c3
    refine z_iconst O (v := 1) zd_M_loseAck_13 (by decide) ?_
    refine z_calli O hl0 (st := []) 13 6 (fs := zo13 w σ) rfl rfl (c_M_isFine l w σ 1) zl_M_76 zm868 zms15 rfl rfl (Nat.le_of_ble_eq_true rfl) (Nat.le_of_ble_eq_true rfl) (Nat.le_of_ble_eq_true rfl) zd_M_loseAck_14 (fun r4 u5 e6 => ?_)
    have ht := ht.trans (zseq_e e6)
    have ko := ko r4 u5 e6
    refine z_if_ne O (tgt := 22) zd_M_loseAck_17 (by decide) (fun c7 => ?_) (fun c7 => ?_)
    · have ht := ht.trans (if_neg c7)
      have ko := ko c7
      refine z_aload_n O zd_M_loseAck_22 rfl 0 rfl ?_
      refine zg_M_51_13 O zd_M_loseAck_23 (v := .ref (zq w 20)) rfl ?_
      refine z_iload_n O zd_M_loseAck_26 rfl 1 rfl ?_
      have b8 := ko.1
      have ko := ko.2
      refine z_iald O 20 (zae20 w u5) b8 (v := (u5 20 a1.toNatClampNeg)) rfl zd_M_loseAck_27 ?_
      refine z_istore_n O (lv' := [(2, .int (u5 20 a1.toNatClampNeg)), (0, .ref (zq w 13)), (1, .int a1)]) zd_M_loseAck_28 rfl (Nat.le_of_ble_eq_true rfl) rfl ?_
      refine z_aload_n O zd_M_loseAck_29 rfl 1 rfl ?_
      refine z_iload_n O zd_M_loseAck_30 rfl 2 rfl ?_
      refine z_callv O hl0 (st := []) 13 6 (fs := zo13 w u5) rfl rfl (c_M_leaves l w u5 a1 ko) zl_M_177 zm884 zms18 rfl rfl (Nat.le_of_ble_eq_true rfl) (Nat.le_of_ble_eq_true rfl) (Nat.le_of_ble_eq_true rfl) zd_M_loseAck_31 (fun u9 e10 => ?_)
      have ht := ht.trans (zlet_e e10)
      refine z_iload_n O zd_M_loseAck_34 rfl 0 rfl ?_
      exact E _ _ _ _ zd_M_loseAck_35 rfl ht.symm
    · have ht := ht.trans (if_pos c7)
      refine z_iconst O (v := 0) zd_M_loseAck_20 (by decide) ?_
      exact E _ _ _ _ zd_M_loseAck_21 rfl ht.symm
  · have ht := ht.trans (if_neg c3)
    have ko := ko.2 c3
    refine z_iconst O (v := 0) zd_M_loseAck_9 (by decide) ?_
    refine z_goto O (tgt := 14) zd_M_loseAck_10 (by decide) ?_
    refine z_calli O hl0 (st := []) 13 6 (fs := zo13 w σ) rfl rfl (c_M_isFine l w σ 0) zl_M_76 zm868 zms15 rfl rfl (Nat.le_of_ble_eq_true rfl) (Nat.le_of_ble_eq_true rfl) (Nat.le_of_ble_eq_true rfl) zd_M_loseAck_14 (fun r11 u12 e13 => ?_)
    have ht := ht.trans (zseq_e e13)
    have ko := ko r11 u12 e13
    refine z_if_ne O (tgt := 22) zd_M_loseAck_17 (by decide) (fun c14 => ?_) (fun c14 => ?_)
    · have ht := ht.trans (if_neg c14)
      have ko := ko c14
      refine z_aload_n O zd_M_loseAck_22 rfl 0 rfl ?_
      refine zg_M_51_13 O zd_M_loseAck_23 (v := .ref (zq w 20)) rfl ?_
      refine z_iload_n O zd_M_loseAck_26 rfl 1 rfl ?_
      have b15 := ko.1
      have ko := ko.2
      refine z_iald O 20 (zae20 w u12) b15 (v := (u12 20 a1.toNatClampNeg)) rfl zd_M_loseAck_27 ?_
      refine z_istore_n O (lv' := [(2, .int (u12 20 a1.toNatClampNeg)), (0, .ref (zq w 13)), (1, .int a1)]) zd_M_loseAck_28 rfl (Nat.le_of_ble_eq_true rfl) rfl ?_
      refine z_aload_n O zd_M_loseAck_29 rfl 1 rfl ?_
      refine z_iload_n O zd_M_loseAck_30 rfl 2 rfl ?_
      refine z_callv O hl0 (st := []) 13 6 (fs := zo13 w u12) rfl rfl (c_M_leaves l w u12 a1 ko) zl_M_177 zm884 zms18 rfl rfl (Nat.le_of_ble_eq_true rfl) (Nat.le_of_ble_eq_true rfl) (Nat.le_of_ble_eq_true rfl) zd_M_loseAck_31 (fun u16 e17 => ?_)
      have ht := ht.trans (zlet_e e17)
      refine z_iload_n O zd_M_loseAck_34 rfl 0 rfl ?_
      exact E _ _ _ _ zd_M_loseAck_35 rfl ht.symm
    · have ht := ht.trans (if_pos c14)
      refine z_iconst O (v := 0) zd_M_loseAck_20 (by decide) ?_
      exact E _ _ _ _ zd_M_loseAck_21 rfl ht.symm
set_option maxHeartbeats 4000000 in
set_option maxRecDepth 100000 in
theorem c_M_segments (l : Launch) (w : zWd) (σ : zSt) : zMi l ({ cls := "SluiceStreamModel", name := "segments", desc := "()I" } : Jvm.MethodName) prog_8_method_36_code 1 0 0 .int w [.ref (zq w 13)] σ (fun r u => (r, u) = (f_M_segments σ)) := by
  refine zMi_of (by decide +kernel) (Nat.le_of_ble_eq_true rfl) ?_
  intro K O hl0 E
  have ht : (f_M_segments σ) = (f_M_segments σ) := rfl
  refine z_sub (lv' := [(0, .ref (zq w 13))]) [0] rfl ?_
  refine z_aload_n O zd_M_segments_0 rfl 0 rfl ?_
  refine z_iconst O (v := 0) zd_M_segments_1 (by decide) ?_
  refine zp_M_66_13 O zd_M_segments_2 ?_
  refine z_aload_n O zd_M_segments_5 rfl 0 rfl ?_
  refine zg_M_109_13 O zd_M_segments_6 (v := .int (σ 13 32)) rfl ?_
  exact E _ _ _ _ zd_M_segments_9 rfl ht.symm
set_option maxHeartbeats 4000000 in
set_option maxRecDepth 100000 in
theorem c_M_startOf (l : Launch) (w : zWd) (σ : zSt) (a1 : Int32) (ko : k_M_startOf σ a1) : zMi l ({ cls := "SluiceStreamModel", name := "startOf", desc := "(I)I" } : Jvm.MethodName) prog_8_method_37_code 2 2 43 .int w [.ref (zq w 13), .int a1] σ (fun r u => (r, u) = (f_M_startOf σ a1)) := by
  refine zMi_of (by decide +kernel) (Nat.le_of_ble_eq_true rfl) ?_
  intro K O hl0 E
  have ht : (f_M_startOf σ a1) = (f_M_startOf σ a1) := rfl
  refine z_sub (lv' := [(0, .ref (zq w 13)), (1, .int a1)]) [0, 1] rfl ?_
  refine z_aload_n O zd_M_startOf_0 rfl 0 rfl ?_
  refine z_aload_n O zd_M_startOf_1 rfl 0 rfl ?_
  refine z_iload_n O zd_M_startOf_2 rfl 1 rfl ?_
  refine z_callri O hl0 (st := [.ref (zq w 13)]) 13 6 (fs := zo13 w σ) rfl rfl (c_M_isSegment l w σ a1) zl_M_193 zm946 zms28 rfl rfl (Nat.le_of_ble_eq_true rfl) (Nat.le_of_ble_eq_true rfl) (Nat.le_of_ble_eq_true rfl) zd_M_startOf_3 (fun r1 e2 => ?_)
  have ht := ht.trans (zlet_e e2)
  have ko := ko r1 e2
  refine z_if_eq O (tgt := 13) zd_M_startOf_6 (by decide) (fun c3 => ?_) (fun c3 => ?_)
  · have ht := ht.trans (if_pos c3)
    have ko := ko.1 c3
    refine z_iconst O (v := 1) zd_M_startOf_13 (by decide) ?_
    refine z_calli O hl0 (st := []) 13 6 (fs := zo13 w σ) rfl rfl (c_M_isFine l w σ 1) zl_M_76 zm868 zms15 rfl rfl (Nat.le_of_ble_eq_true rfl) (Nat.le_of_ble_eq_true rfl) (Nat.le_of_ble_eq_true rfl) zd_M_startOf_14 (fun r4 u5 e6 => ?_)
    have ht := ht.trans (zseq_e e6)
    have ko := ko r4 u5 e6
    refine z_if_eq O (tgt := 29) zd_M_startOf_17 (by decide) (fun c7 => ?_) (fun c7 => ?_)
    · have ht := ht.trans (if_pos c7)
      refine z_iconst O (v := 0) zd_M_startOf_29 (by decide) ?_
      exact E _ _ _ _ zd_M_startOf_30 rfl ht.symm
    · have ht := ht.trans (if_neg c7)
      have ko := ko c7
      refine z_aload_n O zd_M_startOf_20 rfl 0 rfl ?_
      refine zg_M_45_13 O zd_M_startOf_21 (v := .ref (zq w 18)) rfl ?_
      refine z_iload_n O zd_M_startOf_24 rfl 1 rfl ?_
      have b8 := ko
      refine z_iald O 18 (zae18 w u5) b8 (v := (u5 18 a1.toNatClampNeg)) rfl zd_M_startOf_25 ?_
      refine z_goto O (tgt := 30) zd_M_startOf_26 (by decide) ?_
      exact E _ _ _ _ zd_M_startOf_30 rfl ht.symm
  · have ht := ht.trans (if_neg c3)
    have ko := ko.2 c3
    refine z_iconst O (v := 0) zd_M_startOf_9 (by decide) ?_
    refine z_goto O (tgt := 14) zd_M_startOf_10 (by decide) ?_
    refine z_calli O hl0 (st := []) 13 6 (fs := zo13 w σ) rfl rfl (c_M_isFine l w σ 0) zl_M_76 zm868 zms15 rfl rfl (Nat.le_of_ble_eq_true rfl) (Nat.le_of_ble_eq_true rfl) (Nat.le_of_ble_eq_true rfl) zd_M_startOf_14 (fun r9 u10 e11 => ?_)
    have ht := ht.trans (zseq_e e11)
    have ko := ko r9 u10 e11
    refine z_if_eq O (tgt := 29) zd_M_startOf_17 (by decide) (fun c12 => ?_) (fun c12 => ?_)
    · have ht := ht.trans (if_pos c12)
      refine z_iconst O (v := 0) zd_M_startOf_29 (by decide) ?_
      exact E _ _ _ _ zd_M_startOf_30 rfl ht.symm
    · have ht := ht.trans (if_neg c12)
      have ko := ko c12
      refine z_aload_n O zd_M_startOf_20 rfl 0 rfl ?_
      refine zg_M_45_13 O zd_M_startOf_21 (v := .ref (zq w 18)) rfl ?_
      refine z_iload_n O zd_M_startOf_24 rfl 1 rfl ?_
      have b13 := ko
      refine z_iald O 18 (zae18 w u10) b13 (v := (u10 18 a1.toNatClampNeg)) rfl zd_M_startOf_25 ?_
      refine z_goto O (tgt := 30) zd_M_startOf_26 (by decide) ?_
      exact E _ _ _ _ zd_M_startOf_30 rfl ht.symm
set_option maxHeartbeats 4000000 in
set_option maxRecDepth 100000 in
theorem c_M_endOf (l : Launch) (w : zWd) (σ : zSt) (a1 : Int32) (ko : k_M_endOf σ a1) : zMi l ({ cls := "SluiceStreamModel", name := "endOf", desc := "(I)I" } : Jvm.MethodName) prog_8_method_38_code 2 2 43 .int w [.ref (zq w 13), .int a1] σ (fun r u => (r, u) = (f_M_endOf σ a1)) := by
  refine zMi_of (by decide +kernel) (Nat.le_of_ble_eq_true rfl) ?_
  intro K O hl0 E
  have ht : (f_M_endOf σ a1) = (f_M_endOf σ a1) := rfl
  refine z_sub (lv' := [(0, .ref (zq w 13)), (1, .int a1)]) [0, 1] rfl ?_
  refine z_aload_n O zd_M_endOf_0 rfl 0 rfl ?_
  refine z_aload_n O zd_M_endOf_1 rfl 0 rfl ?_
  refine z_iload_n O zd_M_endOf_2 rfl 1 rfl ?_
  refine z_callri O hl0 (st := [.ref (zq w 13)]) 13 6 (fs := zo13 w σ) rfl rfl (c_M_isSegment l w σ a1) zl_M_193 zm946 zms28 rfl rfl (Nat.le_of_ble_eq_true rfl) (Nat.le_of_ble_eq_true rfl) (Nat.le_of_ble_eq_true rfl) zd_M_endOf_3 (fun r1 e2 => ?_)
  have ht := ht.trans (zlet_e e2)
  have ko := ko r1 e2
  refine z_if_eq O (tgt := 13) zd_M_endOf_6 (by decide) (fun c3 => ?_) (fun c3 => ?_)
  · have ht := ht.trans (if_pos c3)
    have ko := ko.1 c3
    refine z_iconst O (v := 1) zd_M_endOf_13 (by decide) ?_
    refine z_calli O hl0 (st := []) 13 6 (fs := zo13 w σ) rfl rfl (c_M_isFine l w σ 1) zl_M_76 zm868 zms15 rfl rfl (Nat.le_of_ble_eq_true rfl) (Nat.le_of_ble_eq_true rfl) (Nat.le_of_ble_eq_true rfl) zd_M_endOf_14 (fun r4 u5 e6 => ?_)
    have ht := ht.trans (zseq_e e6)
    have ko := ko r4 u5 e6
    refine z_if_eq O (tgt := 29) zd_M_endOf_17 (by decide) (fun c7 => ?_) (fun c7 => ?_)
    · have ht := ht.trans (if_pos c7)
      refine z_iconst O (v := 0) zd_M_endOf_29 (by decide) ?_
      exact E _ _ _ _ zd_M_endOf_30 rfl ht.symm
    · have ht := ht.trans (if_neg c7)
      have ko := ko c7
      refine z_aload_n O zd_M_endOf_20 rfl 0 rfl ?_
      refine zg_M_48_13 O zd_M_endOf_21 (v := .ref (zq w 19)) rfl ?_
      refine z_iload_n O zd_M_endOf_24 rfl 1 rfl ?_
      have b8 := ko
      refine z_iald O 19 (zae19 w u5) b8 (v := (u5 19 a1.toNatClampNeg)) rfl zd_M_endOf_25 ?_
      refine z_goto O (tgt := 30) zd_M_endOf_26 (by decide) ?_
      exact E _ _ _ _ zd_M_endOf_30 rfl ht.symm
  · have ht := ht.trans (if_neg c3)
    have ko := ko.2 c3
    refine z_iconst O (v := 0) zd_M_endOf_9 (by decide) ?_
    refine z_goto O (tgt := 14) zd_M_endOf_10 (by decide) ?_
    refine z_calli O hl0 (st := []) 13 6 (fs := zo13 w σ) rfl rfl (c_M_isFine l w σ 0) zl_M_76 zm868 zms15 rfl rfl (Nat.le_of_ble_eq_true rfl) (Nat.le_of_ble_eq_true rfl) (Nat.le_of_ble_eq_true rfl) zd_M_endOf_14 (fun r9 u10 e11 => ?_)
    have ht := ht.trans (zseq_e e11)
    have ko := ko r9 u10 e11
    refine z_if_eq O (tgt := 29) zd_M_endOf_17 (by decide) (fun c12 => ?_) (fun c12 => ?_)
    · have ht := ht.trans (if_pos c12)
      refine z_iconst O (v := 0) zd_M_endOf_29 (by decide) ?_
      exact E _ _ _ _ zd_M_endOf_30 rfl ht.symm
    · have ht := ht.trans (if_neg c12)
      have ko := ko c12
      refine z_aload_n O zd_M_endOf_20 rfl 0 rfl ?_
      refine zg_M_48_13 O zd_M_endOf_21 (v := .ref (zq w 19)) rfl ?_
      refine z_iload_n O zd_M_endOf_24 rfl 1 rfl ?_
      have b13 := ko
      refine z_iald O 19 (zae19 w u10) b13 (v := (u10 19 a1.toNatClampNeg)) rfl zd_M_endOf_25 ?_
      refine z_goto O (tgt := 30) zd_M_endOf_26 (by decide) ?_
      exact E _ _ _ _ zd_M_endOf_30 rfl ht.symm
set_option maxHeartbeats 4000000 in
set_option maxRecDepth 100000 in
theorem c_M_acks (l : Launch) (w : zWd) (σ : zSt) : zMi l ({ cls := "SluiceStreamModel", name := "acks", desc := "()I" } : Jvm.MethodName) prog_8_method_39_code 1 0 0 .int w [.ref (zq w 13)] σ (fun r u => (r, u) = (f_M_acks σ)) := by
  refine zMi_of (by decide +kernel) (Nat.le_of_ble_eq_true rfl) ?_
  intro K O hl0 E
  have ht : (f_M_acks σ) = (f_M_acks σ) := rfl
  refine z_sub (lv' := [(0, .ref (zq w 13))]) [0] rfl ?_
  refine z_aload_n O zd_M_acks_0 rfl 0 rfl ?_
  refine z_iconst O (v := 0) zd_M_acks_1 (by decide) ?_
  refine zp_M_66_13 O zd_M_acks_2 ?_
  refine z_aload_n O zd_M_acks_5 rfl 0 rfl ?_
  refine zg_M_174_13 O zd_M_acks_6 (v := .int (σ 13 38)) rfl ?_
  exact E _ _ _ _ zd_M_acks_9 rfl ht.symm
set_option maxHeartbeats 4000000 in
set_option maxRecDepth 100000 in
theorem c_M_ackNumber (l : Launch) (w : zWd) (σ : zSt) (a1 : Int32) (ko : k_M_ackNumber σ a1) : zMi l ({ cls := "SluiceStreamModel", name := "ackNumber", desc := "(I)I" } : Jvm.MethodName) prog_8_method_40_code 2 2 43 .int w [.ref (zq w 13), .int a1] σ (fun r u => (r, u) = (f_M_ackNumber σ a1)) := by
  refine zMi_of (by decide +kernel) (Nat.le_of_ble_eq_true rfl) ?_
  intro K O hl0 E
  have ht : (f_M_ackNumber σ a1) = (f_M_ackNumber σ a1) := rfl
  refine z_sub (lv' := [(0, .ref (zq w 13)), (1, .int a1)]) [0, 1] rfl ?_
  refine z_aload_n O zd_M_ackNumber_0 rfl 0 rfl ?_
  refine z_aload_n O zd_M_ackNumber_1 rfl 0 rfl ?_
  refine z_iload_n O zd_M_ackNumber_2 rfl 1 rfl ?_
  refine z_callri O hl0 (st := [.ref (zq w 13)]) 13 6 (fs := zo13 w σ) rfl rfl (c_M_isAck l w σ a1) zl_M_199 zm966 zms30 rfl rfl (Nat.le_of_ble_eq_true rfl) (Nat.le_of_ble_eq_true rfl) (Nat.le_of_ble_eq_true rfl) zd_M_ackNumber_3 (fun r1 e2 => ?_)
  have ht := ht.trans (zlet_e e2)
  have ko := ko r1 e2
  refine z_if_eq O (tgt := 13) zd_M_ackNumber_6 (by decide) (fun c3 => ?_) (fun c3 => ?_)
  · have ht := ht.trans (if_pos c3)
    have ko := ko.1 c3
    refine z_iconst O (v := 1) zd_M_ackNumber_13 (by decide) ?_
    refine z_calli O hl0 (st := []) 13 6 (fs := zo13 w σ) rfl rfl (c_M_isFine l w σ 1) zl_M_76 zm868 zms15 rfl rfl (Nat.le_of_ble_eq_true rfl) (Nat.le_of_ble_eq_true rfl) (Nat.le_of_ble_eq_true rfl) zd_M_ackNumber_14 (fun r4 u5 e6 => ?_)
    have ht := ht.trans (zseq_e e6)
    have ko := ko r4 u5 e6
    refine z_if_eq O (tgt := 29) zd_M_ackNumber_17 (by decide) (fun c7 => ?_) (fun c7 => ?_)
    · have ht := ht.trans (if_pos c7)
      refine z_iconst O (v := 0) zd_M_ackNumber_29 (by decide) ?_
      exact E _ _ _ _ zd_M_ackNumber_30 rfl ht.symm
    · have ht := ht.trans (if_neg c7)
      have ko := ko c7
      refine z_aload_n O zd_M_ackNumber_20 rfl 0 rfl ?_
      refine zg_M_51_13 O zd_M_ackNumber_21 (v := .ref (zq w 20)) rfl ?_
      refine z_iload_n O zd_M_ackNumber_24 rfl 1 rfl ?_
      have b8 := ko
      refine z_iald O 20 (zae20 w u5) b8 (v := (u5 20 a1.toNatClampNeg)) rfl zd_M_ackNumber_25 ?_
      refine z_goto O (tgt := 30) zd_M_ackNumber_26 (by decide) ?_
      exact E _ _ _ _ zd_M_ackNumber_30 rfl ht.symm
  · have ht := ht.trans (if_neg c3)
    have ko := ko.2 c3
    refine z_iconst O (v := 0) zd_M_ackNumber_9 (by decide) ?_
    refine z_goto O (tgt := 14) zd_M_ackNumber_10 (by decide) ?_
    refine z_calli O hl0 (st := []) 13 6 (fs := zo13 w σ) rfl rfl (c_M_isFine l w σ 0) zl_M_76 zm868 zms15 rfl rfl (Nat.le_of_ble_eq_true rfl) (Nat.le_of_ble_eq_true rfl) (Nat.le_of_ble_eq_true rfl) zd_M_ackNumber_14 (fun r9 u10 e11 => ?_)
    have ht := ht.trans (zseq_e e11)
    have ko := ko r9 u10 e11
    refine z_if_eq O (tgt := 29) zd_M_ackNumber_17 (by decide) (fun c12 => ?_) (fun c12 => ?_)
    · have ht := ht.trans (if_pos c12)
      refine z_iconst O (v := 0) zd_M_ackNumber_29 (by decide) ?_
      exact E _ _ _ _ zd_M_ackNumber_30 rfl ht.symm
    · have ht := ht.trans (if_neg c12)
      have ko := ko c12
      refine z_aload_n O zd_M_ackNumber_20 rfl 0 rfl ?_
      refine zg_M_51_13 O zd_M_ackNumber_21 (v := .ref (zq w 20)) rfl ?_
      refine z_iload_n O zd_M_ackNumber_24 rfl 1 rfl ?_
      have b13 := ko
      refine z_iald O 20 (zae20 w u10) b13 (v := (u10 20 a1.toNatClampNeg)) rfl zd_M_ackNumber_25 ?_
      refine z_goto O (tgt := 30) zd_M_ackNumber_26 (by decide) ?_
      exact E _ _ _ _ zd_M_ackNumber_30 rfl ht.symm
set_option maxHeartbeats 4000000 in
set_option maxRecDepth 100000 in
theorem c_M_ackWindow (l : Launch) (w : zWd) (σ : zSt) (a1 : Int32) (ko : k_M_ackWindow σ a1) : zMi l ({ cls := "SluiceStreamModel", name := "ackWindow", desc := "(I)I" } : Jvm.MethodName) prog_8_method_41_code 2 2 43 .int w [.ref (zq w 13), .int a1] σ (fun r u => (r, u) = (f_M_ackWindow σ a1)) := by
  refine zMi_of (by decide +kernel) (Nat.le_of_ble_eq_true rfl) ?_
  intro K O hl0 E
  have ht : (f_M_ackWindow σ a1) = (f_M_ackWindow σ a1) := rfl
  refine z_sub (lv' := [(0, .ref (zq w 13)), (1, .int a1)]) [0, 1] rfl ?_
  refine z_aload_n O zd_M_ackWindow_0 rfl 0 rfl ?_
  refine z_aload_n O zd_M_ackWindow_1 rfl 0 rfl ?_
  refine z_iload_n O zd_M_ackWindow_2 rfl 1 rfl ?_
  refine z_callri O hl0 (st := [.ref (zq w 13)]) 13 6 (fs := zo13 w σ) rfl rfl (c_M_isAck l w σ a1) zl_M_199 zm966 zms30 rfl rfl (Nat.le_of_ble_eq_true rfl) (Nat.le_of_ble_eq_true rfl) (Nat.le_of_ble_eq_true rfl) zd_M_ackWindow_3 (fun r1 e2 => ?_)
  have ht := ht.trans (zlet_e e2)
  have ko := ko r1 e2
  refine z_if_eq O (tgt := 13) zd_M_ackWindow_6 (by decide) (fun c3 => ?_) (fun c3 => ?_)
  · have ht := ht.trans (if_pos c3)
    have ko := ko.1 c3
    refine z_iconst O (v := 1) zd_M_ackWindow_13 (by decide) ?_
    refine z_calli O hl0 (st := []) 13 6 (fs := zo13 w σ) rfl rfl (c_M_isFine l w σ 1) zl_M_76 zm868 zms15 rfl rfl (Nat.le_of_ble_eq_true rfl) (Nat.le_of_ble_eq_true rfl) (Nat.le_of_ble_eq_true rfl) zd_M_ackWindow_14 (fun r4 u5 e6 => ?_)
    have ht := ht.trans (zseq_e e6)
    have ko := ko r4 u5 e6
    refine z_if_eq O (tgt := 29) zd_M_ackWindow_17 (by decide) (fun c7 => ?_) (fun c7 => ?_)
    · have ht := ht.trans (if_pos c7)
      refine z_iconst O (v := 0) zd_M_ackWindow_29 (by decide) ?_
      exact E _ _ _ _ zd_M_ackWindow_30 rfl ht.symm
    · have ht := ht.trans (if_neg c7)
      have ko := ko c7
      refine z_aload_n O zd_M_ackWindow_20 rfl 0 rfl ?_
      refine zg_M_54_13 O zd_M_ackWindow_21 (v := .ref (zq w 21)) rfl ?_
      refine z_iload_n O zd_M_ackWindow_24 rfl 1 rfl ?_
      have b8 := ko
      refine z_iald O 21 (zae21 w u5) b8 (v := (u5 21 a1.toNatClampNeg)) rfl zd_M_ackWindow_25 ?_
      refine z_goto O (tgt := 30) zd_M_ackWindow_26 (by decide) ?_
      exact E _ _ _ _ zd_M_ackWindow_30 rfl ht.symm
  · have ht := ht.trans (if_neg c3)
    have ko := ko.2 c3
    refine z_iconst O (v := 0) zd_M_ackWindow_9 (by decide) ?_
    refine z_goto O (tgt := 14) zd_M_ackWindow_10 (by decide) ?_
    refine z_calli O hl0 (st := []) 13 6 (fs := zo13 w σ) rfl rfl (c_M_isFine l w σ 0) zl_M_76 zm868 zms15 rfl rfl (Nat.le_of_ble_eq_true rfl) (Nat.le_of_ble_eq_true rfl) (Nat.le_of_ble_eq_true rfl) zd_M_ackWindow_14 (fun r9 u10 e11 => ?_)
    have ht := ht.trans (zseq_e e11)
    have ko := ko r9 u10 e11
    refine z_if_eq O (tgt := 29) zd_M_ackWindow_17 (by decide) (fun c12 => ?_) (fun c12 => ?_)
    · have ht := ht.trans (if_pos c12)
      refine z_iconst O (v := 0) zd_M_ackWindow_29 (by decide) ?_
      exact E _ _ _ _ zd_M_ackWindow_30 rfl ht.symm
    · have ht := ht.trans (if_neg c12)
      have ko := ko c12
      refine z_aload_n O zd_M_ackWindow_20 rfl 0 rfl ?_
      refine zg_M_54_13 O zd_M_ackWindow_21 (v := .ref (zq w 21)) rfl ?_
      refine z_iload_n O zd_M_ackWindow_24 rfl 1 rfl ?_
      have b13 := ko
      refine z_iald O 21 (zae21 w u10) b13 (v := (u10 21 a1.toNatClampNeg)) rfl zd_M_ackWindow_25 ?_
      refine z_goto O (tgt := 30) zd_M_ackWindow_26 (by decide) ?_
      exact E _ _ _ _ zd_M_ackWindow_30 rfl ht.symm
set_option maxHeartbeats 4000000 in
set_option maxRecDepth 100000 in
theorem c_M_ackBlocks (l : Launch) (w : zWd) (σ : zSt) (a1 : Int32) (ko : k_M_ackBlocks σ a1) : zMi l ({ cls := "SluiceStreamModel", name := "ackBlocks", desc := "(I)I" } : Jvm.MethodName) prog_8_method_42_code 2 2 43 .int w [.ref (zq w 13), .int a1] σ (fun r u => (r, u) = (f_M_ackBlocks σ a1)) := by
  refine zMi_of (by decide +kernel) (Nat.le_of_ble_eq_true rfl) ?_
  intro K O hl0 E
  have ht : (f_M_ackBlocks σ a1) = (f_M_ackBlocks σ a1) := rfl
  refine z_sub (lv' := [(0, .ref (zq w 13)), (1, .int a1)]) [0, 1] rfl ?_
  refine z_aload_n O zd_M_ackBlocks_0 rfl 0 rfl ?_
  refine z_aload_n O zd_M_ackBlocks_1 rfl 0 rfl ?_
  refine z_iload_n O zd_M_ackBlocks_2 rfl 1 rfl ?_
  refine z_callri O hl0 (st := [.ref (zq w 13)]) 13 6 (fs := zo13 w σ) rfl rfl (c_M_isAck l w σ a1) zl_M_199 zm966 zms30 rfl rfl (Nat.le_of_ble_eq_true rfl) (Nat.le_of_ble_eq_true rfl) (Nat.le_of_ble_eq_true rfl) zd_M_ackBlocks_3 (fun r1 e2 => ?_)
  have ht := ht.trans (zlet_e e2)
  have ko := ko r1 e2
  refine z_if_eq O (tgt := 13) zd_M_ackBlocks_6 (by decide) (fun c3 => ?_) (fun c3 => ?_)
  · have ht := ht.trans (if_pos c3)
    have ko := ko.1 c3
    refine z_iconst O (v := 1) zd_M_ackBlocks_13 (by decide) ?_
    refine z_calli O hl0 (st := []) 13 6 (fs := zo13 w σ) rfl rfl (c_M_isFine l w σ 1) zl_M_76 zm868 zms15 rfl rfl (Nat.le_of_ble_eq_true rfl) (Nat.le_of_ble_eq_true rfl) (Nat.le_of_ble_eq_true rfl) zd_M_ackBlocks_14 (fun r4 u5 e6 => ?_)
    have ht := ht.trans (zseq_e e6)
    have ko := ko r4 u5 e6
    refine z_if_eq O (tgt := 29) zd_M_ackBlocks_17 (by decide) (fun c7 => ?_) (fun c7 => ?_)
    · have ht := ht.trans (if_pos c7)
      refine z_iconst O (v := 0) zd_M_ackBlocks_29 (by decide) ?_
      exact E _ _ _ _ zd_M_ackBlocks_30 rfl ht.symm
    · have ht := ht.trans (if_neg c7)
      have ko := ko c7
      refine z_aload_n O zd_M_ackBlocks_20 rfl 0 rfl ?_
      refine zg_M_57_13 O zd_M_ackBlocks_21 (v := .ref (zq w 22)) rfl ?_
      refine z_iload_n O zd_M_ackBlocks_24 rfl 1 rfl ?_
      have b8 := ko
      refine z_iald O 22 (zae22 w u5) b8 (v := (u5 22 a1.toNatClampNeg)) rfl zd_M_ackBlocks_25 ?_
      refine z_goto O (tgt := 30) zd_M_ackBlocks_26 (by decide) ?_
      exact E _ _ _ _ zd_M_ackBlocks_30 rfl ht.symm
  · have ht := ht.trans (if_neg c3)
    have ko := ko.2 c3
    refine z_iconst O (v := 0) zd_M_ackBlocks_9 (by decide) ?_
    refine z_goto O (tgt := 14) zd_M_ackBlocks_10 (by decide) ?_
    refine z_calli O hl0 (st := []) 13 6 (fs := zo13 w σ) rfl rfl (c_M_isFine l w σ 0) zl_M_76 zm868 zms15 rfl rfl (Nat.le_of_ble_eq_true rfl) (Nat.le_of_ble_eq_true rfl) (Nat.le_of_ble_eq_true rfl) zd_M_ackBlocks_14 (fun r9 u10 e11 => ?_)
    have ht := ht.trans (zseq_e e11)
    have ko := ko r9 u10 e11
    refine z_if_eq O (tgt := 29) zd_M_ackBlocks_17 (by decide) (fun c12 => ?_) (fun c12 => ?_)
    · have ht := ht.trans (if_pos c12)
      refine z_iconst O (v := 0) zd_M_ackBlocks_29 (by decide) ?_
      exact E _ _ _ _ zd_M_ackBlocks_30 rfl ht.symm
    · have ht := ht.trans (if_neg c12)
      have ko := ko c12
      refine z_aload_n O zd_M_ackBlocks_20 rfl 0 rfl ?_
      refine zg_M_57_13 O zd_M_ackBlocks_21 (v := .ref (zq w 22)) rfl ?_
      refine z_iload_n O zd_M_ackBlocks_24 rfl 1 rfl ?_
      have b13 := ko
      refine z_iald O 22 (zae22 w u10) b13 (v := (u10 22 a1.toNatClampNeg)) rfl zd_M_ackBlocks_25 ?_
      refine z_goto O (tgt := 30) zd_M_ackBlocks_26 (by decide) ?_
      exact E _ _ _ _ zd_M_ackBlocks_30 rfl ht.symm
set_option maxHeartbeats 4000000 in
set_option maxRecDepth 100000 in
theorem c_M_ackBlock (l : Launch) (w : zWd) (σ : zSt) (a1 : Int32) (a2 : Int32) (ko : k_M_ackBlock σ a1 a2) : zMi l ({ cls := "SluiceStreamModel", name := "ackBlock", desc := "(II)I" } : Jvm.MethodName) prog_8_method_43_code 3 2 43 .int w [.ref (zq w 13), .int a1, .int a2] σ (fun r u => (r, u) = (f_M_ackBlock σ a1 a2)) := by
  refine zMi_of (by decide +kernel) (Nat.le_of_ble_eq_true rfl) ?_
  intro K O hl0 E
  have ht : (f_M_ackBlock σ a1 a2) = (f_M_ackBlock σ a1 a2) := rfl
  refine z_sub (lv' := [(0, .ref (zq w 13)), (1, .int a1), (2, .int a2)]) [0, 1, 2] rfl ?_
  refine z_aload_n O zd_M_ackBlock_0 rfl 0 rfl ?_
  refine z_aload_n O zd_M_ackBlock_1 rfl 0 rfl ?_
  refine z_iload_n O zd_M_ackBlock_2 rfl 1 rfl ?_
  refine z_callri O hl0 (st := [.ref (zq w 13)]) 13 6 (fs := zo13 w σ) rfl rfl (c_M_isAck l w σ a1) zl_M_199 zm966 zms30 rfl rfl (Nat.le_of_ble_eq_true rfl) (Nat.le_of_ble_eq_true rfl) (Nat.le_of_ble_eq_true rfl) zd_M_ackBlock_3 (fun r1 e2 => ?_)
  have ht := ht.trans (zlet_e e2)
  have ko := ko r1 e2
  refine z_if_eq O (tgt := 29) zd_M_ackBlock_6 (by decide) (fun c3 => ?_) (fun c3 => ?_)
  · have ht := ht.trans (if_pos c3)
    have ko := ko.1 c3
    refine z_iconst O (v := 1) zd_M_ackBlock_29 (by decide) ?_
    refine z_calli O hl0 (st := []) 13 6 (fs := zo13 w σ) rfl rfl (c_M_isFine l w σ 1) zl_M_76 zm868 zms15 rfl rfl (Nat.le_of_ble_eq_true rfl) (Nat.le_of_ble_eq_true rfl) (Nat.le_of_ble_eq_true rfl) zd_M_ackBlock_30 (fun r4 u5 e6 => ?_)
    have ht := ht.trans (zseq_e e6)
    have ko := ko r4 u5 e6
    refine z_if_eq O (tgt := 49) zd_M_ackBlock_33 (by decide) (fun c7 => ?_) (fun c7 => ?_)
    · have ht := ht.trans (if_pos c7)
      refine z_iconst O (v := 0) zd_M_ackBlock_49 (by decide) ?_
      exact E _ _ _ _ zd_M_ackBlock_50 rfl ht.symm
    · have ht := ht.trans (if_neg c7)
      have ko := ko c7
      refine z_aload_n O zd_M_ackBlock_36 rfl 0 rfl ?_
      refine zg_M_60_13 O zd_M_ackBlock_37 (v := .ref (zq w 23)) rfl ?_
      refine z_iconst O (v := 3) zd_M_ackBlock_40 (by decide) ?_
      refine z_iload_n O zd_M_ackBlock_41 rfl 1 rfl ?_
      refine z_imul O zd_M_ackBlock_42 ?_
      refine z_iload_n O zd_M_ackBlock_43 rfl 2 rfl ?_
      refine z_iadd O zd_M_ackBlock_44 ?_
      have b8 := ko
      refine z_iald O 23 (zae23 w u5) b8 (v := (u5 23 (((3 * a1) + a2) : Int32).toNatClampNeg)) rfl zd_M_ackBlock_45 ?_
      refine z_goto O (tgt := 50) zd_M_ackBlock_46 (by decide) ?_
      exact E _ _ _ _ zd_M_ackBlock_50 rfl ht.symm
  · have ht := ht.trans (if_neg c3)
    have ko := ko.2 c3
    refine z_iload_n O zd_M_ackBlock_9 rfl 2 rfl ?_
    refine z_iconst O (v := 0) zd_M_ackBlock_10 (by decide) ?_
    refine z_aload_n O zd_M_ackBlock_11 rfl 0 rfl ?_
    refine zg_M_57_13 O zd_M_ackBlock_12 (v := .ref (zq w 22)) rfl ?_
    refine z_iload_n O zd_M_ackBlock_15 rfl 1 rfl ?_
    have b9 := ko.1
    have ko := ko.2
    refine z_iald O 22 (zae22 w σ) b9 (v := (σ 22 a1.toNatClampNeg)) rfl zd_M_ackBlock_16 ?_
    refine z_iconst O (v := 1) zd_M_ackBlock_17 (by decide) ?_
    refine z_isub O zd_M_ackBlock_18 ?_
    refine z_callsri O hl0 (st := [.ref (zq w 13)]) (c_M_isIn l w σ a2 0 ((σ 22 a1.toNatClampNeg) - 1)) zl_M_69 zm864 rfl rfl (Nat.le_of_ble_eq_true rfl) (Nat.le_of_ble_eq_true rfl) (Nat.le_of_ble_eq_true rfl) zd_M_ackBlock_19 (fun r10 e11 => ?_)
    have ht := ht.trans (zlet_e e11)
    have ko := ko r10 e11
    refine z_if_eq O (tgt := 29) zd_M_ackBlock_22 (by decide) (fun c12 => ?_) (fun c12 => ?_)
    · have ht := ht.trans (if_pos c12)
      have ko := ko.1 c12
      refine z_iconst O (v := 1) zd_M_ackBlock_29 (by decide) ?_
      refine z_calli O hl0 (st := []) 13 6 (fs := zo13 w σ) rfl rfl (c_M_isFine l w σ 1) zl_M_76 zm868 zms15 rfl rfl (Nat.le_of_ble_eq_true rfl) (Nat.le_of_ble_eq_true rfl) (Nat.le_of_ble_eq_true rfl) zd_M_ackBlock_30 (fun r13 u14 e15 => ?_)
      have ht := ht.trans (zseq_e e15)
      have ko := ko r13 u14 e15
      refine z_if_eq O (tgt := 49) zd_M_ackBlock_33 (by decide) (fun c16 => ?_) (fun c16 => ?_)
      · have ht := ht.trans (if_pos c16)
        refine z_iconst O (v := 0) zd_M_ackBlock_49 (by decide) ?_
        exact E _ _ _ _ zd_M_ackBlock_50 rfl ht.symm
      · have ht := ht.trans (if_neg c16)
        have ko := ko c16
        refine z_aload_n O zd_M_ackBlock_36 rfl 0 rfl ?_
        refine zg_M_60_13 O zd_M_ackBlock_37 (v := .ref (zq w 23)) rfl ?_
        refine z_iconst O (v := 3) zd_M_ackBlock_40 (by decide) ?_
        refine z_iload_n O zd_M_ackBlock_41 rfl 1 rfl ?_
        refine z_imul O zd_M_ackBlock_42 ?_
        refine z_iload_n O zd_M_ackBlock_43 rfl 2 rfl ?_
        refine z_iadd O zd_M_ackBlock_44 ?_
        have b17 := ko
        refine z_iald O 23 (zae23 w u14) b17 (v := (u14 23 (((3 * a1) + a2) : Int32).toNatClampNeg)) rfl zd_M_ackBlock_45 ?_
        refine z_goto O (tgt := 50) zd_M_ackBlock_46 (by decide) ?_
        exact E _ _ _ _ zd_M_ackBlock_50 rfl ht.symm
    · have ht := ht.trans (if_neg c12)
      have ko := ko.2 c12
      refine z_iconst O (v := 0) zd_M_ackBlock_25 (by decide) ?_
      refine z_goto O (tgt := 30) zd_M_ackBlock_26 (by decide) ?_
      refine z_calli O hl0 (st := []) 13 6 (fs := zo13 w σ) rfl rfl (c_M_isFine l w σ 0) zl_M_76 zm868 zms15 rfl rfl (Nat.le_of_ble_eq_true rfl) (Nat.le_of_ble_eq_true rfl) (Nat.le_of_ble_eq_true rfl) zd_M_ackBlock_30 (fun r18 u19 e20 => ?_)
      have ht := ht.trans (zseq_e e20)
      have ko := ko r18 u19 e20
      refine z_if_eq O (tgt := 49) zd_M_ackBlock_33 (by decide) (fun c21 => ?_) (fun c21 => ?_)
      · have ht := ht.trans (if_pos c21)
        refine z_iconst O (v := 0) zd_M_ackBlock_49 (by decide) ?_
        exact E _ _ _ _ zd_M_ackBlock_50 rfl ht.symm
      · have ht := ht.trans (if_neg c21)
        have ko := ko c21
        refine z_aload_n O zd_M_ackBlock_36 rfl 0 rfl ?_
        refine zg_M_60_13 O zd_M_ackBlock_37 (v := .ref (zq w 23)) rfl ?_
        refine z_iconst O (v := 3) zd_M_ackBlock_40 (by decide) ?_
        refine z_iload_n O zd_M_ackBlock_41 rfl 1 rfl ?_
        refine z_imul O zd_M_ackBlock_42 ?_
        refine z_iload_n O zd_M_ackBlock_43 rfl 2 rfl ?_
        refine z_iadd O zd_M_ackBlock_44 ?_
        have b22 := ko
        refine z_iald O 23 (zae23 w u19) b22 (v := (u19 23 (((3 * a1) + a2) : Int32).toNatClampNeg)) rfl zd_M_ackBlock_45 ?_
        refine z_goto O (tgt := 50) zd_M_ackBlock_46 (by decide) ?_
        exact E _ _ _ _ zd_M_ackBlock_50 rfl ht.symm
set_option maxHeartbeats 4000000 in
set_option maxRecDepth 100000 in
theorem c_M_time (l : Launch) (w : zWd) (σ : zSt) : zMi l ({ cls := "SluiceStreamModel", name := "time", desc := "()I" } : Jvm.MethodName) prog_8_method_44_code 1 0 0 .int w [.ref (zq w 13)] σ (fun r u => (r, u) = (f_M_time σ)) := by
  refine zMi_of (by decide +kernel) (Nat.le_of_ble_eq_true rfl) ?_
  intro K O hl0 E
  have ht : (f_M_time σ) = (f_M_time σ) := rfl
  refine z_sub (lv' := [(0, .ref (zq w 13))]) [0] rfl ?_
  refine z_aload_n O zd_M_time_0 rfl 0 rfl ?_
  refine z_iconst O (v := 0) zd_M_time_1 (by decide) ?_
  refine zp_M_66_13 O zd_M_time_2 ?_
  refine z_aload_n O zd_M_time_5 rfl 0 rfl ?_
  refine zg_M_121_13 O zd_M_time_6 (v := .int (σ 13 1)) rfl ?_
  exact E _ _ _ _ zd_M_time_9 rfl ht.symm
set_option maxHeartbeats 4000000 in
set_option maxRecDepth 100000 in
theorem c_M_acknowledged (l : Launch) (w : zWd) (σ : zSt) : zMi l ({ cls := "SluiceStreamModel", name := "acknowledged", desc := "()I" } : Jvm.MethodName) prog_8_method_45_code 1 0 0 .int w [.ref (zq w 13)] σ (fun r u => (r, u) = (f_M_acknowledged σ)) := by
  refine zMi_of (by decide +kernel) (Nat.le_of_ble_eq_true rfl) ?_
  intro K O hl0 E
  have ht : (f_M_acknowledged σ) = (f_M_acknowledged σ) := rfl
  refine z_sub (lv' := [(0, .ref (zq w 13))]) [0] rfl ?_
  refine z_aload_n O zd_M_acknowledged_0 rfl 0 rfl ?_
  refine z_iconst O (v := 0) zd_M_acknowledged_1 (by decide) ?_
  refine zp_M_66_13 O zd_M_acknowledged_2 ?_
  refine z_aload_n O zd_M_acknowledged_5 rfl 0 rfl ?_
  refine zg_M_93_13 O zd_M_acknowledged_6 (v := .int (σ 13 2)) rfl ?_
  exact E _ _ _ _ zd_M_acknowledged_9 rfl ht.symm
set_option maxHeartbeats 4000000 in
set_option maxRecDepth 100000 in
theorem c_M_next (l : Launch) (w : zWd) (σ : zSt) : zMi l ({ cls := "SluiceStreamModel", name := "next", desc := "()I" } : Jvm.MethodName) prog_8_method_46_code 1 0 0 .int w [.ref (zq w 13)] σ (fun r u => (r, u) = (f_M_next σ)) := by
  refine zMi_of (by decide +kernel) (Nat.le_of_ble_eq_true rfl) ?_
  intro K O hl0 E
  have ht : (f_M_next σ) = (f_M_next σ) := rfl
  refine z_sub (lv' := [(0, .ref (zq w 13))]) [0] rfl ?_
  refine z_aload_n O zd_M_next_0 rfl 0 rfl ?_
  refine z_iconst O (v := 0) zd_M_next_1 (by decide) ?_
  refine zp_M_66_13 O zd_M_next_2 ?_
  refine z_aload_n O zd_M_next_5 rfl 0 rfl ?_
  refine zg_M_96_13 O zd_M_next_6 (v := .int (σ 13 3)) rfl ?_
  exact E _ _ _ _ zd_M_next_9 rfl ht.symm
set_option maxHeartbeats 4000000 in
set_option maxRecDepth 100000 in
theorem c_M_highest (l : Launch) (w : zWd) (σ : zSt) : zMi l ({ cls := "SluiceStreamModel", name := "highest", desc := "()I" } : Jvm.MethodName) prog_8_method_47_code 1 0 0 .int w [.ref (zq w 13)] σ (fun r u => (r, u) = (f_M_highest σ)) := by
  refine zMi_of (by decide +kernel) (Nat.le_of_ble_eq_true rfl) ?_
  intro K O hl0 E
  have ht : (f_M_highest σ) = (f_M_highest σ) := rfl
  refine z_sub (lv' := [(0, .ref (zq w 13))]) [0] rfl ?_
  refine z_aload_n O zd_M_highest_0 rfl 0 rfl ?_
  refine z_iconst O (v := 0) zd_M_highest_1 (by decide) ?_
  refine zp_M_66_13 O zd_M_highest_2 ?_
  refine z_aload_n O zd_M_highest_5 rfl 0 rfl ?_
  refine zg_M_115_13 O zd_M_highest_6 (v := .int (σ 13 4)) rfl ?_
  exact E _ _ _ _ zd_M_highest_9 rfl ht.symm
set_option maxHeartbeats 4000000 in
set_option maxRecDepth 100000 in
theorem c_M_written (l : Launch) (w : zWd) (σ : zSt) : zMi l ({ cls := "SluiceStreamModel", name := "written", desc := "()I" } : Jvm.MethodName) prog_8_method_48_code 1 0 0 .int w [.ref (zq w 13)] σ (fun r u => (r, u) = (f_M_written σ)) := by
  refine zMi_of (by decide +kernel) (Nat.le_of_ble_eq_true rfl) ?_
  intro K O hl0 E
  have ht : (f_M_written σ) = (f_M_written σ) := rfl
  refine z_sub (lv' := [(0, .ref (zq w 13))]) [0] rfl ?_
  refine z_aload_n O zd_M_written_0 rfl 0 rfl ?_
  refine z_iconst O (v := 0) zd_M_written_1 (by decide) ?_
  refine zp_M_66_13 O zd_M_written_2 ?_
  refine z_aload_n O zd_M_written_5 rfl 0 rfl ?_
  refine zg_M_73_13 O zd_M_written_6 (v := .int (σ 13 5)) rfl ?_
  exact E _ _ _ _ zd_M_written_9 rfl ht.symm
set_option maxHeartbeats 4000000 in
set_option maxRecDepth 100000 in
theorem c_M_edge (l : Launch) (w : zWd) (σ : zSt) : zMi l ({ cls := "SluiceStreamModel", name := "edge", desc := "()I" } : Jvm.MethodName) prog_8_method_49_code 1 0 0 .int w [.ref (zq w 13)] σ (fun r u => (r, u) = (f_M_edge σ)) := by
  refine zMi_of (by decide +kernel) (Nat.le_of_ble_eq_true rfl) ?_
  intro K O hl0 E
  have ht : (f_M_edge σ) = (f_M_edge σ) := rfl
  refine z_sub (lv' := [(0, .ref (zq w 13))]) [0] rfl ?_
  refine z_aload_n O zd_M_edge_0 rfl 0 rfl ?_
  refine z_iconst O (v := 0) zd_M_edge_1 (by decide) ?_
  refine zp_M_66_13 O zd_M_edge_2 ?_
  refine z_aload_n O zd_M_edge_5 rfl 0 rfl ?_
  refine zg_M_9_13 O zd_M_edge_6 (v := .int (σ 13 6)) rfl ?_
  exact E _ _ _ _ zd_M_edge_9 rfl ht.symm
set_option maxHeartbeats 4000000 in
set_option maxRecDepth 100000 in
theorem c_M_inFlight (l : Launch) (w : zWd) (σ : zSt) (ko : k_M_inFlight σ) : zMi l ({ cls := "SluiceStreamModel", name := "inFlight", desc := "()I" } : Jvm.MethodName) prog_8_method_50_code 1 1 22 .int w [.ref (zq w 13)] σ (fun r u => (r, u) = (f_M_inFlight σ)) := by
  refine zMi_of (by decide +kernel) (Nat.le_of_ble_eq_true rfl) ?_
  intro K O hl0 E
  have ht : (f_M_inFlight σ) = (f_M_inFlight σ) := rfl
  refine z_sub (lv' := [(0, .ref (zq w 13))]) [0] rfl ?_
  refine z_aload_n O zd_M_inFlight_0 rfl 0 rfl ?_
  refine z_iconst O (v := 0) zd_M_inFlight_1 (by decide) ?_
  refine zp_M_66_13 O zd_M_inFlight_2 ?_
  refine z_aload_n O zd_M_inFlight_5 rfl 0 rfl ?_
  refine z_callri O hl0 (st := []) 13 6 (fs := zo13 w (zuf σ 13 0 0)) rfl rfl (c_M_flight l w (zuf σ 13 0 0) ko) zl_M_143 zm930 zms26 rfl rfl (Nat.le_of_ble_eq_true rfl) (Nat.le_of_ble_eq_true rfl) (Nat.le_of_ble_eq_true rfl) zd_M_inFlight_6 (fun r1 e2 => ?_)
  have ht := ht.trans (zlet_e e2)
  exact E _ _ _ _ zd_M_inFlight_9 rfl ht.symm
set_option maxHeartbeats 4000000 in
set_option maxRecDepth 100000 in
theorem c_M_isMarked (l : Launch) (w : zWd) (σ : zSt) (a1 : Int32) (ko : k_M_isMarked σ a1) : zMi l ({ cls := "SluiceStreamModel", name := "isMarked", desc := "(I)Z" } : Jvm.MethodName) prog_8_method_51_code 2 1 22 .boolean w [.ref (zq w 13), .int a1] σ (fun r u => (r, u) = (f_M_isMarked σ a1)) := by
  refine zMi_of (by decide +kernel) (Nat.le_of_ble_eq_true rfl) ?_
  intro K O hl0 E
  have ht : (f_M_isMarked σ a1) = (f_M_isMarked σ a1) := rfl
  refine z_sub (lv' := [(0, .ref (zq w 13)), (1, .int a1)]) [0, 1] rfl ?_
  refine z_aload_n O zd_M_isMarked_0 rfl 0 rfl ?_
  refine z_iload_n O zd_M_isMarked_1 rfl 1 rfl ?_
  refine z_iconst O (v := 0) zd_M_isMarked_2 (by decide) ?_
  refine z_aload_n O zd_M_isMarked_3 rfl 0 rfl ?_
  refine zg_M_73_13 O zd_M_isMarked_4 (v := .int (σ 13 5)) rfl ?_
  refine z_iconst O (v := 1) zd_M_isMarked_7 (by decide) ?_
  refine z_isub O zd_M_isMarked_8 ?_
  refine z_callsri O hl0 (st := [.ref (zq w 13)]) (c_M_isIn l w σ a1 0 ((σ 13 5) - 1)) zl_M_69 zm864 rfl rfl (Nat.le_of_ble_eq_true rfl) (Nat.le_of_ble_eq_true rfl) (Nat.le_of_ble_eq_true rfl) zd_M_isMarked_9 (fun r1 e2 => ?_)
  have ht := ht.trans (zlet_e e2)
  have ko := ko r1 e2
  refine z_if_eq O (tgt := 19) zd_M_isMarked_12 (by decide) (fun c3 => ?_) (fun c3 => ?_)
  · have ht := ht.trans (if_pos c3)
    have ko := ko.1 c3
    refine z_iconst O (v := 1) zd_M_isMarked_19 (by decide) ?_
    refine z_calli O hl0 (st := []) 13 6 (fs := zo13 w σ) rfl rfl (c_M_isFine l w σ 1) zl_M_76 zm868 zms15 rfl rfl (Nat.le_of_ble_eq_true rfl) (Nat.le_of_ble_eq_true rfl) (Nat.le_of_ble_eq_true rfl) zd_M_isMarked_20 (fun r4 u5 e6 => ?_)
    have ht := ht.trans (zseq_e e6)
    have ko := ko r4 u5 e6
    refine z_if_eq O (tgt := 39) zd_M_isMarked_23 (by decide) (fun c7 => ?_) (fun c7 => ?_)
    · have ht := ht.trans (if_pos c7)
      refine z_iconst O (v := 0) zd_M_isMarked_39 (by decide) ?_
      exact E _ _ _ _ zd_M_isMarked_40 rfl ht.symm
    · have ht := ht.trans (if_neg c7)
      have ko := ko c7
      refine z_aload_n O zd_M_isMarked_26 rfl 0 rfl ?_
      refine zg_M_35_13 O zd_M_isMarked_27 (v := .ref (zq w 15)) rfl ?_
      refine z_iload_n O zd_M_isMarked_30 rfl 1 rfl ?_
      have b8 := ko
      refine z_zald O 15 (zae15 w u5) b8 (v := (u5 15 a1.toNatClampNeg)) rfl zd_M_isMarked_31 ?_
      refine z_if_eq O (tgt := 39) zd_M_isMarked_32 (by decide) (fun c9 => ?_) (fun c9 => ?_)
      · have ht := ht.trans (if_pos c9)
        refine z_iconst O (v := 0) zd_M_isMarked_39 (by decide) ?_
        exact E _ _ _ _ zd_M_isMarked_40 rfl ht.symm
      · have ht := ht.trans (if_neg c9)
        refine z_iconst O (v := 1) zd_M_isMarked_35 (by decide) ?_
        refine z_goto O (tgt := 40) zd_M_isMarked_36 (by decide) ?_
        exact E _ _ _ _ zd_M_isMarked_40 rfl ht.symm
  · have ht := ht.trans (if_neg c3)
    have ko := ko.2 c3
    refine z_iconst O (v := 0) zd_M_isMarked_15 (by decide) ?_
    refine z_goto O (tgt := 20) zd_M_isMarked_16 (by decide) ?_
    refine z_calli O hl0 (st := []) 13 6 (fs := zo13 w σ) rfl rfl (c_M_isFine l w σ 0) zl_M_76 zm868 zms15 rfl rfl (Nat.le_of_ble_eq_true rfl) (Nat.le_of_ble_eq_true rfl) (Nat.le_of_ble_eq_true rfl) zd_M_isMarked_20 (fun r10 u11 e12 => ?_)
    have ht := ht.trans (zseq_e e12)
    have ko := ko r10 u11 e12
    refine z_if_eq O (tgt := 39) zd_M_isMarked_23 (by decide) (fun c13 => ?_) (fun c13 => ?_)
    · have ht := ht.trans (if_pos c13)
      refine z_iconst O (v := 0) zd_M_isMarked_39 (by decide) ?_
      exact E _ _ _ _ zd_M_isMarked_40 rfl ht.symm
    · have ht := ht.trans (if_neg c13)
      have ko := ko c13
      refine z_aload_n O zd_M_isMarked_26 rfl 0 rfl ?_
      refine zg_M_35_13 O zd_M_isMarked_27 (v := .ref (zq w 15)) rfl ?_
      refine z_iload_n O zd_M_isMarked_30 rfl 1 rfl ?_
      have b14 := ko
      refine z_zald O 15 (zae15 w u11) b14 (v := (u11 15 a1.toNatClampNeg)) rfl zd_M_isMarked_31 ?_
      refine z_if_eq O (tgt := 39) zd_M_isMarked_32 (by decide) (fun c15 => ?_) (fun c15 => ?_)
      · have ht := ht.trans (if_pos c15)
        refine z_iconst O (v := 0) zd_M_isMarked_39 (by decide) ?_
        exact E _ _ _ _ zd_M_isMarked_40 rfl ht.symm
      · have ht := ht.trans (if_neg c15)
        refine z_iconst O (v := 1) zd_M_isMarked_35 (by decide) ?_
        refine z_goto O (tgt := 40) zd_M_isMarked_36 (by decide) ?_
        exact E _ _ _ _ zd_M_isMarked_40 rfl ht.symm
set_option maxHeartbeats 4000000 in
set_option maxRecDepth 100000 in
theorem c_M_congestionWindow (l : Launch) (w : zWd) (σ : zSt) : zMi l ({ cls := "SluiceStreamModel", name := "congestionWindow", desc := "()I" } : Jvm.MethodName) prog_8_method_52_code 1 0 0 .int w [.ref (zq w 13)] σ (fun r u => (r, u) = (f_M_congestionWindow σ)) := by
  refine zMi_of (by decide +kernel) (Nat.le_of_ble_eq_true rfl) ?_
  intro K O hl0 E
  have ht : (f_M_congestionWindow σ) = (f_M_congestionWindow σ) := rfl
  refine z_sub (lv' := [(0, .ref (zq w 13))]) [0] rfl ?_
  refine z_aload_n O zd_M_congestionWindow_0 rfl 0 rfl ?_
  refine z_iconst O (v := 0) zd_M_congestionWindow_1 (by decide) ?_
  refine zp_M_66_13 O zd_M_congestionWindow_2 ?_
  refine z_aload_n O zd_M_congestionWindow_5 rfl 0 rfl ?_
  refine zg_M_13_13 O zd_M_congestionWindow_6 (v := .int (σ 13 7)) rfl ?_
  exact E _ _ _ _ zd_M_congestionWindow_9 rfl ht.symm
set_option maxHeartbeats 4000000 in
set_option maxRecDepth 100000 in
theorem c_M_threshold (l : Launch) (w : zWd) (σ : zSt) : zMi l ({ cls := "SluiceStreamModel", name := "threshold", desc := "()I" } : Jvm.MethodName) prog_8_method_53_code 1 0 0 .int w [.ref (zq w 13)] σ (fun r u => (r, u) = (f_M_threshold σ)) := by
  refine zMi_of (by decide +kernel) (Nat.le_of_ble_eq_true rfl) ?_
  intro K O hl0 E
  have ht : (f_M_threshold σ) = (f_M_threshold σ) := rfl
  refine z_sub (lv' := [(0, .ref (zq w 13))]) [0] rfl ?_
  refine z_aload_n O zd_M_threshold_0 rfl 0 rfl ?_
  refine z_iconst O (v := 0) zd_M_threshold_1 (by decide) ?_
  refine zp_M_66_13 O zd_M_threshold_2 ?_
  refine z_aload_n O zd_M_threshold_5 rfl 0 rfl ?_
  refine zg_M_16_13 O zd_M_threshold_6 (v := .int (σ 13 8)) rfl ?_
  exact E _ _ _ _ zd_M_threshold_9 rfl ht.symm
set_option maxHeartbeats 4000000 in
set_option maxRecDepth 100000 in
theorem c_M_duplicates (l : Launch) (w : zWd) (σ : zSt) : zMi l ({ cls := "SluiceStreamModel", name := "duplicates", desc := "()I" } : Jvm.MethodName) prog_8_method_54_code 1 0 0 .int w [.ref (zq w 13)] σ (fun r u => (r, u) = (f_M_duplicates σ)) := by
  refine zMi_of (by decide +kernel) (Nat.le_of_ble_eq_true rfl) ?_
  intro K O hl0 E
  have ht : (f_M_duplicates σ) = (f_M_duplicates σ) := rfl
  refine z_sub (lv' := [(0, .ref (zq w 13))]) [0] rfl ?_
  refine z_aload_n O zd_M_duplicates_0 rfl 0 rfl ?_
  refine z_iconst O (v := 0) zd_M_duplicates_1 (by decide) ?_
  refine zp_M_66_13 O zd_M_duplicates_2 ?_
  refine z_aload_n O zd_M_duplicates_5 rfl 0 rfl ?_
  refine zg_M_146_13 O zd_M_duplicates_6 (v := .int (σ 13 13)) rfl ?_
  exact E _ _ _ _ zd_M_duplicates_9 rfl ht.symm
set_option maxHeartbeats 4000000 in
set_option maxRecDepth 100000 in
theorem c_M_recoveryEnd (l : Launch) (w : zWd) (σ : zSt) : zMi l ({ cls := "SluiceStreamModel", name := "recoveryEnd", desc := "()I" } : Jvm.MethodName) prog_8_method_55_code 1 0 0 .int w [.ref (zq w 13)] σ (fun r u => (r, u) = (f_M_recoveryEnd σ)) := by
  refine zMi_of (by decide +kernel) (Nat.le_of_ble_eq_true rfl) ?_
  intro K O hl0 E
  have ht : (f_M_recoveryEnd σ) = (f_M_recoveryEnd σ) := rfl
  refine z_sub (lv' := [(0, .ref (zq w 13))]) [0] rfl ?_
  refine z_aload_n O zd_M_recoveryEnd_0 rfl 0 rfl ?_
  refine z_iconst O (v := 0) zd_M_recoveryEnd_1 (by decide) ?_
  refine zp_M_66_13 O zd_M_recoveryEnd_2 ?_
  refine z_aload_n O zd_M_recoveryEnd_5 rfl 0 rfl ?_
  refine zg_M_127_13 O zd_M_recoveryEnd_6 (v := .int (σ 13 10)) rfl ?_
  refine z_if_eq O (tgt := 19) zd_M_recoveryEnd_9 (by decide) (fun c1 => ?_) (fun c1 => ?_)
  · have ht := ht.trans (if_pos c1)
    refine z_iconst O (v := (-1)) zd_M_recoveryEnd_19 (by decide) ?_
    exact E _ _ _ _ zd_M_recoveryEnd_20 rfl ht.symm
  · have ht := ht.trans (if_neg c1)
    refine z_aload_n O zd_M_recoveryEnd_12 rfl 0 rfl ?_
    refine zg_M_165_13 O zd_M_recoveryEnd_13 (v := .int (σ 13 11)) rfl ?_
    refine z_goto O (tgt := 20) zd_M_recoveryEnd_16 (by decide) ?_
    exact E _ _ _ _ zd_M_recoveryEnd_20 rfl ht.symm
set_option maxHeartbeats 4000000 in
set_option maxRecDepth 100000 in
theorem c_M_timeout (l : Launch) (w : zWd) (σ : zSt) : zMi l ({ cls := "SluiceStreamModel", name := "timeout", desc := "()I" } : Jvm.MethodName) prog_8_method_56_code 1 0 0 .int w [.ref (zq w 13)] σ (fun r u => (r, u) = (f_M_timeout σ)) := by
  refine zMi_of (by decide +kernel) (Nat.le_of_ble_eq_true rfl) ?_
  intro K O hl0 E
  have ht : (f_M_timeout σ) = (f_M_timeout σ) := rfl
  refine z_sub (lv' := [(0, .ref (zq w 13))]) [0] rfl ?_
  refine z_aload_n O zd_M_timeout_0 rfl 0 rfl ?_
  refine z_iconst O (v := 0) zd_M_timeout_1 (by decide) ?_
  refine zp_M_66_13 O zd_M_timeout_2 ?_
  refine z_aload_n O zd_M_timeout_5 rfl 0 rfl ?_
  refine zg_M_22_13 O zd_M_timeout_6 (v := .int (σ 13 14)) rfl ?_
  exact E _ _ _ _ zd_M_timeout_9 rfl ht.symm
set_option maxHeartbeats 4000000 in
set_option maxRecDepth 100000 in
theorem c_M_timerEnd (l : Launch) (w : zWd) (σ : zSt) : zMi l ({ cls := "SluiceStreamModel", name := "timerEnd", desc := "()I" } : Jvm.MethodName) prog_8_method_57_code 1 0 0 .int w [.ref (zq w 13)] σ (fun r u => (r, u) = (f_M_timerEnd σ)) := by
  refine zMi_of (by decide +kernel) (Nat.le_of_ble_eq_true rfl) ?_
  intro K O hl0 E
  have ht : (f_M_timerEnd σ) = (f_M_timerEnd σ) := rfl
  refine z_sub (lv' := [(0, .ref (zq w 13))]) [0] rfl ?_
  refine z_aload_n O zd_M_timerEnd_0 rfl 0 rfl ?_
  refine z_iconst O (v := 0) zd_M_timerEnd_1 (by decide) ?_
  refine zp_M_66_13 O zd_M_timerEnd_2 ?_
  refine z_aload_n O zd_M_timerEnd_5 rfl 0 rfl ?_
  refine zg_M_25_13 O zd_M_timerEnd_6 (v := .int (σ 13 15)) rfl ?_
  exact E _ _ _ _ zd_M_timerEnd_9 rfl ht.symm
set_option maxHeartbeats 4000000 in
set_option maxRecDepth 100000 in
theorem c_M_roundTrip (l : Launch) (w : zWd) (σ : zSt) : zMi l ({ cls := "SluiceStreamModel", name := "roundTrip", desc := "()I" } : Jvm.MethodName) prog_8_method_58_code 1 0 0 .int w [.ref (zq w 13)] σ (fun r u => (r, u) = (f_M_roundTrip σ)) := by
  refine zMi_of (by decide +kernel) (Nat.le_of_ble_eq_true rfl) ?_
  intro K O hl0 E
  have ht : (f_M_roundTrip σ) = (f_M_roundTrip σ) := rfl
  refine z_sub (lv' := [(0, .ref (zq w 13))]) [0] rfl ?_
  refine z_aload_n O zd_M_roundTrip_0 rfl 0 rfl ?_
  refine z_iconst O (v := 0) zd_M_roundTrip_1 (by decide) ?_
  refine zp_M_66_13 O zd_M_roundTrip_2 ?_
  refine z_aload_n O zd_M_roundTrip_5 rfl 0 rfl ?_
  refine zg_M_155_13 O zd_M_roundTrip_6 (v := .int (σ 13 18)) rfl ?_
  exact E _ _ _ _ zd_M_roundTrip_9 rfl ht.symm
set_option maxHeartbeats 4000000 in
set_option maxRecDepth 100000 in
theorem c_M_variation (l : Launch) (w : zWd) (σ : zSt) : zMi l ({ cls := "SluiceStreamModel", name := "variation", desc := "()I" } : Jvm.MethodName) prog_8_method_59_code 1 0 0 .int w [.ref (zq w 13)] σ (fun r u => (r, u) = (f_M_variation σ)) := by
  refine zMi_of (by decide +kernel) (Nat.le_of_ble_eq_true rfl) ?_
  intro K O hl0 E
  have ht : (f_M_variation σ) = (f_M_variation σ) := rfl
  refine z_sub (lv' := [(0, .ref (zq w 13))]) [0] rfl ?_
  refine z_aload_n O zd_M_variation_0 rfl 0 rfl ?_
  refine z_iconst O (v := 0) zd_M_variation_1 (by decide) ?_
  refine zp_M_66_13 O zd_M_variation_2 ?_
  refine z_aload_n O zd_M_variation_5 rfl 0 rfl ?_
  refine zg_M_158_13 O zd_M_variation_6 (v := .int (σ 13 19)) rfl ?_
  exact E _ _ _ _ zd_M_variation_9 rfl ht.symm
set_option maxHeartbeats 4000000 in
set_option maxRecDepth 100000 in
theorem c_M_timedEnd (l : Launch) (w : zWd) (σ : zSt) : zMi l ({ cls := "SluiceStreamModel", name := "timedEnd", desc := "()I" } : Jvm.MethodName) prog_8_method_60_code 1 0 0 .int w [.ref (zq w 13)] σ (fun r u => (r, u) = (f_M_timedEnd σ)) := by
  refine zMi_of (by decide +kernel) (Nat.le_of_ble_eq_true rfl) ?_
  intro K O hl0 E
  have ht : (f_M_timedEnd σ) = (f_M_timedEnd σ) := rfl
  refine z_sub (lv' := [(0, .ref (zq w 13))]) [0] rfl ?_
  refine z_aload_n O zd_M_timedEnd_0 rfl 0 rfl ?_
  refine z_iconst O (v := 0) zd_M_timedEnd_1 (by decide) ?_
  refine zp_M_66_13 O zd_M_timedEnd_2 ?_
  refine z_aload_n O zd_M_timedEnd_5 rfl 0 rfl ?_
  refine zg_M_28_13 O zd_M_timedEnd_6 (v := .int (σ 13 16)) rfl ?_
  exact E _ _ _ _ zd_M_timedEnd_9 rfl ht.symm
set_option maxHeartbeats 4000000 in
set_option maxRecDepth 100000 in
theorem c_M_sent (l : Launch) (w : zWd) (σ : zSt) : zMi l ({ cls := "SluiceStreamModel", name := "sent", desc := "()I" } : Jvm.MethodName) prog_8_method_61_code 1 0 0 .int w [.ref (zq w 13)] σ (fun r u => (r, u) = (f_M_sent σ)) := by
  refine zMi_of (by decide +kernel) (Nat.le_of_ble_eq_true rfl) ?_
  intro K O hl0 E
  have ht : (f_M_sent σ) = (f_M_sent σ) := rfl
  refine z_sub (lv' := [(0, .ref (zq w 13))]) [0] rfl ?_
  refine z_aload_n O zd_M_sent_0 rfl 0 rfl ?_
  refine z_iconst O (v := 0) zd_M_sent_1 (by decide) ?_
  refine zp_M_66_13 O zd_M_sent_2 ?_
  refine z_aload_n O zd_M_sent_5 rfl 0 rfl ?_
  refine zg_M_112_13 O zd_M_sent_6 (v := .int (σ 13 21)) rfl ?_
  exact E _ _ _ _ zd_M_sent_9 rfl ht.symm
set_option maxHeartbeats 4000000 in
set_option maxRecDepth 100000 in
theorem c_M_sentAgain (l : Launch) (w : zWd) (σ : zSt) : zMi l ({ cls := "SluiceStreamModel", name := "sentAgain", desc := "()I" } : Jvm.MethodName) prog_8_method_62_code 1 0 0 .int w [.ref (zq w 13)] σ (fun r u => (r, u) = (f_M_sentAgain σ)) := by
  refine zMi_of (by decide +kernel) (Nat.le_of_ble_eq_true rfl) ?_
  intro K O hl0 E
  have ht : (f_M_sentAgain σ) = (f_M_sentAgain σ) := rfl
  refine z_sub (lv' := [(0, .ref (zq w 13))]) [0] rfl ?_
  refine z_aload_n O zd_M_sentAgain_0 rfl 0 rfl ?_
  refine z_iconst O (v := 0) zd_M_sentAgain_1 (by decide) ?_
  refine zp_M_66_13 O zd_M_sentAgain_2 ?_
  refine z_aload_n O zd_M_sentAgain_5 rfl 0 rfl ?_
  refine zg_M_118_13 O zd_M_sentAgain_6 (v := .int (σ 13 22)) rfl ?_
  exact E _ _ _ _ zd_M_sentAgain_9 rfl ht.symm
set_option maxHeartbeats 4000000 in
set_option maxRecDepth 100000 in
theorem c_M_inOrder (l : Launch) (w : zWd) (σ : zSt) : zMi l ({ cls := "SluiceStreamModel", name := "inOrder", desc := "()I" } : Jvm.MethodName) prog_8_method_63_code 1 0 0 .int w [.ref (zq w 13)] σ (fun r u => (r, u) = (f_M_inOrder σ)) := by
  refine zMi_of (by decide +kernel) (Nat.le_of_ble_eq_true rfl) ?_
  intro K O hl0 E
  have ht : (f_M_inOrder σ) = (f_M_inOrder σ) := rfl
  refine z_sub (lv' := [(0, .ref (zq w 13))]) [0] rfl ?_
  refine z_aload_n O zd_M_inOrder_0 rfl 0 rfl ?_
  refine z_iconst O (v := 0) zd_M_inOrder_1 (by decide) ?_
  refine zp_M_66_13 O zd_M_inOrder_2 ?_
  refine z_aload_n O zd_M_inOrder_5 rfl 0 rfl ?_
  refine zg_M_83_13 O zd_M_inOrder_6 (v := .int (σ 13 28)) rfl ?_
  exact E _ _ _ _ zd_M_inOrder_9 rfl ht.symm
set_option maxHeartbeats 4000000 in
set_option maxRecDepth 100000 in
theorem c_M_readPosition (l : Launch) (w : zWd) (σ : zSt) : zMi l ({ cls := "SluiceStreamModel", name := "readPosition", desc := "()I" } : Jvm.MethodName) prog_8_method_64_code 1 0 0 .int w [.ref (zq w 13)] σ (fun r u => (r, u) = (f_M_readPosition σ)) := by
  refine zMi_of (by decide +kernel) (Nat.le_of_ble_eq_true rfl) ?_
  intro K O hl0 E
  have ht : (f_M_readPosition σ) = (f_M_readPosition σ) := rfl
  refine z_sub (lv' := [(0, .ref (zq w 13))]) [0] rfl ?_
  refine z_aload_n O zd_M_readPosition_0 rfl 0 rfl ?_
  refine z_iconst O (v := 0) zd_M_readPosition_1 (by decide) ?_
  refine zp_M_66_13 O zd_M_readPosition_2 ?_
  refine z_aload_n O zd_M_readPosition_5 rfl 0 rfl ?_
  refine zg_M_80_13 O zd_M_readPosition_6 (v := .int (σ 13 29)) rfl ?_
  exact E _ _ _ _ zd_M_readPosition_9 rfl ht.symm
set_option maxHeartbeats 4000000 in
set_option maxRecDepth 100000 in
theorem c_M_window (l : Launch) (w : zWd) (σ : zSt) : zMi l ({ cls := "SluiceStreamModel", name := "window", desc := "()I" } : Jvm.MethodName) prog_8_method_65_code 1 1 20 .int w [.ref (zq w 13)] σ (fun r u => (r, u) = (f_M_window σ)) := by
  refine zMi_of (by decide +kernel) (Nat.le_of_ble_eq_true rfl) ?_
  intro K O hl0 E
  have ht : (f_M_window σ) = (f_M_window σ) := rfl
  refine z_sub (lv' := [(0, .ref (zq w 13))]) [0] rfl ?_
  refine z_aload_n O zd_M_window_0 rfl 0 rfl ?_
  refine z_iconst O (v := 0) zd_M_window_1 (by decide) ?_
  refine zp_M_66_13 O zd_M_window_2 ?_
  refine z_aload_n O zd_M_window_5 rfl 0 rfl ?_
  refine z_callri O hl0 (st := []) 13 6 (fs := zo13 w (zuf σ 13 0 0)) rfl rfl (c_M_room l w (zuf σ 13 0 0)) zl_M_86 zm876 zms16 rfl rfl (Nat.le_of_ble_eq_true rfl) (Nat.le_of_ble_eq_true rfl) (Nat.le_of_ble_eq_true rfl) zd_M_window_6 (fun r1 e2 => ?_)
  have ht := ht.trans (zlet_e e2)
  exact E _ _ _ _ zd_M_window_9 rfl ht.symm
set_option maxHeartbeats 4000000 in
set_option maxRecDepth 100000 in
theorem L_M_startOfBlock_9 {K : zCx} {w : zWd} {l : Launch} (O : zOk K w prog_8_method_66_code "SluiceStreamModel" 4 1 21) (hl0 : kl K = l) (σ : zSt) {X : Int32} (E : zRi K w prog_8_method_66_code .int (fun r u => r = X ∧ u = σ)) : ∀ (m : Nat) (x2 x3 : Int32), X = (l_M_startOfBlock_9 σ  m x2 x3) → kl_M_startOfBlock_9 σ  m x2 x3 → Z K w σ [(0, .ref (zq w 13)), (2, .int x2), (3, .int x3)] [] 9 := by
  intro m
  induction m with
  | zero => intro x2 x3 _ ko; exact ko.elim
  | succ m ih =>
    intro x2 x3 ht ko
    refine z_iload_n O zd_M_startOfBlock_9 rfl 2 rfl ?_
    refine z_sipush O (v := 600) zd_M_startOfBlock_10 (by decide) ?_
    refine z_icmp_ge O (tgt := 39) zd_M_startOfBlock_13 (by decide) (fun c1 => ?_) (fun c1 => ?_)
    · have ht := ht.trans (if_pos c1)
      refine z_iconst O (v := (-1)) zd_M_startOfBlock_39 (by decide) ?_
      exact E _ _ _ _ zd_M_startOfBlock_40 rfl ⟨ht.symm, rfl⟩
    · have ht := ht.trans (if_neg c1)
      have ko := ko c1
      refine z_aload_n O zd_M_startOfBlock_16 rfl 0 rfl ?_
      refine z_iload_n O zd_M_startOfBlock_17 rfl 2 rfl ?_
      refine z_callri O hl0 (st := []) 13 6 (fs := zo13 w σ) rfl rfl (c_M_isStart l w σ x3 ko.1) zl_M_183 zm888 zms19 rfl rfl (Nat.le_of_ble_eq_true rfl) (Nat.le_of_ble_eq_true rfl) (Nat.le_of_ble_eq_true rfl) zd_M_startOfBlock_18 (fun r2 e3 => ?_)
      have ht := ht.trans (zlet_e e3)
      have ko := ko.2 r2 e3
      refine z_if_eq O (tgt := 33) zd_M_startOfBlock_21 (by decide) (fun c4 => ?_) (fun c4 => ?_)
      · have ht := ht.trans (if_pos c4)
        have ko := ko.1 c4
        refine z_iinc O (v := (x3 + 1)) (lv' := [(3, .int (x3 + 1)), (0, .ref (zq w 13)), (2, .int x2)]) zd_M_startOfBlock_33 2 rfl rfl (Nat.le_of_ble_eq_true rfl) rfl ?_
        refine z_goto O (tgt := 9) zd_M_startOfBlock_36 (by decide) ?_
        refine z_sub (lv' := [(0, .ref (zq w 13)), (2, .int x2), (3, .int (x3 + 1))]) [1, 2, 0] rfl ?_
        exact ih x2 (x3 + 1) ht ko
      · have ht := ht.trans (if_neg c4)
        have ko := ko.2 c4
        refine z_iload_n O zd_M_startOfBlock_24 rfl 1 rfl ?_
        refine z_if_ne O (tgt := 30) zd_M_startOfBlock_25 (by decide) (fun c5 => ?_) (fun c5 => ?_)
        · have ht := ht.trans (if_neg c5)
          have ko := ko c5
          refine z_iinc O (v := (x2 + (-1))) (lv' := [(2, .int (x2 + (-1))), (0, .ref (zq w 13)), (3, .int x3)]) zd_M_startOfBlock_30 1 rfl rfl (Nat.le_of_ble_eq_true rfl) rfl ?_
          refine z_iinc O (v := (x3 + 1)) (lv' := [(3, .int (x3 + 1)), (2, .int (x2 + (-1))), (0, .ref (zq w 13))]) zd_M_startOfBlock_33 2 rfl rfl (Nat.le_of_ble_eq_true rfl) rfl ?_
          refine z_goto O (tgt := 9) zd_M_startOfBlock_36 (by decide) ?_
          refine z_sub (lv' := [(0, .ref (zq w 13)), (2, .int (x2 + (-1))), (3, .int (x3 + 1))]) [2, 1, 0] rfl ?_
          exact ih (x2 + (-1)) (x3 + 1) ht ko
        · have ht := ht.trans (if_pos c5)
          refine z_iload_n O zd_M_startOfBlock_28 rfl 2 rfl ?_
          exact E _ _ _ _ zd_M_startOfBlock_29 rfl ⟨ht.symm, rfl⟩
set_option maxHeartbeats 4000000 in
set_option maxRecDepth 100000 in
theorem c_M_startOfBlock (l : Launch) (w : zWd) (σ : zSt) (a1 : Int32) (ko : k_M_startOfBlock σ a1) : zMi l ({ cls := "SluiceStreamModel", name := "startOfBlock", desc := "(I)I" } : Jvm.MethodName) prog_8_method_66_code 4 1 21 .int w [.ref (zq w 13), .int a1] σ (fun r u => r = (f_M_startOfBlock σ a1) ∧ u = σ) := by
  refine zMi_of (by decide +kernel) (Nat.le_of_ble_eq_true rfl) ?_
  intro K O hl0 E
  have ht : (f_M_startOfBlock σ a1) = (f_M_startOfBlock σ a1) := rfl
  refine z_sub (lv' := [(0, .ref (zq w 13)), (1, .int a1)]) [0, 1] rfl ?_
  refine z_iload_n O zd_M_startOfBlock_0 rfl 1 rfl ?_
  refine z_istore_n O (lv' := [(2, .int a1), (0, .ref (zq w 13)), (1, .int a1)]) zd_M_startOfBlock_1 rfl (Nat.le_of_ble_eq_true rfl) rfl ?_
  refine z_aload_n O zd_M_startOfBlock_2 rfl 1 rfl ?_
  refine zg_M_83_13 O zd_M_startOfBlock_3 (v := .int (σ 13 28)) rfl ?_
  refine z_iconst O (v := 1) zd_M_startOfBlock_6 (by decide) ?_
  refine z_iadd O zd_M_startOfBlock_7 ?_
  refine z_istore_n O (lv' := [(3, .int ((σ 13 28) + 1)), (2, .int a1), (0, .ref (zq w 13)), (1, .int a1)]) zd_M_startOfBlock_8 rfl (Nat.le_of_ble_eq_true rfl) rfl ?_
  refine z_sub (lv' := [(0, .ref (zq w 13)), (2, .int a1), (3, .int ((σ 13 28) + 1))]) [2, 1, 0] rfl ?_
  exact L_M_startOfBlock_9 O hl0 σ E (((600 : Int32).toInt - (((σ 13 28) + 1)).toInt).toNat + 2) a1 ((σ 13 28) + 1) ht ko
set_option maxHeartbeats 4000000 in
set_option maxRecDepth 100000 in
theorem L_M_blocks_14 {K : zCx} {w : zWd} {l : Launch} (O : zOk K w prog_8_method_67_code "SluiceStreamModel" 3 1 21) (hl0 : kl K = l) (σ : zSt) : ∀ (m : Nat) (x1 x2 : Int32), kl_M_blocks_14 σ  m x1 x2 → (∀ r, r = (l_M_blocks_14 σ  m x1 x2) → Z K w σ [(1, .int r)] [] 43) → Z K w σ [(0, .ref (zq w 13)), (1, .int x1), (2, .int x2)] [] 14 := by
  intro m
  induction m with
  | zero => intro x1 x2 ko; exact ko.elim
  | succ m ih =>
    intro x1 x2 ko kk
    have ht : l_M_blocks_14 σ  (m + 1) x1 x2 = l_M_blocks_14 σ  (m + 1) x1 x2 := rfl
    refine z_iload_n O zd_M_blocks_14 rfl 2 rfl ?_
    refine z_sipush O (v := 600) zd_M_blocks_15 (by decide) ?_
    refine z_icmp_ge O (tgt := 43) zd_M_blocks_18 (by decide) (fun c1 => ?_) (fun c1 => ?_)
    · have ht := ht.trans (if_pos c1)
      refine z_sub (lv' := [(1, .int x1)]) [1] rfl ?_
      exact kk x1 ht.symm
    · have ht := ht.trans (if_neg c1)
      have ko := ko c1
      refine z_iload_n O zd_M_blocks_21 rfl 1 rfl ?_
      refine z_aload_n O zd_M_blocks_22 rfl 0 rfl ?_
      refine z_iload_n O zd_M_blocks_23 rfl 2 rfl ?_
      refine z_callri O hl0 (st := [.int x1]) 13 6 (fs := zo13 w σ) rfl rfl (c_M_isStart l w σ x2 ko.1) zl_M_183 zm888 zms19 rfl rfl (Nat.le_of_ble_eq_true rfl) (Nat.le_of_ble_eq_true rfl) (Nat.le_of_ble_eq_true rfl) zd_M_blocks_24 (fun r2 e3 => ?_)
      have ht := ht.trans (zlet_e e3)
      have ko := ko.2 r2 e3
      refine z_if_eq O (tgt := 34) zd_M_blocks_27 (by decide) (fun c4 => ?_) (fun c4 => ?_)
      · have ht := ht.trans (if_pos c4)
        have ko := ko.1 c4
        refine z_iconst O (v := 0) zd_M_blocks_34 (by decide) ?_
        refine z_iadd O zd_M_blocks_35 ?_
        refine z_istore_n O (lv' := [(1, .int (x1 + 0)), (0, .ref (zq w 13)), (2, .int x2)]) zd_M_blocks_36 rfl (Nat.le_of_ble_eq_true rfl) rfl ?_
        refine z_iinc O (v := (x2 + 1)) (lv' := [(2, .int (x2 + 1)), (1, .int (x1 + 0)), (0, .ref (zq w 13))]) zd_M_blocks_37 2 rfl rfl (Nat.le_of_ble_eq_true rfl) rfl ?_
        refine z_goto O (tgt := 14) zd_M_blocks_40 (by decide) ?_
        refine z_sub (lv' := [(0, .ref (zq w 13)), (1, .int (x1 + 0)), (2, .int (x2 + 1))]) [2, 1, 0] rfl ?_
        exact ih (x1 + 0) (x2 + 1) ko (fun r e => kk r (e.trans ht.symm))
      · have ht := ht.trans (if_neg c4)
        have ko := ko.2 c4
        refine z_iconst O (v := 1) zd_M_blocks_30 (by decide) ?_
        refine z_goto O (tgt := 35) zd_M_blocks_31 (by decide) ?_
        refine z_iadd O zd_M_blocks_35 ?_
        refine z_istore_n O (lv' := [(1, .int (x1 + 1)), (0, .ref (zq w 13)), (2, .int x2)]) zd_M_blocks_36 rfl (Nat.le_of_ble_eq_true rfl) rfl ?_
        refine z_iinc O (v := (x2 + 1)) (lv' := [(2, .int (x2 + 1)), (1, .int (x1 + 1)), (0, .ref (zq w 13))]) zd_M_blocks_37 2 rfl rfl (Nat.le_of_ble_eq_true rfl) rfl ?_
        refine z_goto O (tgt := 14) zd_M_blocks_40 (by decide) ?_
        refine z_sub (lv' := [(0, .ref (zq w 13)), (1, .int (x1 + 1)), (2, .int (x2 + 1))]) [2, 1, 0] rfl ?_
        exact ih (x1 + 1) (x2 + 1) ko (fun r e => kk r (e.trans ht.symm))
set_option maxHeartbeats 4000000 in
set_option maxRecDepth 100000 in
theorem c_M_blocks (l : Launch) (w : zWd) (σ : zSt) (ko : k_M_blocks σ) : zMi l ({ cls := "SluiceStreamModel", name := "blocks", desc := "()I" } : Jvm.MethodName) prog_8_method_67_code 3 1 21 .int w [.ref (zq w 13)] σ (fun r u => (r, u) = (f_M_blocks σ)) := by
  refine zMi_of (by decide +kernel) (Nat.le_of_ble_eq_true rfl) ?_
  intro K O hl0 E
  have ht : (f_M_blocks σ) = (f_M_blocks σ) := rfl
  refine z_sub (lv' := [(0, .ref (zq w 13))]) [0] rfl ?_
  refine z_aload_n O zd_M_blocks_0 rfl 0 rfl ?_
  refine z_iconst O (v := 0) zd_M_blocks_1 (by decide) ?_
  refine zp_M_66_13 O zd_M_blocks_2 ?_
  refine z_iconst O (v := 0) zd_M_blocks_5 (by decide) ?_
  refine z_istore_n O (lv' := [(1, .int 0), (0, .ref (zq w 13))]) zd_M_blocks_6 rfl (Nat.le_of_ble_eq_true rfl) rfl ?_
  refine z_aload_n O zd_M_blocks_7 rfl 1 rfl ?_
  refine zg_M_83_13 O zd_M_blocks_8 (v := .int (σ 13 28)) rfl ?_
  refine z_iconst O (v := 1) zd_M_blocks_11 (by decide) ?_
  refine z_iadd O zd_M_blocks_12 ?_
  refine z_istore_n O (lv' := [(2, .int ((σ 13 28) + 1)), (1, .int 0), (0, .ref (zq w 13))]) zd_M_blocks_13 rfl (Nat.le_of_ble_eq_true rfl) rfl ?_
  refine z_sub (lv' := [(0, .ref (zq w 13)), (1, .int 0), (2, .int ((σ 13 28) + 1))]) [2, 1, 0] rfl ?_
  refine L_M_blocks_14 O hl0 (zuf σ 13 0 0) (((600 : Int32).toInt - ((((zuf σ 13 0 0) 13 28) + 1)).toInt).toNat + 2) 0 ((σ 13 28) + 1) ko (fun r5 er5 => ?_)
  have ht := ht.trans (zlet_e er5)
  refine z_iload_n O zd_M_blocks_43 rfl 0 rfl ?_
  exact E _ _ _ _ zd_M_blocks_44 rfl ht.symm
set_option maxHeartbeats 4000000 in
set_option maxRecDepth 100000 in
theorem c_M_blockStart (l : Launch) (w : zWd) (σ : zSt) (a1 : Int32) (ko : k_M_blockStart σ a1) : zMi l ({ cls := "SluiceStreamModel", name := "blockStart", desc := "(I)I" } : Jvm.MethodName) prog_8_method_68_code 3 2 44 .int w [.ref (zq w 13), .int a1] σ (fun r u => (r, u) = (f_M_blockStart σ a1)) := by
  refine zMi_of (by decide +kernel) (Nat.le_of_ble_eq_true rfl) ?_
  intro K O hl0 E
  have ht : (f_M_blockStart σ a1) = (f_M_blockStart σ a1) := rfl
  refine z_sub (lv' := [(0, .ref (zq w 13)), (1, .int a1)]) [0, 1] rfl ?_
  refine z_iload_n O zd_M_blockStart_0 rfl 1 rfl ?_
  refine z_if_ge O (tgt := 8) zd_M_blockStart_1 (by decide) (fun c1 => ?_) (fun c1 => ?_)
  · have ht := ht.trans (if_pos c1)
    have ko := ko c1
    refine z_aload_n O zd_M_blockStart_8 rfl 0 rfl ?_
    refine z_iload_n O zd_M_blockStart_9 rfl 1 rfl ?_
    refine z_callri O hl0 (st := []) 13 6 (fs := zo13 w σ) rfl rfl (c_M_startOfBlock l w σ a1 ko) zl_M_205 zm1118 zms35 rfl rfl (Nat.le_of_ble_eq_true rfl) (Nat.le_of_ble_eq_true rfl) (Nat.le_of_ble_eq_true rfl) zd_M_blockStart_10 (fun r2 e3 => ?_)
    have ht := ht.trans (zlet_e e3)
    refine z_istore_n O (lv' := [(2, .int r2), (0, .ref (zq w 13)), (1, .int a1)]) zd_M_blockStart_13 rfl (Nat.le_of_ble_eq_true rfl) rfl ?_
    refine z_aload_n O zd_M_blockStart_14 rfl 1 rfl ?_
    refine z_iload_n O zd_M_blockStart_15 rfl 0 rfl ?_
    refine z_iconst O (v := (-1)) zd_M_blockStart_16 (by decide) ?_
    refine z_icmp_ne O (tgt := 24) zd_M_blockStart_17 (by decide) (fun c4 => ?_) (fun c4 => ?_)
    · have ht := ht.trans (if_neg c4)
      refine z_iconst O (v := 0) zd_M_blockStart_24 (by decide) ?_
      refine z_calli O hl0 (st := []) 13 6 (fs := zo13 w σ) rfl rfl (c_M_isFine l w σ 0) zl_M_76 zm868 zms15 rfl rfl (Nat.le_of_ble_eq_true rfl) (Nat.le_of_ble_eq_true rfl) (Nat.le_of_ble_eq_true rfl) zd_M_blockStart_25 (fun r5 u6 e7 => ?_)
      have ht := ht.trans (zseq_e e7)
      refine z_if_eq O (tgt := 35) zd_M_blockStart_28 (by decide) (fun c8 => ?_) (fun c8 => ?_)
      · have ht := ht.trans (if_pos c8)
        refine z_iconst O (v := 0) zd_M_blockStart_35 (by decide) ?_
        exact E _ _ _ _ zd_M_blockStart_36 rfl ht.symm
      · have ht := ht.trans (if_neg c8)
        refine z_iload_n O zd_M_blockStart_31 rfl 0 rfl ?_
        refine z_goto O (tgt := 36) zd_M_blockStart_32 (by decide) ?_
        exact E _ _ _ _ zd_M_blockStart_36 rfl ht.symm
    · have ht := ht.trans (if_pos c4)
      refine z_iconst O (v := 1) zd_M_blockStart_20 (by decide) ?_
      refine z_goto O (tgt := 25) zd_M_blockStart_21 (by decide) ?_
      refine z_calli O hl0 (st := []) 13 6 (fs := zo13 w σ) rfl rfl (c_M_isFine l w σ 1) zl_M_76 zm868 zms15 rfl rfl (Nat.le_of_ble_eq_true rfl) (Nat.le_of_ble_eq_true rfl) (Nat.le_of_ble_eq_true rfl) zd_M_blockStart_25 (fun r9 u10 e11 => ?_)
      have ht := ht.trans (zseq_e e11)
      refine z_if_eq O (tgt := 35) zd_M_blockStart_28 (by decide) (fun c12 => ?_) (fun c12 => ?_)
      · have ht := ht.trans (if_pos c12)
        refine z_iconst O (v := 0) zd_M_blockStart_35 (by decide) ?_
        exact E _ _ _ _ zd_M_blockStart_36 rfl ht.symm
      · have ht := ht.trans (if_neg c12)
        refine z_iload_n O zd_M_blockStart_31 rfl 0 rfl ?_
        refine z_goto O (tgt := 36) zd_M_blockStart_32 (by decide) ?_
        exact E _ _ _ _ zd_M_blockStart_36 rfl ht.symm
  · have ht := ht.trans (if_neg c1)
    refine z_iconst O (v := (-1)) zd_M_blockStart_4 (by decide) ?_
    refine z_goto O (tgt := 13) zd_M_blockStart_5 (by decide) ?_
    refine z_istore_n O (lv' := [(2, .int (-1)), (0, .ref (zq w 13)), (1, .int a1)]) zd_M_blockStart_13 rfl (Nat.le_of_ble_eq_true rfl) rfl ?_
    refine z_aload_n O zd_M_blockStart_14 rfl 1 rfl ?_
    refine z_iload_n O zd_M_blockStart_15 rfl 0 rfl ?_
    refine z_iconst O (v := (-1)) zd_M_blockStart_16 (by decide) ?_
    refine z_icmp_ne O (tgt := 24) zd_M_blockStart_17 (by decide) (fun c13 => absurd c13 (by decide)) (fun c13 => ?_)
    refine z_iconst O (v := 1) zd_M_blockStart_20 (by decide) ?_
    refine z_goto O (tgt := 25) zd_M_blockStart_21 (by decide) ?_
    refine z_calli O hl0 (st := []) 13 6 (fs := zo13 w σ) rfl rfl (c_M_isFine l w σ 1) zl_M_76 zm868 zms15 rfl rfl (Nat.le_of_ble_eq_true rfl) (Nat.le_of_ble_eq_true rfl) (Nat.le_of_ble_eq_true rfl) zd_M_blockStart_25 (fun r14 u15 e16 => ?_)
    have ht := ht.trans (zseq_e e16)
    refine z_if_eq O (tgt := 35) zd_M_blockStart_28 (by decide) (fun c17 => ?_) (fun c17 => ?_)
    · have ht := ht.trans (if_pos c17)
      refine z_iconst O (v := 0) zd_M_blockStart_35 (by decide) ?_
      exact E _ _ _ _ zd_M_blockStart_36 rfl ht.symm
    · have ht := ht.trans (if_neg c17)
      refine z_iload_n O zd_M_blockStart_31 rfl 0 rfl ?_
      refine z_goto O (tgt := 36) zd_M_blockStart_32 (by decide) ?_
      exact E _ _ _ _ zd_M_blockStart_36 rfl ht.symm
set_option maxHeartbeats 4000000 in
set_option maxRecDepth 100000 in
theorem c_M_blockEnd (l : Launch) (w : zWd) (σ : zSt) (a1 : Int32) (ko : k_M_blockEnd σ a1) : zMi l ({ cls := "SluiceStreamModel", name := "blockEnd", desc := "(I)I" } : Jvm.MethodName) prog_8_method_69_code 3 2 44 .int w [.ref (zq w 13), .int a1] σ (fun r u => (r, u) = (f_M_blockEnd σ a1)) := by
  refine zMi_of (by decide +kernel) (Nat.le_of_ble_eq_true rfl) ?_
  intro K O hl0 E
  have ht : (f_M_blockEnd σ a1) = (f_M_blockEnd σ a1) := rfl
  refine z_sub (lv' := [(0, .ref (zq w 13)), (1, .int a1)]) [0, 1] rfl ?_
  refine z_iload_n O zd_M_blockEnd_0 rfl 1 rfl ?_
  refine z_if_ge O (tgt := 8) zd_M_blockEnd_1 (by decide) (fun c1 => ?_) (fun c1 => ?_)
  · have ht := ht.trans (if_pos c1)
    have ko := ko.1 c1
    refine z_aload_n O zd_M_blockEnd_8 rfl 0 rfl ?_
    refine z_iload_n O zd_M_blockEnd_9 rfl 1 rfl ?_
    refine z_callri O hl0 (st := []) 13 6 (fs := zo13 w σ) rfl rfl (c_M_startOfBlock l w σ a1 ko.1) zl_M_205 zm1118 zms35 rfl rfl (Nat.le_of_ble_eq_true rfl) (Nat.le_of_ble_eq_true rfl) (Nat.le_of_ble_eq_true rfl) zd_M_blockEnd_10 (fun r2 e3 => ?_)
    have ht := ht.trans (zlet_e e3)
    have ko := ko.2 r2 e3
    refine z_istore_n O (lv' := [(2, .int r2), (0, .ref (zq w 13)), (1, .int a1)]) zd_M_blockEnd_13 rfl (Nat.le_of_ble_eq_true rfl) rfl ?_
    refine z_aload_n O zd_M_blockEnd_14 rfl 1 rfl ?_
    refine z_iload_n O zd_M_blockEnd_15 rfl 0 rfl ?_
    refine z_iconst O (v := (-1)) zd_M_blockEnd_16 (by decide) ?_
    refine z_icmp_ne O (tgt := 24) zd_M_blockEnd_17 (by decide) (fun c4 => ?_) (fun c4 => ?_)
    · have ht := ht.trans (if_neg c4)
      have ko := ko.2 c4
      refine z_iconst O (v := 0) zd_M_blockEnd_24 (by decide) ?_
      refine z_calli O hl0 (st := []) 13 6 (fs := zo13 w σ) rfl rfl (c_M_isFine l w σ 0) zl_M_76 zm868 zms15 rfl rfl (Nat.le_of_ble_eq_true rfl) (Nat.le_of_ble_eq_true rfl) (Nat.le_of_ble_eq_true rfl) zd_M_blockEnd_25 (fun r5 u6 e7 => ?_)
      have ht := ht.trans (zseq_e e7)
      have ko := ko r5 u6 e7
      refine z_if_eq O (tgt := 39) zd_M_blockEnd_28 (by decide) (fun c8 => ?_) (fun c8 => ?_)
      · have ht := ht.trans (if_pos c8)
        refine z_iconst O (v := 0) zd_M_blockEnd_39 (by decide) ?_
        exact E _ _ _ _ zd_M_blockEnd_40 rfl ht.symm
      · have ht := ht.trans (if_neg c8)
        have ko := ko c8
        refine z_aload_n O zd_M_blockEnd_31 rfl 1 rfl ?_
        refine z_iload_n O zd_M_blockEnd_32 rfl 0 rfl ?_
        refine z_callri O hl0 (st := []) 13 6 (fs := zo13 w u6) rfl rfl (c_M_runEnd l w u6 r2 ko) zl_M_190 zm899 zms21 rfl rfl (Nat.le_of_ble_eq_true rfl) (Nat.le_of_ble_eq_true rfl) (Nat.le_of_ble_eq_true rfl) zd_M_blockEnd_33 (fun r9 e10 => ?_)
        have ht := ht.trans (zlet_e e10)
        refine z_goto O (tgt := 40) zd_M_blockEnd_36 (by decide) ?_
        exact E _ _ _ _ zd_M_blockEnd_40 rfl ht.symm
    · have ht := ht.trans (if_pos c4)
      have ko := ko.1 c4
      refine z_iconst O (v := 1) zd_M_blockEnd_20 (by decide) ?_
      refine z_goto O (tgt := 25) zd_M_blockEnd_21 (by decide) ?_
      refine z_calli O hl0 (st := []) 13 6 (fs := zo13 w σ) rfl rfl (c_M_isFine l w σ 1) zl_M_76 zm868 zms15 rfl rfl (Nat.le_of_ble_eq_true rfl) (Nat.le_of_ble_eq_true rfl) (Nat.le_of_ble_eq_true rfl) zd_M_blockEnd_25 (fun r11 u12 e13 => ?_)
      have ht := ht.trans (zseq_e e13)
      have ko := ko r11 u12 e13
      refine z_if_eq O (tgt := 39) zd_M_blockEnd_28 (by decide) (fun c14 => ?_) (fun c14 => ?_)
      · have ht := ht.trans (if_pos c14)
        refine z_iconst O (v := 0) zd_M_blockEnd_39 (by decide) ?_
        exact E _ _ _ _ zd_M_blockEnd_40 rfl ht.symm
      · have ht := ht.trans (if_neg c14)
        have ko := ko c14
        refine z_aload_n O zd_M_blockEnd_31 rfl 1 rfl ?_
        refine z_iload_n O zd_M_blockEnd_32 rfl 0 rfl ?_
        refine z_callri O hl0 (st := []) 13 6 (fs := zo13 w u12) rfl rfl (c_M_runEnd l w u12 r2 ko) zl_M_190 zm899 zms21 rfl rfl (Nat.le_of_ble_eq_true rfl) (Nat.le_of_ble_eq_true rfl) (Nat.le_of_ble_eq_true rfl) zd_M_blockEnd_33 (fun r15 e16 => ?_)
        have ht := ht.trans (zlet_e e16)
        refine z_goto O (tgt := 40) zd_M_blockEnd_36 (by decide) ?_
        exact E _ _ _ _ zd_M_blockEnd_40 rfl ht.symm
  · have ht := ht.trans (if_neg c1)
    have ko := ko.2 c1
    refine z_iconst O (v := (-1)) zd_M_blockEnd_4 (by decide) ?_
    refine z_goto O (tgt := 13) zd_M_blockEnd_5 (by decide) ?_
    refine z_istore_n O (lv' := [(2, .int (-1)), (0, .ref (zq w 13)), (1, .int a1)]) zd_M_blockEnd_13 rfl (Nat.le_of_ble_eq_true rfl) rfl ?_
    refine z_aload_n O zd_M_blockEnd_14 rfl 1 rfl ?_
    refine z_iload_n O zd_M_blockEnd_15 rfl 0 rfl ?_
    refine z_iconst O (v := (-1)) zd_M_blockEnd_16 (by decide) ?_
    refine z_icmp_ne O (tgt := 24) zd_M_blockEnd_17 (by decide) (fun c17 => absurd c17 (by decide)) (fun c17 => ?_)
    refine z_iconst O (v := 1) zd_M_blockEnd_20 (by decide) ?_
    refine z_goto O (tgt := 25) zd_M_blockEnd_21 (by decide) ?_
    refine z_calli O hl0 (st := []) 13 6 (fs := zo13 w σ) rfl rfl (c_M_isFine l w σ 1) zl_M_76 zm868 zms15 rfl rfl (Nat.le_of_ble_eq_true rfl) (Nat.le_of_ble_eq_true rfl) (Nat.le_of_ble_eq_true rfl) zd_M_blockEnd_25 (fun r18 u19 e20 => ?_)
    have ht := ht.trans (zseq_e e20)
    have ko := ko r18 u19 e20
    refine z_if_eq O (tgt := 39) zd_M_blockEnd_28 (by decide) (fun c21 => ?_) (fun c21 => ?_)
    · have ht := ht.trans (if_pos c21)
      refine z_iconst O (v := 0) zd_M_blockEnd_39 (by decide) ?_
      exact E _ _ _ _ zd_M_blockEnd_40 rfl ht.symm
    · have ht := ht.trans (if_neg c21)
      have ko := ko c21
      refine z_aload_n O zd_M_blockEnd_31 rfl 1 rfl ?_
      refine z_iload_n O zd_M_blockEnd_32 rfl 0 rfl ?_
      refine z_callri O hl0 (st := []) 13 6 (fs := zo13 w u19) rfl rfl (c_M_runEnd l w u19 (-1) ko) zl_M_190 zm899 zms21 rfl rfl (Nat.le_of_ble_eq_true rfl) (Nat.le_of_ble_eq_true rfl) (Nat.le_of_ble_eq_true rfl) zd_M_blockEnd_33 (fun r22 e23 => ?_)
      have ht := ht.trans (zlet_e e23)
      refine z_goto O (tgt := 40) zd_M_blockEnd_36 (by decide) ?_
      exact E _ _ _ _ zd_M_blockEnd_40 rfl ht.symm
set_option maxHeartbeats 4000000 in
set_option maxRecDepth 100000 in
theorem c_X_read (l : Launch) (w : zWd) (σ : zSt) (ko : k_X_read σ) : zMi l ({ cls := "SluiceStream", name := "read", desc := "()I" } : Jvm.MethodName) prog_1_method_3_code 2 6 143 .int w [.ref (zq w 0)] σ (fun r u => (r, u) = (f_X_read σ)) := by
  refine zMi_of (by decide +kernel) (Nat.le_of_ble_eq_true rfl) ?_
  intro K O hl0 E
  have ht : (f_X_read σ) = (f_X_read σ) := rfl
  refine z_sub (lv' := [(0, .ref (zq w 0))]) [0] rfl ?_
  refine z_aload_n O zd_X_read_0 rfl 0 rfl ?_
  refine zg_X_23_0 O zd_X_read_1 (v := .ref (zq w 6)) rfl ?_
  refine zg_X_49_6 O zd_X_read_4 (v := .int (σ 6 3)) rfl ?_
  refine z_istore_n O (lv' := [(1, .int (σ 6 3)), (0, .ref (zq w 0))]) zd_X_read_7 rfl (Nat.le_of_ble_eq_true rfl) rfl ?_
  refine z_iload_n O zd_X_read_8 rfl 0 rfl ?_
  refine z_aload_n O zd_X_read_9 rfl 1 rfl ?_
  refine zg_X_23_0 O zd_X_read_10 (v := .ref (zq w 6)) rfl ?_
  refine zg_X_52_6 O zd_X_read_13 (v := .int (σ 6 2)) rfl ?_
  refine z_icmp_ge O (tgt := 32) zd_X_read_16 (by decide) (fun c1 => ?_) (fun c1 => ?_)
  · have ht := ht.trans (if_pos c1)
    refine z_iconst O (v := (-1)) zd_X_read_32 (by decide) ?_
    exact E _ _ _ _ zd_X_read_33 rfl ht.symm
  · have ht := ht.trans (if_neg c1)
    have ko := ko c1
    refine z_iload_n O zd_X_read_19 rfl 0 rfl ?_
    refine z_if_lt O (tgt := 32) zd_X_read_20 (by decide) (fun c2 => ?_) (fun c2 => ?_)
    · have ht := ht.trans (if_pos c2)
      refine z_iconst O (v := (-1)) zd_X_read_32 (by decide) ?_
      exact E _ _ _ _ zd_X_read_33 rfl ht.symm
    · have ht := ht.trans (if_neg c2)
      have ko := ko c2
      refine z_iload_n O zd_X_read_23 rfl 0 rfl ?_
      refine z_aload_n O zd_X_read_24 rfl 1 rfl ?_
      refine zg_X_9_0 O zd_X_read_25 (v := .ref (zq w 1)) rfl ?_
      refine z_alen O 1 (zae1 w σ) (v := 600) rfl zd_X_read_28 ?_
      refine z_icmp_lt O (tgt := 34) zd_X_read_29 (by decide) (fun c3 => ?_) (fun c3 => ?_)
      · have ht := ht.trans (if_pos c3)
        have ko := ko c3
        refine z_aload_n O zd_X_read_34 rfl 1 rfl ?_
        refine zg_X_23_0 O zd_X_read_35 (v := .ref (zq w 6)) rfl ?_
        refine z_calli O hl0 (st := []) 6 1 (fs := zo6 w σ) rfl rfl (c_R_passByte l w σ) zl_X_55 zm198 zm199 rfl rfl (Nat.le_of_ble_eq_true rfl) (Nat.le_of_ble_eq_true rfl) (Nat.le_of_ble_eq_true rfl) zd_X_read_38 (fun r4 u5 e6 => ?_)
        have ht := ht.trans (zseq_e e6)
        have ko := ko r4 u5 e6
        refine z_if_eq O (tgt := 55) zd_X_read_41 (by decide) (fun c7 => ?_) (fun c7 => ?_)
        · have ht := ht.trans (if_pos c7)
          have ko := ko.1 c7
          refine z_aload_n O zd_X_read_55 rfl 1 rfl ?_
          refine zg_X_9_0 O zd_X_read_56 (v := .ref (zq w 1)) rfl ?_
          refine z_iload_n O zd_X_read_59 rfl 0 rfl ?_
          have b8 := ko
          refine z_iald O 1 (zae1 w u5) b8 (v := (u5 1 ((σ 6 3) : Int32).toNatClampNeg)) rfl zd_X_read_60 ?_
          exact E _ _ _ _ zd_X_read_61 rfl ht.symm
        · have ht := ht.trans (if_neg c7)
          have ko := ko.2 c7
          refine z_aload_n O zd_X_read_44 rfl 1 rfl ?_
          refine zg_X_23_0 O zd_X_read_45 (v := .ref (zq w 6)) rfl ?_
          refine z_aload_n O zd_X_read_48 rfl 1 rfl ?_
          refine zg_X_36_0 O zd_X_read_49 (v := .ref (zq w 11)) rfl ?_
          refine z_callv O hl0 (st := []) 6 1 (fs := zo6 w u5) rfl rfl (c_R_makeAck l w u5 ko.1) zl_X_59 zm206 zm207 rfl rfl (Nat.le_of_ble_eq_true rfl) (Nat.le_of_ble_eq_true rfl) (Nat.le_of_ble_eq_true rfl) zd_X_read_52 (fun u9 e10 => ?_)
          have ht := ht.trans (zlet_e e10)
          have ko := ko.2 u9 e10
          refine z_aload_n O zd_X_read_55 rfl 1 rfl ?_
          refine zg_X_9_0 O zd_X_read_56 (v := .ref (zq w 1)) rfl ?_
          refine z_iload_n O zd_X_read_59 rfl 0 rfl ?_
          have b11 := ko
          refine z_iald O 1 (zae1 w u9) b11 (v := (u9 1 ((σ 6 3) : Int32).toNatClampNeg)) rfl zd_X_read_60 ?_
          exact E _ _ _ _ zd_X_read_61 rfl ht.symm
      · have ht := ht.trans (if_neg c3)
        refine z_iconst O (v := (-1)) zd_X_read_32 (by decide) ?_
        exact E _ _ _ _ zd_X_read_33 rfl ht.symm
set_option maxHeartbeats 4000000 in
set_option maxRecDepth 100000 in
theorem c_X_segments (l : Launch) (w : zWd) (σ : zSt) : zMi l ({ cls := "SluiceStream", name := "segments", desc := "()I" } : Jvm.MethodName) prog_1_method_12_code 1 0 0 .int w [.ref (zq w 0)] σ (fun r u => r = (f_X_segments σ) ∧ u = σ) := by
  refine zMi_of (by decide +kernel) (Nat.le_of_ble_eq_true rfl) ?_
  intro K O hl0 E
  have ht : (f_X_segments σ) = (f_X_segments σ) := rfl
  refine z_sub (lv' := [(0, .ref (zq w 0))]) [0] rfl ?_
  refine z_aload_n O zd_X_segments_0 rfl 0 rfl ?_
  refine zg_X_32_0 O zd_X_segments_1 (v := .ref (zq w 9)) rfl ?_
  refine zg_X_103_9 O zd_X_segments_4 (v := .int (σ 9 2)) rfl ?_
  exact E _ _ _ _ zd_X_segments_7 rfl ⟨ht.symm, rfl⟩
set_option maxHeartbeats 4000000 in
set_option maxRecDepth 100000 in
theorem c_X_acks (l : Launch) (w : zWd) (σ : zSt) : zMi l ({ cls := "SluiceStream", name := "acks", desc := "()I" } : Jvm.MethodName) prog_1_method_15_code 1 0 0 .int w [.ref (zq w 0)] σ (fun r u => r = (f_X_acks σ) ∧ u = σ) := by
  refine zMi_of (by decide +kernel) (Nat.le_of_ble_eq_true rfl) ?_
  intro K O hl0 E
  have ht : (f_X_acks σ) = (f_X_acks σ) := rfl
  refine z_sub (lv' := [(0, .ref (zq w 0))]) [0] rfl ?_
  refine z_aload_n O zd_X_acks_0 rfl 0 rfl ?_
  refine zg_X_36_0 O zd_X_acks_1 (v := .ref (zq w 11)) rfl ?_
  refine zg_X_103_11 O zd_X_acks_4 (v := .int (σ 11 2)) rfl ?_
  exact E _ _ _ _ zd_X_acks_7 rfl ⟨ht.symm, rfl⟩
set_option maxHeartbeats 4000000 in
set_option maxRecDepth 100000 in
theorem c_X_time (l : Launch) (w : zWd) (σ : zSt) : zMi l ({ cls := "SluiceStream", name := "time", desc := "()I" } : Jvm.MethodName) prog_1_method_20_code 1 0 0 .int w [.ref (zq w 0)] σ (fun r u => r = (f_X_time σ) ∧ u = σ) := by
  refine zMi_of (by decide +kernel) (Nat.le_of_ble_eq_true rfl) ?_
  intro K O hl0 E
  have ht : (f_X_time σ) = (f_X_time σ) := rfl
  refine z_sub (lv' := [(0, .ref (zq w 0))]) [0] rfl ?_
  refine z_aload_n O zd_X_time_0 rfl 0 rfl ?_
  refine zg_X_16_0 O zd_X_time_1 (v := .ref (zq w 2)) rfl ?_
  refine zg_X_110_2 O zd_X_time_4 (v := .ref (zq w 5)) rfl ?_
  refine zg_X_114_5 O zd_X_time_7 (v := .int (σ 5 0)) rfl ?_
  exact E _ _ _ _ zd_X_time_10 rfl ⟨ht.symm, rfl⟩
set_option maxHeartbeats 4000000 in
set_option maxRecDepth 100000 in
theorem c_X_acknowledged (l : Launch) (w : zWd) (σ : zSt) : zMi l ({ cls := "SluiceStream", name := "acknowledged", desc := "()I" } : Jvm.MethodName) prog_1_method_21_code 1 0 0 .int w [.ref (zq w 0)] σ (fun r u => r = (f_X_acknowledged σ) ∧ u = σ) := by
  refine zMi_of (by decide +kernel) (Nat.le_of_ble_eq_true rfl) ?_
  intro K O hl0 E
  have ht : (f_X_acknowledged σ) = (f_X_acknowledged σ) := rfl
  refine z_sub (lv' := [(0, .ref (zq w 0))]) [0] rfl ?_
  refine z_aload_n O zd_X_acknowledged_0 rfl 0 rfl ?_
  refine zg_X_16_0 O zd_X_acknowledged_1 (v := .ref (zq w 2)) rfl ?_
  refine zg_X_119_2 O zd_X_acknowledged_4 (v := .int (σ 2 2)) rfl ?_
  exact E _ _ _ _ zd_X_acknowledged_7 rfl ⟨ht.symm, rfl⟩
set_option maxHeartbeats 4000000 in
set_option maxRecDepth 100000 in
theorem c_X_next (l : Launch) (w : zWd) (σ : zSt) : zMi l ({ cls := "SluiceStream", name := "next", desc := "()I" } : Jvm.MethodName) prog_1_method_22_code 1 0 0 .int w [.ref (zq w 0)] σ (fun r u => r = (f_X_next σ) ∧ u = σ) := by
  refine zMi_of (by decide +kernel) (Nat.le_of_ble_eq_true rfl) ?_
  intro K O hl0 E
  have ht : (f_X_next σ) = (f_X_next σ) := rfl
  refine z_sub (lv' := [(0, .ref (zq w 0))]) [0] rfl ?_
  refine z_aload_n O zd_X_next_0 rfl 0 rfl ?_
  refine zg_X_16_0 O zd_X_next_1 (v := .ref (zq w 2)) rfl ?_
  refine zg_X_122_2 O zd_X_next_4 (v := .int (σ 2 3)) rfl ?_
  exact E _ _ _ _ zd_X_next_7 rfl ⟨ht.symm, rfl⟩
set_option maxHeartbeats 4000000 in
set_option maxRecDepth 100000 in
theorem c_X_highest (l : Launch) (w : zWd) (σ : zSt) : zMi l ({ cls := "SluiceStream", name := "highest", desc := "()I" } : Jvm.MethodName) prog_1_method_23_code 1 0 0 .int w [.ref (zq w 0)] σ (fun r u => r = (f_X_highest σ) ∧ u = σ) := by
  refine zMi_of (by decide +kernel) (Nat.le_of_ble_eq_true rfl) ?_
  intro K O hl0 E
  have ht : (f_X_highest σ) = (f_X_highest σ) := rfl
  refine z_sub (lv' := [(0, .ref (zq w 0))]) [0] rfl ?_
  refine z_aload_n O zd_X_highest_0 rfl 0 rfl ?_
  refine zg_X_16_0 O zd_X_highest_1 (v := .ref (zq w 2)) rfl ?_
  refine zg_X_125_2 O zd_X_highest_4 (v := .int (σ 2 4)) rfl ?_
  exact E _ _ _ _ zd_X_highest_7 rfl ⟨ht.symm, rfl⟩
set_option maxHeartbeats 4000000 in
set_option maxRecDepth 100000 in
theorem c_X_written (l : Launch) (w : zWd) (σ : zSt) : zMi l ({ cls := "SluiceStream", name := "written", desc := "()I" } : Jvm.MethodName) prog_1_method_24_code 1 0 0 .int w [.ref (zq w 0)] σ (fun r u => r = (f_X_written σ) ∧ u = σ) := by
  refine zMi_of (by decide +kernel) (Nat.le_of_ble_eq_true rfl) ?_
  intro K O hl0 E
  have ht : (f_X_written σ) = (f_X_written σ) := rfl
  refine z_sub (lv' := [(0, .ref (zq w 0))]) [0] rfl ?_
  refine z_aload_n O zd_X_written_0 rfl 0 rfl ?_
  refine zg_X_16_0 O zd_X_written_1 (v := .ref (zq w 2)) rfl ?_
  refine zg_X_42_2 O zd_X_written_4 (v := .int (σ 2 5)) rfl ?_
  exact E _ _ _ _ zd_X_written_7 rfl ⟨ht.symm, rfl⟩
set_option maxHeartbeats 4000000 in
set_option maxRecDepth 100000 in
theorem c_X_edge (l : Launch) (w : zWd) (σ : zSt) : zMi l ({ cls := "SluiceStream", name := "edge", desc := "()I" } : Jvm.MethodName) prog_1_method_25_code 1 0 0 .int w [.ref (zq w 0)] σ (fun r u => r = (f_X_edge σ) ∧ u = σ) := by
  refine zMi_of (by decide +kernel) (Nat.le_of_ble_eq_true rfl) ?_
  intro K O hl0 E
  have ht : (f_X_edge σ) = (f_X_edge σ) := rfl
  refine z_sub (lv' := [(0, .ref (zq w 0))]) [0] rfl ?_
  refine z_aload_n O zd_X_edge_0 rfl 0 rfl ?_
  refine zg_X_16_0 O zd_X_edge_1 (v := .ref (zq w 2)) rfl ?_
  refine zg_X_128_2 O zd_X_edge_4 (v := .int (σ 2 6)) rfl ?_
  exact E _ _ _ _ zd_X_edge_7 rfl ⟨ht.symm, rfl⟩
set_option maxHeartbeats 4000000 in
set_option maxRecDepth 100000 in
theorem c_X_inFlight (l : Launch) (w : zWd) (σ : zSt) (ko : k_X_inFlight σ) : zMi l ({ cls := "SluiceStream", name := "inFlight", desc := "()I" } : Jvm.MethodName) prog_1_method_26_code 1 3 65 .int w [.ref (zq w 0)] σ (fun r u => r = (f_X_inFlight σ) ∧ u = σ) := by
  refine zMi_of (by decide +kernel) (Nat.le_of_ble_eq_true rfl) ?_
  intro K O hl0 E
  have ht : (f_X_inFlight σ) = (f_X_inFlight σ) := rfl
  refine z_sub (lv' := [(0, .ref (zq w 0))]) [0] rfl ?_
  refine z_aload_n O zd_X_inFlight_0 rfl 0 rfl ?_
  refine zg_X_16_0 O zd_X_inFlight_1 (v := .ref (zq w 2)) rfl ?_
  refine z_callri O hl0 (st := []) 2 3 (fs := zo2 w σ) rfl rfl (c_S_countFlying l w σ ko) zl_X_131 zm301 zm302 rfl rfl (Nat.le_of_ble_eq_true rfl) (Nat.le_of_ble_eq_true rfl) (Nat.le_of_ble_eq_true rfl) zd_X_inFlight_4 (fun r1 e2 => ?_)
  have ht := ht.trans (zlet_e e2)
  exact E _ _ _ _ zd_X_inFlight_7 rfl ⟨ht.symm, rfl⟩
set_option maxHeartbeats 4000000 in
set_option maxRecDepth 100000 in
theorem c_X_congestionWindow (l : Launch) (w : zWd) (σ : zSt) : zMi l ({ cls := "SluiceStream", name := "congestionWindow", desc := "()I" } : Jvm.MethodName) prog_1_method_28_code 1 0 0 .int w [.ref (zq w 0)] σ (fun r u => r = (f_X_congestionWindow σ) ∧ u = σ) := by
  refine zMi_of (by decide +kernel) (Nat.le_of_ble_eq_true rfl) ?_
  intro K O hl0 E
  have ht : (f_X_congestionWindow σ) = (f_X_congestionWindow σ) := rfl
  refine z_sub (lv' := [(0, .ref (zq w 0))]) [0] rfl ?_
  refine z_aload_n O zd_X_congestionWindow_0 rfl 0 rfl ?_
  refine zg_X_16_0 O zd_X_congestionWindow_1 (v := .ref (zq w 2)) rfl ?_
  refine zg_X_143_2 O zd_X_congestionWindow_4 (v := .int (σ 2 7)) rfl ?_
  exact E _ _ _ _ zd_X_congestionWindow_7 rfl ⟨ht.symm, rfl⟩
set_option maxHeartbeats 4000000 in
set_option maxRecDepth 100000 in
theorem c_X_threshold (l : Launch) (w : zWd) (σ : zSt) : zMi l ({ cls := "SluiceStream", name := "threshold", desc := "()I" } : Jvm.MethodName) prog_1_method_29_code 1 0 0 .int w [.ref (zq w 0)] σ (fun r u => r = (f_X_threshold σ) ∧ u = σ) := by
  refine zMi_of (by decide +kernel) (Nat.le_of_ble_eq_true rfl) ?_
  intro K O hl0 E
  have ht : (f_X_threshold σ) = (f_X_threshold σ) := rfl
  refine z_sub (lv' := [(0, .ref (zq w 0))]) [0] rfl ?_
  refine z_aload_n O zd_X_threshold_0 rfl 0 rfl ?_
  refine zg_X_16_0 O zd_X_threshold_1 (v := .ref (zq w 2)) rfl ?_
  refine zg_X_146_2 O zd_X_threshold_4 (v := .int (σ 2 8)) rfl ?_
  exact E _ _ _ _ zd_X_threshold_7 rfl ⟨ht.symm, rfl⟩
set_option maxHeartbeats 4000000 in
set_option maxRecDepth 100000 in
theorem c_X_duplicates (l : Launch) (w : zWd) (σ : zSt) : zMi l ({ cls := "SluiceStream", name := "duplicates", desc := "()I" } : Jvm.MethodName) prog_1_method_30_code 1 0 0 .int w [.ref (zq w 0)] σ (fun r u => r = (f_X_duplicates σ) ∧ u = σ) := by
  refine zMi_of (by decide +kernel) (Nat.le_of_ble_eq_true rfl) ?_
  intro K O hl0 E
  have ht : (f_X_duplicates σ) = (f_X_duplicates σ) := rfl
  refine z_sub (lv' := [(0, .ref (zq w 0))]) [0] rfl ?_
  refine z_aload_n O zd_X_duplicates_0 rfl 0 rfl ?_
  refine zg_X_16_0 O zd_X_duplicates_1 (v := .ref (zq w 2)) rfl ?_
  refine zg_X_149_2 O zd_X_duplicates_4 (v := .int (σ 2 10)) rfl ?_
  exact E _ _ _ _ zd_X_duplicates_7 rfl ⟨ht.symm, rfl⟩
set_option maxHeartbeats 4000000 in
set_option maxRecDepth 100000 in
theorem c_X_recoveryEnd (l : Launch) (w : zWd) (σ : zSt) : zMi l ({ cls := "SluiceStream", name := "recoveryEnd", desc := "()I" } : Jvm.MethodName) prog_1_method_31_code 1 0 0 .int w [.ref (zq w 0)] σ (fun r u => r = (f_X_recoveryEnd σ) ∧ u = σ) := by
  refine zMi_of (by decide +kernel) (Nat.le_of_ble_eq_true rfl) ?_
  intro K O hl0 E
  have ht : (f_X_recoveryEnd σ) = (f_X_recoveryEnd σ) := rfl
  refine z_sub (lv' := [(0, .ref (zq w 0))]) [0] rfl ?_
  refine z_aload_n O zd_X_recoveryEnd_0 rfl 0 rfl ?_
  refine zg_X_16_0 O zd_X_recoveryEnd_1 (v := .ref (zq w 2)) rfl ?_
  refine zg_X_152_2 O zd_X_recoveryEnd_4 (v := .int (σ 2 11)) rfl ?_
  exact E _ _ _ _ zd_X_recoveryEnd_7 rfl ⟨ht.symm, rfl⟩
set_option maxHeartbeats 4000000 in
set_option maxRecDepth 100000 in
theorem c_X_timeout (l : Launch) (w : zWd) (σ : zSt) : zMi l ({ cls := "SluiceStream", name := "timeout", desc := "()I" } : Jvm.MethodName) prog_1_method_32_code 1 0 0 .int w [.ref (zq w 0)] σ (fun r u => r = (f_X_timeout σ) ∧ u = σ) := by
  refine zMi_of (by decide +kernel) (Nat.le_of_ble_eq_true rfl) ?_
  intro K O hl0 E
  have ht : (f_X_timeout σ) = (f_X_timeout σ) := rfl
  refine z_sub (lv' := [(0, .ref (zq w 0))]) [0] rfl ?_
  refine z_aload_n O zd_X_timeout_0 rfl 0 rfl ?_
  refine zg_X_16_0 O zd_X_timeout_1 (v := .ref (zq w 2)) rfl ?_
  refine zg_X_110_2 O zd_X_timeout_4 (v := .ref (zq w 5)) rfl ?_
  refine zg_X_155_5 O zd_X_timeout_7 (v := .int (σ 5 1)) rfl ?_
  exact E _ _ _ _ zd_X_timeout_10 rfl ⟨ht.symm, rfl⟩
set_option maxHeartbeats 4000000 in
set_option maxRecDepth 100000 in
theorem c_X_timerEnd (l : Launch) (w : zWd) (σ : zSt) : zMi l ({ cls := "SluiceStream", name := "timerEnd", desc := "()I" } : Jvm.MethodName) prog_1_method_33_code 1 0 0 .int w [.ref (zq w 0)] σ (fun r u => r = (f_X_timerEnd σ) ∧ u = σ) := by
  refine zMi_of (by decide +kernel) (Nat.le_of_ble_eq_true rfl) ?_
  intro K O hl0 E
  have ht : (f_X_timerEnd σ) = (f_X_timerEnd σ) := rfl
  refine z_sub (lv' := [(0, .ref (zq w 0))]) [0] rfl ?_
  refine z_aload_n O zd_X_timerEnd_0 rfl 0 rfl ?_
  refine zg_X_16_0 O zd_X_timerEnd_1 (v := .ref (zq w 2)) rfl ?_
  refine zg_X_110_2 O zd_X_timerEnd_4 (v := .ref (zq w 5)) rfl ?_
  refine zg_X_158_5 O zd_X_timerEnd_7 (v := .int (σ 5 2)) rfl ?_
  exact E _ _ _ _ zd_X_timerEnd_10 rfl ⟨ht.symm, rfl⟩
set_option maxHeartbeats 4000000 in
set_option maxRecDepth 100000 in
theorem c_X_roundTrip (l : Launch) (w : zWd) (σ : zSt) : zMi l ({ cls := "SluiceStream", name := "roundTrip", desc := "()I" } : Jvm.MethodName) prog_1_method_34_code 1 0 0 .int w [.ref (zq w 0)] σ (fun r u => r = (f_X_roundTrip σ) ∧ u = σ) := by
  refine zMi_of (by decide +kernel) (Nat.le_of_ble_eq_true rfl) ?_
  intro K O hl0 E
  have ht : (f_X_roundTrip σ) = (f_X_roundTrip σ) := rfl
  refine z_sub (lv' := [(0, .ref (zq w 0))]) [0] rfl ?_
  refine z_aload_n O zd_X_roundTrip_0 rfl 0 rfl ?_
  refine zg_X_16_0 O zd_X_roundTrip_1 (v := .ref (zq w 2)) rfl ?_
  refine zg_X_110_2 O zd_X_roundTrip_4 (v := .ref (zq w 5)) rfl ?_
  refine zg_X_161_5 O zd_X_roundTrip_7 (v := .int (σ 5 4)) rfl ?_
  exact E _ _ _ _ zd_X_roundTrip_10 rfl ⟨ht.symm, rfl⟩
set_option maxHeartbeats 4000000 in
set_option maxRecDepth 100000 in
theorem c_X_variation (l : Launch) (w : zWd) (σ : zSt) : zMi l ({ cls := "SluiceStream", name := "variation", desc := "()I" } : Jvm.MethodName) prog_1_method_35_code 1 0 0 .int w [.ref (zq w 0)] σ (fun r u => r = (f_X_variation σ) ∧ u = σ) := by
  refine zMi_of (by decide +kernel) (Nat.le_of_ble_eq_true rfl) ?_
  intro K O hl0 E
  have ht : (f_X_variation σ) = (f_X_variation σ) := rfl
  refine z_sub (lv' := [(0, .ref (zq w 0))]) [0] rfl ?_
  refine z_aload_n O zd_X_variation_0 rfl 0 rfl ?_
  refine zg_X_16_0 O zd_X_variation_1 (v := .ref (zq w 2)) rfl ?_
  refine zg_X_110_2 O zd_X_variation_4 (v := .ref (zq w 5)) rfl ?_
  refine zg_X_164_5 O zd_X_variation_7 (v := .int (σ 5 5)) rfl ?_
  exact E _ _ _ _ zd_X_variation_10 rfl ⟨ht.symm, rfl⟩
set_option maxHeartbeats 4000000 in
set_option maxRecDepth 100000 in
theorem c_X_timedEnd (l : Launch) (w : zWd) (σ : zSt) : zMi l ({ cls := "SluiceStream", name := "timedEnd", desc := "()I" } : Jvm.MethodName) prog_1_method_36_code 1 0 0 .int w [.ref (zq w 0)] σ (fun r u => r = (f_X_timedEnd σ) ∧ u = σ) := by
  refine zMi_of (by decide +kernel) (Nat.le_of_ble_eq_true rfl) ?_
  intro K O hl0 E
  have ht : (f_X_timedEnd σ) = (f_X_timedEnd σ) := rfl
  refine z_sub (lv' := [(0, .ref (zq w 0))]) [0] rfl ?_
  refine z_aload_n O zd_X_timedEnd_0 rfl 0 rfl ?_
  refine zg_X_16_0 O zd_X_timedEnd_1 (v := .ref (zq w 2)) rfl ?_
  refine zg_X_110_2 O zd_X_timedEnd_4 (v := .ref (zq w 5)) rfl ?_
  refine zg_X_167_5 O zd_X_timedEnd_7 (v := .int (σ 5 3)) rfl ?_
  exact E _ _ _ _ zd_X_timedEnd_10 rfl ⟨ht.symm, rfl⟩
set_option maxHeartbeats 4000000 in
set_option maxRecDepth 100000 in
theorem c_X_sent (l : Launch) (w : zWd) (σ : zSt) : zMi l ({ cls := "SluiceStream", name := "sent", desc := "()I" } : Jvm.MethodName) prog_1_method_37_code 1 0 0 .int w [.ref (zq w 0)] σ (fun r u => r = (f_X_sent σ) ∧ u = σ) := by
  refine zMi_of (by decide +kernel) (Nat.le_of_ble_eq_true rfl) ?_
  intro K O hl0 E
  have ht : (f_X_sent σ) = (f_X_sent σ) := rfl
  refine z_sub (lv' := [(0, .ref (zq w 0))]) [0] rfl ?_
  refine z_aload_n O zd_X_sent_0 rfl 0 rfl ?_
  refine zg_X_16_0 O zd_X_sent_1 (v := .ref (zq w 2)) rfl ?_
  refine zg_X_170_2 O zd_X_sent_4 (v := .int (σ 2 13)) rfl ?_
  exact E _ _ _ _ zd_X_sent_7 rfl ⟨ht.symm, rfl⟩
set_option maxHeartbeats 4000000 in
set_option maxRecDepth 100000 in
theorem c_X_sentAgain (l : Launch) (w : zWd) (σ : zSt) : zMi l ({ cls := "SluiceStream", name := "sentAgain", desc := "()I" } : Jvm.MethodName) prog_1_method_38_code 1 0 0 .int w [.ref (zq w 0)] σ (fun r u => r = (f_X_sentAgain σ) ∧ u = σ) := by
  refine zMi_of (by decide +kernel) (Nat.le_of_ble_eq_true rfl) ?_
  intro K O hl0 E
  have ht : (f_X_sentAgain σ) = (f_X_sentAgain σ) := rfl
  refine z_sub (lv' := [(0, .ref (zq w 0))]) [0] rfl ?_
  refine z_aload_n O zd_X_sentAgain_0 rfl 0 rfl ?_
  refine zg_X_16_0 O zd_X_sentAgain_1 (v := .ref (zq w 2)) rfl ?_
  refine zg_X_173_2 O zd_X_sentAgain_4 (v := .int (σ 2 14)) rfl ?_
  exact E _ _ _ _ zd_X_sentAgain_7 rfl ⟨ht.symm, rfl⟩
set_option maxHeartbeats 4000000 in
set_option maxRecDepth 100000 in
theorem c_X_inOrder (l : Launch) (w : zWd) (σ : zSt) : zMi l ({ cls := "SluiceStream", name := "inOrder", desc := "()I" } : Jvm.MethodName) prog_1_method_39_code 1 0 0 .int w [.ref (zq w 0)] σ (fun r u => r = (f_X_inOrder σ) ∧ u = σ) := by
  refine zMi_of (by decide +kernel) (Nat.le_of_ble_eq_true rfl) ?_
  intro K O hl0 E
  have ht : (f_X_inOrder σ) = (f_X_inOrder σ) := rfl
  refine z_sub (lv' := [(0, .ref (zq w 0))]) [0] rfl ?_
  refine z_aload_n O zd_X_inOrder_0 rfl 0 rfl ?_
  refine zg_X_23_0 O zd_X_inOrder_1 (v := .ref (zq w 6)) rfl ?_
  refine zg_X_52_6 O zd_X_inOrder_4 (v := .int (σ 6 2)) rfl ?_
  exact E _ _ _ _ zd_X_inOrder_7 rfl ⟨ht.symm, rfl⟩
set_option maxHeartbeats 4000000 in
set_option maxRecDepth 100000 in
theorem c_X_readPosition (l : Launch) (w : zWd) (σ : zSt) : zMi l ({ cls := "SluiceStream", name := "readPosition", desc := "()I" } : Jvm.MethodName) prog_1_method_40_code 1 0 0 .int w [.ref (zq w 0)] σ (fun r u => r = (f_X_readPosition σ) ∧ u = σ) := by
  refine zMi_of (by decide +kernel) (Nat.le_of_ble_eq_true rfl) ?_
  intro K O hl0 E
  have ht : (f_X_readPosition σ) = (f_X_readPosition σ) := rfl
  refine z_sub (lv' := [(0, .ref (zq w 0))]) [0] rfl ?_
  refine z_aload_n O zd_X_readPosition_0 rfl 0 rfl ?_
  refine zg_X_23_0 O zd_X_readPosition_1 (v := .ref (zq w 6)) rfl ?_
  refine zg_X_49_6 O zd_X_readPosition_4 (v := .int (σ 6 3)) rfl ?_
  exact E _ _ _ _ zd_X_readPosition_7 rfl ⟨ht.symm, rfl⟩
set_option maxHeartbeats 4000000 in
set_option maxRecDepth 100000 in
theorem c_X_window (l : Launch) (w : zWd) (σ : zSt) : zMi l ({ cls := "SluiceStream", name := "window", desc := "()I" } : Jvm.MethodName) prog_1_method_41_code 1 1 20 .int w [.ref (zq w 0)] σ (fun r u => r = (f_X_window σ) ∧ u = σ) := by
  refine zMi_of (by decide +kernel) (Nat.le_of_ble_eq_true rfl) ?_
  intro K O hl0 E
  have ht : (f_X_window σ) = (f_X_window σ) := rfl
  refine z_sub (lv' := [(0, .ref (zq w 0))]) [0] rfl ?_
  refine z_aload_n O zd_X_window_0 rfl 0 rfl ?_
  refine zg_X_23_0 O zd_X_window_1 (v := .ref (zq w 6)) rfl ?_
  refine z_callri O hl0 (st := []) 6 1 (fs := zo6 w σ) rfl rfl (c_R_room l w σ) zl_X_176 zm202 zm203 rfl rfl (Nat.le_of_ble_eq_true rfl) (Nat.le_of_ble_eq_true rfl) (Nat.le_of_ble_eq_true rfl) zd_X_window_4 (fun r1 e2 => ?_)
  have ht := ht.trans (zlet_e e2)
  exact E _ _ _ _ zd_X_window_7 rfl ⟨ht.symm, rfl⟩
set_option maxHeartbeats 4000000 in
set_option maxRecDepth 100000 in
theorem c_X_blocks (l : Launch) (w : zWd) (σ : zSt) (ko : k_X_blocks σ) : zMi l ({ cls := "SluiceStream", name := "blocks", desc := "()I" } : Jvm.MethodName) prog_1_method_42_code 1 4 90 .int w [.ref (zq w 0)] σ (fun r u => r = (f_X_blocks σ) ∧ u = σ) := by
  refine zMi_of (by decide +kernel) (Nat.le_of_ble_eq_true rfl) ?_
  intro K O hl0 E
  have ht : (f_X_blocks σ) = (f_X_blocks σ) := rfl
  refine z_sub (lv' := [(0, .ref (zq w 0))]) [0] rfl ?_
  refine z_aload_n O zd_X_blocks_0 rfl 0 rfl ?_
  refine zg_X_23_0 O zd_X_blocks_1 (v := .ref (zq w 6)) rfl ?_
  refine z_callri O hl0 (st := []) 6 1 (fs := zo6 w σ) rfl rfl (c_R_countBlocks l w σ ko) zl_X_179 zm370 zm371 rfl rfl (Nat.le_of_ble_eq_true rfl) (Nat.le_of_ble_eq_true rfl) (Nat.le_of_ble_eq_true rfl) zd_X_blocks_4 (fun r1 e2 => ?_)
  have ht := ht.trans (zlet_e e2)
  exact E _ _ _ _ zd_X_blocks_7 rfl ⟨ht.symm, rfl⟩
