set_option maxHeartbeats 4000000 in
set_option maxRecDepth 100000 in
theorem c_P_at_3 (l : Launch) (w : zWd) (σ : zSt) (a1 : Int32) (ko : k_P_at 3 σ a1) : zMi l ({ cls := "SluiceStream$Positions", name := "at", desc := "(I)I" } : Jvm.MethodName) prog_2_method_2_code 2 0 0 .int w [.ref (zq w 3), .int a1] σ (fun r u => r = (f_P_at 3 σ a1) ∧ u = σ) := by
  refine zMi_of (by decide +kernel) (Nat.le_of_ble_eq_true rfl) ?_
  intro K O hl0 E
  have ht : (f_P_at 3 σ a1) = (f_P_at 3 σ a1) := rfl
  refine z_sub (lv' := [(0, .ref (zq w 3)), (1, .int a1)]) [0, 1] rfl ?_
  refine z_iload_n O zd_P_at_0 rfl 1 rfl ?_
  refine z_if_lt O (tgt := 22) zd_P_at_1 (by decide) (fun c1 => ?_) (fun c1 => ?_)
  · have ht := ht.trans (if_pos c1)
    refine z_iconst O (v := 0) zd_P_at_22 (by decide) ?_
    exact E _ _ _ _ zd_P_at_23 rfl ⟨ht.symm, rfl⟩
  · have ht := ht.trans (if_neg c1)
    have ko := ko c1
    refine z_iload_n O zd_P_at_4 rfl 1 rfl ?_
    refine z_aload_n O zd_P_at_5 rfl 0 rfl ?_
    refine zg_P_9_3 O zd_P_at_6 (v := .ref (zq w 4)) rfl ?_
    refine z_alen O 4 (zae4 w σ) (v := 600) rfl zd_P_at_9 ?_
    refine z_icmp_ge O (tgt := 22) zd_P_at_10 (by decide) (fun c2 => ?_) (fun c2 => ?_)
    · have ht := ht.trans (if_pos c2)
      refine z_iconst O (v := 0) zd_P_at_22 (by decide) ?_
      exact E _ _ _ _ zd_P_at_23 rfl ⟨ht.symm, rfl⟩
    · have ht := ht.trans (if_neg c2)
      have ko := ko c2
      refine z_aload_n O zd_P_at_13 rfl 0 rfl ?_
      refine zg_P_9_3 O zd_P_at_14 (v := .ref (zq w 4)) rfl ?_
      refine z_iload_n O zd_P_at_17 rfl 1 rfl ?_
      have b3 := ko
      refine z_iald O 4 (zae4 w σ) b3 (v := (σ 4 a1.toNatClampNeg)) rfl zd_P_at_18 ?_
      refine z_goto O (tgt := 23) zd_P_at_19 (by decide) ?_
      exact E _ _ _ _ zd_P_at_23 rfl ⟨ht.symm, rfl⟩
set_option maxHeartbeats 4000000 in
set_option maxRecDepth 100000 in
theorem c_P_at_7 (l : Launch) (w : zWd) (σ : zSt) (a1 : Int32) (ko : k_P_at 7 σ a1) : zMi l ({ cls := "SluiceStream$Positions", name := "at", desc := "(I)I" } : Jvm.MethodName) prog_2_method_2_code 2 0 0 .int w [.ref (zq w 7), .int a1] σ (fun r u => r = (f_P_at 7 σ a1) ∧ u = σ) := by
  refine zMi_of (by decide +kernel) (Nat.le_of_ble_eq_true rfl) ?_
  intro K O hl0 E
  have ht : (f_P_at 7 σ a1) = (f_P_at 7 σ a1) := rfl
  refine z_sub (lv' := [(0, .ref (zq w 7)), (1, .int a1)]) [0, 1] rfl ?_
  refine z_iload_n O zd_P_at_0 rfl 1 rfl ?_
  refine z_if_lt O (tgt := 22) zd_P_at_1 (by decide) (fun c1 => ?_) (fun c1 => ?_)
  · have ht := ht.trans (if_pos c1)
    refine z_iconst O (v := 0) zd_P_at_22 (by decide) ?_
    exact E _ _ _ _ zd_P_at_23 rfl ⟨ht.symm, rfl⟩
  · have ht := ht.trans (if_neg c1)
    have ko := ko c1
    refine z_iload_n O zd_P_at_4 rfl 1 rfl ?_
    refine z_aload_n O zd_P_at_5 rfl 0 rfl ?_
    refine zg_P_9_7 O zd_P_at_6 (v := .ref (zq w 8)) rfl ?_
    refine z_alen O 8 (zae8 w σ) (v := 600) rfl zd_P_at_9 ?_
    refine z_icmp_ge O (tgt := 22) zd_P_at_10 (by decide) (fun c2 => ?_) (fun c2 => ?_)
    · have ht := ht.trans (if_pos c2)
      refine z_iconst O (v := 0) zd_P_at_22 (by decide) ?_
      exact E _ _ _ _ zd_P_at_23 rfl ⟨ht.symm, rfl⟩
    · have ht := ht.trans (if_neg c2)
      have ko := ko c2
      refine z_aload_n O zd_P_at_13 rfl 0 rfl ?_
      refine zg_P_9_7 O zd_P_at_14 (v := .ref (zq w 8)) rfl ?_
      refine z_iload_n O zd_P_at_17 rfl 1 rfl ?_
      have b3 := ko
      refine z_iald O 8 (zae8 w σ) b3 (v := (σ 8 a1.toNatClampNeg)) rfl zd_P_at_18 ?_
      refine z_goto O (tgt := 23) zd_P_at_19 (by decide) ?_
      exact E _ _ _ _ zd_P_at_23 rfl ⟨ht.symm, rfl⟩
set_option maxHeartbeats 4000000 in
set_option maxRecDepth 100000 in
theorem L_P_fillEmpty_10_3 {K : zCx} {w : zWd} {l : Launch} (O : zOk K w prog_2_method_3_code "SluiceStream$Positions" 6 1 21) (hl0 : kl K = l) (x2 x3 : Int32) : ∀ (m : Nat) (σ : zSt) (x4 x5 : Int32), kl_P_fillEmpty_10 3 x2 x3 m σ x4 x5 → (∀ r, r = (l_P_fillEmpty_10 3 x2 x3 m σ x4 x5) → Z K w r.2 [(4, .int r.1)] [] 53) → Z K w σ [(0, .ref (zq w 3)), (2, .int x2), (3, .int x3), (4, .int x4), (5, .int x5)] [] 10 := by
  intro m
  induction m with
  | zero => intro σ x4 x5 ko; exact ko.elim
  | succ m ih =>
    intro σ x4 x5 ko kk
    have ht : l_P_fillEmpty_10 3 x2 x3 (m + 1) σ x4 x5 = l_P_fillEmpty_10 3 x2 x3 (m + 1) σ x4 x5 := rfl
    refine z_iload O zd_P_fillEmpty_10 4 rfl ?_
    refine z_iload_n O zd_P_fillEmpty_12 rfl 1 rfl ?_
    refine z_icmp_ge O (tgt := 53) zd_P_fillEmpty_13 (by decide) (fun c1 => ?_) (fun c1 => ?_)
    · have ht := ht.trans (if_pos c1)
      refine z_sub (lv' := [(4, .int x4)]) [3] rfl ?_
      exact kk (x4, σ) ht.symm
    · have ht := ht.trans (if_neg c1)
      have ko := ko c1
      refine z_iload O zd_P_fillEmpty_16 4 rfl ?_
      refine z_aload_n O zd_P_fillEmpty_18 rfl 0 rfl ?_
      refine zg_P_9_3 O zd_P_fillEmpty_19 (v := .ref (zq w 4)) rfl ?_
      refine z_alen O 4 (zae4 w σ) (v := 600) rfl zd_P_fillEmpty_22 ?_
      refine z_icmp_ge O (tgt := 53) zd_P_fillEmpty_23 (by decide) (fun c2 => ?_) (fun c2 => ?_)
      · have ht := ht.trans (if_pos c2)
        refine z_sub (lv' := [(4, .int x4)]) [3] rfl ?_
        exact kk (x4, σ) ht.symm
      · have ht := ht.trans (if_neg c2)
        have ko := ko c2
        refine z_aload_n O zd_P_fillEmpty_26 rfl 0 rfl ?_
        refine zg_P_9_3 O zd_P_fillEmpty_27 (v := .ref (zq w 4)) rfl ?_
        refine z_iload O zd_P_fillEmpty_30 4 rfl ?_
        have b3 := ko.1
        have ko := ko.2
        refine z_iald O 4 (zae4 w σ) b3 (v := (σ 4 x5.toNatClampNeg)) rfl zd_P_fillEmpty_32 ?_
        refine z_if_ne O (tgt := 47) zd_P_fillEmpty_33 (by decide) (fun c4 => ?_) (fun c4 => ?_)
        · have ht := ht.trans (if_neg c4)
          have ko := ko.2 c4
          refine z_iinc O (v := (x5 + 1)) (lv' := [(5, .int (x5 + 1)), (0, .ref (zq w 3)), (2, .int x2), (3, .int x3), (4, .int x4)]) zd_P_fillEmpty_47 4 rfl rfl (Nat.le_of_ble_eq_true rfl) rfl ?_
          refine z_goto O (tgt := 10) zd_P_fillEmpty_50 (by decide) ?_
          refine z_sub (lv' := [(0, .ref (zq w 3)), (2, .int x2), (3, .int x3), (4, .int x4), (5, .int (x5 + 1))]) [1, 2, 3, 4, 0] rfl ?_
          exact ih σ x4 (x5 + 1) ko (fun r e => kk r (e.trans ht.symm))
        · have ht := ht.trans (if_pos c4)
          have ko := ko.1 c4
          refine z_aload_n O zd_P_fillEmpty_36 rfl 0 rfl ?_
          refine zg_P_9_3 O zd_P_fillEmpty_37 (v := .ref (zq w 4)) rfl ?_
          refine z_iload O zd_P_fillEmpty_40 4 rfl ?_
          refine z_iload_n O zd_P_fillEmpty_42 rfl 2 rfl ?_
          have b5 := ko.1
          have ko := ko.2
          refine z_iast O 4 (zae4 w σ) b5 (zas4 w σ _ _) zd_P_fillEmpty_43 ?_
          refine z_iinc O (v := (x4 + 1)) (lv' := [(4, .int (x4 + 1)), (0, .ref (zq w 3)), (2, .int x2), (3, .int x3), (5, .int x5)]) zd_P_fillEmpty_44 3 rfl rfl (Nat.le_of_ble_eq_true rfl) rfl ?_
          refine z_iinc O (v := (x5 + 1)) (lv' := [(5, .int (x5 + 1)), (4, .int (x4 + 1)), (0, .ref (zq w 3)), (2, .int x2), (3, .int x3)]) zd_P_fillEmpty_47 4 rfl rfl (Nat.le_of_ble_eq_true rfl) rfl ?_
          refine z_goto O (tgt := 10) zd_P_fillEmpty_50 (by decide) ?_
          refine z_sub (lv' := [(0, .ref (zq w 3)), (2, .int x2), (3, .int x3), (4, .int (x4 + 1)), (5, .int (x5 + 1))]) [2, 3, 4, 1, 0] rfl ?_
          exact ih (zuf σ 4 x5.toNatClampNeg x3) (x4 + 1) (x5 + 1) ko (fun r e => kk r (e.trans ht.symm))
set_option maxHeartbeats 4000000 in
set_option maxRecDepth 100000 in
theorem c_P_fillEmpty_3 (l : Launch) (w : zWd) (σ : zSt) (a1 : Int32) (a2 : Int32) (a3 : Int32) (ko : k_P_fillEmpty 3 σ a1 a2 a3) : zMi l ({ cls := "SluiceStream$Positions", name := "fillEmpty", desc := "(III)I" } : Jvm.MethodName) prog_2_method_3_code 6 1 21 .int w [.ref (zq w 3), .int a1, .int a2, .int a3] σ (fun r u => (r, u) = (f_P_fillEmpty 3 σ a1 a2 a3)) := by
  refine zMi_of (by decide +kernel) (Nat.le_of_ble_eq_true rfl) ?_
  intro K O hl0 E
  have ht : (f_P_fillEmpty 3 σ a1 a2 a3) = (f_P_fillEmpty 3 σ a1 a2 a3) := rfl
  refine z_sub (lv' := [(0, .ref (zq w 3)), (1, .int a1), (2, .int a2), (3, .int a3)]) [0, 1, 2, 3] rfl ?_
  refine z_iconst O (v := 0) zd_P_fillEmpty_0 (by decide) ?_
  refine z_istore O (lv' := [(4, .int 0), (0, .ref (zq w 3)), (1, .int a1), (2, .int a2), (3, .int a3)]) zd_P_fillEmpty_1 (Nat.le_of_ble_eq_true rfl) rfl ?_
  refine z_iload_n O zd_P_fillEmpty_3 rfl 2 rfl ?_
  refine z_iconst O (v := 0) zd_P_fillEmpty_4 (by decide) ?_
  refine z_max O zm339 zm340 zm13 zm341 (Nat.le_of_ble_eq_true rfl) (Nat.le_of_ble_eq_true rfl) zd_P_fillEmpty_5 ?_
  refine z_istore O (lv' := [(5, .int (if a1 < 0 then 0 else a1)), (4, .int 0), (0, .ref (zq w 3)), (1, .int a1), (2, .int a2), (3, .int a3)]) zd_P_fillEmpty_8 (Nat.le_of_ble_eq_true rfl) rfl ?_
  refine z_sub (lv' := [(0, .ref (zq w 3)), (2, .int a2), (3, .int a3), (4, .int 0), (5, .int (if a1 < 0 then 0 else a1))]) [2, 4, 5, 1, 0] rfl ?_
  refine L_P_fillEmpty_10_3 O hl0 a2 a3 (((a2).toInt - ((if a1 < 0 then 0 else a1)).toInt).toNat + 2) σ 0 (if a1 < 0 then 0 else a1) ko (fun r6 er6 => ?_)
  have ht := ht.trans (zlet_e er6)
  refine z_iload O zd_P_fillEmpty_53 0 rfl ?_
  exact E _ _ _ _ zd_P_fillEmpty_55 rfl ht.symm
set_option maxHeartbeats 4000000 in
set_option maxRecDepth 100000 in
theorem L_P_fillEmpty_10_7 {K : zCx} {w : zWd} {l : Launch} (O : zOk K w prog_2_method_3_code "SluiceStream$Positions" 6 1 21) (hl0 : kl K = l) (x2 x3 : Int32) : ∀ (m : Nat) (σ : zSt) (x4 x5 : Int32), kl_P_fillEmpty_10 7 x2 x3 m σ x4 x5 → (∀ r, r = (l_P_fillEmpty_10 7 x2 x3 m σ x4 x5) → Z K w r.2 [(4, .int r.1)] [] 53) → Z K w σ [(0, .ref (zq w 7)), (2, .int x2), (3, .int x3), (4, .int x4), (5, .int x5)] [] 10 := by
  intro m
  induction m with
  | zero => intro σ x4 x5 ko; exact ko.elim
  | succ m ih =>
    intro σ x4 x5 ko kk
    have ht : l_P_fillEmpty_10 7 x2 x3 (m + 1) σ x4 x5 = l_P_fillEmpty_10 7 x2 x3 (m + 1) σ x4 x5 := rfl
    refine z_iload O zd_P_fillEmpty_10 4 rfl ?_
    refine z_iload_n O zd_P_fillEmpty_12 rfl 1 rfl ?_
    refine z_icmp_ge O (tgt := 53) zd_P_fillEmpty_13 (by decide) (fun c1 => ?_) (fun c1 => ?_)
    · have ht := ht.trans (if_pos c1)
      refine z_sub (lv' := [(4, .int x4)]) [3] rfl ?_
      exact kk (x4, σ) ht.symm
    · have ht := ht.trans (if_neg c1)
      have ko := ko c1
      refine z_iload O zd_P_fillEmpty_16 4 rfl ?_
      refine z_aload_n O zd_P_fillEmpty_18 rfl 0 rfl ?_
      refine zg_P_9_7 O zd_P_fillEmpty_19 (v := .ref (zq w 8)) rfl ?_
      refine z_alen O 8 (zae8 w σ) (v := 600) rfl zd_P_fillEmpty_22 ?_
      refine z_icmp_ge O (tgt := 53) zd_P_fillEmpty_23 (by decide) (fun c2 => ?_) (fun c2 => ?_)
      · have ht := ht.trans (if_pos c2)
        refine z_sub (lv' := [(4, .int x4)]) [3] rfl ?_
        exact kk (x4, σ) ht.symm
      · have ht := ht.trans (if_neg c2)
        have ko := ko c2
        refine z_aload_n O zd_P_fillEmpty_26 rfl 0 rfl ?_
        refine zg_P_9_7 O zd_P_fillEmpty_27 (v := .ref (zq w 8)) rfl ?_
        refine z_iload O zd_P_fillEmpty_30 4 rfl ?_
        have b3 := ko.1
        have ko := ko.2
        refine z_iald O 8 (zae8 w σ) b3 (v := (σ 8 x5.toNatClampNeg)) rfl zd_P_fillEmpty_32 ?_
        refine z_if_ne O (tgt := 47) zd_P_fillEmpty_33 (by decide) (fun c4 => ?_) (fun c4 => ?_)
        · have ht := ht.trans (if_neg c4)
          have ko := ko.2 c4
          refine z_iinc O (v := (x5 + 1)) (lv' := [(5, .int (x5 + 1)), (0, .ref (zq w 7)), (2, .int x2), (3, .int x3), (4, .int x4)]) zd_P_fillEmpty_47 4 rfl rfl (Nat.le_of_ble_eq_true rfl) rfl ?_
          refine z_goto O (tgt := 10) zd_P_fillEmpty_50 (by decide) ?_
          refine z_sub (lv' := [(0, .ref (zq w 7)), (2, .int x2), (3, .int x3), (4, .int x4), (5, .int (x5 + 1))]) [1, 2, 3, 4, 0] rfl ?_
          exact ih σ x4 (x5 + 1) ko (fun r e => kk r (e.trans ht.symm))
        · have ht := ht.trans (if_pos c4)
          have ko := ko.1 c4
          refine z_aload_n O zd_P_fillEmpty_36 rfl 0 rfl ?_
          refine zg_P_9_7 O zd_P_fillEmpty_37 (v := .ref (zq w 8)) rfl ?_
          refine z_iload O zd_P_fillEmpty_40 4 rfl ?_
          refine z_iload_n O zd_P_fillEmpty_42 rfl 2 rfl ?_
          have b5 := ko.1
          have ko := ko.2
          refine z_iast O 8 (zae8 w σ) b5 (zas8 w σ _ _) zd_P_fillEmpty_43 ?_
          refine z_iinc O (v := (x4 + 1)) (lv' := [(4, .int (x4 + 1)), (0, .ref (zq w 7)), (2, .int x2), (3, .int x3), (5, .int x5)]) zd_P_fillEmpty_44 3 rfl rfl (Nat.le_of_ble_eq_true rfl) rfl ?_
          refine z_iinc O (v := (x5 + 1)) (lv' := [(5, .int (x5 + 1)), (4, .int (x4 + 1)), (0, .ref (zq w 7)), (2, .int x2), (3, .int x3)]) zd_P_fillEmpty_47 4 rfl rfl (Nat.le_of_ble_eq_true rfl) rfl ?_
          refine z_goto O (tgt := 10) zd_P_fillEmpty_50 (by decide) ?_
          refine z_sub (lv' := [(0, .ref (zq w 7)), (2, .int x2), (3, .int x3), (4, .int (x4 + 1)), (5, .int (x5 + 1))]) [2, 3, 4, 1, 0] rfl ?_
          exact ih (zuf σ 8 x5.toNatClampNeg x3) (x4 + 1) (x5 + 1) ko (fun r e => kk r (e.trans ht.symm))
set_option maxHeartbeats 4000000 in
set_option maxRecDepth 100000 in
theorem c_P_fillEmpty_7 (l : Launch) (w : zWd) (σ : zSt) (a1 : Int32) (a2 : Int32) (a3 : Int32) (ko : k_P_fillEmpty 7 σ a1 a2 a3) : zMi l ({ cls := "SluiceStream$Positions", name := "fillEmpty", desc := "(III)I" } : Jvm.MethodName) prog_2_method_3_code 6 1 21 .int w [.ref (zq w 7), .int a1, .int a2, .int a3] σ (fun r u => (r, u) = (f_P_fillEmpty 7 σ a1 a2 a3)) := by
  refine zMi_of (by decide +kernel) (Nat.le_of_ble_eq_true rfl) ?_
  intro K O hl0 E
  have ht : (f_P_fillEmpty 7 σ a1 a2 a3) = (f_P_fillEmpty 7 σ a1 a2 a3) := rfl
  refine z_sub (lv' := [(0, .ref (zq w 7)), (1, .int a1), (2, .int a2), (3, .int a3)]) [0, 1, 2, 3] rfl ?_
  refine z_iconst O (v := 0) zd_P_fillEmpty_0 (by decide) ?_
  refine z_istore O (lv' := [(4, .int 0), (0, .ref (zq w 7)), (1, .int a1), (2, .int a2), (3, .int a3)]) zd_P_fillEmpty_1 (Nat.le_of_ble_eq_true rfl) rfl ?_
  refine z_iload_n O zd_P_fillEmpty_3 rfl 2 rfl ?_
  refine z_iconst O (v := 0) zd_P_fillEmpty_4 (by decide) ?_
  refine z_max O zm339 zm340 zm13 zm341 (Nat.le_of_ble_eq_true rfl) (Nat.le_of_ble_eq_true rfl) zd_P_fillEmpty_5 ?_
  refine z_istore O (lv' := [(5, .int (if a1 < 0 then 0 else a1)), (4, .int 0), (0, .ref (zq w 7)), (1, .int a1), (2, .int a2), (3, .int a3)]) zd_P_fillEmpty_8 (Nat.le_of_ble_eq_true rfl) rfl ?_
  refine z_sub (lv' := [(0, .ref (zq w 7)), (2, .int a2), (3, .int a3), (4, .int 0), (5, .int (if a1 < 0 then 0 else a1))]) [2, 4, 5, 1, 0] rfl ?_
  refine L_P_fillEmpty_10_7 O hl0 a2 a3 (((a2).toInt - ((if a1 < 0 then 0 else a1)).toInt).toNat + 2) σ 0 (if a1 < 0 then 0 else a1) ko (fun r6 er6 => ?_)
  have ht := ht.trans (zlet_e er6)
  refine z_iload O zd_P_fillEmpty_53 0 rfl ?_
  exact E _ _ _ _ zd_P_fillEmpty_55 rfl ht.symm
set_option maxHeartbeats 4000000 in
set_option maxRecDepth 100000 in
theorem L_P_empty_6_3 {K : zCx} {w : zWd} {l : Launch} (O : zOk K w prog_2_method_4_code "SluiceStream$Positions" 4 1 21) (hl0 : kl K = l) (x2 : Int32) : ∀ (m : Nat) (σ : zSt) (x3 : Int32), kl_P_empty_6 3 x2 m σ x3 → (∀ r, r = (l_P_empty_6 3 x2 m σ x3) → Z K w r [] [] 33) → Z K w σ [(0, .ref (zq w 3)), (2, .int x2), (3, .int x3)] [] 6 := by
  intro m
  induction m with
  | zero => intro σ x3 ko; exact ko.elim
  | succ m ih =>
    intro σ x3 ko kk
    have ht : l_P_empty_6 3 x2 (m + 1) σ x3 = l_P_empty_6 3 x2 (m + 1) σ x3 := rfl
    refine z_iload_n O zd_P_empty_6 rfl 2 rfl ?_
    refine z_iload_n O zd_P_empty_7 rfl 1 rfl ?_
    refine z_icmp_ge O (tgt := 33) zd_P_empty_8 (by decide) (fun c1 => ?_) (fun c1 => ?_)
    · have ht := ht.trans (if_pos c1)
      refine z_sub (lv' := []) [] rfl ?_
      exact kk σ ht.symm
    · have ht := ht.trans (if_neg c1)
      have ko := ko c1
      refine z_iload_n O zd_P_empty_11 rfl 2 rfl ?_
      refine z_aload_n O zd_P_empty_12 rfl 0 rfl ?_
      refine zg_P_9_3 O zd_P_empty_13 (v := .ref (zq w 4)) rfl ?_
      refine z_alen O 4 (zae4 w σ) (v := 600) rfl zd_P_empty_16 ?_
      refine z_icmp_ge O (tgt := 33) zd_P_empty_17 (by decide) (fun c2 => ?_) (fun c2 => ?_)
      · have ht := ht.trans (if_pos c2)
        refine z_sub (lv' := []) [] rfl ?_
        exact kk σ ht.symm
      · have ht := ht.trans (if_neg c2)
        have ko := ko c2
        refine z_aload_n O zd_P_empty_20 rfl 0 rfl ?_
        refine zg_P_9_3 O zd_P_empty_21 (v := .ref (zq w 4)) rfl ?_
        refine z_iload_n O zd_P_empty_24 rfl 2 rfl ?_
        refine z_iconst O (v := 0) zd_P_empty_25 (by decide) ?_
        have b3 := ko.1
        have ko := ko.2
        refine z_iast O 4 (zae4 w σ) b3 (zas4 w σ _ _) zd_P_empty_26 ?_
        refine z_iinc O (v := (x3 + 1)) (lv' := [(3, .int (x3 + 1)), (0, .ref (zq w 3)), (2, .int x2)]) zd_P_empty_27 2 rfl rfl (Nat.le_of_ble_eq_true rfl) rfl ?_
        refine z_goto O (tgt := 6) zd_P_empty_30 (by decide) ?_
        refine z_sub (lv' := [(0, .ref (zq w 3)), (2, .int x2), (3, .int (x3 + 1))]) [1, 2, 0] rfl ?_
        exact ih (zuf σ 4 x3.toNatClampNeg 0) (x3 + 1) ko (fun r e => kk r (e.trans ht.symm))
set_option maxHeartbeats 4000000 in
set_option maxRecDepth 100000 in
theorem c_P_empty_3 (l : Launch) (w : zWd) (σ : zSt) (a1 : Int32) (a2 : Int32) (ko : k_P_empty 3 σ a1 a2) : zMv l ({ cls := "SluiceStream$Positions", name := "empty", desc := "(II)V" } : Jvm.MethodName) prog_2_method_4_code 4 1 21 w [.ref (zq w 3), .int a1, .int a2] σ (fun u => u = (f_P_empty 3 σ a1 a2)) := by
  refine zMv_of (by decide +kernel) (Nat.le_of_ble_eq_true rfl) ?_
  intro K O hl0 E
  have ht : (f_P_empty 3 σ a1 a2) = (f_P_empty 3 σ a1 a2) := rfl
  refine z_sub (lv' := [(0, .ref (zq w 3)), (1, .int a1), (2, .int a2)]) [0, 1, 2] rfl ?_
  refine z_iload_n O zd_P_empty_0 rfl 1 rfl ?_
  refine z_iconst O (v := 0) zd_P_empty_1 (by decide) ?_
  refine z_max O zm339 zm340 zm13 zm341 (Nat.le_of_ble_eq_true rfl) (Nat.le_of_ble_eq_true rfl) zd_P_empty_2 ?_
  refine z_istore_n O (lv' := [(3, .int (if a1 < 0 then 0 else a1)), (0, .ref (zq w 3)), (1, .int a1), (2, .int a2)]) zd_P_empty_5 rfl (Nat.le_of_ble_eq_true rfl) rfl ?_
  refine z_sub (lv' := [(0, .ref (zq w 3)), (2, .int a2), (3, .int (if a1 < 0 then 0 else a1))]) [1, 3, 0] rfl ?_
  refine L_P_empty_6_3 O hl0 a2 (((a2).toInt - ((if a1 < 0 then 0 else a1)).toInt).toNat + 2) σ (if a1 < 0 then 0 else a1) ko (fun r4 er4 => ?_)
  have ht := ht.trans (zlet_e er4)
  exact E _ _ _ zd_P_empty_33 ht.symm
set_option maxHeartbeats 4000000 in
set_option maxRecDepth 100000 in
theorem L_P_empty_6_7 {K : zCx} {w : zWd} {l : Launch} (O : zOk K w prog_2_method_4_code "SluiceStream$Positions" 4 1 21) (hl0 : kl K = l) (x2 : Int32) : ∀ (m : Nat) (σ : zSt) (x3 : Int32), kl_P_empty_6 7 x2 m σ x3 → (∀ r, r = (l_P_empty_6 7 x2 m σ x3) → Z K w r [] [] 33) → Z K w σ [(0, .ref (zq w 7)), (2, .int x2), (3, .int x3)] [] 6 := by
  intro m
  induction m with
  | zero => intro σ x3 ko; exact ko.elim
  | succ m ih =>
    intro σ x3 ko kk
    have ht : l_P_empty_6 7 x2 (m + 1) σ x3 = l_P_empty_6 7 x2 (m + 1) σ x3 := rfl
    refine z_iload_n O zd_P_empty_6 rfl 2 rfl ?_
    refine z_iload_n O zd_P_empty_7 rfl 1 rfl ?_
    refine z_icmp_ge O (tgt := 33) zd_P_empty_8 (by decide) (fun c1 => ?_) (fun c1 => ?_)
    · have ht := ht.trans (if_pos c1)
      refine z_sub (lv' := []) [] rfl ?_
      exact kk σ ht.symm
    · have ht := ht.trans (if_neg c1)
      have ko := ko c1
      refine z_iload_n O zd_P_empty_11 rfl 2 rfl ?_
      refine z_aload_n O zd_P_empty_12 rfl 0 rfl ?_
      refine zg_P_9_7 O zd_P_empty_13 (v := .ref (zq w 8)) rfl ?_
      refine z_alen O 8 (zae8 w σ) (v := 600) rfl zd_P_empty_16 ?_
      refine z_icmp_ge O (tgt := 33) zd_P_empty_17 (by decide) (fun c2 => ?_) (fun c2 => ?_)
      · have ht := ht.trans (if_pos c2)
        refine z_sub (lv' := []) [] rfl ?_
        exact kk σ ht.symm
      · have ht := ht.trans (if_neg c2)
        have ko := ko c2
        refine z_aload_n O zd_P_empty_20 rfl 0 rfl ?_
        refine zg_P_9_7 O zd_P_empty_21 (v := .ref (zq w 8)) rfl ?_
        refine z_iload_n O zd_P_empty_24 rfl 2 rfl ?_
        refine z_iconst O (v := 0) zd_P_empty_25 (by decide) ?_
        have b3 := ko.1
        have ko := ko.2
        refine z_iast O 8 (zae8 w σ) b3 (zas8 w σ _ _) zd_P_empty_26 ?_
        refine z_iinc O (v := (x3 + 1)) (lv' := [(3, .int (x3 + 1)), (0, .ref (zq w 7)), (2, .int x2)]) zd_P_empty_27 2 rfl rfl (Nat.le_of_ble_eq_true rfl) rfl ?_
        refine z_goto O (tgt := 6) zd_P_empty_30 (by decide) ?_
        refine z_sub (lv' := [(0, .ref (zq w 7)), (2, .int x2), (3, .int (x3 + 1))]) [1, 2, 0] rfl ?_
        exact ih (zuf σ 8 x3.toNatClampNeg 0) (x3 + 1) ko (fun r e => kk r (e.trans ht.symm))
set_option maxHeartbeats 4000000 in
set_option maxRecDepth 100000 in
theorem c_P_empty_7 (l : Launch) (w : zWd) (σ : zSt) (a1 : Int32) (a2 : Int32) (ko : k_P_empty 7 σ a1 a2) : zMv l ({ cls := "SluiceStream$Positions", name := "empty", desc := "(II)V" } : Jvm.MethodName) prog_2_method_4_code 4 1 21 w [.ref (zq w 7), .int a1, .int a2] σ (fun u => u = (f_P_empty 7 σ a1 a2)) := by
  refine zMv_of (by decide +kernel) (Nat.le_of_ble_eq_true rfl) ?_
  intro K O hl0 E
  have ht : (f_P_empty 7 σ a1 a2) = (f_P_empty 7 σ a1 a2) := rfl
  refine z_sub (lv' := [(0, .ref (zq w 7)), (1, .int a1), (2, .int a2)]) [0, 1, 2] rfl ?_
  refine z_iload_n O zd_P_empty_0 rfl 1 rfl ?_
  refine z_iconst O (v := 0) zd_P_empty_1 (by decide) ?_
  refine z_max O zm339 zm340 zm13 zm341 (Nat.le_of_ble_eq_true rfl) (Nat.le_of_ble_eq_true rfl) zd_P_empty_2 ?_
  refine z_istore_n O (lv' := [(3, .int (if a1 < 0 then 0 else a1)), (0, .ref (zq w 7)), (1, .int a1), (2, .int a2)]) zd_P_empty_5 rfl (Nat.le_of_ble_eq_true rfl) rfl ?_
  refine z_sub (lv' := [(0, .ref (zq w 7)), (2, .int a2), (3, .int (if a1 < 0 then 0 else a1))]) [1, 3, 0] rfl ?_
  refine L_P_empty_6_7 O hl0 a2 (((a2).toInt - ((if a1 < 0 then 0 else a1)).toInt).toNat + 2) σ (if a1 < 0 then 0 else a1) ko (fun r4 er4 => ?_)
  have ht := ht.trans (zlet_e er4)
  exact E _ _ _ zd_P_empty_33 ht.symm
set_option maxHeartbeats 4000000 in
set_option maxRecDepth 100000 in
theorem L_P_countEmpty_5_3 {K : zCx} {w : zWd} {l : Launch} (O : zOk K w prog_2_method_5_code "SluiceStream$Positions" 5 1 21) (hl0 : kl K = l) (σ : zSt) (x2 : Int32) : ∀ (m : Nat) (x3 x4 : Int32), kl_P_countEmpty_5 3 σ x2 m x3 x4 → (∀ r, r = (l_P_countEmpty_5 3 σ x2 m x3 x4) → Z K w σ [(3, .int r)] [] 29) → Z K w σ [(0, .ref (zq w 3)), (2, .int x2), (3, .int x3), (4, .int x4)] [] 5 := by
  intro m
  induction m with
  | zero => intro x3 x4 ko; exact ko.elim
  | succ m ih =>
    intro x3 x4 ko kk
    have ht : l_P_countEmpty_5 3 σ x2 (m + 1) x3 x4 = l_P_countEmpty_5 3 σ x2 (m + 1) x3 x4 := rfl
    refine z_iload O zd_P_countEmpty_5 3 rfl ?_
    refine z_iload_n O zd_P_countEmpty_7 rfl 1 rfl ?_
    refine z_icmp_ge O (tgt := 29) zd_P_countEmpty_8 (by decide) (fun c1 => ?_) (fun c1 => ?_)
    · have ht := ht.trans (if_pos c1)
      refine z_sub (lv' := [(3, .int x3)]) [2] rfl ?_
      exact kk x3 ht.symm
    · have ht := ht.trans (if_neg c1)
      have ko := ko c1
      refine z_aload_n O zd_P_countEmpty_11 rfl 0 rfl ?_
      refine z_iload O zd_P_countEmpty_12 3 rfl ?_
      refine z_callri O hl0 (st := []) 3 0 (fs := zo3 w σ) rfl rfl (c_P_at_3 l w σ x4 ko.1) zl_P_21 zm324 zm325 rfl rfl (Nat.le_of_ble_eq_true rfl) (Nat.le_of_ble_eq_true rfl) (Nat.le_of_ble_eq_true rfl) zd_P_countEmpty_14 (fun r2 e3 => ?_)
      have ht := ht.trans (zlet_e e3)
      have ko := ko.2 r2 e3
      refine z_if_ne O (tgt := 23) zd_P_countEmpty_17 (by decide) (fun c4 => ?_) (fun c4 => ?_)
      · have ht := ht.trans (if_neg c4)
        have ko := ko.2 c4
        refine z_iinc O (v := (x4 + 1)) (lv' := [(4, .int (x4 + 1)), (0, .ref (zq w 3)), (2, .int x2), (3, .int x3)]) zd_P_countEmpty_23 3 rfl rfl (Nat.le_of_ble_eq_true rfl) rfl ?_
        refine z_goto O (tgt := 5) zd_P_countEmpty_26 (by decide) ?_
        refine z_sub (lv' := [(0, .ref (zq w 3)), (2, .int x2), (3, .int x3), (4, .int (x4 + 1))]) [1, 2, 3, 0] rfl ?_
        exact ih x3 (x4 + 1) ko (fun r e => kk r (e.trans ht.symm))
      · have ht := ht.trans (if_pos c4)
        have ko := ko.1 c4
        refine z_iinc O (v := (x3 + 1)) (lv' := [(3, .int (x3 + 1)), (0, .ref (zq w 3)), (2, .int x2), (4, .int x4)]) zd_P_countEmpty_20 2 rfl rfl (Nat.le_of_ble_eq_true rfl) rfl ?_
        refine z_iinc O (v := (x4 + 1)) (lv' := [(4, .int (x4 + 1)), (3, .int (x3 + 1)), (0, .ref (zq w 3)), (2, .int x2)]) zd_P_countEmpty_23 3 rfl rfl (Nat.le_of_ble_eq_true rfl) rfl ?_
        refine z_goto O (tgt := 5) zd_P_countEmpty_26 (by decide) ?_
        refine z_sub (lv' := [(0, .ref (zq w 3)), (2, .int x2), (3, .int (x3 + 1)), (4, .int (x4 + 1))]) [2, 3, 1, 0] rfl ?_
        exact ih (x3 + 1) (x4 + 1) ko (fun r e => kk r (e.trans ht.symm))
set_option maxHeartbeats 4000000 in
set_option maxRecDepth 100000 in
theorem c_P_countEmpty_3 (l : Launch) (w : zWd) (σ : zSt) (a1 : Int32) (a2 : Int32) (ko : k_P_countEmpty 3 σ a1 a2) : zMi l ({ cls := "SluiceStream$Positions", name := "countEmpty", desc := "(II)I" } : Jvm.MethodName) prog_2_method_5_code 5 1 21 .int w [.ref (zq w 3), .int a1, .int a2] σ (fun r u => r = (f_P_countEmpty 3 σ a1 a2) ∧ u = σ) := by
  refine zMi_of (by decide +kernel) (Nat.le_of_ble_eq_true rfl) ?_
  intro K O hl0 E
  have ht : (f_P_countEmpty 3 σ a1 a2) = (f_P_countEmpty 3 σ a1 a2) := rfl
  refine z_sub (lv' := [(0, .ref (zq w 3)), (1, .int a1), (2, .int a2)]) [0, 1, 2] rfl ?_
  refine z_iconst O (v := 0) zd_P_countEmpty_0 (by decide) ?_
  refine z_istore_n O (lv' := [(3, .int 0), (0, .ref (zq w 3)), (1, .int a1), (2, .int a2)]) zd_P_countEmpty_1 rfl (Nat.le_of_ble_eq_true rfl) rfl ?_
  refine z_iload_n O zd_P_countEmpty_2 rfl 2 rfl ?_
  refine z_istore O (lv' := [(4, .int a1), (3, .int 0), (0, .ref (zq w 3)), (1, .int a1), (2, .int a2)]) zd_P_countEmpty_3 (Nat.le_of_ble_eq_true rfl) rfl ?_
  refine z_sub (lv' := [(0, .ref (zq w 3)), (2, .int a2), (3, .int 0), (4, .int a1)]) [2, 4, 1, 0] rfl ?_
  refine L_P_countEmpty_5_3 O hl0 σ a2 (((a2).toInt - (a1).toInt).toNat + 2) 0 a1 ko (fun r5 er5 => ?_)
  have ht := ht.trans (zlet_e er5)
  refine z_iload_n O zd_P_countEmpty_29 rfl 0 rfl ?_
  exact E _ _ _ _ zd_P_countEmpty_30 rfl ⟨ht.symm, rfl⟩
set_option maxHeartbeats 4000000 in
set_option maxRecDepth 100000 in
theorem L_P_countEmpty_5_7 {K : zCx} {w : zWd} {l : Launch} (O : zOk K w prog_2_method_5_code "SluiceStream$Positions" 5 1 21) (hl0 : kl K = l) (σ : zSt) (x2 : Int32) : ∀ (m : Nat) (x3 x4 : Int32), kl_P_countEmpty_5 7 σ x2 m x3 x4 → (∀ r, r = (l_P_countEmpty_5 7 σ x2 m x3 x4) → Z K w σ [(3, .int r)] [] 29) → Z K w σ [(0, .ref (zq w 7)), (2, .int x2), (3, .int x3), (4, .int x4)] [] 5 := by
  intro m
  induction m with
  | zero => intro x3 x4 ko; exact ko.elim
  | succ m ih =>
    intro x3 x4 ko kk
    have ht : l_P_countEmpty_5 7 σ x2 (m + 1) x3 x4 = l_P_countEmpty_5 7 σ x2 (m + 1) x3 x4 := rfl
    refine z_iload O zd_P_countEmpty_5 3 rfl ?_
    refine z_iload_n O zd_P_countEmpty_7 rfl 1 rfl ?_
    refine z_icmp_ge O (tgt := 29) zd_P_countEmpty_8 (by decide) (fun c1 => ?_) (fun c1 => ?_)
    · have ht := ht.trans (if_pos c1)
      refine z_sub (lv' := [(3, .int x3)]) [2] rfl ?_
      exact kk x3 ht.symm
    · have ht := ht.trans (if_neg c1)
      have ko := ko c1
      refine z_aload_n O zd_P_countEmpty_11 rfl 0 rfl ?_
      refine z_iload O zd_P_countEmpty_12 3 rfl ?_
      refine z_callri O hl0 (st := []) 7 0 (fs := zo7 w σ) rfl rfl (c_P_at_7 l w σ x4 ko.1) zl_P_21 zm324 zm325 rfl rfl (Nat.le_of_ble_eq_true rfl) (Nat.le_of_ble_eq_true rfl) (Nat.le_of_ble_eq_true rfl) zd_P_countEmpty_14 (fun r2 e3 => ?_)
      have ht := ht.trans (zlet_e e3)
      have ko := ko.2 r2 e3
      refine z_if_ne O (tgt := 23) zd_P_countEmpty_17 (by decide) (fun c4 => ?_) (fun c4 => ?_)
      · have ht := ht.trans (if_neg c4)
        have ko := ko.2 c4
        refine z_iinc O (v := (x4 + 1)) (lv' := [(4, .int (x4 + 1)), (0, .ref (zq w 7)), (2, .int x2), (3, .int x3)]) zd_P_countEmpty_23 3 rfl rfl (Nat.le_of_ble_eq_true rfl) rfl ?_
        refine z_goto O (tgt := 5) zd_P_countEmpty_26 (by decide) ?_
        refine z_sub (lv' := [(0, .ref (zq w 7)), (2, .int x2), (3, .int x3), (4, .int (x4 + 1))]) [1, 2, 3, 0] rfl ?_
        exact ih x3 (x4 + 1) ko (fun r e => kk r (e.trans ht.symm))
      · have ht := ht.trans (if_pos c4)
        have ko := ko.1 c4
        refine z_iinc O (v := (x3 + 1)) (lv' := [(3, .int (x3 + 1)), (0, .ref (zq w 7)), (2, .int x2), (4, .int x4)]) zd_P_countEmpty_20 2 rfl rfl (Nat.le_of_ble_eq_true rfl) rfl ?_
        refine z_iinc O (v := (x4 + 1)) (lv' := [(4, .int (x4 + 1)), (3, .int (x3 + 1)), (0, .ref (zq w 7)), (2, .int x2)]) zd_P_countEmpty_23 3 rfl rfl (Nat.le_of_ble_eq_true rfl) rfl ?_
        refine z_goto O (tgt := 5) zd_P_countEmpty_26 (by decide) ?_
        refine z_sub (lv' := [(0, .ref (zq w 7)), (2, .int x2), (3, .int (x3 + 1)), (4, .int (x4 + 1))]) [2, 3, 1, 0] rfl ?_
        exact ih (x3 + 1) (x4 + 1) ko (fun r e => kk r (e.trans ht.symm))
set_option maxHeartbeats 4000000 in
set_option maxRecDepth 100000 in
theorem c_P_countEmpty_7 (l : Launch) (w : zWd) (σ : zSt) (a1 : Int32) (a2 : Int32) (ko : k_P_countEmpty 7 σ a1 a2) : zMi l ({ cls := "SluiceStream$Positions", name := "countEmpty", desc := "(II)I" } : Jvm.MethodName) prog_2_method_5_code 5 1 21 .int w [.ref (zq w 7), .int a1, .int a2] σ (fun r u => r = (f_P_countEmpty 7 σ a1 a2) ∧ u = σ) := by
  refine zMi_of (by decide +kernel) (Nat.le_of_ble_eq_true rfl) ?_
  intro K O hl0 E
  have ht : (f_P_countEmpty 7 σ a1 a2) = (f_P_countEmpty 7 σ a1 a2) := rfl
  refine z_sub (lv' := [(0, .ref (zq w 7)), (1, .int a1), (2, .int a2)]) [0, 1, 2] rfl ?_
  refine z_iconst O (v := 0) zd_P_countEmpty_0 (by decide) ?_
  refine z_istore_n O (lv' := [(3, .int 0), (0, .ref (zq w 7)), (1, .int a1), (2, .int a2)]) zd_P_countEmpty_1 rfl (Nat.le_of_ble_eq_true rfl) rfl ?_
  refine z_iload_n O zd_P_countEmpty_2 rfl 2 rfl ?_
  refine z_istore O (lv' := [(4, .int a1), (3, .int 0), (0, .ref (zq w 7)), (1, .int a1), (2, .int a2)]) zd_P_countEmpty_3 (Nat.le_of_ble_eq_true rfl) rfl ?_
  refine z_sub (lv' := [(0, .ref (zq w 7)), (2, .int a2), (3, .int 0), (4, .int a1)]) [2, 4, 1, 0] rfl ?_
  refine L_P_countEmpty_5_7 O hl0 σ a2 (((a2).toInt - (a1).toInt).toNat + 2) 0 a1 ko (fun r5 er5 => ?_)
  have ht := ht.trans (zlet_e er5)
  refine z_iload_n O zd_P_countEmpty_29 rfl 0 rfl ?_
  exact E _ _ _ _ zd_P_countEmpty_30 rfl ⟨ht.symm, rfl⟩
set_option maxHeartbeats 4000000 in
set_option maxRecDepth 100000 in
theorem L_P_firstEmpty_2_3 {K : zCx} {w : zWd} {l : Launch} (O : zOk K w prog_2_method_6_code "SluiceStream$Positions" 4 1 21) (hl0 : kl K = l) (σ : zSt) (x2 : Int32) : ∀ (m : Nat) (x3 : Int32), kl_P_firstEmpty_2 3 σ x2 m x3 → (∀ r, r = (l_P_firstEmpty_2 3 σ x2 m x3) → Z K w σ [(3, .int r)] [] 21) → Z K w σ [(0, .ref (zq w 3)), (2, .int x2), (3, .int x3)] [] 2 := by
  intro m
  induction m with
  | zero => intro x3 ko; exact ko.elim
  | succ m ih =>
    intro x3 ko kk
    have ht : l_P_firstEmpty_2 3 σ x2 (m + 1) x3 = l_P_firstEmpty_2 3 σ x2 (m + 1) x3 := rfl
    refine z_iload_n O zd_P_firstEmpty_2 rfl 2 rfl ?_
    refine z_iload_n O zd_P_firstEmpty_3 rfl 1 rfl ?_
    refine z_icmp_ge O (tgt := 21) zd_P_firstEmpty_4 (by decide) (fun c1 => ?_) (fun c1 => ?_)
    · have ht := ht.trans (if_pos c1)
      refine z_sub (lv' := [(3, .int x3)]) [2] rfl ?_
      exact kk x3 ht.symm
    · have ht := ht.trans (if_neg c1)
      have ko := ko c1
      refine z_aload_n O zd_P_firstEmpty_7 rfl 0 rfl ?_
      refine z_iload_n O zd_P_firstEmpty_8 rfl 2 rfl ?_
      refine z_callri O hl0 (st := []) 3 0 (fs := zo3 w σ) rfl rfl (c_P_at_3 l w σ x3 ko.1) zl_P_21 zm324 zm325 rfl rfl (Nat.le_of_ble_eq_true rfl) (Nat.le_of_ble_eq_true rfl) (Nat.le_of_ble_eq_true rfl) zd_P_firstEmpty_9 (fun r2 e3 => ?_)
      have ht := ht.trans (zlet_e e3)
      have ko := ko.2 r2 e3
      refine z_if_eq O (tgt := 21) zd_P_firstEmpty_12 (by decide) (fun c4 => ?_) (fun c4 => ?_)
      · have ht := ht.trans (if_pos c4)
        refine z_sub (lv' := [(3, .int x3)]) [2] rfl ?_
        exact kk x3 ht.symm
      · have ht := ht.trans (if_neg c4)
        have ko := ko c4
        refine z_iinc O (v := (x3 + 1)) (lv' := [(3, .int (x3 + 1)), (0, .ref (zq w 3)), (2, .int x2)]) zd_P_firstEmpty_15 2 rfl rfl (Nat.le_of_ble_eq_true rfl) rfl ?_
        refine z_goto O (tgt := 2) zd_P_firstEmpty_18 (by decide) ?_
        refine z_sub (lv' := [(0, .ref (zq w 3)), (2, .int x2), (3, .int (x3 + 1))]) [1, 2, 0] rfl ?_
        exact ih (x3 + 1) ko (fun r e => kk r (e.trans ht.symm))
set_option maxHeartbeats 4000000 in
set_option maxRecDepth 100000 in
theorem c_P_firstEmpty_3 (l : Launch) (w : zWd) (σ : zSt) (a1 : Int32) (a2 : Int32) (ko : k_P_firstEmpty 3 σ a1 a2) : zMi l ({ cls := "SluiceStream$Positions", name := "firstEmpty", desc := "(II)I" } : Jvm.MethodName) prog_2_method_6_code 4 1 21 .int w [.ref (zq w 3), .int a1, .int a2] σ (fun r u => r = (f_P_firstEmpty 3 σ a1 a2) ∧ u = σ) := by
  refine zMi_of (by decide +kernel) (Nat.le_of_ble_eq_true rfl) ?_
  intro K O hl0 E
  have ht : (f_P_firstEmpty 3 σ a1 a2) = (f_P_firstEmpty 3 σ a1 a2) := rfl
  refine z_sub (lv' := [(0, .ref (zq w 3)), (1, .int a1), (2, .int a2)]) [0, 1, 2] rfl ?_
  refine z_iload_n O zd_P_firstEmpty_0 rfl 1 rfl ?_
  refine z_istore_n O (lv' := [(3, .int a1), (0, .ref (zq w 3)), (1, .int a1), (2, .int a2)]) zd_P_firstEmpty_1 rfl (Nat.le_of_ble_eq_true rfl) rfl ?_
  refine z_sub (lv' := [(0, .ref (zq w 3)), (2, .int a2), (3, .int a1)]) [1, 3, 0] rfl ?_
  refine L_P_firstEmpty_2_3 O hl0 σ a2 (((a2).toInt - (a1).toInt).toNat + 2) a1 ko (fun r5 er5 => ?_)
  have ht := ht.trans (zlet_e er5)
  refine z_iload_n O zd_P_firstEmpty_21 rfl 0 rfl ?_
  exact E _ _ _ _ zd_P_firstEmpty_22 rfl ⟨ht.symm, rfl⟩
set_option maxHeartbeats 4000000 in
set_option maxRecDepth 100000 in
theorem L_P_firstEmpty_2_7 {K : zCx} {w : zWd} {l : Launch} (O : zOk K w prog_2_method_6_code "SluiceStream$Positions" 4 1 21) (hl0 : kl K = l) (σ : zSt) (x2 : Int32) : ∀ (m : Nat) (x3 : Int32), kl_P_firstEmpty_2 7 σ x2 m x3 → (∀ r, r = (l_P_firstEmpty_2 7 σ x2 m x3) → Z K w σ [(3, .int r)] [] 21) → Z K w σ [(0, .ref (zq w 7)), (2, .int x2), (3, .int x3)] [] 2 := by
  intro m
  induction m with
  | zero => intro x3 ko; exact ko.elim
  | succ m ih =>
    intro x3 ko kk
    have ht : l_P_firstEmpty_2 7 σ x2 (m + 1) x3 = l_P_firstEmpty_2 7 σ x2 (m + 1) x3 := rfl
    refine z_iload_n O zd_P_firstEmpty_2 rfl 2 rfl ?_
    refine z_iload_n O zd_P_firstEmpty_3 rfl 1 rfl ?_
    refine z_icmp_ge O (tgt := 21) zd_P_firstEmpty_4 (by decide) (fun c1 => ?_) (fun c1 => ?_)
    · have ht := ht.trans (if_pos c1)
      refine z_sub (lv' := [(3, .int x3)]) [2] rfl ?_
      exact kk x3 ht.symm
    · have ht := ht.trans (if_neg c1)
      have ko := ko c1
      refine z_aload_n O zd_P_firstEmpty_7 rfl 0 rfl ?_
      refine z_iload_n O zd_P_firstEmpty_8 rfl 2 rfl ?_
      refine z_callri O hl0 (st := []) 7 0 (fs := zo7 w σ) rfl rfl (c_P_at_7 l w σ x3 ko.1) zl_P_21 zm324 zm325 rfl rfl (Nat.le_of_ble_eq_true rfl) (Nat.le_of_ble_eq_true rfl) (Nat.le_of_ble_eq_true rfl) zd_P_firstEmpty_9 (fun r2 e3 => ?_)
      have ht := ht.trans (zlet_e e3)
      have ko := ko.2 r2 e3
      refine z_if_eq O (tgt := 21) zd_P_firstEmpty_12 (by decide) (fun c4 => ?_) (fun c4 => ?_)
      · have ht := ht.trans (if_pos c4)
        refine z_sub (lv' := [(3, .int x3)]) [2] rfl ?_
        exact kk x3 ht.symm
      · have ht := ht.trans (if_neg c4)
        have ko := ko c4
        refine z_iinc O (v := (x3 + 1)) (lv' := [(3, .int (x3 + 1)), (0, .ref (zq w 7)), (2, .int x2)]) zd_P_firstEmpty_15 2 rfl rfl (Nat.le_of_ble_eq_true rfl) rfl ?_
        refine z_goto O (tgt := 2) zd_P_firstEmpty_18 (by decide) ?_
        refine z_sub (lv' := [(0, .ref (zq w 7)), (2, .int x2), (3, .int (x3 + 1))]) [1, 2, 0] rfl ?_
        exact ih (x3 + 1) ko (fun r e => kk r (e.trans ht.symm))
set_option maxHeartbeats 4000000 in
set_option maxRecDepth 100000 in
theorem c_P_firstEmpty_7 (l : Launch) (w : zWd) (σ : zSt) (a1 : Int32) (a2 : Int32) (ko : k_P_firstEmpty 7 σ a1 a2) : zMi l ({ cls := "SluiceStream$Positions", name := "firstEmpty", desc := "(II)I" } : Jvm.MethodName) prog_2_method_6_code 4 1 21 .int w [.ref (zq w 7), .int a1, .int a2] σ (fun r u => r = (f_P_firstEmpty 7 σ a1 a2) ∧ u = σ) := by
  refine zMi_of (by decide +kernel) (Nat.le_of_ble_eq_true rfl) ?_
  intro K O hl0 E
  have ht : (f_P_firstEmpty 7 σ a1 a2) = (f_P_firstEmpty 7 σ a1 a2) := rfl
  refine z_sub (lv' := [(0, .ref (zq w 7)), (1, .int a1), (2, .int a2)]) [0, 1, 2] rfl ?_
  refine z_iload_n O zd_P_firstEmpty_0 rfl 1 rfl ?_
  refine z_istore_n O (lv' := [(3, .int a1), (0, .ref (zq w 7)), (1, .int a1), (2, .int a2)]) zd_P_firstEmpty_1 rfl (Nat.le_of_ble_eq_true rfl) rfl ?_
  refine z_sub (lv' := [(0, .ref (zq w 7)), (2, .int a2), (3, .int a1)]) [1, 3, 0] rfl ?_
  refine L_P_firstEmpty_2_7 O hl0 σ a2 (((a2).toInt - (a1).toInt).toNat + 2) a1 ko (fun r5 er5 => ?_)
  have ht := ht.trans (zlet_e er5)
  refine z_iload_n O zd_P_firstEmpty_21 rfl 0 rfl ?_
  exact E _ _ _ _ zd_P_firstEmpty_22 rfl ⟨ht.symm, rfl⟩
set_option maxHeartbeats 4000000 in
set_option maxRecDepth 100000 in
theorem L_P_firstFilled_2_3 {K : zCx} {w : zWd} {l : Launch} (O : zOk K w prog_2_method_7_code "SluiceStream$Positions" 4 1 21) (hl0 : kl K = l) (σ : zSt) (x2 : Int32) : ∀ (m : Nat) (x3 : Int32), kl_P_firstFilled_2 3 σ x2 m x3 → (∀ r, r = (l_P_firstFilled_2 3 σ x2 m x3) → Z K w σ [(3, .int r)] [] 21) → Z K w σ [(0, .ref (zq w 3)), (2, .int x2), (3, .int x3)] [] 2 := by
  intro m
  induction m with
  | zero => intro x3 ko; exact ko.elim
  | succ m ih =>
    intro x3 ko kk
    have ht : l_P_firstFilled_2 3 σ x2 (m + 1) x3 = l_P_firstFilled_2 3 σ x2 (m + 1) x3 := rfl
    refine z_iload_n O zd_P_firstFilled_2 rfl 2 rfl ?_
    refine z_iload_n O zd_P_firstFilled_3 rfl 1 rfl ?_
    refine z_icmp_ge O (tgt := 21) zd_P_firstFilled_4 (by decide) (fun c1 => ?_) (fun c1 => ?_)
    · have ht := ht.trans (if_pos c1)
      refine z_sub (lv' := [(3, .int x3)]) [2] rfl ?_
      exact kk x3 ht.symm
    · have ht := ht.trans (if_neg c1)
      have ko := ko c1
      refine z_aload_n O zd_P_firstFilled_7 rfl 0 rfl ?_
      refine z_iload_n O zd_P_firstFilled_8 rfl 2 rfl ?_
      refine z_callri O hl0 (st := []) 3 0 (fs := zo3 w σ) rfl rfl (c_P_at_3 l w σ x3 ko.1) zl_P_21 zm324 zm325 rfl rfl (Nat.le_of_ble_eq_true rfl) (Nat.le_of_ble_eq_true rfl) (Nat.le_of_ble_eq_true rfl) zd_P_firstFilled_9 (fun r2 e3 => ?_)
      have ht := ht.trans (zlet_e e3)
      have ko := ko.2 r2 e3
      refine z_if_ne O (tgt := 21) zd_P_firstFilled_12 (by decide) (fun c4 => ?_) (fun c4 => ?_)
      · have ht := ht.trans (if_neg c4)
        refine z_sub (lv' := [(3, .int x3)]) [2] rfl ?_
        exact kk x3 ht.symm
      · have ht := ht.trans (if_pos c4)
        have ko := ko c4
        refine z_iinc O (v := (x3 + 1)) (lv' := [(3, .int (x3 + 1)), (0, .ref (zq w 3)), (2, .int x2)]) zd_P_firstFilled_15 2 rfl rfl (Nat.le_of_ble_eq_true rfl) rfl ?_
        refine z_goto O (tgt := 2) zd_P_firstFilled_18 (by decide) ?_
        refine z_sub (lv' := [(0, .ref (zq w 3)), (2, .int x2), (3, .int (x3 + 1))]) [1, 2, 0] rfl ?_
        exact ih (x3 + 1) ko (fun r e => kk r (e.trans ht.symm))
set_option maxHeartbeats 4000000 in
set_option maxRecDepth 100000 in
theorem c_P_firstFilled_3 (l : Launch) (w : zWd) (σ : zSt) (a1 : Int32) (a2 : Int32) (ko : k_P_firstFilled 3 σ a1 a2) : zMi l ({ cls := "SluiceStream$Positions", name := "firstFilled", desc := "(II)I" } : Jvm.MethodName) prog_2_method_7_code 4 1 21 .int w [.ref (zq w 3), .int a1, .int a2] σ (fun r u => r = (f_P_firstFilled 3 σ a1 a2) ∧ u = σ) := by
  refine zMi_of (by decide +kernel) (Nat.le_of_ble_eq_true rfl) ?_
  intro K O hl0 E
  have ht : (f_P_firstFilled 3 σ a1 a2) = (f_P_firstFilled 3 σ a1 a2) := rfl
  refine z_sub (lv' := [(0, .ref (zq w 3)), (1, .int a1), (2, .int a2)]) [0, 1, 2] rfl ?_
  refine z_iload_n O zd_P_firstFilled_0 rfl 1 rfl ?_
  refine z_istore_n O (lv' := [(3, .int a1), (0, .ref (zq w 3)), (1, .int a1), (2, .int a2)]) zd_P_firstFilled_1 rfl (Nat.le_of_ble_eq_true rfl) rfl ?_
  refine z_sub (lv' := [(0, .ref (zq w 3)), (2, .int a2), (3, .int a1)]) [1, 3, 0] rfl ?_
  refine L_P_firstFilled_2_3 O hl0 σ a2 (((a2).toInt - (a1).toInt).toNat + 2) a1 ko (fun r5 er5 => ?_)
  have ht := ht.trans (zlet_e er5)
  refine z_iload_n O zd_P_firstFilled_21 rfl 0 rfl ?_
  exact E _ _ _ _ zd_P_firstFilled_22 rfl ⟨ht.symm, rfl⟩
set_option maxHeartbeats 4000000 in
set_option maxRecDepth 100000 in
theorem L_P_firstFilled_2_7 {K : zCx} {w : zWd} {l : Launch} (O : zOk K w prog_2_method_7_code "SluiceStream$Positions" 4 1 21) (hl0 : kl K = l) (σ : zSt) (x2 : Int32) : ∀ (m : Nat) (x3 : Int32), kl_P_firstFilled_2 7 σ x2 m x3 → (∀ r, r = (l_P_firstFilled_2 7 σ x2 m x3) → Z K w σ [(3, .int r)] [] 21) → Z K w σ [(0, .ref (zq w 7)), (2, .int x2), (3, .int x3)] [] 2 := by
  intro m
  induction m with
  | zero => intro x3 ko; exact ko.elim
  | succ m ih =>
    intro x3 ko kk
    have ht : l_P_firstFilled_2 7 σ x2 (m + 1) x3 = l_P_firstFilled_2 7 σ x2 (m + 1) x3 := rfl
    refine z_iload_n O zd_P_firstFilled_2 rfl 2 rfl ?_
    refine z_iload_n O zd_P_firstFilled_3 rfl 1 rfl ?_
    refine z_icmp_ge O (tgt := 21) zd_P_firstFilled_4 (by decide) (fun c1 => ?_) (fun c1 => ?_)
    · have ht := ht.trans (if_pos c1)
      refine z_sub (lv' := [(3, .int x3)]) [2] rfl ?_
      exact kk x3 ht.symm
    · have ht := ht.trans (if_neg c1)
      have ko := ko c1
      refine z_aload_n O zd_P_firstFilled_7 rfl 0 rfl ?_
      refine z_iload_n O zd_P_firstFilled_8 rfl 2 rfl ?_
      refine z_callri O hl0 (st := []) 7 0 (fs := zo7 w σ) rfl rfl (c_P_at_7 l w σ x3 ko.1) zl_P_21 zm324 zm325 rfl rfl (Nat.le_of_ble_eq_true rfl) (Nat.le_of_ble_eq_true rfl) (Nat.le_of_ble_eq_true rfl) zd_P_firstFilled_9 (fun r2 e3 => ?_)
      have ht := ht.trans (zlet_e e3)
      have ko := ko.2 r2 e3
      refine z_if_ne O (tgt := 21) zd_P_firstFilled_12 (by decide) (fun c4 => ?_) (fun c4 => ?_)
      · have ht := ht.trans (if_neg c4)
        refine z_sub (lv' := [(3, .int x3)]) [2] rfl ?_
        exact kk x3 ht.symm
      · have ht := ht.trans (if_pos c4)
        have ko := ko c4
        refine z_iinc O (v := (x3 + 1)) (lv' := [(3, .int (x3 + 1)), (0, .ref (zq w 7)), (2, .int x2)]) zd_P_firstFilled_15 2 rfl rfl (Nat.le_of_ble_eq_true rfl) rfl ?_
        refine z_goto O (tgt := 2) zd_P_firstFilled_18 (by decide) ?_
        refine z_sub (lv' := [(0, .ref (zq w 7)), (2, .int x2), (3, .int (x3 + 1))]) [1, 2, 0] rfl ?_
        exact ih (x3 + 1) ko (fun r e => kk r (e.trans ht.symm))
set_option maxHeartbeats 4000000 in
set_option maxRecDepth 100000 in
theorem c_P_firstFilled_7 (l : Launch) (w : zWd) (σ : zSt) (a1 : Int32) (a2 : Int32) (ko : k_P_firstFilled 7 σ a1 a2) : zMi l ({ cls := "SluiceStream$Positions", name := "firstFilled", desc := "(II)I" } : Jvm.MethodName) prog_2_method_7_code 4 1 21 .int w [.ref (zq w 7), .int a1, .int a2] σ (fun r u => r = (f_P_firstFilled 7 σ a1 a2) ∧ u = σ) := by
  refine zMi_of (by decide +kernel) (Nat.le_of_ble_eq_true rfl) ?_
  intro K O hl0 E
  have ht : (f_P_firstFilled 7 σ a1 a2) = (f_P_firstFilled 7 σ a1 a2) := rfl
  refine z_sub (lv' := [(0, .ref (zq w 7)), (1, .int a1), (2, .int a2)]) [0, 1, 2] rfl ?_
  refine z_iload_n O zd_P_firstFilled_0 rfl 1 rfl ?_
  refine z_istore_n O (lv' := [(3, .int a1), (0, .ref (zq w 7)), (1, .int a1), (2, .int a2)]) zd_P_firstFilled_1 rfl (Nat.le_of_ble_eq_true rfl) rfl ?_
  refine z_sub (lv' := [(0, .ref (zq w 7)), (2, .int a2), (3, .int a1)]) [1, 3, 0] rfl ?_
  refine L_P_firstFilled_2_7 O hl0 σ a2 (((a2).toInt - (a1).toInt).toNat + 2) a1 ko (fun r5 er5 => ?_)
  have ht := ht.trans (zlet_e er5)
  refine z_iload_n O zd_P_firstFilled_21 rfl 0 rfl ?_
  exact E _ _ _ _ zd_P_firstFilled_22 rfl ⟨ht.symm, rfl⟩
set_option maxHeartbeats 4000000 in
set_option maxRecDepth 100000 in
theorem L_P_greatest_5_3 {K : zCx} {w : zWd} {l : Launch} (O : zOk K w prog_2_method_8_code "SluiceStream$Positions" 5 1 21) (hl0 : kl K = l) (σ : zSt) (x2 : Int32) : ∀ (m : Nat) (x3 x4 : Int32), kl_P_greatest_5 3 σ x2 m x3 x4 → (∀ r, r = (l_P_greatest_5 3 σ x2 m x3 x4) → Z K w σ [(3, .int r)] [] 28) → Z K w σ [(0, .ref (zq w 3)), (2, .int x2), (3, .int x3), (4, .int x4)] [] 5 := by
  intro m
  induction m with
  | zero => intro x3 x4 ko; exact ko.elim
  | succ m ih =>
    intro x3 x4 ko kk
    have ht : l_P_greatest_5 3 σ x2 (m + 1) x3 x4 = l_P_greatest_5 3 σ x2 (m + 1) x3 x4 := rfl
    refine z_iload O zd_P_greatest_5 3 rfl ?_
    refine z_iload_n O zd_P_greatest_7 rfl 1 rfl ?_
    refine z_icmp_ge O (tgt := 28) zd_P_greatest_8 (by decide) (fun c1 => ?_) (fun c1 => ?_)
    · have ht := ht.trans (if_pos c1)
      refine z_sub (lv' := [(3, .int x3)]) [2] rfl ?_
      exact kk x3 ht.symm
    · have ht := ht.trans (if_neg c1)
      have ko := ko c1
      refine z_iload_n O zd_P_greatest_11 rfl 2 rfl ?_
      refine z_aload_n O zd_P_greatest_12 rfl 0 rfl ?_
      refine z_iload O zd_P_greatest_13 3 rfl ?_
      refine z_callri O hl0 (st := [.int x3]) 3 0 (fs := zo3 w σ) rfl rfl (c_P_at_3 l w σ x4 ko.1) zl_P_21 zm324 zm325 rfl rfl (Nat.le_of_ble_eq_true rfl) (Nat.le_of_ble_eq_true rfl) (Nat.le_of_ble_eq_true rfl) zd_P_greatest_15 (fun r2 e3 => ?_)
      have ht := ht.trans (zlet_e e3)
      have ko := ko.2 r2 e3
      refine z_max O zm339 zm340 zm13 zm341 (Nat.le_of_ble_eq_true rfl) (Nat.le_of_ble_eq_true rfl) zd_P_greatest_18 ?_
      refine z_istore_n O (lv' := [(3, .int (if x3 < r2 then r2 else x3)), (0, .ref (zq w 3)), (2, .int x2), (4, .int x4)]) zd_P_greatest_21 rfl (Nat.le_of_ble_eq_true rfl) rfl ?_
      refine z_iinc O (v := (x4 + 1)) (lv' := [(4, .int (x4 + 1)), (3, .int (if x3 < r2 then r2 else x3)), (0, .ref (zq w 3)), (2, .int x2)]) zd_P_greatest_22 3 rfl rfl (Nat.le_of_ble_eq_true rfl) rfl ?_
      refine z_goto O (tgt := 5) zd_P_greatest_25 (by decide) ?_
      refine z_sub (lv' := [(0, .ref (zq w 3)), (2, .int x2), (3, .int (if x3 < r2 then r2 else x3)), (4, .int (x4 + 1))]) [2, 3, 1, 0] rfl ?_
      exact ih (if x3 < r2 then r2 else x3) (x4 + 1) ko (fun r e => kk r (e.trans ht.symm))
set_option maxHeartbeats 4000000 in
set_option maxRecDepth 100000 in
theorem c_P_greatest_3 (l : Launch) (w : zWd) (σ : zSt) (a1 : Int32) (a2 : Int32) (ko : k_P_greatest 3 σ a1 a2) : zMi l ({ cls := "SluiceStream$Positions", name := "greatest", desc := "(II)I" } : Jvm.MethodName) prog_2_method_8_code 5 1 21 .int w [.ref (zq w 3), .int a1, .int a2] σ (fun r u => r = (f_P_greatest 3 σ a1 a2) ∧ u = σ) := by
  refine zMi_of (by decide +kernel) (Nat.le_of_ble_eq_true rfl) ?_
  intro K O hl0 E
  have ht : (f_P_greatest 3 σ a1 a2) = (f_P_greatest 3 σ a1 a2) := rfl
  refine z_sub (lv' := [(0, .ref (zq w 3)), (1, .int a1), (2, .int a2)]) [0, 1, 2] rfl ?_
  refine z_iconst O (v := 0) zd_P_greatest_0 (by decide) ?_
  refine z_istore_n O (lv' := [(3, .int 0), (0, .ref (zq w 3)), (1, .int a1), (2, .int a2)]) zd_P_greatest_1 rfl (Nat.le_of_ble_eq_true rfl) rfl ?_
  refine z_iload_n O zd_P_greatest_2 rfl 2 rfl ?_
  refine z_istore O (lv' := [(4, .int a1), (3, .int 0), (0, .ref (zq w 3)), (1, .int a1), (2, .int a2)]) zd_P_greatest_3 (Nat.le_of_ble_eq_true rfl) rfl ?_
  refine z_sub (lv' := [(0, .ref (zq w 3)), (2, .int a2), (3, .int 0), (4, .int a1)]) [2, 4, 1, 0] rfl ?_
  refine L_P_greatest_5_3 O hl0 σ a2 (((a2).toInt - (a1).toInt).toNat + 2) 0 a1 ko (fun r4 er4 => ?_)
  have ht := ht.trans (zlet_e er4)
  refine z_iload_n O zd_P_greatest_28 rfl 0 rfl ?_
  exact E _ _ _ _ zd_P_greatest_29 rfl ⟨ht.symm, rfl⟩
set_option maxHeartbeats 4000000 in
set_option maxRecDepth 100000 in
theorem L_P_greatest_5_7 {K : zCx} {w : zWd} {l : Launch} (O : zOk K w prog_2_method_8_code "SluiceStream$Positions" 5 1 21) (hl0 : kl K = l) (σ : zSt) (x2 : Int32) : ∀ (m : Nat) (x3 x4 : Int32), kl_P_greatest_5 7 σ x2 m x3 x4 → (∀ r, r = (l_P_greatest_5 7 σ x2 m x3 x4) → Z K w σ [(3, .int r)] [] 28) → Z K w σ [(0, .ref (zq w 7)), (2, .int x2), (3, .int x3), (4, .int x4)] [] 5 := by
  intro m
  induction m with
  | zero => intro x3 x4 ko; exact ko.elim
  | succ m ih =>
    intro x3 x4 ko kk
    have ht : l_P_greatest_5 7 σ x2 (m + 1) x3 x4 = l_P_greatest_5 7 σ x2 (m + 1) x3 x4 := rfl
    refine z_iload O zd_P_greatest_5 3 rfl ?_
    refine z_iload_n O zd_P_greatest_7 rfl 1 rfl ?_
    refine z_icmp_ge O (tgt := 28) zd_P_greatest_8 (by decide) (fun c1 => ?_) (fun c1 => ?_)
    · have ht := ht.trans (if_pos c1)
      refine z_sub (lv' := [(3, .int x3)]) [2] rfl ?_
      exact kk x3 ht.symm
    · have ht := ht.trans (if_neg c1)
      have ko := ko c1
      refine z_iload_n O zd_P_greatest_11 rfl 2 rfl ?_
      refine z_aload_n O zd_P_greatest_12 rfl 0 rfl ?_
      refine z_iload O zd_P_greatest_13 3 rfl ?_
      refine z_callri O hl0 (st := [.int x3]) 7 0 (fs := zo7 w σ) rfl rfl (c_P_at_7 l w σ x4 ko.1) zl_P_21 zm324 zm325 rfl rfl (Nat.le_of_ble_eq_true rfl) (Nat.le_of_ble_eq_true rfl) (Nat.le_of_ble_eq_true rfl) zd_P_greatest_15 (fun r2 e3 => ?_)
      have ht := ht.trans (zlet_e e3)
      have ko := ko.2 r2 e3
      refine z_max O zm339 zm340 zm13 zm341 (Nat.le_of_ble_eq_true rfl) (Nat.le_of_ble_eq_true rfl) zd_P_greatest_18 ?_
      refine z_istore_n O (lv' := [(3, .int (if x3 < r2 then r2 else x3)), (0, .ref (zq w 7)), (2, .int x2), (4, .int x4)]) zd_P_greatest_21 rfl (Nat.le_of_ble_eq_true rfl) rfl ?_
      refine z_iinc O (v := (x4 + 1)) (lv' := [(4, .int (x4 + 1)), (3, .int (if x3 < r2 then r2 else x3)), (0, .ref (zq w 7)), (2, .int x2)]) zd_P_greatest_22 3 rfl rfl (Nat.le_of_ble_eq_true rfl) rfl ?_
      refine z_goto O (tgt := 5) zd_P_greatest_25 (by decide) ?_
      refine z_sub (lv' := [(0, .ref (zq w 7)), (2, .int x2), (3, .int (if x3 < r2 then r2 else x3)), (4, .int (x4 + 1))]) [2, 3, 1, 0] rfl ?_
      exact ih (if x3 < r2 then r2 else x3) (x4 + 1) ko (fun r e => kk r (e.trans ht.symm))
set_option maxHeartbeats 4000000 in
set_option maxRecDepth 100000 in
theorem c_P_greatest_7 (l : Launch) (w : zWd) (σ : zSt) (a1 : Int32) (a2 : Int32) (ko : k_P_greatest 7 σ a1 a2) : zMi l ({ cls := "SluiceStream$Positions", name := "greatest", desc := "(II)I" } : Jvm.MethodName) prog_2_method_8_code 5 1 21 .int w [.ref (zq w 7), .int a1, .int a2] σ (fun r u => r = (f_P_greatest 7 σ a1 a2) ∧ u = σ) := by
  refine zMi_of (by decide +kernel) (Nat.le_of_ble_eq_true rfl) ?_
  intro K O hl0 E
  have ht : (f_P_greatest 7 σ a1 a2) = (f_P_greatest 7 σ a1 a2) := rfl
  refine z_sub (lv' := [(0, .ref (zq w 7)), (1, .int a1), (2, .int a2)]) [0, 1, 2] rfl ?_
  refine z_iconst O (v := 0) zd_P_greatest_0 (by decide) ?_
  refine z_istore_n O (lv' := [(3, .int 0), (0, .ref (zq w 7)), (1, .int a1), (2, .int a2)]) zd_P_greatest_1 rfl (Nat.le_of_ble_eq_true rfl) rfl ?_
  refine z_iload_n O zd_P_greatest_2 rfl 2 rfl ?_
  refine z_istore O (lv' := [(4, .int a1), (3, .int 0), (0, .ref (zq w 7)), (1, .int a1), (2, .int a2)]) zd_P_greatest_3 (Nat.le_of_ble_eq_true rfl) rfl ?_
  refine z_sub (lv' := [(0, .ref (zq w 7)), (2, .int a2), (3, .int 0), (4, .int a1)]) [2, 4, 1, 0] rfl ?_
  refine L_P_greatest_5_7 O hl0 σ a2 (((a2).toInt - (a1).toInt).toNat + 2) 0 a1 ko (fun r4 er4 => ?_)
  have ht := ht.trans (zlet_e er4)
  refine z_iload_n O zd_P_greatest_28 rfl 0 rfl ?_
  exact E _ _ _ _ zd_P_greatest_29 rfl ⟨ht.symm, rfl⟩
set_option maxHeartbeats 4000000 in
set_option maxRecDepth 100000 in
theorem c_W_holds_9 (l : Launch) (w : zWd) (σ : zSt) (a1 : Int32) : zMi l ({ cls := "SluiceStream$Rows", name := "holds", desc := "(I)Z" } : Jvm.MethodName) prog_4_method_2_code 2 0 0 .boolean w [.ref (zq w 9), .int a1] σ (fun r u => r = (f_W_holds 9 σ a1) ∧ u = σ) := by
  refine zMi_of (by decide +kernel) (Nat.le_of_ble_eq_true rfl) ?_
  intro K O hl0 E
  have ht : (f_W_holds 9 σ a1) = (f_W_holds 9 σ a1) := rfl
  refine z_sub (lv' := [(0, .ref (zq w 9)), (1, .int a1)]) [0, 1] rfl ?_
  refine z_iload_n O zd_W_holds_0 rfl 1 rfl ?_
  refine z_if_lt O (tgt := 16) zd_W_holds_1 (by decide) (fun c1 => ?_) (fun c1 => ?_)
  · have ht := ht.trans (if_pos c1)
    refine z_iconst O (v := 0) zd_W_holds_16 (by decide) ?_
    exact E _ _ _ _ zd_W_holds_17 rfl ⟨ht.symm, rfl⟩
  · have ht := ht.trans (if_neg c1)
    refine z_iload_n O zd_W_holds_4 rfl 1 rfl ?_
    refine z_aload_n O zd_W_holds_5 rfl 0 rfl ?_
    refine zg_W_9_9 O zd_W_holds_6 (v := .int (σ 9 2)) rfl ?_
    refine z_icmp_ge O (tgt := 16) zd_W_holds_9 (by decide) (fun c2 => ?_) (fun c2 => ?_)
    · have ht := ht.trans (if_pos c2)
      refine z_iconst O (v := 0) zd_W_holds_16 (by decide) ?_
      exact E _ _ _ _ zd_W_holds_17 rfl ⟨ht.symm, rfl⟩
    · have ht := ht.trans (if_neg c2)
      refine z_iconst O (v := 1) zd_W_holds_12 (by decide) ?_
      refine z_goto O (tgt := 17) zd_W_holds_13 (by decide) ?_
      exact E _ _ _ _ zd_W_holds_17 rfl ⟨ht.symm, rfl⟩
set_option maxHeartbeats 4000000 in
set_option maxRecDepth 100000 in
theorem c_W_holds_11 (l : Launch) (w : zWd) (σ : zSt) (a1 : Int32) : zMi l ({ cls := "SluiceStream$Rows", name := "holds", desc := "(I)Z" } : Jvm.MethodName) prog_4_method_2_code 2 0 0 .boolean w [.ref (zq w 11), .int a1] σ (fun r u => r = (f_W_holds 11 σ a1) ∧ u = σ) := by
  refine zMi_of (by decide +kernel) (Nat.le_of_ble_eq_true rfl) ?_
  intro K O hl0 E
  have ht : (f_W_holds 11 σ a1) = (f_W_holds 11 σ a1) := rfl
  refine z_sub (lv' := [(0, .ref (zq w 11)), (1, .int a1)]) [0, 1] rfl ?_
  refine z_iload_n O zd_W_holds_0 rfl 1 rfl ?_
  refine z_if_lt O (tgt := 16) zd_W_holds_1 (by decide) (fun c1 => ?_) (fun c1 => ?_)
  · have ht := ht.trans (if_pos c1)
    refine z_iconst O (v := 0) zd_W_holds_16 (by decide) ?_
    exact E _ _ _ _ zd_W_holds_17 rfl ⟨ht.symm, rfl⟩
  · have ht := ht.trans (if_neg c1)
    refine z_iload_n O zd_W_holds_4 rfl 1 rfl ?_
    refine z_aload_n O zd_W_holds_5 rfl 0 rfl ?_
    refine zg_W_9_11 O zd_W_holds_6 (v := .int (σ 11 2)) rfl ?_
    refine z_icmp_ge O (tgt := 16) zd_W_holds_9 (by decide) (fun c2 => ?_) (fun c2 => ?_)
    · have ht := ht.trans (if_pos c2)
      refine z_iconst O (v := 0) zd_W_holds_16 (by decide) ?_
      exact E _ _ _ _ zd_W_holds_17 rfl ⟨ht.symm, rfl⟩
    · have ht := ht.trans (if_neg c2)
      refine z_iconst O (v := 1) zd_W_holds_12 (by decide) ?_
      refine z_goto O (tgt := 17) zd_W_holds_13 (by decide) ?_
      exact E _ _ _ _ zd_W_holds_17 rfl ⟨ht.symm, rfl⟩
set_option maxHeartbeats 4000000 in
set_option maxRecDepth 100000 in
theorem c_W_isFull_9 (l : Launch) (w : zWd) (σ : zSt) : zMi l ({ cls := "SluiceStream$Rows", name := "isFull", desc := "()Z" } : Jvm.MethodName) prog_4_method_3_code 1 0 0 .boolean w [.ref (zq w 9)] σ (fun r u => r = (f_W_isFull 9 σ) ∧ u = σ) := by
  refine zMi_of (by decide +kernel) (Nat.le_of_ble_eq_true rfl) ?_
  intro K O hl0 E
  have ht : (f_W_isFull 9 σ) = (f_W_isFull 9 σ) := rfl
  refine z_sub (lv' := [(0, .ref (zq w 9))]) [0] rfl ?_
  refine z_aload_n O zd_W_isFull_0 rfl 0 rfl ?_
  refine zg_W_9_9 O zd_W_isFull_1 (v := .int (σ 9 2)) rfl ?_
  refine z_bipush O (v := 40) zd_W_isFull_4 (by decide) ?_
  refine z_icmp_lt O (tgt := 13) zd_W_isFull_6 (by decide) (fun c1 => ?_) (fun c1 => ?_)
  · have ht := ht.trans (if_pos c1)
    refine z_iconst O (v := 0) zd_W_isFull_13 (by decide) ?_
    exact E _ _ _ _ zd_W_isFull_14 rfl ⟨ht.symm, rfl⟩
  · have ht := ht.trans (if_neg c1)
    refine z_iconst O (v := 1) zd_W_isFull_9 (by decide) ?_
    refine z_goto O (tgt := 14) zd_W_isFull_10 (by decide) ?_
    exact E _ _ _ _ zd_W_isFull_14 rfl ⟨ht.symm, rfl⟩
set_option maxHeartbeats 4000000 in
set_option maxRecDepth 100000 in
theorem c_W_isFull_11 (l : Launch) (w : zWd) (σ : zSt) : zMi l ({ cls := "SluiceStream$Rows", name := "isFull", desc := "()Z" } : Jvm.MethodName) prog_4_method_3_code 1 0 0 .boolean w [.ref (zq w 11)] σ (fun r u => r = (f_W_isFull 11 σ) ∧ u = σ) := by
  refine zMi_of (by decide +kernel) (Nat.le_of_ble_eq_true rfl) ?_
  intro K O hl0 E
  have ht : (f_W_isFull 11 σ) = (f_W_isFull 11 σ) := rfl
  refine z_sub (lv' := [(0, .ref (zq w 11))]) [0] rfl ?_
  refine z_aload_n O zd_W_isFull_0 rfl 0 rfl ?_
  refine zg_W_9_11 O zd_W_isFull_1 (v := .int (σ 11 2)) rfl ?_
  refine z_bipush O (v := 40) zd_W_isFull_4 (by decide) ?_
  refine z_icmp_lt O (tgt := 13) zd_W_isFull_6 (by decide) (fun c1 => ?_) (fun c1 => ?_)
  · have ht := ht.trans (if_pos c1)
    refine z_iconst O (v := 0) zd_W_isFull_13 (by decide) ?_
    exact E _ _ _ _ zd_W_isFull_14 rfl ⟨ht.symm, rfl⟩
  · have ht := ht.trans (if_neg c1)
    refine z_iconst O (v := 1) zd_W_isFull_9 (by decide) ?_
    refine z_goto O (tgt := 14) zd_W_isFull_10 (by decide) ?_
    exact E _ _ _ _ zd_W_isFull_14 rfl ⟨ht.symm, rfl⟩
set_option maxHeartbeats 4000000 in
set_option maxRecDepth 100000 in
theorem c_W_cell_9 (l : Launch) (w : zWd) (σ : zSt) (a1 : Int32) (a2 : Int32) (ko : k_W_cell 9 σ a1 a2) : zMi l ({ cls := "SluiceStream$Rows", name := "cell", desc := "(II)I" } : Jvm.MethodName) prog_4_method_4_code 4 0 0 .int w [.ref (zq w 9), .int a1, .int a2] σ (fun r u => r = (f_W_cell 9 σ a1 a2) ∧ u = σ) := by
  refine zMi_of (by decide +kernel) (Nat.le_of_ble_eq_true rfl) ?_
  intro K O hl0 E
  have ht : (f_W_cell 9 σ a1 a2) = (f_W_cell 9 σ a1 a2) := rfl
  refine z_sub (lv' := [(0, .ref (zq w 9)), (1, .int a1), (2, .int a2)]) [0, 1, 2] rfl ?_
  refine z_iload_n O zd_W_cell_0 rfl 1 rfl ?_
  refine z_aload_n O zd_W_cell_1 rfl 0 rfl ?_
  refine zg_W_15_9 O zd_W_cell_2 (v := .int (zcol 9)) rfl ?_
  refine z_imul O zd_W_cell_5 ?_
  refine z_iload_n O zd_W_cell_6 rfl 2 rfl ?_
  refine z_iadd O zd_W_cell_7 ?_
  refine z_istore_n O (lv' := [(3, .int ((a1 * (zcol 9)) + a2)), (0, .ref (zq w 9)), (1, .int a1), (2, .int a2)]) zd_W_cell_8 rfl (Nat.le_of_ble_eq_true rfl) rfl ?_
  refine z_iload_n O zd_W_cell_9 rfl 0 rfl ?_
  refine z_if_lt O (tgt := 31) zd_W_cell_10 (by decide) (fun c1 => ?_) (fun c1 => ?_)
  · have ht := ht.trans (if_pos c1)
    refine z_iconst O (v := (-1)) zd_W_cell_31 (by decide) ?_
    exact E _ _ _ _ zd_W_cell_32 rfl ⟨ht.symm, rfl⟩
  · have ht := ht.trans (if_neg c1)
    have ko := ko c1
    refine z_iload_n O zd_W_cell_13 rfl 0 rfl ?_
    refine z_aload_n O zd_W_cell_14 rfl 1 rfl ?_
    refine zg_W_18_9 O zd_W_cell_15 (v := .ref (zq w 10)) rfl ?_
    refine z_alen O 10 (zae10 w σ) (v := (zlen 9)) rfl zd_W_cell_18 ?_
    refine z_icmp_ge O (tgt := 31) zd_W_cell_19 (by decide) (fun c2 => ?_) (fun c2 => ?_)
    · have ht := ht.trans (if_pos c2)
      refine z_iconst O (v := (-1)) zd_W_cell_31 (by decide) ?_
      exact E _ _ _ _ zd_W_cell_32 rfl ⟨ht.symm, rfl⟩
    · have ht := ht.trans (if_neg c2)
      have ko := ko c2
      refine z_aload_n O zd_W_cell_22 rfl 1 rfl ?_
      refine zg_W_18_9 O zd_W_cell_23 (v := .ref (zq w 10)) rfl ?_
      refine z_iload_n O zd_W_cell_26 rfl 0 rfl ?_
      have b3 := ko
      refine z_iald O 10 (zae10 w σ) b3 (v := (σ 10 (((a1 * (zcol 9)) + a2) : Int32).toNatClampNeg)) rfl zd_W_cell_27 ?_
      refine z_goto O (tgt := 32) zd_W_cell_28 (by decide) ?_
      exact E _ _ _ _ zd_W_cell_32 rfl ⟨ht.symm, rfl⟩
set_option maxHeartbeats 4000000 in
set_option maxRecDepth 100000 in
theorem c_W_cell_11 (l : Launch) (w : zWd) (σ : zSt) (a1 : Int32) (a2 : Int32) (ko : k_W_cell 11 σ a1 a2) : zMi l ({ cls := "SluiceStream$Rows", name := "cell", desc := "(II)I" } : Jvm.MethodName) prog_4_method_4_code 4 0 0 .int w [.ref (zq w 11), .int a1, .int a2] σ (fun r u => r = (f_W_cell 11 σ a1 a2) ∧ u = σ) := by
  refine zMi_of (by decide +kernel) (Nat.le_of_ble_eq_true rfl) ?_
  intro K O hl0 E
  have ht : (f_W_cell 11 σ a1 a2) = (f_W_cell 11 σ a1 a2) := rfl
  refine z_sub (lv' := [(0, .ref (zq w 11)), (1, .int a1), (2, .int a2)]) [0, 1, 2] rfl ?_
  refine z_iload_n O zd_W_cell_0 rfl 1 rfl ?_
  refine z_aload_n O zd_W_cell_1 rfl 0 rfl ?_
  refine zg_W_15_11 O zd_W_cell_2 (v := .int (zcol 11)) rfl ?_
  refine z_imul O zd_W_cell_5 ?_
  refine z_iload_n O zd_W_cell_6 rfl 2 rfl ?_
  refine z_iadd O zd_W_cell_7 ?_
  refine z_istore_n O (lv' := [(3, .int ((a1 * (zcol 11)) + a2)), (0, .ref (zq w 11)), (1, .int a1), (2, .int a2)]) zd_W_cell_8 rfl (Nat.le_of_ble_eq_true rfl) rfl ?_
  refine z_iload_n O zd_W_cell_9 rfl 0 rfl ?_
  refine z_if_lt O (tgt := 31) zd_W_cell_10 (by decide) (fun c1 => ?_) (fun c1 => ?_)
  · have ht := ht.trans (if_pos c1)
    refine z_iconst O (v := (-1)) zd_W_cell_31 (by decide) ?_
    exact E _ _ _ _ zd_W_cell_32 rfl ⟨ht.symm, rfl⟩
  · have ht := ht.trans (if_neg c1)
    have ko := ko c1
    refine z_iload_n O zd_W_cell_13 rfl 0 rfl ?_
    refine z_aload_n O zd_W_cell_14 rfl 1 rfl ?_
    refine zg_W_18_11 O zd_W_cell_15 (v := .ref (zq w 12)) rfl ?_
    refine z_alen O 12 (zae12 w σ) (v := (zlen 11)) rfl zd_W_cell_18 ?_
    refine z_icmp_ge O (tgt := 31) zd_W_cell_19 (by decide) (fun c2 => ?_) (fun c2 => ?_)
    · have ht := ht.trans (if_pos c2)
      refine z_iconst O (v := (-1)) zd_W_cell_31 (by decide) ?_
      exact E _ _ _ _ zd_W_cell_32 rfl ⟨ht.symm, rfl⟩
    · have ht := ht.trans (if_neg c2)
      have ko := ko c2
      refine z_aload_n O zd_W_cell_22 rfl 1 rfl ?_
      refine zg_W_18_11 O zd_W_cell_23 (v := .ref (zq w 12)) rfl ?_
      refine z_iload_n O zd_W_cell_26 rfl 0 rfl ?_
      have b3 := ko
      refine z_iald O 12 (zae12 w σ) b3 (v := (σ 12 (((a1 * (zcol 11)) + a2) : Int32).toNatClampNeg)) rfl zd_W_cell_27 ?_
      refine z_goto O (tgt := 32) zd_W_cell_28 (by decide) ?_
      exact E _ _ _ _ zd_W_cell_32 rfl ⟨ht.symm, rfl⟩
set_option maxHeartbeats 4000000 in
set_option maxRecDepth 100000 in
theorem c_W_setCell_9 (l : Launch) (w : zWd) (σ : zSt) (a1 : Int32) (a2 : Int32) (a3 : Int32) (ko : k_W_setCell 9 σ a1 a2 a3) : zMv l ({ cls := "SluiceStream$Rows", name := "setCell", desc := "(III)V" } : Jvm.MethodName) prog_4_method_5_code 5 0 0 w [.ref (zq w 9), .int a1, .int a2, .int a3] σ (fun u => u = (f_W_setCell 9 σ a1 a2 a3)) := by
  refine zMv_of (by decide +kernel) (Nat.le_of_ble_eq_true rfl) ?_
  intro K O hl0 E
  have ht : (f_W_setCell 9 σ a1 a2 a3) = (f_W_setCell 9 σ a1 a2 a3) := rfl
  refine z_sub (lv' := [(0, .ref (zq w 9)), (1, .int a1), (2, .int a2), (3, .int a3)]) [0, 1, 2, 3] rfl ?_
  refine z_iload_n O zd_W_setCell_0 rfl 1 rfl ?_
  refine z_aload_n O zd_W_setCell_1 rfl 0 rfl ?_
  refine zg_W_15_9 O zd_W_setCell_2 (v := .int (zcol 9)) rfl ?_
  refine z_imul O zd_W_setCell_5 ?_
  refine z_iload_n O zd_W_setCell_6 rfl 2 rfl ?_
  refine z_iadd O zd_W_setCell_7 ?_
  refine z_istore O (lv' := [(4, .int ((a1 * (zcol 9)) + a2)), (0, .ref (zq w 9)), (1, .int a1), (2, .int a2), (3, .int a3)]) zd_W_setCell_8 (Nat.le_of_ble_eq_true rfl) rfl ?_
  refine z_iload O zd_W_setCell_10 0 rfl ?_
  refine z_if_lt O (tgt := 33) zd_W_setCell_12 (by decide) (fun c1 => ?_) (fun c1 => ?_)
  · have ht := ht.trans (if_pos c1)
    exact E _ _ _ zd_W_setCell_33 ht.symm
  · have ht := ht.trans (if_neg c1)
    have ko := ko c1
    refine z_iload O zd_W_setCell_15 0 rfl ?_
    refine z_aload_n O zd_W_setCell_17 rfl 1 rfl ?_
    refine zg_W_18_9 O zd_W_setCell_18 (v := .ref (zq w 10)) rfl ?_
    refine z_alen O 10 (zae10 w σ) (v := (zlen 9)) rfl zd_W_setCell_21 ?_
    refine z_icmp_ge O (tgt := 33) zd_W_setCell_22 (by decide) (fun c2 => ?_) (fun c2 => ?_)
    · have ht := ht.trans (if_pos c2)
      exact E _ _ _ zd_W_setCell_33 ht.symm
    · have ht := ht.trans (if_neg c2)
      have ko := ko c2
      refine z_aload_n O zd_W_setCell_25 rfl 1 rfl ?_
      refine zg_W_18_9 O zd_W_setCell_26 (v := .ref (zq w 10)) rfl ?_
      refine z_iload O zd_W_setCell_29 0 rfl ?_
      refine z_iload_n O zd_W_setCell_31 rfl 4 rfl ?_
      have b3 := ko
      refine z_iast O 10 (zae10 w σ) b3 (zas10 w σ _ _) zd_W_setCell_32 ?_
      exact E _ _ _ zd_W_setCell_33 ht.symm
set_option maxHeartbeats 4000000 in
set_option maxRecDepth 100000 in
theorem c_W_setCell_11 (l : Launch) (w : zWd) (σ : zSt) (a1 : Int32) (a2 : Int32) (a3 : Int32) (ko : k_W_setCell 11 σ a1 a2 a3) : zMv l ({ cls := "SluiceStream$Rows", name := "setCell", desc := "(III)V" } : Jvm.MethodName) prog_4_method_5_code 5 0 0 w [.ref (zq w 11), .int a1, .int a2, .int a3] σ (fun u => u = (f_W_setCell 11 σ a1 a2 a3)) := by
  refine zMv_of (by decide +kernel) (Nat.le_of_ble_eq_true rfl) ?_
  intro K O hl0 E
  have ht : (f_W_setCell 11 σ a1 a2 a3) = (f_W_setCell 11 σ a1 a2 a3) := rfl
  refine z_sub (lv' := [(0, .ref (zq w 11)), (1, .int a1), (2, .int a2), (3, .int a3)]) [0, 1, 2, 3] rfl ?_
  refine z_iload_n O zd_W_setCell_0 rfl 1 rfl ?_
  refine z_aload_n O zd_W_setCell_1 rfl 0 rfl ?_
  refine zg_W_15_11 O zd_W_setCell_2 (v := .int (zcol 11)) rfl ?_
  refine z_imul O zd_W_setCell_5 ?_
  refine z_iload_n O zd_W_setCell_6 rfl 2 rfl ?_
  refine z_iadd O zd_W_setCell_7 ?_
  refine z_istore O (lv' := [(4, .int ((a1 * (zcol 11)) + a2)), (0, .ref (zq w 11)), (1, .int a1), (2, .int a2), (3, .int a3)]) zd_W_setCell_8 (Nat.le_of_ble_eq_true rfl) rfl ?_
  refine z_iload O zd_W_setCell_10 0 rfl ?_
  refine z_if_lt O (tgt := 33) zd_W_setCell_12 (by decide) (fun c1 => ?_) (fun c1 => ?_)
  · have ht := ht.trans (if_pos c1)
    exact E _ _ _ zd_W_setCell_33 ht.symm
  · have ht := ht.trans (if_neg c1)
    have ko := ko c1
    refine z_iload O zd_W_setCell_15 0 rfl ?_
    refine z_aload_n O zd_W_setCell_17 rfl 1 rfl ?_
    refine zg_W_18_11 O zd_W_setCell_18 (v := .ref (zq w 12)) rfl ?_
    refine z_alen O 12 (zae12 w σ) (v := (zlen 11)) rfl zd_W_setCell_21 ?_
    refine z_icmp_ge O (tgt := 33) zd_W_setCell_22 (by decide) (fun c2 => ?_) (fun c2 => ?_)
    · have ht := ht.trans (if_pos c2)
      exact E _ _ _ zd_W_setCell_33 ht.symm
    · have ht := ht.trans (if_neg c2)
      have ko := ko c2
      refine z_aload_n O zd_W_setCell_25 rfl 1 rfl ?_
      refine zg_W_18_11 O zd_W_setCell_26 (v := .ref (zq w 12)) rfl ?_
      refine z_iload O zd_W_setCell_29 0 rfl ?_
      refine z_iload_n O zd_W_setCell_31 rfl 4 rfl ?_
      have b3 := ko
      refine z_iast O 12 (zae12 w σ) b3 (zas12 w σ _ _) zd_W_setCell_32 ?_
      exact E _ _ _ zd_W_setCell_33 ht.symm
set_option maxHeartbeats 4000000 in
set_option maxRecDepth 100000 in
theorem c_W_addRow_9 (l : Launch) (w : zWd) (σ : zSt) : zMi l ({ cls := "SluiceStream$Rows", name := "addRow", desc := "()I" } : Jvm.MethodName) prog_4_method_6_code 1 0 0 .int w [.ref (zq w 9)] σ (fun r u => (r, u) = (f_W_addRow 9 σ)) := by
  refine zMi_of (by decide +kernel) (Nat.le_of_ble_eq_true rfl) ?_
  intro K O hl0 E
  have ht : (f_W_addRow 9 σ) = (f_W_addRow 9 σ) := rfl
  refine z_sub (lv' := [(0, .ref (zq w 9))]) [0] rfl ?_
  refine z_aload_n O zd_W_addRow_0 rfl 0 rfl ?_
  refine zg_W_9_9 O zd_W_addRow_1 (v := .int (σ 9 2)) rfl ?_
  refine z_bipush O (v := 40) zd_W_addRow_4 (by decide) ?_
  refine z_icmp_ge O (tgt := 19) zd_W_addRow_6 (by decide) (fun c1 => ?_) (fun c1 => ?_)
  · have ht := ht.trans (if_pos c1)
    refine z_aload_n O zd_W_addRow_19 rfl 0 rfl ?_
    refine zg_W_9_9 O zd_W_addRow_20 (v := .int (σ 9 2)) rfl ?_
    refine z_iconst O (v := 1) zd_W_addRow_23 (by decide) ?_
    refine z_isub O zd_W_addRow_24 ?_
    exact E _ _ _ _ zd_W_addRow_25 rfl ht.symm
  · have ht := ht.trans (if_neg c1)
    refine z_aload_n O zd_W_addRow_9 rfl 0 rfl ?_
    refine z_dup O zd_W_addRow_10 rfl ?_
    refine zg_W_9_9 O zd_W_addRow_11 (v := .int (σ 9 2)) rfl ?_
    refine z_iconst O (v := 1) zd_W_addRow_14 (by decide) ?_
    refine z_iadd O zd_W_addRow_15 ?_
    refine zp_W_9_9 O zd_W_addRow_16 ?_
    refine z_aload_n O zd_W_addRow_19 rfl 0 rfl ?_
    refine zg_W_9_9 O zd_W_addRow_20 (v := .int ((σ 9 2) + 1)) rfl ?_
    refine z_iconst O (v := 1) zd_W_addRow_23 (by decide) ?_
    refine z_isub O zd_W_addRow_24 ?_
    exact E _ _ _ _ zd_W_addRow_25 rfl ht.symm
set_option maxHeartbeats 4000000 in
set_option maxRecDepth 100000 in
theorem c_W_addRow_11 (l : Launch) (w : zWd) (σ : zSt) : zMi l ({ cls := "SluiceStream$Rows", name := "addRow", desc := "()I" } : Jvm.MethodName) prog_4_method_6_code 1 0 0 .int w [.ref (zq w 11)] σ (fun r u => (r, u) = (f_W_addRow 11 σ)) := by
  refine zMi_of (by decide +kernel) (Nat.le_of_ble_eq_true rfl) ?_
  intro K O hl0 E
  have ht : (f_W_addRow 11 σ) = (f_W_addRow 11 σ) := rfl
  refine z_sub (lv' := [(0, .ref (zq w 11))]) [0] rfl ?_
  refine z_aload_n O zd_W_addRow_0 rfl 0 rfl ?_
  refine zg_W_9_11 O zd_W_addRow_1 (v := .int (σ 11 2)) rfl ?_
  refine z_bipush O (v := 40) zd_W_addRow_4 (by decide) ?_
  refine z_icmp_ge O (tgt := 19) zd_W_addRow_6 (by decide) (fun c1 => ?_) (fun c1 => ?_)
  · have ht := ht.trans (if_pos c1)
    refine z_aload_n O zd_W_addRow_19 rfl 0 rfl ?_
    refine zg_W_9_11 O zd_W_addRow_20 (v := .int (σ 11 2)) rfl ?_
    refine z_iconst O (v := 1) zd_W_addRow_23 (by decide) ?_
    refine z_isub O zd_W_addRow_24 ?_
    exact E _ _ _ _ zd_W_addRow_25 rfl ht.symm
  · have ht := ht.trans (if_neg c1)
    refine z_aload_n O zd_W_addRow_9 rfl 0 rfl ?_
    refine z_dup O zd_W_addRow_10 rfl ?_
    refine zg_W_9_11 O zd_W_addRow_11 (v := .int (σ 11 2)) rfl ?_
    refine z_iconst O (v := 1) zd_W_addRow_14 (by decide) ?_
    refine z_iadd O zd_W_addRow_15 ?_
    refine zp_W_9_11 O zd_W_addRow_16 ?_
    refine z_aload_n O zd_W_addRow_19 rfl 0 rfl ?_
    refine zg_W_9_11 O zd_W_addRow_20 (v := .int ((σ 11 2) + 1)) rfl ?_
    refine z_iconst O (v := 1) zd_W_addRow_23 (by decide) ?_
    refine z_isub O zd_W_addRow_24 ?_
    exact E _ _ _ _ zd_W_addRow_25 rfl ht.symm
set_option maxHeartbeats 4000000 in
set_option maxRecDepth 100000 in
theorem L_W_remove_26_9 {K : zCx} {w : zWd} {l : Launch} (O : zOk K w prog_4_method_7_code "SluiceStream$Rows" 3 1 21) (hl0 : kl K = l) : ∀ (m : Nat) (σ : zSt) (x2 : Int32), kl_W_remove_26 9  m σ x2 → (∀ r, r = (l_W_remove_26 9  m σ x2) → Z K w r [] [] 80) → Z K w σ [(0, .ref (zq w 9)), (2, .int x2)] [] 26 := by
  intro m
  induction m with
  | zero => intro σ x2 ko; exact ko.elim
  | succ m ih =>
    intro σ x2 ko kk
    have ht : l_W_remove_26 9  (m + 1) σ x2 = l_W_remove_26 9  (m + 1) σ x2 := rfl
    refine z_iload_n O zd_W_remove_26 rfl 1 rfl ?_
    refine z_aload_n O zd_W_remove_27 rfl 0 rfl ?_
    refine zg_W_9_9 O zd_W_remove_28 (v := .int (σ 9 2)) rfl ?_
    refine z_aload_n O zd_W_remove_31 rfl 0 rfl ?_
    refine zg_W_15_9 O zd_W_remove_32 (v := .int (zcol 9)) rfl ?_
    refine z_imul O zd_W_remove_35 ?_
    refine z_icmp_ge O (tgt := 80) zd_W_remove_36 (by decide) (fun c4 => ?_) (fun c4 => ?_)
    · have ht := ht.trans (if_pos c4)
      refine z_sub (lv' := []) [] rfl ?_
      exact kk σ ht.symm
    · have ht := ht.trans (if_neg c4)
      have ko := ko c4
      refine z_iload_n O zd_W_remove_39 rfl 1 rfl ?_
      refine z_if_lt O (tgt := 80) zd_W_remove_40 (by decide) (fun c5 => ?_) (fun c5 => ?_)
      · have ht := ht.trans (if_pos c5)
        refine z_sub (lv' := []) [] rfl ?_
        exact kk σ ht.symm
      · have ht := ht.trans (if_neg c5)
        have ko := ko c5
        refine z_iload_n O zd_W_remove_43 rfl 1 rfl ?_
        refine z_aload_n O zd_W_remove_44 rfl 0 rfl ?_
        refine zg_W_15_9 O zd_W_remove_45 (v := .int (zcol 9)) rfl ?_
        refine z_iadd O zd_W_remove_48 ?_
        refine z_aload_n O zd_W_remove_49 rfl 0 rfl ?_
        refine zg_W_18_9 O zd_W_remove_50 (v := .ref (zq w 10)) rfl ?_
        refine z_alen O 10 (zae10 w σ) (v := (zlen 9)) rfl zd_W_remove_53 ?_
        refine z_icmp_ge O (tgt := 80) zd_W_remove_54 (by decide) (fun c6 => ?_) (fun c6 => ?_)
        · have ht := ht.trans (if_pos c6)
          refine z_sub (lv' := []) [] rfl ?_
          exact kk σ ht.symm
        · have ht := ht.trans (if_neg c6)
          have ko := ko c6
          refine z_aload_n O zd_W_remove_57 rfl 0 rfl ?_
          refine zg_W_18_9 O zd_W_remove_58 (v := .ref (zq w 10)) rfl ?_
          refine z_iload_n O zd_W_remove_61 rfl 1 rfl ?_
          refine z_aload_n O zd_W_remove_62 rfl 0 rfl ?_
          refine zg_W_18_9 O zd_W_remove_63 (v := .ref (zq w 10)) rfl ?_
          refine z_iload_n O zd_W_remove_66 rfl 1 rfl ?_
          refine z_aload_n O zd_W_remove_67 rfl 0 rfl ?_
          refine zg_W_15_9 O zd_W_remove_68 (v := .int (zcol 9)) rfl ?_
          refine z_iadd O zd_W_remove_71 ?_
          have b7 := ko.1
          have ko := ko.2
          refine z_iald O 10 (zae10 w σ) b7 (v := (σ 10 ((x2 + (zcol 9)) : Int32).toNatClampNeg)) rfl zd_W_remove_72 ?_
          have b8 := ko.1
          have ko := ko.2
          refine z_iast O 10 (zae10 w σ) b8 (zas10 w σ _ _) zd_W_remove_73 ?_
          refine z_iinc O (v := (x2 + 1)) (lv' := [(2, .int (x2 + 1)), (0, .ref (zq w 9))]) zd_W_remove_74 1 rfl rfl (Nat.le_of_ble_eq_true rfl) rfl ?_
          refine z_goto O (tgt := 26) zd_W_remove_77 (by decide) ?_
          refine z_sub (lv' := [(0, .ref (zq w 9)), (2, .int (x2 + 1))]) [1, 0] rfl ?_
          exact ih (zuf σ 10 x2.toNatClampNeg (σ 10 ((x2 + (zcol 9)) : Int32).toNatClampNeg)) (x2 + 1) ko (fun r e => kk r (e.trans ht.symm))
set_option maxHeartbeats 4000000 in
set_option maxRecDepth 100000 in
theorem c_W_remove_9 (l : Launch) (w : zWd) (σ : zSt) (a1 : Int32) (ko : k_W_remove 9 σ a1) : zMv l ({ cls := "SluiceStream$Rows", name := "remove", desc := "(I)V" } : Jvm.MethodName) prog_4_method_7_code 3 1 21 w [.ref (zq w 9), .int a1] σ (fun u => u = (f_W_remove 9 σ a1)) := by
  refine zMv_of (by decide +kernel) (Nat.le_of_ble_eq_true rfl) ?_
  intro K O hl0 E
  have ht : (f_W_remove 9 σ a1) = (f_W_remove 9 σ a1) := rfl
  refine z_sub (lv' := [(0, .ref (zq w 9)), (1, .int a1)]) [0, 1] rfl ?_
  refine z_aload_n O zd_W_remove_0 rfl 0 rfl ?_
  refine z_iload_n O zd_W_remove_1 rfl 1 rfl ?_
  refine z_callri O hl0 (st := []) 9 2 (fs := zo9 w σ) rfl rfl (c_W_holds_9 l w σ a1) zl_W_22 zm296 zm297 rfl rfl (Nat.le_of_ble_eq_true rfl) (Nat.le_of_ble_eq_true rfl) (Nat.le_of_ble_eq_true rfl) zd_W_remove_2 (fun r1 e2 => ?_)
  have ht := ht.trans (zlet_e e2)
  have ko := ko r1 e2
  refine z_if_ne O (tgt := 9) zd_W_remove_5 (by decide) (fun c3 => ?_) (fun c3 => ?_)
  · have ht := ht.trans (if_neg c3)
    have ko := ko c3
    refine z_aload_n O zd_W_remove_9 rfl 0 rfl ?_
    refine z_dup O zd_W_remove_10 rfl ?_
    refine zg_W_9_9 O zd_W_remove_11 (v := .int (σ 9 2)) rfl ?_
    refine z_iconst O (v := 1) zd_W_remove_14 (by decide) ?_
    refine z_isub O zd_W_remove_15 ?_
    refine zp_W_9_9 O zd_W_remove_16 ?_
    refine z_iload_n O zd_W_remove_19 rfl 1 rfl ?_
    refine z_aload_n O zd_W_remove_20 rfl 0 rfl ?_
    refine zg_W_15_9 O zd_W_remove_21 (v := .int (zcol 9)) rfl ?_
    refine z_imul O zd_W_remove_24 ?_
    refine z_istore_n O (lv' := [(2, .int (a1 * (zcol 9))), (0, .ref (zq w 9)), (1, .int a1)]) zd_W_remove_25 rfl (Nat.le_of_ble_eq_true rfl) rfl ?_
    refine z_sub (lv' := [(0, .ref (zq w 9)), (2, .int (a1 * (zcol 9)))]) [1, 0] rfl ?_
    refine L_W_remove_26_9 O hl0 ((((((zuf σ 9 2 ((σ 9 2) - 1)) 9 2) * (zcol 9))).toInt - ((a1 * (zcol 9))).toInt).toNat + 2) (zuf σ 9 2 ((σ 9 2) - 1)) (a1 * (zcol 9)) ko (fun r9 er9 => ?_)
    have ht := ht.trans (zlet_e er9)
    exact E _ _ _ zd_W_remove_80 ht.symm
  · have ht := ht.trans (if_pos c3)
    exact E _ _ _ zd_W_remove_8 ht.symm
set_option maxHeartbeats 4000000 in
set_option maxRecDepth 100000 in
theorem L_W_remove_26_11 {K : zCx} {w : zWd} {l : Launch} (O : zOk K w prog_4_method_7_code "SluiceStream$Rows" 3 1 21) (hl0 : kl K = l) : ∀ (m : Nat) (σ : zSt) (x2 : Int32), kl_W_remove_26 11  m σ x2 → (∀ r, r = (l_W_remove_26 11  m σ x2) → Z K w r [] [] 80) → Z K w σ [(0, .ref (zq w 11)), (2, .int x2)] [] 26 := by
  intro m
  induction m with
  | zero => intro σ x2 ko; exact ko.elim
  | succ m ih =>
    intro σ x2 ko kk
    have ht : l_W_remove_26 11  (m + 1) σ x2 = l_W_remove_26 11  (m + 1) σ x2 := rfl
    refine z_iload_n O zd_W_remove_26 rfl 1 rfl ?_
    refine z_aload_n O zd_W_remove_27 rfl 0 rfl ?_
    refine zg_W_9_11 O zd_W_remove_28 (v := .int (σ 11 2)) rfl ?_
    refine z_aload_n O zd_W_remove_31 rfl 0 rfl ?_
    refine zg_W_15_11 O zd_W_remove_32 (v := .int (zcol 11)) rfl ?_
    refine z_imul O zd_W_remove_35 ?_
    refine z_icmp_ge O (tgt := 80) zd_W_remove_36 (by decide) (fun c4 => ?_) (fun c4 => ?_)
    · have ht := ht.trans (if_pos c4)
      refine z_sub (lv' := []) [] rfl ?_
      exact kk σ ht.symm
    · have ht := ht.trans (if_neg c4)
      have ko := ko c4
      refine z_iload_n O zd_W_remove_39 rfl 1 rfl ?_
      refine z_if_lt O (tgt := 80) zd_W_remove_40 (by decide) (fun c5 => ?_) (fun c5 => ?_)
      · have ht := ht.trans (if_pos c5)
        refine z_sub (lv' := []) [] rfl ?_
        exact kk σ ht.symm
      · have ht := ht.trans (if_neg c5)
        have ko := ko c5
        refine z_iload_n O zd_W_remove_43 rfl 1 rfl ?_
        refine z_aload_n O zd_W_remove_44 rfl 0 rfl ?_
        refine zg_W_15_11 O zd_W_remove_45 (v := .int (zcol 11)) rfl ?_
        refine z_iadd O zd_W_remove_48 ?_
        refine z_aload_n O zd_W_remove_49 rfl 0 rfl ?_
        refine zg_W_18_11 O zd_W_remove_50 (v := .ref (zq w 12)) rfl ?_
        refine z_alen O 12 (zae12 w σ) (v := (zlen 11)) rfl zd_W_remove_53 ?_
        refine z_icmp_ge O (tgt := 80) zd_W_remove_54 (by decide) (fun c6 => ?_) (fun c6 => ?_)
        · have ht := ht.trans (if_pos c6)
          refine z_sub (lv' := []) [] rfl ?_
          exact kk σ ht.symm
        · have ht := ht.trans (if_neg c6)
          have ko := ko c6
          refine z_aload_n O zd_W_remove_57 rfl 0 rfl ?_
          refine zg_W_18_11 O zd_W_remove_58 (v := .ref (zq w 12)) rfl ?_
          refine z_iload_n O zd_W_remove_61 rfl 1 rfl ?_
          refine z_aload_n O zd_W_remove_62 rfl 0 rfl ?_
          refine zg_W_18_11 O zd_W_remove_63 (v := .ref (zq w 12)) rfl ?_
          refine z_iload_n O zd_W_remove_66 rfl 1 rfl ?_
          refine z_aload_n O zd_W_remove_67 rfl 0 rfl ?_
          refine zg_W_15_11 O zd_W_remove_68 (v := .int (zcol 11)) rfl ?_
          refine z_iadd O zd_W_remove_71 ?_
          have b7 := ko.1
          have ko := ko.2
          refine z_iald O 12 (zae12 w σ) b7 (v := (σ 12 ((x2 + (zcol 11)) : Int32).toNatClampNeg)) rfl zd_W_remove_72 ?_
          have b8 := ko.1
          have ko := ko.2
          refine z_iast O 12 (zae12 w σ) b8 (zas12 w σ _ _) zd_W_remove_73 ?_
          refine z_iinc O (v := (x2 + 1)) (lv' := [(2, .int (x2 + 1)), (0, .ref (zq w 11))]) zd_W_remove_74 1 rfl rfl (Nat.le_of_ble_eq_true rfl) rfl ?_
          refine z_goto O (tgt := 26) zd_W_remove_77 (by decide) ?_
          refine z_sub (lv' := [(0, .ref (zq w 11)), (2, .int (x2 + 1))]) [1, 0] rfl ?_
          exact ih (zuf σ 12 x2.toNatClampNeg (σ 12 ((x2 + (zcol 11)) : Int32).toNatClampNeg)) (x2 + 1) ko (fun r e => kk r (e.trans ht.symm))
set_option maxHeartbeats 4000000 in
set_option maxRecDepth 100000 in
theorem c_W_remove_11 (l : Launch) (w : zWd) (σ : zSt) (a1 : Int32) (ko : k_W_remove 11 σ a1) : zMv l ({ cls := "SluiceStream$Rows", name := "remove", desc := "(I)V" } : Jvm.MethodName) prog_4_method_7_code 3 1 21 w [.ref (zq w 11), .int a1] σ (fun u => u = (f_W_remove 11 σ a1)) := by
  refine zMv_of (by decide +kernel) (Nat.le_of_ble_eq_true rfl) ?_
  intro K O hl0 E
  have ht : (f_W_remove 11 σ a1) = (f_W_remove 11 σ a1) := rfl
  refine z_sub (lv' := [(0, .ref (zq w 11)), (1, .int a1)]) [0, 1] rfl ?_
  refine z_aload_n O zd_W_remove_0 rfl 0 rfl ?_
  refine z_iload_n O zd_W_remove_1 rfl 1 rfl ?_
  refine z_callri O hl0 (st := []) 11 2 (fs := zo11 w σ) rfl rfl (c_W_holds_11 l w σ a1) zl_W_22 zm296 zm297 rfl rfl (Nat.le_of_ble_eq_true rfl) (Nat.le_of_ble_eq_true rfl) (Nat.le_of_ble_eq_true rfl) zd_W_remove_2 (fun r1 e2 => ?_)
  have ht := ht.trans (zlet_e e2)
  have ko := ko r1 e2
  refine z_if_ne O (tgt := 9) zd_W_remove_5 (by decide) (fun c3 => ?_) (fun c3 => ?_)
  · have ht := ht.trans (if_neg c3)
    have ko := ko c3
    refine z_aload_n O zd_W_remove_9 rfl 0 rfl ?_
    refine z_dup O zd_W_remove_10 rfl ?_
    refine zg_W_9_11 O zd_W_remove_11 (v := .int (σ 11 2)) rfl ?_
    refine z_iconst O (v := 1) zd_W_remove_14 (by decide) ?_
    refine z_isub O zd_W_remove_15 ?_
    refine zp_W_9_11 O zd_W_remove_16 ?_
    refine z_iload_n O zd_W_remove_19 rfl 1 rfl ?_
    refine z_aload_n O zd_W_remove_20 rfl 0 rfl ?_
    refine zg_W_15_11 O zd_W_remove_21 (v := .int (zcol 11)) rfl ?_
    refine z_imul O zd_W_remove_24 ?_
    refine z_istore_n O (lv' := [(2, .int (a1 * (zcol 11))), (0, .ref (zq w 11)), (1, .int a1)]) zd_W_remove_25 rfl (Nat.le_of_ble_eq_true rfl) rfl ?_
    refine z_sub (lv' := [(0, .ref (zq w 11)), (2, .int (a1 * (zcol 11)))]) [1, 0] rfl ?_
    refine L_W_remove_26_11 O hl0 ((((((zuf σ 11 2 ((σ 11 2) - 1)) 11 2) * (zcol 11))).toInt - ((a1 * (zcol 11))).toInt).toNat + 2) (zuf σ 11 2 ((σ 11 2) - 1)) (a1 * (zcol 11)) ko (fun r9 er9 => ?_)
    have ht := ht.trans (zlet_e er9)
    exact E _ _ _ zd_W_remove_80 ht.symm
  · have ht := ht.trans (if_pos c3)
    exact E _ _ _ zd_W_remove_8 ht.symm
set_option maxHeartbeats 4000000 in
set_option maxRecDepth 100000 in
theorem c_T_passTick (l : Launch) (w : zWd) (σ : zSt) : zMi l ({ cls := "SluiceStream$Timer", name := "passTick", desc := "()Z" } : Jvm.MethodName) prog_6_method_2_code 1 0 0 .boolean w [.ref (zq w 5)] σ (fun r u => (r, u) = (f_T_passTick σ)) := by
  refine zMi_of (by decide +kernel) (Nat.le_of_ble_eq_true rfl) ?_
  intro K O hl0 E
  have ht : (f_T_passTick σ) = (f_T_passTick σ) := rfl
  refine z_sub (lv' := [(0, .ref (zq w 5))]) [0] rfl ?_
  refine z_aload_n O zd_T_passTick_0 rfl 0 rfl ?_
  refine z_dup O zd_T_passTick_1 rfl ?_
  refine zg_T_9_5 O zd_T_passTick_2 (v := .int (σ 5 0)) rfl ?_
  refine z_iconst O (v := 1) zd_T_passTick_5 (by decide) ?_
  refine z_iadd O zd_T_passTick_6 ?_
  refine zp_T_9_5 O zd_T_passTick_7 ?_
  refine z_aload_n O zd_T_passTick_10 rfl 0 rfl ?_
  refine zg_T_18_5 O zd_T_passTick_11 (v := .int (σ 5 2)) rfl ?_
  refine z_iconst O (v := (-1)) zd_T_passTick_14 (by decide) ?_
  refine z_icmp_eq O (tgt := 33) zd_T_passTick_15 (by decide) (fun c1 => ?_) (fun c1 => ?_)
  · have ht := ht.trans (if_pos c1)
    refine z_iconst O (v := 0) zd_T_passTick_33 (by decide) ?_
    exact E _ _ _ _ zd_T_passTick_34 rfl ht.symm
  · have ht := ht.trans (if_neg c1)
    refine z_aload_n O zd_T_passTick_18 rfl 0 rfl ?_
    refine zg_T_9_5 O zd_T_passTick_19 (v := .int ((σ 5 0) + 1)) rfl ?_
    refine z_aload_n O zd_T_passTick_22 rfl 0 rfl ?_
    refine zg_T_18_5 O zd_T_passTick_23 (v := .int (σ 5 2)) rfl ?_
    refine z_icmp_ne O (tgt := 33) zd_T_passTick_26 (by decide) (fun c2 => ?_) (fun c2 => ?_)
    · have ht := ht.trans (if_neg c2)
      refine z_iconst O (v := 0) zd_T_passTick_33 (by decide) ?_
      exact E _ _ _ _ zd_T_passTick_34 rfl ht.symm
    · have ht := ht.trans (if_pos c2)
      refine z_iconst O (v := 1) zd_T_passTick_29 (by decide) ?_
      refine z_goto O (tgt := 34) zd_T_passTick_30 (by decide) ?_
      exact E _ _ _ _ zd_T_passTick_34 rfl ht.symm
set_option maxHeartbeats 4000000 in
set_option maxRecDepth 100000 in
theorem c_T_startAnew (l : Launch) (w : zWd) (σ : zSt) : zMv l ({ cls := "SluiceStream$Timer", name := "startAnew", desc := "()V" } : Jvm.MethodName) prog_6_method_3_code 1 0 0 w [.ref (zq w 5)] σ (fun u => u = (f_T_startAnew σ)) := by
  refine zMv_of (by decide +kernel) (Nat.le_of_ble_eq_true rfl) ?_
  intro K O hl0 E
  have ht : (f_T_startAnew σ) = (f_T_startAnew σ) := rfl
  refine z_sub (lv' := [(0, .ref (zq w 5))]) [0] rfl ?_
  refine z_aload_n O zd_T_startAnew_0 rfl 0 rfl ?_
  refine z_aload_n O zd_T_startAnew_1 rfl 0 rfl ?_
  refine zg_T_9_5 O zd_T_startAnew_2 (v := .int (σ 5 0)) rfl ?_
  refine z_aload_n O zd_T_startAnew_5 rfl 0 rfl ?_
  refine zg_T_15_5 O zd_T_startAnew_6 (v := .int (σ 5 1)) rfl ?_
  refine z_iadd O zd_T_startAnew_9 ?_
  refine zp_T_18_5 O zd_T_startAnew_10 ?_
  exact E _ _ _ zd_T_startAnew_13 ht.symm
set_option maxHeartbeats 4000000 in
set_option maxRecDepth 100000 in
theorem c_T_startIfStopped (l : Launch) (w : zWd) (σ : zSt) : zMv l ({ cls := "SluiceStream$Timer", name := "startIfStopped", desc := "()V" } : Jvm.MethodName) prog_6_method_4_code 1 1 20 w [.ref (zq w 5)] σ (fun u => u = (f_T_startIfStopped σ)) := by
  refine zMv_of (by decide +kernel) (Nat.le_of_ble_eq_true rfl) ?_
  intro K O hl0 E
  have ht : (f_T_startIfStopped σ) = (f_T_startIfStopped σ) := rfl
  refine z_sub (lv' := [(0, .ref (zq w 5))]) [0] rfl ?_
  refine z_aload_n O zd_T_startIfStopped_0 rfl 0 rfl ?_
  refine zg_T_18_5 O zd_T_startIfStopped_1 (v := .int (σ 5 2)) rfl ?_
  refine z_iconst O (v := (-1)) zd_T_startIfStopped_4 (by decide) ?_
  refine z_icmp_ne O (tgt := 12) zd_T_startIfStopped_5 (by decide) (fun c1 => ?_) (fun c1 => ?_)
  · have ht := ht.trans (if_neg c1)
    exact E _ _ _ zd_T_startIfStopped_12 ht.symm
  · have ht := ht.trans (if_pos c1)
    refine z_aload_n O zd_T_startIfStopped_8 rfl 0 rfl ?_
    refine z_callv O hl0 (st := []) 5 4 (fs := zo5 w σ) rfl rfl (c_T_startAnew l w σ) zl_T_37 zm620 zm621 rfl rfl (Nat.le_of_ble_eq_true rfl) (Nat.le_of_ble_eq_true rfl) (Nat.le_of_ble_eq_true rfl) zd_T_startIfStopped_9 (fun u2 e3 => ?_)
    have ht := ht.trans (zlet_e e3)
    exact E _ _ _ zd_T_startIfStopped_12 ht.symm
set_option maxHeartbeats 4000000 in
set_option maxRecDepth 100000 in
theorem c_T_stop (l : Launch) (w : zWd) (σ : zSt) : zMv l ({ cls := "SluiceStream$Timer", name := "stop", desc := "()V" } : Jvm.MethodName) prog_6_method_5_code 1 0 0 w [.ref (zq w 5)] σ (fun u => u = (f_T_stop σ)) := by
  refine zMv_of (by decide +kernel) (Nat.le_of_ble_eq_true rfl) ?_
  intro K O hl0 E
  have ht : (f_T_stop σ) = (f_T_stop σ) := rfl
  refine z_sub (lv' := [(0, .ref (zq w 5))]) [0] rfl ?_
  refine z_aload_n O zd_T_stop_0 rfl 0 rfl ?_
  refine z_iconst O (v := (-1)) zd_T_stop_1 (by decide) ?_
  refine zp_T_18_5 O zd_T_stop_2 ?_
  exact E _ _ _ zd_T_stop_5 ht.symm
set_option maxHeartbeats 4000000 in
set_option maxRecDepth 100000 in
theorem c_T_forgetTiming (l : Launch) (w : zWd) (σ : zSt) : zMv l ({ cls := "SluiceStream$Timer", name := "forgetTiming", desc := "()V" } : Jvm.MethodName) prog_6_method_8_code 1 0 0 w [.ref (zq w 5)] σ (fun u => u = (f_T_forgetTiming σ)) := by
  refine zMv_of (by decide +kernel) (Nat.le_of_ble_eq_true rfl) ?_
  intro K O hl0 E
  have ht : (f_T_forgetTiming σ) = (f_T_forgetTiming σ) := rfl
  refine z_sub (lv' := [(0, .ref (zq w 5))]) [0] rfl ?_
  refine z_aload_n O zd_T_forgetTiming_0 rfl 0 rfl ?_
  refine z_iconst O (v := (-1)) zd_T_forgetTiming_1 (by decide) ?_
  refine zp_T_21_5 O zd_T_forgetTiming_2 ?_
  exact E _ _ _ zd_T_forgetTiming_5 ht.symm
set_option maxHeartbeats 4000000 in
set_option maxRecDepth 100000 in
theorem c_T_backOff (l : Launch) (w : zWd) (σ : zSt) : zMv l ({ cls := "SluiceStream$Timer", name := "backOff", desc := "()V" } : Jvm.MethodName) prog_6_method_6_code 1 1 21 w [.ref (zq w 5)] σ (fun u => u = (f_T_backOff σ)) := by
  refine zMv_of (by decide +kernel) (Nat.le_of_ble_eq_true rfl) ?_
  intro K O hl0 E
  have ht : (f_T_backOff σ) = (f_T_backOff σ) := rfl
  refine z_sub (lv' := [(0, .ref (zq w 5))]) [0] rfl ?_
  refine z_aload_n O zd_T_backOff_0 rfl 0 rfl ?_
  refine z_bipush O (v := 64) zd_T_backOff_1 (by decide) ?_
  refine z_iconst O (v := 2) zd_T_backOff_3 (by decide) ?_
  refine z_aload_n O zd_T_backOff_4 rfl 0 rfl ?_
  refine zg_T_15_5 O zd_T_backOff_5 (v := .int (σ 5 1)) rfl ?_
  refine z_imul O zd_T_backOff_8 ?_
  refine z_min O zm375 zm376 zm13 zm377 (Nat.le_of_ble_eq_true rfl) (Nat.le_of_ble_eq_true rfl) zd_T_backOff_9 ?_
  refine zp_T_15_5 O zd_T_backOff_12 ?_
  refine z_aload_n O zd_T_backOff_15 rfl 0 rfl ?_
  refine z_callv O hl0 (st := []) 5 4 (fs := zo5 w (zuf σ 5 1 (if (2 * (σ 5 1)) < 64 then (2 * (σ 5 1)) else 64))) rfl rfl (c_T_forgetTiming l w (zuf σ 5 1 (if (2 * (σ 5 1)) < 64 then (2 * (σ 5 1)) else 64))) zl_T_46 zm379 zm380 rfl rfl (Nat.le_of_ble_eq_true rfl) (Nat.le_of_ble_eq_true rfl) (Nat.le_of_ble_eq_true rfl) zd_T_backOff_16 (fun u1 e2 => ?_)
  have ht := ht.trans (zlet_e e2)
  refine z_aload_n O zd_T_backOff_19 rfl 0 rfl ?_
  refine z_callv O hl0 (st := []) 5 4 (fs := zo5 w u1) rfl rfl (c_T_stop l w u1) zl_T_49 zm383 zm384 rfl rfl (Nat.le_of_ble_eq_true rfl) (Nat.le_of_ble_eq_true rfl) (Nat.le_of_ble_eq_true rfl) zd_T_backOff_20 (fun u3 e4 => ?_)
  have ht := ht.trans (zlet_e e4)
  exact E _ _ _ zd_T_backOff_23 ht.symm
set_option maxHeartbeats 4000000 in
set_option maxRecDepth 100000 in
theorem c_T_timeSegment (l : Launch) (w : zWd) (σ : zSt) (a1 : Int32) : zMv l ({ cls := "SluiceStream$Timer", name := "timeSegment", desc := "(I)V" } : Jvm.MethodName) prog_6_method_7_code 2 0 0 w [.ref (zq w 5), .int a1] σ (fun u => u = (f_T_timeSegment σ a1)) := by
  refine zMv_of (by decide +kernel) (Nat.le_of_ble_eq_true rfl) ?_
  intro K O hl0 E
  have ht : (f_T_timeSegment σ a1) = (f_T_timeSegment σ a1) := rfl
  refine z_sub (lv' := [(0, .ref (zq w 5)), (1, .int a1)]) [0, 1] rfl ?_
  refine z_aload_n O zd_T_timeSegment_0 rfl 0 rfl ?_
  refine zg_T_21_5 O zd_T_timeSegment_1 (v := .int (σ 5 3)) rfl ?_
  refine z_iconst O (v := (-1)) zd_T_timeSegment_4 (by decide) ?_
  refine z_icmp_ne O (tgt := 21) zd_T_timeSegment_5 (by decide) (fun c1 => ?_) (fun c1 => ?_)
  · have ht := ht.trans (if_neg c1)
    exact E _ _ _ zd_T_timeSegment_21 ht.symm
  · have ht := ht.trans (if_pos c1)
    refine z_aload_n O zd_T_timeSegment_8 rfl 0 rfl ?_
    refine z_iload_n O zd_T_timeSegment_9 rfl 1 rfl ?_
    refine zp_T_21_5 O zd_T_timeSegment_10 ?_
    refine z_aload_n O zd_T_timeSegment_13 rfl 0 rfl ?_
    refine z_aload_n O zd_T_timeSegment_14 rfl 0 rfl ?_
    refine zg_T_9_5 O zd_T_timeSegment_15 (v := .int (σ 5 0)) rfl ?_
    refine zp_T_30_5 O zd_T_timeSegment_18 ?_
    exact E _ _ _ zd_T_timeSegment_21 ht.symm
set_option maxHeartbeats 4000000 in
set_option maxRecDepth 100000 in
theorem c_T_takeSample (l : Launch) (w : zWd) (σ : zSt) (a1 : Int32) : zMv l ({ cls := "SluiceStream$Timer", name := "takeSample", desc := "(I)V" } : Jvm.MethodName) prog_6_method_10_code 3 1 21 w [.ref (zq w 5), .int a1] σ (fun u => u = (f_T_takeSample σ a1)) := by
  refine zMv_of (by decide +kernel) (Nat.le_of_ble_eq_true rfl) ?_
  intro K O hl0 E
  have ht : (f_T_takeSample σ a1) = (f_T_takeSample σ a1) := rfl
  refine z_sub (lv' := [(0, .ref (zq w 5)), (1, .int a1)]) [0, 1] rfl ?_
  refine z_aload_n O zd_T_takeSample_0 rfl 0 rfl ?_
  refine zg_T_33_5 O zd_T_takeSample_1 (v := .int (σ 5 7)) rfl ?_
  refine z_if_eq O (tgt := 50) zd_T_takeSample_4 (by decide) (fun c1 => ?_) (fun c1 => ?_)
  · have ht := ht.trans (if_pos c1)
    refine z_aload_n O zd_T_takeSample_50 rfl 0 rfl ?_
    refine z_bipush O (v := 8) zd_T_takeSample_51 (by decide) ?_
    refine z_iload_n O zd_T_takeSample_53 rfl 1 rfl ?_
    refine z_imul O zd_T_takeSample_54 ?_
    refine zp_T_24_5 O zd_T_takeSample_55 ?_
    refine z_aload_n O zd_T_takeSample_58 rfl 0 rfl ?_
    refine z_iconst O (v := 2) zd_T_takeSample_59 (by decide) ?_
    refine z_iload_n O zd_T_takeSample_60 rfl 1 rfl ?_
    refine z_imul O zd_T_takeSample_61 ?_
    refine zp_T_27_5 O zd_T_takeSample_62 ?_
    refine z_aload_n O zd_T_takeSample_65 rfl 0 rfl ?_
    refine z_iconst O (v := 1) zd_T_takeSample_66 (by decide) ?_
    refine zp_T_33_5 O zd_T_takeSample_67 rfl rfl ?_
    refine z_aload_n O zd_T_takeSample_70 rfl 0 rfl ?_
    refine zg_T_24_5 O zd_T_takeSample_71 (v := .int (8 * a1)) rfl ?_
    refine z_bipush O (v := 8) zd_T_takeSample_74 (by decide) ?_
    refine z_idiv O zd_T_takeSample_76 (by decide) ?_
    refine z_aload_n O zd_T_takeSample_77 rfl 0 rfl ?_
    refine zg_T_27_5 O zd_T_takeSample_78 (v := .int (2 * a1)) rfl ?_
    refine z_iconst O (v := 1) zd_T_takeSample_81 (by decide) ?_
    refine z_max O zm652 zm340 zm13 zm341 (Nat.le_of_ble_eq_true rfl) (Nat.le_of_ble_eq_true rfl) zd_T_takeSample_82 ?_
    refine z_iadd O zd_T_takeSample_85 ?_
    refine z_istore_n O (lv' := [(2, .int (((8 * a1) / 8) + (if (2 * a1) < 1 then 1 else (2 * a1)))), (0, .ref (zq w 5)), (1, .int a1)]) zd_T_takeSample_86 rfl (Nat.le_of_ble_eq_true rfl) rfl ?_
    refine z_aload_n O zd_T_takeSample_87 rfl 1 rfl ?_
    refine z_bipush O (v := 64) zd_T_takeSample_88 (by decide) ?_
    refine z_iconst O (v := 2) zd_T_takeSample_90 (by decide) ?_
    refine z_iload_n O zd_T_takeSample_91 rfl 0 rfl ?_
    refine z_max O zm652 zm340 zm13 zm341 (Nat.le_of_ble_eq_true rfl) (Nat.le_of_ble_eq_true rfl) zd_T_takeSample_92 ?_
    refine z_min O zm375 zm376 zm13 zm377 (Nat.le_of_ble_eq_true rfl) (Nat.le_of_ble_eq_true rfl) zd_T_takeSample_95 ?_
    refine zp_T_15_5 O zd_T_takeSample_98 ?_
    exact E _ _ _ zd_T_takeSample_101 ht.symm
  · have ht := ht.trans (if_neg c1)
    refine z_iload_n O zd_T_takeSample_7 rfl 1 rfl ?_
    refine z_aload_n O zd_T_takeSample_8 rfl 0 rfl ?_
    refine zg_T_24_5 O zd_T_takeSample_9 (v := .int (σ 5 4)) rfl ?_
    refine z_bipush O (v := 8) zd_T_takeSample_12 (by decide) ?_
    refine z_idiv O zd_T_takeSample_14 (by decide) ?_
    refine z_isub O zd_T_takeSample_15 ?_
    refine z_istore_n O (lv' := [(2, .int (a1 - ((σ 5 4) / 8))), (0, .ref (zq w 5)), (1, .int a1)]) zd_T_takeSample_16 rfl (Nat.le_of_ble_eq_true rfl) rfl ?_
    refine z_aload_n O zd_T_takeSample_17 rfl 1 rfl ?_
    refine z_dup O zd_T_takeSample_18 rfl ?_
    refine zg_T_24_5 O zd_T_takeSample_19 (v := .int (σ 5 4)) rfl ?_
    refine z_iload_n O zd_T_takeSample_22 rfl 0 rfl ?_
    refine z_iadd O zd_T_takeSample_23 ?_
    refine zp_T_24_5 O zd_T_takeSample_24 ?_
    refine z_aload_n O zd_T_takeSample_27 rfl 1 rfl ?_
    refine z_dup O zd_T_takeSample_28 rfl ?_
    refine zg_T_27_5 O zd_T_takeSample_29 (v := .int (σ 5 5)) rfl ?_
    refine z_iload_n O zd_T_takeSample_32 rfl 0 rfl ?_
    refine z_abs O zm649 zm650 zm13 zm651 (Nat.le_of_ble_eq_true rfl) (Nat.le_of_ble_eq_true rfl) zd_T_takeSample_33 ?_
    refine z_aload_n O zd_T_takeSample_36 rfl 1 rfl ?_
    refine zg_T_27_5 O zd_T_takeSample_37 (v := .int (σ 5 5)) rfl ?_
    refine z_iconst O (v := 4) zd_T_takeSample_40 (by decide) ?_
    refine z_idiv O zd_T_takeSample_41 (by decide) ?_
    refine z_isub O zd_T_takeSample_42 ?_
    refine z_iadd O zd_T_takeSample_43 ?_
    refine zp_T_27_5 O zd_T_takeSample_44 ?_
    refine z_goto O (tgt := 70) zd_T_takeSample_47 (by decide) ?_
    refine z_aload_n O zd_T_takeSample_70 rfl 1 rfl ?_
    refine zg_T_24_5 O zd_T_takeSample_71 (v := .int ((σ 5 4) + (a1 - ((σ 5 4) / 8)))) rfl ?_
    refine z_bipush O (v := 8) zd_T_takeSample_74 (by decide) ?_
    refine z_idiv O zd_T_takeSample_76 (by decide) ?_
    refine z_aload_n O zd_T_takeSample_77 rfl 1 rfl ?_
    refine zg_T_27_5 O zd_T_takeSample_78 (v := .int ((σ 5 5) + ((if 0 ≤ (a1 - ((σ 5 4) / 8)) then (a1 - ((σ 5 4) / 8)) else 0 - (a1 - ((σ 5 4) / 8))) - ((σ 5 5) / 4)))) rfl ?_
    refine z_iconst O (v := 1) zd_T_takeSample_81 (by decide) ?_
    refine z_max O zm652 zm340 zm13 zm341 (Nat.le_of_ble_eq_true rfl) (Nat.le_of_ble_eq_true rfl) zd_T_takeSample_82 ?_
    refine z_iadd O zd_T_takeSample_85 ?_
    refine z_istore_n O (lv' := [(2, .int ((((σ 5 4) + (a1 - ((σ 5 4) / 8))) / 8) + (if ((σ 5 5) + ((if 0 ≤ (a1 - ((σ 5 4) / 8)) then (a1 - ((σ 5 4) / 8)) else 0 - (a1 - ((σ 5 4) / 8))) - ((σ 5 5) / 4))) < 1 then 1 else ((σ 5 5) + ((if 0 ≤ (a1 - ((σ 5 4) / 8)) then (a1 - ((σ 5 4) / 8)) else 0 - (a1 - ((σ 5 4) / 8))) - ((σ 5 5) / 4)))))), (0, .ref (zq w 5)), (1, .int a1)]) zd_T_takeSample_86 rfl (Nat.le_of_ble_eq_true rfl) rfl ?_
    refine z_aload_n O zd_T_takeSample_87 rfl 1 rfl ?_
    refine z_bipush O (v := 64) zd_T_takeSample_88 (by decide) ?_
    refine z_iconst O (v := 2) zd_T_takeSample_90 (by decide) ?_
    refine z_iload_n O zd_T_takeSample_91 rfl 0 rfl ?_
    refine z_max O zm652 zm340 zm13 zm341 (Nat.le_of_ble_eq_true rfl) (Nat.le_of_ble_eq_true rfl) zd_T_takeSample_92 ?_
    refine z_min O zm375 zm376 zm13 zm377 (Nat.le_of_ble_eq_true rfl) (Nat.le_of_ble_eq_true rfl) zd_T_takeSample_95 ?_
    refine zp_T_15_5 O zd_T_takeSample_98 ?_
    exact E _ _ _ zd_T_takeSample_101 ht.symm
set_option maxHeartbeats 4000000 in
set_option maxRecDepth 100000 in
theorem c_T_endTiming (l : Launch) (w : zWd) (σ : zSt) (a1 : Int32) : zMv l ({ cls := "SluiceStream$Timer", name := "endTiming", desc := "(I)V" } : Jvm.MethodName) prog_6_method_9_code 2 2 43 w [.ref (zq w 5), .int a1] σ (fun u => u = (f_T_endTiming σ a1)) := by
  refine zMv_of (by decide +kernel) (Nat.le_of_ble_eq_true rfl) ?_
  intro K O hl0 E
  have ht : (f_T_endTiming σ a1) = (f_T_endTiming σ a1) := rfl
  refine z_sub (lv' := [(0, .ref (zq w 5)), (1, .int a1)]) [0, 1] rfl ?_
  refine z_aload_n O zd_T_endTiming_0 rfl 0 rfl ?_
  refine zg_T_21_5 O zd_T_endTiming_1 (v := .int (σ 5 3)) rfl ?_
  refine z_iconst O (v := (-1)) zd_T_endTiming_4 (by decide) ?_
  refine z_icmp_eq O (tgt := 33) zd_T_endTiming_5 (by decide) (fun c1 => ?_) (fun c1 => ?_)
  · have ht := ht.trans (if_pos c1)
    exact E _ _ _ zd_T_endTiming_33 ht.symm
  · have ht := ht.trans (if_neg c1)
    refine z_iload_n O zd_T_endTiming_8 rfl 1 rfl ?_
    refine z_aload_n O zd_T_endTiming_9 rfl 0 rfl ?_
    refine zg_T_21_5 O zd_T_endTiming_10 (v := .int (σ 5 3)) rfl ?_
    refine z_icmp_lt O (tgt := 33) zd_T_endTiming_13 (by decide) (fun c2 => ?_) (fun c2 => ?_)
    · have ht := ht.trans (if_pos c2)
      exact E _ _ _ zd_T_endTiming_33 ht.symm
    · have ht := ht.trans (if_neg c2)
      refine z_aload_n O zd_T_endTiming_16 rfl 0 rfl ?_
      refine z_aload_n O zd_T_endTiming_17 rfl 0 rfl ?_
      refine zg_T_9_5 O zd_T_endTiming_18 (v := .int (σ 5 0)) rfl ?_
      refine z_aload_n O zd_T_endTiming_21 rfl 0 rfl ?_
      refine zg_T_30_5 O zd_T_endTiming_22 (v := .int (σ 5 6)) rfl ?_
      refine z_isub O zd_T_endTiming_25 ?_
      refine z_callv O hl0 (st := []) 5 4 (fs := zo5 w σ) rfl rfl (c_T_takeSample l w σ ((σ 5 0) - (σ 5 6))) zl_T_52 zm647 zms11 rfl rfl (Nat.le_of_ble_eq_true rfl) (Nat.le_of_ble_eq_true rfl) (Nat.le_of_ble_eq_true rfl) zd_T_endTiming_26 (fun u3 e4 => ?_)
      have ht := ht.trans (zlet_e e4)
      refine z_aload_n O zd_T_endTiming_29 rfl 0 rfl ?_
      refine z_callv O hl0 (st := []) 5 4 (fs := zo5 w u3) rfl rfl (c_T_forgetTiming l w u3) zl_T_46 zm379 zm380 rfl rfl (Nat.le_of_ble_eq_true rfl) (Nat.le_of_ble_eq_true rfl) (Nat.le_of_ble_eq_true rfl) zd_T_endTiming_30 (fun u5 e6 => ?_)
      have ht := ht.trans (zlet_e e6)
      exact E _ _ _ zd_T_endTiming_33 ht.symm
set_option maxHeartbeats 4000000 in
set_option maxRecDepth 100000 in
theorem c_R_room (l : Launch) (w : zWd) (σ : zSt) : zMi l ({ cls := "SluiceStream$Receiver", name := "room", desc := "()I" } : Jvm.MethodName) prog_3_method_2_code 1 0 0 .int w [.ref (zq w 6)] σ (fun r u => r = (f_R_room σ) ∧ u = σ) := by
  refine zMi_of (by decide +kernel) (Nat.le_of_ble_eq_true rfl) ?_
  intro K O hl0 E
  have ht : (f_R_room σ) = (f_R_room σ) := rfl
  refine z_sub (lv' := [(0, .ref (zq w 6))]) [0] rfl ?_
  refine z_aload_n O zd_R_room_0 rfl 0 rfl ?_
  refine zg_R_25_6 O zd_R_room_1 (v := .int (σ 6 3)) rfl ?_
  refine z_bipush O (v := 32) zd_R_room_4 (by decide) ?_
  refine z_iadd O zd_R_room_6 ?_
  refine z_aload_n O zd_R_room_7 rfl 0 rfl ?_
  refine zg_R_22_6 O zd_R_room_8 (v := .int (σ 6 2)) rfl ?_
  refine z_isub O zd_R_room_11 ?_
  exact E _ _ _ _ zd_R_room_12 rfl ⟨ht.symm, rfl⟩
set_option maxHeartbeats 4000000 in
set_option maxRecDepth 100000 in
theorem c_R_takeBytes (l : Launch) (w : zWd) (σ : zSt) (a1 : Int32) (a2 : Int32) (ko : k_R_takeBytes σ a1 a2) : zMi l ({ cls := "SluiceStream$Receiver", name := "takeBytes", desc := "(II)I" } : Jvm.MethodName) prog_3_method_3_code 4 2 46 .int w [.ref (zq w 6), .int a1, .int a2] σ (fun r u => (r, u) = (f_R_takeBytes σ a1 a2)) := by
  refine zMi_of (by decide +kernel) (Nat.le_of_ble_eq_true rfl) ?_
  intro K O hl0 E
  have ht : (f_R_takeBytes σ a1 a2) = (f_R_takeBytes σ a1 a2) := rfl
  refine z_sub (lv' := [(0, .ref (zq w 6)), (1, .int a1), (2, .int a2)]) [0, 1, 2] rfl ?_
  refine z_aload_n O zd_R_takeBytes_0 rfl 0 rfl ?_
  refine z_dup O zd_R_takeBytes_1 rfl ?_
  refine zg_R_18_6 O zd_R_takeBytes_2 (v := .int (σ 6 1)) rfl ?_
  refine z_iconst O (v := 1) zd_R_takeBytes_5 (by decide) ?_
  refine z_iadd O zd_R_takeBytes_6 ?_
  refine zp_R_18_6 O zd_R_takeBytes_7 ?_
  refine z_aload_n O zd_R_takeBytes_10 rfl 0 rfl ?_
  refine zg_R_12_6 O zd_R_takeBytes_11 (v := .ref (zq w 7)) rfl ?_
  refine z_iload_n O zd_R_takeBytes_14 rfl 1 rfl ?_
  refine z_iload_n O zd_R_takeBytes_15 rfl 2 rfl ?_
  refine z_aload_n O zd_R_takeBytes_16 rfl 0 rfl ?_
  refine zg_R_25_6 O zd_R_takeBytes_17 (v := .int (σ 6 3)) rfl ?_
  refine z_bipush O (v := 32) zd_R_takeBytes_20 (by decide) ?_
  refine z_iadd O zd_R_takeBytes_22 ?_
  refine z_min O zm418 zm376 zm13 zm377 (Nat.le_of_ble_eq_true rfl) (Nat.le_of_ble_eq_true rfl) zd_R_takeBytes_23 ?_
  refine z_aload_n O zd_R_takeBytes_26 rfl 0 rfl ?_
  refine zg_R_18_6 O zd_R_takeBytes_27 (v := .int ((σ 6 1) + 1)) rfl ?_
  refine z_calli O hl0 (st := []) 7 0 (fs := zo7 w (zuf σ 6 1 ((σ 6 1) + 1))) rfl rfl (c_P_fillEmpty_7 l w (zuf σ 6 1 ((σ 6 1) + 1)) a1 (if ((σ 6 3) + 32) < a2 then ((σ 6 3) + 32) else a2) ((σ 6 1) + 1) ko.1) zl_R_34 zm420 zm421 rfl rfl (Nat.le_of_ble_eq_true rfl) (Nat.le_of_ble_eq_true rfl) (Nat.le_of_ble_eq_true rfl) zd_R_takeBytes_30 (fun r1 u2 e3 => ?_)
  have ht := ht.trans (zseq_e e3)
  have ko := ko.2 r1 u2 e3
  refine z_istore_n O (lv' := [(3, .int r1), (0, .ref (zq w 6)), (1, .int a1), (2, .int a2)]) zd_R_takeBytes_33 rfl (Nat.le_of_ble_eq_true rfl) rfl ?_
  refine z_aload_n O zd_R_takeBytes_34 rfl 1 rfl ?_
  refine z_aload_n O zd_R_takeBytes_35 rfl 1 rfl ?_
  refine zg_R_12_6 O zd_R_takeBytes_36 (v := .ref (zq w 7)) rfl ?_
  refine z_aload_n O zd_R_takeBytes_39 rfl 1 rfl ?_
  refine zg_R_22_6 O zd_R_takeBytes_40 (v := .int (u2 6 2)) rfl ?_
  refine z_sipush O (v := 600) zd_R_takeBytes_43 (by decide) ?_
  refine z_callri O hl0 (st := [.ref (zq w 6)]) 7 0 (fs := zo7 w u2) rfl rfl (c_P_firstEmpty_7 l w u2 (u2 6 2) 600 ko) zl_R_38 zm332 zm333 rfl rfl (Nat.le_of_ble_eq_true rfl) (Nat.le_of_ble_eq_true rfl) (Nat.le_of_ble_eq_true rfl) zd_R_takeBytes_46 (fun r4 e5 => ?_)
  have ht := ht.trans (zlet_e e5)
  refine zp_R_22_6 O zd_R_takeBytes_49 ?_
  refine z_iload_n O zd_R_takeBytes_52 rfl 0 rfl ?_
  exact E _ _ _ _ zd_R_takeBytes_53 rfl ht.symm
set_option maxHeartbeats 4000000 in
set_option maxRecDepth 100000 in
theorem c_R_passByte (l : Launch) (w : zWd) (σ : zSt) : zMi l ({ cls := "SluiceStream$Receiver", name := "passByte", desc := "()Z" } : Jvm.MethodName) prog_3_method_4_code 2 1 20 .boolean w [.ref (zq w 6)] σ (fun r u => (r, u) = (f_R_passByte σ)) := by
  refine zMi_of (by decide +kernel) (Nat.le_of_ble_eq_true rfl) ?_
  intro K O hl0 E
  have ht : (f_R_passByte σ) = (f_R_passByte σ) := rfl
  refine z_sub (lv' := [(0, .ref (zq w 6))]) [0] rfl ?_
  refine z_aload_n O zd_R_passByte_0 rfl 0 rfl ?_
  refine z_callri O hl0 (st := []) 6 1 (fs := zo6 w σ) rfl rfl (c_R_room l w σ) zl_R_41 zm280 zm281 rfl rfl (Nat.le_of_ble_eq_true rfl) (Nat.le_of_ble_eq_true rfl) (Nat.le_of_ble_eq_true rfl) zd_R_passByte_1 (fun r1 e2 => ?_)
  have ht := ht.trans (zlet_e e2)
  refine z_istore_n O (lv' := [(1, .int r1), (0, .ref (zq w 6))]) zd_R_passByte_4 rfl (Nat.le_of_ble_eq_true rfl) rfl ?_
  refine z_aload_n O zd_R_passByte_5 rfl 1 rfl ?_
  refine z_dup O zd_R_passByte_6 rfl ?_
  refine zg_R_25_6 O zd_R_passByte_7 (v := .int (σ 6 3)) rfl ?_
  refine z_iconst O (v := 1) zd_R_passByte_10 (by decide) ?_
  refine z_iadd O zd_R_passByte_11 ?_
  refine zp_R_25_6 O zd_R_passByte_12 ?_
  refine z_iload_n O zd_R_passByte_15 rfl 0 rfl ?_
  refine z_iconst O (v := 4) zd_R_passByte_16 (by decide) ?_
  refine z_icmp_ge O (tgt := 32) zd_R_passByte_17 (by decide) (fun c3 => ?_) (fun c3 => ?_)
  · have ht := ht.trans (if_pos c3)
    refine z_iconst O (v := 0) zd_R_passByte_32 (by decide) ?_
    exact E _ _ _ _ zd_R_passByte_33 rfl ht.symm
  · have ht := ht.trans (if_neg c3)
    refine z_aload_n O zd_R_passByte_20 rfl 1 rfl ?_
    refine z_callri O hl0 (st := []) 6 1 (fs := zo6 w (zuf σ 6 3 ((σ 6 3) + 1))) rfl rfl (c_R_room l w (zuf σ 6 3 ((σ 6 3) + 1))) zl_R_41 zm280 zm281 rfl rfl (Nat.le_of_ble_eq_true rfl) (Nat.le_of_ble_eq_true rfl) (Nat.le_of_ble_eq_true rfl) zd_R_passByte_21 (fun r4 e5 => ?_)
    have ht := ht.trans (zlet_e e5)
    refine z_iconst O (v := 4) zd_R_passByte_24 (by decide) ?_
    refine z_icmp_lt O (tgt := 32) zd_R_passByte_25 (by decide) (fun c6 => ?_) (fun c6 => ?_)
    · have ht := ht.trans (if_pos c6)
      refine z_iconst O (v := 0) zd_R_passByte_32 (by decide) ?_
      exact E _ _ _ _ zd_R_passByte_33 rfl ht.symm
    · have ht := ht.trans (if_neg c6)
      refine z_iconst O (v := 1) zd_R_passByte_28 (by decide) ?_
      refine z_goto O (tgt := 33) zd_R_passByte_29 (by decide) ?_
      exact E _ _ _ _ zd_R_passByte_33 rfl ht.symm
set_option maxHeartbeats 4000000 in
set_option maxRecDepth 100000 in
theorem c_R_blockFrom (l : Launch) (w : zWd) (σ : zSt) (a1 : Int32) (ko : k_R_blockFrom σ a1) : zMi l ({ cls := "SluiceStream$Receiver", name := "blockFrom", desc := "(I)I" } : Jvm.MethodName) prog_3_method_11_code 4 2 44 .int w [.ref (zq w 6), .int a1] σ (fun r u => r = (f_R_blockFrom σ a1) ∧ u = σ) := by
  refine zMi_of (by decide +kernel) (Nat.le_of_ble_eq_true rfl) ?_
  intro K O hl0 E
  have ht : (f_R_blockFrom σ a1) = (f_R_blockFrom σ a1) := rfl
  refine z_sub (lv' := [(0, .ref (zq w 6)), (1, .int a1)]) [0, 1] rfl ?_
  refine z_aload_n O zd_R_blockFrom_0 rfl 0 rfl ?_
  refine zg_R_25_6 O zd_R_blockFrom_1 (v := .int (σ 6 3)) rfl ?_
  refine z_bipush O (v := 32) zd_R_blockFrom_4 (by decide) ?_
  refine z_iadd O zd_R_blockFrom_6 ?_
  refine z_istore_n O (lv' := [(2, .int ((σ 6 3) + 32)), (0, .ref (zq w 6)), (1, .int a1)]) zd_R_blockFrom_7 rfl (Nat.le_of_ble_eq_true rfl) rfl ?_
  refine z_aload_n O zd_R_blockFrom_8 rfl 1 rfl ?_
  refine zg_R_12_6 O zd_R_blockFrom_9 (v := .ref (zq w 7)) rfl ?_
  refine z_iload_n O zd_R_blockFrom_12 rfl 2 rfl ?_
  refine z_iload_n O zd_R_blockFrom_13 rfl 0 rfl ?_
  refine z_callri O hl0 (st := []) 7 0 (fs := zo7 w σ) rfl rfl (c_P_firstFilled_7 l w σ a1 ((σ 6 3) + 32) ko) zl_R_79 zm320 zm321 rfl rfl (Nat.le_of_ble_eq_true rfl) (Nat.le_of_ble_eq_true rfl) (Nat.le_of_ble_eq_true rfl) zd_R_blockFrom_14 (fun r1 e2 => ?_)
  have ht := ht.trans (zlet_e e2)
  refine z_istore_n O (lv' := [(3, .int r1), (2, .int ((σ 6 3) + 32)), (0, .ref (zq w 6)), (1, .int a1)]) zd_R_blockFrom_17 rfl (Nat.le_of_ble_eq_true rfl) rfl ?_
  refine z_iload_n O zd_R_blockFrom_18 rfl 0 rfl ?_
  refine z_iload_n O zd_R_blockFrom_19 rfl 1 rfl ?_
  refine z_icmp_ge O (tgt := 27) zd_R_blockFrom_20 (by decide) (fun c3 => ?_) (fun c3 => ?_)
  · have ht := ht.trans (if_pos c3)
    refine z_iconst O (v := (-1)) zd_R_blockFrom_27 (by decide) ?_
    exact E _ _ _ _ zd_R_blockFrom_28 rfl ⟨ht.symm, rfl⟩
  · have ht := ht.trans (if_neg c3)
    refine z_iload_n O zd_R_blockFrom_23 rfl 0 rfl ?_
    refine z_goto O (tgt := 28) zd_R_blockFrom_24 (by decide) ?_
    exact E _ _ _ _ zd_R_blockFrom_28 rfl ⟨ht.symm, rfl⟩
set_option maxHeartbeats 4000000 in
set_option maxRecDepth 100000 in
theorem c_R_endOfRun (l : Launch) (w : zWd) (σ : zSt) (a1 : Int32) (ko : k_R_endOfRun σ a1) : zMi l ({ cls := "SluiceStream$Receiver", name := "endOfRun", desc := "(I)I" } : Jvm.MethodName) prog_3_method_10_code 2 2 44 .int w [.ref (zq w 6), .int a1] σ (fun r u => r = (f_R_endOfRun σ a1) ∧ u = σ) := by
  refine zMi_of (by decide +kernel) (Nat.le_of_ble_eq_true rfl) ?_
  intro K O hl0 E
  have ht : (f_R_endOfRun σ a1) = (f_R_endOfRun σ a1) := rfl
  refine z_sub (lv' := [(0, .ref (zq w 6)), (1, .int a1)]) [0, 1] rfl ?_
  refine z_aload_n O zd_R_endOfRun_0 rfl 0 rfl ?_
  refine zg_R_12_6 O zd_R_endOfRun_1 (v := .ref (zq w 7)) rfl ?_
  refine z_iload_n O zd_R_endOfRun_4 rfl 1 rfl ?_
  refine z_sipush O (v := 600) zd_R_endOfRun_5 (by decide) ?_
  refine z_callri O hl0 (st := []) 7 0 (fs := zo7 w σ) rfl rfl (c_P_firstEmpty_7 l w σ a1 600 ko) zl_R_38 zm332 zm333 rfl rfl (Nat.le_of_ble_eq_true rfl) (Nat.le_of_ble_eq_true rfl) (Nat.le_of_ble_eq_true rfl) zd_R_endOfRun_8 (fun r1 e2 => ?_)
  have ht := ht.trans (zlet_e e2)
  exact E _ _ _ _ zd_R_endOfRun_11 rfl ⟨ht.symm, rfl⟩
set_option maxHeartbeats 4000000 in
set_option maxRecDepth 100000 in
theorem L_R_newestBlockBefore_17 {K : zCx} {w : zWd} {l : Launch} (O : zOk K w prog_3_method_7_code "SluiceStream$Receiver" 8 3 67) (hl0 : kl K = l) (σ : zSt) (x1 : Int32) : ∀ (m : Nat) (x2 x3 x4 x5 : Int32), kl_R_newestBlockBefore_17 σ x1 m x2 x3 x4 x5 → (∀ r, r = (l_R_newestBlockBefore_17 σ x1 m x2 x3 x4 x5) → Z K w σ [(3, .int r)] [] 83) → Z K w σ [(0, .ref (zq w 6)), (1, .int x1), (2, .int x2), (3, .int x3), (4, .int x4), (5, .int x5)] [] 17 := by
  intro m
  induction m with
  | zero => intro x2 x3 x4 x5 ko; exact ko.elim
  | succ m ih =>
    intro x2 x3 x4 x5 ko kk
    have ht : l_R_newestBlockBefore_17 σ x1 (m + 1) x2 x3 x4 x5 = l_R_newestBlockBefore_17 σ x1 (m + 1) x2 x3 x4 x5 := rfl
    refine z_iload O zd_R_newestBlockBefore_17 5 rfl ?_
    refine z_bipush O (v := 32) zd_R_newestBlockBefore_19 (by decide) ?_
    refine z_icmp_ge O (tgt := 83) zd_R_newestBlockBefore_21 (by decide) (fun c3 => ?_) (fun c3 => ?_)
    · have ht := ht.trans (if_pos c3)
      refine z_sub (lv' := [(3, .int x3)]) [3] rfl ?_
      exact kk x3 ht.symm
    · have ht := ht.trans (if_neg c3)
      have ko := ko c3
      refine z_iload O zd_R_newestBlockBefore_24 4 rfl ?_
      refine z_iconst O (v := (-1)) zd_R_newestBlockBefore_26 (by decide) ?_
      refine z_icmp_eq O (tgt := 83) zd_R_newestBlockBefore_27 (by decide) (fun c4 => ?_) (fun c4 => ?_)
      · have ht := ht.trans (if_pos c4)
        refine z_sub (lv' := [(3, .int x3)]) [3] rfl ?_
        exact kk x3 ht.symm
      · have ht := ht.trans (if_neg c4)
        have ko := ko c4
        refine z_aload_n O zd_R_newestBlockBefore_30 rfl 0 rfl ?_
        refine z_iload O zd_R_newestBlockBefore_31 4 rfl ?_
        refine z_callri O hl0 (st := []) 6 1 (fs := zo6 w σ) rfl rfl (c_R_endOfRun l w σ x4 ko.1) zl_R_70 zm328 zm329 rfl rfl (Nat.le_of_ble_eq_true rfl) (Nat.le_of_ble_eq_true rfl) (Nat.le_of_ble_eq_true rfl) zd_R_newestBlockBefore_33 (fun r5 e6 => ?_)
        have ht := ht.trans (zlet_e e6)
        have ko := ko.2 r5 e6
        refine z_istore O (lv' := [(6, .int r5), (0, .ref (zq w 6)), (1, .int x1), (2, .int x2), (3, .int x3), (4, .int x4), (5, .int x5)]) zd_R_newestBlockBefore_36 (Nat.le_of_ble_eq_true rfl) rfl ?_
        refine z_aload_n O zd_R_newestBlockBefore_38 rfl 1 rfl ?_
        refine zg_R_12_6 O zd_R_newestBlockBefore_39 (v := .ref (zq w 7)) rfl ?_
        refine z_iload O zd_R_newestBlockBefore_42 5 rfl ?_
        refine z_iload O zd_R_newestBlockBefore_44 0 rfl ?_
        refine z_callri O hl0 (st := []) 7 0 (fs := zo7 w σ) rfl rfl (c_P_greatest_7 l w σ x4 r5 ko.1) zl_R_73 zm336 zm337 rfl rfl (Nat.le_of_ble_eq_true rfl) (Nat.le_of_ble_eq_true rfl) (Nat.le_of_ble_eq_true rfl) zd_R_newestBlockBefore_46 (fun r7 e8 => ?_)
        have ht := ht.trans (zlet_e e8)
        have ko := ko.2 r7 e8
        refine z_istore O (lv' := [(7, .int r7), (6, .int r5), (0, .ref (zq w 6)), (1, .int x1), (2, .int x2), (3, .int x3), (4, .int x4), (5, .int x5)]) zd_R_newestBlockBefore_49 (Nat.le_of_ble_eq_true rfl) rfl ?_
        refine z_iload O zd_R_newestBlockBefore_51 0 rfl ?_
        refine z_iload_n O zd_R_newestBlockBefore_53 rfl 4 rfl ?_
        refine z_icmp_le O (tgt := 69) zd_R_newestBlockBefore_54 (by decide) (fun c9 => ?_) (fun c9 => ?_)
        · have ht := ht.trans (if_pos c9)
          have ko := ko.1 c9
          refine z_aload_n O zd_R_newestBlockBefore_69 rfl 2 rfl ?_
          refine z_iload O zd_R_newestBlockBefore_70 1 rfl ?_
          refine z_callri O hl0 (st := []) 6 1 (fs := zo6 w σ) rfl rfl (c_R_blockFrom l w σ r5 ko.1) zl_R_76 zm317 zms3 rfl rfl (Nat.le_of_ble_eq_true rfl) (Nat.le_of_ble_eq_true rfl) (Nat.le_of_ble_eq_true rfl) zd_R_newestBlockBefore_72 (fun r10 e11 => ?_)
          have ht := ht.trans (zlet_e e11)
          have ko := ko.2 r10 e11
          refine z_istore O (lv' := [(4, .int r10), (7, .int r7), (6, .int r5), (0, .ref (zq w 6)), (1, .int x1), (2, .int x2), (3, .int x3), (5, .int x5)]) zd_R_newestBlockBefore_75 (Nat.le_of_ble_eq_true rfl) rfl ?_
          refine z_iinc O (v := (x5 + 1)) (lv' := [(5, .int (x5 + 1)), (4, .int r10), (7, .int r7), (6, .int r5), (0, .ref (zq w 6)), (1, .int x1), (2, .int x2), (3, .int x3)]) zd_R_newestBlockBefore_77 7 rfl rfl (Nat.le_of_ble_eq_true rfl) rfl ?_
          refine z_goto O (tgt := 17) zd_R_newestBlockBefore_80 (by decide) ?_
          refine z_sub (lv' := [(0, .ref (zq w 6)), (1, .int x1), (2, .int x2), (3, .int x3), (4, .int r10), (5, .int (x5 + 1))]) [4, 5, 6, 7, 1, 0] rfl ?_
          exact ih x2 x3 r10 (x5 + 1) ko (fun r e => kk r (e.trans ht.symm))
        · have ht := ht.trans (if_neg c9)
          have ko := ko.2 c9
          refine z_iload O zd_R_newestBlockBefore_57 0 rfl ?_
          refine z_iload_n O zd_R_newestBlockBefore_59 rfl 3 rfl ?_
          refine z_icmp_ge O (tgt := 69) zd_R_newestBlockBefore_60 (by decide) (fun c12 => ?_) (fun c12 => ?_)
          · have ht := ht.trans (if_pos c12)
            have ko := ko.1 c12
            refine z_aload_n O zd_R_newestBlockBefore_69 rfl 2 rfl ?_
            refine z_iload O zd_R_newestBlockBefore_70 1 rfl ?_
            refine z_callri O hl0 (st := []) 6 1 (fs := zo6 w σ) rfl rfl (c_R_blockFrom l w σ r5 ko.1) zl_R_76 zm317 zms3 rfl rfl (Nat.le_of_ble_eq_true rfl) (Nat.le_of_ble_eq_true rfl) (Nat.le_of_ble_eq_true rfl) zd_R_newestBlockBefore_72 (fun r13 e14 => ?_)
            have ht := ht.trans (zlet_e e14)
            have ko := ko.2 r13 e14
            refine z_istore O (lv' := [(4, .int r13), (7, .int r7), (6, .int r5), (0, .ref (zq w 6)), (1, .int x1), (2, .int x2), (3, .int x3), (5, .int x5)]) zd_R_newestBlockBefore_75 (Nat.le_of_ble_eq_true rfl) rfl ?_
            refine z_iinc O (v := (x5 + 1)) (lv' := [(5, .int (x5 + 1)), (4, .int r13), (7, .int r7), (6, .int r5), (0, .ref (zq w 6)), (1, .int x1), (2, .int x2), (3, .int x3)]) zd_R_newestBlockBefore_77 7 rfl rfl (Nat.le_of_ble_eq_true rfl) rfl ?_
            refine z_goto O (tgt := 17) zd_R_newestBlockBefore_80 (by decide) ?_
            refine z_sub (lv' := [(0, .ref (zq w 6)), (1, .int x1), (2, .int x2), (3, .int x3), (4, .int r13), (5, .int (x5 + 1))]) [4, 5, 6, 7, 1, 0] rfl ?_
            exact ih x2 x3 r13 (x5 + 1) ko (fun r e => kk r (e.trans ht.symm))
          · have ht := ht.trans (if_neg c12)
            have ko := ko.2 c12
            refine z_iload O zd_R_newestBlockBefore_63 0 rfl ?_
            refine z_istore_n O (lv' := [(2, .int r7), (7, .int r7), (6, .int r5), (0, .ref (zq w 6)), (1, .int x1), (3, .int x3), (4, .int x4), (5, .int x5)]) zd_R_newestBlockBefore_65 rfl (Nat.le_of_ble_eq_true rfl) rfl ?_
            refine z_iload O zd_R_newestBlockBefore_66 6 rfl ?_
            refine z_istore_n O (lv' := [(3, .int x4), (2, .int r7), (7, .int r7), (6, .int r5), (0, .ref (zq w 6)), (1, .int x1), (4, .int x4), (5, .int x5)]) zd_R_newestBlockBefore_68 rfl (Nat.le_of_ble_eq_true rfl) rfl ?_
            refine z_aload_n O zd_R_newestBlockBefore_69 rfl 4 rfl ?_
            refine z_iload O zd_R_newestBlockBefore_70 3 rfl ?_
            refine z_callri O hl0 (st := []) 6 1 (fs := zo6 w σ) rfl rfl (c_R_blockFrom l w σ r5 ko.1) zl_R_76 zm317 zms3 rfl rfl (Nat.le_of_ble_eq_true rfl) (Nat.le_of_ble_eq_true rfl) (Nat.le_of_ble_eq_true rfl) zd_R_newestBlockBefore_72 (fun r15 e16 => ?_)
            have ht := ht.trans (zlet_e e16)
            have ko := ko.2 r15 e16
            refine z_istore O (lv' := [(4, .int r15), (3, .int x4), (2, .int r7), (7, .int r7), (6, .int r5), (0, .ref (zq w 6)), (1, .int x1), (5, .int x5)]) zd_R_newestBlockBefore_75 (Nat.le_of_ble_eq_true rfl) rfl ?_
            refine z_iinc O (v := (x5 + 1)) (lv' := [(5, .int (x5 + 1)), (4, .int r15), (3, .int x4), (2, .int r7), (7, .int r7), (6, .int r5), (0, .ref (zq w 6)), (1, .int x1)]) zd_R_newestBlockBefore_77 7 rfl rfl (Nat.le_of_ble_eq_true rfl) rfl ?_
            refine z_goto O (tgt := 17) zd_R_newestBlockBefore_80 (by decide) ?_
            refine z_sub (lv' := [(0, .ref (zq w 6)), (1, .int x1), (2, .int r7), (3, .int x4), (4, .int r15), (5, .int (x5 + 1))]) [6, 7, 3, 2, 1, 0] rfl ?_
            exact ih r7 x4 r15 (x5 + 1) ko (fun r e => kk r (e.trans ht.symm))
set_option maxHeartbeats 4000000 in
set_option maxRecDepth 100000 in
theorem c_R_newestBlockBefore (l : Launch) (w : zWd) (σ : zSt) (a1 : Int32) (ko : k_R_newestBlockBefore σ a1) : zMi l ({ cls := "SluiceStream$Receiver", name := "newestBlockBefore", desc := "(I)I" } : Jvm.MethodName) prog_3_method_7_code 8 3 67 .int w [.ref (zq w 6), .int a1] σ (fun r u => r = (f_R_newestBlockBefore σ a1) ∧ u = σ) := by
  refine zMi_of (by decide +kernel) (Nat.le_of_ble_eq_true rfl) ?_
  intro K O hl0 E
  have ht : (f_R_newestBlockBefore σ a1) = (f_R_newestBlockBefore σ a1) := rfl
  refine z_sub (lv' := [(0, .ref (zq w 6)), (1, .int a1)]) [0, 1] rfl ?_
  refine z_iconst O (v := 0) zd_R_newestBlockBefore_0 (by decide) ?_
  refine z_istore_n O (lv' := [(2, .int 0), (0, .ref (zq w 6)), (1, .int a1)]) zd_R_newestBlockBefore_1 rfl (Nat.le_of_ble_eq_true rfl) rfl ?_
  refine z_iconst O (v := (-1)) zd_R_newestBlockBefore_2 (by decide) ?_
  refine z_istore_n O (lv' := [(3, .int (-1)), (2, .int 0), (0, .ref (zq w 6)), (1, .int a1)]) zd_R_newestBlockBefore_3 rfl (Nat.le_of_ble_eq_true rfl) rfl ?_
  refine z_aload_n O zd_R_newestBlockBefore_4 rfl 2 rfl ?_
  refine z_aload_n O zd_R_newestBlockBefore_5 rfl 2 rfl ?_
  refine zg_R_22_6 O zd_R_newestBlockBefore_6 (v := .int (σ 6 2)) rfl ?_
  refine z_callri O hl0 (st := []) 6 1 (fs := zo6 w σ) rfl rfl (c_R_blockFrom l w σ (σ 6 2) ko.1) zl_R_76 zm317 zms3 rfl rfl (Nat.le_of_ble_eq_true rfl) (Nat.le_of_ble_eq_true rfl) (Nat.le_of_ble_eq_true rfl) zd_R_newestBlockBefore_9 (fun r1 e2 => ?_)
  have ht := ht.trans (zlet_e e2)
  have ko := ko.2 r1 e2
  refine z_istore O (lv' := [(4, .int r1), (3, .int (-1)), (2, .int 0), (0, .ref (zq w 6)), (1, .int a1)]) zd_R_newestBlockBefore_12 (Nat.le_of_ble_eq_true rfl) rfl ?_
  refine z_iconst O (v := 0) zd_R_newestBlockBefore_14 (by decide) ?_
  refine z_istore O (lv' := [(5, .int 0), (4, .int r1), (3, .int (-1)), (2, .int 0), (0, .ref (zq w 6)), (1, .int a1)]) zd_R_newestBlockBefore_15 (Nat.le_of_ble_eq_true rfl) rfl ?_
  refine z_sub (lv' := [(0, .ref (zq w 6)), (1, .int a1), (2, .int 0), (3, .int (-1)), (4, .int r1), (5, .int 0)]) [4, 5, 3, 2, 1, 0] rfl ?_
  refine L_R_newestBlockBefore_17 O hl0 σ a1 (((32 : Int32).toInt - (0 : Int32).toInt).toNat + 2) 0 (-1) r1 0 ko (fun r17 er17 => ?_)
  have ht := ht.trans (zlet_e er17)
  refine z_iload_n O zd_R_newestBlockBefore_83 rfl 0 rfl ?_
  exact E _ _ _ _ zd_R_newestBlockBefore_84 rfl ⟨ht.symm, rfl⟩
set_option maxHeartbeats 4000000 in
set_option maxRecDepth 100000 in
theorem L_R_tellBlocks_13 {K : zCx} {w : zWd} {l : Launch} (O : zOk K w prog_3_method_6_code "SluiceStream$Receiver" 8 4 94) (hl0 : kl K = l) (x2 : Int32) : ∀ (m : Nat) (σ : zSt) (x3 x4 x5 : Int32), kl_R_tellBlocks_13 x2 m σ x3 x4 x5 → (∀ r, r = (l_R_tellBlocks_13 x2 m σ x3 x4 x5) → Z K w r.2 [(3, .int r.1)] [] 91) → Z K w σ [(0, .ref (zq w 6)), (1, .ref (zq w 11)), (2, .int x2), (3, .int x3), (4, .int x4), (5, .int x5)] [] 13 := by
  intro m
  induction m with
  | zero => intro σ x3 x4 x5 ko; exact ko.elim
  | succ m ih =>
    intro σ x3 x4 x5 ko kk
    have ht : l_R_tellBlocks_13 x2 (m + 1) σ x3 x4 x5 = l_R_tellBlocks_13 x2 (m + 1) σ x3 x4 x5 := rfl
    refine z_iload O zd_R_tellBlocks_13 5 rfl ?_
    refine z_iconst O (v := 3) zd_R_tellBlocks_15 (by decide) ?_
    refine z_icmp_ge O (tgt := 91) zd_R_tellBlocks_16 (by decide) (fun c1 => ?_) (fun c1 => ?_)
    · have ht := ht.trans (if_pos c1)
      refine z_sub (lv' := [(3, .int x3)]) [3] rfl ?_
      exact kk (x3, σ) ht.symm
    · have ht := ht.trans (if_neg c1)
      have ko := ko c1
      refine z_aload_n O zd_R_tellBlocks_19 rfl 0 rfl ?_
      refine z_iload O zd_R_tellBlocks_20 4 rfl ?_
      refine z_callri O hl0 (st := []) 6 1 (fs := zo6 w σ) rfl rfl (c_R_newestBlockBefore l w σ x4 ko.1) zl_R_66 zm313 zms2 rfl rfl (Nat.le_of_ble_eq_true rfl) (Nat.le_of_ble_eq_true rfl) (Nat.le_of_ble_eq_true rfl) zd_R_tellBlocks_22 (fun r2 e3 => ?_)
      have ht := ht.trans (zlet_e e3)
      have ko := ko.2 r2 e3
      refine z_istore O (lv' := [(6, .int r2), (0, .ref (zq w 6)), (1, .ref (zq w 11)), (2, .int x2), (3, .int x3), (4, .int x4), (5, .int x5)]) zd_R_tellBlocks_25 (Nat.le_of_ble_eq_true rfl) rfl ?_
      refine z_iload O zd_R_tellBlocks_27 0 rfl ?_
      refine z_iconst O (v := (-1)) zd_R_tellBlocks_29 (by decide) ?_
      refine z_icmp_eq O (tgt := 85) zd_R_tellBlocks_30 (by decide) (fun c4 => ?_) (fun c4 => ?_)
      · have ht := ht.trans (if_pos c4)
        have ko := ko.1 c4
        refine z_iinc O (v := (x5 + 1)) (lv' := [(5, .int (x5 + 1)), (6, .int r2), (0, .ref (zq w 6)), (1, .ref (zq w 11)), (2, .int x2), (3, .int x3), (4, .int x4)]) zd_R_tellBlocks_85 6 rfl rfl (Nat.le_of_ble_eq_true rfl) rfl ?_
        refine z_goto O (tgt := 13) zd_R_tellBlocks_88 (by decide) ?_
        refine z_sub (lv' := [(0, .ref (zq w 6)), (1, .ref (zq w 11)), (2, .int x2), (3, .int x3), (4, .int x4), (5, .int (x5 + 1))]) [2, 3, 4, 5, 6, 0] rfl ?_
        exact ih σ x3 x4 (x5 + 1) ko (fun r e => kk r (e.trans ht.symm))
      · have ht := ht.trans (if_neg c4)
        have ko := ko.2 c4
        refine z_aload_n O zd_R_tellBlocks_33 rfl 1 rfl ?_
        refine z_iload O zd_R_tellBlocks_34 0 rfl ?_
        refine z_callri O hl0 (st := []) 6 1 (fs := zo6 w σ) rfl rfl (c_R_endOfRun l w σ r2 ko.1) zl_R_70 zm328 zm329 rfl rfl (Nat.le_of_ble_eq_true rfl) (Nat.le_of_ble_eq_true rfl) (Nat.le_of_ble_eq_true rfl) zd_R_tellBlocks_36 (fun r5 e6 => ?_)
        have ht := ht.trans (zlet_e e6)
        have ko := ko.2 r5 e6
        refine z_istore O (lv' := [(7, .int r5), (6, .int r2), (0, .ref (zq w 6)), (1, .ref (zq w 11)), (2, .int x2), (3, .int x3), (4, .int x4), (5, .int x5)]) zd_R_tellBlocks_39 (Nat.le_of_ble_eq_true rfl) rfl ?_
        refine z_aload_n O zd_R_tellBlocks_41 rfl 3 rfl ?_
        refine z_iload_n O zd_R_tellBlocks_42 rfl 4 rfl ?_
        refine z_iconst O (v := 3) zd_R_tellBlocks_43 (by decide) ?_
        refine z_iconst O (v := 2) zd_R_tellBlocks_44 (by decide) ?_
        refine z_iload O zd_R_tellBlocks_45 7 rfl ?_
        refine z_imul O zd_R_tellBlocks_47 ?_
        refine z_iadd O zd_R_tellBlocks_48 ?_
        refine z_iload O zd_R_tellBlocks_49 1 rfl ?_
        refine z_callv O hl0 (st := []) 11 2 (fs := zo11 w σ) rfl rfl (c_W_setCell_11 l w σ x2 (3 + (2 * x5)) r2 ko.1) zl_R_58 zm304 zm305 rfl rfl (Nat.le_of_ble_eq_true rfl) (Nat.le_of_ble_eq_true rfl) (Nat.le_of_ble_eq_true rfl) zd_R_tellBlocks_51 (fun u7 e8 => ?_)
        have ht := ht.trans (zlet_e e8)
        have ko := ko.2 u7 e8
        refine z_aload_n O zd_R_tellBlocks_54 rfl 3 rfl ?_
        refine z_iload_n O zd_R_tellBlocks_55 rfl 4 rfl ?_
        refine z_iconst O (v := 3) zd_R_tellBlocks_56 (by decide) ?_
        refine z_iconst O (v := 2) zd_R_tellBlocks_57 (by decide) ?_
        refine z_iload O zd_R_tellBlocks_58 7 rfl ?_
        refine z_imul O zd_R_tellBlocks_60 ?_
        refine z_iadd O zd_R_tellBlocks_61 ?_
        refine z_iconst O (v := 1) zd_R_tellBlocks_62 (by decide) ?_
        refine z_iadd O zd_R_tellBlocks_63 ?_
        refine z_iload O zd_R_tellBlocks_64 0 rfl ?_
        refine z_callv O hl0 (st := []) 11 2 (fs := zo11 w u7) rfl rfl (c_W_setCell_11 l w u7 x2 ((3 + (2 * x5)) + 1) r5 ko.1) zl_R_58 zm304 zm305 rfl rfl (Nat.le_of_ble_eq_true rfl) (Nat.le_of_ble_eq_true rfl) (Nat.le_of_ble_eq_true rfl) zd_R_tellBlocks_66 (fun u9 e10 => ?_)
        have ht := ht.trans (zlet_e e10)
        have ko := ko.2 u9 e10
        refine z_aload_n O zd_R_tellBlocks_69 rfl 2 rfl ?_
        refine zg_R_12_6 O zd_R_tellBlocks_70 (v := .ref (zq w 7)) rfl ?_
        refine z_iload O zd_R_tellBlocks_73 1 rfl ?_
        refine z_iload O zd_R_tellBlocks_75 0 rfl ?_
        refine z_callri O hl0 (st := []) 7 0 (fs := zo7 w u9) rfl rfl (c_P_greatest_7 l w u9 r2 r5 ko.1) zl_R_73 zm336 zm337 rfl rfl (Nat.le_of_ble_eq_true rfl) (Nat.le_of_ble_eq_true rfl) (Nat.le_of_ble_eq_true rfl) zd_R_tellBlocks_77 (fun r11 e12 => ?_)
        have ht := ht.trans (zlet_e e12)
        have ko := ko.2 r11 e12
        refine z_istore O (lv' := [(4, .int r11), (7, .int r5), (6, .int r2), (0, .ref (zq w 6)), (1, .ref (zq w 11)), (2, .int x2), (3, .int x3), (5, .int x5)]) zd_R_tellBlocks_80 (Nat.le_of_ble_eq_true rfl) rfl ?_
        refine z_iinc O (v := (x3 + 1)) (lv' := [(3, .int (x3 + 1)), (4, .int r11), (7, .int r5), (6, .int r2), (0, .ref (zq w 6)), (1, .ref (zq w 11)), (2, .int x2), (5, .int x5)]) zd_R_tellBlocks_82 6 rfl rfl (Nat.le_of_ble_eq_true rfl) rfl ?_
        refine z_iinc O (v := (x5 + 1)) (lv' := [(5, .int (x5 + 1)), (3, .int (x3 + 1)), (4, .int r11), (7, .int r5), (6, .int r2), (0, .ref (zq w 6)), (1, .ref (zq w 11)), (2, .int x2)]) zd_R_tellBlocks_85 7 rfl rfl (Nat.le_of_ble_eq_true rfl) rfl ?_
        refine z_goto O (tgt := 13) zd_R_tellBlocks_88 (by decide) ?_
        refine z_sub (lv' := [(0, .ref (zq w 6)), (1, .ref (zq w 11)), (2, .int x2), (3, .int (x3 + 1)), (4, .int r11), (5, .int (x5 + 1))]) [5, 6, 7, 1, 2, 0] rfl ?_
        exact ih u9 (x3 + 1) r11 (x5 + 1) ko (fun r e => kk r (e.trans ht.symm))
set_option maxHeartbeats 4000000 in
set_option maxRecDepth 100000 in
theorem c_R_tellBlocks (l : Launch) (w : zWd) (σ : zSt) (a2 : Int32) (ko : k_R_tellBlocks σ a2) : zMi l ({ cls := "SluiceStream$Receiver", name := "tellBlocks", desc := "(LSluiceStream$Rows;I)I" } : Jvm.MethodName) prog_3_method_6_code 8 4 94 .int w [.ref (zq w 6), .ref (zq w 11), .int a2] σ (fun r u => (r, u) = (f_R_tellBlocks σ a2)) := by
  refine zMi_of (by decide +kernel) (Nat.le_of_ble_eq_true rfl) ?_
  intro K O hl0 E
  have ht : (f_R_tellBlocks σ a2) = (f_R_tellBlocks σ a2) := rfl
  refine z_sub (lv' := [(0, .ref (zq w 6)), (1, .ref (zq w 11)), (2, .int a2)]) [0, 1, 2] rfl ?_
  refine z_iconst O (v := 0) zd_R_tellBlocks_0 (by decide) ?_
  refine z_istore_n O (lv' := [(3, .int 0), (0, .ref (zq w 6)), (1, .ref (zq w 11)), (2, .int a2)]) zd_R_tellBlocks_1 rfl (Nat.le_of_ble_eq_true rfl) rfl ?_
  refine z_aload_n O zd_R_tellBlocks_2 rfl 1 rfl ?_
  refine zg_R_18_6 O zd_R_tellBlocks_3 (v := .int (σ 6 1)) rfl ?_
  refine z_iconst O (v := 1) zd_R_tellBlocks_6 (by decide) ?_
  refine z_iadd O zd_R_tellBlocks_7 ?_
  refine z_istore O (lv' := [(4, .int ((σ 6 1) + 1)), (3, .int 0), (0, .ref (zq w 6)), (1, .ref (zq w 11)), (2, .int a2)]) zd_R_tellBlocks_8 (Nat.le_of_ble_eq_true rfl) rfl ?_
  refine z_iconst O (v := 0) zd_R_tellBlocks_10 (by decide) ?_
  refine z_istore O (lv' := [(5, .int 0), (4, .int ((σ 6 1) + 1)), (3, .int 0), (0, .ref (zq w 6)), (1, .ref (zq w 11)), (2, .int a2)]) zd_R_tellBlocks_11 (Nat.le_of_ble_eq_true rfl) rfl ?_
  refine z_sub (lv' := [(0, .ref (zq w 6)), (1, .ref (zq w 11)), (2, .int a2), (3, .int 0), (4, .int ((σ 6 1) + 1)), (5, .int 0)]) [3, 4, 5, 2, 1, 0] rfl ?_
  refine L_R_tellBlocks_13 O hl0 a2 (((3 : Int32).toInt - (0 : Int32).toInt).toNat + 2) σ 0 ((σ 6 1) + 1) 0 ko (fun r13 er13 => ?_)
  have ht := ht.trans (zlet_e er13)
  refine z_iload_n O zd_R_tellBlocks_91 rfl 0 rfl ?_
  exact E _ _ _ _ zd_R_tellBlocks_92 rfl ht.symm
set_option maxHeartbeats 4000000 in
set_option maxRecDepth 100000 in
theorem c_R_makeAck (l : Launch) (w : zWd) (σ : zSt) (ko : k_R_makeAck σ) : zMv l ({ cls := "SluiceStream$Receiver", name := "makeAck", desc := "(LSluiceStream$Rows;)V" } : Jvm.MethodName) prog_3_method_5_code 3 5 121 w [.ref (zq w 6), .ref (zq w 11)] σ (fun u => u = (f_R_makeAck σ)) := by
  refine zMv_of (by decide +kernel) (Nat.le_of_ble_eq_true rfl) ?_
  intro K O hl0 E
  have ht : (f_R_makeAck σ) = (f_R_makeAck σ) := rfl
  refine z_sub (lv' := [(0, .ref (zq w 6)), (1, .ref (zq w 11))]) [0, 1] rfl ?_
  refine z_aload_n O zd_R_makeAck_0 rfl 1 rfl ?_
  refine z_callri O hl0 (st := []) 11 2 (fs := zo11 w σ) rfl rfl (c_W_isFull_11 l w σ) zl_R_45 zm288 zm289 rfl rfl (Nat.le_of_ble_eq_true rfl) (Nat.le_of_ble_eq_true rfl) (Nat.le_of_ble_eq_true rfl) zd_R_makeAck_1 (fun r1 e2 => ?_)
  have ht := ht.trans (zlet_e e2)
  have ko := ko r1 e2
  refine z_if_eq O (tgt := 12) zd_R_makeAck_4 (by decide) (fun c3 => ?_) (fun c3 => ?_)
  · have ht := ht.trans (if_pos c3)
    have ko := ko.1 c3
    refine z_aload_n O zd_R_makeAck_12 rfl 1 rfl ?_
    refine z_calli O hl0 (st := []) 11 2 (fs := zo11 w σ) rfl rfl (c_W_addRow_11 l w σ) zl_R_55 zm300 zm301 rfl rfl (Nat.le_of_ble_eq_true rfl) (Nat.le_of_ble_eq_true rfl) (Nat.le_of_ble_eq_true rfl) zd_R_makeAck_13 (fun r4 u5 e6 => ?_)
    have ht := ht.trans (zseq_e e6)
    have ko := ko r4 u5 e6
    refine z_istore_n O (lv' := [(2, .int r4), (0, .ref (zq w 6)), (1, .ref (zq w 11))]) zd_R_makeAck_16 rfl (Nat.le_of_ble_eq_true rfl) rfl ?_
    refine z_aload_n O zd_R_makeAck_17 rfl 2 rfl ?_
    refine z_iload_n O zd_R_makeAck_18 rfl 0 rfl ?_
    refine z_iconst O (v := 0) zd_R_makeAck_19 (by decide) ?_
    refine z_aload_n O zd_R_makeAck_20 rfl 1 rfl ?_
    refine zg_R_22_6 O zd_R_makeAck_21 (v := .int (u5 6 2)) rfl ?_
    refine z_callv O hl0 (st := []) 11 2 (fs := zo11 w u5) rfl rfl (c_W_setCell_11 l w u5 r4 0 (u5 6 2) ko.1) zl_R_58 zm304 zm305 rfl rfl (Nat.le_of_ble_eq_true rfl) (Nat.le_of_ble_eq_true rfl) (Nat.le_of_ble_eq_true rfl) zd_R_makeAck_24 (fun u7 e8 => ?_)
    have ht := ht.trans (zlet_e e8)
    have ko := ko.2 u7 e8
    refine z_aload_n O zd_R_makeAck_27 rfl 2 rfl ?_
    refine z_iload_n O zd_R_makeAck_28 rfl 0 rfl ?_
    refine z_iconst O (v := 1) zd_R_makeAck_29 (by decide) ?_
    refine z_aload_n O zd_R_makeAck_30 rfl 1 rfl ?_
    refine z_callri O hl0 (st := [.int 1, .int r4, .ref (zq w 11)]) 6 1 (fs := zo6 w u7) rfl rfl (c_R_room l w u7) zl_R_41 zm280 zm281 rfl rfl (Nat.le_of_ble_eq_true rfl) (Nat.le_of_ble_eq_true rfl) (Nat.le_of_ble_eq_true rfl) zd_R_makeAck_31 (fun r9 e10 => ?_)
    have ht := ht.trans (zlet_e e10)
    have ko := ko r9 e10
    refine z_callv O hl0 (st := []) 11 2 (fs := zo11 w u7) rfl rfl (c_W_setCell_11 l w u7 r4 1 r9 ko.1) zl_R_58 zm304 zm305 rfl rfl (Nat.le_of_ble_eq_true rfl) (Nat.le_of_ble_eq_true rfl) (Nat.le_of_ble_eq_true rfl) zd_R_makeAck_34 (fun u11 e12 => ?_)
    have ht := ht.trans (zlet_e e12)
    have ko := ko.2 u11 e12
    refine z_aload_n O zd_R_makeAck_37 rfl 2 rfl ?_
    refine z_iload_n O zd_R_makeAck_38 rfl 0 rfl ?_
    refine z_iconst O (v := 2) zd_R_makeAck_39 (by decide) ?_
    refine z_aload_n O zd_R_makeAck_40 rfl 1 rfl ?_
    refine z_aload_n O zd_R_makeAck_41 rfl 2 rfl ?_
    refine z_iload_n O zd_R_makeAck_42 rfl 0 rfl ?_
    refine z_calli O hl0 (st := [.int 2, .int r4, .ref (zq w 11)]) 6 1 (fs := zo6 w u11) rfl rfl (c_R_tellBlocks l w u11 r4 ko.1) zl_R_62 zm309 zms1 rfl rfl (Nat.le_of_ble_eq_true rfl) (Nat.le_of_ble_eq_true rfl) (Nat.le_of_ble_eq_true rfl) zd_R_makeAck_43 (fun r13 u14 e15 => ?_)
    have ht := ht.trans (zseq_e e15)
    have ko := ko.2 r13 u14 e15
    refine z_callv O hl0 (st := []) 11 2 (fs := zo11 w u14) rfl rfl (c_W_setCell_11 l w u14 r4 2 r13 ko) zl_R_58 zm304 zm305 rfl rfl (Nat.le_of_ble_eq_true rfl) (Nat.le_of_ble_eq_true rfl) (Nat.le_of_ble_eq_true rfl) zd_R_makeAck_46 (fun u16 e17 => ?_)
    have ht := ht.trans (zlet_e e17)
    exact E _ _ _ zd_R_makeAck_49 ht.symm
  · have ht := ht.trans (if_neg c3)
    have ko := ko.2 c3
    refine z_aload_n O zd_R_makeAck_7 rfl 1 rfl ?_
    refine z_iconst O (v := 0) zd_R_makeAck_8 (by decide) ?_
    refine z_callv O hl0 (st := []) 11 2 (fs := zo11 w σ) rfl rfl (c_W_remove_11 l w σ 0 ko.1) zl_R_51 zm292 zm293 rfl rfl (Nat.le_of_ble_eq_true rfl) (Nat.le_of_ble_eq_true rfl) (Nat.le_of_ble_eq_true rfl) zd_R_makeAck_9 (fun u18 e19 => ?_)
    have ht := ht.trans (zlet_e e19)
    have ko := ko.2 u18 e19
    refine z_aload_n O zd_R_makeAck_12 rfl 1 rfl ?_
    refine z_calli O hl0 (st := []) 11 2 (fs := zo11 w u18) rfl rfl (c_W_addRow_11 l w u18) zl_R_55 zm300 zm301 rfl rfl (Nat.le_of_ble_eq_true rfl) (Nat.le_of_ble_eq_true rfl) (Nat.le_of_ble_eq_true rfl) zd_R_makeAck_13 (fun r20 u21 e22 => ?_)
    have ht := ht.trans (zseq_e e22)
    have ko := ko r20 u21 e22
    refine z_istore_n O (lv' := [(2, .int r20), (0, .ref (zq w 6)), (1, .ref (zq w 11))]) zd_R_makeAck_16 rfl (Nat.le_of_ble_eq_true rfl) rfl ?_
    refine z_aload_n O zd_R_makeAck_17 rfl 2 rfl ?_
    refine z_iload_n O zd_R_makeAck_18 rfl 0 rfl ?_
    refine z_iconst O (v := 0) zd_R_makeAck_19 (by decide) ?_
    refine z_aload_n O zd_R_makeAck_20 rfl 1 rfl ?_
    refine zg_R_22_6 O zd_R_makeAck_21 (v := .int (u21 6 2)) rfl ?_
    refine z_callv O hl0 (st := []) 11 2 (fs := zo11 w u21) rfl rfl (c_W_setCell_11 l w u21 r20 0 (u21 6 2) ko.1) zl_R_58 zm304 zm305 rfl rfl (Nat.le_of_ble_eq_true rfl) (Nat.le_of_ble_eq_true rfl) (Nat.le_of_ble_eq_true rfl) zd_R_makeAck_24 (fun u23 e24 => ?_)
    have ht := ht.trans (zlet_e e24)
    have ko := ko.2 u23 e24
    refine z_aload_n O zd_R_makeAck_27 rfl 2 rfl ?_
    refine z_iload_n O zd_R_makeAck_28 rfl 0 rfl ?_
    refine z_iconst O (v := 1) zd_R_makeAck_29 (by decide) ?_
    refine z_aload_n O zd_R_makeAck_30 rfl 1 rfl ?_
    refine z_callri O hl0 (st := [.int 1, .int r20, .ref (zq w 11)]) 6 1 (fs := zo6 w u23) rfl rfl (c_R_room l w u23) zl_R_41 zm280 zm281 rfl rfl (Nat.le_of_ble_eq_true rfl) (Nat.le_of_ble_eq_true rfl) (Nat.le_of_ble_eq_true rfl) zd_R_makeAck_31 (fun r25 e26 => ?_)
    have ht := ht.trans (zlet_e e26)
    have ko := ko r25 e26
    refine z_callv O hl0 (st := []) 11 2 (fs := zo11 w u23) rfl rfl (c_W_setCell_11 l w u23 r20 1 r25 ko.1) zl_R_58 zm304 zm305 rfl rfl (Nat.le_of_ble_eq_true rfl) (Nat.le_of_ble_eq_true rfl) (Nat.le_of_ble_eq_true rfl) zd_R_makeAck_34 (fun u27 e28 => ?_)
    have ht := ht.trans (zlet_e e28)
    have ko := ko.2 u27 e28
    refine z_aload_n O zd_R_makeAck_37 rfl 2 rfl ?_
    refine z_iload_n O zd_R_makeAck_38 rfl 0 rfl ?_
    refine z_iconst O (v := 2) zd_R_makeAck_39 (by decide) ?_
    refine z_aload_n O zd_R_makeAck_40 rfl 1 rfl ?_
    refine z_aload_n O zd_R_makeAck_41 rfl 2 rfl ?_
    refine z_iload_n O zd_R_makeAck_42 rfl 0 rfl ?_
    refine z_calli O hl0 (st := [.int 2, .int r20, .ref (zq w 11)]) 6 1 (fs := zo6 w u27) rfl rfl (c_R_tellBlocks l w u27 r20 ko.1) zl_R_62 zm309 zms1 rfl rfl (Nat.le_of_ble_eq_true rfl) (Nat.le_of_ble_eq_true rfl) (Nat.le_of_ble_eq_true rfl) zd_R_makeAck_43 (fun r29 u30 e31 => ?_)
    have ht := ht.trans (zseq_e e31)
    have ko := ko.2 r29 u30 e31
    refine z_callv O hl0 (st := []) 11 2 (fs := zo11 w u30) rfl rfl (c_W_setCell_11 l w u30 r20 2 r29 ko) zl_R_58 zm304 zm305 rfl rfl (Nat.le_of_ble_eq_true rfl) (Nat.le_of_ble_eq_true rfl) (Nat.le_of_ble_eq_true rfl) zd_R_makeAck_46 (fun u32 e33 => ?_)
    have ht := ht.trans (zlet_e e33)
    exact E _ _ _ zd_R_makeAck_49 ht.symm
set_option maxHeartbeats 4000000 in
set_option maxRecDepth 100000 in
theorem L_R_countBlocks_13 {K : zCx} {w : zWd} {l : Launch} (O : zOk K w prog_3_method_8_code "SluiceStream$Receiver" 4 3 67) (hl0 : kl K = l) (σ : zSt) : ∀ (m : Nat) (x1 x2 x3 : Int32), kl_R_countBlocks_13 σ  m x1 x2 x3 → (∀ r, r = (l_R_countBlocks_13 σ  m x1 x2 x3) → Z K w σ [(1, .int r)] [] 43) → Z K w σ [(0, .ref (zq w 6)), (1, .int x1), (2, .int x2), (3, .int x3)] [] 13 := by
  intro m
  induction m with
  | zero => intro x1 x2 x3 ko; exact ko.elim
  | succ m ih =>
    intro x1 x2 x3 ko kk
    have ht : l_R_countBlocks_13 σ  (m + 1) x1 x2 x3 = l_R_countBlocks_13 σ  (m + 1) x1 x2 x3 := rfl
    refine z_iload_n O zd_R_countBlocks_13 rfl 3 rfl ?_
    refine z_bipush O (v := 32) zd_R_countBlocks_14 (by decide) ?_
    refine z_icmp_ge O (tgt := 43) zd_R_countBlocks_16 (by decide) (fun c3 => ?_) (fun c3 => ?_)
    · have ht := ht.trans (if_pos c3)
      refine z_sub (lv' := [(1, .int x1)]) [1] rfl ?_
      exact kk x1 ht.symm
    · have ht := ht.trans (if_neg c3)
      have ko := ko c3
      refine z_iload_n O zd_R_countBlocks_19 rfl 2 rfl ?_
      refine z_iconst O (v := (-1)) zd_R_countBlocks_20 (by decide) ?_
      refine z_icmp_eq O (tgt := 43) zd_R_countBlocks_21 (by decide) (fun c4 => ?_) (fun c4 => ?_)
      · have ht := ht.trans (if_pos c4)
        refine z_sub (lv' := [(1, .int x1)]) [1] rfl ?_
        exact kk x1 ht.symm
      · have ht := ht.trans (if_neg c4)
        have ko := ko c4
        refine z_iinc O (v := (x1 + 1)) (lv' := [(1, .int (x1 + 1)), (0, .ref (zq w 6)), (2, .int x2), (3, .int x3)]) zd_R_countBlocks_24 1 rfl rfl (Nat.le_of_ble_eq_true rfl) rfl ?_
        refine z_aload_n O zd_R_countBlocks_27 rfl 1 rfl ?_
        refine z_aload_n O zd_R_countBlocks_28 rfl 1 rfl ?_
        refine z_iload_n O zd_R_countBlocks_29 rfl 2 rfl ?_
        refine z_callri O hl0 (st := [.ref (zq w 6)]) 6 1 (fs := zo6 w σ) rfl rfl (c_R_endOfRun l w σ x2 ko.1) zl_R_70 zm328 zm329 rfl rfl (Nat.le_of_ble_eq_true rfl) (Nat.le_of_ble_eq_true rfl) (Nat.le_of_ble_eq_true rfl) zd_R_countBlocks_30 (fun r5 e6 => ?_)
        have ht := ht.trans (zlet_e e6)
        have ko := ko.2 r5 e6
        refine z_callri O hl0 (st := []) 6 1 (fs := zo6 w σ) rfl rfl (c_R_blockFrom l w σ r5 ko.1) zl_R_76 zm317 zms3 rfl rfl (Nat.le_of_ble_eq_true rfl) (Nat.le_of_ble_eq_true rfl) (Nat.le_of_ble_eq_true rfl) zd_R_countBlocks_33 (fun r7 e8 => ?_)
        have ht := ht.trans (zlet_e e8)
        have ko := ko.2 r7 e8
        refine z_istore_n O (lv' := [(2, .int r7), (1, .int (x1 + 1)), (0, .ref (zq w 6)), (3, .int x3)]) zd_R_countBlocks_36 rfl (Nat.le_of_ble_eq_true rfl) rfl ?_
        refine z_iinc O (v := (x3 + 1)) (lv' := [(3, .int (x3 + 1)), (2, .int r7), (1, .int (x1 + 1)), (0, .ref (zq w 6))]) zd_R_countBlocks_37 3 rfl rfl (Nat.le_of_ble_eq_true rfl) rfl ?_
        refine z_goto O (tgt := 13) zd_R_countBlocks_40 (by decide) ?_
        refine z_sub (lv' := [(0, .ref (zq w 6)), (1, .int (x1 + 1)), (2, .int r7), (3, .int (x3 + 1))]) [3, 2, 1, 0] rfl ?_
        exact ih (x1 + 1) r7 (x3 + 1) ko (fun r e => kk r (e.trans ht.symm))
set_option maxHeartbeats 4000000 in
set_option maxRecDepth 100000 in
theorem c_R_countBlocks (l : Launch) (w : zWd) (σ : zSt) (ko : k_R_countBlocks σ) : zMi l ({ cls := "SluiceStream$Receiver", name := "countBlocks", desc := "()I" } : Jvm.MethodName) prog_3_method_8_code 4 3 67 .int w [.ref (zq w 6)] σ (fun r u => r = (f_R_countBlocks σ) ∧ u = σ) := by
  refine zMi_of (by decide +kernel) (Nat.le_of_ble_eq_true rfl) ?_
  intro K O hl0 E
  have ht : (f_R_countBlocks σ) = (f_R_countBlocks σ) := rfl
  refine z_sub (lv' := [(0, .ref (zq w 6))]) [0] rfl ?_
  refine z_iconst O (v := 0) zd_R_countBlocks_0 (by decide) ?_
  refine z_istore_n O (lv' := [(1, .int 0), (0, .ref (zq w 6))]) zd_R_countBlocks_1 rfl (Nat.le_of_ble_eq_true rfl) rfl ?_
  refine z_aload_n O zd_R_countBlocks_2 rfl 1 rfl ?_
  refine z_aload_n O zd_R_countBlocks_3 rfl 1 rfl ?_
  refine zg_R_22_6 O zd_R_countBlocks_4 (v := .int (σ 6 2)) rfl ?_
  refine z_callri O hl0 (st := []) 6 1 (fs := zo6 w σ) rfl rfl (c_R_blockFrom l w σ (σ 6 2) ko.1) zl_R_76 zm317 zms3 rfl rfl (Nat.le_of_ble_eq_true rfl) (Nat.le_of_ble_eq_true rfl) (Nat.le_of_ble_eq_true rfl) zd_R_countBlocks_7 (fun r1 e2 => ?_)
  have ht := ht.trans (zlet_e e2)
  have ko := ko.2 r1 e2
  refine z_istore_n O (lv' := [(2, .int r1), (1, .int 0), (0, .ref (zq w 6))]) zd_R_countBlocks_10 rfl (Nat.le_of_ble_eq_true rfl) rfl ?_
  refine z_iconst O (v := 0) zd_R_countBlocks_11 (by decide) ?_
  refine z_istore_n O (lv' := [(3, .int 0), (2, .int r1), (1, .int 0), (0, .ref (zq w 6))]) zd_R_countBlocks_12 rfl (Nat.le_of_ble_eq_true rfl) rfl ?_
  refine z_sub (lv' := [(0, .ref (zq w 6)), (1, .int 0), (2, .int r1), (3, .int 0)]) [3, 2, 1, 0] rfl ?_
  refine L_R_countBlocks_13 O hl0 σ (((32 : Int32).toInt - (0 : Int32).toInt).toNat + 2) 0 r1 0 ko (fun r9 er9 => ?_)
  have ht := ht.trans (zlet_e er9)
  refine z_iload_n O zd_R_countBlocks_43 rfl 0 rfl ?_
  exact E _ _ _ _ zd_R_countBlocks_44 rfl ⟨ht.symm, rfl⟩
set_option maxHeartbeats 4000000 in
set_option maxRecDepth 100000 in
theorem L_R_startOfBlock_11 {K : zCx} {w : zWd} {l : Launch} (O : zOk K w prog_3_method_9_code "SluiceStream$Receiver" 4 3 67) (hl0 : kl K = l) (σ : zSt) (x1 : Int32) : ∀ (m : Nat) (x2 x3 : Int32), kl_R_startOfBlock_11 σ x1 m x2 x3 → (∀ r, r = (l_R_startOfBlock_11 σ x1 m x2 x3) → Z K w σ [(2, .int r)] [] 37) → Z K w σ [(0, .ref (zq w 6)), (1, .int x1), (2, .int x2), (3, .int x3)] [] 11 := by
  intro m
  induction m with
  | zero => intro x2 x3 ko; exact ko.elim
  | succ m ih =>
    intro x2 x3 ko kk
    have ht : l_R_startOfBlock_11 σ x1 (m + 1) x2 x3 = l_R_startOfBlock_11 σ x1 (m + 1) x2 x3 := rfl
    refine z_iload_n O zd_R_startOfBlock_11 rfl 3 rfl ?_
    refine z_iload_n O zd_R_startOfBlock_12 rfl 1 rfl ?_
    refine z_icmp_ge O (tgt := 37) zd_R_startOfBlock_13 (by decide) (fun c3 => ?_) (fun c3 => ?_)
    · have ht := ht.trans (if_pos c3)
      refine z_sub (lv' := [(2, .int x2)]) [2] rfl ?_
      exact kk x2 ht.symm
    · have ht := ht.trans (if_neg c3)
      have ko := ko c3
      refine z_iload_n O zd_R_startOfBlock_16 rfl 2 rfl ?_
      refine z_iconst O (v := (-1)) zd_R_startOfBlock_17 (by decide) ?_
      refine z_icmp_eq O (tgt := 37) zd_R_startOfBlock_18 (by decide) (fun c4 => ?_) (fun c4 => ?_)
      · have ht := ht.trans (if_pos c4)
        refine z_sub (lv' := [(2, .int x2)]) [2] rfl ?_
        exact kk x2 ht.symm
      · have ht := ht.trans (if_neg c4)
        have ko := ko c4
        refine z_aload_n O zd_R_startOfBlock_21 rfl 0 rfl ?_
        refine z_aload_n O zd_R_startOfBlock_22 rfl 0 rfl ?_
        refine z_iload_n O zd_R_startOfBlock_23 rfl 2 rfl ?_
        refine z_callri O hl0 (st := [.ref (zq w 6)]) 6 1 (fs := zo6 w σ) rfl rfl (c_R_endOfRun l w σ x2 ko.1) zl_R_70 zm328 zm329 rfl rfl (Nat.le_of_ble_eq_true rfl) (Nat.le_of_ble_eq_true rfl) (Nat.le_of_ble_eq_true rfl) zd_R_startOfBlock_24 (fun r5 e6 => ?_)
        have ht := ht.trans (zlet_e e6)
        have ko := ko.2 r5 e6
        refine z_callri O hl0 (st := []) 6 1 (fs := zo6 w σ) rfl rfl (c_R_blockFrom l w σ r5 ko.1) zl_R_76 zm317 zms3 rfl rfl (Nat.le_of_ble_eq_true rfl) (Nat.le_of_ble_eq_true rfl) (Nat.le_of_ble_eq_true rfl) zd_R_startOfBlock_27 (fun r7 e8 => ?_)
        have ht := ht.trans (zlet_e e8)
        have ko := ko.2 r7 e8
        refine z_istore_n O (lv' := [(2, .int r7), (0, .ref (zq w 6)), (1, .int x1), (3, .int x3)]) zd_R_startOfBlock_30 rfl (Nat.le_of_ble_eq_true rfl) rfl ?_
        refine z_iinc O (v := (x3 + 1)) (lv' := [(3, .int (x3 + 1)), (2, .int r7), (0, .ref (zq w 6)), (1, .int x1)]) zd_R_startOfBlock_31 3 rfl rfl (Nat.le_of_ble_eq_true rfl) rfl ?_
        refine z_goto O (tgt := 11) zd_R_startOfBlock_34 (by decide) ?_
        refine z_sub (lv' := [(0, .ref (zq w 6)), (1, .int x1), (2, .int r7), (3, .int (x3 + 1))]) [2, 3, 1, 0] rfl ?_
        exact ih r7 (x3 + 1) ko (fun r e => kk r (e.trans ht.symm))
set_option maxHeartbeats 4000000 in
set_option maxRecDepth 100000 in
theorem c_R_startOfBlock (l : Launch) (w : zWd) (σ : zSt) (a1 : Int32) (ko : k_R_startOfBlock σ a1) : zMi l ({ cls := "SluiceStream$Receiver", name := "startOfBlock", desc := "(I)I" } : Jvm.MethodName) prog_3_method_9_code 4 3 67 .int w [.ref (zq w 6), .int a1] σ (fun r u => r = (f_R_startOfBlock σ a1) ∧ u = σ) := by
  refine zMi_of (by decide +kernel) (Nat.le_of_ble_eq_true rfl) ?_
  intro K O hl0 E
  have ht : (f_R_startOfBlock σ a1) = (f_R_startOfBlock σ a1) := rfl
  refine z_sub (lv' := [(0, .ref (zq w 6)), (1, .int a1)]) [0, 1] rfl ?_
  refine z_aload_n O zd_R_startOfBlock_0 rfl 0 rfl ?_
  refine z_aload_n O zd_R_startOfBlock_1 rfl 0 rfl ?_
  refine zg_R_22_6 O zd_R_startOfBlock_2 (v := .int (σ 6 2)) rfl ?_
  refine z_callri O hl0 (st := []) 6 1 (fs := zo6 w σ) rfl rfl (c_R_blockFrom l w σ (σ 6 2) ko.1) zl_R_76 zm317 zms3 rfl rfl (Nat.le_of_ble_eq_true rfl) (Nat.le_of_ble_eq_true rfl) (Nat.le_of_ble_eq_true rfl) zd_R_startOfBlock_5 (fun r1 e2 => ?_)
  have ht := ht.trans (zlet_e e2)
  have ko := ko.2 r1 e2
  refine z_istore_n O (lv' := [(2, .int r1), (0, .ref (zq w 6)), (1, .int a1)]) zd_R_startOfBlock_8 rfl (Nat.le_of_ble_eq_true rfl) rfl ?_
  refine z_iconst O (v := 0) zd_R_startOfBlock_9 (by decide) ?_
  refine z_istore_n O (lv' := [(3, .int 0), (2, .int r1), (0, .ref (zq w 6)), (1, .int a1)]) zd_R_startOfBlock_10 rfl (Nat.le_of_ble_eq_true rfl) rfl ?_
  refine z_sub (lv' := [(0, .ref (zq w 6)), (1, .int a1), (2, .int r1), (3, .int 0)]) [2, 3, 1, 0] rfl ?_
  refine L_R_startOfBlock_11 O hl0 σ a1 (((a1).toInt - (0 : Int32).toInt).toNat + 2) r1 0 ko (fun r9 er9 => ?_)
  have ht := ht.trans (zlet_e er9)
  refine z_iload_n O zd_R_startOfBlock_37 rfl 0 rfl ?_
  exact E _ _ _ _ zd_R_startOfBlock_38 rfl ⟨ht.symm, rfl⟩
set_option maxHeartbeats 4000000 in
set_option maxRecDepth 100000 in
theorem c_S_countFlying (l : Launch) (w : zWd) (σ : zSt) (ko : k_S_countFlying σ) : zMi l ({ cls := "SluiceStream$Sender", name := "countFlying", desc := "()I" } : Jvm.MethodName) prog_5_method_2_code 1 2 45 .int w [.ref (zq w 2)] σ (fun r u => r = (f_S_countFlying σ) ∧ u = σ) := by
  refine zMi_of (by decide +kernel) (Nat.le_of_ble_eq_true rfl) ?_
  intro K O hl0 E
  have ht : (f_S_countFlying σ) = (f_S_countFlying σ) := rfl
  refine z_sub (lv' := [(0, .ref (zq w 2))]) [0] rfl ?_
  refine z_aload_n O zd_S_countFlying_0 rfl 0 rfl ?_
  refine zg_S_12_2 O zd_S_countFlying_1 (v := .ref (zq w 3)) rfl ?_
  refine z_aload_n O zd_S_countFlying_4 rfl 0 rfl ?_
  refine zg_S_25_2 O zd_S_countFlying_5 (v := .int (σ 2 2)) rfl ?_
  refine z_aload_n O zd_S_countFlying_8 rfl 0 rfl ?_
  refine zg_S_29_2 O zd_S_countFlying_9 (v := .int (σ 2 3)) rfl ?_
  refine z_callri O hl0 (st := []) 3 0 (fs := zo3 w σ) rfl rfl (c_P_countEmpty_3 l w σ (σ 2 2) (σ 2 3) ko) zl_S_65 zm367 zm368 rfl rfl (Nat.le_of_ble_eq_true rfl) (Nat.le_of_ble_eq_true rfl) (Nat.le_of_ble_eq_true rfl) zd_S_countFlying_12 (fun r1 e2 => ?_)
  have ht := ht.trans (zlet_e e2)
  exact E _ _ _ _ zd_S_countFlying_15 rfl ⟨ht.symm, rfl⟩
set_option maxHeartbeats 4000000 in
set_option maxRecDepth 100000 in
theorem c_S_startOfRepair (l : Launch) (w : zWd) (σ : zSt) (ko : k_S_startOfRepair σ) : zMi l ({ cls := "SluiceStream$Sender", name := "startOfRepair", desc := "()I" } : Jvm.MethodName) prog_5_method_4_code 3 2 44 .int w [.ref (zq w 2)] σ (fun r u => r = (f_S_startOfRepair σ) ∧ u = σ) := by
  refine zMi_of (by decide +kernel) (Nat.le_of_ble_eq_true rfl) ?_
  intro K O hl0 E
  have ht : (f_S_startOfRepair σ) = (f_S_startOfRepair σ) := rfl
  refine z_sub (lv' := [(0, .ref (zq w 2))]) [0] rfl ?_
  refine z_aload_n O zd_S_startOfRepair_0 rfl 0 rfl ?_
  refine zg_S_53_2 O zd_S_startOfRepair_1 (v := .int (σ 2 11)) rfl ?_
  refine z_iconst O (v := (-1)) zd_S_startOfRepair_4 (by decide) ?_
  refine z_icmp_ne O (tgt := 10) zd_S_startOfRepair_5 (by decide) (fun c1 => ?_) (fun c1 => ?_)
  · have ht := ht.trans (if_neg c1)
    have ko := ko c1
    refine z_aload_n O zd_S_startOfRepair_10 rfl 0 rfl ?_
    refine zg_S_12_2 O zd_S_startOfRepair_11 (v := .ref (zq w 3)) rfl ?_
    refine z_aload_n O zd_S_startOfRepair_14 rfl 0 rfl ?_
    refine zg_S_25_2 O zd_S_startOfRepair_15 (v := .int (σ 2 2)) rfl ?_
    refine z_aload_n O zd_S_startOfRepair_18 rfl 0 rfl ?_
    refine zg_S_56_2 O zd_S_startOfRepair_19 (v := .int (σ 2 12)) rfl ?_
    refine z_max O zm370 zm340 zm13 zm341 (Nat.le_of_ble_eq_true rfl) (Nat.le_of_ble_eq_true rfl) zd_S_startOfRepair_22 ?_
    refine z_aload_n O zd_S_startOfRepair_25 rfl 0 rfl ?_
    refine zg_S_29_2 O zd_S_startOfRepair_26 (v := .int (σ 2 3)) rfl ?_
    refine z_callri O hl0 (st := []) 3 0 (fs := zo3 w σ) rfl rfl (c_P_firstEmpty_3 l w σ (if (σ 2 2) < (σ 2 12) then (σ 2 12) else (σ 2 2)) (σ 2 3) ko.1) zl_S_76 zm332 zm333 rfl rfl (Nat.le_of_ble_eq_true rfl) (Nat.le_of_ble_eq_true rfl) (Nat.le_of_ble_eq_true rfl) zd_S_startOfRepair_29 (fun r2 e3 => ?_)
    have ht := ht.trans (zlet_e e3)
    have ko := ko.2 r2 e3
    refine z_istore_n O (lv' := [(1, .int r2), (0, .ref (zq w 2))]) zd_S_startOfRepair_32 rfl (Nat.le_of_ble_eq_true rfl) rfl ?_
    refine z_iload_n O zd_S_startOfRepair_33 rfl 0 rfl ?_
    refine z_aload_n O zd_S_startOfRepair_34 rfl 1 rfl ?_
    refine zg_S_29_2 O zd_S_startOfRepair_35 (v := .int (σ 2 3)) rfl ?_
    refine z_icmp_lt O (tgt := 43) zd_S_startOfRepair_38 (by decide) (fun c4 => ?_) (fun c4 => ?_)
    · have ht := ht.trans (if_pos c4)
      have ko := ko c4
      refine z_aload_n O zd_S_startOfRepair_43 rfl 1 rfl ?_
      refine zg_S_12_2 O zd_S_startOfRepair_44 (v := .ref (zq w 3)) rfl ?_
      refine z_iload_n O zd_S_startOfRepair_47 rfl 0 rfl ?_
      refine z_aload_n O zd_S_startOfRepair_48 rfl 1 rfl ?_
      refine zg_S_32_2 O zd_S_startOfRepair_49 (v := .int (σ 2 4)) rfl ?_
      refine z_callri O hl0 (st := []) 3 0 (fs := zo3 w σ) rfl rfl (c_P_firstFilled_3 l w σ r2 (σ 2 4) ko) zl_S_100 zm320 zm321 rfl rfl (Nat.le_of_ble_eq_true rfl) (Nat.le_of_ble_eq_true rfl) (Nat.le_of_ble_eq_true rfl) zd_S_startOfRepair_52 (fun r5 e6 => ?_)
      have ht := ht.trans (zlet_e e6)
      refine z_aload_n O zd_S_startOfRepair_55 rfl 1 rfl ?_
      refine zg_S_32_2 O zd_S_startOfRepair_56 (v := .int (σ 2 4)) rfl ?_
      refine z_icmp_ge O (tgt := 66) zd_S_startOfRepair_59 (by decide) (fun c7 => ?_) (fun c7 => ?_)
      · have ht := ht.trans (if_pos c7)
        refine z_iconst O (v := 0) zd_S_startOfRepair_66 (by decide) ?_
        refine z_istore_n O (lv' := [(2, .int 0), (1, .int r2), (0, .ref (zq w 2))]) zd_S_startOfRepair_67 rfl (Nat.le_of_ble_eq_true rfl) rfl ?_
        refine z_iload_n O zd_S_startOfRepair_68 rfl 1 rfl ?_
        refine z_aload_n O zd_S_startOfRepair_69 rfl 2 rfl ?_
        refine zg_S_25_2 O zd_S_startOfRepair_70 (v := .int (σ 2 2)) rfl ?_
        refine z_icmp_eq O (tgt := 80) zd_S_startOfRepair_73 (by decide) (fun c8 => ?_) (fun c8 => ?_)
        · have ht := ht.trans (if_pos c8)
          refine z_iload_n O zd_S_startOfRepair_80 rfl 1 rfl ?_
          refine z_goto O (tgt := 85) zd_S_startOfRepair_81 (by decide) ?_
          exact E _ _ _ _ zd_S_startOfRepair_85 rfl ⟨ht.symm, rfl⟩
        · have ht := ht.trans (if_neg c8)
          refine z_iload_n O zd_S_startOfRepair_76 rfl 0 rfl ?_
          refine z_if_eq O (tgt := 84) zd_S_startOfRepair_77 (by decide) (fun c9 => ?_) (fun c9 => absurd c9 (by decide))
          refine z_iconst O (v := (-1)) zd_S_startOfRepair_84 (by decide) ?_
          exact E _ _ _ _ zd_S_startOfRepair_85 rfl ⟨ht.symm, rfl⟩
      · have ht := ht.trans (if_neg c7)
        refine z_iconst O (v := 1) zd_S_startOfRepair_62 (by decide) ?_
        refine z_goto O (tgt := 67) zd_S_startOfRepair_63 (by decide) ?_
        refine z_istore_n O (lv' := [(2, .int 1), (1, .int r2), (0, .ref (zq w 2))]) zd_S_startOfRepair_67 rfl (Nat.le_of_ble_eq_true rfl) rfl ?_
        refine z_iload_n O zd_S_startOfRepair_68 rfl 1 rfl ?_
        refine z_aload_n O zd_S_startOfRepair_69 rfl 2 rfl ?_
        refine zg_S_25_2 O zd_S_startOfRepair_70 (v := .int (σ 2 2)) rfl ?_
        refine z_icmp_eq O (tgt := 80) zd_S_startOfRepair_73 (by decide) (fun c10 => ?_) (fun c10 => ?_)
        · have ht := ht.trans (if_pos c10)
          refine z_iload_n O zd_S_startOfRepair_80 rfl 1 rfl ?_
          refine z_goto O (tgt := 85) zd_S_startOfRepair_81 (by decide) ?_
          exact E _ _ _ _ zd_S_startOfRepair_85 rfl ⟨ht.symm, rfl⟩
        · have ht := ht.trans (if_neg c10)
          refine z_iload_n O zd_S_startOfRepair_76 rfl 0 rfl ?_
          refine z_if_eq O (tgt := 84) zd_S_startOfRepair_77 (by decide) (fun c11 => absurd c11 (by decide)) (fun c11 => ?_)
          refine z_iload_n O zd_S_startOfRepair_80 rfl 1 rfl ?_
          refine z_goto O (tgt := 85) zd_S_startOfRepair_81 (by decide) ?_
          exact E _ _ _ _ zd_S_startOfRepair_85 rfl ⟨ht.symm, rfl⟩
    · have ht := ht.trans (if_neg c4)
      refine z_iconst O (v := (-1)) zd_S_startOfRepair_41 (by decide) ?_
      exact E _ _ _ _ zd_S_startOfRepair_42 rfl ⟨ht.symm, rfl⟩
  · have ht := ht.trans (if_pos c1)
    refine z_iconst O (v := (-1)) zd_S_startOfRepair_8 (by decide) ?_
    exact E _ _ _ _ zd_S_startOfRepair_9 rfl ⟨ht.symm, rfl⟩
set_option maxHeartbeats 4000000 in
set_option maxRecDepth 100000 in
theorem c_S_endOfRun (l : Launch) (w : zWd) (σ : zSt) (a1 : Int32) (a2 : Int32) (ko : k_S_endOfRun σ a1 a2) : zMi l ({ cls := "SluiceStream$Sender", name := "endOfRun", desc := "(II)I" } : Jvm.MethodName) prog_5_method_5_code 3 2 44 .int w [.ref (zq w 2), .int a1, .int a2] σ (fun r u => r = (f_S_endOfRun σ a1 a2) ∧ u = σ) := by
  refine zMi_of (by decide +kernel) (Nat.le_of_ble_eq_true rfl) ?_
  intro K O hl0 E
  have ht : (f_S_endOfRun σ a1 a2) = (f_S_endOfRun σ a1 a2) := rfl
  refine z_sub (lv' := [(0, .ref (zq w 2)), (1, .int a1), (2, .int a2)]) [0, 1, 2] rfl ?_
  refine z_aload_n O zd_S_endOfRun_0 rfl 0 rfl ?_
  refine zg_S_12_2 O zd_S_endOfRun_1 (v := .ref (zq w 3)) rfl ?_
  refine z_iload_n O zd_S_endOfRun_4 rfl 1 rfl ?_
  refine z_iload_n O zd_S_endOfRun_5 rfl 1 rfl ?_
  refine z_iconst O (v := 4) zd_S_endOfRun_6 (by decide) ?_
  refine z_iadd O zd_S_endOfRun_7 ?_
  refine z_iload_n O zd_S_endOfRun_8 rfl 2 rfl ?_
  refine z_min O zm602 zm376 zm13 zm377 (Nat.le_of_ble_eq_true rfl) (Nat.le_of_ble_eq_true rfl) zd_S_endOfRun_9 ?_
  refine z_callri O hl0 (st := []) 3 0 (fs := zo3 w σ) rfl rfl (c_P_firstFilled_3 l w σ a1 (if a2 < (a1 + 4) then a2 else (a1 + 4)) ko) zl_S_100 zm320 zm321 rfl rfl (Nat.le_of_ble_eq_true rfl) (Nat.le_of_ble_eq_true rfl) (Nat.le_of_ble_eq_true rfl) zd_S_endOfRun_12 (fun r1 e2 => ?_)
  have ht := ht.trans (zlet_e e2)
  exact E _ _ _ _ zd_S_endOfRun_15 rfl ⟨ht.symm, rfl⟩
set_option maxHeartbeats 4000000 in
set_option maxRecDepth 100000 in
theorem c_S_endOfFresh (l : Launch) (w : zWd) (σ : zSt) (ko : k_S_endOfFresh σ) : zMi l ({ cls := "SluiceStream$Sender", name := "endOfFresh", desc := "()I" } : Jvm.MethodName) prog_5_method_6_code 4 3 66 .int w [.ref (zq w 2)] σ (fun r u => r = (f_S_endOfFresh σ) ∧ u = σ) := by
  refine zMi_of (by decide +kernel) (Nat.le_of_ble_eq_true rfl) ?_
  intro K O hl0 E
  have ht : (f_S_endOfFresh σ) = (f_S_endOfFresh σ) := rfl
  refine z_sub (lv' := [(0, .ref (zq w 2))]) [0] rfl ?_
  refine z_aload_n O zd_S_endOfFresh_0 rfl 0 rfl ?_
  refine zg_S_29_2 O zd_S_endOfFresh_1 (v := .int (σ 2 3)) rfl ?_
  refine z_aload_n O zd_S_endOfFresh_4 rfl 0 rfl ?_
  refine zg_S_35_2 O zd_S_endOfFresh_5 (v := .int (σ 2 5)) rfl ?_
  refine z_icmp_lt O (tgt := 16) zd_S_endOfFresh_8 (by decide) (fun c1 => ?_) (fun c1 => ?_)
  · have ht := ht.trans (if_pos c1)
    have ko := ko c1
    refine z_aload_n O zd_S_endOfFresh_16 rfl 0 rfl ?_
    refine z_callri O hl0 (st := []) 2 3 (fs := zo2 w σ) rfl rfl (c_S_countFlying l w σ ko.1) zl_S_106 zm363 zm364 rfl rfl (Nat.le_of_ble_eq_true rfl) (Nat.le_of_ble_eq_true rfl) (Nat.le_of_ble_eq_true rfl) zd_S_endOfFresh_17 (fun r2 e3 => ?_)
    have ht := ht.trans (zlet_e e3)
    have ko := ko.2 r2 e3
    refine z_istore_n O (lv' := [(1, .int r2), (0, .ref (zq w 2))]) zd_S_endOfFresh_20 rfl (Nat.le_of_ble_eq_true rfl) rfl ?_
    refine z_aload_n O zd_S_endOfFresh_21 rfl 1 rfl ?_
    refine zg_S_29_2 O zd_S_endOfFresh_22 (v := .int (σ 2 3)) rfl ?_
    refine z_aload_n O zd_S_endOfFresh_25 rfl 1 rfl ?_
    refine zg_S_38_2 O zd_S_endOfFresh_26 (v := .int (σ 2 6)) rfl ?_
    refine z_icmp_lt O (tgt := 50) zd_S_endOfFresh_29 (by decide) (fun c4 => ?_) (fun c4 => ?_)
    · have ht := ht.trans (if_pos c4)
      have ko := ko c4
      refine z_aload_n O zd_S_endOfFresh_50 rfl 1 rfl ?_
      refine z_aload_n O zd_S_endOfFresh_51 rfl 1 rfl ?_
      refine zg_S_29_2 O zd_S_endOfFresh_52 (v := .int (σ 2 3)) rfl ?_
      refine z_aload_n O zd_S_endOfFresh_55 rfl 1 rfl ?_
      refine zg_S_35_2 O zd_S_endOfFresh_56 (v := .int (σ 2 5)) rfl ?_
      refine z_aload_n O zd_S_endOfFresh_59 rfl 1 rfl ?_
      refine zg_S_38_2 O zd_S_endOfFresh_60 (v := .int (σ 2 6)) rfl ?_
      refine z_min O zm602 zm376 zm13 zm377 (Nat.le_of_ble_eq_true rfl) (Nat.le_of_ble_eq_true rfl) zd_S_endOfFresh_63 ?_
      refine z_callri O hl0 (st := []) 2 3 (fs := zo2 w σ) rfl rfl (c_S_endOfRun l w σ (σ 2 3) (if (σ 2 6) < (σ 2 5) then (σ 2 6) else (σ 2 5)) ko) zl_S_73 zm600 zms7 rfl rfl (Nat.le_of_ble_eq_true rfl) (Nat.le_of_ble_eq_true rfl) (Nat.le_of_ble_eq_true rfl) zd_S_endOfFresh_66 (fun r5 e6 => ?_)
      have ht := ht.trans (zlet_e e6)
      refine z_istore_n O (lv' := [(2, .int r5), (1, .int r2), (0, .ref (zq w 2))]) zd_S_endOfFresh_69 rfl (Nat.le_of_ble_eq_true rfl) rfl ?_
      refine z_iload_n O zd_S_endOfFresh_70 rfl 1 rfl ?_
      refine z_iload_n O zd_S_endOfFresh_71 rfl 0 rfl ?_
      refine z_iadd O zd_S_endOfFresh_72 ?_
      refine z_aload_n O zd_S_endOfFresh_73 rfl 2 rfl ?_
      refine zg_S_29_2 O zd_S_endOfFresh_74 (v := .int (σ 2 3)) rfl ?_
      refine z_isub O zd_S_endOfFresh_77 ?_
      refine z_aload_n O zd_S_endOfFresh_78 rfl 2 rfl ?_
      refine zg_S_41_2 O zd_S_endOfFresh_79 (v := .int (σ 2 7)) rfl ?_
      refine z_aload_n O zd_S_endOfFresh_82 rfl 2 rfl ?_
      refine zg_S_47_2 O zd_S_endOfFresh_83 (v := .int (σ 2 9)) rfl ?_
      refine z_min O zm602 zm376 zm13 zm377 (Nat.le_of_ble_eq_true rfl) (Nat.le_of_ble_eq_true rfl) zd_S_endOfFresh_86 ?_
      refine z_icmp_gt O (tgt := 96) zd_S_endOfFresh_89 (by decide) (fun c7 => ?_) (fun c7 => ?_)
      · have ht := ht.trans (if_pos c7)
        refine z_iconst O (v := 0) zd_S_endOfFresh_96 (by decide) ?_
        refine z_istore_n O (lv' := [(3, .int 0), (2, .int r5), (1, .int r2), (0, .ref (zq w 2))]) zd_S_endOfFresh_97 rfl (Nat.le_of_ble_eq_true rfl) rfl ?_
        refine z_iload_n O zd_S_endOfFresh_98 rfl 2 rfl ?_
        refine z_if_eq O (tgt := 106) zd_S_endOfFresh_99 (by decide) (fun c8 => ?_) (fun c8 => ?_)
        · have ht := ht.trans (if_pos c8)
          refine z_iload_n O zd_S_endOfFresh_106 rfl 1 rfl ?_
          refine z_goto O (tgt := 114) zd_S_endOfFresh_107 (by decide) ?_
          exact E _ _ _ _ zd_S_endOfFresh_114 rfl ⟨ht.symm, rfl⟩
        · have ht := ht.trans (if_neg c8)
          refine z_iload_n O zd_S_endOfFresh_102 rfl 0 rfl ?_
          refine z_if_eq O (tgt := 110) zd_S_endOfFresh_103 (by decide) (fun c9 => ?_) (fun c9 => absurd c9 (by decide))
          refine z_aload_n O zd_S_endOfFresh_110 rfl 3 rfl ?_
          refine zg_S_29_2 O zd_S_endOfFresh_111 (v := .int (σ 2 3)) rfl ?_
          exact E _ _ _ _ zd_S_endOfFresh_114 rfl ⟨ht.symm, rfl⟩
      · have ht := ht.trans (if_neg c7)
        refine z_iconst O (v := 1) zd_S_endOfFresh_92 (by decide) ?_
        refine z_goto O (tgt := 97) zd_S_endOfFresh_93 (by decide) ?_
        refine z_istore_n O (lv' := [(3, .int 1), (2, .int r5), (1, .int r2), (0, .ref (zq w 2))]) zd_S_endOfFresh_97 rfl (Nat.le_of_ble_eq_true rfl) rfl ?_
        refine z_iload_n O zd_S_endOfFresh_98 rfl 2 rfl ?_
        refine z_if_eq O (tgt := 106) zd_S_endOfFresh_99 (by decide) (fun c10 => ?_) (fun c10 => ?_)
        · have ht := ht.trans (if_pos c10)
          refine z_iload_n O zd_S_endOfFresh_106 rfl 1 rfl ?_
          refine z_goto O (tgt := 114) zd_S_endOfFresh_107 (by decide) ?_
          exact E _ _ _ _ zd_S_endOfFresh_114 rfl ⟨ht.symm, rfl⟩
        · have ht := ht.trans (if_neg c10)
          refine z_iload_n O zd_S_endOfFresh_102 rfl 0 rfl ?_
          refine z_if_eq O (tgt := 110) zd_S_endOfFresh_103 (by decide) (fun c11 => absurd c11 (by decide)) (fun c11 => ?_)
          refine z_iload_n O zd_S_endOfFresh_106 rfl 1 rfl ?_
          refine z_goto O (tgt := 114) zd_S_endOfFresh_107 (by decide) ?_
          exact E _ _ _ _ zd_S_endOfFresh_114 rfl ⟨ht.symm, rfl⟩
    · have ht := ht.trans (if_neg c4)
      refine z_iload_n O zd_S_endOfFresh_32 rfl 0 rfl ?_
      refine z_if_ne O (tgt := 45) zd_S_endOfFresh_33 (by decide) (fun c12 => ?_) (fun c12 => ?_)
      · have ht := ht.trans (if_neg c12)
        refine z_aload_n O zd_S_endOfFresh_45 rfl 1 rfl ?_
        refine zg_S_29_2 O zd_S_endOfFresh_46 (v := .int (σ 2 3)) rfl ?_
        exact E _ _ _ _ zd_S_endOfFresh_49 rfl ⟨ht.symm, rfl⟩
      · have ht := ht.trans (if_pos c12)
        refine z_aload_n O zd_S_endOfFresh_36 rfl 1 rfl ?_
        refine zg_S_29_2 O zd_S_endOfFresh_37 (v := .int (σ 2 3)) rfl ?_
        refine z_iconst O (v := 1) zd_S_endOfFresh_40 (by decide) ?_
        refine z_iadd O zd_S_endOfFresh_41 ?_
        refine z_goto O (tgt := 49) zd_S_endOfFresh_42 (by decide) ?_
        exact E _ _ _ _ zd_S_endOfFresh_49 rfl ⟨ht.symm, rfl⟩
  · have ht := ht.trans (if_neg c1)
    refine z_aload_n O zd_S_endOfFresh_11 rfl 0 rfl ?_
    refine zg_S_29_2 O zd_S_endOfFresh_12 (v := .int (σ 2 3)) rfl ?_
    exact E _ _ _ _ zd_S_endOfFresh_15 rfl ⟨ht.symm, rfl⟩
set_option maxHeartbeats 4000000 in
set_option maxRecDepth 100000 in
theorem c_S_noteSent (l : Launch) (w : zWd) (σ : zSt) (a1 : Int32) (a2 : Int32) : zMv l ({ cls := "SluiceStream$Sender", name := "noteSent", desc := "(II)V" } : Jvm.MethodName) prog_5_method_7_code 3 2 40 w [.ref (zq w 2), .int a1, .int a2] σ (fun u => u = (f_S_noteSent σ a1 a2)) := by
  refine zMv_of (by decide +kernel) (Nat.le_of_ble_eq_true rfl) ?_
  intro K O hl0 E
  have ht : (f_S_noteSent σ a1 a2) = (f_S_noteSent σ a1 a2) := rfl
  refine z_sub (lv' := [(0, .ref (zq w 2)), (1, .int a1), (2, .int a2)]) [0, 1, 2] rfl ?_
  refine z_aload_n O zd_S_noteSent_0 rfl 0 rfl ?_
  refine z_dup O zd_S_noteSent_1 rfl ?_
  refine zg_S_59_2 O zd_S_noteSent_2 (v := .int (σ 2 13)) rfl ?_
  refine z_iconst O (v := 1) zd_S_noteSent_5 (by decide) ?_
  refine z_iadd O zd_S_noteSent_6 ?_
  refine zp_S_59_2 O zd_S_noteSent_7 ?_
  refine z_iload_n O zd_S_noteSent_10 rfl 1 rfl ?_
  refine z_aload_n O zd_S_noteSent_11 rfl 0 rfl ?_
  refine zg_S_32_2 O zd_S_noteSent_12 (v := .int (σ 2 4)) rfl ?_
  refine z_icmp_ge O (tgt := 31) zd_S_noteSent_15 (by decide) (fun c1 => ?_) (fun c1 => ?_)
  · have ht := ht.trans (if_pos c1)
    refine z_aload_n O zd_S_noteSent_31 rfl 0 rfl ?_
    refine zg_S_21_2 O zd_S_noteSent_32 (v := .ref (zq w 5)) rfl ?_
    refine z_iload_n O zd_S_noteSent_35 rfl 2 rfl ?_
    refine z_callv O hl0 (st := []) 5 4 (fs := zo5 w (zuf σ 2 13 ((σ 2 13) + 1))) rfl rfl (c_T_timeSegment l w (zuf σ 2 13 ((σ 2 13) + 1)) a2) zl_S_109 zm612 zm613 rfl rfl (Nat.le_of_ble_eq_true rfl) (Nat.le_of_ble_eq_true rfl) (Nat.le_of_ble_eq_true rfl) zd_S_noteSent_36 (fun u2 e3 => ?_)
    have ht := ht.trans (zlet_e e3)
    refine z_aload_n O zd_S_noteSent_39 rfl 0 rfl ?_
    refine z_aload_n O zd_S_noteSent_40 rfl 0 rfl ?_
    refine zg_S_32_2 O zd_S_noteSent_41 (v := .int (u2 2 4)) rfl ?_
    refine z_aload_n O zd_S_noteSent_44 rfl 0 rfl ?_
    refine zg_S_29_2 O zd_S_noteSent_45 (v := .int (u2 2 3)) rfl ?_
    refine z_max O zm370 zm340 zm13 zm341 (Nat.le_of_ble_eq_true rfl) (Nat.le_of_ble_eq_true rfl) zd_S_noteSent_48 ?_
    refine zp_S_32_2 O zd_S_noteSent_51 ?_
    refine z_aload_n O zd_S_noteSent_54 rfl 0 rfl ?_
    refine zg_S_21_2 O zd_S_noteSent_55 (v := .ref (zq w 5)) rfl ?_
    refine z_callv O hl0 (st := []) 5 4 (fs := zo5 w (zuf u2 2 4 (if (u2 2 4) < (u2 2 3) then (u2 2 3) else (u2 2 4)))) rfl rfl (c_T_startIfStopped l w (zuf u2 2 4 (if (u2 2 4) < (u2 2 3) then (u2 2 3) else (u2 2 4)))) zl_S_113 zm616 zm617 rfl rfl (Nat.le_of_ble_eq_true rfl) (Nat.le_of_ble_eq_true rfl) (Nat.le_of_ble_eq_true rfl) zd_S_noteSent_58 (fun u4 e5 => ?_)
    have ht := ht.trans (zlet_e e5)
    exact E _ _ _ zd_S_noteSent_61 ht.symm
  · have ht := ht.trans (if_neg c1)
    refine z_aload_n O zd_S_noteSent_18 rfl 0 rfl ?_
    refine z_dup O zd_S_noteSent_19 rfl ?_
    refine zg_S_62_2 O zd_S_noteSent_20 (v := .int (σ 2 14)) rfl ?_
    refine z_iconst O (v := 1) zd_S_noteSent_23 (by decide) ?_
    refine z_iadd O zd_S_noteSent_24 ?_
    refine zp_S_62_2 O zd_S_noteSent_25 ?_
    refine z_goto O (tgt := 39) zd_S_noteSent_28 (by decide) ?_
    refine z_aload_n O zd_S_noteSent_39 rfl 0 rfl ?_
    refine z_aload_n O zd_S_noteSent_40 rfl 0 rfl ?_
    refine zg_S_32_2 O zd_S_noteSent_41 (v := .int (σ 2 4)) rfl ?_
    refine z_aload_n O zd_S_noteSent_44 rfl 0 rfl ?_
    refine zg_S_29_2 O zd_S_noteSent_45 (v := .int (σ 2 3)) rfl ?_
    refine z_max O zm370 zm340 zm13 zm341 (Nat.le_of_ble_eq_true rfl) (Nat.le_of_ble_eq_true rfl) zd_S_noteSent_48 ?_
    refine zp_S_32_2 O zd_S_noteSent_51 ?_
    refine z_aload_n O zd_S_noteSent_54 rfl 0 rfl ?_
    refine zg_S_21_2 O zd_S_noteSent_55 (v := .ref (zq w 5)) rfl ?_
    refine z_callv O hl0 (st := []) 5 4 (fs := zo5 w (zuf (zuf (zuf σ 2 13 ((σ 2 13) + 1)) 2 14 ((σ 2 14) + 1)) 2 4 (if (σ 2 4) < (σ 2 3) then (σ 2 3) else (σ 2 4)))) rfl rfl (c_T_startIfStopped l w (zuf (zuf (zuf σ 2 13 ((σ 2 13) + 1)) 2 14 ((σ 2 14) + 1)) 2 4 (if (σ 2 4) < (σ 2 3) then (σ 2 3) else (σ 2 4)))) zl_S_113 zm616 zm617 rfl rfl (Nat.le_of_ble_eq_true rfl) (Nat.le_of_ble_eq_true rfl) (Nat.le_of_ble_eq_true rfl) zd_S_noteSent_58 (fun u6 e7 => ?_)
    have ht := ht.trans (zlet_e e7)
    exact E _ _ _ zd_S_noteSent_61 ht.symm
set_option maxHeartbeats 4000000 in
set_option maxRecDepth 100000 in
theorem c_S_sendInto (l : Launch) (w : zWd) (σ : zSt) (ko : k_S_sendInto σ) : zMi l ({ cls := "SluiceStream$Sender", name := "sendInto", desc := "(LSluiceStream$Rows;)I" } : Jvm.MethodName) prog_5_method_3_code 5 4 89 .int w [.ref (zq w 2), .ref (zq w 9)] σ (fun r u => (r, u) = (f_S_sendInto σ)) := by
  refine zMi_of (by decide +kernel) (Nat.le_of_ble_eq_true rfl) ?_
  intro K O hl0 E
  have ht : (f_S_sendInto σ) = (f_S_sendInto σ) := rfl
  refine z_sub (lv' := [(0, .ref (zq w 2)), (1, .ref (zq w 9))]) [0, 1] rfl ?_
  refine z_aload_n O zd_S_sendInto_0 rfl 0 rfl ?_
  refine z_callri O hl0 (st := []) 2 3 (fs := zo2 w σ) rfl rfl (c_S_startOfRepair l w σ ko.1) zl_S_69 zm594 zms6 rfl rfl (Nat.le_of_ble_eq_true rfl) (Nat.le_of_ble_eq_true rfl) (Nat.le_of_ble_eq_true rfl) zd_S_sendInto_1 (fun r1 e2 => ?_)
  have ht := ht.trans (zlet_e e2)
  have ko := ko.2 r1 e2
  refine z_istore_n O (lv' := [(2, .int r1), (0, .ref (zq w 2)), (1, .ref (zq w 9))]) zd_S_sendInto_4 rfl (Nat.le_of_ble_eq_true rfl) rfl ?_
  refine z_iload_n O zd_S_sendInto_5 rfl 0 rfl ?_
  refine z_iconst O (v := (-1)) zd_S_sendInto_6 (by decide) ?_
  refine z_icmp_eq O (tgt := 28) zd_S_sendInto_7 (by decide) (fun c3 => ?_) (fun c3 => ?_)
  · have ht := ht.trans (if_pos c3)
    have ko := ko.1 c3
    refine z_aload_n O zd_S_sendInto_28 rfl 1 rfl ?_
    refine z_aload_n O zd_S_sendInto_29 rfl 1 rfl ?_
    refine zg_S_12_2 O zd_S_sendInto_30 (v := .ref (zq w 3)) rfl ?_
    refine z_aload_n O zd_S_sendInto_33 rfl 1 rfl ?_
    refine zg_S_29_2 O zd_S_sendInto_34 (v := .int (σ 2 3)) rfl ?_
    refine z_aload_n O zd_S_sendInto_37 rfl 1 rfl ?_
    refine zg_S_35_2 O zd_S_sendInto_38 (v := .int (σ 2 5)) rfl ?_
    refine z_callri O hl0 (st := [.ref (zq w 2)]) 3 0 (fs := zo3 w σ) rfl rfl (c_P_firstEmpty_3 l w σ (σ 2 3) (σ 2 5) ko.1) zl_S_76 zm332 zm333 rfl rfl (Nat.le_of_ble_eq_true rfl) (Nat.le_of_ble_eq_true rfl) (Nat.le_of_ble_eq_true rfl) zd_S_sendInto_41 (fun r4 e5 => ?_)
    have ht := ht.trans (zlet_e e5)
    have ko := ko.2 r4 e5
    refine zp_S_29_2 O zd_S_sendInto_44 ?_
    refine z_aload_n O zd_S_sendInto_47 rfl 1 rfl ?_
    refine zg_S_29_2 O zd_S_sendInto_48 (v := .int r4) rfl ?_
    refine z_istore_n O (lv' := [(2, .int r4), (0, .ref (zq w 2)), (1, .ref (zq w 9))]) zd_S_sendInto_51 rfl (Nat.le_of_ble_eq_true rfl) rfl ?_
    refine z_aload_n O zd_S_sendInto_52 rfl 1 rfl ?_
    refine z_callri O hl0 (st := []) 2 3 (fs := zo2 w (zuf σ 2 3 r4)) rfl rfl (c_S_endOfFresh l w (zuf σ 2 3 r4) ko.1) zl_S_79 zm605 zms8 rfl rfl (Nat.le_of_ble_eq_true rfl) (Nat.le_of_ble_eq_true rfl) (Nat.le_of_ble_eq_true rfl) zd_S_sendInto_53 (fun r6 e7 => ?_)
    have ht := ht.trans (zlet_e e7)
    have ko := ko.2 r6 e7
    refine z_istore_n O (lv' := [(3, .int r6), (2, .int r4), (0, .ref (zq w 2)), (1, .ref (zq w 9))]) zd_S_sendInto_56 rfl (Nat.le_of_ble_eq_true rfl) rfl ?_
    refine z_aload_n O zd_S_sendInto_57 rfl 2 rfl ?_
    refine z_iload_n O zd_S_sendInto_58 rfl 0 rfl ?_
    refine zp_S_29_2 O zd_S_sendInto_59 ?_
    refine z_iload_n O zd_S_sendInto_62 rfl 0 rfl ?_
    refine z_iload_n O zd_S_sendInto_63 rfl 1 rfl ?_
    refine z_icmp_le O (tgt := 95) zd_S_sendInto_64 (by decide) (fun c8 => ?_) (fun c8 => ?_)
    · have ht := ht.trans (if_pos c8)
      refine z_iload_n O zd_S_sendInto_95 rfl 0 rfl ?_
      refine z_iload_n O zd_S_sendInto_96 rfl 1 rfl ?_
      refine z_isub O zd_S_sendInto_97 ?_
      exact E _ _ _ _ zd_S_sendInto_98 rfl ht.symm
    · have ht := ht.trans (if_neg c8)
      have ko := ko c8
      refine z_aload_n O zd_S_sendInto_67 rfl 2 rfl ?_
      refine z_iload_n O zd_S_sendInto_68 rfl 1 rfl ?_
      refine z_iload_n O zd_S_sendInto_69 rfl 0 rfl ?_
      refine z_callv O hl0 (st := []) 2 3 (fs := zo2 w (zuf (zuf σ 2 3 r4) 2 3 r6)) rfl rfl (c_S_noteSent l w (zuf (zuf σ 2 3 r4) 2 3 r6) r4 r6) zl_S_82 zm609 zms9 rfl rfl (Nat.le_of_ble_eq_true rfl) (Nat.le_of_ble_eq_true rfl) (Nat.le_of_ble_eq_true rfl) zd_S_sendInto_70 (fun u9 e10 => ?_)
      have ht := ht.trans (zlet_e e10)
      have ko := ko u9 e10
      refine z_aload_n O zd_S_sendInto_73 rfl 3 rfl ?_
      refine z_calli O hl0 (st := []) 9 2 (fs := zo9 w u9) rfl rfl (c_W_addRow_9 l w u9) zl_S_86 zm300 zm301 rfl rfl (Nat.le_of_ble_eq_true rfl) (Nat.le_of_ble_eq_true rfl) (Nat.le_of_ble_eq_true rfl) zd_S_sendInto_74 (fun r11 u12 e13 => ?_)
      have ht := ht.trans (zseq_e e13)
      have ko := ko r11 u12 e13
      refine z_istore O (lv' := [(4, .int r11), (3, .int r6), (2, .int r4), (0, .ref (zq w 2)), (1, .ref (zq w 9))]) zd_S_sendInto_77 (Nat.le_of_ble_eq_true rfl) rfl ?_
      refine z_aload_n O zd_S_sendInto_79 rfl 4 rfl ?_
      refine z_iload O zd_S_sendInto_80 0 rfl ?_
      refine z_iconst O (v := 0) zd_S_sendInto_82 (by decide) ?_
      refine z_iload_n O zd_S_sendInto_83 rfl 2 rfl ?_
      refine z_callv O hl0 (st := []) 9 2 (fs := zo9 w u12) rfl rfl (c_W_setCell_9 l w u12 r11 0 r4 ko.1) zl_S_91 zm304 zm305 rfl rfl (Nat.le_of_ble_eq_true rfl) (Nat.le_of_ble_eq_true rfl) (Nat.le_of_ble_eq_true rfl) zd_S_sendInto_84 (fun u14 e15 => ?_)
      have ht := ht.trans (zlet_e e15)
      have ko := ko.2 u14 e15
      refine z_aload_n O zd_S_sendInto_87 rfl 4 rfl ?_
      refine z_iload O zd_S_sendInto_88 0 rfl ?_
      refine z_iconst O (v := 1) zd_S_sendInto_90 (by decide) ?_
      refine z_iload_n O zd_S_sendInto_91 rfl 1 rfl ?_
      refine z_callv O hl0 (st := []) 9 2 (fs := zo9 w u14) rfl rfl (c_W_setCell_9 l w u14 r11 1 r6 ko) zl_S_91 zm304 zm305 rfl rfl (Nat.le_of_ble_eq_true rfl) (Nat.le_of_ble_eq_true rfl) (Nat.le_of_ble_eq_true rfl) zd_S_sendInto_92 (fun u16 e17 => ?_)
      have ht := ht.trans (zlet_e e17)
      refine z_iload_n O zd_S_sendInto_95 rfl 1 rfl ?_
      refine z_iload_n O zd_S_sendInto_96 rfl 2 rfl ?_
      refine z_isub O zd_S_sendInto_97 ?_
      exact E _ _ _ _ zd_S_sendInto_98 rfl ht.symm
  · have ht := ht.trans (if_neg c3)
    have ko := ko.2 c3
    refine z_aload_n O zd_S_sendInto_10 rfl 1 rfl ?_
    refine z_iload_n O zd_S_sendInto_11 rfl 0 rfl ?_
    refine z_aload_n O zd_S_sendInto_12 rfl 1 rfl ?_
    refine zg_S_29_2 O zd_S_sendInto_13 (v := .int (σ 2 3)) rfl ?_
    refine z_callri O hl0 (st := []) 2 3 (fs := zo2 w σ) rfl rfl (c_S_endOfRun l w σ r1 (σ 2 3) ko.1) zl_S_73 zm600 zms7 rfl rfl (Nat.le_of_ble_eq_true rfl) (Nat.le_of_ble_eq_true rfl) (Nat.le_of_ble_eq_true rfl) zd_S_sendInto_16 (fun r18 e19 => ?_)
    have ht := ht.trans (zlet_e e19)
    have ko := ko.2 r18 e19
    refine z_istore_n O (lv' := [(3, .int r18), (2, .int r1), (0, .ref (zq w 2)), (1, .ref (zq w 9))]) zd_S_sendInto_19 rfl (Nat.le_of_ble_eq_true rfl) rfl ?_
    refine z_aload_n O zd_S_sendInto_20 rfl 2 rfl ?_
    refine z_iload_n O zd_S_sendInto_21 rfl 0 rfl ?_
    refine zp_S_56_2 O zd_S_sendInto_22 ?_
    refine z_goto O (tgt := 62) zd_S_sendInto_25 (by decide) ?_
    refine z_iload_n O zd_S_sendInto_62 rfl 0 rfl ?_
    refine z_iload_n O zd_S_sendInto_63 rfl 1 rfl ?_
    refine z_icmp_le O (tgt := 95) zd_S_sendInto_64 (by decide) (fun c20 => ?_) (fun c20 => ?_)
    · have ht := ht.trans (if_pos c20)
      refine z_iload_n O zd_S_sendInto_95 rfl 0 rfl ?_
      refine z_iload_n O zd_S_sendInto_96 rfl 1 rfl ?_
      refine z_isub O zd_S_sendInto_97 ?_
      exact E _ _ _ _ zd_S_sendInto_98 rfl ht.symm
    · have ht := ht.trans (if_neg c20)
      have ko := ko c20
      refine z_aload_n O zd_S_sendInto_67 rfl 2 rfl ?_
      refine z_iload_n O zd_S_sendInto_68 rfl 1 rfl ?_
      refine z_iload_n O zd_S_sendInto_69 rfl 0 rfl ?_
      refine z_callv O hl0 (st := []) 2 3 (fs := zo2 w (zuf σ 2 12 r18)) rfl rfl (c_S_noteSent l w (zuf σ 2 12 r18) r1 r18) zl_S_82 zm609 zms9 rfl rfl (Nat.le_of_ble_eq_true rfl) (Nat.le_of_ble_eq_true rfl) (Nat.le_of_ble_eq_true rfl) zd_S_sendInto_70 (fun u21 e22 => ?_)
      have ht := ht.trans (zlet_e e22)
      have ko := ko u21 e22
      refine z_aload_n O zd_S_sendInto_73 rfl 3 rfl ?_
      refine z_calli O hl0 (st := []) 9 2 (fs := zo9 w u21) rfl rfl (c_W_addRow_9 l w u21) zl_S_86 zm300 zm301 rfl rfl (Nat.le_of_ble_eq_true rfl) (Nat.le_of_ble_eq_true rfl) (Nat.le_of_ble_eq_true rfl) zd_S_sendInto_74 (fun r23 u24 e25 => ?_)
      have ht := ht.trans (zseq_e e25)
      have ko := ko r23 u24 e25
      refine z_istore O (lv' := [(4, .int r23), (3, .int r18), (2, .int r1), (0, .ref (zq w 2)), (1, .ref (zq w 9))]) zd_S_sendInto_77 (Nat.le_of_ble_eq_true rfl) rfl ?_
      refine z_aload_n O zd_S_sendInto_79 rfl 4 rfl ?_
      refine z_iload O zd_S_sendInto_80 0 rfl ?_
      refine z_iconst O (v := 0) zd_S_sendInto_82 (by decide) ?_
      refine z_iload_n O zd_S_sendInto_83 rfl 2 rfl ?_
      refine z_callv O hl0 (st := []) 9 2 (fs := zo9 w u24) rfl rfl (c_W_setCell_9 l w u24 r23 0 r1 ko.1) zl_S_91 zm304 zm305 rfl rfl (Nat.le_of_ble_eq_true rfl) (Nat.le_of_ble_eq_true rfl) (Nat.le_of_ble_eq_true rfl) zd_S_sendInto_84 (fun u26 e27 => ?_)
      have ht := ht.trans (zlet_e e27)
      have ko := ko.2 u26 e27
      refine z_aload_n O zd_S_sendInto_87 rfl 4 rfl ?_
      refine z_iload O zd_S_sendInto_88 0 rfl ?_
      refine z_iconst O (v := 1) zd_S_sendInto_90 (by decide) ?_
      refine z_iload_n O zd_S_sendInto_91 rfl 1 rfl ?_
      refine z_callv O hl0 (st := []) 9 2 (fs := zo9 w u26) rfl rfl (c_W_setCell_9 l w u26 r23 1 r18 ko) zl_S_91 zm304 zm305 rfl rfl (Nat.le_of_ble_eq_true rfl) (Nat.le_of_ble_eq_true rfl) (Nat.le_of_ble_eq_true rfl) zd_S_sendInto_92 (fun u28 e29 => ?_)
      have ht := ht.trans (zlet_e e29)
      refine z_iload_n O zd_S_sendInto_95 rfl 1 rfl ?_
      refine z_iload_n O zd_S_sendInto_96 rfl 2 rfl ?_
      refine z_isub O zd_S_sendInto_97 ?_
      exact E _ _ _ _ zd_S_sendInto_98 rfl ht.symm
set_option maxHeartbeats 4000000 in
set_option maxRecDepth 100000 in
theorem c_S_halfOfFlying (l : Launch) (w : zWd) (σ : zSt) (ko : k_S_halfOfFlying σ) : zMi l ({ cls := "SluiceStream$Sender", name := "halfOfFlying", desc := "()I" } : Jvm.MethodName) prog_5_method_10_code 1 3 65 .int w [.ref (zq w 2)] σ (fun r u => r = (f_S_halfOfFlying σ) ∧ u = σ) := by
  refine zMi_of (by decide +kernel) (Nat.le_of_ble_eq_true rfl) ?_
  intro K O hl0 E
  have ht : (f_S_halfOfFlying σ) = (f_S_halfOfFlying σ) := rfl
  refine z_sub (lv' := [(0, .ref (zq w 2))]) [0] rfl ?_
  refine z_bipush O (v := 8) zd_S_halfOfFlying_0 (by decide) ?_
  refine z_aload_n O zd_S_halfOfFlying_2 rfl 0 rfl ?_
  refine z_callri O hl0 (st := [.int 8]) 2 3 (fs := zo2 w σ) rfl rfl (c_S_countFlying l w σ ko) zl_S_106 zm363 zm364 rfl rfl (Nat.le_of_ble_eq_true rfl) (Nat.le_of_ble_eq_true rfl) (Nat.le_of_ble_eq_true rfl) zd_S_halfOfFlying_3 (fun r1 e2 => ?_)
  have ht := ht.trans (zlet_e e2)
  refine z_iconst O (v := 2) zd_S_halfOfFlying_6 (by decide) ?_
  refine z_idiv O zd_S_halfOfFlying_7 (by decide) ?_
  refine z_max O zm370 zm340 zm13 zm341 (Nat.le_of_ble_eq_true rfl) (Nat.le_of_ble_eq_true rfl) zd_S_halfOfFlying_8 ?_
  exact E _ _ _ _ zd_S_halfOfFlying_11 rfl ⟨ht.symm, rfl⟩
set_option maxHeartbeats 4000000 in
set_option maxRecDepth 100000 in
theorem c_S_startOver (l : Launch) (w : zWd) (σ : zSt) (ko : k_S_startOver σ) : zMv l ({ cls := "SluiceStream$Sender", name := "startOver", desc := "()V" } : Jvm.MethodName) prog_5_method_9_code 1 4 85 w [.ref (zq w 2)] σ (fun u => u = (f_S_startOver σ)) := by
  refine zMv_of (by decide +kernel) (Nat.le_of_ble_eq_true rfl) ?_
  intro K O hl0 E
  have ht : (f_S_startOver σ) = (f_S_startOver σ) := rfl
  refine z_sub (lv' := [(0, .ref (zq w 2))]) [0] rfl ?_
  refine z_aload_n O zd_S_startOver_0 rfl 0 rfl ?_
  refine z_aload_n O zd_S_startOver_1 rfl 0 rfl ?_
  refine z_callri O hl0 (st := [.ref (zq w 2)]) 2 3 (fs := zo2 w σ) rfl rfl (c_S_halfOfFlying l w σ ko.1) zl_S_123 zm360 zms5 rfl rfl (Nat.le_of_ble_eq_true rfl) (Nat.le_of_ble_eq_true rfl) (Nat.le_of_ble_eq_true rfl) zd_S_startOver_2 (fun r1 e2 => ?_)
  have ht := ht.trans (zlet_e e2)
  have ko := ko.2 r1 e2
  refine zp_S_44_2 O zd_S_startOver_5 ?_
  refine z_aload_n O zd_S_startOver_8 rfl 0 rfl ?_
  refine z_iconst O (v := 4) zd_S_startOver_9 (by decide) ?_
  refine zp_S_41_2 O zd_S_startOver_10 ?_
  refine z_aload_n O zd_S_startOver_13 rfl 0 rfl ?_
  refine zg_S_21_2 O zd_S_startOver_14 (v := .ref (zq w 5)) rfl ?_
  refine z_callv O hl0 (st := []) 5 4 (fs := zo5 w (zuf (zuf σ 2 8 r1) 2 7 4)) rfl rfl (c_T_backOff l w (zuf (zuf σ 2 8 r1) 2 7 4)) zl_S_126 zm372 zm373 rfl rfl (Nat.le_of_ble_eq_true rfl) (Nat.le_of_ble_eq_true rfl) (Nat.le_of_ble_eq_true rfl) zd_S_startOver_17 (fun u3 e4 => ?_)
  have ht := ht.trans (zlet_e e4)
  have ko := ko u3 e4
  refine z_aload_n O zd_S_startOver_20 rfl 0 rfl ?_
  refine zg_S_12_2 O zd_S_startOver_21 (v := .ref (zq w 3)) rfl ?_
  refine z_aload_n O zd_S_startOver_24 rfl 0 rfl ?_
  refine zg_S_25_2 O zd_S_startOver_25 (v := .int (u3 2 2)) rfl ?_
  refine z_aload_n O zd_S_startOver_28 rfl 0 rfl ?_
  refine zg_S_32_2 O zd_S_startOver_29 (v := .int (u3 2 4)) rfl ?_
  refine z_callv O hl0 (st := []) 3 0 (fs := zo3 w u3) rfl rfl (c_P_empty_3 l w u3 (u3 2 2) (u3 2 4) ko) zl_S_129 zm387 zm388 rfl rfl (Nat.le_of_ble_eq_true rfl) (Nat.le_of_ble_eq_true rfl) (Nat.le_of_ble_eq_true rfl) zd_S_startOver_32 (fun u5 e6 => ?_)
  have ht := ht.trans (zlet_e e6)
  refine z_aload_n O zd_S_startOver_35 rfl 0 rfl ?_
  refine z_aload_n O zd_S_startOver_36 rfl 0 rfl ?_
  refine zg_S_25_2 O zd_S_startOver_37 (v := .int (u5 2 2)) rfl ?_
  refine zp_S_29_2 O zd_S_startOver_40 ?_
  refine z_aload_n O zd_S_startOver_43 rfl 0 rfl ?_
  refine z_iconst O (v := (-1)) zd_S_startOver_44 (by decide) ?_
  refine zp_S_53_2 O zd_S_startOver_45 ?_
  refine z_aload_n O zd_S_startOver_48 rfl 0 rfl ?_
  refine z_iconst O (v := 0) zd_S_startOver_49 (by decide) ?_
  refine zp_S_50_2 O zd_S_startOver_50 ?_
  exact E _ _ _ zd_S_startOver_53 ht.symm
set_option maxHeartbeats 4000000 in
set_option maxRecDepth 100000 in
theorem L_S_passTicks_4 {K : zCx} {w : zWd} {l : Launch} (O : zOk K w prog_5_method_8_code "SluiceStream$Sender" 4 5 105) (hl0 : kl K = l) (x1 : Int32) : ∀ (m : Nat) (σ : zSt) (x2 x3 : Int32), kl_S_passTicks_4 x1 m σ x2 x3 → (∀ r, r = (l_S_passTicks_4 x1 m σ x2 x3) → Z K w r.2 [(2, .int r.1)] [] 32) → Z K w σ [(0, .ref (zq w 2)), (1, .int x1), (2, .int x2), (3, .int x3)] [] 4 := by
  intro m
  induction m with
  | zero => intro σ x2 x3 ko; exact ko.elim
  | succ m ih =>
    intro σ x2 x3 ko kk
    have ht : l_S_passTicks_4 x1 (m + 1) σ x2 x3 = l_S_passTicks_4 x1 (m + 1) σ x2 x3 := rfl
    refine z_iload_n O zd_S_passTicks_4 rfl 3 rfl ?_
    refine z_iload_n O zd_S_passTicks_5 rfl 1 rfl ?_
    refine z_icmp_ge O (tgt := 32) zd_S_passTicks_6 (by decide) (fun c1 => ?_) (fun c1 => ?_)
    · have ht := ht.trans (if_pos c1)
      refine z_sub (lv' := [(2, .int x2)]) [2] rfl ?_
      exact kk (x2, σ) ht.symm
    · have ht := ht.trans (if_neg c1)
      have ko := ko c1
      refine z_aload_n O zd_S_passTicks_9 rfl 0 rfl ?_
      refine zg_S_21_2 O zd_S_passTicks_10 (v := .ref (zq w 5)) rfl ?_
      refine z_calli O hl0 (st := []) 5 4 (fs := zo5 w σ) rfl rfl (c_T_passTick l w σ) zl_S_116 zm351 zm352 rfl rfl (Nat.le_of_ble_eq_true rfl) (Nat.le_of_ble_eq_true rfl) (Nat.le_of_ble_eq_true rfl) zd_S_passTicks_13 (fun r2 u3 e4 => ?_)
      have ht := ht.trans (zseq_e e4)
      have ko := ko r2 u3 e4
      refine z_if_eq O (tgt := 26) zd_S_passTicks_16 (by decide) (fun c5 => ?_) (fun c5 => ?_)
      · have ht := ht.trans (if_pos c5)
        have ko := ko.1 c5
        refine z_iinc O (v := (x3 + 1)) (lv' := [(3, .int (x3 + 1)), (0, .ref (zq w 2)), (1, .int x1), (2, .int x2)]) zd_S_passTicks_26 3 rfl rfl (Nat.le_of_ble_eq_true rfl) rfl ?_
        refine z_goto O (tgt := 4) zd_S_passTicks_29 (by decide) ?_
        refine z_sub (lv' := [(0, .ref (zq w 2)), (1, .int x1), (2, .int x2), (3, .int (x3 + 1))]) [1, 2, 3, 0] rfl ?_
        exact ih u3 x2 (x3 + 1) ko (fun r e => kk r (e.trans ht.symm))
      · have ht := ht.trans (if_neg c5)
        have ko := ko.2 c5
        refine z_aload_n O zd_S_passTicks_19 rfl 0 rfl ?_
        refine z_callv O hl0 (st := []) 2 3 (fs := zo2 w u3) rfl rfl (c_S_startOver l w u3 ko.1) zl_S_120 zm356 zms4 rfl rfl (Nat.le_of_ble_eq_true rfl) (Nat.le_of_ble_eq_true rfl) (Nat.le_of_ble_eq_true rfl) zd_S_passTicks_20 (fun u6 e7 => ?_)
        have ht := ht.trans (zlet_e e7)
        have ko := ko.2 u6 e7
        refine z_iinc O (v := (x2 + 1)) (lv' := [(2, .int (x2 + 1)), (0, .ref (zq w 2)), (1, .int x1), (3, .int x3)]) zd_S_passTicks_23 2 rfl rfl (Nat.le_of_ble_eq_true rfl) rfl ?_
        refine z_iinc O (v := (x3 + 1)) (lv' := [(3, .int (x3 + 1)), (2, .int (x2 + 1)), (0, .ref (zq w 2)), (1, .int x1)]) zd_S_passTicks_26 3 rfl rfl (Nat.le_of_ble_eq_true rfl) rfl ?_
        refine z_goto O (tgt := 4) zd_S_passTicks_29 (by decide) ?_
        refine z_sub (lv' := [(0, .ref (zq w 2)), (1, .int x1), (2, .int (x2 + 1)), (3, .int (x3 + 1))]) [2, 3, 1, 0] rfl ?_
        exact ih u6 (x2 + 1) (x3 + 1) ko (fun r e => kk r (e.trans ht.symm))
set_option maxHeartbeats 4000000 in
set_option maxRecDepth 100000 in
theorem c_S_passTicks (l : Launch) (w : zWd) (σ : zSt) (a1 : Int32) (ko : k_S_passTicks σ a1) : zMi l ({ cls := "SluiceStream$Sender", name := "passTicks", desc := "(I)I" } : Jvm.MethodName) prog_5_method_8_code 4 5 105 .int w [.ref (zq w 2), .int a1] σ (fun r u => (r, u) = (f_S_passTicks σ a1)) := by
  refine zMi_of (by decide +kernel) (Nat.le_of_ble_eq_true rfl) ?_
  intro K O hl0 E
  have ht : (f_S_passTicks σ a1) = (f_S_passTicks σ a1) := rfl
  refine z_sub (lv' := [(0, .ref (zq w 2)), (1, .int a1)]) [0, 1] rfl ?_
  refine z_iconst O (v := 0) zd_S_passTicks_0 (by decide) ?_
  refine z_istore_n O (lv' := [(2, .int 0), (0, .ref (zq w 2)), (1, .int a1)]) zd_S_passTicks_1 rfl (Nat.le_of_ble_eq_true rfl) rfl ?_
  refine z_iconst O (v := 0) zd_S_passTicks_2 (by decide) ?_
  refine z_istore_n O (lv' := [(3, .int 0), (2, .int 0), (0, .ref (zq w 2)), (1, .int a1)]) zd_S_passTicks_3 rfl (Nat.le_of_ble_eq_true rfl) rfl ?_
  refine z_sub (lv' := [(0, .ref (zq w 2)), (1, .int a1), (2, .int 0), (3, .int 0)]) [2, 3, 1, 0] rfl ?_
  refine L_S_passTicks_4 O hl0 a1 (((a1).toInt - (0 : Int32).toInt).toNat + 2) σ 0 0 ko (fun r8 er8 => ?_)
  have ht := ht.trans (zlet_e er8)
  refine z_iload_n O zd_S_passTicks_32 rfl 0 rfl ?_
  exact E _ _ _ _ zd_S_passTicks_33 rfl ht.symm
set_option maxHeartbeats 4000000 in
set_option maxRecDepth 100000 in
theorem c_S_growCongestion (l : Launch) (w : zWd) (σ : zSt) (ko : k_S_growCongestion σ) : zMv l ({ cls := "SluiceStream$Sender", name := "growCongestion", desc := "()V" } : Jvm.MethodName) prog_5_method_13_code 2 1 21 w [.ref (zq w 2)] σ (fun u => u = (f_S_growCongestion σ)) := by
  refine zMv_of (by decide +kernel) (Nat.le_of_ble_eq_true rfl) ?_
  intro K O hl0 E
  have ht : (f_S_growCongestion σ) = (f_S_growCongestion σ) := rfl
  refine z_sub (lv' := [(0, .ref (zq w 2))]) [0] rfl ?_
  refine z_iconst O (v := 1) zd_S_growCongestion_0 (by decide) ?_
  refine z_istore_n O (lv' := [(1, .int 1), (0, .ref (zq w 2))]) zd_S_growCongestion_1 rfl (Nat.le_of_ble_eq_true rfl) rfl ?_
  refine z_aload_n O zd_S_growCongestion_2 rfl 1 rfl ?_
  refine zg_S_41_2 O zd_S_growCongestion_3 (v := .int (σ 2 7)) rfl ?_
  refine z_aload_n O zd_S_growCongestion_6 rfl 1 rfl ?_
  refine zg_S_44_2 O zd_S_growCongestion_7 (v := .int (σ 2 8)) rfl ?_
  refine z_icmp_ge O (tgt := 18) zd_S_growCongestion_10 (by decide) (fun c1 => ?_) (fun c1 => ?_)
  · have ht := ht.trans (if_pos c1)
    have ko := ko c1
    refine z_aload_n O zd_S_growCongestion_18 rfl 1 rfl ?_
    refine zg_S_41_2 O zd_S_growCongestion_19 (v := .int (σ 2 7)) rfl ?_
    refine z_if_le O (tgt := 37) zd_S_growCongestion_22 (by decide) (fun c2 => ?_) (fun c2 => ?_)
    · have ht := ht.trans (if_pos c2)
      refine z_aload_n O zd_S_growCongestion_37 rfl 1 rfl ?_
      refine z_sipush O (v := 256) zd_S_growCongestion_38 (by decide) ?_
      refine z_aload_n O zd_S_growCongestion_41 rfl 1 rfl ?_
      refine zg_S_41_2 O zd_S_growCongestion_42 (v := .int (σ 2 7)) rfl ?_
      refine z_iload_n O zd_S_growCongestion_45 rfl 0 rfl ?_
      refine z_iadd O zd_S_growCongestion_46 ?_
      refine z_min O zm602 zm376 zm13 zm377 (Nat.le_of_ble_eq_true rfl) (Nat.le_of_ble_eq_true rfl) zd_S_growCongestion_47 ?_
      refine zp_S_41_2 O zd_S_growCongestion_50 ?_
      exact E _ _ _ zd_S_growCongestion_53 ht.symm
    · have ht := ht.trans (if_neg c2)
      have ko := ko c2
      refine z_iconst O (v := 1) zd_S_growCongestion_25 (by decide) ?_
      refine z_bipush O (v := 16) zd_S_growCongestion_26 (by decide) ?_
      refine z_aload_n O zd_S_growCongestion_28 rfl 1 rfl ?_
      refine zg_S_41_2 O zd_S_growCongestion_29 (v := .int (σ 2 7)) rfl ?_
      have b3 := ko
      refine z_idiv O zd_S_growCongestion_32 b3 ?_
      refine z_max O zm370 zm340 zm13 zm341 (Nat.le_of_ble_eq_true rfl) (Nat.le_of_ble_eq_true rfl) zd_S_growCongestion_33 ?_
      refine z_istore_n O (lv' := [(1, .int (if 1 < (16 / (σ 2 7)) then (16 / (σ 2 7)) else 1)), (0, .ref (zq w 2))]) zd_S_growCongestion_36 rfl (Nat.le_of_ble_eq_true rfl) rfl ?_
      refine z_aload_n O zd_S_growCongestion_37 rfl 1 rfl ?_
      refine z_sipush O (v := 256) zd_S_growCongestion_38 (by decide) ?_
      refine z_aload_n O zd_S_growCongestion_41 rfl 1 rfl ?_
      refine zg_S_41_2 O zd_S_growCongestion_42 (v := .int (σ 2 7)) rfl ?_
      refine z_iload_n O zd_S_growCongestion_45 rfl 0 rfl ?_
      refine z_iadd O zd_S_growCongestion_46 ?_
      refine z_min O zm602 zm376 zm13 zm377 (Nat.le_of_ble_eq_true rfl) (Nat.le_of_ble_eq_true rfl) zd_S_growCongestion_47 ?_
      refine zp_S_41_2 O zd_S_growCongestion_50 ?_
      exact E _ _ _ zd_S_growCongestion_53 ht.symm
  · have ht := ht.trans (if_neg c1)
    refine z_iconst O (v := 4) zd_S_growCongestion_13 (by decide) ?_
    refine z_istore_n O (lv' := [(1, .int 4), (0, .ref (zq w 2))]) zd_S_growCongestion_14 rfl (Nat.le_of_ble_eq_true rfl) rfl ?_
    refine z_goto O (tgt := 37) zd_S_growCongestion_15 (by decide) ?_
    refine z_aload_n O zd_S_growCongestion_37 rfl 1 rfl ?_
    refine z_sipush O (v := 256) zd_S_growCongestion_38 (by decide) ?_
    refine z_aload_n O zd_S_growCongestion_41 rfl 1 rfl ?_
    refine zg_S_41_2 O zd_S_growCongestion_42 (v := .int (σ 2 7)) rfl ?_
    refine z_iload_n O zd_S_growCongestion_45 rfl 0 rfl ?_
    refine z_iadd O zd_S_growCongestion_46 ?_
    refine z_min O zm602 zm376 zm13 zm377 (Nat.le_of_ble_eq_true rfl) (Nat.le_of_ble_eq_true rfl) zd_S_growCongestion_47 ?_
    refine zp_S_41_2 O zd_S_growCongestion_50 ?_
    exact E _ _ _ zd_S_growCongestion_53 ht.symm
set_option maxHeartbeats 4000000 in
set_option maxRecDepth 100000 in
theorem c_S_advanceTo (l : Launch) (w : zWd) (σ : zSt) (a1 : Int32) (ko : k_S_advanceTo σ a1) : zMv l ({ cls := "SluiceStream$Sender", name := "advanceTo", desc := "(I)V" } : Jvm.MethodName) prog_5_method_12_code 2 3 64 w [.ref (zq w 2), .int a1] σ (fun u => u = (f_S_advanceTo σ a1)) := by
  refine zMv_of (by decide +kernel) (Nat.le_of_ble_eq_true rfl) ?_
  intro K O hl0 E
  have ht : (f_S_advanceTo σ a1) = (f_S_advanceTo σ a1) := rfl
  refine z_sub (lv' := [(0, .ref (zq w 2)), (1, .int a1)]) [0, 1] rfl ?_
  refine z_aload_n O zd_S_advanceTo_0 rfl 0 rfl ?_
  refine zg_S_21_2 O zd_S_advanceTo_1 (v := .ref (zq w 5)) rfl ?_
  refine z_iload_n O zd_S_advanceTo_4 rfl 1 rfl ?_
  refine z_callv O hl0 (st := []) 5 4 (fs := zo5 w σ) rfl rfl (c_T_endTiming l w σ a1) zl_S_145 zm642 zm643 rfl rfl (Nat.le_of_ble_eq_true rfl) (Nat.le_of_ble_eq_true rfl) (Nat.le_of_ble_eq_true rfl) zd_S_advanceTo_5 (fun u1 e2 => ?_)
  have ht := ht.trans (zlet_e e2)
  have ko := ko u1 e2
  refine z_aload_n O zd_S_advanceTo_8 rfl 0 rfl ?_
  refine zg_S_12_2 O zd_S_advanceTo_9 (v := .ref (zq w 3)) rfl ?_
  refine z_aload_n O zd_S_advanceTo_12 rfl 0 rfl ?_
  refine zg_S_25_2 O zd_S_advanceTo_13 (v := .int (u1 2 2)) rfl ?_
  refine z_iload_n O zd_S_advanceTo_16 rfl 1 rfl ?_
  refine z_callv O hl0 (st := []) 3 0 (fs := zo3 w u1) rfl rfl (c_P_empty_3 l w u1 (u1 2 2) a1 ko.1) zl_S_129 zm387 zm388 rfl rfl (Nat.le_of_ble_eq_true rfl) (Nat.le_of_ble_eq_true rfl) (Nat.le_of_ble_eq_true rfl) zd_S_advanceTo_17 (fun u3 e4 => ?_)
  have ht := ht.trans (zlet_e e4)
  have ko := ko.2 u3 e4
  refine z_aload_n O zd_S_advanceTo_20 rfl 0 rfl ?_
  refine z_iload_n O zd_S_advanceTo_21 rfl 1 rfl ?_
  refine zp_S_25_2 O zd_S_advanceTo_22 ?_
  refine z_aload_n O zd_S_advanceTo_25 rfl 0 rfl ?_
  refine z_aload_n O zd_S_advanceTo_26 rfl 0 rfl ?_
  refine zg_S_29_2 O zd_S_advanceTo_27 (v := .int (u3 2 3)) rfl ?_
  refine z_aload_n O zd_S_advanceTo_30 rfl 0 rfl ?_
  refine zg_S_25_2 O zd_S_advanceTo_31 (v := .int a1) rfl ?_
  refine z_max O zm370 zm340 zm13 zm341 (Nat.le_of_ble_eq_true rfl) (Nat.le_of_ble_eq_true rfl) zd_S_advanceTo_34 ?_
  refine zp_S_29_2 O zd_S_advanceTo_37 ?_
  refine z_aload_n O zd_S_advanceTo_40 rfl 0 rfl ?_
  refine z_iconst O (v := 0) zd_S_advanceTo_41 (by decide) ?_
  refine zp_S_50_2 O zd_S_advanceTo_42 ?_
  refine z_aload_n O zd_S_advanceTo_45 rfl 0 rfl ?_
  refine zg_S_53_2 O zd_S_advanceTo_46 (v := .int (u3 2 11)) rfl ?_
  refine z_iconst O (v := (-1)) zd_S_advanceTo_49 (by decide) ?_
  refine z_icmp_ne O (tgt := 60) zd_S_advanceTo_50 (by decide) (fun c5 => ?_) (fun c5 => ?_)
  · have ht := ht.trans (if_neg c5)
    refine z_aload_n O zd_S_advanceTo_60 rfl 0 rfl ?_
    refine zg_S_25_2 O zd_S_advanceTo_61 (v := .int a1) rfl ?_
    refine z_aload_n O zd_S_advanceTo_64 rfl 0 rfl ?_
    refine zg_S_53_2 O zd_S_advanceTo_65 (v := .int (u3 2 11)) rfl ?_
    refine z_icmp_lt O (tgt := 84) zd_S_advanceTo_68 (by decide) (fun c6 => ?_) (fun c6 => ?_)
    · have ht := ht.trans (if_pos c6)
      refine z_aload_n O zd_S_advanceTo_84 rfl 0 rfl ?_
      refine zg_S_25_2 O zd_S_advanceTo_85 (v := .int a1) rfl ?_
      refine z_aload_n O zd_S_advanceTo_88 rfl 0 rfl ?_
      refine zg_S_29_2 O zd_S_advanceTo_89 (v := .int (if (u3 2 3) < a1 then a1 else (u3 2 3))) rfl ?_
      refine z_icmp_ne O (tgt := 105) zd_S_advanceTo_92 (by decide) (fun c7 => ?_) (fun c7 => ?_)
      · have ht := ht.trans (if_neg c7)
        refine z_aload_n O zd_S_advanceTo_105 rfl 0 rfl ?_
        refine zg_S_21_2 O zd_S_advanceTo_106 (v := .ref (zq w 5)) rfl ?_
        refine z_callv O hl0 (st := []) 5 4 (fs := zo5 w (zuf (zuf (zuf u3 2 2 a1) 2 3 (if (u3 2 3) < a1 then a1 else (u3 2 3))) 2 10 0)) rfl rfl (c_T_startAnew l w (zuf (zuf (zuf u3 2 2 a1) 2 3 (if (u3 2 3) < a1 then a1 else (u3 2 3))) 2 10 0)) zl_S_154 zm620 zm621 rfl rfl (Nat.le_of_ble_eq_true rfl) (Nat.le_of_ble_eq_true rfl) (Nat.le_of_ble_eq_true rfl) zd_S_advanceTo_109 (fun u8 e9 => ?_)
        have ht := ht.trans (zlet_e e9)
        exact E _ _ _ zd_S_advanceTo_112 ht.symm
      · have ht := ht.trans (if_pos c7)
        refine z_aload_n O zd_S_advanceTo_95 rfl 0 rfl ?_
        refine zg_S_21_2 O zd_S_advanceTo_96 (v := .ref (zq w 5)) rfl ?_
        refine z_callv O hl0 (st := []) 5 4 (fs := zo5 w (zuf (zuf (zuf u3 2 2 a1) 2 3 (if (u3 2 3) < a1 then a1 else (u3 2 3))) 2 10 0)) rfl rfl (c_T_stop l w (zuf (zuf (zuf u3 2 2 a1) 2 3 (if (u3 2 3) < a1 then a1 else (u3 2 3))) 2 10 0)) zl_S_151 zm383 zm384 rfl rfl (Nat.le_of_ble_eq_true rfl) (Nat.le_of_ble_eq_true rfl) (Nat.le_of_ble_eq_true rfl) zd_S_advanceTo_99 (fun u10 e11 => ?_)
        have ht := ht.trans (zlet_e e11)
        refine z_goto O (tgt := 112) zd_S_advanceTo_102 (by decide) ?_
        exact E _ _ _ zd_S_advanceTo_112 ht.symm
    · have ht := ht.trans (if_neg c6)
      refine z_aload_n O zd_S_advanceTo_71 rfl 0 rfl ?_
      refine z_iconst O (v := (-1)) zd_S_advanceTo_72 (by decide) ?_
      refine zp_S_53_2 O zd_S_advanceTo_73 ?_
      refine z_aload_n O zd_S_advanceTo_76 rfl 0 rfl ?_
      refine z_aload_n O zd_S_advanceTo_77 rfl 0 rfl ?_
      refine zg_S_44_2 O zd_S_advanceTo_78 (v := .int (u3 2 8)) rfl ?_
      refine zp_S_41_2 O zd_S_advanceTo_81 ?_
      refine z_aload_n O zd_S_advanceTo_84 rfl 0 rfl ?_
      refine zg_S_25_2 O zd_S_advanceTo_85 (v := .int a1) rfl ?_
      refine z_aload_n O zd_S_advanceTo_88 rfl 0 rfl ?_
      refine zg_S_29_2 O zd_S_advanceTo_89 (v := .int (if (u3 2 3) < a1 then a1 else (u3 2 3))) rfl ?_
      refine z_icmp_ne O (tgt := 105) zd_S_advanceTo_92 (by decide) (fun c12 => ?_) (fun c12 => ?_)
      · have ht := ht.trans (if_neg c12)
        refine z_aload_n O zd_S_advanceTo_105 rfl 0 rfl ?_
        refine zg_S_21_2 O zd_S_advanceTo_106 (v := .ref (zq w 5)) rfl ?_
        refine z_callv O hl0 (st := []) 5 4 (fs := zo5 w (zuf (zuf (zuf (zuf (zuf u3 2 2 a1) 2 3 (if (u3 2 3) < a1 then a1 else (u3 2 3))) 2 10 0) 2 11 (-1)) 2 7 (u3 2 8))) rfl rfl (c_T_startAnew l w (zuf (zuf (zuf (zuf (zuf u3 2 2 a1) 2 3 (if (u3 2 3) < a1 then a1 else (u3 2 3))) 2 10 0) 2 11 (-1)) 2 7 (u3 2 8))) zl_S_154 zm620 zm621 rfl rfl (Nat.le_of_ble_eq_true rfl) (Nat.le_of_ble_eq_true rfl) (Nat.le_of_ble_eq_true rfl) zd_S_advanceTo_109 (fun u13 e14 => ?_)
        have ht := ht.trans (zlet_e e14)
        exact E _ _ _ zd_S_advanceTo_112 ht.symm
      · have ht := ht.trans (if_pos c12)
        refine z_aload_n O zd_S_advanceTo_95 rfl 0 rfl ?_
        refine zg_S_21_2 O zd_S_advanceTo_96 (v := .ref (zq w 5)) rfl ?_
        refine z_callv O hl0 (st := []) 5 4 (fs := zo5 w (zuf (zuf (zuf (zuf (zuf u3 2 2 a1) 2 3 (if (u3 2 3) < a1 then a1 else (u3 2 3))) 2 10 0) 2 11 (-1)) 2 7 (u3 2 8))) rfl rfl (c_T_stop l w (zuf (zuf (zuf (zuf (zuf u3 2 2 a1) 2 3 (if (u3 2 3) < a1 then a1 else (u3 2 3))) 2 10 0) 2 11 (-1)) 2 7 (u3 2 8))) zl_S_151 zm383 zm384 rfl rfl (Nat.le_of_ble_eq_true rfl) (Nat.le_of_ble_eq_true rfl) (Nat.le_of_ble_eq_true rfl) zd_S_advanceTo_99 (fun u15 e16 => ?_)
        have ht := ht.trans (zlet_e e16)
        refine z_goto O (tgt := 112) zd_S_advanceTo_102 (by decide) ?_
        exact E _ _ _ zd_S_advanceTo_112 ht.symm
  · have ht := ht.trans (if_pos c5)
    have ko := ko c5
    refine z_aload_n O zd_S_advanceTo_53 rfl 0 rfl ?_
    refine z_callv O hl0 (st := []) 2 3 (fs := zo2 w (zuf (zuf (zuf u3 2 2 a1) 2 3 (if (u3 2 3) < a1 then a1 else (u3 2 3))) 2 10 0)) rfl rfl (c_S_growCongestion l w (zuf (zuf (zuf u3 2 2 a1) 2 3 (if (u3 2 3) < a1 then a1 else (u3 2 3))) 2 10 0) ko) zl_S_148 zm655 zms12 rfl rfl (Nat.le_of_ble_eq_true rfl) (Nat.le_of_ble_eq_true rfl) (Nat.le_of_ble_eq_true rfl) zd_S_advanceTo_54 (fun u17 e18 => ?_)
    have ht := ht.trans (zlet_e e18)
    refine z_goto O (tgt := 84) zd_S_advanceTo_57 (by decide) ?_
    refine z_aload_n O zd_S_advanceTo_84 rfl 0 rfl ?_
    refine zg_S_25_2 O zd_S_advanceTo_85 (v := .int (u17 2 2)) rfl ?_
    refine z_aload_n O zd_S_advanceTo_88 rfl 0 rfl ?_
    refine zg_S_29_2 O zd_S_advanceTo_89 (v := .int (u17 2 3)) rfl ?_
    refine z_icmp_ne O (tgt := 105) zd_S_advanceTo_92 (by decide) (fun c19 => ?_) (fun c19 => ?_)
    · have ht := ht.trans (if_neg c19)
      refine z_aload_n O zd_S_advanceTo_105 rfl 0 rfl ?_
      refine zg_S_21_2 O zd_S_advanceTo_106 (v := .ref (zq w 5)) rfl ?_
      refine z_callv O hl0 (st := []) 5 4 (fs := zo5 w u17) rfl rfl (c_T_startAnew l w u17) zl_S_154 zm620 zm621 rfl rfl (Nat.le_of_ble_eq_true rfl) (Nat.le_of_ble_eq_true rfl) (Nat.le_of_ble_eq_true rfl) zd_S_advanceTo_109 (fun u20 e21 => ?_)
      have ht := ht.trans (zlet_e e21)
      exact E _ _ _ zd_S_advanceTo_112 ht.symm
    · have ht := ht.trans (if_pos c19)
      refine z_aload_n O zd_S_advanceTo_95 rfl 0 rfl ?_
      refine zg_S_21_2 O zd_S_advanceTo_96 (v := .ref (zq w 5)) rfl ?_
      refine z_callv O hl0 (st := []) 5 4 (fs := zo5 w u17) rfl rfl (c_T_stop l w u17) zl_S_151 zm383 zm384 rfl rfl (Nat.le_of_ble_eq_true rfl) (Nat.le_of_ble_eq_true rfl) (Nat.le_of_ble_eq_true rfl) zd_S_advanceTo_99 (fun u22 e23 => ?_)
      have ht := ht.trans (zlet_e e23)
      refine z_goto O (tgt := 112) zd_S_advanceTo_102 (by decide) ?_
      exact E _ _ _ zd_S_advanceTo_112 ht.symm
set_option maxHeartbeats 4000000 in
set_option maxRecDepth 100000 in
theorem L_S_markBlocks_14 {K : zCx} {w : zWd} {l : Launch} (O : zOk K w prog_5_method_14_code "SluiceStream$Sender" 7 2 46) (hl0 : kl K = l) (x2 x3 : Int32) : ∀ (m : Nat) (σ : zSt) (x4 : Int32), kl_S_markBlocks_14 x2 x3 m σ x4 → (∀ r, r = (l_S_markBlocks_14 x2 x3 m σ x4) → Z K w r [] [] 74) → Z K w σ [(0, .ref (zq w 2)), (1, .ref (zq w 11)), (2, .int x2), (3, .int x3), (4, .int x4)] [] 14 := by
  intro m
  induction m with
  | zero => intro σ x4 ko; exact ko.elim
  | succ m ih =>
    intro σ x4 ko kk
    have ht : l_S_markBlocks_14 x2 x3 (m + 1) σ x4 = l_S_markBlocks_14 x2 x3 (m + 1) σ x4 := rfl
    refine z_iload O zd_S_markBlocks_14 4 rfl ?_
    refine z_iload_n O zd_S_markBlocks_16 rfl 3 rfl ?_
    refine z_icmp_ge O (tgt := 74) zd_S_markBlocks_17 (by decide) (fun c3 => ?_) (fun c3 => ?_)
    · have ht := ht.trans (if_pos c3)
      refine z_sub (lv' := []) [] rfl ?_
      exact kk σ ht.symm
    · have ht := ht.trans (if_neg c3)
      have ko := ko c3
      refine z_aload_n O zd_S_markBlocks_20 rfl 1 rfl ?_
      refine z_iload_n O zd_S_markBlocks_21 rfl 2 rfl ?_
      refine z_iconst O (v := 3) zd_S_markBlocks_22 (by decide) ?_
      refine z_iconst O (v := 2) zd_S_markBlocks_23 (by decide) ?_
      refine z_iload O zd_S_markBlocks_24 4 rfl ?_
      refine z_imul O zd_S_markBlocks_26 ?_
      refine z_iadd O zd_S_markBlocks_27 ?_
      refine z_callri O hl0 (st := []) 11 2 (fs := zo11 w σ) rfl rfl (c_W_cell_11 l w σ x2 (3 + (2 * x4)) ko.1) zl_S_132 zm411 zm412 rfl rfl (Nat.le_of_ble_eq_true rfl) (Nat.le_of_ble_eq_true rfl) (Nat.le_of_ble_eq_true rfl) zd_S_markBlocks_28 (fun r4 e5 => ?_)
      have ht := ht.trans (zlet_e e5)
      have ko := ko.2 r4 e5
      refine z_istore O (lv' := [(5, .int r4), (0, .ref (zq w 2)), (1, .ref (zq w 11)), (2, .int x2), (3, .int x3), (4, .int x4)]) zd_S_markBlocks_31 (Nat.le_of_ble_eq_true rfl) rfl ?_
      refine z_aload_n O zd_S_markBlocks_33 rfl 2 rfl ?_
      refine z_iload_n O zd_S_markBlocks_34 rfl 3 rfl ?_
      refine z_iconst O (v := 3) zd_S_markBlocks_35 (by decide) ?_
      refine z_iconst O (v := 2) zd_S_markBlocks_36 (by decide) ?_
      refine z_iload O zd_S_markBlocks_37 5 rfl ?_
      refine z_imul O zd_S_markBlocks_39 ?_
      refine z_iadd O zd_S_markBlocks_40 ?_
      refine z_iconst O (v := 1) zd_S_markBlocks_41 (by decide) ?_
      refine z_iadd O zd_S_markBlocks_42 ?_
      refine z_callri O hl0 (st := []) 11 2 (fs := zo11 w σ) rfl rfl (c_W_cell_11 l w σ x2 ((3 + (2 * x4)) + 1) ko.1) zl_S_132 zm411 zm412 rfl rfl (Nat.le_of_ble_eq_true rfl) (Nat.le_of_ble_eq_true rfl) (Nat.le_of_ble_eq_true rfl) zd_S_markBlocks_43 (fun r6 e7 => ?_)
      have ht := ht.trans (zlet_e e7)
      have ko := ko.2 r6 e7
      refine z_istore O (lv' := [(6, .int r6), (5, .int r4), (0, .ref (zq w 2)), (1, .ref (zq w 11)), (2, .int x2), (3, .int x3), (4, .int x4)]) zd_S_markBlocks_46 (Nat.le_of_ble_eq_true rfl) rfl ?_
      refine z_aload_n O zd_S_markBlocks_48 rfl 2 rfl ?_
      refine zg_S_12_2 O zd_S_markBlocks_49 (v := .ref (zq w 3)) rfl ?_
      refine z_aload_n O zd_S_markBlocks_52 rfl 2 rfl ?_
      refine zg_S_25_2 O zd_S_markBlocks_53 (v := .int (σ 2 2)) rfl ?_
      refine z_iload O zd_S_markBlocks_56 1 rfl ?_
      refine z_max O zm370 zm340 zm13 zm341 (Nat.le_of_ble_eq_true rfl) (Nat.le_of_ble_eq_true rfl) zd_S_markBlocks_58 ?_
      refine z_iload O zd_S_markBlocks_61 0 rfl ?_
      refine z_iconst O (v := 1) zd_S_markBlocks_63 (by decide) ?_
      refine z_calli O hl0 (st := []) 3 0 (fs := zo3 w σ) rfl rfl (c_P_fillEmpty_3 l w σ (if (σ 2 2) < r4 then r4 else (σ 2 2)) r6 1 ko.1) zl_S_157 zm420 zm421 rfl rfl (Nat.le_of_ble_eq_true rfl) (Nat.le_of_ble_eq_true rfl) (Nat.le_of_ble_eq_true rfl) zd_S_markBlocks_64 (fun r8 u9 e10 => ?_)
      have ht := ht.trans (zseq_e e10)
      have ko := ko.2 r8 u9 e10
      refine z_pop O zd_S_markBlocks_67 rfl ?_
      refine z_iinc O (v := (x4 + 1)) (lv' := [(4, .int (x4 + 1)), (6, .int r6), (5, .int r4), (0, .ref (zq w 2)), (1, .ref (zq w 11)), (2, .int x2), (3, .int x3)]) zd_S_markBlocks_68 6 rfl rfl (Nat.le_of_ble_eq_true rfl) rfl ?_
      refine z_goto O (tgt := 14) zd_S_markBlocks_71 (by decide) ?_
      refine z_sub (lv' := [(0, .ref (zq w 2)), (1, .ref (zq w 11)), (2, .int x2), (3, .int x3), (4, .int (x4 + 1))]) [3, 4, 5, 6, 0] rfl ?_
      exact ih u9 (x4 + 1) ko (fun r e => kk r (e.trans ht.symm))
set_option maxHeartbeats 4000000 in
set_option maxRecDepth 100000 in
theorem c_S_markBlocks (l : Launch) (w : zWd) (σ : zSt) (a2 : Int32) (ko : k_S_markBlocks σ a2) : zMv l ({ cls := "SluiceStream$Sender", name := "markBlocks", desc := "(LSluiceStream$Rows;I)V" } : Jvm.MethodName) prog_5_method_14_code 7 2 46 w [.ref (zq w 2), .ref (zq w 11), .int a2] σ (fun u => u = (f_S_markBlocks σ a2)) := by
  refine zMv_of (by decide +kernel) (Nat.le_of_ble_eq_true rfl) ?_
  intro K O hl0 E
  have ht : (f_S_markBlocks σ a2) = (f_S_markBlocks σ a2) := rfl
  refine z_sub (lv' := [(0, .ref (zq w 2)), (1, .ref (zq w 11)), (2, .int a2)]) [0, 1, 2] rfl ?_
  refine z_iconst O (v := 3) zd_S_markBlocks_0 (by decide) ?_
  refine z_aload_n O zd_S_markBlocks_1 rfl 1 rfl ?_
  refine z_iload_n O zd_S_markBlocks_2 rfl 2 rfl ?_
  refine z_iconst O (v := 2) zd_S_markBlocks_3 (by decide) ?_
  refine z_callri O hl0 (st := [.int 3]) 11 2 (fs := zo11 w σ) rfl rfl (c_W_cell_11 l w σ a2 2 ko.1) zl_S_132 zm411 zm412 rfl rfl (Nat.le_of_ble_eq_true rfl) (Nat.le_of_ble_eq_true rfl) (Nat.le_of_ble_eq_true rfl) zd_S_markBlocks_4 (fun r1 e2 => ?_)
  have ht := ht.trans (zlet_e e2)
  have ko := ko.2 r1 e2
  refine z_min O zm602 zm376 zm13 zm377 (Nat.le_of_ble_eq_true rfl) (Nat.le_of_ble_eq_true rfl) zd_S_markBlocks_7 ?_
  refine z_istore_n O (lv' := [(3, .int (if r1 < 3 then r1 else 3)), (0, .ref (zq w 2)), (1, .ref (zq w 11)), (2, .int a2)]) zd_S_markBlocks_10 rfl (Nat.le_of_ble_eq_true rfl) rfl ?_
  refine z_iconst O (v := 0) zd_S_markBlocks_11 (by decide) ?_
  refine z_istore O (lv' := [(4, .int 0), (3, .int (if r1 < 3 then r1 else 3)), (0, .ref (zq w 2)), (1, .ref (zq w 11)), (2, .int a2)]) zd_S_markBlocks_12 (Nat.le_of_ble_eq_true rfl) rfl ?_
  refine z_sub (lv' := [(0, .ref (zq w 2)), (1, .ref (zq w 11)), (2, .int a2), (3, .int (if r1 < 3 then r1 else 3)), (4, .int 0)]) [2, 3, 4, 1, 0] rfl ?_
  refine L_S_markBlocks_14 O hl0 a2 (if r1 < 3 then r1 else 3) ((((if r1 < 3 then r1 else 3)).toInt - (0 : Int32).toInt).toNat + 2) σ 0 ko (fun r11 er11 => ?_)
  have ht := ht.trans (zlet_e er11)
  exact E _ _ _ zd_S_markBlocks_74 ht.symm
set_option maxHeartbeats 4000000 in
set_option maxRecDepth 100000 in
theorem c_S_countDuplicate (l : Launch) (w : zWd) (σ : zSt) (ko : k_S_countDuplicate σ) : zMv l ({ cls := "SluiceStream$Sender", name := "countDuplicate", desc := "()V" } : Jvm.MethodName) prog_5_method_15_code 1 4 85 w [.ref (zq w 2)] σ (fun u => u = (f_S_countDuplicate σ)) := by
  refine zMv_of (by decide +kernel) (Nat.le_of_ble_eq_true rfl) ?_
  intro K O hl0 E
  have ht : (f_S_countDuplicate σ) = (f_S_countDuplicate σ) := rfl
  refine z_sub (lv' := [(0, .ref (zq w 2))]) [0] rfl ?_
  refine z_aload_n O zd_S_countDuplicate_0 rfl 0 rfl ?_
  refine z_dup O zd_S_countDuplicate_1 rfl ?_
  refine zg_S_50_2 O zd_S_countDuplicate_2 (v := .int (σ 2 10)) rfl ?_
  refine z_iconst O (v := 1) zd_S_countDuplicate_5 (by decide) ?_
  refine z_iadd O zd_S_countDuplicate_6 ?_
  refine zp_S_50_2 O zd_S_countDuplicate_7 ?_
  refine z_aload_n O zd_S_countDuplicate_10 rfl 0 rfl ?_
  refine zg_S_50_2 O zd_S_countDuplicate_11 (v := .int ((σ 2 10) + 1)) rfl ?_
  refine z_iconst O (v := 3) zd_S_countDuplicate_14 (by decide) ?_
  refine z_icmp_ne O (tgt := 65) zd_S_countDuplicate_15 (by decide) (fun c1 => ?_) (fun c1 => ?_)
  · have ht := ht.trans (if_neg c1)
    exact E _ _ _ zd_S_countDuplicate_65 ht.symm
  · have ht := ht.trans (if_pos c1)
    have ko := ko c1
    refine z_aload_n O zd_S_countDuplicate_18 rfl 0 rfl ?_
    refine zg_S_53_2 O zd_S_countDuplicate_19 (v := .int (σ 2 11)) rfl ?_
    refine z_iconst O (v := (-1)) zd_S_countDuplicate_22 (by decide) ?_
    refine z_icmp_ne O (tgt := 65) zd_S_countDuplicate_23 (by decide) (fun c2 => ?_) (fun c2 => ?_)
    · have ht := ht.trans (if_neg c2)
      exact E _ _ _ zd_S_countDuplicate_65 ht.symm
    · have ht := ht.trans (if_pos c2)
      have ko := ko c2
      refine z_aload_n O zd_S_countDuplicate_26 rfl 0 rfl ?_
      refine z_aload_n O zd_S_countDuplicate_27 rfl 0 rfl ?_
      refine z_callri O hl0 (st := [.ref (zq w 2)]) 2 3 (fs := zo2 w (zuf σ 2 10 ((σ 2 10) + 1))) rfl rfl (c_S_halfOfFlying l w (zuf σ 2 10 ((σ 2 10) + 1)) ko) zl_S_123 zm360 zms5 rfl rfl (Nat.le_of_ble_eq_true rfl) (Nat.le_of_ble_eq_true rfl) (Nat.le_of_ble_eq_true rfl) zd_S_countDuplicate_28 (fun r3 e4 => ?_)
      have ht := ht.trans (zlet_e e4)
      refine zp_S_44_2 O zd_S_countDuplicate_31 ?_
      refine z_aload_n O zd_S_countDuplicate_34 rfl 0 rfl ?_
      refine z_aload_n O zd_S_countDuplicate_35 rfl 0 rfl ?_
      refine zg_S_44_2 O zd_S_countDuplicate_36 (v := .int r3) rfl ?_
      refine zp_S_41_2 O zd_S_countDuplicate_39 ?_
      refine z_aload_n O zd_S_countDuplicate_42 rfl 0 rfl ?_
      refine z_aload_n O zd_S_countDuplicate_43 rfl 0 rfl ?_
      refine zg_S_29_2 O zd_S_countDuplicate_44 (v := .int (σ 2 3)) rfl ?_
      refine zp_S_53_2 O zd_S_countDuplicate_47 ?_
      refine z_aload_n O zd_S_countDuplicate_50 rfl 0 rfl ?_
      refine z_aload_n O zd_S_countDuplicate_51 rfl 0 rfl ?_
      refine zg_S_25_2 O zd_S_countDuplicate_52 (v := .int (σ 2 2)) rfl ?_
      refine zp_S_56_2 O zd_S_countDuplicate_55 ?_
      refine z_aload_n O zd_S_countDuplicate_58 rfl 0 rfl ?_
      refine zg_S_21_2 O zd_S_countDuplicate_59 (v := .ref (zq w 5)) rfl ?_
      refine z_callv O hl0 (st := []) 5 4 (fs := zo5 w (zuf (zuf (zuf (zuf (zuf σ 2 10 ((σ 2 10) + 1)) 2 8 r3) 2 7 r3) 2 11 (σ 2 3)) 2 12 (σ 2 2))) rfl rfl (c_T_forgetTiming l w (zuf (zuf (zuf (zuf (zuf σ 2 10 ((σ 2 10) + 1)) 2 8 r3) 2 7 r3) 2 11 (σ 2 3)) 2 12 (σ 2 2))) zl_S_161 zm379 zm380 rfl rfl (Nat.le_of_ble_eq_true rfl) (Nat.le_of_ble_eq_true rfl) (Nat.le_of_ble_eq_true rfl) zd_S_countDuplicate_62 (fun u5 e6 => ?_)
      have ht := ht.trans (zlet_e e6)
      exact E _ _ _ zd_S_countDuplicate_65 ht.symm
set_option maxHeartbeats 4000000 in
set_option maxRecDepth 100000 in
theorem c_S_takeAck (l : Launch) (w : zWd) (σ : zSt) (a2 : Int32) (ko : k_S_takeAck σ a2) : zMi l ({ cls := "SluiceStream$Sender", name := "takeAck", desc := "(LSluiceStream$Rows;I)I" } : Jvm.MethodName) prog_5_method_11_code 7 5 105 .int w [.ref (zq w 2), .ref (zq w 11), .int a2] σ (fun r u => (r, u) = (f_S_takeAck σ a2)) := by
  refine zMi_of (by decide +kernel) (Nat.le_of_ble_eq_true rfl) ?_
  intro K O hl0 E
  have ht : (f_S_takeAck σ a2) = (f_S_takeAck σ a2) := rfl
  refine z_sub (lv' := [(0, .ref (zq w 2)), (1, .ref (zq w 11)), (2, .int a2)]) [0, 1, 2] rfl ?_
  refine z_aload_n O zd_S_takeAck_0 rfl 1 rfl ?_
  refine z_iload_n O zd_S_takeAck_1 rfl 2 rfl ?_
  refine z_iconst O (v := 0) zd_S_takeAck_2 (by decide) ?_
  refine z_callri O hl0 (st := []) 11 2 (fs := zo11 w σ) rfl rfl (c_W_cell_11 l w σ a2 0 ko.1) zl_S_132 zm411 zm412 rfl rfl (Nat.le_of_ble_eq_true rfl) (Nat.le_of_ble_eq_true rfl) (Nat.le_of_ble_eq_true rfl) zd_S_takeAck_3 (fun r1 e2 => ?_)
  have ht := ht.trans (zlet_e e2)
  have ko := ko.2 r1 e2
  refine z_istore_n O (lv' := [(3, .int r1), (0, .ref (zq w 2)), (1, .ref (zq w 11)), (2, .int a2)]) zd_S_takeAck_6 rfl (Nat.le_of_ble_eq_true rfl) rfl ?_
  refine z_iload_n O zd_S_takeAck_7 rfl 0 rfl ?_
  refine z_aload_n O zd_S_takeAck_8 rfl 1 rfl ?_
  refine zg_S_25_2 O zd_S_takeAck_9 (v := .int (σ 2 2)) rfl ?_
  refine z_icmp_ge O (tgt := 17) zd_S_takeAck_12 (by decide) (fun c3 => ?_) (fun c3 => ?_)
  · have ht := ht.trans (if_pos c3)
    have ko := ko c3
    refine z_iload_n O zd_S_takeAck_17 rfl 0 rfl ?_
    refine z_aload_n O zd_S_takeAck_18 rfl 2 rfl ?_
    refine z_iload_n O zd_S_takeAck_19 rfl 3 rfl ?_
    refine z_iconst O (v := 1) zd_S_takeAck_20 (by decide) ?_
    refine z_callri O hl0 (st := [.int r1]) 11 2 (fs := zo11 w σ) rfl rfl (c_W_cell_11 l w σ a2 1 ko.1) zl_S_132 zm411 zm412 rfl rfl (Nat.le_of_ble_eq_true rfl) (Nat.le_of_ble_eq_true rfl) (Nat.le_of_ble_eq_true rfl) zd_S_takeAck_21 (fun r4 e5 => ?_)
    have ht := ht.trans (zlet_e e5)
    have ko := ko.2 r4 e5
    refine z_iadd O zd_S_takeAck_24 ?_
    refine z_istore O (lv' := [(4, .int (r1 + r4)), (3, .int r1), (0, .ref (zq w 2)), (1, .ref (zq w 11)), (2, .int a2)]) zd_S_takeAck_25 (Nat.le_of_ble_eq_true rfl) rfl ?_
    refine z_iload O zd_S_takeAck_27 0 rfl ?_
    refine z_aload_n O zd_S_takeAck_29 rfl 2 rfl ?_
    refine zg_S_38_2 O zd_S_takeAck_30 (v := .int (σ 2 6)) rfl ?_
    refine z_icmp_le O (tgt := 40) zd_S_takeAck_33 (by decide) (fun c6 => ?_) (fun c6 => ?_)
    · have ht := ht.trans (if_pos c6)
      have ko := ko.1 c6
      refine z_iconst O (v := 0) zd_S_takeAck_40 (by decide) ?_
      refine z_istore O (lv' := [(5, .int 0), (4, .int (r1 + r4)), (3, .int r1), (0, .ref (zq w 2)), (1, .ref (zq w 11)), (2, .int a2)]) zd_S_takeAck_41 (Nat.le_of_ble_eq_true rfl) rfl ?_
      refine z_aload_n O zd_S_takeAck_43 rfl 3 rfl ?_
      refine z_aload_n O zd_S_takeAck_44 rfl 3 rfl ?_
      refine zg_S_38_2 O zd_S_takeAck_45 (v := .int (σ 2 6)) rfl ?_
      refine z_iload O zd_S_takeAck_48 1 rfl ?_
      refine z_max O zm370 zm340 zm13 zm341 (Nat.le_of_ble_eq_true rfl) (Nat.le_of_ble_eq_true rfl) zd_S_takeAck_50 ?_
      refine zp_S_38_2 O zd_S_takeAck_53 ?_
      refine z_iload_n O zd_S_takeAck_56 rfl 2 rfl ?_
      refine z_aload_n O zd_S_takeAck_57 rfl 3 rfl ?_
      refine zg_S_25_2 O zd_S_takeAck_58 (v := .int (σ 2 2)) rfl ?_
      refine z_isub O zd_S_takeAck_61 ?_
      refine z_istore O (lv' := [(6, .int (r1 - (σ 2 2))), (5, .int 0), (4, .int (r1 + r4)), (3, .int r1), (0, .ref (zq w 2)), (1, .ref (zq w 11)), (2, .int a2)]) zd_S_takeAck_62 (Nat.le_of_ble_eq_true rfl) rfl ?_
      refine z_iload O zd_S_takeAck_64 0 rfl ?_
      refine z_if_le O (tgt := 74) zd_S_takeAck_66 (by decide) (fun c7 => ?_) (fun c7 => ?_)
      · have ht := ht.trans (if_pos c7)
        have ko := ko.1 c7
        refine z_aload_n O zd_S_takeAck_74 rfl 4 rfl ?_
        refine z_aload_n O zd_S_takeAck_75 rfl 5 rfl ?_
        refine z_iload_n O zd_S_takeAck_76 rfl 6 rfl ?_
        refine z_callv O hl0 (st := []) 2 3 (fs := zo2 w (zuf σ 2 6 (if (σ 2 6) < (r1 + r4) then (r1 + r4) else (σ 2 6)))) rfl rfl (c_S_markBlocks l w (zuf σ 2 6 (if (σ 2 6) < (r1 + r4) then (r1 + r4) else (σ 2 6))) a2 ko.1) zl_S_138 zm661 zms13 rfl rfl (Nat.le_of_ble_eq_true rfl) (Nat.le_of_ble_eq_true rfl) (Nat.le_of_ble_eq_true rfl) zd_S_takeAck_77 (fun u8 e9 => ?_)
        have ht := ht.trans (zlet_e e9)
        have ko := ko.2 u8 e9
        refine z_iload O zd_S_takeAck_80 0 rfl ?_
        refine z_if_ne O (tgt := 105) zd_S_takeAck_82 (by decide) (fun c10 => ?_) (fun c10 => ?_)
        · have ht := ht.trans (if_neg c10)
          refine z_iload O zd_S_takeAck_105 0 rfl ?_
          exact E _ _ _ _ zd_S_takeAck_107 rfl ht.symm
        · have ht := ht.trans (if_pos c10)
          have ko := ko c10
          refine z_aload_n O zd_S_takeAck_85 rfl 4 rfl ?_
          refine zg_S_25_2 O zd_S_takeAck_86 (v := .int (u8 2 2)) rfl ?_
          refine z_aload_n O zd_S_takeAck_89 rfl 4 rfl ?_
          refine zg_S_29_2 O zd_S_takeAck_90 (v := .int (u8 2 3)) rfl ?_
          refine z_icmp_ge O (tgt := 105) zd_S_takeAck_93 (by decide) (fun c11 => ?_) (fun c11 => ?_)
          · have ht := ht.trans (if_pos c11)
            refine z_iload O zd_S_takeAck_105 0 rfl ?_
            exact E _ _ _ _ zd_S_takeAck_107 rfl ht.symm
          · have ht := ht.trans (if_neg c11)
            have ko := ko c11
            refine z_iload O zd_S_takeAck_96 1 rfl ?_
            refine z_if_ne O (tgt := 105) zd_S_takeAck_98 (by decide) (fun c12 => absurd c12 (by decide)) (fun c12 => ?_)
            refine z_aload_n O zd_S_takeAck_101 rfl 4 rfl ?_
            refine z_callv O hl0 (st := []) 2 3 (fs := zo2 w u8) rfl rfl (c_S_countDuplicate l w u8 ko) zl_S_142 zm666 zms14 rfl rfl (Nat.le_of_ble_eq_true rfl) (Nat.le_of_ble_eq_true rfl) (Nat.le_of_ble_eq_true rfl) zd_S_takeAck_102 (fun u13 e14 => ?_)
            have ht := ht.trans (zlet_e e14)
            refine z_iload O zd_S_takeAck_105 0 rfl ?_
            exact E _ _ _ _ zd_S_takeAck_107 rfl ht.symm
      · have ht := ht.trans (if_neg c7)
        have ko := ko.2 c7
        refine z_aload_n O zd_S_takeAck_69 rfl 4 rfl ?_
        refine z_iload_n O zd_S_takeAck_70 rfl 3 rfl ?_
        refine z_callv O hl0 (st := []) 2 3 (fs := zo2 w (zuf σ 2 6 (if (σ 2 6) < (r1 + r4) then (r1 + r4) else (σ 2 6)))) rfl rfl (c_S_advanceTo l w (zuf σ 2 6 (if (σ 2 6) < (r1 + r4) then (r1 + r4) else (σ 2 6))) r1 ko.1) zl_S_135 zm639 zms10 rfl rfl (Nat.le_of_ble_eq_true rfl) (Nat.le_of_ble_eq_true rfl) (Nat.le_of_ble_eq_true rfl) zd_S_takeAck_71 (fun u15 e16 => ?_)
        have ht := ht.trans (zlet_e e16)
        have ko := ko.2 u15 e16
        refine z_aload_n O zd_S_takeAck_74 rfl 4 rfl ?_
        refine z_aload_n O zd_S_takeAck_75 rfl 5 rfl ?_
        refine z_iload_n O zd_S_takeAck_76 rfl 6 rfl ?_
        refine z_callv O hl0 (st := []) 2 3 (fs := zo2 w u15) rfl rfl (c_S_markBlocks l w u15 a2 ko.1) zl_S_138 zm661 zms13 rfl rfl (Nat.le_of_ble_eq_true rfl) (Nat.le_of_ble_eq_true rfl) (Nat.le_of_ble_eq_true rfl) zd_S_takeAck_77 (fun u17 e18 => ?_)
        have ht := ht.trans (zlet_e e18)
        have ko := ko.2 u17 e18
        refine z_iload O zd_S_takeAck_80 0 rfl ?_
        refine z_if_ne O (tgt := 105) zd_S_takeAck_82 (by decide) (fun c19 => ?_) (fun c19 => ?_)
        · have ht := ht.trans (if_neg c19)
          refine z_iload O zd_S_takeAck_105 0 rfl ?_
          exact E _ _ _ _ zd_S_takeAck_107 rfl ht.symm
        · have ht := ht.trans (if_pos c19)
          have ko := ko c19
          refine z_aload_n O zd_S_takeAck_85 rfl 4 rfl ?_
          refine zg_S_25_2 O zd_S_takeAck_86 (v := .int (u17 2 2)) rfl ?_
          refine z_aload_n O zd_S_takeAck_89 rfl 4 rfl ?_
          refine zg_S_29_2 O zd_S_takeAck_90 (v := .int (u17 2 3)) rfl ?_
          refine z_icmp_ge O (tgt := 105) zd_S_takeAck_93 (by decide) (fun c20 => ?_) (fun c20 => ?_)
          · have ht := ht.trans (if_pos c20)
            refine z_iload O zd_S_takeAck_105 0 rfl ?_
            exact E _ _ _ _ zd_S_takeAck_107 rfl ht.symm
          · have ht := ht.trans (if_neg c20)
            have ko := ko c20
            refine z_iload O zd_S_takeAck_96 1 rfl ?_
            refine z_if_ne O (tgt := 105) zd_S_takeAck_98 (by decide) (fun c21 => absurd c21 (by decide)) (fun c21 => ?_)
            refine z_aload_n O zd_S_takeAck_101 rfl 4 rfl ?_
            refine z_callv O hl0 (st := []) 2 3 (fs := zo2 w u17) rfl rfl (c_S_countDuplicate l w u17 ko) zl_S_142 zm666 zms14 rfl rfl (Nat.le_of_ble_eq_true rfl) (Nat.le_of_ble_eq_true rfl) (Nat.le_of_ble_eq_true rfl) zd_S_takeAck_102 (fun u22 e23 => ?_)
            have ht := ht.trans (zlet_e e23)
            refine z_iload O zd_S_takeAck_105 0 rfl ?_
            exact E _ _ _ _ zd_S_takeAck_107 rfl ht.symm
    · have ht := ht.trans (if_neg c6)
      have ko := ko.2 c6
      refine z_iconst O (v := 1) zd_S_takeAck_36 (by decide) ?_
      refine z_goto O (tgt := 41) zd_S_takeAck_37 (by decide) ?_
      refine z_istore O (lv' := [(5, .int 1), (4, .int (r1 + r4)), (3, .int r1), (0, .ref (zq w 2)), (1, .ref (zq w 11)), (2, .int a2)]) zd_S_takeAck_41 (Nat.le_of_ble_eq_true rfl) rfl ?_
      refine z_aload_n O zd_S_takeAck_43 rfl 3 rfl ?_
      refine z_aload_n O zd_S_takeAck_44 rfl 3 rfl ?_
      refine zg_S_38_2 O zd_S_takeAck_45 (v := .int (σ 2 6)) rfl ?_
      refine z_iload O zd_S_takeAck_48 1 rfl ?_
      refine z_max O zm370 zm340 zm13 zm341 (Nat.le_of_ble_eq_true rfl) (Nat.le_of_ble_eq_true rfl) zd_S_takeAck_50 ?_
      refine zp_S_38_2 O zd_S_takeAck_53 ?_
      refine z_iload_n O zd_S_takeAck_56 rfl 2 rfl ?_
      refine z_aload_n O zd_S_takeAck_57 rfl 3 rfl ?_
      refine zg_S_25_2 O zd_S_takeAck_58 (v := .int (σ 2 2)) rfl ?_
      refine z_isub O zd_S_takeAck_61 ?_
      refine z_istore O (lv' := [(6, .int (r1 - (σ 2 2))), (5, .int 1), (4, .int (r1 + r4)), (3, .int r1), (0, .ref (zq w 2)), (1, .ref (zq w 11)), (2, .int a2)]) zd_S_takeAck_62 (Nat.le_of_ble_eq_true rfl) rfl ?_
      refine z_iload O zd_S_takeAck_64 0 rfl ?_
      refine z_if_le O (tgt := 74) zd_S_takeAck_66 (by decide) (fun c24 => ?_) (fun c24 => ?_)
      · have ht := ht.trans (if_pos c24)
        have ko := ko.1 c24
        refine z_aload_n O zd_S_takeAck_74 rfl 4 rfl ?_
        refine z_aload_n O zd_S_takeAck_75 rfl 5 rfl ?_
        refine z_iload_n O zd_S_takeAck_76 rfl 6 rfl ?_
        refine z_callv O hl0 (st := []) 2 3 (fs := zo2 w (zuf σ 2 6 (if (σ 2 6) < (r1 + r4) then (r1 + r4) else (σ 2 6)))) rfl rfl (c_S_markBlocks l w (zuf σ 2 6 (if (σ 2 6) < (r1 + r4) then (r1 + r4) else (σ 2 6))) a2 ko) zl_S_138 zm661 zms13 rfl rfl (Nat.le_of_ble_eq_true rfl) (Nat.le_of_ble_eq_true rfl) (Nat.le_of_ble_eq_true rfl) zd_S_takeAck_77 (fun u25 e26 => ?_)
        have ht := ht.trans (zlet_e e26)
        refine z_iload O zd_S_takeAck_80 0 rfl ?_
        refine z_if_ne O (tgt := 105) zd_S_takeAck_82 (by decide) (fun c27 => ?_) (fun c27 => ?_)
        · have ht := ht.trans (if_neg c27)
          refine z_iload O zd_S_takeAck_105 0 rfl ?_
          exact E _ _ _ _ zd_S_takeAck_107 rfl ht.symm
        · have ht := ht.trans (if_pos c27)
          refine z_aload_n O zd_S_takeAck_85 rfl 4 rfl ?_
          refine zg_S_25_2 O zd_S_takeAck_86 (v := .int (u25 2 2)) rfl ?_
          refine z_aload_n O zd_S_takeAck_89 rfl 4 rfl ?_
          refine zg_S_29_2 O zd_S_takeAck_90 (v := .int (u25 2 3)) rfl ?_
          refine z_icmp_ge O (tgt := 105) zd_S_takeAck_93 (by decide) (fun c28 => ?_) (fun c28 => ?_)
          · have ht := ht.trans (if_pos c28)
            refine z_iload O zd_S_takeAck_105 0 rfl ?_
            exact E _ _ _ _ zd_S_takeAck_107 rfl ht.symm
          · have ht := ht.trans (if_neg c28)
            refine z_iload O zd_S_takeAck_96 1 rfl ?_
            refine z_if_ne O (tgt := 105) zd_S_takeAck_98 (by decide) (fun c29 => ?_) (fun c29 => absurd c29 (by decide))
            refine z_iload O zd_S_takeAck_105 0 rfl ?_
            exact E _ _ _ _ zd_S_takeAck_107 rfl ht.symm
      · have ht := ht.trans (if_neg c24)
        have ko := ko.2 c24
        refine z_aload_n O zd_S_takeAck_69 rfl 4 rfl ?_
        refine z_iload_n O zd_S_takeAck_70 rfl 3 rfl ?_
        refine z_callv O hl0 (st := []) 2 3 (fs := zo2 w (zuf σ 2 6 (if (σ 2 6) < (r1 + r4) then (r1 + r4) else (σ 2 6)))) rfl rfl (c_S_advanceTo l w (zuf σ 2 6 (if (σ 2 6) < (r1 + r4) then (r1 + r4) else (σ 2 6))) r1 ko.1) zl_S_135 zm639 zms10 rfl rfl (Nat.le_of_ble_eq_true rfl) (Nat.le_of_ble_eq_true rfl) (Nat.le_of_ble_eq_true rfl) zd_S_takeAck_71 (fun u30 e31 => ?_)
        have ht := ht.trans (zlet_e e31)
        have ko := ko.2 u30 e31
        refine z_aload_n O zd_S_takeAck_74 rfl 4 rfl ?_
        refine z_aload_n O zd_S_takeAck_75 rfl 5 rfl ?_
        refine z_iload_n O zd_S_takeAck_76 rfl 6 rfl ?_
        refine z_callv O hl0 (st := []) 2 3 (fs := zo2 w u30) rfl rfl (c_S_markBlocks l w u30 a2 ko) zl_S_138 zm661 zms13 rfl rfl (Nat.le_of_ble_eq_true rfl) (Nat.le_of_ble_eq_true rfl) (Nat.le_of_ble_eq_true rfl) zd_S_takeAck_77 (fun u32 e33 => ?_)
        have ht := ht.trans (zlet_e e33)
        refine z_iload O zd_S_takeAck_80 0 rfl ?_
        refine z_if_ne O (tgt := 105) zd_S_takeAck_82 (by decide) (fun c34 => ?_) (fun c34 => ?_)
        · have ht := ht.trans (if_neg c34)
          refine z_iload O zd_S_takeAck_105 0 rfl ?_
          exact E _ _ _ _ zd_S_takeAck_107 rfl ht.symm
        · have ht := ht.trans (if_pos c34)
          refine z_aload_n O zd_S_takeAck_85 rfl 4 rfl ?_
          refine zg_S_25_2 O zd_S_takeAck_86 (v := .int (u32 2 2)) rfl ?_
          refine z_aload_n O zd_S_takeAck_89 rfl 4 rfl ?_
          refine zg_S_29_2 O zd_S_takeAck_90 (v := .int (u32 2 3)) rfl ?_
          refine z_icmp_ge O (tgt := 105) zd_S_takeAck_93 (by decide) (fun c35 => ?_) (fun c35 => ?_)
          · have ht := ht.trans (if_pos c35)
            refine z_iload O zd_S_takeAck_105 0 rfl ?_
            exact E _ _ _ _ zd_S_takeAck_107 rfl ht.symm
          · have ht := ht.trans (if_neg c35)
            refine z_iload O zd_S_takeAck_96 1 rfl ?_
            refine z_if_ne O (tgt := 105) zd_S_takeAck_98 (by decide) (fun c36 => ?_) (fun c36 => absurd c36 (by decide))
            refine z_iload O zd_S_takeAck_105 0 rfl ?_
            exact E _ _ _ _ zd_S_takeAck_107 rfl ht.symm
  · have ht := ht.trans (if_neg c3)
    refine z_iconst O (v := 0) zd_S_takeAck_15 (by decide) ?_
    exact E _ _ _ _ zd_S_takeAck_16 rfl ht.symm
set_option maxHeartbeats 4000000 in
set_option maxRecDepth 100000 in
theorem L_X_write_55 {K : zCx} {w : zWd} {l : Launch} (O : zOk K w prog_1_method_2_code "SluiceStream" 5 0 0) (hl0 : kl K = l) (x1 x2 : Int32) : ∀ (m : Nat) (σ : zSt) (x3 : Int32), kl_X_write_55 x1 x2 m σ x3 → (∀ r, r = (l_X_write_55 x1 x2 m σ x3) → Z K w r [(0, .ref (zq w 0)), (2, .int x2)] [] 106) → Z K w σ [(0, .ref (zq w 0)), (1, .int x1), (2, .int x2), (3, .int x3)] [] 55 := by
  intro m
  induction m with
  | zero => intro σ x3 ko; exact ko.elim
  | succ m ih =>
    intro σ x3 ko kk
    have ht : l_X_write_55 x1 x2 (m + 1) σ x3 = l_X_write_55 x1 x2 (m + 1) σ x3 := rfl
    refine z_iload_n O zd_X_write_55 rfl 3 rfl ?_
    refine z_iload_n O zd_X_write_56 rfl 2 rfl ?_
    refine z_icmp_ge O (tgt := 106) zd_X_write_57 (by decide) (fun c9 => ?_) (fun c9 => ?_)
    · have ht := ht.trans (if_pos c9)
      refine z_sub (lv' := [(0, .ref (zq w 0)), (2, .int x2)]) [0, 2] rfl ?_
      exact kk σ ht.symm
    · have ht := ht.trans (if_neg c9)
      have ko := ko c9
      refine z_aload_n O zd_X_write_60 rfl 0 rfl ?_
      refine zg_X_16_0 O zd_X_write_61 (v := .ref (zq w 2)) rfl ?_
      refine zg_X_42_2 O zd_X_write_64 (v := .int (σ 2 5)) rfl ?_
      refine z_iload_n O zd_X_write_67 rfl 3 rfl ?_
      refine z_iadd O zd_X_write_68 ?_
      refine z_istore O (lv' := [(4, .int ((σ 2 5) + x3)), (0, .ref (zq w 0)), (1, .int x1), (2, .int x2), (3, .int x3)]) zd_X_write_69 (Nat.le_of_ble_eq_true rfl) rfl ?_
      refine z_iload O zd_X_write_71 0 rfl ?_
      refine z_if_lt O (tgt := 100) zd_X_write_73 (by decide) (fun c10 => ?_) (fun c10 => ?_)
      · have ht := ht.trans (if_pos c10)
        have ko := ko.1 c10
        refine z_iinc O (v := (x3 + 1)) (lv' := [(3, .int (x3 + 1)), (4, .int ((σ 2 5) + x3)), (0, .ref (zq w 0)), (1, .int x1), (2, .int x2)]) zd_X_write_100 4 rfl rfl (Nat.le_of_ble_eq_true rfl) rfl ?_
        refine z_goto O (tgt := 55) zd_X_write_103 (by decide) ?_
        refine z_sub (lv' := [(0, .ref (zq w 0)), (1, .int x1), (2, .int x2), (3, .int (x3 + 1))]) [2, 3, 4, 0] rfl ?_
        exact ih σ (x3 + 1) ko (fun r e => kk r (e.trans ht.symm))
      · have ht := ht.trans (if_neg c10)
        have ko := ko.2 c10
        refine z_iload O zd_X_write_76 0 rfl ?_
        refine z_aload_n O zd_X_write_78 rfl 1 rfl ?_
        refine zg_X_9_0 O zd_X_write_79 (v := .ref (zq w 1)) rfl ?_
        refine z_alen O 1 (zae1 w σ) (v := 600) rfl zd_X_write_82 ?_
        refine z_icmp_ge O (tgt := 100) zd_X_write_83 (by decide) (fun c11 => ?_) (fun c11 => ?_)
        · have ht := ht.trans (if_pos c11)
          have ko := ko.1 c11
          refine z_iinc O (v := (x3 + 1)) (lv' := [(3, .int (x3 + 1)), (4, .int ((σ 2 5) + x3)), (0, .ref (zq w 0)), (1, .int x1), (2, .int x2)]) zd_X_write_100 4 rfl rfl (Nat.le_of_ble_eq_true rfl) rfl ?_
          refine z_goto O (tgt := 55) zd_X_write_103 (by decide) ?_
          refine z_sub (lv' := [(0, .ref (zq w 0)), (1, .int x1), (2, .int x2), (3, .int (x3 + 1))]) [2, 3, 4, 0] rfl ?_
          exact ih σ (x3 + 1) ko (fun r e => kk r (e.trans ht.symm))
        · have ht := ht.trans (if_neg c11)
          have ko := ko.2 c11
          refine z_aload_n O zd_X_write_86 rfl 1 rfl ?_
          refine zg_X_9_0 O zd_X_write_87 (v := .ref (zq w 1)) rfl ?_
          refine z_iload O zd_X_write_90 0 rfl ?_
          refine z_iload_n O zd_X_write_92 rfl 2 rfl ?_
          refine z_iload_n O zd_X_write_93 rfl 4 rfl ?_
          refine z_iadd O zd_X_write_94 ?_
          refine z_sipush O (v := 256) zd_X_write_95 (by decide) ?_
          refine z_irem O zd_X_write_98 (by decide) ?_
          have b12 := ko.1
          have ko := ko.2
          refine z_iast O 1 (zae1 w σ) b12 (zas1 w σ _ _) zd_X_write_99 ?_
          refine z_iinc O (v := (x3 + 1)) (lv' := [(3, .int (x3 + 1)), (4, .int ((σ 2 5) + x3)), (0, .ref (zq w 0)), (1, .int x1), (2, .int x2)]) zd_X_write_100 4 rfl rfl (Nat.le_of_ble_eq_true rfl) rfl ?_
          refine z_goto O (tgt := 55) zd_X_write_103 (by decide) ?_
          refine z_sub (lv' := [(0, .ref (zq w 0)), (1, .int x1), (2, .int x2), (3, .int (x3 + 1))]) [2, 3, 4, 0] rfl ?_
          exact ih (zuf σ 1 (((σ 2 5) + x3) : Int32).toNatClampNeg ((x1 + x3) - (x1 + x3) / 256 * 256)) (x3 + 1) ko (fun r e => kk r (e.trans ht.symm))
set_option maxHeartbeats 4000000 in
set_option maxRecDepth 100000 in
theorem c_X_write (l : Launch) (w : zWd) (σ : zSt) (a1 : Int32) (a2 : Int32) (ko : k_X_write σ a1 a2) : zMi l ({ cls := "SluiceStream", name := "write", desc := "(II)I" } : Jvm.MethodName) prog_1_method_2_code 5 0 0 .int w [.ref (zq w 0), .int a1, .int a2] σ (fun r u => (r, u) = (f_X_write σ a1 a2)) := by
  refine zMi_of (by decide +kernel) (Nat.le_of_ble_eq_true rfl) ?_
  intro K O hl0 E
  have ht : (f_X_write σ a1 a2) = (f_X_write σ a1 a2) := rfl
  refine z_sub (lv' := [(0, .ref (zq w 0)), (1, .int a1), (2, .int a2)]) [0, 1, 2] rfl ?_
  refine z_iload_n O zd_X_write_0 rfl 1 rfl ?_
  refine z_if_lt O (tgt := 22) zd_X_write_1 (by decide) (fun c1 => ?_) (fun c1 => ?_)
  · have ht := ht.trans (if_pos c1)
    have ko := ko.1 c1
    exact ko.elim
  · have ht := ht.trans (if_neg c1)
    have ko := ko.2 c1
    refine z_iload_n O zd_X_write_4 rfl 1 rfl ?_
    refine z_sipush O (v := 256) zd_X_write_5 (by decide) ?_
    refine z_icmp_ge O (tgt := 22) zd_X_write_8 (by decide) (fun c3 => ?_) (fun c3 => ?_)
    · have ht := ht.trans (if_pos c3)
      have ko := ko.1 c3
      exact ko.elim
    · have ht := ht.trans (if_neg c3)
      have ko := ko.2 c3
      refine z_iload_n O zd_X_write_11 rfl 2 rfl ?_
      refine z_iconst O (v := 1) zd_X_write_12 (by decide) ?_
      refine z_icmp_lt O (tgt := 22) zd_X_write_13 (by decide) (fun c5 => ?_) (fun c5 => ?_)
      · have ht := ht.trans (if_pos c5)
        have ko := ko.1 c5
        exact ko.elim
      · have ht := ht.trans (if_neg c5)
        have ko := ko.2 c5
        refine z_iload_n O zd_X_write_16 rfl 2 rfl ?_
        refine z_bipush O (v := 100) zd_X_write_17 (by decide) ?_
        refine z_icmp_le O (tgt := 30) zd_X_write_19 (by decide) (fun c7 => ?_) (fun c7 => ?_)
        · have ht := ht.trans (if_pos c7)
          have ko := ko.1 c7
          refine z_aload_n O zd_X_write_30 rfl 0 rfl ?_
          refine zg_X_16_0 O zd_X_write_31 (v := .ref (zq w 2)) rfl ?_
          refine zg_X_42_2 O zd_X_write_34 (v := .int (σ 2 5)) rfl ?_
          refine z_iload_n O zd_X_write_37 rfl 2 rfl ?_
          refine z_iadd O zd_X_write_38 ?_
          refine z_sipush O (v := 600) zd_X_write_39 (by decide) ?_
          refine z_icmp_le O (tgt := 53) zd_X_write_42 (by decide) (fun c8 => ?_) (fun c8 => ?_)
          · have ht := ht.trans (if_pos c8)
            have ko := ko.1 c8
            refine z_iconst O (v := 0) zd_X_write_53 (by decide) ?_
            refine z_istore_n O (lv' := [(3, .int 0), (0, .ref (zq w 0)), (1, .int a1), (2, .int a2)]) zd_X_write_54 rfl (Nat.le_of_ble_eq_true rfl) rfl ?_
            refine z_sub (lv' := [(0, .ref (zq w 0)), (1, .int a1), (2, .int a2), (3, .int 0)]) [1, 2, 3, 0] rfl ?_
            refine L_X_write_55 O hl0 a1 a2 (((a2).toInt - (0 : Int32).toInt).toNat + 2) σ 0 ko (fun r13 er13 => ?_)
            have ht := ht.trans (zlet_e er13)
            refine z_aload_n O zd_X_write_106 rfl 0 rfl ?_
            refine zg_X_16_0 O zd_X_write_107 (v := .ref (zq w 2)) rfl ?_
            refine z_dup O zd_X_write_110 rfl ?_
            refine zg_X_42_2 O zd_X_write_111 (v := .int (r13 2 5)) rfl ?_
            refine z_iload_n O zd_X_write_114 rfl 1 rfl ?_
            refine z_iadd O zd_X_write_115 ?_
            refine zp_X_42_2 O zd_X_write_116 ?_
            refine z_aload_n O zd_X_write_119 rfl 0 rfl ?_
            refine zg_X_16_0 O zd_X_write_120 (v := .ref (zq w 2)) rfl ?_
            refine zg_X_42_2 O zd_X_write_123 (v := .int ((r13 2 5) + a2)) rfl ?_
            exact E _ _ _ _ zd_X_write_126 rfl ht.symm
          · have ht := ht.trans (if_neg c8)
            have ko := ko.2 c8
            exact ko.elim
        · have ht := ht.trans (if_neg c7)
          have ko := ko.2 c7
          exact ko.elim
set_option maxHeartbeats 4000000 in
set_option maxRecDepth 100000 in
theorem c_X_read (l : Launch) (w : zWd) (σ : zSt) (ko : k_X_read σ) : zMi l ({ cls := "SluiceStream", name := "read", desc := "()I" } : Jvm.MethodName) prog_1_method_3_code 2 6 143 .int w [.ref (zq w 0)] σ (fun r u => (r, u) = (f_X_read σ)) := by
  refine zMi_of (by decide +kernel) (Nat.le_of_ble_eq_true rfl) ?_
  intro K O hl0 E
  have ht : (f_X_read σ) = (f_X_read σ) := rfl
  refine z_sub (lv' := [(0, .ref (zq w 0))]) [0] rfl ?_
  refine z_aload_n O zd_X_read_0 rfl 0 rfl ?_
  refine zg_X_23_0 O zd_X_read_1 (v := .ref (zq w 6)) rfl ?_
  refine zg_X_49_6 O zd_X_read_4 (v := .int (σ 6 3)) rfl ?_
  refine z_istore_n O (lv' := [(1, .int (σ 6 3)), (0, .ref (zq w 0))]) zd_X_read_7 rfl (Nat.le_of_ble_eq_true rfl) rfl ?_
  refine z_iload_n O zd_X_read_8 rfl 0 rfl ?_
  refine z_aload_n O zd_X_read_9 rfl 1 rfl ?_
  refine zg_X_23_0 O zd_X_read_10 (v := .ref (zq w 6)) rfl ?_
  refine zg_X_52_6 O zd_X_read_13 (v := .int (σ 6 2)) rfl ?_
  refine z_icmp_ge O (tgt := 32) zd_X_read_16 (by decide) (fun c1 => ?_) (fun c1 => ?_)
  · have ht := ht.trans (if_pos c1)
    refine z_iconst O (v := (-1)) zd_X_read_32 (by decide) ?_
    exact E _ _ _ _ zd_X_read_33 rfl ht.symm
  · have ht := ht.trans (if_neg c1)
    have ko := ko c1
    refine z_iload_n O zd_X_read_19 rfl 0 rfl ?_
    refine z_if_lt O (tgt := 32) zd_X_read_20 (by decide) (fun c2 => ?_) (fun c2 => ?_)
    · have ht := ht.trans (if_pos c2)
      refine z_iconst O (v := (-1)) zd_X_read_32 (by decide) ?_
      exact E _ _ _ _ zd_X_read_33 rfl ht.symm
    · have ht := ht.trans (if_neg c2)
      have ko := ko c2
      refine z_iload_n O zd_X_read_23 rfl 0 rfl ?_
      refine z_aload_n O zd_X_read_24 rfl 1 rfl ?_
      refine zg_X_9_0 O zd_X_read_25 (v := .ref (zq w 1)) rfl ?_
      refine z_alen O 1 (zae1 w σ) (v := 600) rfl zd_X_read_28 ?_
      refine z_icmp_lt O (tgt := 34) zd_X_read_29 (by decide) (fun c3 => ?_) (fun c3 => ?_)
      · have ht := ht.trans (if_pos c3)
        have ko := ko c3
        refine z_aload_n O zd_X_read_34 rfl 1 rfl ?_
        refine zg_X_23_0 O zd_X_read_35 (v := .ref (zq w 6)) rfl ?_
        refine z_calli O hl0 (st := []) 6 1 (fs := zo6 w σ) rfl rfl (c_R_passByte l w σ) zl_X_55 zm276 zm277 rfl rfl (Nat.le_of_ble_eq_true rfl) (Nat.le_of_ble_eq_true rfl) (Nat.le_of_ble_eq_true rfl) zd_X_read_38 (fun r4 u5 e6 => ?_)
        have ht := ht.trans (zseq_e e6)
        have ko := ko r4 u5 e6
        refine z_if_eq O (tgt := 55) zd_X_read_41 (by decide) (fun c7 => ?_) (fun c7 => ?_)
        · have ht := ht.trans (if_pos c7)
          have ko := ko.1 c7
          refine z_aload_n O zd_X_read_55 rfl 1 rfl ?_
          refine zg_X_9_0 O zd_X_read_56 (v := .ref (zq w 1)) rfl ?_
          refine z_iload_n O zd_X_read_59 rfl 0 rfl ?_
          have b8 := ko
          refine z_iald O 1 (zae1 w u5) b8 (v := (u5 1 ((σ 6 3) : Int32).toNatClampNeg)) rfl zd_X_read_60 ?_
          exact E _ _ _ _ zd_X_read_61 rfl ht.symm
        · have ht := ht.trans (if_neg c7)
          have ko := ko.2 c7
          refine z_aload_n O zd_X_read_44 rfl 1 rfl ?_
          refine zg_X_23_0 O zd_X_read_45 (v := .ref (zq w 6)) rfl ?_
          refine z_aload_n O zd_X_read_48 rfl 1 rfl ?_
          refine zg_X_36_0 O zd_X_read_49 (v := .ref (zq w 11)) rfl ?_
          refine z_callv O hl0 (st := []) 6 1 (fs := zo6 w u5) rfl rfl (c_R_makeAck l w u5 ko.1) zl_X_59 zm284 zm285 rfl rfl (Nat.le_of_ble_eq_true rfl) (Nat.le_of_ble_eq_true rfl) (Nat.le_of_ble_eq_true rfl) zd_X_read_52 (fun u9 e10 => ?_)
          have ht := ht.trans (zlet_e e10)
          have ko := ko.2 u9 e10
          refine z_aload_n O zd_X_read_55 rfl 1 rfl ?_
          refine zg_X_9_0 O zd_X_read_56 (v := .ref (zq w 1)) rfl ?_
          refine z_iload_n O zd_X_read_59 rfl 0 rfl ?_
          have b11 := ko
          refine z_iald O 1 (zae1 w u9) b11 (v := (u9 1 ((σ 6 3) : Int32).toNatClampNeg)) rfl zd_X_read_60 ?_
          exact E _ _ _ _ zd_X_read_61 rfl ht.symm
      · have ht := ht.trans (if_neg c3)
        refine z_iconst O (v := (-1)) zd_X_read_32 (by decide) ?_
        exact E _ _ _ _ zd_X_read_33 rfl ht.symm
set_option maxHeartbeats 4000000 in
set_option maxRecDepth 100000 in
theorem c_X_send (l : Launch) (w : zWd) (σ : zSt) (ko : k_X_send σ) : zMi l ({ cls := "SluiceStream", name := "send", desc := "()I" } : Jvm.MethodName) prog_1_method_5_code 1 5 113 .int w [.ref (zq w 0)] σ (fun r u => (r, u) = (f_X_send σ)) := by
  refine zMi_of (by decide +kernel) (Nat.le_of_ble_eq_true rfl) ?_
  intro K O hl0 E
  have ht : (f_X_send σ) = (f_X_send σ) := rfl
  refine z_sub (lv' := [(0, .ref (zq w 0))]) [0] rfl ?_
  refine z_aload_n O zd_X_send_0 rfl 0 rfl ?_
  refine zg_X_32_0 O zd_X_send_1 (v := .ref (zq w 9)) rfl ?_
  refine z_callri O hl0 (st := []) 9 2 (fs := zo9 w σ) rfl rfl (c_W_isFull_9 l w σ) zl_X_66 zm288 zm289 rfl rfl (Nat.le_of_ble_eq_true rfl) (Nat.le_of_ble_eq_true rfl) (Nat.le_of_ble_eq_true rfl) zd_X_send_4 (fun r1 e2 => ?_)
  have ht := ht.trans (zlet_e e2)
  have ko := ko r1 e2
  refine z_if_eq O (tgt := 18) zd_X_send_7 (by decide) (fun c3 => ?_) (fun c3 => ?_)
  · have ht := ht.trans (if_pos c3)
    have ko := ko.1 c3
    refine z_aload_n O zd_X_send_18 rfl 0 rfl ?_
    refine zg_X_16_0 O zd_X_send_19 (v := .ref (zq w 2)) rfl ?_
    refine z_aload_n O zd_X_send_22 rfl 0 rfl ?_
    refine zg_X_32_0 O zd_X_send_23 (v := .ref (zq w 9)) rfl ?_
    refine z_calli O hl0 (st := []) 2 3 (fs := zo2 w σ) rfl rfl (c_S_sendInto l w σ ko) zl_X_69 zm589 zm590 rfl rfl (Nat.le_of_ble_eq_true rfl) (Nat.le_of_ble_eq_true rfl) (Nat.le_of_ble_eq_true rfl) zd_X_send_26 (fun r4 u5 e6 => ?_)
    have ht := ht.trans (zseq_e e6)
    exact E _ _ _ _ zd_X_send_29 rfl ht.symm
  · have ht := ht.trans (if_neg c3)
    have ko := ko.2 c3
    exact ko.elim
set_option maxHeartbeats 4000000 in
set_option maxRecDepth 100000 in
theorem c_X_tick (l : Launch) (w : zWd) (σ : zSt) (a1 : Int32) (ko : k_X_tick σ a1) : zMi l ({ cls := "SluiceStream", name := "tick", desc := "(I)I" } : Jvm.MethodName) prog_1_method_6_code 2 6 128 .int w [.ref (zq w 0), .int a1] σ (fun r u => (r, u) = (f_X_tick σ a1)) := by
  refine zMi_of (by decide +kernel) (Nat.le_of_ble_eq_true rfl) ?_
  intro K O hl0 E
  have ht : (f_X_tick σ a1) = (f_X_tick σ a1) := rfl
  refine z_sub (lv' := [(0, .ref (zq w 0)), (1, .int a1)]) [0, 1] rfl ?_
  refine z_iload_n O zd_X_tick_0 rfl 1 rfl ?_
  refine z_iconst O (v := 1) zd_X_tick_1 (by decide) ?_
  refine z_icmp_lt O (tgt := 11) zd_X_tick_2 (by decide) (fun c1 => ?_) (fun c1 => ?_)
  · have ht := ht.trans (if_pos c1)
    have ko := ko.1 c1
    exact ko.elim
  · have ht := ht.trans (if_neg c1)
    have ko := ko.2 c1
    refine z_iload_n O zd_X_tick_5 rfl 1 rfl ?_
    refine z_bipush O (v := 100) zd_X_tick_6 (by decide) ?_
    refine z_icmp_le O (tgt := 19) zd_X_tick_8 (by decide) (fun c3 => ?_) (fun c3 => ?_)
    · have ht := ht.trans (if_pos c3)
      have ko := ko.1 c3
      refine z_aload_n O zd_X_tick_19 rfl 0 rfl ?_
      refine zg_X_16_0 O zd_X_tick_20 (v := .ref (zq w 2)) rfl ?_
      refine z_iload_n O zd_X_tick_23 rfl 1 rfl ?_
      refine z_calli O hl0 (st := []) 2 3 (fs := zo2 w σ) rfl rfl (c_S_passTicks l w σ a1 ko) zl_X_73 zm347 zm348 rfl rfl (Nat.le_of_ble_eq_true rfl) (Nat.le_of_ble_eq_true rfl) (Nat.le_of_ble_eq_true rfl) zd_X_tick_24 (fun r4 u5 e6 => ?_)
      have ht := ht.trans (zseq_e e6)
      exact E _ _ _ _ zd_X_tick_27 rfl ht.symm
    · have ht := ht.trans (if_neg c3)
      have ko := ko.2 c3
      exact ko.elim
set_option maxHeartbeats 4000000 in
set_option maxRecDepth 100000 in
theorem c_X_deliver (l : Launch) (w : zWd) (σ : zSt) (a1 : Int32) (ko : k_X_deliver σ a1) : zMi l ({ cls := "SluiceStream", name := "deliver", desc := "(I)I" } : Jvm.MethodName) prog_1_method_7_code 3 6 143 .int w [.ref (zq w 0), .int a1] σ (fun r u => (r, u) = (f_X_deliver σ a1)) := by
  refine zMi_of (by decide +kernel) (Nat.le_of_ble_eq_true rfl) ?_
  intro K O hl0 E
  have ht : (f_X_deliver σ a1) = (f_X_deliver σ a1) := rfl
  refine z_sub (lv' := [(0, .ref (zq w 0)), (1, .int a1)]) [0, 1] rfl ?_
  refine z_aload_n O zd_X_deliver_0 rfl 0 rfl ?_
  refine zg_X_32_0 O zd_X_deliver_1 (v := .ref (zq w 9)) rfl ?_
  refine z_iload_n O zd_X_deliver_4 rfl 1 rfl ?_
  refine z_callri O hl0 (st := []) 9 2 (fs := zo9 w σ) rfl rfl (c_W_holds_9 l w σ a1) zl_X_77 zm296 zm297 rfl rfl (Nat.le_of_ble_eq_true rfl) (Nat.le_of_ble_eq_true rfl) (Nat.le_of_ble_eq_true rfl) zd_X_deliver_5 (fun r1 e2 => ?_)
  have ht := ht.trans (zlet_e e2)
  have ko := ko r1 e2
  refine z_if_ne O (tgt := 19) zd_X_deliver_8 (by decide) (fun c3 => ?_) (fun c3 => ?_)
  · have ht := ht.trans (if_neg c3)
    have ko := ko.2 c3
    refine z_aload_n O zd_X_deliver_19 rfl 0 rfl ?_
    refine zg_X_23_0 O zd_X_deliver_20 (v := .ref (zq w 6)) rfl ?_
    refine z_aload_n O zd_X_deliver_23 rfl 0 rfl ?_
    refine zg_X_32_0 O zd_X_deliver_24 (v := .ref (zq w 9)) rfl ?_
    refine z_iload_n O zd_X_deliver_27 rfl 1 rfl ?_
    refine z_iconst O (v := 0) zd_X_deliver_28 (by decide) ?_
    refine z_callri O hl0 (st := [.ref (zq w 6)]) 9 2 (fs := zo9 w σ) rfl rfl (c_W_cell_9 l w σ a1 0 ko.1) zl_X_84 zm411 zm412 rfl rfl (Nat.le_of_ble_eq_true rfl) (Nat.le_of_ble_eq_true rfl) (Nat.le_of_ble_eq_true rfl) zd_X_deliver_29 (fun r4 e5 => ?_)
    have ht := ht.trans (zlet_e e5)
    have ko := ko.2 r4 e5
    refine z_aload_n O zd_X_deliver_32 rfl 0 rfl ?_
    refine zg_X_32_0 O zd_X_deliver_33 (v := .ref (zq w 9)) rfl ?_
    refine z_iload_n O zd_X_deliver_36 rfl 1 rfl ?_
    refine z_iconst O (v := 1) zd_X_deliver_37 (by decide) ?_
    refine z_callri O hl0 (st := [.int r4, .ref (zq w 6)]) 9 2 (fs := zo9 w σ) rfl rfl (c_W_cell_9 l w σ a1 1 ko.1) zl_X_84 zm411 zm412 rfl rfl (Nat.le_of_ble_eq_true rfl) (Nat.le_of_ble_eq_true rfl) (Nat.le_of_ble_eq_true rfl) zd_X_deliver_38 (fun r6 e7 => ?_)
    have ht := ht.trans (zlet_e e7)
    have ko := ko.2 r6 e7
    refine z_calli O hl0 (st := []) 6 1 (fs := zo6 w σ) rfl rfl (c_R_takeBytes l w σ r4 r6 ko.1) zl_X_88 zm415 zm416 rfl rfl (Nat.le_of_ble_eq_true rfl) (Nat.le_of_ble_eq_true rfl) (Nat.le_of_ble_eq_true rfl) zd_X_deliver_41 (fun r8 u9 e10 => ?_)
    have ht := ht.trans (zseq_e e10)
    have ko := ko.2 r8 u9 e10
    refine z_istore_n O (lv' := [(2, .int r8), (0, .ref (zq w 0)), (1, .int a1)]) zd_X_deliver_44 rfl (Nat.le_of_ble_eq_true rfl) rfl ?_
    refine z_aload_n O zd_X_deliver_45 rfl 1 rfl ?_
    refine zg_X_32_0 O zd_X_deliver_46 (v := .ref (zq w 9)) rfl ?_
    refine z_iload_n O zd_X_deliver_49 rfl 2 rfl ?_
    refine z_callv O hl0 (st := []) 9 2 (fs := zo9 w u9) rfl rfl (c_W_remove_9 l w u9 a1 ko.1) zl_X_91 zm292 zm293 rfl rfl (Nat.le_of_ble_eq_true rfl) (Nat.le_of_ble_eq_true rfl) (Nat.le_of_ble_eq_true rfl) zd_X_deliver_50 (fun u11 e12 => ?_)
    have ht := ht.trans (zlet_e e12)
    have ko := ko.2 u11 e12
    refine z_aload_n O zd_X_deliver_53 rfl 1 rfl ?_
    refine zg_X_23_0 O zd_X_deliver_54 (v := .ref (zq w 6)) rfl ?_
    refine z_aload_n O zd_X_deliver_57 rfl 1 rfl ?_
    refine zg_X_36_0 O zd_X_deliver_58 (v := .ref (zq w 11)) rfl ?_
    refine z_callv O hl0 (st := []) 6 1 (fs := zo6 w u11) rfl rfl (c_R_makeAck l w u11 ko) zl_X_59 zm284 zm285 rfl rfl (Nat.le_of_ble_eq_true rfl) (Nat.le_of_ble_eq_true rfl) (Nat.le_of_ble_eq_true rfl) zd_X_deliver_61 (fun u13 e14 => ?_)
    have ht := ht.trans (zlet_e e14)
    refine z_iload_n O zd_X_deliver_64 rfl 0 rfl ?_
    exact E _ _ _ _ zd_X_deliver_65 rfl ht.symm
  · have ht := ht.trans (if_pos c3)
    have ko := ko.1 c3
    exact ko.elim
set_option maxHeartbeats 4000000 in
set_option maxRecDepth 100000 in
theorem c_X_lose (l : Launch) (w : zWd) (σ : zSt) (a1 : Int32) (ko : k_X_lose σ a1) : zMi l ({ cls := "SluiceStream", name := "lose", desc := "(I)I" } : Jvm.MethodName) prog_1_method_8_code 3 2 43 .int w [.ref (zq w 0), .int a1] σ (fun r u => (r, u) = (f_X_lose σ a1)) := by
  refine zMi_of (by decide +kernel) (Nat.le_of_ble_eq_true rfl) ?_
  intro K O hl0 E
  have ht : (f_X_lose σ a1) = (f_X_lose σ a1) := rfl
  refine z_sub (lv' := [(0, .ref (zq w 0)), (1, .int a1)]) [0, 1] rfl ?_
  refine z_aload_n O zd_X_lose_0 rfl 0 rfl ?_
  refine zg_X_32_0 O zd_X_lose_1 (v := .ref (zq w 9)) rfl ?_
  refine z_iload_n O zd_X_lose_4 rfl 1 rfl ?_
  refine z_callri O hl0 (st := []) 9 2 (fs := zo9 w σ) rfl rfl (c_W_holds_9 l w σ a1) zl_X_77 zm296 zm297 rfl rfl (Nat.le_of_ble_eq_true rfl) (Nat.le_of_ble_eq_true rfl) (Nat.le_of_ble_eq_true rfl) zd_X_lose_5 (fun r1 e2 => ?_)
  have ht := ht.trans (zlet_e e2)
  have ko := ko r1 e2
  refine z_if_ne O (tgt := 19) zd_X_lose_8 (by decide) (fun c3 => ?_) (fun c3 => ?_)
  · have ht := ht.trans (if_neg c3)
    have ko := ko.2 c3
    refine z_aload_n O zd_X_lose_19 rfl 0 rfl ?_
    refine zg_X_32_0 O zd_X_lose_20 (v := .ref (zq w 9)) rfl ?_
    refine z_iload_n O zd_X_lose_23 rfl 1 rfl ?_
    refine z_iconst O (v := 0) zd_X_lose_24 (by decide) ?_
    refine z_callri O hl0 (st := []) 9 2 (fs := zo9 w σ) rfl rfl (c_W_cell_9 l w σ a1 0 ko.1) zl_X_84 zm411 zm412 rfl rfl (Nat.le_of_ble_eq_true rfl) (Nat.le_of_ble_eq_true rfl) (Nat.le_of_ble_eq_true rfl) zd_X_lose_25 (fun r4 e5 => ?_)
    have ht := ht.trans (zlet_e e5)
    have ko := ko.2 r4 e5
    refine z_istore_n O (lv' := [(2, .int r4), (0, .ref (zq w 0)), (1, .int a1)]) zd_X_lose_28 rfl (Nat.le_of_ble_eq_true rfl) rfl ?_
    refine z_aload_n O zd_X_lose_29 rfl 1 rfl ?_
    refine zg_X_32_0 O zd_X_lose_30 (v := .ref (zq w 9)) rfl ?_
    refine z_iload_n O zd_X_lose_33 rfl 2 rfl ?_
    refine z_callv O hl0 (st := []) 9 2 (fs := zo9 w σ) rfl rfl (c_W_remove_9 l w σ a1 ko) zl_X_91 zm292 zm293 rfl rfl (Nat.le_of_ble_eq_true rfl) (Nat.le_of_ble_eq_true rfl) (Nat.le_of_ble_eq_true rfl) zd_X_lose_34 (fun u6 e7 => ?_)
    have ht := ht.trans (zlet_e e7)
    refine z_iload_n O zd_X_lose_37 rfl 0 rfl ?_
    exact E _ _ _ _ zd_X_lose_38 rfl ht.symm
  · have ht := ht.trans (if_pos c3)
    have ko := ko.1 c3
    exact ko.elim
set_option maxHeartbeats 4000000 in
set_option maxRecDepth 100000 in
theorem c_X_duplicate (l : Launch) (w : zWd) (σ : zSt) (a1 : Int32) (ko : k_X_duplicate σ a1) : zMi l ({ cls := "SluiceStream", name := "duplicate", desc := "(I)I" } : Jvm.MethodName) prog_1_method_9_code 3 1 24 .int w [.ref (zq w 0), .int a1] σ (fun r u => (r, u) = (f_X_duplicate σ a1)) := by
  refine zMi_of (by decide +kernel) (Nat.le_of_ble_eq_true rfl) ?_
  intro K O hl0 E
  have ht : (f_X_duplicate σ a1) = (f_X_duplicate σ a1) := rfl
  refine z_sub (lv' := [(0, .ref (zq w 0)), (1, .int a1)]) [0, 1] rfl ?_
  refine z_aload_n O zd_X_duplicate_0 rfl 0 rfl ?_
  refine zg_X_32_0 O zd_X_duplicate_1 (v := .ref (zq w 9)) rfl ?_
  refine z_iload_n O zd_X_duplicate_4 rfl 1 rfl ?_
  refine z_callri O hl0 (st := []) 9 2 (fs := zo9 w σ) rfl rfl (c_W_holds_9 l w σ a1) zl_X_77 zm296 zm297 rfl rfl (Nat.le_of_ble_eq_true rfl) (Nat.le_of_ble_eq_true rfl) (Nat.le_of_ble_eq_true rfl) zd_X_duplicate_5 (fun r1 e2 => ?_)
  have ht := ht.trans (zlet_e e2)
  have ko := ko r1 e2
  refine z_if_ne O (tgt := 19) zd_X_duplicate_8 (by decide) (fun c3 => ?_) (fun c3 => ?_)
  · have ht := ht.trans (if_neg c3)
    have ko := ko.2 c3
    refine z_aload_n O zd_X_duplicate_19 rfl 0 rfl ?_
    refine zg_X_32_0 O zd_X_duplicate_20 (v := .ref (zq w 9)) rfl ?_
    refine z_callri O hl0 (st := []) 9 2 (fs := zo9 w σ) rfl rfl (c_W_isFull_9 l w σ) zl_X_66 zm288 zm289 rfl rfl (Nat.le_of_ble_eq_true rfl) (Nat.le_of_ble_eq_true rfl) (Nat.le_of_ble_eq_true rfl) zd_X_duplicate_23 (fun r4 e5 => ?_)
    have ht := ht.trans (zlet_e e5)
    have ko := ko r4 e5
    refine z_if_eq O (tgt := 37) zd_X_duplicate_26 (by decide) (fun c6 => ?_) (fun c6 => ?_)
    · have ht := ht.trans (if_pos c6)
      have ko := ko.1 c6
      refine z_aload_n O zd_X_duplicate_37 rfl 0 rfl ?_
      refine zg_X_32_0 O zd_X_duplicate_38 (v := .ref (zq w 9)) rfl ?_
      refine z_calli O hl0 (st := []) 9 2 (fs := zo9 w σ) rfl rfl (c_W_addRow_9 l w σ) zl_X_95 zm300 zm301 rfl rfl (Nat.le_of_ble_eq_true rfl) (Nat.le_of_ble_eq_true rfl) (Nat.le_of_ble_eq_true rfl) zd_X_duplicate_41 (fun r7 u8 e9 => ?_)
      have ht := ht.trans (zseq_e e9)
      have ko := ko r7 u8 e9
      refine z_istore_n O (lv' := [(2, .int r7), (0, .ref (zq w 0)), (1, .int a1)]) zd_X_duplicate_44 rfl (Nat.le_of_ble_eq_true rfl) rfl ?_
      refine z_aload_n O zd_X_duplicate_45 rfl 1 rfl ?_
      refine zg_X_32_0 O zd_X_duplicate_46 (v := .ref (zq w 9)) rfl ?_
      refine z_iload_n O zd_X_duplicate_49 rfl 0 rfl ?_
      refine z_iconst O (v := 0) zd_X_duplicate_50 (by decide) ?_
      refine z_aload_n O zd_X_duplicate_51 rfl 1 rfl ?_
      refine zg_X_32_0 O zd_X_duplicate_52 (v := .ref (zq w 9)) rfl ?_
      refine z_iload_n O zd_X_duplicate_55 rfl 2 rfl ?_
      refine z_iconst O (v := 0) zd_X_duplicate_56 (by decide) ?_
      refine z_callri O hl0 (st := [.int 0, .int r7, .ref (zq w 9)]) 9 2 (fs := zo9 w u8) rfl rfl (c_W_cell_9 l w u8 a1 0 ko.1) zl_X_84 zm411 zm412 rfl rfl (Nat.le_of_ble_eq_true rfl) (Nat.le_of_ble_eq_true rfl) (Nat.le_of_ble_eq_true rfl) zd_X_duplicate_57 (fun r10 e11 => ?_)
      have ht := ht.trans (zlet_e e11)
      have ko := ko.2 r10 e11
      refine z_callv O hl0 (st := []) 9 2 (fs := zo9 w u8) rfl rfl (c_W_setCell_9 l w u8 r7 0 r10 ko.1) zl_X_99 zm304 zm305 rfl rfl (Nat.le_of_ble_eq_true rfl) (Nat.le_of_ble_eq_true rfl) (Nat.le_of_ble_eq_true rfl) zd_X_duplicate_60 (fun u12 e13 => ?_)
      have ht := ht.trans (zlet_e e13)
      have ko := ko.2 u12 e13
      refine z_aload_n O zd_X_duplicate_63 rfl 1 rfl ?_
      refine zg_X_32_0 O zd_X_duplicate_64 (v := .ref (zq w 9)) rfl ?_
      refine z_iload_n O zd_X_duplicate_67 rfl 0 rfl ?_
      refine z_iconst O (v := 1) zd_X_duplicate_68 (by decide) ?_
      refine z_aload_n O zd_X_duplicate_69 rfl 1 rfl ?_
      refine zg_X_32_0 O zd_X_duplicate_70 (v := .ref (zq w 9)) rfl ?_
      refine z_iload_n O zd_X_duplicate_73 rfl 2 rfl ?_
      refine z_iconst O (v := 1) zd_X_duplicate_74 (by decide) ?_
      refine z_callri O hl0 (st := [.int 1, .int r7, .ref (zq w 9)]) 9 2 (fs := zo9 w u12) rfl rfl (c_W_cell_9 l w u12 a1 1 ko.1) zl_X_84 zm411 zm412 rfl rfl (Nat.le_of_ble_eq_true rfl) (Nat.le_of_ble_eq_true rfl) (Nat.le_of_ble_eq_true rfl) zd_X_duplicate_75 (fun r14 e15 => ?_)
      have ht := ht.trans (zlet_e e15)
      have ko := ko.2 r14 e15
      refine z_callv O hl0 (st := []) 9 2 (fs := zo9 w u12) rfl rfl (c_W_setCell_9 l w u12 r7 1 r14 ko) zl_X_99 zm304 zm305 rfl rfl (Nat.le_of_ble_eq_true rfl) (Nat.le_of_ble_eq_true rfl) (Nat.le_of_ble_eq_true rfl) zd_X_duplicate_78 (fun u16 e17 => ?_)
      have ht := ht.trans (zlet_e e17)
      refine z_aload_n O zd_X_duplicate_81 rfl 1 rfl ?_
      refine zg_X_32_0 O zd_X_duplicate_82 (v := .ref (zq w 9)) rfl ?_
      refine zg_X_103_9 O zd_X_duplicate_85 (v := .int (u16 9 2)) rfl ?_
      exact E _ _ _ _ zd_X_duplicate_88 rfl ht.symm
    · have ht := ht.trans (if_neg c6)
      have ko := ko.2 c6
      exact ko.elim
  · have ht := ht.trans (if_pos c3)
    have ko := ko.1 c3
    exact ko.elim
set_option maxHeartbeats 4000000 in
set_option maxRecDepth 100000 in
theorem c_X_deliverAck (l : Launch) (w : zWd) (σ : zSt) (a1 : Int32) (ko : k_X_deliverAck σ a1) : zMi l ({ cls := "SluiceStream", name := "deliverAck", desc := "(I)I" } : Jvm.MethodName) prog_1_method_10_code 3 6 131 .int w [.ref (zq w 0), .int a1] σ (fun r u => (r, u) = (f_X_deliverAck σ a1)) := by
  refine zMi_of (by decide +kernel) (Nat.le_of_ble_eq_true rfl) ?_
  intro K O hl0 E
  have ht : (f_X_deliverAck σ a1) = (f_X_deliverAck σ a1) := rfl
  refine z_sub (lv' := [(0, .ref (zq w 0)), (1, .int a1)]) [0, 1] rfl ?_
  refine z_aload_n O zd_X_deliverAck_0 rfl 0 rfl ?_
  refine zg_X_36_0 O zd_X_deliverAck_1 (v := .ref (zq w 11)) rfl ?_
  refine z_iload_n O zd_X_deliverAck_4 rfl 1 rfl ?_
  refine z_callri O hl0 (st := []) 11 2 (fs := zo11 w σ) rfl rfl (c_W_holds_11 l w σ a1) zl_X_77 zm296 zm297 rfl rfl (Nat.le_of_ble_eq_true rfl) (Nat.le_of_ble_eq_true rfl) (Nat.le_of_ble_eq_true rfl) zd_X_deliverAck_5 (fun r1 e2 => ?_)
  have ht := ht.trans (zlet_e e2)
  have ko := ko r1 e2
  refine z_if_ne O (tgt := 19) zd_X_deliverAck_8 (by decide) (fun c3 => ?_) (fun c3 => ?_)
  · have ht := ht.trans (if_neg c3)
    have ko := ko.2 c3
    refine z_aload_n O zd_X_deliverAck_19 rfl 0 rfl ?_
    refine zg_X_16_0 O zd_X_deliverAck_20 (v := .ref (zq w 2)) rfl ?_
    refine z_aload_n O zd_X_deliverAck_23 rfl 0 rfl ?_
    refine zg_X_36_0 O zd_X_deliverAck_24 (v := .ref (zq w 11)) rfl ?_
    refine z_iload_n O zd_X_deliverAck_27 rfl 1 rfl ?_
    refine z_calli O hl0 (st := []) 2 3 (fs := zo2 w σ) rfl rfl (c_S_takeAck l w σ a1 ko.1) zl_X_106 zm633 zm634 rfl rfl (Nat.le_of_ble_eq_true rfl) (Nat.le_of_ble_eq_true rfl) (Nat.le_of_ble_eq_true rfl) zd_X_deliverAck_28 (fun r4 u5 e6 => ?_)
    have ht := ht.trans (zseq_e e6)
    have ko := ko.2 r4 u5 e6
    refine z_istore_n O (lv' := [(2, .int r4), (0, .ref (zq w 0)), (1, .int a1)]) zd_X_deliverAck_31 rfl (Nat.le_of_ble_eq_true rfl) rfl ?_
    refine z_aload_n O zd_X_deliverAck_32 rfl 1 rfl ?_
    refine zg_X_36_0 O zd_X_deliverAck_33 (v := .ref (zq w 11)) rfl ?_
    refine z_iload_n O zd_X_deliverAck_36 rfl 2 rfl ?_
    refine z_callv O hl0 (st := []) 11 2 (fs := zo11 w u5) rfl rfl (c_W_remove_11 l w u5 a1 ko) zl_X_91 zm292 zm293 rfl rfl (Nat.le_of_ble_eq_true rfl) (Nat.le_of_ble_eq_true rfl) (Nat.le_of_ble_eq_true rfl) zd_X_deliverAck_37 (fun u7 e8 => ?_)
    have ht := ht.trans (zlet_e e8)
    refine z_iload_n O zd_X_deliverAck_40 rfl 0 rfl ?_
    exact E _ _ _ _ zd_X_deliverAck_41 rfl ht.symm
  · have ht := ht.trans (if_pos c3)
    have ko := ko.1 c3
    exact ko.elim
set_option maxHeartbeats 4000000 in
set_option maxRecDepth 100000 in
theorem c_X_loseAck (l : Launch) (w : zWd) (σ : zSt) (a1 : Int32) (ko : k_X_loseAck σ a1) : zMi l ({ cls := "SluiceStream", name := "loseAck", desc := "(I)I" } : Jvm.MethodName) prog_1_method_11_code 3 2 43 .int w [.ref (zq w 0), .int a1] σ (fun r u => (r, u) = (f_X_loseAck σ a1)) := by
  refine zMi_of (by decide +kernel) (Nat.le_of_ble_eq_true rfl) ?_
  intro K O hl0 E
  have ht : (f_X_loseAck σ a1) = (f_X_loseAck σ a1) := rfl
  refine z_sub (lv' := [(0, .ref (zq w 0)), (1, .int a1)]) [0, 1] rfl ?_
  refine z_aload_n O zd_X_loseAck_0 rfl 0 rfl ?_
  refine zg_X_36_0 O zd_X_loseAck_1 (v := .ref (zq w 11)) rfl ?_
  refine z_iload_n O zd_X_loseAck_4 rfl 1 rfl ?_
  refine z_callri O hl0 (st := []) 11 2 (fs := zo11 w σ) rfl rfl (c_W_holds_11 l w σ a1) zl_X_77 zm296 zm297 rfl rfl (Nat.le_of_ble_eq_true rfl) (Nat.le_of_ble_eq_true rfl) (Nat.le_of_ble_eq_true rfl) zd_X_loseAck_5 (fun r1 e2 => ?_)
  have ht := ht.trans (zlet_e e2)
  have ko := ko r1 e2
  refine z_if_ne O (tgt := 19) zd_X_loseAck_8 (by decide) (fun c3 => ?_) (fun c3 => ?_)
  · have ht := ht.trans (if_neg c3)
    have ko := ko.2 c3
    refine z_aload_n O zd_X_loseAck_19 rfl 0 rfl ?_
    refine zg_X_36_0 O zd_X_loseAck_20 (v := .ref (zq w 11)) rfl ?_
    refine z_iload_n O zd_X_loseAck_23 rfl 1 rfl ?_
    refine z_iconst O (v := 0) zd_X_loseAck_24 (by decide) ?_
    refine z_callri O hl0 (st := []) 11 2 (fs := zo11 w σ) rfl rfl (c_W_cell_11 l w σ a1 0 ko.1) zl_X_84 zm411 zm412 rfl rfl (Nat.le_of_ble_eq_true rfl) (Nat.le_of_ble_eq_true rfl) (Nat.le_of_ble_eq_true rfl) zd_X_loseAck_25 (fun r4 e5 => ?_)
    have ht := ht.trans (zlet_e e5)
    have ko := ko.2 r4 e5
    refine z_istore_n O (lv' := [(2, .int r4), (0, .ref (zq w 0)), (1, .int a1)]) zd_X_loseAck_28 rfl (Nat.le_of_ble_eq_true rfl) rfl ?_
    refine z_aload_n O zd_X_loseAck_29 rfl 1 rfl ?_
    refine zg_X_36_0 O zd_X_loseAck_30 (v := .ref (zq w 11)) rfl ?_
    refine z_iload_n O zd_X_loseAck_33 rfl 2 rfl ?_
    refine z_callv O hl0 (st := []) 11 2 (fs := zo11 w σ) rfl rfl (c_W_remove_11 l w σ a1 ko) zl_X_91 zm292 zm293 rfl rfl (Nat.le_of_ble_eq_true rfl) (Nat.le_of_ble_eq_true rfl) (Nat.le_of_ble_eq_true rfl) zd_X_loseAck_34 (fun u6 e7 => ?_)
    have ht := ht.trans (zlet_e e7)
    refine z_iload_n O zd_X_loseAck_37 rfl 0 rfl ?_
    exact E _ _ _ _ zd_X_loseAck_38 rfl ht.symm
  · have ht := ht.trans (if_pos c3)
    have ko := ko.1 c3
    exact ko.elim
set_option maxHeartbeats 4000000 in
set_option maxRecDepth 100000 in
theorem c_X_segments (l : Launch) (w : zWd) (σ : zSt) : zMi l ({ cls := "SluiceStream", name := "segments", desc := "()I" } : Jvm.MethodName) prog_1_method_12_code 1 0 0 .int w [.ref (zq w 0)] σ (fun r u => r = (f_X_segments σ) ∧ u = σ) := by
  refine zMi_of (by decide +kernel) (Nat.le_of_ble_eq_true rfl) ?_
  intro K O hl0 E
  have ht : (f_X_segments σ) = (f_X_segments σ) := rfl
  refine z_sub (lv' := [(0, .ref (zq w 0))]) [0] rfl ?_
  refine z_aload_n O zd_X_segments_0 rfl 0 rfl ?_
  refine zg_X_32_0 O zd_X_segments_1 (v := .ref (zq w 9)) rfl ?_
  refine zg_X_103_9 O zd_X_segments_4 (v := .int (σ 9 2)) rfl ?_
  exact E _ _ _ _ zd_X_segments_7 rfl ⟨ht.symm, rfl⟩
set_option maxHeartbeats 4000000 in
set_option maxRecDepth 100000 in
theorem c_X_startOf (l : Launch) (w : zWd) (σ : zSt) (a1 : Int32) (ko : k_X_startOf σ a1) : zMi l ({ cls := "SluiceStream", name := "startOf", desc := "(I)I" } : Jvm.MethodName) prog_1_method_13_code 2 1 23 .int w [.ref (zq w 0), .int a1] σ (fun r u => r = (f_X_startOf σ a1) ∧ u = σ) := by
  refine zMi_of (by decide +kernel) (Nat.le_of_ble_eq_true rfl) ?_
  intro K O hl0 E
  have ht : (f_X_startOf σ a1) = (f_X_startOf σ a1) := rfl
  refine z_sub (lv' := [(0, .ref (zq w 0)), (1, .int a1)]) [0, 1] rfl ?_
  refine z_aload_n O zd_X_startOf_0 rfl 0 rfl ?_
  refine zg_X_32_0 O zd_X_startOf_1 (v := .ref (zq w 9)) rfl ?_
  refine z_iload_n O zd_X_startOf_4 rfl 1 rfl ?_
  refine z_callri O hl0 (st := []) 9 2 (fs := zo9 w σ) rfl rfl (c_W_holds_9 l w σ a1) zl_X_77 zm296 zm297 rfl rfl (Nat.le_of_ble_eq_true rfl) (Nat.le_of_ble_eq_true rfl) (Nat.le_of_ble_eq_true rfl) zd_X_startOf_5 (fun r1 e2 => ?_)
  have ht := ht.trans (zlet_e e2)
  have ko := ko r1 e2
  refine z_if_ne O (tgt := 19) zd_X_startOf_8 (by decide) (fun c3 => ?_) (fun c3 => ?_)
  · have ht := ht.trans (if_neg c3)
    have ko := ko.2 c3
    refine z_aload_n O zd_X_startOf_19 rfl 0 rfl ?_
    refine zg_X_32_0 O zd_X_startOf_20 (v := .ref (zq w 9)) rfl ?_
    refine z_iload_n O zd_X_startOf_23 rfl 1 rfl ?_
    refine z_iconst O (v := 0) zd_X_startOf_24 (by decide) ?_
    refine z_callri O hl0 (st := []) 9 2 (fs := zo9 w σ) rfl rfl (c_W_cell_9 l w σ a1 0 ko) zl_X_84 zm411 zm412 rfl rfl (Nat.le_of_ble_eq_true rfl) (Nat.le_of_ble_eq_true rfl) (Nat.le_of_ble_eq_true rfl) zd_X_startOf_25 (fun r4 e5 => ?_)
    have ht := ht.trans (zlet_e e5)
    exact E _ _ _ _ zd_X_startOf_28 rfl ⟨ht.symm, rfl⟩
  · have ht := ht.trans (if_pos c3)
    have ko := ko.1 c3
    exact ko.elim
set_option maxHeartbeats 4000000 in
set_option maxRecDepth 100000 in
theorem c_X_endOf (l : Launch) (w : zWd) (σ : zSt) (a1 : Int32) (ko : k_X_endOf σ a1) : zMi l ({ cls := "SluiceStream", name := "endOf", desc := "(I)I" } : Jvm.MethodName) prog_1_method_14_code 2 1 23 .int w [.ref (zq w 0), .int a1] σ (fun r u => r = (f_X_endOf σ a1) ∧ u = σ) := by
  refine zMi_of (by decide +kernel) (Nat.le_of_ble_eq_true rfl) ?_
  intro K O hl0 E
  have ht : (f_X_endOf σ a1) = (f_X_endOf σ a1) := rfl
  refine z_sub (lv' := [(0, .ref (zq w 0)), (1, .int a1)]) [0, 1] rfl ?_
  refine z_aload_n O zd_X_endOf_0 rfl 0 rfl ?_
  refine zg_X_32_0 O zd_X_endOf_1 (v := .ref (zq w 9)) rfl ?_
  refine z_iload_n O zd_X_endOf_4 rfl 1 rfl ?_
  refine z_callri O hl0 (st := []) 9 2 (fs := zo9 w σ) rfl rfl (c_W_holds_9 l w σ a1) zl_X_77 zm296 zm297 rfl rfl (Nat.le_of_ble_eq_true rfl) (Nat.le_of_ble_eq_true rfl) (Nat.le_of_ble_eq_true rfl) zd_X_endOf_5 (fun r1 e2 => ?_)
  have ht := ht.trans (zlet_e e2)
  have ko := ko r1 e2
  refine z_if_ne O (tgt := 19) zd_X_endOf_8 (by decide) (fun c3 => ?_) (fun c3 => ?_)
  · have ht := ht.trans (if_neg c3)
    have ko := ko.2 c3
    refine z_aload_n O zd_X_endOf_19 rfl 0 rfl ?_
    refine zg_X_32_0 O zd_X_endOf_20 (v := .ref (zq w 9)) rfl ?_
    refine z_iload_n O zd_X_endOf_23 rfl 1 rfl ?_
    refine z_iconst O (v := 1) zd_X_endOf_24 (by decide) ?_
    refine z_callri O hl0 (st := []) 9 2 (fs := zo9 w σ) rfl rfl (c_W_cell_9 l w σ a1 1 ko) zl_X_84 zm411 zm412 rfl rfl (Nat.le_of_ble_eq_true rfl) (Nat.le_of_ble_eq_true rfl) (Nat.le_of_ble_eq_true rfl) zd_X_endOf_25 (fun r4 e5 => ?_)
    have ht := ht.trans (zlet_e e5)
    exact E _ _ _ _ zd_X_endOf_28 rfl ⟨ht.symm, rfl⟩
  · have ht := ht.trans (if_pos c3)
    have ko := ko.1 c3
    exact ko.elim
set_option maxHeartbeats 4000000 in
set_option maxRecDepth 100000 in
theorem c_X_acks (l : Launch) (w : zWd) (σ : zSt) : zMi l ({ cls := "SluiceStream", name := "acks", desc := "()I" } : Jvm.MethodName) prog_1_method_15_code 1 0 0 .int w [.ref (zq w 0)] σ (fun r u => r = (f_X_acks σ) ∧ u = σ) := by
  refine zMi_of (by decide +kernel) (Nat.le_of_ble_eq_true rfl) ?_
  intro K O hl0 E
  have ht : (f_X_acks σ) = (f_X_acks σ) := rfl
  refine z_sub (lv' := [(0, .ref (zq w 0))]) [0] rfl ?_
  refine z_aload_n O zd_X_acks_0 rfl 0 rfl ?_
  refine zg_X_36_0 O zd_X_acks_1 (v := .ref (zq w 11)) rfl ?_
  refine zg_X_103_11 O zd_X_acks_4 (v := .int (σ 11 2)) rfl ?_
  exact E _ _ _ _ zd_X_acks_7 rfl ⟨ht.symm, rfl⟩
set_option maxHeartbeats 4000000 in
set_option maxRecDepth 100000 in
theorem c_X_ackNumber (l : Launch) (w : zWd) (σ : zSt) (a1 : Int32) (ko : k_X_ackNumber σ a1) : zMi l ({ cls := "SluiceStream", name := "ackNumber", desc := "(I)I" } : Jvm.MethodName) prog_1_method_16_code 2 1 23 .int w [.ref (zq w 0), .int a1] σ (fun r u => r = (f_X_ackNumber σ a1) ∧ u = σ) := by
  refine zMi_of (by decide +kernel) (Nat.le_of_ble_eq_true rfl) ?_
  intro K O hl0 E
  have ht : (f_X_ackNumber σ a1) = (f_X_ackNumber σ a1) := rfl
  refine z_sub (lv' := [(0, .ref (zq w 0)), (1, .int a1)]) [0, 1] rfl ?_
  refine z_aload_n O zd_X_ackNumber_0 rfl 0 rfl ?_
  refine zg_X_36_0 O zd_X_ackNumber_1 (v := .ref (zq w 11)) rfl ?_
  refine z_iload_n O zd_X_ackNumber_4 rfl 1 rfl ?_
  refine z_callri O hl0 (st := []) 11 2 (fs := zo11 w σ) rfl rfl (c_W_holds_11 l w σ a1) zl_X_77 zm296 zm297 rfl rfl (Nat.le_of_ble_eq_true rfl) (Nat.le_of_ble_eq_true rfl) (Nat.le_of_ble_eq_true rfl) zd_X_ackNumber_5 (fun r1 e2 => ?_)
  have ht := ht.trans (zlet_e e2)
  have ko := ko r1 e2
  refine z_if_ne O (tgt := 19) zd_X_ackNumber_8 (by decide) (fun c3 => ?_) (fun c3 => ?_)
  · have ht := ht.trans (if_neg c3)
    have ko := ko.2 c3
    refine z_aload_n O zd_X_ackNumber_19 rfl 0 rfl ?_
    refine zg_X_36_0 O zd_X_ackNumber_20 (v := .ref (zq w 11)) rfl ?_
    refine z_iload_n O zd_X_ackNumber_23 rfl 1 rfl ?_
    refine z_iconst O (v := 0) zd_X_ackNumber_24 (by decide) ?_
    refine z_callri O hl0 (st := []) 11 2 (fs := zo11 w σ) rfl rfl (c_W_cell_11 l w σ a1 0 ko) zl_X_84 zm411 zm412 rfl rfl (Nat.le_of_ble_eq_true rfl) (Nat.le_of_ble_eq_true rfl) (Nat.le_of_ble_eq_true rfl) zd_X_ackNumber_25 (fun r4 e5 => ?_)
    have ht := ht.trans (zlet_e e5)
    exact E _ _ _ _ zd_X_ackNumber_28 rfl ⟨ht.symm, rfl⟩
  · have ht := ht.trans (if_pos c3)
    have ko := ko.1 c3
    exact ko.elim
set_option maxHeartbeats 4000000 in
set_option maxRecDepth 100000 in
theorem c_X_ackWindow (l : Launch) (w : zWd) (σ : zSt) (a1 : Int32) (ko : k_X_ackWindow σ a1) : zMi l ({ cls := "SluiceStream", name := "ackWindow", desc := "(I)I" } : Jvm.MethodName) prog_1_method_17_code 2 1 23 .int w [.ref (zq w 0), .int a1] σ (fun r u => r = (f_X_ackWindow σ a1) ∧ u = σ) := by
  refine zMi_of (by decide +kernel) (Nat.le_of_ble_eq_true rfl) ?_
  intro K O hl0 E
  have ht : (f_X_ackWindow σ a1) = (f_X_ackWindow σ a1) := rfl
  refine z_sub (lv' := [(0, .ref (zq w 0)), (1, .int a1)]) [0, 1] rfl ?_
  refine z_aload_n O zd_X_ackWindow_0 rfl 0 rfl ?_
  refine zg_X_36_0 O zd_X_ackWindow_1 (v := .ref (zq w 11)) rfl ?_
  refine z_iload_n O zd_X_ackWindow_4 rfl 1 rfl ?_
  refine z_callri O hl0 (st := []) 11 2 (fs := zo11 w σ) rfl rfl (c_W_holds_11 l w σ a1) zl_X_77 zm296 zm297 rfl rfl (Nat.le_of_ble_eq_true rfl) (Nat.le_of_ble_eq_true rfl) (Nat.le_of_ble_eq_true rfl) zd_X_ackWindow_5 (fun r1 e2 => ?_)
  have ht := ht.trans (zlet_e e2)
  have ko := ko r1 e2
  refine z_if_ne O (tgt := 19) zd_X_ackWindow_8 (by decide) (fun c3 => ?_) (fun c3 => ?_)
  · have ht := ht.trans (if_neg c3)
    have ko := ko.2 c3
    refine z_aload_n O zd_X_ackWindow_19 rfl 0 rfl ?_
    refine zg_X_36_0 O zd_X_ackWindow_20 (v := .ref (zq w 11)) rfl ?_
    refine z_iload_n O zd_X_ackWindow_23 rfl 1 rfl ?_
    refine z_iconst O (v := 1) zd_X_ackWindow_24 (by decide) ?_
    refine z_callri O hl0 (st := []) 11 2 (fs := zo11 w σ) rfl rfl (c_W_cell_11 l w σ a1 1 ko) zl_X_84 zm411 zm412 rfl rfl (Nat.le_of_ble_eq_true rfl) (Nat.le_of_ble_eq_true rfl) (Nat.le_of_ble_eq_true rfl) zd_X_ackWindow_25 (fun r4 e5 => ?_)
    have ht := ht.trans (zlet_e e5)
    exact E _ _ _ _ zd_X_ackWindow_28 rfl ⟨ht.symm, rfl⟩
  · have ht := ht.trans (if_pos c3)
    have ko := ko.1 c3
    exact ko.elim
set_option maxHeartbeats 4000000 in
set_option maxRecDepth 100000 in
theorem c_X_ackBlocks (l : Launch) (w : zWd) (σ : zSt) (a1 : Int32) (ko : k_X_ackBlocks σ a1) : zMi l ({ cls := "SluiceStream", name := "ackBlocks", desc := "(I)I" } : Jvm.MethodName) prog_1_method_18_code 2 1 23 .int w [.ref (zq w 0), .int a1] σ (fun r u => r = (f_X_ackBlocks σ a1) ∧ u = σ) := by
  refine zMi_of (by decide +kernel) (Nat.le_of_ble_eq_true rfl) ?_
  intro K O hl0 E
  have ht : (f_X_ackBlocks σ a1) = (f_X_ackBlocks σ a1) := rfl
  refine z_sub (lv' := [(0, .ref (zq w 0)), (1, .int a1)]) [0, 1] rfl ?_
  refine z_aload_n O zd_X_ackBlocks_0 rfl 0 rfl ?_
  refine zg_X_36_0 O zd_X_ackBlocks_1 (v := .ref (zq w 11)) rfl ?_
  refine z_iload_n O zd_X_ackBlocks_4 rfl 1 rfl ?_
  refine z_callri O hl0 (st := []) 11 2 (fs := zo11 w σ) rfl rfl (c_W_holds_11 l w σ a1) zl_X_77 zm296 zm297 rfl rfl (Nat.le_of_ble_eq_true rfl) (Nat.le_of_ble_eq_true rfl) (Nat.le_of_ble_eq_true rfl) zd_X_ackBlocks_5 (fun r1 e2 => ?_)
  have ht := ht.trans (zlet_e e2)
  have ko := ko r1 e2
  refine z_if_ne O (tgt := 19) zd_X_ackBlocks_8 (by decide) (fun c3 => ?_) (fun c3 => ?_)
  · have ht := ht.trans (if_neg c3)
    have ko := ko.2 c3
    refine z_aload_n O zd_X_ackBlocks_19 rfl 0 rfl ?_
    refine zg_X_36_0 O zd_X_ackBlocks_20 (v := .ref (zq w 11)) rfl ?_
    refine z_iload_n O zd_X_ackBlocks_23 rfl 1 rfl ?_
    refine z_iconst O (v := 2) zd_X_ackBlocks_24 (by decide) ?_
    refine z_callri O hl0 (st := []) 11 2 (fs := zo11 w σ) rfl rfl (c_W_cell_11 l w σ a1 2 ko) zl_X_84 zm411 zm412 rfl rfl (Nat.le_of_ble_eq_true rfl) (Nat.le_of_ble_eq_true rfl) (Nat.le_of_ble_eq_true rfl) zd_X_ackBlocks_25 (fun r4 e5 => ?_)
    have ht := ht.trans (zlet_e e5)
    exact E _ _ _ _ zd_X_ackBlocks_28 rfl ⟨ht.symm, rfl⟩
  · have ht := ht.trans (if_pos c3)
    have ko := ko.1 c3
    exact ko.elim
set_option maxHeartbeats 4000000 in
set_option maxRecDepth 100000 in
theorem c_X_ackBlock (l : Launch) (w : zWd) (σ : zSt) (a1 : Int32) (a2 : Int32) (ko : k_X_ackBlock σ a1 a2) : zMi l ({ cls := "SluiceStream", name := "ackBlock", desc := "(II)I" } : Jvm.MethodName) prog_1_method_19_code 3 1 23 .int w [.ref (zq w 0), .int a1, .int a2] σ (fun r u => r = (f_X_ackBlock σ a1 a2) ∧ u = σ) := by
  refine zMi_of (by decide +kernel) (Nat.le_of_ble_eq_true rfl) ?_
  intro K O hl0 E
  have ht : (f_X_ackBlock σ a1 a2) = (f_X_ackBlock σ a1 a2) := rfl
  refine z_sub (lv' := [(0, .ref (zq w 0)), (1, .int a1), (2, .int a2)]) [0, 1, 2] rfl ?_
  refine z_aload_n O zd_X_ackBlock_0 rfl 0 rfl ?_
  refine zg_X_36_0 O zd_X_ackBlock_1 (v := .ref (zq w 11)) rfl ?_
  refine z_iload_n O zd_X_ackBlock_4 rfl 1 rfl ?_
  refine z_callri O hl0 (st := []) 11 2 (fs := zo11 w σ) rfl rfl (c_W_holds_11 l w σ a1) zl_X_77 zm296 zm297 rfl rfl (Nat.le_of_ble_eq_true rfl) (Nat.le_of_ble_eq_true rfl) (Nat.le_of_ble_eq_true rfl) zd_X_ackBlock_5 (fun r1 e2 => ?_)
  have ht := ht.trans (zlet_e e2)
  have ko := ko r1 e2
  refine z_if_eq O (tgt := 28) zd_X_ackBlock_8 (by decide) (fun c3 => ?_) (fun c3 => ?_)
  · have ht := ht.trans (if_pos c3)
    have ko := ko.1 c3
    exact ko.elim
  · have ht := ht.trans (if_neg c3)
    have ko := ko.2 c3
    refine z_iload_n O zd_X_ackBlock_11 rfl 2 rfl ?_
    refine z_if_lt O (tgt := 28) zd_X_ackBlock_12 (by decide) (fun c5 => ?_) (fun c5 => ?_)
    · have ht := ht.trans (if_pos c5)
      have ko := ko.1 c5
      exact ko.elim
    · have ht := ht.trans (if_neg c5)
      have ko := ko.2 c5
      refine z_iload_n O zd_X_ackBlock_15 rfl 2 rfl ?_
      refine z_aload_n O zd_X_ackBlock_16 rfl 0 rfl ?_
      refine zg_X_36_0 O zd_X_ackBlock_17 (v := .ref (zq w 11)) rfl ?_
      refine z_iload_n O zd_X_ackBlock_20 rfl 1 rfl ?_
      refine z_iconst O (v := 2) zd_X_ackBlock_21 (by decide) ?_
      refine z_callri O hl0 (st := [.int a2]) 11 2 (fs := zo11 w σ) rfl rfl (c_W_cell_11 l w σ a1 2 ko.1) zl_X_84 zm411 zm412 rfl rfl (Nat.le_of_ble_eq_true rfl) (Nat.le_of_ble_eq_true rfl) (Nat.le_of_ble_eq_true rfl) zd_X_ackBlock_22 (fun r7 e8 => ?_)
      have ht := ht.trans (zlet_e e8)
      have ko := ko.2 r7 e8
      refine z_icmp_lt O (tgt := 36) zd_X_ackBlock_25 (by decide) (fun c9 => ?_) (fun c9 => ?_)
      · have ht := ht.trans (if_pos c9)
        have ko := ko.1 c9
        refine z_aload_n O zd_X_ackBlock_36 rfl 0 rfl ?_
        refine zg_X_36_0 O zd_X_ackBlock_37 (v := .ref (zq w 11)) rfl ?_
        refine z_iload_n O zd_X_ackBlock_40 rfl 1 rfl ?_
        refine z_iconst O (v := 3) zd_X_ackBlock_41 (by decide) ?_
        refine z_iconst O (v := 2) zd_X_ackBlock_42 (by decide) ?_
        refine z_iload_n O zd_X_ackBlock_43 rfl 2 rfl ?_
        refine z_imul O zd_X_ackBlock_44 ?_
        refine z_iadd O zd_X_ackBlock_45 ?_
        refine z_callri O hl0 (st := []) 11 2 (fs := zo11 w σ) rfl rfl (c_W_cell_11 l w σ a1 (3 + (2 * a2)) ko) zl_X_84 zm411 zm412 rfl rfl (Nat.le_of_ble_eq_true rfl) (Nat.le_of_ble_eq_true rfl) (Nat.le_of_ble_eq_true rfl) zd_X_ackBlock_46 (fun r10 e11 => ?_)
        have ht := ht.trans (zlet_e e11)
        exact E _ _ _ _ zd_X_ackBlock_49 rfl ⟨ht.symm, rfl⟩
      · have ht := ht.trans (if_neg c9)
        have ko := ko.2 c9
        exact ko.elim
set_option maxHeartbeats 4000000 in
set_option maxRecDepth 100000 in
theorem c_X_time (l : Launch) (w : zWd) (σ : zSt) : zMi l ({ cls := "SluiceStream", name := "time", desc := "()I" } : Jvm.MethodName) prog_1_method_20_code 1 0 0 .int w [.ref (zq w 0)] σ (fun r u => r = (f_X_time σ) ∧ u = σ) := by
  refine zMi_of (by decide +kernel) (Nat.le_of_ble_eq_true rfl) ?_
  intro K O hl0 E
  have ht : (f_X_time σ) = (f_X_time σ) := rfl
  refine z_sub (lv' := [(0, .ref (zq w 0))]) [0] rfl ?_
  refine z_aload_n O zd_X_time_0 rfl 0 rfl ?_
  refine zg_X_16_0 O zd_X_time_1 (v := .ref (zq w 2)) rfl ?_
  refine zg_X_110_2 O zd_X_time_4 (v := .ref (zq w 5)) rfl ?_
  refine zg_X_114_5 O zd_X_time_7 (v := .int (σ 5 0)) rfl ?_
  exact E _ _ _ _ zd_X_time_10 rfl ⟨ht.symm, rfl⟩
set_option maxHeartbeats 4000000 in
set_option maxRecDepth 100000 in
theorem c_X_acknowledged (l : Launch) (w : zWd) (σ : zSt) : zMi l ({ cls := "SluiceStream", name := "acknowledged", desc := "()I" } : Jvm.MethodName) prog_1_method_21_code 1 0 0 .int w [.ref (zq w 0)] σ (fun r u => r = (f_X_acknowledged σ) ∧ u = σ) := by
  refine zMi_of (by decide +kernel) (Nat.le_of_ble_eq_true rfl) ?_
  intro K O hl0 E
  have ht : (f_X_acknowledged σ) = (f_X_acknowledged σ) := rfl
  refine z_sub (lv' := [(0, .ref (zq w 0))]) [0] rfl ?_
  refine z_aload_n O zd_X_acknowledged_0 rfl 0 rfl ?_
  refine zg_X_16_0 O zd_X_acknowledged_1 (v := .ref (zq w 2)) rfl ?_
  refine zg_X_119_2 O zd_X_acknowledged_4 (v := .int (σ 2 2)) rfl ?_
  exact E _ _ _ _ zd_X_acknowledged_7 rfl ⟨ht.symm, rfl⟩
set_option maxHeartbeats 4000000 in
set_option maxRecDepth 100000 in
theorem c_X_next (l : Launch) (w : zWd) (σ : zSt) : zMi l ({ cls := "SluiceStream", name := "next", desc := "()I" } : Jvm.MethodName) prog_1_method_22_code 1 0 0 .int w [.ref (zq w 0)] σ (fun r u => r = (f_X_next σ) ∧ u = σ) := by
  refine zMi_of (by decide +kernel) (Nat.le_of_ble_eq_true rfl) ?_
  intro K O hl0 E
  have ht : (f_X_next σ) = (f_X_next σ) := rfl
  refine z_sub (lv' := [(0, .ref (zq w 0))]) [0] rfl ?_
  refine z_aload_n O zd_X_next_0 rfl 0 rfl ?_
  refine zg_X_16_0 O zd_X_next_1 (v := .ref (zq w 2)) rfl ?_
  refine zg_X_122_2 O zd_X_next_4 (v := .int (σ 2 3)) rfl ?_
  exact E _ _ _ _ zd_X_next_7 rfl ⟨ht.symm, rfl⟩
set_option maxHeartbeats 4000000 in
set_option maxRecDepth 100000 in
theorem c_X_highest (l : Launch) (w : zWd) (σ : zSt) : zMi l ({ cls := "SluiceStream", name := "highest", desc := "()I" } : Jvm.MethodName) prog_1_method_23_code 1 0 0 .int w [.ref (zq w 0)] σ (fun r u => r = (f_X_highest σ) ∧ u = σ) := by
  refine zMi_of (by decide +kernel) (Nat.le_of_ble_eq_true rfl) ?_
  intro K O hl0 E
  have ht : (f_X_highest σ) = (f_X_highest σ) := rfl
  refine z_sub (lv' := [(0, .ref (zq w 0))]) [0] rfl ?_
  refine z_aload_n O zd_X_highest_0 rfl 0 rfl ?_
  refine zg_X_16_0 O zd_X_highest_1 (v := .ref (zq w 2)) rfl ?_
  refine zg_X_125_2 O zd_X_highest_4 (v := .int (σ 2 4)) rfl ?_
  exact E _ _ _ _ zd_X_highest_7 rfl ⟨ht.symm, rfl⟩
set_option maxHeartbeats 4000000 in
set_option maxRecDepth 100000 in
theorem c_X_written (l : Launch) (w : zWd) (σ : zSt) : zMi l ({ cls := "SluiceStream", name := "written", desc := "()I" } : Jvm.MethodName) prog_1_method_24_code 1 0 0 .int w [.ref (zq w 0)] σ (fun r u => r = (f_X_written σ) ∧ u = σ) := by
  refine zMi_of (by decide +kernel) (Nat.le_of_ble_eq_true rfl) ?_
  intro K O hl0 E
  have ht : (f_X_written σ) = (f_X_written σ) := rfl
  refine z_sub (lv' := [(0, .ref (zq w 0))]) [0] rfl ?_
  refine z_aload_n O zd_X_written_0 rfl 0 rfl ?_
  refine zg_X_16_0 O zd_X_written_1 (v := .ref (zq w 2)) rfl ?_
  refine zg_X_42_2 O zd_X_written_4 (v := .int (σ 2 5)) rfl ?_
  exact E _ _ _ _ zd_X_written_7 rfl ⟨ht.symm, rfl⟩
set_option maxHeartbeats 4000000 in
set_option maxRecDepth 100000 in
theorem c_X_edge (l : Launch) (w : zWd) (σ : zSt) : zMi l ({ cls := "SluiceStream", name := "edge", desc := "()I" } : Jvm.MethodName) prog_1_method_25_code 1 0 0 .int w [.ref (zq w 0)] σ (fun r u => r = (f_X_edge σ) ∧ u = σ) := by
  refine zMi_of (by decide +kernel) (Nat.le_of_ble_eq_true rfl) ?_
  intro K O hl0 E
  have ht : (f_X_edge σ) = (f_X_edge σ) := rfl
  refine z_sub (lv' := [(0, .ref (zq w 0))]) [0] rfl ?_
  refine z_aload_n O zd_X_edge_0 rfl 0 rfl ?_
  refine zg_X_16_0 O zd_X_edge_1 (v := .ref (zq w 2)) rfl ?_
  refine zg_X_128_2 O zd_X_edge_4 (v := .int (σ 2 6)) rfl ?_
  exact E _ _ _ _ zd_X_edge_7 rfl ⟨ht.symm, rfl⟩
set_option maxHeartbeats 4000000 in
set_option maxRecDepth 100000 in
theorem c_X_inFlight (l : Launch) (w : zWd) (σ : zSt) (ko : k_X_inFlight σ) : zMi l ({ cls := "SluiceStream", name := "inFlight", desc := "()I" } : Jvm.MethodName) prog_1_method_26_code 1 3 65 .int w [.ref (zq w 0)] σ (fun r u => r = (f_X_inFlight σ) ∧ u = σ) := by
  refine zMi_of (by decide +kernel) (Nat.le_of_ble_eq_true rfl) ?_
  intro K O hl0 E
  have ht : (f_X_inFlight σ) = (f_X_inFlight σ) := rfl
  refine z_sub (lv' := [(0, .ref (zq w 0))]) [0] rfl ?_
  refine z_aload_n O zd_X_inFlight_0 rfl 0 rfl ?_
  refine zg_X_16_0 O zd_X_inFlight_1 (v := .ref (zq w 2)) rfl ?_
  refine z_callri O hl0 (st := []) 2 3 (fs := zo2 w σ) rfl rfl (c_S_countFlying l w σ ko) zl_X_131 zm363 zm364 rfl rfl (Nat.le_of_ble_eq_true rfl) (Nat.le_of_ble_eq_true rfl) (Nat.le_of_ble_eq_true rfl) zd_X_inFlight_4 (fun r1 e2 => ?_)
  have ht := ht.trans (zlet_e e2)
  exact E _ _ _ _ zd_X_inFlight_7 rfl ⟨ht.symm, rfl⟩
set_option maxHeartbeats 4000000 in
set_option maxRecDepth 100000 in
theorem c_X_isMarked (l : Launch) (w : zWd) (σ : zSt) (a1 : Int32) (ko : k_X_isMarked σ a1) : zMi l ({ cls := "SluiceStream", name := "isMarked", desc := "(I)Z" } : Jvm.MethodName) prog_1_method_27_code 2 1 21 .boolean w [.ref (zq w 0), .int a1] σ (fun r u => r = (f_X_isMarked σ a1) ∧ u = σ) := by
  refine zMi_of (by decide +kernel) (Nat.le_of_ble_eq_true rfl) ?_
  intro K O hl0 E
  have ht : (f_X_isMarked σ a1) = (f_X_isMarked σ a1) := rfl
  refine z_sub (lv' := [(0, .ref (zq w 0)), (1, .int a1)]) [0, 1] rfl ?_
  refine z_iload_n O zd_X_isMarked_0 rfl 1 rfl ?_
  refine z_if_lt O (tgt := 15) zd_X_isMarked_1 (by decide) (fun c1 => ?_) (fun c1 => ?_)
  · have ht := ht.trans (if_pos c1)
    have ko := ko.1 c1
    exact ko.elim
  · have ht := ht.trans (if_neg c1)
    have ko := ko.2 c1
    refine z_iload_n O zd_X_isMarked_4 rfl 1 rfl ?_
    refine z_aload_n O zd_X_isMarked_5 rfl 0 rfl ?_
    refine zg_X_16_0 O zd_X_isMarked_6 (v := .ref (zq w 2)) rfl ?_
    refine zg_X_42_2 O zd_X_isMarked_9 (v := .int (σ 2 5)) rfl ?_
    refine z_icmp_lt O (tgt := 23) zd_X_isMarked_12 (by decide) (fun c3 => ?_) (fun c3 => ?_)
    · have ht := ht.trans (if_pos c3)
      have ko := ko.1 c3
      refine z_aload_n O zd_X_isMarked_23 rfl 0 rfl ?_
      refine zg_X_16_0 O zd_X_isMarked_24 (v := .ref (zq w 2)) rfl ?_
      refine zg_X_134_2 O zd_X_isMarked_27 (v := .ref (zq w 3)) rfl ?_
      refine z_iload_n O zd_X_isMarked_30 rfl 1 rfl ?_
      refine z_callri O hl0 (st := []) 3 0 (fs := zo3 w σ) rfl rfl (c_P_at_3 l w σ a1 ko) zl_X_138 zm324 zm325 rfl rfl (Nat.le_of_ble_eq_true rfl) (Nat.le_of_ble_eq_true rfl) (Nat.le_of_ble_eq_true rfl) zd_X_isMarked_31 (fun r4 e5 => ?_)
      have ht := ht.trans (zlet_e e5)
      refine z_if_eq O (tgt := 41) zd_X_isMarked_34 (by decide) (fun c6 => ?_) (fun c6 => ?_)
      · have ht := ht.trans (if_pos c6)
        refine z_iconst O (v := 0) zd_X_isMarked_41 (by decide) ?_
        exact E _ _ _ _ zd_X_isMarked_42 rfl ⟨ht.symm, rfl⟩
      · have ht := ht.trans (if_neg c6)
        refine z_iconst O (v := 1) zd_X_isMarked_37 (by decide) ?_
        refine z_goto O (tgt := 42) zd_X_isMarked_38 (by decide) ?_
        exact E _ _ _ _ zd_X_isMarked_42 rfl ⟨ht.symm, rfl⟩
    · have ht := ht.trans (if_neg c3)
      have ko := ko.2 c3
      exact ko.elim
set_option maxHeartbeats 4000000 in
set_option maxRecDepth 100000 in
theorem c_X_congestionWindow (l : Launch) (w : zWd) (σ : zSt) : zMi l ({ cls := "SluiceStream", name := "congestionWindow", desc := "()I" } : Jvm.MethodName) prog_1_method_28_code 1 0 0 .int w [.ref (zq w 0)] σ (fun r u => r = (f_X_congestionWindow σ) ∧ u = σ) := by
  refine zMi_of (by decide +kernel) (Nat.le_of_ble_eq_true rfl) ?_
  intro K O hl0 E
  have ht : (f_X_congestionWindow σ) = (f_X_congestionWindow σ) := rfl
  refine z_sub (lv' := [(0, .ref (zq w 0))]) [0] rfl ?_
  refine z_aload_n O zd_X_congestionWindow_0 rfl 0 rfl ?_
  refine zg_X_16_0 O zd_X_congestionWindow_1 (v := .ref (zq w 2)) rfl ?_
  refine zg_X_143_2 O zd_X_congestionWindow_4 (v := .int (σ 2 7)) rfl ?_
  exact E _ _ _ _ zd_X_congestionWindow_7 rfl ⟨ht.symm, rfl⟩
set_option maxHeartbeats 4000000 in
set_option maxRecDepth 100000 in
theorem c_X_threshold (l : Launch) (w : zWd) (σ : zSt) : zMi l ({ cls := "SluiceStream", name := "threshold", desc := "()I" } : Jvm.MethodName) prog_1_method_29_code 1 0 0 .int w [.ref (zq w 0)] σ (fun r u => r = (f_X_threshold σ) ∧ u = σ) := by
  refine zMi_of (by decide +kernel) (Nat.le_of_ble_eq_true rfl) ?_
  intro K O hl0 E
  have ht : (f_X_threshold σ) = (f_X_threshold σ) := rfl
  refine z_sub (lv' := [(0, .ref (zq w 0))]) [0] rfl ?_
  refine z_aload_n O zd_X_threshold_0 rfl 0 rfl ?_
  refine zg_X_16_0 O zd_X_threshold_1 (v := .ref (zq w 2)) rfl ?_
  refine zg_X_146_2 O zd_X_threshold_4 (v := .int (σ 2 8)) rfl ?_
  exact E _ _ _ _ zd_X_threshold_7 rfl ⟨ht.symm, rfl⟩
set_option maxHeartbeats 4000000 in
set_option maxRecDepth 100000 in
theorem c_X_duplicates (l : Launch) (w : zWd) (σ : zSt) : zMi l ({ cls := "SluiceStream", name := "duplicates", desc := "()I" } : Jvm.MethodName) prog_1_method_30_code 1 0 0 .int w [.ref (zq w 0)] σ (fun r u => r = (f_X_duplicates σ) ∧ u = σ) := by
  refine zMi_of (by decide +kernel) (Nat.le_of_ble_eq_true rfl) ?_
  intro K O hl0 E
  have ht : (f_X_duplicates σ) = (f_X_duplicates σ) := rfl
  refine z_sub (lv' := [(0, .ref (zq w 0))]) [0] rfl ?_
  refine z_aload_n O zd_X_duplicates_0 rfl 0 rfl ?_
  refine zg_X_16_0 O zd_X_duplicates_1 (v := .ref (zq w 2)) rfl ?_
  refine zg_X_149_2 O zd_X_duplicates_4 (v := .int (σ 2 10)) rfl ?_
  exact E _ _ _ _ zd_X_duplicates_7 rfl ⟨ht.symm, rfl⟩
set_option maxHeartbeats 4000000 in
set_option maxRecDepth 100000 in
theorem c_X_recoveryEnd (l : Launch) (w : zWd) (σ : zSt) : zMi l ({ cls := "SluiceStream", name := "recoveryEnd", desc := "()I" } : Jvm.MethodName) prog_1_method_31_code 1 0 0 .int w [.ref (zq w 0)] σ (fun r u => r = (f_X_recoveryEnd σ) ∧ u = σ) := by
  refine zMi_of (by decide +kernel) (Nat.le_of_ble_eq_true rfl) ?_
  intro K O hl0 E
  have ht : (f_X_recoveryEnd σ) = (f_X_recoveryEnd σ) := rfl
  refine z_sub (lv' := [(0, .ref (zq w 0))]) [0] rfl ?_
  refine z_aload_n O zd_X_recoveryEnd_0 rfl 0 rfl ?_
  refine zg_X_16_0 O zd_X_recoveryEnd_1 (v := .ref (zq w 2)) rfl ?_
  refine zg_X_152_2 O zd_X_recoveryEnd_4 (v := .int (σ 2 11)) rfl ?_
  exact E _ _ _ _ zd_X_recoveryEnd_7 rfl ⟨ht.symm, rfl⟩
set_option maxHeartbeats 4000000 in
set_option maxRecDepth 100000 in
theorem c_X_timeout (l : Launch) (w : zWd) (σ : zSt) : zMi l ({ cls := "SluiceStream", name := "timeout", desc := "()I" } : Jvm.MethodName) prog_1_method_32_code 1 0 0 .int w [.ref (zq w 0)] σ (fun r u => r = (f_X_timeout σ) ∧ u = σ) := by
  refine zMi_of (by decide +kernel) (Nat.le_of_ble_eq_true rfl) ?_
  intro K O hl0 E
  have ht : (f_X_timeout σ) = (f_X_timeout σ) := rfl
  refine z_sub (lv' := [(0, .ref (zq w 0))]) [0] rfl ?_
  refine z_aload_n O zd_X_timeout_0 rfl 0 rfl ?_
  refine zg_X_16_0 O zd_X_timeout_1 (v := .ref (zq w 2)) rfl ?_
  refine zg_X_110_2 O zd_X_timeout_4 (v := .ref (zq w 5)) rfl ?_
  refine zg_X_155_5 O zd_X_timeout_7 (v := .int (σ 5 1)) rfl ?_
  exact E _ _ _ _ zd_X_timeout_10 rfl ⟨ht.symm, rfl⟩
set_option maxHeartbeats 4000000 in
set_option maxRecDepth 100000 in
theorem c_X_timerEnd (l : Launch) (w : zWd) (σ : zSt) : zMi l ({ cls := "SluiceStream", name := "timerEnd", desc := "()I" } : Jvm.MethodName) prog_1_method_33_code 1 0 0 .int w [.ref (zq w 0)] σ (fun r u => r = (f_X_timerEnd σ) ∧ u = σ) := by
  refine zMi_of (by decide +kernel) (Nat.le_of_ble_eq_true rfl) ?_
  intro K O hl0 E
  have ht : (f_X_timerEnd σ) = (f_X_timerEnd σ) := rfl
  refine z_sub (lv' := [(0, .ref (zq w 0))]) [0] rfl ?_
  refine z_aload_n O zd_X_timerEnd_0 rfl 0 rfl ?_
  refine zg_X_16_0 O zd_X_timerEnd_1 (v := .ref (zq w 2)) rfl ?_
  refine zg_X_110_2 O zd_X_timerEnd_4 (v := .ref (zq w 5)) rfl ?_
  refine zg_X_158_5 O zd_X_timerEnd_7 (v := .int (σ 5 2)) rfl ?_
  exact E _ _ _ _ zd_X_timerEnd_10 rfl ⟨ht.symm, rfl⟩
set_option maxHeartbeats 4000000 in
set_option maxRecDepth 100000 in
theorem c_X_timedEnd (l : Launch) (w : zWd) (σ : zSt) : zMi l ({ cls := "SluiceStream", name := "timedEnd", desc := "()I" } : Jvm.MethodName) prog_1_method_36_code 1 0 0 .int w [.ref (zq w 0)] σ (fun r u => r = (f_X_timedEnd σ) ∧ u = σ) := by
  refine zMi_of (by decide +kernel) (Nat.le_of_ble_eq_true rfl) ?_
  intro K O hl0 E
  have ht : (f_X_timedEnd σ) = (f_X_timedEnd σ) := rfl
  refine z_sub (lv' := [(0, .ref (zq w 0))]) [0] rfl ?_
  refine z_aload_n O zd_X_timedEnd_0 rfl 0 rfl ?_
  refine zg_X_16_0 O zd_X_timedEnd_1 (v := .ref (zq w 2)) rfl ?_
  refine zg_X_110_2 O zd_X_timedEnd_4 (v := .ref (zq w 5)) rfl ?_
  refine zg_X_167_5 O zd_X_timedEnd_7 (v := .int (σ 5 3)) rfl ?_
  exact E _ _ _ _ zd_X_timedEnd_10 rfl ⟨ht.symm, rfl⟩
set_option maxHeartbeats 4000000 in
set_option maxRecDepth 100000 in
theorem c_X_sent (l : Launch) (w : zWd) (σ : zSt) : zMi l ({ cls := "SluiceStream", name := "sent", desc := "()I" } : Jvm.MethodName) prog_1_method_37_code 1 0 0 .int w [.ref (zq w 0)] σ (fun r u => r = (f_X_sent σ) ∧ u = σ) := by
  refine zMi_of (by decide +kernel) (Nat.le_of_ble_eq_true rfl) ?_
  intro K O hl0 E
  have ht : (f_X_sent σ) = (f_X_sent σ) := rfl
  refine z_sub (lv' := [(0, .ref (zq w 0))]) [0] rfl ?_
  refine z_aload_n O zd_X_sent_0 rfl 0 rfl ?_
  refine zg_X_16_0 O zd_X_sent_1 (v := .ref (zq w 2)) rfl ?_
  refine zg_X_170_2 O zd_X_sent_4 (v := .int (σ 2 13)) rfl ?_
  exact E _ _ _ _ zd_X_sent_7 rfl ⟨ht.symm, rfl⟩
set_option maxHeartbeats 4000000 in
set_option maxRecDepth 100000 in
theorem c_X_sentAgain (l : Launch) (w : zWd) (σ : zSt) : zMi l ({ cls := "SluiceStream", name := "sentAgain", desc := "()I" } : Jvm.MethodName) prog_1_method_38_code 1 0 0 .int w [.ref (zq w 0)] σ (fun r u => r = (f_X_sentAgain σ) ∧ u = σ) := by
  refine zMi_of (by decide +kernel) (Nat.le_of_ble_eq_true rfl) ?_
  intro K O hl0 E
  have ht : (f_X_sentAgain σ) = (f_X_sentAgain σ) := rfl
  refine z_sub (lv' := [(0, .ref (zq w 0))]) [0] rfl ?_
  refine z_aload_n O zd_X_sentAgain_0 rfl 0 rfl ?_
  refine zg_X_16_0 O zd_X_sentAgain_1 (v := .ref (zq w 2)) rfl ?_
  refine zg_X_173_2 O zd_X_sentAgain_4 (v := .int (σ 2 14)) rfl ?_
  exact E _ _ _ _ zd_X_sentAgain_7 rfl ⟨ht.symm, rfl⟩
set_option maxHeartbeats 4000000 in
set_option maxRecDepth 100000 in
theorem c_X_inOrder (l : Launch) (w : zWd) (σ : zSt) : zMi l ({ cls := "SluiceStream", name := "inOrder", desc := "()I" } : Jvm.MethodName) prog_1_method_39_code 1 0 0 .int w [.ref (zq w 0)] σ (fun r u => r = (f_X_inOrder σ) ∧ u = σ) := by
  refine zMi_of (by decide +kernel) (Nat.le_of_ble_eq_true rfl) ?_
  intro K O hl0 E
  have ht : (f_X_inOrder σ) = (f_X_inOrder σ) := rfl
  refine z_sub (lv' := [(0, .ref (zq w 0))]) [0] rfl ?_
  refine z_aload_n O zd_X_inOrder_0 rfl 0 rfl ?_
  refine zg_X_23_0 O zd_X_inOrder_1 (v := .ref (zq w 6)) rfl ?_
  refine zg_X_52_6 O zd_X_inOrder_4 (v := .int (σ 6 2)) rfl ?_
  exact E _ _ _ _ zd_X_inOrder_7 rfl ⟨ht.symm, rfl⟩
set_option maxHeartbeats 4000000 in
set_option maxRecDepth 100000 in
theorem c_X_readPosition (l : Launch) (w : zWd) (σ : zSt) : zMi l ({ cls := "SluiceStream", name := "readPosition", desc := "()I" } : Jvm.MethodName) prog_1_method_40_code 1 0 0 .int w [.ref (zq w 0)] σ (fun r u => r = (f_X_readPosition σ) ∧ u = σ) := by
  refine zMi_of (by decide +kernel) (Nat.le_of_ble_eq_true rfl) ?_
  intro K O hl0 E
  have ht : (f_X_readPosition σ) = (f_X_readPosition σ) := rfl
  refine z_sub (lv' := [(0, .ref (zq w 0))]) [0] rfl ?_
  refine z_aload_n O zd_X_readPosition_0 rfl 0 rfl ?_
  refine zg_X_23_0 O zd_X_readPosition_1 (v := .ref (zq w 6)) rfl ?_
  refine zg_X_49_6 O zd_X_readPosition_4 (v := .int (σ 6 3)) rfl ?_
  exact E _ _ _ _ zd_X_readPosition_7 rfl ⟨ht.symm, rfl⟩
set_option maxHeartbeats 4000000 in
set_option maxRecDepth 100000 in
theorem c_X_window (l : Launch) (w : zWd) (σ : zSt) : zMi l ({ cls := "SluiceStream", name := "window", desc := "()I" } : Jvm.MethodName) prog_1_method_41_code 1 1 20 .int w [.ref (zq w 0)] σ (fun r u => r = (f_X_window σ) ∧ u = σ) := by
  refine zMi_of (by decide +kernel) (Nat.le_of_ble_eq_true rfl) ?_
  intro K O hl0 E
  have ht : (f_X_window σ) = (f_X_window σ) := rfl
  refine z_sub (lv' := [(0, .ref (zq w 0))]) [0] rfl ?_
  refine z_aload_n O zd_X_window_0 rfl 0 rfl ?_
  refine zg_X_23_0 O zd_X_window_1 (v := .ref (zq w 6)) rfl ?_
  refine z_callri O hl0 (st := []) 6 1 (fs := zo6 w σ) rfl rfl (c_R_room l w σ) zl_X_176 zm280 zm281 rfl rfl (Nat.le_of_ble_eq_true rfl) (Nat.le_of_ble_eq_true rfl) (Nat.le_of_ble_eq_true rfl) zd_X_window_4 (fun r1 e2 => ?_)
  have ht := ht.trans (zlet_e e2)
  exact E _ _ _ _ zd_X_window_7 rfl ⟨ht.symm, rfl⟩
set_option maxHeartbeats 4000000 in
set_option maxRecDepth 100000 in
theorem c_X_blocks (l : Launch) (w : zWd) (σ : zSt) (ko : k_X_blocks σ) : zMi l ({ cls := "SluiceStream", name := "blocks", desc := "()I" } : Jvm.MethodName) prog_1_method_42_code 1 4 90 .int w [.ref (zq w 0)] σ (fun r u => r = (f_X_blocks σ) ∧ u = σ) := by
  refine zMi_of (by decide +kernel) (Nat.le_of_ble_eq_true rfl) ?_
  intro K O hl0 E
  have ht : (f_X_blocks σ) = (f_X_blocks σ) := rfl
  refine z_sub (lv' := [(0, .ref (zq w 0))]) [0] rfl ?_
  refine z_aload_n O zd_X_blocks_0 rfl 0 rfl ?_
  refine zg_X_23_0 O zd_X_blocks_1 (v := .ref (zq w 6)) rfl ?_
  refine z_callri O hl0 (st := []) 6 1 (fs := zo6 w σ) rfl rfl (c_R_countBlocks l w σ ko) zl_X_179 zm549 zm550 rfl rfl (Nat.le_of_ble_eq_true rfl) (Nat.le_of_ble_eq_true rfl) (Nat.le_of_ble_eq_true rfl) zd_X_blocks_4 (fun r1 e2 => ?_)
  have ht := ht.trans (zlet_e e2)
  exact E _ _ _ _ zd_X_blocks_7 rfl ⟨ht.symm, rfl⟩
set_option maxHeartbeats 4000000 in
set_option maxRecDepth 100000 in
theorem c_X_blockStart (l : Launch) (w : zWd) (σ : zSt) (a1 : Int32) (ko : k_X_blockStart σ a1) : zMi l ({ cls := "SluiceStream", name := "blockStart", desc := "(I)I" } : Jvm.MethodName) prog_1_method_43_code 2 4 90 .int w [.ref (zq w 0), .int a1] σ (fun r u => r = (f_X_blockStart σ a1) ∧ u = σ) := by
  refine zMi_of (by decide +kernel) (Nat.le_of_ble_eq_true rfl) ?_
  intro K O hl0 E
  have ht : (f_X_blockStart σ a1) = (f_X_blockStart σ a1) := rfl
  refine z_sub (lv' := [(0, .ref (zq w 0)), (1, .int a1)]) [0, 1] rfl ?_
  refine z_iload_n O zd_X_blockStart_0 rfl 1 rfl ?_
  refine z_if_lt O (tgt := 15) zd_X_blockStart_1 (by decide) (fun c1 => ?_) (fun c1 => ?_)
  · have ht := ht.trans (if_pos c1)
    have ko := ko.1 c1
    exact ko.elim
  · have ht := ht.trans (if_neg c1)
    have ko := ko.2 c1
    refine z_iload_n O zd_X_blockStart_4 rfl 1 rfl ?_
    refine z_aload_n O zd_X_blockStart_5 rfl 0 rfl ?_
    refine zg_X_23_0 O zd_X_blockStart_6 (v := .ref (zq w 6)) rfl ?_
    refine z_callri O hl0 (st := [.int a1]) 6 1 (fs := zo6 w σ) rfl rfl (c_R_countBlocks l w σ ko.1) zl_X_179 zm549 zm550 rfl rfl (Nat.le_of_ble_eq_true rfl) (Nat.le_of_ble_eq_true rfl) (Nat.le_of_ble_eq_true rfl) zd_X_blockStart_9 (fun r3 e4 => ?_)
    have ht := ht.trans (zlet_e e4)
    have ko := ko.2 r3 e4
    refine z_icmp_lt O (tgt := 23) zd_X_blockStart_12 (by decide) (fun c5 => ?_) (fun c5 => ?_)
    · have ht := ht.trans (if_pos c5)
      have ko := ko.1 c5
      refine z_aload_n O zd_X_blockStart_23 rfl 0 rfl ?_
      refine zg_X_23_0 O zd_X_blockStart_24 (v := .ref (zq w 6)) rfl ?_
      refine z_iload_n O zd_X_blockStart_27 rfl 1 rfl ?_
      refine z_callri O hl0 (st := []) 6 1 (fs := zo6 w σ) rfl rfl (c_R_startOfBlock l w σ a1 ko) zl_X_182 zm557 zm558 rfl rfl (Nat.le_of_ble_eq_true rfl) (Nat.le_of_ble_eq_true rfl) (Nat.le_of_ble_eq_true rfl) zd_X_blockStart_28 (fun r6 e7 => ?_)
      have ht := ht.trans (zlet_e e7)
      exact E _ _ _ _ zd_X_blockStart_31 rfl ⟨ht.symm, rfl⟩
    · have ht := ht.trans (if_neg c5)
      have ko := ko.2 c5
      exact ko.elim
set_option maxHeartbeats 4000000 in
set_option maxRecDepth 100000 in
theorem c_X_blockEnd (l : Launch) (w : zWd) (σ : zSt) (a1 : Int32) (ko : k_X_blockEnd σ a1) : zMi l ({ cls := "SluiceStream", name := "blockEnd", desc := "(I)I" } : Jvm.MethodName) prog_1_method_44_code 2 4 90 .int w [.ref (zq w 0), .int a1] σ (fun r u => r = (f_X_blockEnd σ a1) ∧ u = σ) := by
  refine zMi_of (by decide +kernel) (Nat.le_of_ble_eq_true rfl) ?_
  intro K O hl0 E
  have ht : (f_X_blockEnd σ a1) = (f_X_blockEnd σ a1) := rfl
  refine z_sub (lv' := [(0, .ref (zq w 0)), (1, .int a1)]) [0, 1] rfl ?_
  refine z_iload_n O zd_X_blockEnd_0 rfl 1 rfl ?_
  refine z_if_lt O (tgt := 15) zd_X_blockEnd_1 (by decide) (fun c1 => ?_) (fun c1 => ?_)
  · have ht := ht.trans (if_pos c1)
    have ko := ko.1 c1
    exact ko.elim
  · have ht := ht.trans (if_neg c1)
    have ko := ko.2 c1
    refine z_iload_n O zd_X_blockEnd_4 rfl 1 rfl ?_
    refine z_aload_n O zd_X_blockEnd_5 rfl 0 rfl ?_
    refine zg_X_23_0 O zd_X_blockEnd_6 (v := .ref (zq w 6)) rfl ?_
    refine z_callri O hl0 (st := [.int a1]) 6 1 (fs := zo6 w σ) rfl rfl (c_R_countBlocks l w σ ko.1) zl_X_179 zm549 zm550 rfl rfl (Nat.le_of_ble_eq_true rfl) (Nat.le_of_ble_eq_true rfl) (Nat.le_of_ble_eq_true rfl) zd_X_blockEnd_9 (fun r3 e4 => ?_)
    have ht := ht.trans (zlet_e e4)
    have ko := ko.2 r3 e4
    refine z_icmp_lt O (tgt := 23) zd_X_blockEnd_12 (by decide) (fun c5 => ?_) (fun c5 => ?_)
    · have ht := ht.trans (if_pos c5)
      have ko := ko.1 c5
      refine z_aload_n O zd_X_blockEnd_23 rfl 0 rfl ?_
      refine zg_X_23_0 O zd_X_blockEnd_24 (v := .ref (zq w 6)) rfl ?_
      refine z_aload_n O zd_X_blockEnd_27 rfl 0 rfl ?_
      refine zg_X_23_0 O zd_X_blockEnd_28 (v := .ref (zq w 6)) rfl ?_
      refine z_iload_n O zd_X_blockEnd_31 rfl 1 rfl ?_
      refine z_callri O hl0 (st := [.ref (zq w 6)]) 6 1 (fs := zo6 w σ) rfl rfl (c_R_startOfBlock l w σ a1 ko.1) zl_X_182 zm557 zm558 rfl rfl (Nat.le_of_ble_eq_true rfl) (Nat.le_of_ble_eq_true rfl) (Nat.le_of_ble_eq_true rfl) zd_X_blockEnd_32 (fun r6 e7 => ?_)
      have ht := ht.trans (zlet_e e7)
      have ko := ko.2 r6 e7
      refine z_callri O hl0 (st := []) 6 1 (fs := zo6 w σ) rfl rfl (c_R_endOfRun l w σ r6 ko) zl_X_185 zm328 zm329 rfl rfl (Nat.le_of_ble_eq_true rfl) (Nat.le_of_ble_eq_true rfl) (Nat.le_of_ble_eq_true rfl) zd_X_blockEnd_35 (fun r8 e9 => ?_)
      have ht := ht.trans (zlet_e e9)
      exact E _ _ _ _ zd_X_blockEnd_38 rfl ⟨ht.symm, rfl⟩
    · have ht := ht.trans (if_neg c5)
      have ko := ko.2 c5
      exact ko.elim
