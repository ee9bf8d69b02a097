def zcol (c : Nat) : Int32 := if c = 9 then 2 else 9
def zln (c : Nat) : Nat := if c = 9 then 80 else 360
def zlen (c : Nat) : Int32 := if c = 9 then 80 else 360
def f_P_at (c : Nat) (σ : zSt) (a1 : Int32) : Int32 := (if a1 < 0 then 0 else (if 600 ≤ a1 then 0 else (σ (c + 1) a1.toNatClampNeg)))
def k_P_at (c : Nat) (σ : zSt) (a1 : Int32) : Prop := (¬ a1 < 0 → (¬ 600 ≤ a1 → (vp_in a1 600)))
def l_P_fillEmpty_10 (c : Nat) (x2 x3 : Int32) : Nat → zSt → Int32 → Int32 → Int32 × zSt
  | 0, σ, _, _ => (0, σ)
  | m + 1, σ, x4, x5 => (if x2 ≤ x5 then (x4, σ) else (if 600 ≤ x5 then (x4, σ) else (if (σ (c + 1) x5.toNatClampNeg) = 0 then (l_P_fillEmpty_10 c x2 x3 m (zuf σ (c + 1) x5.toNatClampNeg x3) (x4 + 1) (x5 + 1)) else (l_P_fillEmpty_10 c x2 x3 m σ x4 (x5 + 1)))))
def kl_P_fillEmpty_10 (c : Nat) (x2 x3 : Int32) : Nat → zSt → Int32 → Int32 → Prop
  | 0, _, _, _ => False
  | m + 1, σ, x4, x5 => (¬ x2 ≤ x5 → (¬ 600 ≤ x5 → (vp_in x5 600 ∧ (((σ (c + 1) x5.toNatClampNeg) = 0 → (vp_in x5 600 ∧ (kl_P_fillEmpty_10 c x2 x3 m (zuf σ (c + 1) x5.toNatClampNeg x3) (x4 + 1) (x5 + 1)))) ∧ (¬ (σ (c + 1) x5.toNatClampNeg) = 0 → (kl_P_fillEmpty_10 c x2 x3 m σ x4 (x5 + 1)))))))
def f_P_fillEmpty (c : Nat) (σ : zSt) (a1 : Int32) (a2 : Int32) (a3 : Int32) : Int32 × zSt := zlet (l_P_fillEmpty_10 c a2 a3 (((a2).toInt - ((if a1 < 0 then 0 else a1)).toInt).toNat + 2) σ 0 (if a1 < 0 then 0 else a1)) (fun r6 => (r6.1, r6.2))
def k_P_fillEmpty (c : Nat) (σ : zSt) (a1 : Int32) (a2 : Int32) (a3 : Int32) : Prop := (kl_P_fillEmpty_10 c a2 a3 (((a2).toInt - ((if a1 < 0 then 0 else a1)).toInt).toNat + 2) σ 0 (if a1 < 0 then 0 else a1))
def l_P_empty_6 (c : Nat) (x2 : Int32) : Nat → zSt → Int32 → zSt
  | 0, σ, _ => σ
  | m + 1, σ, x3 => (if x2 ≤ x3 then σ else (if 600 ≤ x3 then σ else (l_P_empty_6 c x2 m (zuf σ (c + 1) x3.toNatClampNeg 0) (x3 + 1))))
def kl_P_empty_6 (c : Nat) (x2 : Int32) : Nat → zSt → Int32 → Prop
  | 0, _, _ => False
  | m + 1, σ, x3 => (¬ x2 ≤ x3 → (¬ 600 ≤ x3 → (vp_in x3 600 ∧ (kl_P_empty_6 c x2 m (zuf σ (c + 1) x3.toNatClampNeg 0) (x3 + 1)))))
def f_P_empty (c : Nat) (σ : zSt) (a1 : Int32) (a2 : Int32) : zSt := zlet (l_P_empty_6 c a2 (((a2).toInt - ((if a1 < 0 then 0 else a1)).toInt).toNat + 2) σ (if a1 < 0 then 0 else a1)) (fun r4 => r4)
def k_P_empty (c : Nat) (σ : zSt) (a1 : Int32) (a2 : Int32) : Prop := (kl_P_empty_6 c a2 (((a2).toInt - ((if a1 < 0 then 0 else a1)).toInt).toNat + 2) σ (if a1 < 0 then 0 else a1))
def l_P_countEmpty_5 (c : Nat) (σ : zSt) (x2 : Int32) : Nat → Int32 → Int32 → Int32
  | 0, _, _ => 0
  | m + 1, x3, x4 => (if x2 ≤ x4 then x3 else zlet (f_P_at c σ x4) (fun r2 => (if r2 = 0 then (l_P_countEmpty_5 c σ x2 m (x3 + 1) (x4 + 1)) else (l_P_countEmpty_5 c σ x2 m x3 (x4 + 1)))))
def kl_P_countEmpty_5 (c : Nat) (σ : zSt) (x2 : Int32) : Nat → Int32 → Int32 → Prop
  | 0, _, _ => False
  | m + 1, x3, x4 => (¬ x2 ≤ x4 → ((k_P_at c σ x4) ∧ (∀ r2, r2 = (f_P_at c σ x4) → ((r2 = 0 → (kl_P_countEmpty_5 c σ x2 m (x3 + 1) (x4 + 1))) ∧ (¬ r2 = 0 → (kl_P_countEmpty_5 c σ x2 m x3 (x4 + 1)))))))
def f_P_countEmpty (c : Nat) (σ : zSt) (a1 : Int32) (a2 : Int32) : Int32 := zlet (l_P_countEmpty_5 c σ a2 (((a2).toInt - (a1).toInt).toNat + 2) 0 a1) (fun r5 => r5)
def k_P_countEmpty (c : Nat) (σ : zSt) (a1 : Int32) (a2 : Int32) : Prop := (kl_P_countEmpty_5 c σ a2 (((a2).toInt - (a1).toInt).toNat + 2) 0 a1)
def l_P_firstEmpty_2 (c : Nat) (σ : zSt) (x2 : Int32) : Nat → Int32 → Int32
  | 0, _ => 0
  | m + 1, x3 => (if x2 ≤ x3 then x3 else zlet (f_P_at c σ x3) (fun r2 => (if r2 = 0 then x3 else (l_P_firstEmpty_2 c σ x2 m (x3 + 1)))))
def kl_P_firstEmpty_2 (c : Nat) (σ : zSt) (x2 : Int32) : Nat → Int32 → Prop
  | 0, _ => False
  | m + 1, x3 => (¬ x2 ≤ x3 → ((k_P_at c σ x3) ∧ (∀ r2, r2 = (f_P_at c σ x3) → (¬ r2 = 0 → (kl_P_firstEmpty_2 c σ x2 m (x3 + 1))))))
def f_P_firstEmpty (c : Nat) (σ : zSt) (a1 : Int32) (a2 : Int32) : Int32 := zlet (l_P_firstEmpty_2 c σ a2 (((a2).toInt - (a1).toInt).toNat + 2) a1) (fun r5 => r5)
def k_P_firstEmpty (c : Nat) (σ : zSt) (a1 : Int32) (a2 : Int32) : Prop := (kl_P_firstEmpty_2 c σ a2 (((a2).toInt - (a1).toInt).toNat + 2) a1)
def l_P_firstFilled_2 (c : Nat) (σ : zSt) (x2 : Int32) : Nat → Int32 → Int32
  | 0, _ => 0
  | m + 1, x3 => (if x2 ≤ x3 then x3 else zlet (f_P_at c σ x3) (fun r2 => (if r2 = 0 then (l_P_firstFilled_2 c σ x2 m (x3 + 1)) else x3)))
def kl_P_firstFilled_2 (c : Nat) (σ : zSt) (x2 : Int32) : Nat → Int32 → Prop
  | 0, _ => False
  | m + 1, x3 => (¬ x2 ≤ x3 → ((k_P_at c σ x3) ∧ (∀ r2, r2 = (f_P_at c σ x3) → (r2 = 0 → (kl_P_firstFilled_2 c σ x2 m (x3 + 1))))))
def f_P_firstFilled (c : Nat) (σ : zSt) (a1 : Int32) (a2 : Int32) : Int32 := zlet (l_P_firstFilled_2 c σ a2 (((a2).toInt - (a1).toInt).toNat + 2) a1) (fun r5 => r5)
def k_P_firstFilled (c : Nat) (σ : zSt) (a1 : Int32) (a2 : Int32) : Prop := (kl_P_firstFilled_2 c σ a2 (((a2).toInt - (a1).toInt).toNat + 2) a1)
def l_P_greatest_5 (c : Nat) (σ : zSt) (x2 : Int32) : Nat → Int32 → Int32 → Int32
  | 0, _, _ => 0
  | m + 1, x3, x4 => (if x2 ≤ x4 then x3 else zlet (f_P_at c σ x4) (fun r2 => (l_P_greatest_5 c σ x2 m (if x3 < r2 then r2 else x3) (x4 + 1))))
def kl_P_greatest_5 (c : Nat) (σ : zSt) (x2 : Int32) : Nat → Int32 → Int32 → Prop
  | 0, _, _ => False
  | m + 1, x3, x4 => (¬ x2 ≤ x4 → ((k_P_at c σ x4) ∧ (∀ r2, r2 = (f_P_at c σ x4) → (kl_P_greatest_5 c σ x2 m (if x3 < r2 then r2 else x3) (x4 + 1)))))
def f_P_greatest (c : Nat) (σ : zSt) (a1 : Int32) (a2 : Int32) : Int32 := zlet (l_P_greatest_5 c σ a2 (((a2).toInt - (a1).toInt).toNat + 2) 0 a1) (fun r4 => r4)
def k_P_greatest (c : Nat) (σ : zSt) (a1 : Int32) (a2 : Int32) : Prop := (kl_P_greatest_5 c σ a2 (((a2).toInt - (a1).toInt).toNat + 2) 0 a1)
def f_R_room (σ : zSt) : Int32 := (((σ 6 3) + 32) - (σ 6 2))
def f_R_takeBytes (σ : zSt) (a1 : Int32) (a2 : Int32) : Int32 × zSt := zseq (f_P_fillEmpty 7 (zuf σ 6 1 ((σ 6 1) + 1)) a1 (if ((σ 6 3) + 32) < a2 then ((σ 6 3) + 32) else a2) ((σ 6 1) + 1)) (fun r1 u2 => zlet (f_P_firstEmpty 7 u2 (u2 6 2) 600) (fun r4 => (r1, (zuf u2 6 2 r4))))
def k_R_takeBytes (σ : zSt) (a1 : Int32) (a2 : Int32) : Prop := ((k_P_fillEmpty 7 (zuf σ 6 1 ((σ 6 1) + 1)) a1 (if ((σ 6 3) + 32) < a2 then ((σ 6 3) + 32) else a2) ((σ 6 1) + 1)) ∧ (∀ r1 u2, (r1, u2) = (f_P_fillEmpty 7 (zuf σ 6 1 ((σ 6 1) + 1)) a1 (if ((σ 6 3) + 32) < a2 then ((σ 6 3) + 32) else a2) ((σ 6 1) + 1)) → (k_P_firstEmpty 7 u2 (u2 6 2) 600)))
def f_R_passByte (σ : zSt) : Int32 × zSt := zlet (f_R_room σ) (fun r1 => (if 4 ≤ r1 then (0, (zuf σ 6 3 ((σ 6 3) + 1))) else zlet (f_R_room (zuf σ 6 3 ((σ 6 3) + 1))) (fun r4 => (if r4 < 4 then (0, (zuf σ 6 3 ((σ 6 3) + 1))) else (1, (zuf σ 6 3 ((σ 6 3) + 1)))))))
def f_W_isFull (c : Nat) (σ : zSt) : Int32 := (if (σ c 2) < 40 then 0 else 1)
def f_W_holds (c : Nat) (σ : zSt) (a1 : Int32) : Int32 := (if a1 < 0 then 0 else (if (σ c 2) ≤ a1 then 0 else 1))
def l_W_remove_26 (c : Nat) : Nat → zSt → Int32 → zSt
  | 0, σ, _ => σ
  | m + 1, σ, x2 => (if ((σ c 2) * (zcol c)) ≤ x2 then σ else (if x2 < 0 then σ else (if (zlen c) ≤ (x2 + (zcol c)) then σ else (l_W_remove_26 c m (zuf σ (c + 1) x2.toNatClampNeg (σ (c + 1) ((x2 + (zcol c)) : Int32).toNatClampNeg)) (x2 + 1)))))
def kl_W_remove_26 (c : Nat) : Nat → zSt → Int32 → Prop
  | 0, _, _ => False
  | m + 1, σ, x2 => (¬ ((σ c 2) * (zcol c)) ≤ x2 → (¬ x2 < 0 → (¬ (zlen c) ≤ (x2 + (zcol c)) → (vp_in (x2 + (zcol c)) (zln c) ∧ (vp_in x2 (zln c) ∧ (kl_W_remove_26 c m (zuf σ (c + 1) x2.toNatClampNeg (σ (c + 1) ((x2 + (zcol c)) : Int32).toNatClampNeg)) (x2 + 1)))))))
def f_W_remove (c : Nat) (σ : zSt) (a1 : Int32) : zSt := zlet (f_W_holds c σ a1) (fun r1 => (if r1 = 0 then σ else zlet (l_W_remove_26 c ((((((zuf σ c 2 ((σ c 2) - 1)) c 2) * (zcol c))).toInt - ((a1 * (zcol c))).toInt).toNat + 2) (zuf σ c 2 ((σ c 2) - 1)) (a1 * (zcol c))) (fun r9 => r9)))
def k_W_remove (c : Nat) (σ : zSt) (a1 : Int32) : Prop := (∀ r1, r1 = (f_W_holds c σ a1) → (¬ r1 = 0 → (kl_W_remove_26 c ((((((zuf σ c 2 ((σ c 2) - 1)) c 2) * (zcol c))).toInt - ((a1 * (zcol c))).toInt).toNat + 2) (zuf σ c 2 ((σ c 2) - 1)) (a1 * (zcol c)))))
def f_W_addRow (c : Nat) (σ : zSt) : Int32 × zSt := (if 40 ≤ (σ c 2) then (((σ c 2) - 1), σ) else ((((σ c 2) + 1) - 1), (zuf σ c 2 ((σ c 2) + 1))))
def f_W_setCell (c : Nat) (σ : zSt) (a1 : Int32) (a2 : Int32) (a3 : Int32) : zSt := (if ((a1 * (zcol c)) + a2) < 0 then σ else (if (zlen c) ≤ ((a1 * (zcol c)) + a2) then σ else (zuf σ (c + 1) (((a1 * (zcol c)) + a2) : Int32).toNatClampNeg a3)))
def k_W_setCell (c : Nat) (σ : zSt) (a1 : Int32) (a2 : Int32) (a3 : Int32) : Prop := (¬ ((a1 * (zcol c)) + a2) < 0 → (¬ (zlen c) ≤ ((a1 * (zcol c)) + a2) → (vp_in ((a1 * (zcol c)) + a2) (zln c))))
def f_R_blockFrom (σ : zSt) (a1 : Int32) : Int32 := zlet (f_P_firstFilled 7 σ a1 ((σ 6 3) + 32)) (fun r1 => (if ((σ 6 3) + 32) ≤ r1 then (-1) else r1))
def k_R_blockFrom (σ : zSt) (a1 : Int32) : Prop := (k_P_firstFilled 7 σ a1 ((σ 6 3) + 32))
def f_R_endOfRun (σ : zSt) (a1 : Int32) : Int32 := zlet (f_P_firstEmpty 7 σ a1 600) (fun r1 => r1)
def k_R_endOfRun (σ : zSt) (a1 : Int32) : Prop := (k_P_firstEmpty 7 σ a1 600)
def l_R_newestBlockBefore_17 (σ : zSt) (x1 : Int32) : Nat → Int32 → Int32 → Int32 → Int32 → Int32
  | 0, _, _, _, _ => 0
  | m + 1, x2, x3, x4, x5 => (if 32 ≤ x5 then x3 else (if x4 = (-1) then x3 else zlet (f_R_endOfRun σ x4) (fun r5 => zlet (f_P_greatest 7 σ x4 r5) (fun r7 => (if r7 ≤ x2 then zlet (f_R_blockFrom σ r5) (fun r10 => (l_R_newestBlockBefore_17 σ x1 m x2 x3 r10 (x5 + 1))) else (if x1 ≤ r7 then zlet (f_R_blockFrom σ r5) (fun r13 => (l_R_newestBlockBefore_17 σ x1 m x2 x3 r13 (x5 + 1))) else zlet (f_R_blockFrom σ r5) (fun r15 => (l_R_newestBlockBefore_17 σ x1 m r7 x4 r15 (x5 + 1)))))))))
def kl_R_newestBlockBefore_17 (σ : zSt) (x1 : Int32) : Nat → Int32 → Int32 → Int32 → Int32 → Prop
  | 0, _, _, _, _ => False
  | m + 1, x2, x3, x4, x5 => (¬ 32 ≤ x5 → (¬ x4 = (-1) → ((k_R_endOfRun σ x4) ∧ (∀ r5, r5 = (f_R_endOfRun σ x4) → ((k_P_greatest 7 σ x4 r5) ∧ (∀ r7, r7 = (f_P_greatest 7 σ x4 r5) → ((r7 ≤ x2 → ((k_R_blockFrom σ r5) ∧ (∀ r10, r10 = (f_R_blockFrom σ r5) → (kl_R_newestBlockBefore_17 σ x1 m x2 x3 r10 (x5 + 1))))) ∧ (¬ r7 ≤ x2 → ((x1 ≤ r7 → ((k_R_blockFrom σ r5) ∧ (∀ r13, r13 = (f_R_blockFrom σ r5) → (kl_R_newestBlockBefore_17 σ x1 m x2 x3 r13 (x5 + 1))))) ∧ (¬ x1 ≤ r7 → ((k_R_blockFrom σ r5) ∧ (∀ r15, r15 = (f_R_blockFrom σ r5) → (kl_R_newestBlockBefore_17 σ x1 m r7 x4 r15 (x5 + 1))))))))))))))
def f_R_newestBlockBefore (σ : zSt) (a1 : Int32) : Int32 := zlet (f_R_blockFrom σ (σ 6 2)) (fun r1 => zlet (l_R_newestBlockBefore_17 σ a1 (((32 : Int32).toInt - (0 : Int32).toInt).toNat + 2) 0 (-1) r1 0) (fun r17 => r17))
def k_R_newestBlockBefore (σ : zSt) (a1 : Int32) : Prop := ((k_R_blockFrom σ (σ 6 2)) ∧ (∀ r1, r1 = (f_R_blockFrom σ (σ 6 2)) → (kl_R_newestBlockBefore_17 σ a1 (((32 : Int32).toInt - (0 : Int32).toInt).toNat + 2) 0 (-1) r1 0)))
def l_R_tellBlocks_13 (x2 : Int32) : Nat → zSt → Int32 → Int32 → Int32 → Int32 × zSt
  | 0, σ, _, _, _ => (0, σ)
  | m + 1, σ, x3, x4, x5 => (if 3 ≤ x5 then (x3, σ) else zlet (f_R_newestBlockBefore σ x4) (fun r2 => (if r2 = (-1) then (l_R_tellBlocks_13 x2 m σ x3 x4 (x5 + 1)) else zlet (f_R_endOfRun σ r2) (fun r5 => zlet (f_W_setCell 11 σ x2 (3 + (2 * x5)) r2) (fun u7 => zlet (f_W_setCell 11 u7 x2 ((3 + (2 * x5)) + 1) r5) (fun u9 => zlet (f_P_greatest 7 u9 r2 r5) (fun r11 => (l_R_tellBlocks_13 x2 m u9 (x3 + 1) r11 (x5 + 1)))))))))
def kl_R_tellBlocks_13 (x2 : Int32) : Nat → zSt → Int32 → Int32 → Int32 → Prop
  | 0, _, _, _, _ => False
  | m + 1, σ, x3, x4, x5 => (¬ 3 ≤ x5 → ((k_R_newestBlockBefore σ x4) ∧ (∀ r2, r2 = (f_R_newestBlockBefore σ x4) → ((r2 = (-1) → (kl_R_tellBlocks_13 x2 m σ x3 x4 (x5 + 1))) ∧ (¬ r2 = (-1) → ((k_R_endOfRun σ r2) ∧ (∀ r5, r5 = (f_R_endOfRun σ r2) → ((k_W_setCell 11 σ x2 (3 + (2 * x5)) r2) ∧ (∀ u7, u7 = (f_W_setCell 11 σ x2 (3 + (2 * x5)) r2) → ((k_W_setCell 11 u7 x2 ((3 + (2 * x5)) + 1) r5) ∧ (∀ u9, u9 = (f_W_setCell 11 u7 x2 ((3 + (2 * x5)) + 1) r5) → ((k_P_greatest 7 u9 r2 r5) ∧ (∀ r11, r11 = (f_P_greatest 7 u9 r2 r5) → (kl_R_tellBlocks_13 x2 m u9 (x3 + 1) r11 (x5 + 1)))))))))))))))
def f_R_tellBlocks (σ : zSt) (a2 : Int32) : Int32 × zSt := zlet (l_R_tellBlocks_13 a2 (((3 : Int32).toInt - (0 : Int32).toInt).toNat + 2) σ 0 ((σ 6 1) + 1) 0) (fun r13 => (r13.1, r13.2))
def k_R_tellBlocks (σ : zSt) (a2 : Int32) : Prop := (kl_R_tellBlocks_13 a2 (((3 : Int32).toInt - (0 : Int32).toInt).toNat + 2) σ 0 ((σ 6 1) + 1) 0)
def f_R_makeAck (σ : zSt) : zSt := zlet (f_W_isFull 11 σ) (fun r1 => (if r1 = 0 then zseq (f_W_addRow 11 σ) (fun r4 u5 => zlet (f_W_setCell 11 u5 r4 0 (u5 6 2)) (fun u7 => zlet (f_R_room u7) (fun r9 => zlet (f_W_setCell 11 u7 r4 1 r9) (fun u11 => zseq (f_R_tellBlocks u11 r4) (fun r13 u14 => zlet (f_W_setCell 11 u14 r4 2 r13) (fun u16 => u16)))))) else zlet (f_W_remove 11 σ 0) (fun u18 => zseq (f_W_addRow 11 u18) (fun r20 u21 => zlet (f_W_setCell 11 u21 r20 0 (u21 6 2)) (fun u23 => zlet (f_R_room u23) (fun r25 => zlet (f_W_setCell 11 u23 r20 1 r25) (fun u27 => zseq (f_R_tellBlocks u27 r20) (fun r29 u30 => zlet (f_W_setCell 11 u30 r20 2 r29) (fun u32 => u32)))))))))
def k_R_makeAck (σ : zSt) : Prop := (∀ r1, r1 = (f_W_isFull 11 σ) → ((r1 = 0 → (∀ r4 u5, (r4, u5) = (f_W_addRow 11 σ) → ((k_W_setCell 11 u5 r4 0 (u5 6 2)) ∧ (∀ u7, u7 = (f_W_setCell 11 u5 r4 0 (u5 6 2)) → (∀ r9, r9 = (f_R_room u7) → ((k_W_setCell 11 u7 r4 1 r9) ∧ (∀ u11, u11 = (f_W_setCell 11 u7 r4 1 r9) → ((k_R_tellBlocks u11 r4) ∧ (∀ r13 u14, (r13, u14) = (f_R_tellBlocks u11 r4) → (k_W_setCell 11 u14 r4 2 r13)))))))))) ∧ (¬ r1 = 0 → ((k_W_remove 11 σ 0) ∧ (∀ u18, u18 = (f_W_remove 11 σ 0) → (∀ r20 u21, (r20, u21) = (f_W_addRow 11 u18) → ((k_W_setCell 11 u21 r20 0 (u21 6 2)) ∧ (∀ u23, u23 = (f_W_setCell 11 u21 r20 0 (u21 6 2)) → (∀ r25, r25 = (f_R_room u23) → ((k_W_setCell 11 u23 r20 1 r25) ∧ (∀ u27, u27 = (f_W_setCell 11 u23 r20 1 r25) → ((k_R_tellBlocks u27 r20) ∧ (∀ r29 u30, (r29, u30) = (f_R_tellBlocks u27 r20) → (k_W_setCell 11 u30 r20 2 r29))))))))))))))
def l_R_countBlocks_13 (σ : zSt) : Nat → Int32 → Int32 → Int32 → Int32
  | 0, _, _, _ => 0
  | m + 1, x1, x2, x3 => (if 32 ≤ x3 then x1 else (if x2 = (-1) then x1 else zlet (f_R_endOfRun σ x2) (fun r5 => zlet (f_R_blockFrom σ r5) (fun r7 => (l_R_countBlocks_13 σ m (x1 + 1) r7 (x3 + 1))))))
def kl_R_countBlocks_13 (σ : zSt) : Nat → Int32 → Int32 → Int32 → Prop
  | 0, _, _, _ => False
  | m + 1, x1, x2, x3 => (¬ 32 ≤ x3 → (¬ x2 = (-1) → ((k_R_endOfRun σ x2) ∧ (∀ r5, r5 = (f_R_endOfRun σ x2) → ((k_R_blockFrom σ r5) ∧ (∀ r7, r7 = (f_R_blockFrom σ r5) → (kl_R_countBlocks_13 σ m (x1 + 1) r7 (x3 + 1))))))))
def f_R_countBlocks (σ : zSt) : Int32 := zlet (f_R_blockFrom σ (σ 6 2)) (fun r1 => zlet (l_R_countBlocks_13 σ (((32 : Int32).toInt - (0 : Int32).toInt).toNat + 2) 0 r1 0) (fun r9 => r9))
def k_R_countBlocks (σ : zSt) : Prop := ((k_R_blockFrom σ (σ 6 2)) ∧ (∀ r1, r1 = (f_R_blockFrom σ (σ 6 2)) → (kl_R_countBlocks_13 σ (((32 : Int32).toInt - (0 : Int32).toInt).toNat + 2) 0 r1 0)))
def l_R_startOfBlock_11 (σ : zSt) (x1 : Int32) : Nat → Int32 → Int32 → Int32
  | 0, _, _ => 0
  | m + 1, x2, x3 => (if x1 ≤ x3 then x2 else (if x2 = (-1) then x2 else zlet (f_R_endOfRun σ x2) (fun r5 => zlet (f_R_blockFrom σ r5) (fun r7 => (l_R_startOfBlock_11 σ x1 m r7 (x3 + 1))))))
def kl_R_startOfBlock_11 (σ : zSt) (x1 : Int32) : Nat → Int32 → Int32 → Prop
  | 0, _, _ => False
  | m + 1, x2, x3 => (¬ x1 ≤ x3 → (¬ x2 = (-1) → ((k_R_endOfRun σ x2) ∧ (∀ r5, r5 = (f_R_endOfRun σ x2) → ((k_R_blockFrom σ r5) ∧ (∀ r7, r7 = (f_R_blockFrom σ r5) → (kl_R_startOfBlock_11 σ x1 m r7 (x3 + 1))))))))
def f_R_startOfBlock (σ : zSt) (a1 : Int32) : Int32 := zlet (f_R_blockFrom σ (σ 6 2)) (fun r1 => zlet (l_R_startOfBlock_11 σ a1 (((a1).toInt - (0 : Int32).toInt).toNat + 2) r1 0) (fun r9 => r9))
def k_R_startOfBlock (σ : zSt) (a1 : Int32) : Prop := ((k_R_blockFrom σ (σ 6 2)) ∧ (∀ r1, r1 = (f_R_blockFrom σ (σ 6 2)) → (kl_R_startOfBlock_11 σ a1 (((a1).toInt - (0 : Int32).toInt).toNat + 2) r1 0)))
def f_W_cell (c : Nat) (σ : zSt) (a1 : Int32) (a2 : Int32) : Int32 := (if ((a1 * (zcol c)) + a2) < 0 then (-1) else (if (zlen c) ≤ ((a1 * (zcol c)) + a2) then (-1) else (σ (c + 1) (((a1 * (zcol c)) + a2) : Int32).toNatClampNeg)))
def k_W_cell (c : Nat) (σ : zSt) (a1 : Int32) (a2 : Int32) : Prop := (¬ ((a1 * (zcol c)) + a2) < 0 → (¬ (zlen c) ≤ ((a1 * (zcol c)) + a2) → (vp_in ((a1 * (zcol c)) + a2) (zln c))))
def f_S_countFlying (σ : zSt) : Int32 := zlet (f_P_countEmpty 3 σ (σ 2 2) (σ 2 3)) (fun r1 => r1)
def k_S_countFlying (σ : zSt) : Prop := (k_P_countEmpty 3 σ (σ 2 2) (σ 2 3))
def f_S_startOfRepair (σ : zSt) : Int32 := (if (σ 2 11) = (-1) then (-1) else zlet (f_P_firstEmpty 3 σ (if (σ 2 2) < (σ 2 12) then (σ 2 12) else (σ 2 2)) (σ 2 3)) (fun r2 => (if r2 < (σ 2 3) then zlet (f_P_firstFilled 3 σ r2 (σ 2 4)) (fun r5 => (if (σ 2 4) ≤ r5 then (if r2 = (σ 2 2) then r2 else (-1)) else (if r2 = (σ 2 2) then r2 else r2))) else (-1))))
def k_S_startOfRepair (σ : zSt) : Prop := (¬ (σ 2 11) = (-1) → ((k_P_firstEmpty 3 σ (if (σ 2 2) < (σ 2 12) then (σ 2 12) else (σ 2 2)) (σ 2 3)) ∧ (∀ r2, r2 = (f_P_firstEmpty 3 σ (if (σ 2 2) < (σ 2 12) then (σ 2 12) else (σ 2 2)) (σ 2 3)) → (r2 < (σ 2 3) → (k_P_firstFilled 3 σ r2 (σ 2 4))))))
def f_S_endOfRun (σ : zSt) (a1 : Int32) (a2 : Int32) : Int32 := zlet (f_P_firstFilled 3 σ a1 (if a2 < (a1 + 4) then a2 else (a1 + 4))) (fun r1 => r1)
def k_S_endOfRun (σ : zSt) (a1 : Int32) (a2 : Int32) : Prop := (k_P_firstFilled 3 σ a1 (if a2 < (a1 + 4) then a2 else (a1 + 4)))
def f_S_endOfFresh (σ : zSt) : Int32 := (if (σ 2 3) < (σ 2 5) then zlet (f_S_countFlying σ) (fun r2 => (if (σ 2 3) < (σ 2 6) then zlet (f_S_endOfRun σ (σ 2 3) (if (σ 2 6) < (σ 2 5) then (σ 2 6) else (σ 2 5))) (fun r5 => (if (if (σ 2 9) < (σ 2 7) then (σ 2 9) else (σ 2 7)) < ((r2 + r5) - (σ 2 3)) then (if r2 = 0 then r5 else (σ 2 3)) else (if r2 = 0 then r5 else r5))) else (if r2 = 0 then ((σ 2 3) + 1) else (σ 2 3)))) else (σ 2 3))
def k_S_endOfFresh (σ : zSt) : Prop := ((σ 2 3) < (σ 2 5) → ((k_S_countFlying σ) ∧ (∀ r2, r2 = (f_S_countFlying σ) → ((σ 2 3) < (σ 2 6) → (k_S_endOfRun σ (σ 2 3) (if (σ 2 6) < (σ 2 5) then (σ 2 6) else (σ 2 5)))))))
def f_T_timeSegment (σ : zSt) (a1 : Int32) : zSt := (if (σ 5 3) = (-1) then (zuf (zuf σ 5 3 a1) 5 6 (σ 5 0)) else σ)
def f_T_startAnew (σ : zSt) : zSt := (zuf σ 5 2 ((σ 5 0) + (σ 5 1)))
def f_T_startIfStopped (σ : zSt) : zSt := (if (σ 5 2) = (-1) then zlet (f_T_startAnew σ) (fun u2 => u2) else σ)
def f_S_noteSent (σ : zSt) (a1 : Int32) (a2 : Int32) : zSt := (if (σ 2 4) ≤ a1 then zlet (f_T_timeSegment (zuf σ 2 13 ((σ 2 13) + 1)) a2) (fun u2 => zlet (f_T_startIfStopped (zuf u2 2 4 (if (u2 2 4) < (u2 2 3) then (u2 2 3) else (u2 2 4)))) (fun u4 => u4)) else zlet (f_T_startIfStopped (zuf (zuf (zuf σ 2 13 ((σ 2 13) + 1)) 2 14 ((σ 2 14) + 1)) 2 4 (if (σ 2 4) < (σ 2 3) then (σ 2 3) else (σ 2 4)))) (fun u6 => u6))
def f_S_sendInto (σ : zSt) : Int32 × zSt := zlet (f_S_startOfRepair σ) (fun r1 => (if r1 = (-1) then zlet (f_P_firstEmpty 3 σ (σ 2 3) (σ 2 5)) (fun r4 => zlet (f_S_endOfFresh (zuf σ 2 3 r4)) (fun r6 => (if r6 ≤ r4 then ((r6 - r4), (zuf (zuf σ 2 3 r4) 2 3 r6)) else zlet (f_S_noteSent (zuf (zuf σ 2 3 r4) 2 3 r6) r4 r6) (fun u9 => zseq (f_W_addRow 9 u9) (fun r11 u12 => zlet (f_W_setCell 9 u12 r11 0 r4) (fun u14 => zlet (f_W_setCell 9 u14 r11 1 r6) (fun u16 => ((r6 - r4), u16)))))))) else zlet (f_S_endOfRun σ r1 (σ 2 3)) (fun r18 => (if r18 ≤ r1 then ((r18 - r1), (zuf σ 2 12 r18)) else zlet (f_S_noteSent (zuf σ 2 12 r18) r1 r18) (fun u21 => zseq (f_W_addRow 9 u21) (fun r23 u24 => zlet (f_W_setCell 9 u24 r23 0 r1) (fun u26 => zlet (f_W_setCell 9 u26 r23 1 r18) (fun u28 => ((r18 - r1), u28)))))))))
def k_S_sendInto (σ : zSt) : Prop := ((k_S_startOfRepair σ) ∧ (∀ r1, r1 = (f_S_startOfRepair σ) → ((r1 = (-1) → ((k_P_firstEmpty 3 σ (σ 2 3) (σ 2 5)) ∧ (∀ r4, r4 = (f_P_firstEmpty 3 σ (σ 2 3) (σ 2 5)) → ((k_S_endOfFresh (zuf σ 2 3 r4)) ∧ (∀ r6, r6 = (f_S_endOfFresh (zuf σ 2 3 r4)) → (¬ r6 ≤ r4 → (∀ u9, u9 = (f_S_noteSent (zuf (zuf σ 2 3 r4) 2 3 r6) r4 r6) → (∀ r11 u12, (r11, u12) = (f_W_addRow 9 u9) → ((k_W_setCell 9 u12 r11 0 r4) ∧ (∀ u14, u14 = (f_W_setCell 9 u12 r11 0 r4) → (k_W_setCell 9 u14 r11 1 r6))))))))))) ∧ (¬ r1 = (-1) → ((k_S_endOfRun σ r1 (σ 2 3)) ∧ (∀ r18, r18 = (f_S_endOfRun σ r1 (σ 2 3)) → (¬ r18 ≤ r1 → (∀ u21, u21 = (f_S_noteSent (zuf σ 2 12 r18) r1 r18) → (∀ r23 u24, (r23, u24) = (f_W_addRow 9 u21) → ((k_W_setCell 9 u24 r23 0 r1) ∧ (∀ u26, u26 = (f_W_setCell 9 u24 r23 0 r1) → (k_W_setCell 9 u26 r23 1 r18))))))))))))
def f_T_passTick (σ : zSt) : Int32 × zSt := (if (σ 5 2) = (-1) then (0, (zuf σ 5 0 ((σ 5 0) + 1))) else (if ((σ 5 0) + 1) = (σ 5 2) then (1, (zuf σ 5 0 ((σ 5 0) + 1))) else (0, (zuf σ 5 0 ((σ 5 0) + 1)))))
def f_S_halfOfFlying (σ : zSt) : Int32 := zlet (f_S_countFlying σ) (fun r1 => (if 8 < (r1 / 2) then (r1 / 2) else 8))
def k_S_halfOfFlying (σ : zSt) : Prop := (k_S_countFlying σ)
def f_T_forgetTiming (σ : zSt) : zSt := (zuf σ 5 3 (-1))
def f_T_stop (σ : zSt) : zSt := (zuf σ 5 2 (-1))
def f_T_backOff (σ : zSt) : zSt := zlet (f_T_forgetTiming (zuf σ 5 1 (if (2 * (σ 5 1)) < 64 then (2 * (σ 5 1)) else 64))) (fun u1 => zlet (f_T_stop u1) (fun u3 => u3))
def f_S_startOver (σ : zSt) : zSt := zlet (f_S_halfOfFlying σ) (fun r1 => zlet (f_T_backOff (zuf (zuf σ 2 8 r1) 2 7 4)) (fun u3 => zlet (f_P_empty 3 u3 (u3 2 2) (u3 2 4)) (fun u5 => (zuf (zuf (zuf u5 2 3 (u5 2 2)) 2 11 (-1)) 2 10 0))))
def k_S_startOver (σ : zSt) : Prop := ((k_S_halfOfFlying σ) ∧ (∀ r1, r1 = (f_S_halfOfFlying σ) → (∀ u3, u3 = (f_T_backOff (zuf (zuf σ 2 8 r1) 2 7 4)) → (k_P_empty 3 u3 (u3 2 2) (u3 2 4)))))
def l_S_passTicks_4 (x1 : Int32) : Nat → zSt → Int32 → Int32 → Int32 × zSt
  | 0, σ, _, _ => (0, σ)
  | m + 1, σ, x2, x3 => (if x1 ≤ x3 then (x2, σ) else zseq (f_T_passTick σ) (fun r2 u3 => (if r2 = 0 then (l_S_passTicks_4 x1 m u3 x2 (x3 + 1)) else zlet (f_S_startOver u3) (fun u6 => (l_S_passTicks_4 x1 m u6 (x2 + 1) (x3 + 1))))))
def kl_S_passTicks_4 (x1 : Int32) : Nat → zSt → Int32 → Int32 → Prop
  | 0, _, _, _ => False
  | m + 1, σ, x2, x3 => (¬ x1 ≤ x3 → (∀ r2 u3, (r2, u3) = (f_T_passTick σ) → ((r2 = 0 → (kl_S_passTicks_4 x1 m u3 x2 (x3 + 1))) ∧ (¬ r2 = 0 → ((k_S_startOver u3) ∧ (∀ u6, u6 = (f_S_startOver u3) → (kl_S_passTicks_4 x1 m u6 (x2 + 1) (x3 + 1))))))))
def f_S_passTicks (σ : zSt) (a1 : Int32) : Int32 × zSt := zlet (l_S_passTicks_4 a1 (((a1).toInt - (0 : Int32).toInt).toNat + 2) σ 0 0) (fun r8 => (r8.1, r8.2))
def k_S_passTicks (σ : zSt) (a1 : Int32) : Prop := (kl_S_passTicks_4 a1 (((a1).toInt - (0 : Int32).toInt).toNat + 2) σ 0 0)
def f_T_takeSample (σ : zSt) (a1 : Int32) : zSt := (if (σ 5 7) = 0 then (zuf (zuf (zuf (zuf σ 5 4 (8 * a1)) 5 5 (2 * a1)) 5 7 1) 5 1 (if (if 2 < (((8 * a1) / 8) + (if (2 * a1) < 1 then 1 else (2 * a1))) then (((8 * a1) / 8) + (if (2 * a1) < 1 then 1 else (2 * a1))) else 2) < 64 then (if 2 < (((8 * a1) / 8) + (if (2 * a1) < 1 then 1 else (2 * a1))) then (((8 * a1) / 8) + (if (2 * a1) < 1 then 1 else (2 * a1))) else 2) else 64)) else (zuf (zuf (zuf σ 5 4 ((σ 5 4) + (a1 - ((σ 5 4) / 8)))) 5 5 ((σ 5 5) + ((if 0 ≤ (a1 - ((σ 5 4) / 8)) then (a1 - ((σ 5 4) / 8)) else 0 - (a1 - ((σ 5 4) / 8))) - ((σ 5 5) / 4)))) 5 1 (if (if 2 < ((((σ 5 4) + (a1 - ((σ 5 4) / 8))) / 8) + (if ((σ 5 5) + ((if 0 ≤ (a1 - ((σ 5 4) / 8)) then (a1 - ((σ 5 4) / 8)) else 0 - (a1 - ((σ 5 4) / 8))) - ((σ 5 5) / 4))) < 1 then 1 else ((σ 5 5) + ((if 0 ≤ (a1 - ((σ 5 4) / 8)) then (a1 - ((σ 5 4) / 8)) else 0 - (a1 - ((σ 5 4) / 8))) - ((σ 5 5) / 4))))) then ((((σ 5 4) + (a1 - ((σ 5 4) / 8))) / 8) + (if ((σ 5 5) + ((if 0 ≤ (a1 - ((σ 5 4) / 8)) then (a1 - ((σ 5 4) / 8)) else 0 - (a1 - ((σ 5 4) / 8))) - ((σ 5 5) / 4))) < 1 then 1 else ((σ 5 5) + ((if 0 ≤ (a1 - ((σ 5 4) / 8)) then (a1 - ((σ 5 4) / 8)) else 0 - (a1 - ((σ 5 4) / 8))) - ((σ 5 5) / 4))))) else 2) < 64 then (if 2 < ((((σ 5 4) + (a1 - ((σ 5 4) / 8))) / 8) + (if ((σ 5 5) + ((if 0 ≤ (a1 - ((σ 5 4) / 8)) then (a1 - ((σ 5 4) / 8)) else 0 - (a1 - ((σ 5 4) / 8))) - ((σ 5 5) / 4))) < 1 then 1 else ((σ 5 5) + ((if 0 ≤ (a1 - ((σ 5 4) / 8)) then (a1 - ((σ 5 4) / 8)) else 0 - (a1 - ((σ 5 4) / 8))) - ((σ 5 5) / 4))))) then ((((σ 5 4) + (a1 - ((σ 5 4) / 8))) / 8) + (if ((σ 5 5) + ((if 0 ≤ (a1 - ((σ 5 4) / 8)) then (a1 - ((σ 5 4) / 8)) else 0 - (a1 - ((σ 5 4) / 8))) - ((σ 5 5) / 4))) < 1 then 1 else ((σ 5 5) + ((if 0 ≤ (a1 - ((σ 5 4) / 8)) then (a1 - ((σ 5 4) / 8)) else 0 - (a1 - ((σ 5 4) / 8))) - ((σ 5 5) / 4))))) else 2) else 64)))
def f_T_endTiming (σ : zSt) (a1 : Int32) : zSt := (if (σ 5 3) = (-1) then σ else (if a1 < (σ 5 3) then σ else zlet (f_T_takeSample σ ((σ 5 0) - (σ 5 6))) (fun u3 => zlet (f_T_forgetTiming u3) (fun u5 => u5))))
def f_S_growCongestion (σ : zSt) : zSt := (if (σ 2 8) ≤ (σ 2 7) then (if (σ 2 7) ≤ 0 then (zuf σ 2 7 (if ((σ 2 7) + 1) < 256 then ((σ 2 7) + 1) else 256)) else (zuf σ 2 7 (if ((σ 2 7) + (if 1 < (16 / (σ 2 7)) then (16 / (σ 2 7)) else 1)) < 256 then ((σ 2 7) + (if 1 < (16 / (σ 2 7)) then (16 / (σ 2 7)) else 1)) else 256))) else (zuf σ 2 7 (if ((σ 2 7) + 4) < 256 then ((σ 2 7) + 4) else 256)))
def k_S_growCongestion (σ : zSt) : Prop := ((σ 2 8) ≤ (σ 2 7) → (¬ (σ 2 7) ≤ 0 → (¬ (σ 2 7) = 0)))
def f_S_advanceTo (σ : zSt) (a1 : Int32) : zSt := zlet (f_T_endTiming σ a1) (fun u1 => zlet (f_P_empty 3 u1 (u1 2 2) a1) (fun u3 => (if (u3 2 11) = (-1) then zlet (f_S_growCongestion (zuf (zuf (zuf u3 2 2 a1) 2 3 (if (u3 2 3) < a1 then a1 else (u3 2 3))) 2 10 0)) (fun u17 => (if (u17 2 2) = (u17 2 3) then zlet (f_T_stop u17) (fun u22 => u22) else zlet (f_T_startAnew u17) (fun u20 => u20))) else (if a1 < (u3 2 11) then (if a1 = (if (u3 2 3) < a1 then a1 else (u3 2 3)) then zlet (f_T_stop (zuf (zuf (zuf u3 2 2 a1) 2 3 (if (u3 2 3) < a1 then a1 else (u3 2 3))) 2 10 0)) (fun u10 => u10) else zlet (f_T_startAnew (zuf (zuf (zuf u3 2 2 a1) 2 3 (if (u3 2 3) < a1 then a1 else (u3 2 3))) 2 10 0)) (fun u8 => u8)) else (if a1 = (if (u3 2 3) < a1 then a1 else (u3 2 3)) then zlet (f_T_stop (zuf (zuf (zuf (zuf (zuf u3 2 2 a1) 2 3 (if (u3 2 3) < a1 then a1 else (u3 2 3))) 2 10 0) 2 11 (-1)) 2 7 (u3 2 8))) (fun u15 => u15) else zlet (f_T_startAnew (zuf (zuf (zuf (zuf (zuf u3 2 2 a1) 2 3 (if (u3 2 3) < a1 then a1 else (u3 2 3))) 2 10 0) 2 11 (-1)) 2 7 (u3 2 8))) (fun u13 => u13))))))
def k_S_advanceTo (σ : zSt) (a1 : Int32) : Prop := (∀ u1, u1 = (f_T_endTiming σ a1) → ((k_P_empty 3 u1 (u1 2 2) a1) ∧ (∀ u3, u3 = (f_P_empty 3 u1 (u1 2 2) a1) → ((u3 2 11) = (-1) → (k_S_growCongestion (zuf (zuf (zuf u3 2 2 a1) 2 3 (if (u3 2 3) < a1 then a1 else (u3 2 3))) 2 10 0))))))
def l_S_markBlocks_14 (x2 x3 : Int32) : Nat → zSt → Int32 → zSt
  | 0, σ, _ => σ
  | m + 1, σ, x4 => (if x3 ≤ x4 then σ else zlet (f_W_cell 11 σ x2 (3 + (2 * x4))) (fun r4 => zlet (f_W_cell 11 σ x2 ((3 + (2 * x4)) + 1)) (fun r6 => zseq (f_P_fillEmpty 3 σ (if (σ 2 2) < r4 then r4 else (σ 2 2)) r6 1) (fun r8 u9 => (l_S_markBlocks_14 x2 x3 m u9 (x4 + 1))))))
def kl_S_markBlocks_14 (x2 x3 : Int32) : Nat → zSt → Int32 → Prop
  | 0, _, _ => False
  | m + 1, σ, x4 => (¬ x3 ≤ x4 → ((k_W_cell 11 σ x2 (3 + (2 * x4))) ∧ (∀ r4, r4 = (f_W_cell 11 σ x2 (3 + (2 * x4))) → ((k_W_cell 11 σ x2 ((3 + (2 * x4)) + 1)) ∧ (∀ r6, r6 = (f_W_cell 11 σ x2 ((3 + (2 * x4)) + 1)) → ((k_P_fillEmpty 3 σ (if (σ 2 2) < r4 then r4 else (σ 2 2)) r6 1) ∧ (∀ r8 u9, (r8, u9) = (f_P_fillEmpty 3 σ (if (σ 2 2) < r4 then r4 else (σ 2 2)) r6 1) → (kl_S_markBlocks_14 x2 x3 m u9 (x4 + 1)))))))))
def f_S_markBlocks (σ : zSt) (a2 : Int32) : zSt := zlet (f_W_cell 11 σ a2 2) (fun r1 => zlet (l_S_markBlocks_14 a2 (if r1 < 3 then r1 else 3) ((((if r1 < 3 then r1 else 3)).toInt - (0 : Int32).toInt).toNat + 2) σ 0) (fun r11 => r11))
def k_S_markBlocks (σ : zSt) (a2 : Int32) : Prop := ((k_W_cell 11 σ a2 2) ∧ (∀ r1, r1 = (f_W_cell 11 σ a2 2) → (kl_S_markBlocks_14 a2 (if r1 < 3 then r1 else 3) ((((if r1 < 3 then r1 else 3)).toInt - (0 : Int32).toInt).toNat + 2) σ 0)))
def f_S_countDuplicate (σ : zSt) : zSt := (if ((σ 2 10) + 1) = 3 then (if (σ 2 11) = (-1) then zlet (f_S_halfOfFlying (zuf σ 2 10 ((σ 2 10) + 1))) (fun r3 => zlet (f_T_forgetTiming (zuf (zuf (zuf (zuf (zuf σ 2 10 ((σ 2 10) + 1)) 2 8 r3) 2 7 r3) 2 11 (σ 2 3)) 2 12 (σ 2 2))) (fun u5 => u5)) else (zuf σ 2 10 ((σ 2 10) + 1))) else (zuf σ 2 10 ((σ 2 10) + 1)))
def k_S_countDuplicate (σ : zSt) : Prop := (((σ 2 10) + 1) = 3 → ((σ 2 11) = (-1) → (k_S_halfOfFlying (zuf σ 2 10 ((σ 2 10) + 1)))))
def f_S_takeAck (σ : zSt) (a2 : Int32) : Int32 × zSt := zlet (f_W_cell 11 σ a2 0) (fun r1 => (if (σ 2 2) ≤ r1 then zlet (f_W_cell 11 σ a2 1) (fun r4 => (if (r1 + r4) ≤ (σ 2 6) then (if (r1 - (σ 2 2)) ≤ 0 then zlet (f_S_markBlocks (zuf σ 2 6 (if (σ 2 6) < (r1 + r4) then (r1 + r4) else (σ 2 6))) a2) (fun u8 => (if (r1 - (σ 2 2)) = 0 then (if (u8 2 3) ≤ (u8 2 2) then ((r1 - (σ 2 2)), u8) else zlet (f_S_countDuplicate u8) (fun u13 => ((r1 - (σ 2 2)), u13))) else ((r1 - (σ 2 2)), u8))) else zlet (f_S_advanceTo (zuf σ 2 6 (if (σ 2 6) < (r1 + r4) then (r1 + r4) else (σ 2 6))) r1) (fun u15 => zlet (f_S_markBlocks u15 a2) (fun u17 => (if (r1 - (σ 2 2)) = 0 then (if (u17 2 3) ≤ (u17 2 2) then ((r1 - (σ 2 2)), u17) else zlet (f_S_countDuplicate u17) (fun u22 => ((r1 - (σ 2 2)), u22))) else ((r1 - (σ 2 2)), u17))))) else (if (r1 - (σ 2 2)) ≤ 0 then zlet (f_S_markBlocks (zuf σ 2 6 (if (σ 2 6) < (r1 + r4) then (r1 + r4) else (σ 2 6))) a2) (fun u25 => (if (r1 - (σ 2 2)) = 0 then (if (u25 2 3) ≤ (u25 2 2) then ((r1 - (σ 2 2)), u25) else ((r1 - (σ 2 2)), u25)) else ((r1 - (σ 2 2)), u25))) else zlet (f_S_advanceTo (zuf σ 2 6 (if (σ 2 6) < (r1 + r4) then (r1 + r4) else (σ 2 6))) r1) (fun u30 => zlet (f_S_markBlocks u30 a2) (fun u32 => (if (r1 - (σ 2 2)) = 0 then (if (u32 2 3) ≤ (u32 2 2) then ((r1 - (σ 2 2)), u32) else ((r1 - (σ 2 2)), u32)) else ((r1 - (σ 2 2)), u32))))))) else (0, σ)))
def k_S_takeAck (σ : zSt) (a2 : Int32) : Prop := ((k_W_cell 11 σ a2 0) ∧ (∀ r1, r1 = (f_W_cell 11 σ a2 0) → ((σ 2 2) ≤ r1 → ((k_W_cell 11 σ a2 1) ∧ (∀ r4, r4 = (f_W_cell 11 σ a2 1) → (((r1 + r4) ≤ (σ 2 6) → (((r1 - (σ 2 2)) ≤ 0 → ((k_S_markBlocks (zuf σ 2 6 (if (σ 2 6) < (r1 + r4) then (r1 + r4) else (σ 2 6))) a2) ∧ (∀ u8, u8 = (f_S_markBlocks (zuf σ 2 6 (if (σ 2 6) < (r1 + r4) then (r1 + r4) else (σ 2 6))) a2) → ((r1 - (σ 2 2)) = 0 → (¬ (u8 2 3) ≤ (u8 2 2) → (k_S_countDuplicate u8)))))) ∧ (¬ (r1 - (σ 2 2)) ≤ 0 → ((k_S_advanceTo (zuf σ 2 6 (if (σ 2 6) < (r1 + r4) then (r1 + r4) else (σ 2 6))) r1) ∧ (∀ u15, u15 = (f_S_advanceTo (zuf σ 2 6 (if (σ 2 6) < (r1 + r4) then (r1 + r4) else (σ 2 6))) r1) → ((k_S_markBlocks u15 a2) ∧ (∀ u17, u17 = (f_S_markBlocks u15 a2) → ((r1 - (σ 2 2)) = 0 → (¬ (u17 2 3) ≤ (u17 2 2) → (k_S_countDuplicate u17)))))))))) ∧ (¬ (r1 + r4) ≤ (σ 2 6) → (((r1 - (σ 2 2)) ≤ 0 → (k_S_markBlocks (zuf σ 2 6 (if (σ 2 6) < (r1 + r4) then (r1 + r4) else (σ 2 6))) a2)) ∧ (¬ (r1 - (σ 2 2)) ≤ 0 → ((k_S_advanceTo (zuf σ 2 6 (if (σ 2 6) < (r1 + r4) then (r1 + r4) else (σ 2 6))) r1) ∧ (∀ u30, u30 = (f_S_advanceTo (zuf σ 2 6 (if (σ 2 6) < (r1 + r4) then (r1 + r4) else (σ 2 6))) r1) → (k_S_markBlocks u30 a2))))))))))))
def f_M_thrown (σ : zSt) : Int32 := (σ 13 0)
def f_M_isFine (σ : zSt) (a1 : Int32) : Int32 × zSt := (if a1 = 0 then (1, (zuf σ 13 0 a1)) else (0, (zuf σ 13 0 a1)))
def f_M_isIn (σ : zSt) (a1 : Int32) (a2 : Int32) (a3 : Int32) : Int32 := (if a1 < a2 then 0 else (if a3 < a1 then 0 else 1))
def f_M_lesser (σ : zSt) (a1 : Int32) (a2 : Int32) : Int32 := (if a2 ≤ a1 then a2 else a1)
def f_M_greater (σ : zSt) (a1 : Int32) (a2 : Int32) : Int32 := (if a1 ≤ a2 then a2 else a1)
def l_M_write_53 (x1 x2 : Int32) : Nat → zSt → Int32 → zSt
  | 0, σ, _ => σ
  | m + 1, σ, x3 => (if x2 ≤ x3 then σ else (l_M_write_53 x1 x2 m (zuf σ 14 (((σ 13 5) + x3) : Int32).toNatClampNeg ((x1 + x3) - (x1 + x3) / 256 * 256)) (x3 + 1)))
def kl_M_write_53 (x1 x2 : Int32) : Nat → zSt → Int32 → Prop
  | 0, _, _ => False
  | m + 1, σ, x3 => (¬ x2 ≤ x3 → (vp_in ((σ 13 5) + x3) 600 ∧ (kl_M_write_53 x1 x2 m (zuf σ 14 (((σ 13 5) + x3) : Int32).toNatClampNeg ((x1 + x3) - (x1 + x3) / 256 * 256)) (x3 + 1))))
def f_M_write (σ : zSt) (a1 : Int32) (a2 : Int32) : Int32 × zSt := zlet (f_M_isIn σ a1 0 255) (fun r1 => (if r1 = 0 then zseq (f_M_isFine σ 1) (fun r4 u5 => (if r4 = 0 then (0, u5) else zlet (l_M_write_53 a1 a2 (((a2).toInt - (0 : Int32).toInt).toNat + 2) u5 0) (fun r10 => (((r10 13 5) + a2), (zuf r10 13 5 ((r10 13 5) + a2)))))) else zlet (f_M_isIn σ a2 1 100) (fun r11 => (if r11 = 0 then zseq (f_M_isFine σ 1) (fun r25 u26 => (if r25 = 0 then (0, u26) else zlet (l_M_write_53 a1 a2 (((a2).toInt - (0 : Int32).toInt).toNat + 2) u26 0) (fun r29 => (((r29 13 5) + a2), (zuf r29 13 5 ((r29 13 5) + a2)))))) else (if ((σ 13 5) + a2) ≤ 600 then zseq (f_M_isFine σ 0) (fun r15 u16 => (if r15 = 0 then (0, u16) else zlet (l_M_write_53 a1 a2 (((a2).toInt - (0 : Int32).toInt).toNat + 2) u16 0) (fun r19 => (((r19 13 5) + a2), (zuf r19 13 5 ((r19 13 5) + a2)))))) else zseq (f_M_isFine σ 2) (fun r20 u21 => (if r20 = 0 then (0, u21) else zlet (l_M_write_53 a1 a2 (((a2).toInt - (0 : Int32).toInt).toNat + 2) u21 0) (fun r24 => (((r24 13 5) + a2), (zuf r24 13 5 ((r24 13 5) + a2)))))))))))
def k_M_write (σ : zSt) (a1 : Int32) (a2 : Int32) : Prop := (∀ r1, r1 = (f_M_isIn σ a1 0 255) → ((r1 = 0 → (∀ r4 u5, (r4, u5) = (f_M_isFine σ 1) → (¬ r4 = 0 → (kl_M_write_53 a1 a2 (((a2).toInt - (0 : Int32).toInt).toNat + 2) u5 0)))) ∧ (¬ r1 = 0 → (∀ r11, r11 = (f_M_isIn σ a2 1 100) → ((r11 = 0 → (∀ r25 u26, (r25, u26) = (f_M_isFine σ 1) → (¬ r25 = 0 → (kl_M_write_53 a1 a2 (((a2).toInt - (0 : Int32).toInt).toNat + 2) u26 0)))) ∧ (¬ r11 = 0 → ((((σ 13 5) + a2) ≤ 600 → (∀ r15 u16, (r15, u16) = (f_M_isFine σ 0) → (¬ r15 = 0 → (kl_M_write_53 a1 a2 (((a2).toInt - (0 : Int32).toInt).toNat + 2) u16 0)))) ∧ (¬ ((σ 13 5) + a2) ≤ 600 → (∀ r20 u21, (r20, u21) = (f_M_isFine σ 2) → (¬ r20 = 0 → (kl_M_write_53 a1 a2 (((a2).toInt - (0 : Int32).toInt).toNat + 2) u21 0)))))))))))
def f_M_room (σ : zSt) : Int32 := (((σ 13 29) + 32) - (σ 13 28))
def l_M_leaves_12 (x1 : Int32) : Nat → zSt → Int32 → zSt
  | 0, σ, _ => σ
  | m + 1, σ, x2 => (if (σ 13 38) ≤ x2 then σ else (l_M_leaves_12 x1 m (zuf (zuf (zuf σ 20 x2.toNatClampNeg (σ 20 ((x2 + 1) : Int32).toNatClampNeg)) 21 x2.toNatClampNeg (σ 21 ((x2 + 1) : Int32).toNatClampNeg)) 22 x2.toNatClampNeg (σ 22 ((x2 + 1) : Int32).toNatClampNeg)) (x2 + 1)))
def kl_M_leaves_12 (x1 : Int32) : Nat → zSt → Int32 → Prop
  | 0, _, _ => False
  | m + 1, σ, x2 => (¬ (σ 13 38) ≤ x2 → (vp_in (x2 + 1) 40 ∧ (vp_in x2 40 ∧ (vp_in (x2 + 1) 40 ∧ (vp_in x2 40 ∧ (vp_in (x2 + 1) 40 ∧ (vp_in x2 40 ∧ (kl_M_leaves_12 x1 m (zuf (zuf (zuf σ 20 x2.toNatClampNeg (σ 20 ((x2 + 1) : Int32).toNatClampNeg)) 21 x2.toNatClampNeg (σ 21 ((x2 + 1) : Int32).toNatClampNeg)) 22 x2.toNatClampNeg (σ 22 ((x2 + 1) : Int32).toNatClampNeg)) (x2 + 1)))))))))
def l_M_leaves_72 : Nat → zSt → Int32 → zSt
  | 0, σ, _ => σ
  | m + 1, σ, x2 => (if (3 * (σ 13 38)) ≤ x2 then σ else (l_M_leaves_72 m (zuf (zuf σ 23 x2.toNatClampNeg (σ 23 ((x2 + 3) : Int32).toNatClampNeg)) 24 x2.toNatClampNeg (σ 24 ((x2 + 3) : Int32).toNatClampNeg)) (x2 + 1)))
def kl_M_leaves_72 : Nat → zSt → Int32 → Prop
  | 0, _, _ => False
  | m + 1, σ, x2 => (¬ (3 * (σ 13 38)) ≤ x2 → (vp_in (x2 + 3) 120 ∧ (vp_in x2 120 ∧ (vp_in (x2 + 3) 120 ∧ (vp_in x2 120 ∧ (kl_M_leaves_72 m (zuf (zuf σ 23 x2.toNatClampNeg (σ 23 ((x2 + 3) : Int32).toNatClampNeg)) 24 x2.toNatClampNeg (σ 24 ((x2 + 3) : Int32).toNatClampNeg)) (x2 + 1)))))))
def f_M_leaves (σ : zSt) (a1 : Int32) : zSt := zlet (l_M_leaves_12 a1 (((((zuf σ 13 38 ((σ 13 38) - 1)) 13 38)).toInt - (a1).toInt).toNat + 2) (zuf σ 13 38 ((σ 13 38) - 1)) a1) (fun r8 => zlet (l_M_leaves_72 ((((3 * (r8 13 38))).toInt - ((3 * a1)).toInt).toNat + 2) r8 (3 * a1)) (fun r14 => r14))
def k_M_leaves (σ : zSt) (a1 : Int32) : Prop := ((kl_M_leaves_12 a1 (((((zuf σ 13 38 ((σ 13 38) - 1)) 13 38)).toInt - (a1).toInt).toNat + 2) (zuf σ 13 38 ((σ 13 38) - 1)) a1) ∧ (∀ r8, r8 = (l_M_leaves_12 a1 (((((zuf σ 13 38 ((σ 13 38) - 1)) 13 38)).toInt - (a1).toInt).toNat + 2) (zuf σ 13 38 ((σ 13 38) - 1)) a1) → (kl_M_leaves_72 ((((3 * (r8 13 38))).toInt - ((3 * a1)).toInt).toNat + 2) r8 (3 * a1))))
def f_M_isStart (σ : zSt) (a1 : Int32) : Int32 := (if a1 ≤ (σ 13 28) then 0 else (if (σ 16 a1.toNatClampNeg) = 0 then 0 else (if (σ 16 ((a1 - 1) : Int32).toNatClampNeg) = 0 then 1 else 0)))
def k_M_isStart (σ : zSt) (a1 : Int32) : Prop := (¬ a1 ≤ (σ 13 28) → (vp_in a1 600 ∧ (¬ (σ 16 a1.toNatClampNeg) = 0 → (vp_in (a1 - 1) 600))))
def l_M_latest_4 (σ : zSt) : Nat → Int32 → Int32 → Int32
  | 0, _, _ => 0
  | m + 1, x2, x3 => (if 600 ≤ x3 then x2 else (if (σ 16 x3.toNatClampNeg) = 0 then x2 else zlet (f_M_greater σ x2 (σ 17 x3.toNatClampNeg)) (fun r5 => (l_M_latest_4 σ m r5 (x3 + 1)))))
def kl_M_latest_4 (σ : zSt) : Nat → Int32 → Int32 → Prop
  | 0, _, _ => False
  | m + 1, x2, x3 => (¬ 600 ≤ x3 → (vp_in x3 600 ∧ (¬ (σ 16 x3.toNatClampNeg) = 0 → (vp_in x3 600 ∧ (∀ r5, r5 = (f_M_greater σ x2 (σ 17 x3.toNatClampNeg)) → (kl_M_latest_4 σ m r5 (x3 + 1)))))))
def f_M_latest (σ : zSt) (a1 : Int32) : Int32 := zlet (l_M_latest_4 σ (((600 : Int32).toInt - (a1).toInt).toNat + 2) 0 a1) (fun r7 => r7)
def k_M_latest (σ : zSt) (a1 : Int32) : Prop := (kl_M_latest_4 σ (((600 : Int32).toInt - (a1).toInt).toNat + 2) 0 a1)
def l_M_runEnd_2 (σ : zSt) : Nat → Int32 → Int32
  | 0, _ => 0
  | m + 1, x2 => (if 600 ≤ x2 then x2 else (if (σ 16 x2.toNatClampNeg) = 0 then x2 else (l_M_runEnd_2 σ m (x2 + 1))))
def kl_M_runEnd_2 (σ : zSt) : Nat → Int32 → Prop
  | 0, _ => False
  | m + 1, x2 => (¬ 600 ≤ x2 → (vp_in x2 600 ∧ (¬ (σ 16 x2.toNatClampNeg) = 0 → (kl_M_runEnd_2 σ m (x2 + 1)))))
def f_M_runEnd (σ : zSt) (a1 : Int32) : Int32 := zlet (l_M_runEnd_2 σ (((600 : Int32).toInt - (a1).toInt).toNat + 2) a1) (fun r4 => r4)
def k_M_runEnd (σ : zSt) (a1 : Int32) : Prop := (kl_M_runEnd_2 σ (((600 : Int32).toInt - (a1).toInt).toNat + 2) a1)
def l_M_answers_74 (σ : zSt) (x1 x2 : Int32) : Nat → Int32 → Int32 → Int32
  | 0, _, _ => 0
  | m + 1, x3, x4 => (if 600 ≤ x4 then x3 else zlet (f_M_isStart σ x4) (fun r9 => (if r9 = 0 then (l_M_answers_74 σ x1 x2 m x3 (x4 + 1)) else zlet (f_M_latest σ x4) (fun r13 => (if x1 ≤ r13 then (l_M_answers_74 σ x1 x2 m x3 (x4 + 1)) else (if x3 = (-1) then (l_M_answers_74 σ x1 x2 m x4 (x4 + 1)) else zlet (f_M_latest σ x4) (fun r19 => zlet (f_M_latest σ x3) (fun r21 => (if r19 ≤ r21 then (l_M_answers_74 σ x1 x2 m x3 (x4 + 1)) else (l_M_answers_74 σ x1 x2 m x4 (x4 + 1)))))))))))
def kl_M_answers_74 (σ : zSt) (x1 x2 : Int32) : Nat → Int32 → Int32 → Prop
  | 0, _, _ => False
  | m + 1, x3, x4 => (¬ 600 ≤ x4 → ((k_M_isStart σ x4) ∧ (∀ r9, r9 = (f_M_isStart σ x4) → ((r9 = 0 → (kl_M_answers_74 σ x1 x2 m x3 (x4 + 1))) ∧ (¬ r9 = 0 → ((k_M_latest σ x4) ∧ (∀ r13, r13 = (f_M_latest σ x4) → ((x1 ≤ r13 → (kl_M_answers_74 σ x1 x2 m x3 (x4 + 1))) ∧ (¬ x1 ≤ r13 → ((x3 = (-1) → (kl_M_answers_74 σ x1 x2 m x4 (x4 + 1))) ∧ (¬ x3 = (-1) → ((k_M_latest σ x4) ∧ (∀ r19, r19 = (f_M_latest σ x4) → ((k_M_latest σ x3) ∧ (∀ r21, r21 = (f_M_latest σ x3) → ((r19 ≤ r21 → (kl_M_answers_74 σ x1 x2 m x3 (x4 + 1))) ∧ (¬ r19 ≤ r21 → (kl_M_answers_74 σ x1 x2 m x4 (x4 + 1)))))))))))))))))))
def l_M_answers_59 : Nat → zSt → Int32 → Int32 → zSt
  | 0, σ, _, _ => σ
  | m + 1, σ, x1, x2 => (if 3 ≤ x2 then σ else zlet (l_M_answers_74 σ x1 x2 (((600 : Int32).toInt - (((σ 13 28) + 1)).toInt).toNat + 2) (-1) ((σ 13 28) + 1)) (fun r26 => (if r26 = (-1) then (l_M_answers_59 m σ x1 (x2 + 1)) else zlet (f_M_runEnd (zuf σ 23 (((3 * (σ 13 38)) + x2) : Int32).toNatClampNeg r26) r26) (fun r29 => zlet (f_M_latest (zuf (zuf (zuf σ 23 (((3 * (σ 13 38)) + x2) : Int32).toNatClampNeg r26) 24 (((3 * (σ 13 38)) + x2) : Int32).toNatClampNeg r29) 22 ((σ 13 38) : Int32).toNatClampNeg ((σ 22 ((σ 13 38) : Int32).toNatClampNeg) + 1)) r26) (fun r34 => (l_M_answers_59 m (zuf (zuf (zuf σ 23 (((3 * (σ 13 38)) + x2) : Int32).toNatClampNeg r26) 24 (((3 * (σ 13 38)) + x2) : Int32).toNatClampNeg r29) 22 ((σ 13 38) : Int32).toNatClampNeg ((σ 22 ((σ 13 38) : Int32).toNatClampNeg) + 1)) r34 (x2 + 1)))))))
def kl_M_answers_59 : Nat → zSt → Int32 → Int32 → Prop
  | 0, _, _, _ => False
  | m + 1, σ, x1, x2 => (¬ 3 ≤ x2 → ((kl_M_answers_74 σ x1 x2 (((600 : Int32).toInt - (((σ 13 28) + 1)).toInt).toNat + 2) (-1) ((σ 13 28) + 1)) ∧ (∀ r26, r26 = (l_M_answers_74 σ x1 x2 (((600 : Int32).toInt - (((σ 13 28) + 1)).toInt).toNat + 2) (-1) ((σ 13 28) + 1)) → ((r26 = (-1) → (kl_M_answers_59 m σ x1 (x2 + 1))) ∧ (¬ r26 = (-1) → (vp_in ((3 * (σ 13 38)) + x2) 120 ∧ ((k_M_runEnd (zuf σ 23 (((3 * (σ 13 38)) + x2) : Int32).toNatClampNeg r26) r26) ∧ (∀ r29, r29 = (f_M_runEnd (zuf σ 23 (((3 * (σ 13 38)) + x2) : Int32).toNatClampNeg r26) r26) → (vp_in ((3 * (σ 13 38)) + x2) 120 ∧ (vp_in (σ 13 38) 40 ∧ (vp_in (σ 13 38) 40 ∧ ((k_M_latest (zuf (zuf (zuf σ 23 (((3 * (σ 13 38)) + x2) : Int32).toNatClampNeg r26) 24 (((3 * (σ 13 38)) + x2) : Int32).toNatClampNeg r29) 22 ((σ 13 38) : Int32).toNatClampNeg ((σ 22 ((σ 13 38) : Int32).toNatClampNeg) + 1)) r26) ∧ (∀ r34, r34 = (f_M_latest (zuf (zuf (zuf σ 23 (((3 * (σ 13 38)) + x2) : Int32).toNatClampNeg r26) 24 (((3 * (σ 13 38)) + x2) : Int32).toNatClampNeg r29) 22 ((σ 13 38) : Int32).toNatClampNeg ((σ 22 ((σ 13 38) : Int32).toNatClampNeg) + 1)) r26) → (kl_M_answers_59 m (zuf (zuf (zuf σ 23 (((3 * (σ 13 38)) + x2) : Int32).toNatClampNeg r26) 24 (((3 * (σ 13 38)) + x2) : Int32).toNatClampNeg r29) 22 ((σ 13 38) : Int32).toNatClampNeg ((σ 22 ((σ 13 38) : Int32).toNatClampNeg) + 1)) r34 (x2 + 1)))))))))))))))
def f_M_answers (σ : zSt) : zSt := (if (σ 13 38) = 40 then zlet (f_M_leaves σ 0) (fun u37 => zlet (f_M_room (zuf u37 20 ((u37 13 38) : Int32).toNatClampNeg (u37 13 28))) (fun r40 => zlet (l_M_answers_59 (((3 : Int32).toInt - (0 : Int32).toInt).toNat + 2) (zuf (zuf (zuf u37 20 ((u37 13 38) : Int32).toNatClampNeg (u37 13 28)) 21 ((u37 13 38) : Int32).toNatClampNeg r40) 22 ((u37 13 38) : Int32).toNatClampNeg 0) ((u37 13 27) + 1) 0) (fun r44 => (zuf r44 13 38 ((r44 13 38) + 1))))) else zlet (f_M_room (zuf σ 20 ((σ 13 38) : Int32).toNatClampNeg (σ 13 28))) (fun r3 => zlet (l_M_answers_59 (((3 : Int32).toInt - (0 : Int32).toInt).toNat + 2) (zuf (zuf (zuf σ 20 ((σ 13 38) : Int32).toNatClampNeg (σ 13 28)) 21 ((σ 13 38) : Int32).toNatClampNeg r3) 22 ((σ 13 38) : Int32).toNatClampNeg 0) ((σ 13 27) + 1) 0) (fun r36 => (zuf r36 13 38 ((r36 13 38) + 1)))))
def k_M_answers (σ : zSt) : Prop := (((σ 13 38) = 40 → ((k_M_leaves σ 0) ∧ (∀ u37, u37 = (f_M_leaves σ 0) → (vp_in (u37 13 38) 40 ∧ (∀ r40, r40 = (f_M_room (zuf u37 20 ((u37 13 38) : Int32).toNatClampNeg (u37 13 28))) → (vp_in (u37 13 38) 40 ∧ (vp_in (u37 13 38) 40 ∧ (kl_M_answers_59 (((3 : Int32).toInt - (0 : Int32).toInt).toNat + 2) (zuf (zuf (zuf u37 20 ((u37 13 38) : Int32).toNatClampNeg (u37 13 28)) 21 ((u37 13 38) : Int32).toNatClampNeg r40) 22 ((u37 13 38) : Int32).toNatClampNeg 0) ((u37 13 27) + 1) 0)))))))) ∧ (¬ (σ 13 38) = 40 → (vp_in (σ 13 38) 40 ∧ (∀ r3, r3 = (f_M_room (zuf σ 20 ((σ 13 38) : Int32).toNatClampNeg (σ 13 28))) → (vp_in (σ 13 38) 40 ∧ (vp_in (σ 13 38) 40 ∧ (kl_M_answers_59 (((3 : Int32).toInt - (0 : Int32).toInt).toNat + 2) (zuf (zuf (zuf σ 20 ((σ 13 38) : Int32).toNatClampNeg (σ 13 28)) 21 ((σ 13 38) : Int32).toNatClampNeg r3) 22 ((σ 13 38) : Int32).toNatClampNeg 0) ((σ 13 27) + 1) 0)))))))
def f_M_read (σ : zSt) : Int32 × zSt := (if (σ 13 29) = (σ 13 28) then ((-1), (zuf σ 13 0 0)) else zlet (f_M_room (zuf (zuf σ 13 0 0) 13 29 ((σ 13 29) + 1))) (fun r2 => (if r2 = 4 then zlet (f_M_answers (zuf (zuf σ 13 0 0) 13 29 ((σ 13 29) + 1))) (fun u6 => ((u6 14 (((u6 13 29) - 1) : Int32).toNatClampNeg), u6)) else ((σ 14 ((((σ 13 29) + 1) - 1) : Int32).toNatClampNeg), (zuf (zuf σ 13 0 0) 13 29 ((σ 13 29) + 1))))))
def k_M_read (σ : zSt) : Prop := (¬ (σ 13 29) = (σ 13 28) → (∀ r2, r2 = (f_M_room (zuf (zuf σ 13 0 0) 13 29 ((σ 13 29) + 1))) → ((r2 = 4 → ((k_M_answers (zuf (zuf σ 13 0 0) 13 29 ((σ 13 29) + 1))) ∧ (∀ u6, u6 = (f_M_answers (zuf (zuf σ 13 0 0) 13 29 ((σ 13 29) + 1))) → (vp_in ((u6 13 29) - 1) 600)))) ∧ (¬ r2 = 4 → (vp_in (((σ 13 29) + 1) - 1) 600)))))
def f_M_setLimit (σ : zSt) (a1 : Int32) : Int32 × zSt := zlet (f_M_isIn σ a1 4 256) (fun r1 => (if r1 = 0 then zseq (f_M_isFine σ 1) (fun r4 u5 => (if r4 = 0 then (0, u5) else ((u5 13 9), (zuf u5 13 9 a1)))) else zseq (f_M_isFine σ 0) (fun r8 u9 => (if r8 = 0 then (0, u9) else ((u9 13 9), (zuf u9 13 9 a1))))))
def l_M_flight_7 (σ : zSt) : Nat → Int32 → Int32 → Int32
  | 0, _, _ => 0
  | m + 1, x1, x2 => (if (σ 13 3) ≤ x2 then x1 else (if (σ 15 x2.toNatClampNeg) = 0 then (l_M_flight_7 σ m (x1 + 1) (x2 + 1)) else (l_M_flight_7 σ m (x1 + 0) (x2 + 1))))
def kl_M_flight_7 (σ : zSt) : Nat → Int32 → Int32 → Prop
  | 0, _, _ => False
  | m + 1, x1, x2 => (¬ (σ 13 3) ≤ x2 → (vp_in x2 600 ∧ (((σ 15 x2.toNatClampNeg) = 0 → (kl_M_flight_7 σ m (x1 + 1) (x2 + 1))) ∧ (¬ (σ 15 x2.toNatClampNeg) = 0 → (kl_M_flight_7 σ m (x1 + 0) (x2 + 1))))))
def f_M_flight (σ : zSt) : Int32 := zlet (l_M_flight_7 σ ((((σ 13 3)).toInt - ((σ 13 2)).toInt).toNat + 2) 0 (σ 13 2)) (fun r4 => r4)
def k_M_flight (σ : zSt) : Prop := (kl_M_flight_7 σ ((((σ 13 3)).toInt - ((σ 13 2)).toInt).toNat + 2) 0 (σ 13 2))
def l_M_lastMark_7 (σ : zSt) : Nat → Int32 → Int32
  | 0, _ => 0
  | m + 1, x1 => (if x1 < 0 then x1 else (if (σ 15 x1.toNatClampNeg) = 0 then (l_M_lastMark_7 σ m (x1 + (-1))) else x1))
def kl_M_lastMark_7 (σ : zSt) : Nat → Int32 → Prop
  | 0, _ => False
  | m + 1, x1 => (¬ x1 < 0 → (vp_in x1 600 ∧ ((σ 15 x1.toNatClampNeg) = 0 → (kl_M_lastMark_7 σ m (x1 + (-1))))))
def f_M_lastMark (σ : zSt) : Int32 := zlet (l_M_lastMark_7 σ (((((σ 13 5) - 1)).toInt + 1).toNat + 1) ((σ 13 5) - 1)) (fun r4 => r4)
def k_M_lastMark (σ : zSt) : Prop := (kl_M_lastMark_7 σ (((((σ 13 5) - 1)).toInt + 1).toNat + 1) ((σ 13 5) - 1))
def l_M_markOr_2 (σ : zSt) (x2 : Int32) : Nat → Int32 → Int32
  | 0, _ => 0
  | m + 1, x3 => (if x2 ≤ x3 then x3 else (if (σ 15 x3.toNatClampNeg) = 0 then (l_M_markOr_2 σ x2 m (x3 + 1)) else x3))
def kl_M_markOr_2 (σ : zSt) (x2 : Int32) : Nat → Int32 → Prop
  | 0, _ => False
  | m + 1, x3 => (¬ x2 ≤ x3 → (vp_in x3 600 ∧ ((σ 15 x3.toNatClampNeg) = 0 → (kl_M_markOr_2 σ x2 m (x3 + 1)))))
def f_M_markOr (σ : zSt) (a1 : Int32) (a2 : Int32) : Int32 := zlet (l_M_markOr_2 σ a2 (((a2).toInt - (a1).toInt).toNat + 2) a1) (fun r4 => r4)
def k_M_markOr (σ : zSt) (a1 : Int32) (a2 : Int32) : Prop := (kl_M_markOr_2 σ a2 (((a2).toInt - (a1).toInt).toNat + 2) a1)
def l_M_hole_12 (σ : zSt) : Nat → Int32 → Int32
  | 0, _ => 0
  | m + 1, x1 => (if (σ 13 3) ≤ x1 then x1 else (if (σ 15 x1.toNatClampNeg) = 0 then x1 else (l_M_hole_12 σ m (x1 + 1))))
def kl_M_hole_12 (σ : zSt) : Nat → Int32 → Prop
  | 0, _ => False
  | m + 1, x1 => (¬ (σ 13 3) ≤ x1 → (vp_in x1 600 ∧ (¬ (σ 15 x1.toNatClampNeg) = 0 → (kl_M_hole_12 σ m (x1 + 1)))))
def f_M_hole (σ : zSt) : Int32 := zlet (f_M_greater σ (σ 13 2) (σ 13 12)) (fun r1 => zlet (l_M_hole_12 σ ((((σ 13 3)).toInt - (r1).toInt).toNat + 2) r1) (fun r6 => (if (σ 13 3) ≤ r6 then (-1) else (if r6 = (σ 13 2) then r6 else zlet (f_M_lastMark σ) (fun r9 => (if r9 ≤ r6 then (-1) else r6))))))
def k_M_hole (σ : zSt) : Prop := (∀ r1, r1 = (f_M_greater σ (σ 13 2) (σ 13 12)) → ((kl_M_hole_12 σ ((((σ 13 3)).toInt - (r1).toInt).toNat + 2) r1) ∧ (∀ r6, r6 = (l_M_hole_12 σ ((((σ 13 3)).toInt - (r1).toInt).toNat + 2) r1) → (¬ (σ 13 3) ≤ r6 → (¬ r6 = (σ 13 2) → (k_M_lastMark σ))))))
def f_M_sends (σ : zSt) (a1 : Int32) (a2 : Int32) : Int32 × zSt := (if (σ 13 4) ≤ a1 then (if (σ 13 16) = (-1) then zlet (f_M_greater (zuf (zuf (zuf (zuf (zuf (zuf σ 18 ((σ 13 32) : Int32).toNatClampNeg a1) 19 ((σ 13 32) : Int32).toNatClampNeg a2) 13 32 ((σ 13 32) + 1)) 13 21 ((σ 13 21) + 1)) 13 16 a2) 13 17 (σ 13 1)) (σ 13 4) (σ 13 3)) (fun r8 => (if (σ 13 15) = (-1) then ((a2 - a1), (zuf (zuf (zuf (zuf (zuf (zuf (zuf (zuf σ 18 ((σ 13 32) : Int32).toNatClampNeg a1) 19 ((σ 13 32) : Int32).toNatClampNeg a2) 13 32 ((σ 13 32) + 1)) 13 21 ((σ 13 21) + 1)) 13 16 a2) 13 17 (σ 13 1)) 13 4 r8) 13 15 ((σ 13 1) + (σ 13 14)))) else ((a2 - a1), (zuf (zuf (zuf (zuf (zuf (zuf (zuf σ 18 ((σ 13 32) : Int32).toNatClampNeg a1) 19 ((σ 13 32) : Int32).toNatClampNeg a2) 13 32 ((σ 13 32) + 1)) 13 21 ((σ 13 21) + 1)) 13 16 a2) 13 17 (σ 13 1)) 13 4 r8)))) else zlet (f_M_greater (zuf (zuf (zuf (zuf σ 18 ((σ 13 32) : Int32).toNatClampNeg a1) 19 ((σ 13 32) : Int32).toNatClampNeg a2) 13 32 ((σ 13 32) + 1)) 13 21 ((σ 13 21) + 1)) (σ 13 4) (σ 13 3)) (fun r5 => (if (σ 13 15) = (-1) then ((a2 - a1), (zuf (zuf (zuf (zuf (zuf (zuf σ 18 ((σ 13 32) : Int32).toNatClampNeg a1) 19 ((σ 13 32) : Int32).toNatClampNeg a2) 13 32 ((σ 13 32) + 1)) 13 21 ((σ 13 21) + 1)) 13 4 r5) 13 15 ((σ 13 1) + (σ 13 14)))) else ((a2 - a1), (zuf (zuf (zuf (zuf (zuf σ 18 ((σ 13 32) : Int32).toNatClampNeg a1) 19 ((σ 13 32) : Int32).toNatClampNeg a2) 13 32 ((σ 13 32) + 1)) 13 21 ((σ 13 21) + 1)) 13 4 r5))))) else zlet (f_M_greater (zuf (zuf (zuf (zuf (zuf σ 18 ((σ 13 32) : Int32).toNatClampNeg a1) 19 ((σ 13 32) : Int32).toNatClampNeg a2) 13 32 ((σ 13 32) + 1)) 13 21 ((σ 13 21) + 1)) 13 22 ((σ 13 22) + 1)) (σ 13 4) (σ 13 3)) (fun r11 => (if (σ 13 15) = (-1) then ((a2 - a1), (zuf (zuf (zuf (zuf (zuf (zuf (zuf σ 18 ((σ 13 32) : Int32).toNatClampNeg a1) 19 ((σ 13 32) : Int32).toNatClampNeg a2) 13 32 ((σ 13 32) + 1)) 13 21 ((σ 13 21) + 1)) 13 22 ((σ 13 22) + 1)) 13 4 r11) 13 15 ((σ 13 1) + (σ 13 14)))) else ((a2 - a1), (zuf (zuf (zuf (zuf (zuf (zuf σ 18 ((σ 13 32) : Int32).toNatClampNeg a1) 19 ((σ 13 32) : Int32).toNatClampNeg a2) 13 32 ((σ 13 32) + 1)) 13 21 ((σ 13 21) + 1)) 13 22 ((σ 13 22) + 1)) 13 4 r11)))))
def k_M_sends (σ : zSt) (a1 : Int32) (a2 : Int32) : Prop := (vp_in (σ 13 32) 40 ∧ (vp_in (σ 13 32) 40))
def l_M_send_73 : Nat → zSt → zSt
  | 0, σ => σ
  | m + 1, σ => (if (σ 13 5) ≤ (σ 13 3) then σ else (if (σ 15 ((σ 13 3) : Int32).toNatClampNeg) = 0 then σ else (l_M_send_73 m (zuf σ 13 3 ((σ 13 3) + 1)))))
def kl_M_send_73 : Nat → zSt → Prop
  | 0, _ => False
  | m + 1, σ => (¬ (σ 13 5) ≤ (σ 13 3) → (vp_in (σ 13 3) 600 ∧ (¬ (σ 15 ((σ 13 3) : Int32).toNatClampNeg) = 0 → (kl_M_send_73 m (zuf σ 13 3 ((σ 13 3) + 1))))))
def f_M_send (σ : zSt) : Int32 × zSt := (if (σ 13 32) = 40 then zseq (f_M_isFine σ 1) (fun r103 u104 => (if r103 = 0 then (0, u104) else (if (u104 13 10) = 0 then zlet (l_M_send_73 ((((u104 13 5)).toInt - ((u104 13 3)).toInt).toNat + 2) u104) (fun r109 => (if (r109 13 3) = (r109 13 5) then (0, r109) else zlet (f_M_flight r109) (fun r111 => (if (r109 13 6) ≤ (r109 13 3) then (if r111 = 0 then zseq (f_M_sends (zuf r109 13 3 ((r109 13 3) + 1)) (r109 13 3) ((r109 13 3) + 1)) (fun r116 u117 => (r116, u117)) else (if (r109 13 6) ≤ (r109 13 3) then (0, r109) else zlet (f_M_lesser r109 (r109 13 7) (r109 13 9)) (fun r121 => (if r121 < ((r111 + ((r109 13 3) + 1)) - (r109 13 3)) then (0, r109) else zseq (f_M_sends (zuf r109 13 3 ((r109 13 3) + 1)) (r109 13 3) ((r109 13 3) + 1)) (fun r126 u127 => (r126, u127)))))) else zlet (f_M_lesser r109 (r109 13 5) (r109 13 6)) (fun r129 => zlet (f_M_lesser r109 ((r109 13 3) + 4) r129) (fun r131 => zlet (f_M_markOr r109 (r109 13 3) r131) (fun r133 => (if r111 = 0 then zseq (f_M_sends (zuf r109 13 3 r133) (r109 13 3) r133) (fun r137 u138 => (r137, u138)) else (if (r109 13 6) ≤ (r109 13 3) then (0, r109) else zlet (f_M_lesser r109 (r109 13 7) (r109 13 9)) (fun r142 => (if r142 < ((r111 + r133) - (r109 13 3)) then (0, r109) else zseq (f_M_sends (zuf r109 13 3 r133) (r109 13 3) r133) (fun r147 u148 => (r147, u148))))))))))))) else zlet (f_M_hole u104) (fun r150 => (if r150 = (-1) then zlet (l_M_send_73 ((((u104 13 5)).toInt - ((u104 13 3)).toInt).toNat + 2) u104) (fun r153 => (if (r153 13 3) = (r153 13 5) then (0, r153) else zlet (f_M_flight r153) (fun r155 => (if (r153 13 6) ≤ (r153 13 3) then (if r155 = 0 then zseq (f_M_sends (zuf r153 13 3 ((r153 13 3) + 1)) (r153 13 3) ((r153 13 3) + 1)) (fun r160 u161 => (r160, u161)) else (if (r153 13 6) ≤ (r153 13 3) then (0, r153) else zlet (f_M_lesser r153 (r153 13 7) (r153 13 9)) (fun r165 => (if r165 < ((r155 + ((r153 13 3) + 1)) - (r153 13 3)) then (0, r153) else zseq (f_M_sends (zuf r153 13 3 ((r153 13 3) + 1)) (r153 13 3) ((r153 13 3) + 1)) (fun r170 u171 => (r170, u171)))))) else zlet (f_M_lesser r153 (r153 13 5) (r153 13 6)) (fun r173 => zlet (f_M_lesser r153 ((r153 13 3) + 4) r173) (fun r175 => zlet (f_M_markOr r153 (r153 13 3) r175) (fun r177 => (if r155 = 0 then zseq (f_M_sends (zuf r153 13 3 r177) (r153 13 3) r177) (fun r181 u182 => (r181, u182)) else (if (r153 13 6) ≤ (r153 13 3) then (0, r153) else zlet (f_M_lesser r153 (r153 13 7) (r153 13 9)) (fun r186 => (if r186 < ((r155 + r177) - (r153 13 3)) then (0, r153) else zseq (f_M_sends (zuf r153 13 3 r177) (r153 13 3) r177) (fun r191 u192 => (r191, u192))))))))))))) else zlet (f_M_lesser u104 (r150 + 4) (u104 13 3)) (fun r194 => zlet (f_M_markOr u104 r150 r194) (fun r196 => zseq (f_M_sends (zuf u104 13 12 r196) r150 r196) (fun r198 u199 => (r198, u199))))))))) else zseq (f_M_isFine σ 0) (fun r2 u3 => (if r2 = 0 then (0, u3) else (if (u3 13 10) = 0 then zlet (l_M_send_73 ((((u3 13 5)).toInt - ((u3 13 3)).toInt).toNat + 2) u3) (fun r11 => (if (r11 13 3) = (r11 13 5) then (0, r11) else zlet (f_M_flight r11) (fun r13 => (if (r11 13 6) ≤ (r11 13 3) then (if r13 = 0 then zseq (f_M_sends (zuf r11 13 3 ((r11 13 3) + 1)) (r11 13 3) ((r11 13 3) + 1)) (fun r18 u19 => (r18, u19)) else (if (r11 13 6) ≤ (r11 13 3) then (0, r11) else zlet (f_M_lesser r11 (r11 13 7) (r11 13 9)) (fun r23 => (if r23 < ((r13 + ((r11 13 3) + 1)) - (r11 13 3)) then (0, r11) else zseq (f_M_sends (zuf r11 13 3 ((r11 13 3) + 1)) (r11 13 3) ((r11 13 3) + 1)) (fun r28 u29 => (r28, u29)))))) else zlet (f_M_lesser r11 (r11 13 5) (r11 13 6)) (fun r31 => zlet (f_M_lesser r11 ((r11 13 3) + 4) r31) (fun r33 => zlet (f_M_markOr r11 (r11 13 3) r33) (fun r35 => (if r13 = 0 then zseq (f_M_sends (zuf r11 13 3 r35) (r11 13 3) r35) (fun r39 u40 => (r39, u40)) else (if (r11 13 6) ≤ (r11 13 3) then (0, r11) else zlet (f_M_lesser r11 (r11 13 7) (r11 13 9)) (fun r44 => (if r44 < ((r13 + r35) - (r11 13 3)) then (0, r11) else zseq (f_M_sends (zuf r11 13 3 r35) (r11 13 3) r35) (fun r49 u50 => (r49, u50))))))))))))) else zlet (f_M_hole u3) (fun r52 => (if r52 = (-1) then zlet (l_M_send_73 ((((u3 13 5)).toInt - ((u3 13 3)).toInt).toNat + 2) u3) (fun r55 => (if (r55 13 3) = (r55 13 5) then (0, r55) else zlet (f_M_flight r55) (fun r57 => (if (r55 13 6) ≤ (r55 13 3) then (if r57 = 0 then zseq (f_M_sends (zuf r55 13 3 ((r55 13 3) + 1)) (r55 13 3) ((r55 13 3) + 1)) (fun r62 u63 => (r62, u63)) else (if (r55 13 6) ≤ (r55 13 3) then (0, r55) else zlet (f_M_lesser r55 (r55 13 7) (r55 13 9)) (fun r67 => (if r67 < ((r57 + ((r55 13 3) + 1)) - (r55 13 3)) then (0, r55) else zseq (f_M_sends (zuf r55 13 3 ((r55 13 3) + 1)) (r55 13 3) ((r55 13 3) + 1)) (fun r72 u73 => (r72, u73)))))) else zlet (f_M_lesser r55 (r55 13 5) (r55 13 6)) (fun r75 => zlet (f_M_lesser r55 ((r55 13 3) + 4) r75) (fun r77 => zlet (f_M_markOr r55 (r55 13 3) r77) (fun r79 => (if r57 = 0 then zseq (f_M_sends (zuf r55 13 3 r79) (r55 13 3) r79) (fun r83 u84 => (r83, u84)) else (if (r55 13 6) ≤ (r55 13 3) then (0, r55) else zlet (f_M_lesser r55 (r55 13 7) (r55 13 9)) (fun r88 => (if r88 < ((r57 + r79) - (r55 13 3)) then (0, r55) else zseq (f_M_sends (zuf r55 13 3 r79) (r55 13 3) r79) (fun r93 u94 => (r93, u94))))))))))))) else zlet (f_M_lesser u3 (r52 + 4) (u3 13 3)) (fun r96 => zlet (f_M_markOr u3 r52 r96) (fun r98 => zseq (f_M_sends (zuf u3 13 12 r98) r52 r98) (fun r100 u101 => (r100, u101))))))))))
def k_M_send (σ : zSt) : Prop := (((σ 13 32) = 40 → (∀ r103 u104, (r103, u104) = (f_M_isFine σ 1) → (¬ r103 = 0 → (((u104 13 10) = 0 → ((kl_M_send_73 ((((u104 13 5)).toInt - ((u104 13 3)).toInt).toNat + 2) u104) ∧ (∀ r109, r109 = (l_M_send_73 ((((u104 13 5)).toInt - ((u104 13 3)).toInt).toNat + 2) u104) → (¬ (r109 13 3) = (r109 13 5) → ((k_M_flight r109) ∧ (∀ r111, r111 = (f_M_flight r109) → (((r109 13 6) ≤ (r109 13 3) → ((r111 = 0 → (k_M_sends (zuf r109 13 3 ((r109 13 3) + 1)) (r109 13 3) ((r109 13 3) + 1))) ∧ (¬ r111 = 0 → (¬ (r109 13 6) ≤ (r109 13 3) → (∀ r121, r121 = (f_M_lesser r109 (r109 13 7) (r109 13 9)) → (¬ r121 < ((r111 + ((r109 13 3) + 1)) - (r109 13 3)) → (k_M_sends (zuf r109 13 3 ((r109 13 3) + 1)) (r109 13 3) ((r109 13 3) + 1)))))))) ∧ (¬ (r109 13 6) ≤ (r109 13 3) → (∀ r129, r129 = (f_M_lesser r109 (r109 13 5) (r109 13 6)) → (∀ r131, r131 = (f_M_lesser r109 ((r109 13 3) + 4) r129) → ((k_M_markOr r109 (r109 13 3) r131) ∧ (∀ r133, r133 = (f_M_markOr r109 (r109 13 3) r131) → ((r111 = 0 → (k_M_sends (zuf r109 13 3 r133) (r109 13 3) r133)) ∧ (¬ r111 = 0 → (¬ (r109 13 6) ≤ (r109 13 3) → (∀ r142, r142 = (f_M_lesser r109 (r109 13 7) (r109 13 9)) → (¬ r142 < ((r111 + r133) - (r109 13 3)) → (k_M_sends (zuf r109 13 3 r133) (r109 13 3) r133)))))))))))))))))) ∧ (¬ (u104 13 10) = 0 → ((k_M_hole u104) ∧ (∀ r150, r150 = (f_M_hole u104) → ((r150 = (-1) → ((kl_M_send_73 ((((u104 13 5)).toInt - ((u104 13 3)).toInt).toNat + 2) u104) ∧ (∀ r153, r153 = (l_M_send_73 ((((u104 13 5)).toInt - ((u104 13 3)).toInt).toNat + 2) u104) → (¬ (r153 13 3) = (r153 13 5) → ((k_M_flight r153) ∧ (∀ r155, r155 = (f_M_flight r153) → (((r153 13 6) ≤ (r153 13 3) → ((r155 = 0 → (k_M_sends (zuf r153 13 3 ((r153 13 3) + 1)) (r153 13 3) ((r153 13 3) + 1))) ∧ (¬ r155 = 0 → (¬ (r153 13 6) ≤ (r153 13 3) → (∀ r165, r165 = (f_M_lesser r153 (r153 13 7) (r153 13 9)) → (¬ r165 < ((r155 + ((r153 13 3) + 1)) - (r153 13 3)) → (k_M_sends (zuf r153 13 3 ((r153 13 3) + 1)) (r153 13 3) ((r153 13 3) + 1)))))))) ∧ (¬ (r153 13 6) ≤ (r153 13 3) → (∀ r173, r173 = (f_M_lesser r153 (r153 13 5) (r153 13 6)) → (∀ r175, r175 = (f_M_lesser r153 ((r153 13 3) + 4) r173) → ((k_M_markOr r153 (r153 13 3) r175) ∧ (∀ r177, r177 = (f_M_markOr r153 (r153 13 3) r175) → ((r155 = 0 → (k_M_sends (zuf r153 13 3 r177) (r153 13 3) r177)) ∧ (¬ r155 = 0 → (¬ (r153 13 6) ≤ (r153 13 3) → (∀ r186, r186 = (f_M_lesser r153 (r153 13 7) (r153 13 9)) → (¬ r186 < ((r155 + r177) - (r153 13 3)) → (k_M_sends (zuf r153 13 3 r177) (r153 13 3) r177)))))))))))))))))) ∧ (¬ r150 = (-1) → (∀ r194, r194 = (f_M_lesser u104 (r150 + 4) (u104 13 3)) → ((k_M_markOr u104 r150 r194) ∧ (∀ r196, r196 = (f_M_markOr u104 r150 r194) → (k_M_sends (zuf u104 13 12 r196) r150 r196))))))))))))) ∧ (¬ (σ 13 32) = 40 → (∀ r2 u3, (r2, u3) = (f_M_isFine σ 0) → (¬ r2 = 0 → (((u3 13 10) = 0 → ((kl_M_send_73 ((((u3 13 5)).toInt - ((u3 13 3)).toInt).toNat + 2) u3) ∧ (∀ r11, r11 = (l_M_send_73 ((((u3 13 5)).toInt - ((u3 13 3)).toInt).toNat + 2) u3) → (¬ (r11 13 3) = (r11 13 5) → ((k_M_flight r11) ∧ (∀ r13, r13 = (f_M_flight r11) → (((r11 13 6) ≤ (r11 13 3) → ((r13 = 0 → (k_M_sends (zuf r11 13 3 ((r11 13 3) + 1)) (r11 13 3) ((r11 13 3) + 1))) ∧ (¬ r13 = 0 → (¬ (r11 13 6) ≤ (r11 13 3) → (∀ r23, r23 = (f_M_lesser r11 (r11 13 7) (r11 13 9)) → (¬ r23 < ((r13 + ((r11 13 3) + 1)) - (r11 13 3)) → (k_M_sends (zuf r11 13 3 ((r11 13 3) + 1)) (r11 13 3) ((r11 13 3) + 1)))))))) ∧ (¬ (r11 13 6) ≤ (r11 13 3) → (∀ r31, r31 = (f_M_lesser r11 (r11 13 5) (r11 13 6)) → (∀ r33, r33 = (f_M_lesser r11 ((r11 13 3) + 4) r31) → ((k_M_markOr r11 (r11 13 3) r33) ∧ (∀ r35, r35 = (f_M_markOr r11 (r11 13 3) r33) → ((r13 = 0 → (k_M_sends (zuf r11 13 3 r35) (r11 13 3) r35)) ∧ (¬ r13 = 0 → (¬ (r11 13 6) ≤ (r11 13 3) → (∀ r44, r44 = (f_M_lesser r11 (r11 13 7) (r11 13 9)) → (¬ r44 < ((r13 + r35) - (r11 13 3)) → (k_M_sends (zuf r11 13 3 r35) (r11 13 3) r35)))))))))))))))))) ∧ (¬ (u3 13 10) = 0 → ((k_M_hole u3) ∧ (∀ r52, r52 = (f_M_hole u3) → ((r52 = (-1) → ((kl_M_send_73 ((((u3 13 5)).toInt - ((u3 13 3)).toInt).toNat + 2) u3) ∧ (∀ r55, r55 = (l_M_send_73 ((((u3 13 5)).toInt - ((u3 13 3)).toInt).toNat + 2) u3) → (¬ (r55 13 3) = (r55 13 5) → ((k_M_flight r55) ∧ (∀ r57, r57 = (f_M_flight r55) → (((r55 13 6) ≤ (r55 13 3) → ((r57 = 0 → (k_M_sends (zuf r55 13 3 ((r55 13 3) + 1)) (r55 13 3) ((r55 13 3) + 1))) ∧ (¬ r57 = 0 → (¬ (r55 13 6) ≤ (r55 13 3) → (∀ r67, r67 = (f_M_lesser r55 (r55 13 7) (r55 13 9)) → (¬ r67 < ((r57 + ((r55 13 3) + 1)) - (r55 13 3)) → (k_M_sends (zuf r55 13 3 ((r55 13 3) + 1)) (r55 13 3) ((r55 13 3) + 1)))))))) ∧ (¬ (r55 13 6) ≤ (r55 13 3) → (∀ r75, r75 = (f_M_lesser r55 (r55 13 5) (r55 13 6)) → (∀ r77, r77 = (f_M_lesser r55 ((r55 13 3) + 4) r75) → ((k_M_markOr r55 (r55 13 3) r77) ∧ (∀ r79, r79 = (f_M_markOr r55 (r55 13 3) r77) → ((r57 = 0 → (k_M_sends (zuf r55 13 3 r79) (r55 13 3) r79)) ∧ (¬ r57 = 0 → (¬ (r55 13 6) ≤ (r55 13 3) → (∀ r88, r88 = (f_M_lesser r55 (r55 13 7) (r55 13 9)) → (¬ r88 < ((r57 + r79) - (r55 13 3)) → (k_M_sends (zuf r55 13 3 r79) (r55 13 3) r79)))))))))))))))))) ∧ (¬ r52 = (-1) → (∀ r96, r96 = (f_M_lesser u3 (r52 + 4) (u3 13 3)) → ((k_M_markOr u3 r52 r96) ∧ (∀ r98, r98 = (f_M_markOr u3 r52 r96) → (k_M_sends (zuf u3 13 12 r98) r52 r98))))))))))))))
def l_M_runsOut_37 : Nat → zSt → Int32 → zSt
  | 0, σ, _ => σ
  | m + 1, σ, x1 => (if 600 ≤ x1 then σ else (l_M_runsOut_37 m (zuf σ 15 x1.toNatClampNeg 0) (x1 + 1)))
def kl_M_runsOut_37 : Nat → zSt → Int32 → Prop
  | 0, _, _ => False
  | m + 1, σ, x1 => (¬ 600 ≤ x1 → (vp_in x1 600 ∧ (kl_M_runsOut_37 m (zuf σ 15 x1.toNatClampNeg 0) (x1 + 1))))
def f_M_runsOut (σ : zSt) : zSt := zlet (f_M_flight σ) (fun r1 => zlet (f_M_greater σ (r1 / 2) 8) (fun r3 => zlet (f_M_lesser (zuf (zuf σ 13 8 r3) 13 7 4) (2 * (σ 13 14)) 64) (fun r5 => zlet (l_M_runsOut_37 (((600 : Int32).toInt - (0 : Int32).toInt).toNat + 2) (zuf (zuf (zuf σ 13 8 r3) 13 7 4) 13 14 r5) 0) (fun r9 => (zuf (zuf (zuf (zuf (zuf r9 13 3 (r9 13 2)) 13 10 0) 13 13 0) 13 16 (-1)) 13 15 (-1))))))
def k_M_runsOut (σ : zSt) : Prop := ((k_M_flight σ) ∧ (∀ r1, r1 = (f_M_flight σ) → (∀ r3, r3 = (f_M_greater σ (r1 / 2) 8) → (∀ r5, r5 = (f_M_lesser (zuf (zuf σ 13 8 r3) 13 7 4) (2 * (σ 13 14)) 64) → (kl_M_runsOut_37 (((600 : Int32).toInt - (0 : Int32).toInt).toNat + 2) (zuf (zuf (zuf σ 13 8 r3) 13 7 4) 13 14 r5) 0)))))
def l_M_tick_28 (x1 : Int32) : Nat → zSt → Int32 → Int32 → Int32 × zSt
  | 0, σ, _, _ => (0, σ)
  | m + 1, σ, x2, x3 => (if x1 ≤ x3 then (x2, σ) else (if ((σ 13 1) + 1) = (σ 13 15) then zlet (f_M_runsOut (zuf σ 13 1 ((σ 13 1) + 1))) (fun u10 => (l_M_tick_28 x1 m u10 (x2 + 1) (x3 + 1))) else (l_M_tick_28 x1 m (zuf σ 13 1 ((σ 13 1) + 1)) x2 (x3 + 1))))
def kl_M_tick_28 (x1 : Int32) : Nat → zSt → Int32 → Int32 → Prop
  | 0, _, _, _ => False
  | m + 1, σ, x2, x3 => (¬ x1 ≤ x3 → ((((σ 13 1) + 1) = (σ 13 15) → ((k_M_runsOut (zuf σ 13 1 ((σ 13 1) + 1))) ∧ (∀ u10, u10 = (f_M_runsOut (zuf σ 13 1 ((σ 13 1) + 1))) → (kl_M_tick_28 x1 m u10 (x2 + 1) (x3 + 1))))) ∧ (¬ ((σ 13 1) + 1) = (σ 13 15) → (kl_M_tick_28 x1 m (zuf σ 13 1 ((σ 13 1) + 1)) x2 (x3 + 1)))))
def f_M_tick (σ : zSt) (a1 : Int32) : Int32 × zSt := zlet (f_M_isIn σ a1 1 100) (fun r1 => (if r1 = 0 then zseq (f_M_isFine σ 1) (fun r4 u5 => (if r4 = 0 then (0, u5) else zlet (l_M_tick_28 a1 (((a1).toInt - (0 : Int32).toInt).toNat + 2) u5 0 0) (fun r12 => (r12.1, r12.2)))) else zseq (f_M_isFine σ 0) (fun r13 u14 => (if r13 = 0 then (0, u14) else zlet (l_M_tick_28 a1 (((a1).toInt - (0 : Int32).toInt).toNat + 2) u14 0 0) (fun r17 => (r17.1, r17.2))))))
def k_M_tick (σ : zSt) (a1 : Int32) : Prop := (∀ r1, r1 = (f_M_isIn σ a1 1 100) → ((r1 = 0 → (∀ r4 u5, (r4, u5) = (f_M_isFine σ 1) → (¬ r4 = 0 → (kl_M_tick_28 a1 (((a1).toInt - (0 : Int32).toInt).toNat + 2) u5 0 0)))) ∧ (¬ r1 = 0 → (∀ r13 u14, (r13, u14) = (f_M_isFine σ 0) → (¬ r13 = 0 → (kl_M_tick_28 a1 (((a1).toInt - (0 : Int32).toInt).toNat + 2) u14 0 0))))))
def f_M_samples (σ : zSt) (a1 : Int32) : zSt := (if (σ 13 20) = 0 then zlet (f_M_greater (zuf (zuf (zuf σ 13 18 (8 * a1)) 13 19 (2 * a1)) 13 20 1) (2 * a1) 1) (fun r2 => zlet (f_M_greater (zuf (zuf (zuf σ 13 18 (8 * a1)) 13 19 (2 * a1)) 13 20 1) (((8 * a1) / 8) + r2) 2) (fun r4 => zlet (f_M_lesser (zuf (zuf (zuf σ 13 18 (8 * a1)) 13 19 (2 * a1)) 13 20 1) r4 64) (fun r6 => (zuf (zuf (zuf (zuf σ 13 18 (8 * a1)) 13 19 (2 * a1)) 13 20 1) 13 14 r6)))) else (if 0 ≤ (a1 - ((σ 13 18) / 8)) then zlet (f_M_greater (zuf (zuf σ 13 18 ((σ 13 18) + (a1 - ((σ 13 18) / 8)))) 13 19 ((σ 13 19) + ((a1 - ((σ 13 18) / 8)) - ((σ 13 19) / 4)))) ((σ 13 19) + ((a1 - ((σ 13 18) / 8)) - ((σ 13 19) / 4))) 1) (fun r9 => zlet (f_M_greater (zuf (zuf σ 13 18 ((σ 13 18) + (a1 - ((σ 13 18) / 8)))) 13 19 ((σ 13 19) + ((a1 - ((σ 13 18) / 8)) - ((σ 13 19) / 4)))) ((((σ 13 18) + (a1 - ((σ 13 18) / 8))) / 8) + r9) 2) (fun r11 => zlet (f_M_lesser (zuf (zuf σ 13 18 ((σ 13 18) + (a1 - ((σ 13 18) / 8)))) 13 19 ((σ 13 19) + ((a1 - ((σ 13 18) / 8)) - ((σ 13 19) / 4)))) r11 64) (fun r13 => (zuf (zuf (zuf σ 13 18 ((σ 13 18) + (a1 - ((σ 13 18) / 8)))) 13 19 ((σ 13 19) + ((a1 - ((σ 13 18) / 8)) - ((σ 13 19) / 4)))) 13 14 r13)))) else zlet (f_M_greater (zuf (zuf σ 13 18 ((σ 13 18) + (a1 - ((σ 13 18) / 8)))) 13 19 ((σ 13 19) + ((0 - (a1 - ((σ 13 18) / 8))) - ((σ 13 19) / 4)))) ((σ 13 19) + ((0 - (a1 - ((σ 13 18) / 8))) - ((σ 13 19) / 4))) 1) (fun r15 => zlet (f_M_greater (zuf (zuf σ 13 18 ((σ 13 18) + (a1 - ((σ 13 18) / 8)))) 13 19 ((σ 13 19) + ((0 - (a1 - ((σ 13 18) / 8))) - ((σ 13 19) / 4)))) ((((σ 13 18) + (a1 - ((σ 13 18) / 8))) / 8) + r15) 2) (fun r17 => zlet (f_M_lesser (zuf (zuf σ 13 18 ((σ 13 18) + (a1 - ((σ 13 18) / 8)))) 13 19 ((σ 13 19) + ((0 - (a1 - ((σ 13 18) / 8))) - ((σ 13 19) / 4)))) r17 64) (fun r19 => (zuf (zuf (zuf σ 13 18 ((σ 13 18) + (a1 - ((σ 13 18) / 8)))) 13 19 ((σ 13 19) + ((0 - (a1 - ((σ 13 18) / 8))) - ((σ 13 19) / 4)))) 13 14 r19))))))
def l_M_advances_56 : Nat → zSt → Int32 → zSt
  | 0, σ, _ => σ
  | m + 1, σ, x2 => (if (σ 13 2) ≤ x2 then σ else (l_M_advances_56 m (zuf σ 15 x2.toNatClampNeg 0) (x2 + 1)))
def kl_M_advances_56 : Nat → zSt → Int32 → Prop
  | 0, _, _ => False
  | m + 1, σ, x2 => (¬ (σ 13 2) ≤ x2 → (vp_in x2 600 ∧ (kl_M_advances_56 m (zuf σ 15 x2.toNatClampNeg 0) (x2 + 1))))
def f_M_advances (σ : zSt) (a1 : Int32) : zSt := (if (σ 13 16) = (-1) then zlet (f_M_greater (zuf σ 13 2 a1) (σ 13 3) a1) (fun r2 => zlet (l_M_advances_56 (((((zuf (zuf σ 13 2 a1) 13 3 r2) 13 2)).toInt - (0 : Int32).toInt).toNat + 2) (zuf (zuf σ 13 2 a1) 13 3 r2) 0) (fun r6 => (if (r6 13 10) = 0 then (if (r6 13 8) ≤ (r6 13 7) then zlet (f_M_greater (zuf r6 13 13 0) (16 / (r6 13 7)) 1) (fun r13 => zlet (f_M_lesser (zuf r6 13 13 0) ((r6 13 7) + r13) 256) (fun r15 => (if (r6 13 2) = (r6 13 3) then (zuf (zuf (zuf r6 13 13 0) 13 7 r15) 13 15 (-1)) else (zuf (zuf (zuf r6 13 13 0) 13 7 r15) 13 15 ((r6 13 1) + (r6 13 14)))))) else zlet (f_M_lesser (zuf r6 13 13 0) ((r6 13 7) + 4) 256) (fun r18 => (if (r6 13 2) = (r6 13 3) then (zuf (zuf (zuf r6 13 13 0) 13 7 r18) 13 15 (-1)) else (zuf (zuf (zuf r6 13 13 0) 13 7 r18) 13 15 ((r6 13 1) + (r6 13 14)))))) else (if (r6 13 2) < (r6 13 11) then (if (r6 13 2) = (r6 13 3) then (zuf (zuf r6 13 13 0) 13 15 (-1)) else (zuf (zuf r6 13 13 0) 13 15 ((r6 13 1) + (r6 13 14)))) else (if (r6 13 2) = (r6 13 3) then (zuf (zuf (zuf (zuf r6 13 13 0) 13 10 0) 13 7 (r6 13 8)) 13 15 (-1)) else (zuf (zuf (zuf (zuf r6 13 13 0) 13 10 0) 13 7 (r6 13 8)) 13 15 ((r6 13 1) + (r6 13 14)))))))) else (if a1 < (σ 13 16) then zlet (f_M_greater (zuf σ 13 2 a1) (σ 13 3) a1) (fun r22 => zlet (l_M_advances_56 (((((zuf (zuf σ 13 2 a1) 13 3 r22) 13 2)).toInt - (0 : Int32).toInt).toNat + 2) (zuf (zuf σ 13 2 a1) 13 3 r22) 0) (fun r24 => (if (r24 13 10) = 0 then (if (r24 13 8) ≤ (r24 13 7) then zlet (f_M_greater (zuf r24 13 13 0) (16 / (r24 13 7)) 1) (fun r31 => zlet (f_M_lesser (zuf r24 13 13 0) ((r24 13 7) + r31) 256) (fun r33 => (if (r24 13 2) = (r24 13 3) then (zuf (zuf (zuf r24 13 13 0) 13 7 r33) 13 15 (-1)) else (zuf (zuf (zuf r24 13 13 0) 13 7 r33) 13 15 ((r24 13 1) + (r24 13 14)))))) else zlet (f_M_lesser (zuf r24 13 13 0) ((r24 13 7) + 4) 256) (fun r36 => (if (r24 13 2) = (r24 13 3) then (zuf (zuf (zuf r24 13 13 0) 13 7 r36) 13 15 (-1)) else (zuf (zuf (zuf r24 13 13 0) 13 7 r36) 13 15 ((r24 13 1) + (r24 13 14)))))) else (if (r24 13 2) < (r24 13 11) then (if (r24 13 2) = (r24 13 3) then (zuf (zuf r24 13 13 0) 13 15 (-1)) else (zuf (zuf r24 13 13 0) 13 15 ((r24 13 1) + (r24 13 14)))) else (if (r24 13 2) = (r24 13 3) then (zuf (zuf (zuf (zuf r24 13 13 0) 13 10 0) 13 7 (r24 13 8)) 13 15 (-1)) else (zuf (zuf (zuf (zuf r24 13 13 0) 13 10 0) 13 7 (r24 13 8)) 13 15 ((r24 13 1) + (r24 13 14)))))))) else zlet (f_M_samples σ ((σ 13 1) - (σ 13 17))) (fun u39 => zlet (f_M_greater (zuf (zuf u39 13 16 (-1)) 13 2 a1) (u39 13 3) a1) (fun r41 => zlet (l_M_advances_56 (((((zuf (zuf (zuf u39 13 16 (-1)) 13 2 a1) 13 3 r41) 13 2)).toInt - (0 : Int32).toInt).toNat + 2) (zuf (zuf (zuf u39 13 16 (-1)) 13 2 a1) 13 3 r41) 0) (fun r43 => (if (r43 13 10) = 0 then (if (r43 13 8) ≤ (r43 13 7) then zlet (f_M_greater (zuf r43 13 13 0) (16 / (r43 13 7)) 1) (fun r50 => zlet (f_M_lesser (zuf r43 13 13 0) ((r43 13 7) + r50) 256) (fun r52 => (if (r43 13 2) = (r43 13 3) then (zuf (zuf (zuf r43 13 13 0) 13 7 r52) 13 15 (-1)) else (zuf (zuf (zuf r43 13 13 0) 13 7 r52) 13 15 ((r43 13 1) + (r43 13 14)))))) else zlet (f_M_lesser (zuf r43 13 13 0) ((r43 13 7) + 4) 256) (fun r55 => (if (r43 13 2) = (r43 13 3) then (zuf (zuf (zuf r43 13 13 0) 13 7 r55) 13 15 (-1)) else (zuf (zuf (zuf r43 13 13 0) 13 7 r55) 13 15 ((r43 13 1) + (r43 13 14)))))) else (if (r43 13 2) < (r43 13 11) then (if (r43 13 2) = (r43 13 3) then (zuf (zuf r43 13 13 0) 13 15 (-1)) else (zuf (zuf r43 13 13 0) 13 15 ((r43 13 1) + (r43 13 14)))) else (if (r43 13 2) = (r43 13 3) then (zuf (zuf (zuf (zuf r43 13 13 0) 13 10 0) 13 7 (r43 13 8)) 13 15 (-1)) else (zuf (zuf (zuf (zuf r43 13 13 0) 13 10 0) 13 7 (r43 13 8)) 13 15 ((r43 13 1) + (r43 13 14)))))))))))
def k_M_advances (σ : zSt) (a1 : Int32) : Prop := (((σ 13 16) = (-1) → (∀ r2, r2 = (f_M_greater (zuf σ 13 2 a1) (σ 13 3) a1) → ((kl_M_advances_56 (((((zuf (zuf σ 13 2 a1) 13 3 r2) 13 2)).toInt - (0 : Int32).toInt).toNat + 2) (zuf (zuf σ 13 2 a1) 13 3 r2) 0) ∧ (∀ r6, r6 = (l_M_advances_56 (((((zuf (zuf σ 13 2 a1) 13 3 r2) 13 2)).toInt - (0 : Int32).toInt).toNat + 2) (zuf (zuf σ 13 2 a1) 13 3 r2) 0) → ((r6 13 10) = 0 → ((r6 13 8) ≤ (r6 13 7) → (¬ (r6 13 7) = 0))))))) ∧ (¬ (σ 13 16) = (-1) → ((a1 < (σ 13 16) → (∀ r22, r22 = (f_M_greater (zuf σ 13 2 a1) (σ 13 3) a1) → ((kl_M_advances_56 (((((zuf (zuf σ 13 2 a1) 13 3 r22) 13 2)).toInt - (0 : Int32).toInt).toNat + 2) (zuf (zuf σ 13 2 a1) 13 3 r22) 0) ∧ (∀ r24, r24 = (l_M_advances_56 (((((zuf (zuf σ 13 2 a1) 13 3 r22) 13 2)).toInt - (0 : Int32).toInt).toNat + 2) (zuf (zuf σ 13 2 a1) 13 3 r22) 0) → ((r24 13 10) = 0 → ((r24 13 8) ≤ (r24 13 7) → (¬ (r24 13 7) = 0))))))) ∧ (¬ a1 < (σ 13 16) → (∀ u39, u39 = (f_M_samples σ ((σ 13 1) - (σ 13 17))) → (∀ r41, r41 = (f_M_greater (zuf (zuf u39 13 16 (-1)) 13 2 a1) (u39 13 3) a1) → ((kl_M_advances_56 (((((zuf (zuf (zuf u39 13 16 (-1)) 13 2 a1) 13 3 r41) 13 2)).toInt - (0 : Int32).toInt).toNat + 2) (zuf (zuf (zuf u39 13 16 (-1)) 13 2 a1) 13 3 r41) 0) ∧ (∀ r43, r43 = (l_M_advances_56 (((((zuf (zuf (zuf u39 13 16 (-1)) 13 2 a1) 13 3 r41) 13 2)).toInt - (0 : Int32).toInt).toNat + 2) (zuf (zuf (zuf u39 13 16 (-1)) 13 2 a1) 13 3 r41) 0) → ((r43 13 10) = 0 → ((r43 13 8) ≤ (r43 13 7) → (¬ (r43 13 7) = 0)))))))))))
def f_M_recovers (σ : zSt) : zSt := zlet (f_M_flight (zuf σ 13 10 1)) (fun r1 => zlet (f_M_greater (zuf σ 13 10 1) (r1 / 2) 8) (fun r3 => (zuf (zuf (zuf (zuf (zuf (zuf σ 13 10 1) 13 8 r3) 13 7 r3) 13 11 (σ 13 3)) 13 12 (σ 13 2)) 13 16 (-1))))
def k_M_recovers (σ : zSt) : Prop := (k_M_flight (zuf σ 13 10 1))
def l_M_arrives_123 (x1 x2 x3 x4 : Int32) : Nat → zSt → Int32 → zSt
  | 0, σ, _ => σ
  | m + 1, σ, x5 => (if (σ 24 x4.toNatClampNeg) ≤ x5 then σ else (l_M_arrives_123 x1 x2 x3 x4 m (zuf σ 15 x5.toNatClampNeg 1) (x5 + 1)))
def kl_M_arrives_123 (x1 x2 x3 x4 : Int32) : Nat → zSt → Int32 → Prop
  | 0, _, _ => False
  | m + 1, σ, x5 => (vp_in x4 120 ∧ (¬ (σ 24 x4.toNatClampNeg) ≤ x5 → (vp_in x5 600 ∧ (kl_M_arrives_123 x1 x2 x3 x4 m (zuf σ 15 x5.toNatClampNeg 1) (x5 + 1)))))
def l_M_arrives_92 (x1 x2 x3 : Int32) : Nat → zSt → Int32 → zSt
  | 0, σ, _ => σ
  | m + 1, σ, x4 => (if ((3 * x1) + (σ 22 x1.toNatClampNeg)) ≤ x4 then σ else zlet (f_M_greater σ (σ 13 2) (σ 23 x4.toNatClampNeg)) (fun r11 => zlet (l_M_arrives_123 x1 x2 x3 x4 ((((σ 24 x4.toNatClampNeg)).toInt - (r11).toInt).toNat + 2) σ r11) (fun r16 => (l_M_arrives_92 x1 x2 x3 m r16 (x4 + 1)))))
def kl_M_arrives_92 (x1 x2 x3 : Int32) : Nat → zSt → Int32 → Prop
  | 0, _, _ => False
  | m + 1, σ, x4 => (vp_in x1 40 ∧ (¬ ((3 * x1) + (σ 22 x1.toNatClampNeg)) ≤ x4 → (vp_in x4 120 ∧ (∀ r11, r11 = (f_M_greater σ (σ 13 2) (σ 23 x4.toNatClampNeg)) → ((kl_M_arrives_123 x1 x2 x3 x4 ((((σ 24 x4.toNatClampNeg)).toInt - (r11).toInt).toNat + 2) σ r11) ∧ (∀ r16, r16 = (l_M_arrives_123 x1 x2 x3 x4 ((((σ 24 x4.toNatClampNeg)).toInt - (r11).toInt).toNat + 2) σ r11) → (kl_M_arrives_92 x1 x2 x3 m r16 (x4 + 1))))))))
def f_M_arrives (σ : zSt) (a1 : Int32) : zSt := (if ((σ 20 a1.toNatClampNeg) + (σ 21 a1.toNatClampNeg)) ≤ (σ 13 6) then (if (σ 20 a1.toNatClampNeg) ≤ (σ 13 2) then zlet (l_M_arrives_92 a1 0 0 (((((3 * a1) + ((zuf σ 13 6 (σ 13 6)) 22 a1.toNatClampNeg))).toInt - ((3 * a1)).toInt).toNat + 2) (zuf σ 13 6 (σ 13 6)) (3 * a1)) (fun r17 => (if (r17 13 3) ≤ (r17 13 2) then r17 else (if ((r17 13 13) + 1) = 3 then (if (r17 13 10) = 0 then zlet (f_M_recovers (zuf r17 13 13 ((r17 13 13) + 1))) (fun u23 => u23) else (zuf r17 13 13 ((r17 13 13) + 1))) else (zuf r17 13 13 ((r17 13 13) + 1))))) else zlet (f_M_advances (zuf σ 13 6 (σ 13 6)) (σ 20 a1.toNatClampNeg)) (fun u28 => zlet (l_M_arrives_92 a1 0 1 (((((3 * a1) + (u28 22 a1.toNatClampNeg))).toInt - ((3 * a1)).toInt).toNat + 2) u28 (3 * a1)) (fun r30 => r30))) else (if (σ 20 a1.toNatClampNeg) ≤ (σ 13 2) then zlet (l_M_arrives_92 a1 1 0 (((((3 * a1) + ((zuf σ 13 6 ((σ 20 a1.toNatClampNeg) + (σ 21 a1.toNatClampNeg))) 22 a1.toNatClampNeg))).toInt - ((3 * a1)).toInt).toNat + 2) (zuf σ 13 6 ((σ 20 a1.toNatClampNeg) + (σ 21 a1.toNatClampNeg))) (3 * a1)) (fun r38 => (if (r38 13 3) ≤ (r38 13 2) then r38 else r38)) else zlet (f_M_advances (zuf σ 13 6 ((σ 20 a1.toNatClampNeg) + (σ 21 a1.toNatClampNeg))) (σ 20 a1.toNatClampNeg)) (fun u47 => zlet (l_M_arrives_92 a1 1 1 (((((3 * a1) + (u47 22 a1.toNatClampNeg))).toInt - ((3 * a1)).toInt).toNat + 2) u47 (3 * a1)) (fun r49 => r49))))
def k_M_arrives (σ : zSt) (a1 : Int32) : Prop := (vp_in a1 40 ∧ (vp_in a1 40 ∧ ((((σ 20 a1.toNatClampNeg) + (σ 21 a1.toNatClampNeg)) ≤ (σ 13 6) → (vp_in a1 40 ∧ (((σ 20 a1.toNatClampNeg) ≤ (σ 13 2) → ((kl_M_arrives_92 a1 0 0 (((((3 * a1) + ((zuf σ 13 6 (σ 13 6)) 22 a1.toNatClampNeg))).toInt - ((3 * a1)).toInt).toNat + 2) (zuf σ 13 6 (σ 13 6)) (3 * a1)) ∧ (∀ r17, r17 = (l_M_arrives_92 a1 0 0 (((((3 * a1) + ((zuf σ 13 6 (σ 13 6)) 22 a1.toNatClampNeg))).toInt - ((3 * a1)).toInt).toNat + 2) (zuf σ 13 6 (σ 13 6)) (3 * a1)) → (¬ (r17 13 3) ≤ (r17 13 2) → (((r17 13 13) + 1) = 3 → ((r17 13 10) = 0 → (k_M_recovers (zuf r17 13 13 ((r17 13 13) + 1))))))))) ∧ (¬ (σ 20 a1.toNatClampNeg) ≤ (σ 13 2) → (vp_in a1 40 ∧ ((k_M_advances (zuf σ 13 6 (σ 13 6)) (σ 20 a1.toNatClampNeg)) ∧ (∀ u28, u28 = (f_M_advances (zuf σ 13 6 (σ 13 6)) (σ 20 a1.toNatClampNeg)) → (kl_M_arrives_92 a1 0 1 (((((3 * a1) + (u28 22 a1.toNatClampNeg))).toInt - ((3 * a1)).toInt).toNat + 2) u28 (3 * a1))))))))) ∧ (¬ ((σ 20 a1.toNatClampNeg) + (σ 21 a1.toNatClampNeg)) ≤ (σ 13 6) → (vp_in a1 40 ∧ (((σ 20 a1.toNatClampNeg) ≤ (σ 13 2) → (vp_in a1 40 ∧ (vp_in a1 40 ∧ (kl_M_arrives_92 a1 1 0 (((((3 * a1) + ((zuf σ 13 6 ((σ 20 a1.toNatClampNeg) + (σ 21 a1.toNatClampNeg))) 22 a1.toNatClampNeg))).toInt - ((3 * a1)).toInt).toNat + 2) (zuf σ 13 6 ((σ 20 a1.toNatClampNeg) + (σ 21 a1.toNatClampNeg))) (3 * a1))))) ∧ (¬ (σ 20 a1.toNatClampNeg) ≤ (σ 13 2) → (vp_in a1 40 ∧ (vp_in a1 40 ∧ (vp_in a1 40 ∧ ((k_M_advances (zuf σ 13 6 ((σ 20 a1.toNatClampNeg) + (σ 21 a1.toNatClampNeg))) (σ 20 a1.toNatClampNeg)) ∧ (∀ u47, u47 = (f_M_advances (zuf σ 13 6 ((σ 20 a1.toNatClampNeg) + (σ 21 a1.toNatClampNeg))) (σ 20 a1.toNatClampNeg)) → (kl_M_arrives_92 a1 1 1 (((((3 * a1) + (u47 22 a1.toNatClampNeg))).toInt - ((3 * a1)).toInt).toNat + 2) u47 (3 * a1))))))))))))))
def f_M_isSegment (σ : zSt) (a1 : Int32) : Int32 := zlet (f_M_isIn σ a1 0 ((σ 13 32) - 1)) (fun r1 => r1)
def f_M_isAck (σ : zSt) (a1 : Int32) : Int32 := zlet (f_M_isIn σ a1 0 ((σ 13 38) - 1)) (fun r1 => r1)
def l_M_takes_12 : Nat → zSt → Int32 → zSt
  | 0, σ, _ => σ
  | m + 1, σ, x2 => (if (σ 13 32) ≤ x2 then σ else (l_M_takes_12 m (zuf (zuf σ 18 x2.toNatClampNeg (σ 18 ((x2 + 1) : Int32).toNatClampNeg)) 19 x2.toNatClampNeg (σ 19 ((x2 + 1) : Int32).toNatClampNeg)) (x2 + 1)))
def kl_M_takes_12 : Nat → zSt → Int32 → Prop
  | 0, _, _ => False
  | m + 1, σ, x2 => (¬ (σ 13 32) ≤ x2 → (vp_in (x2 + 1) 40 ∧ (vp_in x2 40 ∧ (vp_in (x2 + 1) 40 ∧ (vp_in x2 40 ∧ (kl_M_takes_12 m (zuf (zuf σ 18 x2.toNatClampNeg (σ 18 ((x2 + 1) : Int32).toNatClampNeg)) 19 x2.toNatClampNeg (σ 19 ((x2 + 1) : Int32).toNatClampNeg)) (x2 + 1)))))))
def f_M_takes (σ : zSt) (a1 : Int32) : zSt := zlet (l_M_takes_12 (((((zuf σ 13 32 ((σ 13 32) - 1)) 13 32)).toInt - (a1).toInt).toNat + 2) (zuf σ 13 32 ((σ 13 32) - 1)) a1) (fun r6 => r6)
def k_M_takes (σ : zSt) (a1 : Int32) : Prop := (kl_M_takes_12 (((((zuf σ 13 32 ((σ 13 32) - 1)) 13 32)).toInt - (a1).toInt).toNat + 2) (zuf σ 13 32 ((σ 13 32) - 1)) a1)
def l_M_deliver_41 (x1 : Int32) : Nat → zSt → Int32 → Int32 → Int32 × zSt
  | 0, σ, _, _ => (0, σ)
  | m + 1, σ, x2, x3 => (if (σ 19 x1.toNatClampNeg) ≤ x3 then (x2, σ) else (if ((σ 13 29) + 32) ≤ x3 then (x2, σ) else (if (σ 16 x3.toNatClampNeg) = 0 then (l_M_deliver_41 x1 m (zuf (zuf σ 16 x3.toNatClampNeg 1) 17 x3.toNatClampNeg (σ 13 27)) (x2 + 1) (x3 + 1)) else (l_M_deliver_41 x1 m σ x2 (x3 + 1)))))
def kl_M_deliver_41 (x1 : Int32) : Nat → zSt → Int32 → Int32 → Prop
  | 0, _, _, _ => False
  | m + 1, σ, x2, x3 => (vp_in x1 40 ∧ (¬ (σ 19 x1.toNatClampNeg) ≤ x3 → (¬ ((σ 13 29) + 32) ≤ x3 → (vp_in x3 600 ∧ (((σ 16 x3.toNatClampNeg) = 0 → (vp_in x3 600 ∧ (vp_in x3 600 ∧ (kl_M_deliver_41 x1 m (zuf (zuf σ 16 x3.toNatClampNeg 1) 17 x3.toNatClampNeg (σ 13 27)) (x2 + 1) (x3 + 1))))) ∧ (¬ (σ 16 x3.toNatClampNeg) = 0 → (kl_M_deliver_41 x1 m σ x2 (x3 + 1))))))))
def f_M_deliver (σ : zSt) (a1 : Int32) : Int32 × zSt := zlet (f_M_isSegment σ a1) (fun r1 => (if r1 = 0 then zseq (f_M_isFine σ 1) (fun r4 u5 => (if r4 = 0 then (0, u5) else zlet (l_M_deliver_41 a1 (((((zuf u5 13 27 ((u5 13 27) + 1)) 19 a1.toNatClampNeg)).toInt - ((u5 18 a1.toNatClampNeg)).toInt).toNat + 2) (zuf u5 13 27 ((u5 13 27) + 1)) 0 (u5 18 a1.toNatClampNeg)) (fun r16 => zlet (f_M_runEnd r16.2 (r16.2 13 28)) (fun r17 => zlet (f_M_takes (zuf r16.2 13 28 r17) a1) (fun u19 => zlet (f_M_answers u19) (fun u21 => (r16.1, u21))))))) else zseq (f_M_isFine σ 0) (fun r23 u24 => (if r23 = 0 then (0, u24) else zlet (l_M_deliver_41 a1 (((((zuf u24 13 27 ((u24 13 27) + 1)) 19 a1.toNatClampNeg)).toInt - ((u24 18 a1.toNatClampNeg)).toInt).toNat + 2) (zuf u24 13 27 ((u24 13 27) + 1)) 0 (u24 18 a1.toNatClampNeg)) (fun r28 => zlet (f_M_runEnd r28.2 (r28.2 13 28)) (fun r29 => zlet (f_M_takes (zuf r28.2 13 28 r29) a1) (fun u31 => zlet (f_M_answers u31) (fun u33 => (r28.1, u33)))))))))
def k_M_deliver (σ : zSt) (a1 : Int32) : Prop := (∀ r1, r1 = (f_M_isSegment σ a1) → ((r1 = 0 → (∀ r4 u5, (r4, u5) = (f_M_isFine σ 1) → (¬ r4 = 0 → (vp_in a1 40 ∧ ((kl_M_deliver_41 a1 (((((zuf u5 13 27 ((u5 13 27) + 1)) 19 a1.toNatClampNeg)).toInt - ((u5 18 a1.toNatClampNeg)).toInt).toNat + 2) (zuf u5 13 27 ((u5 13 27) + 1)) 0 (u5 18 a1.toNatClampNeg)) ∧ (∀ r16, r16 = (l_M_deliver_41 a1 (((((zuf u5 13 27 ((u5 13 27) + 1)) 19 a1.toNatClampNeg)).toInt - ((u5 18 a1.toNatClampNeg)).toInt).toNat + 2) (zuf u5 13 27 ((u5 13 27) + 1)) 0 (u5 18 a1.toNatClampNeg)) → ((k_M_runEnd r16.2 (r16.2 13 28)) ∧ (∀ r17, r17 = (f_M_runEnd r16.2 (r16.2 13 28)) → ((k_M_takes (zuf r16.2 13 28 r17) a1) ∧ (∀ u19, u19 = (f_M_takes (zuf r16.2 13 28 r17) a1) → (k_M_answers u19))))))))))) ∧ (¬ r1 = 0 → (∀ r23 u24, (r23, u24) = (f_M_isFine σ 0) → (¬ r23 = 0 → (vp_in a1 40 ∧ ((kl_M_deliver_41 a1 (((((zuf u24 13 27 ((u24 13 27) + 1)) 19 a1.toNatClampNeg)).toInt - ((u24 18 a1.toNatClampNeg)).toInt).toNat + 2) (zuf u24 13 27 ((u24 13 27) + 1)) 0 (u24 18 a1.toNatClampNeg)) ∧ (∀ r28, r28 = (l_M_deliver_41 a1 (((((zuf u24 13 27 ((u24 13 27) + 1)) 19 a1.toNatClampNeg)).toInt - ((u24 18 a1.toNatClampNeg)).toInt).toNat + 2) (zuf u24 13 27 ((u24 13 27) + 1)) 0 (u24 18 a1.toNatClampNeg)) → ((k_M_runEnd r28.2 (r28.2 13 28)) ∧ (∀ r29, r29 = (f_M_runEnd r28.2 (r28.2 13 28)) → ((k_M_takes (zuf r28.2 13 28 r29) a1) ∧ (∀ u31, u31 = (f_M_takes (zuf r28.2 13 28 r29) a1) → (k_M_answers u31)))))))))))))
def f_M_lose (σ : zSt) (a1 : Int32) : Int32 × zSt := zlet (f_M_isSegment σ a1) (fun r1 => (if r1 = 0 then zseq (f_M_isFine σ 1) (fun r4 u5 => (if r4 = 0 then (0, u5) else zlet (f_M_takes u5 a1) (fun u9 => ((u5 18 a1.toNatClampNeg), u9)))) else zseq (f_M_isFine σ 0) (fun r11 u12 => (if r11 = 0 then (0, u12) else zlet (f_M_takes u12 a1) (fun u16 => ((u12 18 a1.toNatClampNeg), u16))))))
def k_M_lose (σ : zSt) (a1 : Int32) : Prop := (∀ r1, r1 = (f_M_isSegment σ a1) → ((r1 = 0 → (∀ r4 u5, (r4, u5) = (f_M_isFine σ 1) → (¬ r4 = 0 → (vp_in a1 40 ∧ (k_M_takes u5 a1))))) ∧ (¬ r1 = 0 → (∀ r11 u12, (r11, u12) = (f_M_isFine σ 0) → (¬ r11 = 0 → (vp_in a1 40 ∧ (k_M_takes u12 a1)))))))
def f_M_duplicate (σ : zSt) (a1 : Int32) : Int32 × zSt := zlet (f_M_isSegment σ a1) (fun r1 => (if r1 = 0 then zseq (f_M_isFine σ 1) (fun r21 u22 => (if r21 = 0 then (0, u22) else (((u22 13 32) + 1), (zuf (zuf (zuf u22 18 ((u22 13 32) : Int32).toNatClampNeg (u22 18 a1.toNatClampNeg)) 19 ((u22 13 32) : Int32).toNatClampNeg (u22 19 a1.toNatClampNeg)) 13 32 ((u22 13 32) + 1))))) else (if (σ 13 32) = 40 then zseq (f_M_isFine σ 2) (fun r13 u14 => (if r13 = 0 then (0, u14) else (((u14 13 32) + 1), (zuf (zuf (zuf u14 18 ((u14 13 32) : Int32).toNatClampNeg (u14 18 a1.toNatClampNeg)) 19 ((u14 13 32) : Int32).toNatClampNeg (u14 19 a1.toNatClampNeg)) 13 32 ((u14 13 32) + 1))))) else zseq (f_M_isFine σ 0) (fun r5 u6 => (if r5 = 0 then (0, u6) else (((u6 13 32) + 1), (zuf (zuf (zuf u6 18 ((u6 13 32) : Int32).toNatClampNeg (u6 18 a1.toNatClampNeg)) 19 ((u6 13 32) : Int32).toNatClampNeg (u6 19 a1.toNatClampNeg)) 13 32 ((u6 13 32) + 1))))))))
def k_M_duplicate (σ : zSt) (a1 : Int32) : Prop := (∀ r1, r1 = (f_M_isSegment σ a1) → ((r1 = 0 → (∀ r21 u22, (r21, u22) = (f_M_isFine σ 1) → (¬ r21 = 0 → (vp_in a1 40 ∧ (vp_in (u22 13 32) 40 ∧ (vp_in a1 40 ∧ (vp_in (u22 13 32) 40))))))) ∧ (¬ r1 = 0 → (((σ 13 32) = 40 → (∀ r13 u14, (r13, u14) = (f_M_isFine σ 2) → (¬ r13 = 0 → (vp_in a1 40 ∧ (vp_in (u14 13 32) 40 ∧ (vp_in a1 40 ∧ (vp_in (u14 13 32) 40))))))) ∧ (¬ (σ 13 32) = 40 → (∀ r5 u6, (r5, u6) = (f_M_isFine σ 0) → (¬ r5 = 0 → (vp_in a1 40 ∧ (vp_in (u6 13 32) 40 ∧ (vp_in a1 40 ∧ (vp_in (u6 13 32) 40)))))))))))
def f_M_deliverAck (σ : zSt) (a1 : Int32) : Int32 × zSt := zlet (f_M_isAck σ a1) (fun r1 => (if r1 = 0 then zseq (f_M_isFine σ 1) (fun r4 u5 => (if r4 = 0 then (0, u5) else (if (u5 20 a1.toNatClampNeg) < (u5 13 2) then zlet (f_M_leaves u5 a1) (fun u10 => (((u10 13 2) - (u5 13 2)), u10)) else zlet (f_M_arrives u5 a1) (fun u12 => zlet (f_M_leaves u12 a1) (fun u14 => (((u14 13 2) - (u5 13 2)), u14)))))) else zseq (f_M_isFine σ 0) (fun r16 u17 => (if r16 = 0 then (0, u17) else (if (u17 20 a1.toNatClampNeg) < (u17 13 2) then zlet (f_M_leaves u17 a1) (fun u22 => (((u22 13 2) - (u17 13 2)), u22)) else zlet (f_M_arrives u17 a1) (fun u24 => zlet (f_M_leaves u24 a1) (fun u26 => (((u26 13 2) - (u17 13 2)), u26))))))))
def k_M_deliverAck (σ : zSt) (a1 : Int32) : Prop := (∀ r1, r1 = (f_M_isAck σ a1) → ((r1 = 0 → (∀ r4 u5, (r4, u5) = (f_M_isFine σ 1) → (¬ r4 = 0 → (vp_in a1 40 ∧ (((u5 20 a1.toNatClampNeg) < (u5 13 2) → (k_M_leaves u5 a1)) ∧ (¬ (u5 20 a1.toNatClampNeg) < (u5 13 2) → ((k_M_arrives u5 a1) ∧ (∀ u12, u12 = (f_M_arrives u5 a1) → (k_M_leaves u12 a1))))))))) ∧ (¬ r1 = 0 → (∀ r16 u17, (r16, u17) = (f_M_isFine σ 0) → (¬ r16 = 0 → (vp_in a1 40 ∧ (((u17 20 a1.toNatClampNeg) < (u17 13 2) → (k_M_leaves u17 a1)) ∧ (¬ (u17 20 a1.toNatClampNeg) < (u17 13 2) → ((k_M_arrives u17 a1) ∧ (∀ u24, u24 = (f_M_arrives u17 a1) → (k_M_leaves u24 a1)))))))))))
def f_M_loseAck (σ : zSt) (a1 : Int32) : Int32 × zSt := zlet (f_M_isAck σ a1) (fun r1 => (if r1 = 0 then zseq (f_M_isFine σ 1) (fun r4 u5 => (if r4 = 0 then (0, u5) else zlet (f_M_leaves u5 a1) (fun u9 => ((u5 20 a1.toNatClampNeg), u9)))) else zseq (f_M_isFine σ 0) (fun r11 u12 => (if r11 = 0 then (0, u12) else zlet (f_M_leaves u12 a1) (fun u16 => ((u12 20 a1.toNatClampNeg), u16))))))
def k_M_loseAck (σ : zSt) (a1 : Int32) : Prop := (∀ r1, r1 = (f_M_isAck σ a1) → ((r1 = 0 → (∀ r4 u5, (r4, u5) = (f_M_isFine σ 1) → (¬ r4 = 0 → (vp_in a1 40 ∧ (k_M_leaves u5 a1))))) ∧ (¬ r1 = 0 → (∀ r11 u12, (r11, u12) = (f_M_isFine σ 0) → (¬ r11 = 0 → (vp_in a1 40 ∧ (k_M_leaves u12 a1)))))))
def f_M_segments (σ : zSt) : Int32 × zSt := ((σ 13 32), (zuf σ 13 0 0))
def f_M_startOf (σ : zSt) (a1 : Int32) : Int32 × zSt := zlet (f_M_isSegment σ a1) (fun r1 => (if r1 = 0 then zseq (f_M_isFine σ 1) (fun r4 u5 => (if r4 = 0 then (0, u5) else ((u5 18 a1.toNatClampNeg), u5))) else zseq (f_M_isFine σ 0) (fun r9 u10 => (if r9 = 0 then (0, u10) else ((u10 18 a1.toNatClampNeg), u10)))))
def k_M_startOf (σ : zSt) (a1 : Int32) : Prop := (∀ r1, r1 = (f_M_isSegment σ a1) → ((r1 = 0 → (∀ r4 u5, (r4, u5) = (f_M_isFine σ 1) → (¬ r4 = 0 → (vp_in a1 40)))) ∧ (¬ r1 = 0 → (∀ r9 u10, (r9, u10) = (f_M_isFine σ 0) → (¬ r9 = 0 → (vp_in a1 40))))))
def f_M_endOf (σ : zSt) (a1 : Int32) : Int32 × zSt := zlet (f_M_isSegment σ a1) (fun r1 => (if r1 = 0 then zseq (f_M_isFine σ 1) (fun r4 u5 => (if r4 = 0 then (0, u5) else ((u5 19 a1.toNatClampNeg), u5))) else zseq (f_M_isFine σ 0) (fun r9 u10 => (if r9 = 0 then (0, u10) else ((u10 19 a1.toNatClampNeg), u10)))))
def k_M_endOf (σ : zSt) (a1 : Int32) : Prop := (∀ r1, r1 = (f_M_isSegment σ a1) → ((r1 = 0 → (∀ r4 u5, (r4, u5) = (f_M_isFine σ 1) → (¬ r4 = 0 → (vp_in a1 40)))) ∧ (¬ r1 = 0 → (∀ r9 u10, (r9, u10) = (f_M_isFine σ 0) → (¬ r9 = 0 → (vp_in a1 40))))))
def f_M_acks (σ : zSt) : Int32 × zSt := ((σ 13 38), (zuf σ 13 0 0))
def f_M_ackNumber (σ : zSt) (a1 : Int32) : Int32 × zSt := zlet (f_M_isAck σ a1) (fun r1 => (if r1 = 0 then zseq (f_M_isFine σ 1) (fun r4 u5 => (if r4 = 0 then (0, u5) else ((u5 20 a1.toNatClampNeg), u5))) else zseq (f_M_isFine σ 0) (fun r9 u10 => (if r9 = 0 then (0, u10) else ((u10 20 a1.toNatClampNeg), u10)))))
def k_M_ackNumber (σ : zSt) (a1 : Int32) : Prop := (∀ r1, r1 = (f_M_isAck σ a1) → ((r1 = 0 → (∀ r4 u5, (r4, u5) = (f_M_isFine σ 1) → (¬ r4 = 0 → (vp_in a1 40)))) ∧ (¬ r1 = 0 → (∀ r9 u10, (r9, u10) = (f_M_isFine σ 0) → (¬ r9 = 0 → (vp_in a1 40))))))
def f_M_ackWindow (σ : zSt) (a1 : Int32) : Int32 × zSt := zlet (f_M_isAck σ a1) (fun r1 => (if r1 = 0 then zseq (f_M_isFine σ 1) (fun r4 u5 => (if r4 = 0 then (0, u5) else ((u5 21 a1.toNatClampNeg), u5))) else zseq (f_M_isFine σ 0) (fun r9 u10 => (if r9 = 0 then (0, u10) else ((u10 21 a1.toNatClampNeg), u10)))))
def k_M_ackWindow (σ : zSt) (a1 : Int32) : Prop := (∀ r1, r1 = (f_M_isAck σ a1) → ((r1 = 0 → (∀ r4 u5, (r4, u5) = (f_M_isFine σ 1) → (¬ r4 = 0 → (vp_in a1 40)))) ∧ (¬ r1 = 0 → (∀ r9 u10, (r9, u10) = (f_M_isFine σ 0) → (¬ r9 = 0 → (vp_in a1 40))))))
def f_M_ackBlocks (σ : zSt) (a1 : Int32) : Int32 × zSt := zlet (f_M_isAck σ a1) (fun r1 => (if r1 = 0 then zseq (f_M_isFine σ 1) (fun r4 u5 => (if r4 = 0 then (0, u5) else ((u5 22 a1.toNatClampNeg), u5))) else zseq (f_M_isFine σ 0) (fun r9 u10 => (if r9 = 0 then (0, u10) else ((u10 22 a1.toNatClampNeg), u10)))))
def k_M_ackBlocks (σ : zSt) (a1 : Int32) : Prop := (∀ r1, r1 = (f_M_isAck σ a1) → ((r1 = 0 → (∀ r4 u5, (r4, u5) = (f_M_isFine σ 1) → (¬ r4 = 0 → (vp_in a1 40)))) ∧ (¬ r1 = 0 → (∀ r9 u10, (r9, u10) = (f_M_isFine σ 0) → (¬ r9 = 0 → (vp_in a1 40))))))
def f_M_ackBlock (σ : zSt) (a1 : Int32) (a2 : Int32) : Int32 × zSt := zlet (f_M_isAck σ a1) (fun r1 => (if r1 = 0 then zseq (f_M_isFine σ 1) (fun r4 u5 => (if r4 = 0 then (0, u5) else ((u5 23 (((3 * a1) + a2) : Int32).toNatClampNeg), u5))) else zlet (f_M_isIn σ a2 0 ((σ 22 a1.toNatClampNeg) - 1)) (fun r10 => (if r10 = 0 then zseq (f_M_isFine σ 1) (fun r13 u14 => (if r13 = 0 then (0, u14) else ((u14 23 (((3 * a1) + a2) : Int32).toNatClampNeg), u14))) else zseq (f_M_isFine σ 0) (fun r18 u19 => (if r18 = 0 then (0, u19) else ((u19 23 (((3 * a1) + a2) : Int32).toNatClampNeg), u19)))))))
def k_M_ackBlock (σ : zSt) (a1 : Int32) (a2 : Int32) : Prop := (∀ r1, r1 = (f_M_isAck σ a1) → ((r1 = 0 → (∀ r4 u5, (r4, u5) = (f_M_isFine σ 1) → (¬ r4 = 0 → (vp_in ((3 * a1) + a2) 120)))) ∧ (¬ r1 = 0 → (vp_in a1 40 ∧ (∀ r10, r10 = (f_M_isIn σ a2 0 ((σ 22 a1.toNatClampNeg) - 1)) → ((r10 = 0 → (∀ r13 u14, (r13, u14) = (f_M_isFine σ 1) → (¬ r13 = 0 → (vp_in ((3 * a1) + a2) 120)))) ∧ (¬ r10 = 0 → (∀ r18 u19, (r18, u19) = (f_M_isFine σ 0) → (¬ r18 = 0 → (vp_in ((3 * a1) + a2) 120))))))))))
def f_M_time (σ : zSt) : Int32 × zSt := ((σ 13 1), (zuf σ 13 0 0))
def f_M_acknowledged (σ : zSt) : Int32 × zSt := ((σ 13 2), (zuf σ 13 0 0))
def f_M_next (σ : zSt) : Int32 × zSt := ((σ 13 3), (zuf σ 13 0 0))
def f_M_highest (σ : zSt) : Int32 × zSt := ((σ 13 4), (zuf σ 13 0 0))
def f_M_written (σ : zSt) : Int32 × zSt := ((σ 13 5), (zuf σ 13 0 0))
def f_M_edge (σ : zSt) : Int32 × zSt := ((σ 13 6), (zuf σ 13 0 0))
def f_M_inFlight (σ : zSt) : Int32 × zSt := zlet (f_M_flight (zuf σ 13 0 0)) (fun r1 => (r1, (zuf σ 13 0 0)))
def k_M_inFlight (σ : zSt) : Prop := (k_M_flight (zuf σ 13 0 0))
def f_M_isMarked (σ : zSt) (a1 : Int32) : Int32 × zSt := zlet (f_M_isIn σ a1 0 ((σ 13 5) - 1)) (fun r1 => (if r1 = 0 then zseq (f_M_isFine σ 1) (fun r4 u5 => (if r4 = 0 then (0, u5) else (if (u5 15 a1.toNatClampNeg) = 0 then (0, u5) else (1, u5)))) else zseq (f_M_isFine σ 0) (fun r10 u11 => (if r10 = 0 then (0, u11) else (if (u11 15 a1.toNatClampNeg) = 0 then (0, u11) else (1, u11))))))
def k_M_isMarked (σ : zSt) (a1 : Int32) : Prop := (∀ r1, r1 = (f_M_isIn σ a1 0 ((σ 13 5) - 1)) → ((r1 = 0 → (∀ r4 u5, (r4, u5) = (f_M_isFine σ 1) → (¬ r4 = 0 → (vp_in a1 600)))) ∧ (¬ r1 = 0 → (∀ r10 u11, (r10, u11) = (f_M_isFine σ 0) → (¬ r10 = 0 → (vp_in a1 600))))))
def f_M_congestionWindow (σ : zSt) : Int32 × zSt := ((σ 13 7), (zuf σ 13 0 0))
def f_M_threshold (σ : zSt) : Int32 × zSt := ((σ 13 8), (zuf σ 13 0 0))
def f_M_duplicates (σ : zSt) : Int32 × zSt := ((σ 13 13), (zuf σ 13 0 0))
def f_M_recoveryEnd (σ : zSt) : Int32 × zSt := (if (σ 13 10) = 0 then ((-1), (zuf σ 13 0 0)) else ((σ 13 11), (zuf σ 13 0 0)))
def f_M_timeout (σ : zSt) : Int32 × zSt := ((σ 13 14), (zuf σ 13 0 0))
def f_M_timerEnd (σ : zSt) : Int32 × zSt := ((σ 13 15), (zuf σ 13 0 0))
def f_M_roundTrip (σ : zSt) : Int32 × zSt := ((σ 13 18), (zuf σ 13 0 0))
def f_M_variation (σ : zSt) : Int32 × zSt := ((σ 13 19), (zuf σ 13 0 0))
def f_M_timedEnd (σ : zSt) : Int32 × zSt := ((σ 13 16), (zuf σ 13 0 0))
def f_M_sent (σ : zSt) : Int32 × zSt := ((σ 13 21), (zuf σ 13 0 0))
def f_M_sentAgain (σ : zSt) : Int32 × zSt := ((σ 13 22), (zuf σ 13 0 0))
def f_M_inOrder (σ : zSt) : Int32 × zSt := ((σ 13 28), (zuf σ 13 0 0))
def f_M_readPosition (σ : zSt) : Int32 × zSt := ((σ 13 29), (zuf σ 13 0 0))
def f_M_window (σ : zSt) : Int32 × zSt := zlet (f_M_room (zuf σ 13 0 0)) (fun r1 => (r1, (zuf σ 13 0 0)))
def l_M_startOfBlock_9 (σ : zSt) : Nat → Int32 → Int32 → Int32
  | 0, _, _ => 0
  | m + 1, x2, x3 => (if 600 ≤ x3 then (-1) else zlet (f_M_isStart σ x3) (fun r2 => (if r2 = 0 then (l_M_startOfBlock_9 σ m x2 (x3 + 1)) else (if x2 = 0 then x3 else (l_M_startOfBlock_9 σ m (x2 + (-1)) (x3 + 1))))))
def kl_M_startOfBlock_9 (σ : zSt) : Nat → Int32 → Int32 → Prop
  | 0, _, _ => False
  | m + 1, x2, x3 => (¬ 600 ≤ x3 → ((k_M_isStart σ x3) ∧ (∀ r2, r2 = (f_M_isStart σ x3) → ((r2 = 0 → (kl_M_startOfBlock_9 σ m x2 (x3 + 1))) ∧ (¬ r2 = 0 → (¬ x2 = 0 → (kl_M_startOfBlock_9 σ m (x2 + (-1)) (x3 + 1))))))))
def f_M_startOfBlock (σ : zSt) (a1 : Int32) : Int32 := (l_M_startOfBlock_9 σ (((600 : Int32).toInt - (((σ 13 28) + 1)).toInt).toNat + 2) a1 ((σ 13 28) + 1))
def k_M_startOfBlock (σ : zSt) (a1 : Int32) : Prop := (kl_M_startOfBlock_9 σ (((600 : Int32).toInt - (((σ 13 28) + 1)).toInt).toNat + 2) a1 ((σ 13 28) + 1))
def l_M_blocks_14 (σ : zSt) : Nat → Int32 → Int32 → Int32
  | 0, _, _ => 0
  | m + 1, x1, x2 => (if 600 ≤ x2 then x1 else zlet (f_M_isStart σ x2) (fun r2 => (if r2 = 0 then (l_M_blocks_14 σ m (x1 + 0) (x2 + 1)) else (l_M_blocks_14 σ m (x1 + 1) (x2 + 1)))))
def kl_M_blocks_14 (σ : zSt) : Nat → Int32 → Int32 → Prop
  | 0, _, _ => False
  | m + 1, x1, x2 => (¬ 600 ≤ x2 → ((k_M_isStart σ x2) ∧ (∀ r2, r2 = (f_M_isStart σ x2) → ((r2 = 0 → (kl_M_blocks_14 σ m (x1 + 0) (x2 + 1))) ∧ (¬ r2 = 0 → (kl_M_blocks_14 σ m (x1 + 1) (x2 + 1)))))))
def f_M_blocks (σ : zSt) : Int32 × zSt := zlet (l_M_blocks_14 (zuf σ 13 0 0) (((600 : Int32).toInt - ((((zuf σ 13 0 0) 13 28) + 1)).toInt).toNat + 2) 0 ((σ 13 28) + 1)) (fun r5 => (r5, (zuf σ 13 0 0)))
def k_M_blocks (σ : zSt) : Prop := (kl_M_blocks_14 (zuf σ 13 0 0) (((600 : Int32).toInt - ((((zuf σ 13 0 0) 13 28) + 1)).toInt).toNat + 2) 0 ((σ 13 28) + 1))
def f_M_blockStart (σ : zSt) (a1 : Int32) : Int32 × zSt := (if 0 ≤ a1 then zlet (f_M_startOfBlock σ a1) (fun r2 => (if r2 = (-1) then zseq (f_M_isFine σ 1) (fun r9 u10 => (if r9 = 0 then (0, u10) else (r2, u10))) else zseq (f_M_isFine σ 0) (fun r5 u6 => (if r5 = 0 then (0, u6) else (r2, u6))))) else zseq (f_M_isFine σ 1) (fun r14 u15 => (if r14 = 0 then (0, u15) else ((-1), u15))))
def k_M_blockStart (σ : zSt) (a1 : Int32) : Prop := (0 ≤ a1 → (k_M_startOfBlock σ a1))
def f_M_blockEnd (σ : zSt) (a1 : Int32) : Int32 × zSt := (if 0 ≤ a1 then zlet (f_M_startOfBlock σ a1) (fun r2 => (if r2 = (-1) then zseq (f_M_isFine σ 1) (fun r11 u12 => (if r11 = 0 then (0, u12) else zlet (f_M_runEnd u12 r2) (fun r15 => (r15, u12)))) else zseq (f_M_isFine σ 0) (fun r5 u6 => (if r5 = 0 then (0, u6) else zlet (f_M_runEnd u6 r2) (fun r9 => (r9, u6)))))) else zseq (f_M_isFine σ 1) (fun r18 u19 => (if r18 = 0 then (0, u19) else zlet (f_M_runEnd u19 (-1)) (fun r22 => (r22, u19)))))
def k_M_blockEnd (σ : zSt) (a1 : Int32) : Prop := ((0 ≤ a1 → ((k_M_startOfBlock σ a1) ∧ (∀ r2, r2 = (f_M_startOfBlock σ a1) → ((r2 = (-1) → (∀ r11 u12, (r11, u12) = (f_M_isFine σ 1) → (¬ r11 = 0 → (k_M_runEnd u12 r2)))) ∧ (¬ r2 = (-1) → (∀ r5 u6, (r5, u6) = (f_M_isFine σ 0) → (¬ r5 = 0 → (k_M_runEnd u6 r2)))))))) ∧ (¬ 0 ≤ a1 → (∀ r18 u19, (r18, u19) = (f_M_isFine σ 1) → (¬ r18 = 0 → (k_M_runEnd u19 (-1))))))
def f_X_read (σ : zSt) : Int32 × zSt := (if (σ 6 2) ≤ (σ 6 3) then ((-1), σ) else (if (σ 6 3) < 0 then ((-1), σ) else (if (σ 6 3) < 600 then zseq (f_R_passByte σ) (fun r4 u5 => (if r4 = 0 then ((u5 1 ((σ 6 3) : Int32).toNatClampNeg), u5) else zlet (f_R_makeAck u5) (fun u9 => ((u9 1 ((σ 6 3) : Int32).toNatClampNeg), u9)))) else ((-1), σ))))
def k_X_read (σ : zSt) : Prop := (¬ (σ 6 2) ≤ (σ 6 3) → (¬ (σ 6 3) < 0 → ((σ 6 3) < 600 → (∀ r4 u5, (r4, u5) = (f_R_passByte σ) → ((r4 = 0 → (vp_in (σ 6 3) 600)) ∧ (¬ r4 = 0 → ((k_R_makeAck u5) ∧ (∀ u9, u9 = (f_R_makeAck u5) → (vp_in (σ 6 3) 600)))))))))
def f_X_segments (σ : zSt) : Int32 := (σ 9 2)
def f_X_acks (σ : zSt) : Int32 := (σ 11 2)
def f_X_time (σ : zSt) : Int32 := (σ 5 0)
def f_X_acknowledged (σ : zSt) : Int32 := (σ 2 2)
def f_X_next (σ : zSt) : Int32 := (σ 2 3)
def f_X_highest (σ : zSt) : Int32 := (σ 2 4)
def f_X_written (σ : zSt) : Int32 := (σ 2 5)
def f_X_edge (σ : zSt) : Int32 := (σ 2 6)
def f_X_inFlight (σ : zSt) : Int32 := zlet (f_S_countFlying σ) (fun r1 => r1)
def k_X_inFlight (σ : zSt) : Prop := (k_S_countFlying σ)
def f_X_congestionWindow (σ : zSt) : Int32 := (σ 2 7)
def f_X_threshold (σ : zSt) : Int32 := (σ 2 8)
def f_X_duplicates (σ : zSt) : Int32 := (σ 2 10)
def f_X_recoveryEnd (σ : zSt) : Int32 := (σ 2 11)
def f_X_timeout (σ : zSt) : Int32 := (σ 5 1)
def f_X_timerEnd (σ : zSt) : Int32 := (σ 5 2)
def f_X_roundTrip (σ : zSt) : Int32 := (σ 5 4)
def f_X_variation (σ : zSt) : Int32 := (σ 5 5)
def f_X_timedEnd (σ : zSt) : Int32 := (σ 5 3)
def f_X_sent (σ : zSt) : Int32 := (σ 2 13)
def f_X_sentAgain (σ : zSt) : Int32 := (σ 2 14)
def f_X_inOrder (σ : zSt) : Int32 := (σ 6 2)
def f_X_readPosition (σ : zSt) : Int32 := (σ 6 3)
def f_X_window (σ : zSt) : Int32 := zlet (f_R_room σ) (fun r1 => r1)
def f_X_blocks (σ : zSt) : Int32 := zlet (f_R_countBlocks σ) (fun r1 => r1)
def k_X_blocks (σ : zSt) : Prop := (k_R_countBlocks σ)
def zwr (x : Int32 × Int32 × zSt) : Int32 × zSt := if x.1 = 0 then (0, zuf x.2.2 25 0 x.2.1) else (x.1, x.2.2)
theorem zwr0 {r : Int32} {u : zSt} : zwr (0, r, u) = (0, zuf u 25 0 r) := rfl
theorem zwr1 {k r : Int32} {u : zSt} (h : ¬ k = 0) : zwr (k, r, u) = (k, u) := if_neg h
def zwb (x : Int32 × Int32 × zSt) : Int32 × zSt := if x.1 = 0 then (0, zuf x.2.2 25 0 (if x.2.1 = 0 then 0 else 1)) else (x.1, x.2.2)
theorem zwb0 {r : Int32} {u : zSt} : zwb (0, r, u) = (0, zuf u 25 0 (if r = 0 then 0 else 1)) := rfl
theorem zwb1 {k r : Int32} {u : zSt} (h : ¬ k = 0) : zwb (k, r, u) = (k, u) := if_neg h
def l_X_write_55 (x1 x2 : Int32) : Nat → zSt → Int32 → zSt
  | 0, σ, _ => σ
  | m + 1, σ, x3 => (if x2 ≤ x3 then σ else (if ((σ 2 5) + x3) < 0 then (l_X_write_55 x1 x2 m σ (x3 + 1)) else (if 600 ≤ ((σ 2 5) + x3) then (l_X_write_55 x1 x2 m σ (x3 + 1)) else (l_X_write_55 x1 x2 m (zuf σ 1 (((σ 2 5) + x3) : Int32).toNatClampNeg ((x1 + x3) - (x1 + x3) / 256 * 256)) (x3 + 1)))))
def kl_X_write_55 (x1 x2 : Int32) : Nat → zSt → Int32 → Prop
  | 0, _, _ => False
  | m + 1, σ, x3 => (¬ x2 ≤ x3 → ((((σ 2 5) + x3) < 0 → (kl_X_write_55 x1 x2 m σ (x3 + 1))) ∧ (¬ ((σ 2 5) + x3) < 0 → ((600 ≤ ((σ 2 5) + x3) → (kl_X_write_55 x1 x2 m σ (x3 + 1))) ∧ (¬ 600 ≤ ((σ 2 5) + x3) → (vp_in ((σ 2 5) + x3) 600 ∧ (kl_X_write_55 x1 x2 m (zuf σ 1 (((σ 2 5) + x3) : Int32).toNatClampNeg ((x1 + x3) - (x1 + x3) / 256 * 256)) (x3 + 1))))))))
def f_X_write (σ : zSt) (a1 : Int32) (a2 : Int32) : Int32 × Int32 × zSt := (if a1 < 0 then (1, 0, σ) else (if 256 ≤ a1 then (1, 0, σ) else (if a2 < 1 then (1, 0, σ) else (if a2 ≤ 100 then (if ((σ 2 5) + a2) ≤ 600 then zlet (l_X_write_55 a1 a2 (((a2).toInt - (0 : Int32).toInt).toNat + 2) σ 0) (fun r10 => (0, ((r10 2 5) + a2), (zuf r10 2 5 ((r10 2 5) + a2)))) else (2, 0, σ)) else (1, 0, σ)))))
def k_X_write (σ : zSt) (a1 : Int32) (a2 : Int32) : Prop := (¬ a1 < 0 → (¬ 256 ≤ a1 → (¬ a2 < 1 → (a2 ≤ 100 → (((σ 2 5) + a2) ≤ 600 → (kl_X_write_55 a1 a2 (((a2).toInt - (0 : Int32).toInt).toNat + 2) σ 0))))))
def f_L_write (σ : zSt) (a1 : Int32) (a2 : Int32) : Int32 × zSt := zwr (f_X_write σ a1 a2)
def f_X_setLimit (σ : zSt) (a1 : Int32) : Int32 × Int32 × zSt := (if a1 < 4 then (1, 0, σ) else (if a1 ≤ 256 then (0, (σ 2 9), (zuf σ 2 9 a1)) else (1, 0, σ)))
def f_L_setLimit (σ : zSt) (a1 : Int32) : Int32 × zSt := zwr (f_X_setLimit σ a1)
def f_X_send (σ : zSt) : Int32 × Int32 × zSt := zlet (f_W_isFull 9 σ) (fun r1 => (if r1 = 0 then zseq (f_S_sendInto σ) (fun r4 u5 => (0, r4, u5)) else (1, 0, σ)))
def k_X_send (σ : zSt) : Prop := (∀ r1, r1 = (f_W_isFull 9 σ) → (r1 = 0 → (k_S_sendInto σ)))
def f_L_send (σ : zSt) : Int32 × zSt := zwr (f_X_send σ)
def f_X_tick (σ : zSt) (a1 : Int32) : Int32 × Int32 × zSt := (if a1 < 1 then (1, 0, σ) else (if a1 ≤ 100 then zseq (f_S_passTicks σ a1) (fun r3 u4 => (0, r3, u4)) else (1, 0, σ)))
def k_X_tick (σ : zSt) (a1 : Int32) : Prop := (¬ a1 < 1 → (a1 ≤ 100 → (k_S_passTicks σ a1)))
def f_L_tick (σ : zSt) (a1 : Int32) : Int32 × zSt := zwr (f_X_tick σ a1)
def f_X_deliver (σ : zSt) (a1 : Int32) : Int32 × Int32 × zSt := zlet (f_W_holds 9 σ a1) (fun r1 => (if r1 = 0 then (1, 0, σ) else zlet (f_W_cell 9 σ a1 0) (fun r4 => zlet (f_W_cell 9 σ a1 1) (fun r6 => zseq (f_R_takeBytes σ r4 r6) (fun r8 u9 => zlet (f_W_remove 9 u9 a1) (fun u11 => zlet (f_R_makeAck u11) (fun u13 => (0, r8, u13))))))))
def k_X_deliver (σ : zSt) (a1 : Int32) : Prop := (∀ r1, r1 = (f_W_holds 9 σ a1) → (¬ r1 = 0 → ((k_W_cell 9 σ a1 0) ∧ (∀ r4, r4 = (f_W_cell 9 σ a1 0) → ((k_W_cell 9 σ a1 1) ∧ (∀ r6, r6 = (f_W_cell 9 σ a1 1) → ((k_R_takeBytes σ r4 r6) ∧ (∀ r8 u9, (r8, u9) = (f_R_takeBytes σ r4 r6) → ((k_W_remove 9 u9 a1) ∧ (∀ u11, u11 = (f_W_remove 9 u9 a1) → (k_R_makeAck u11)))))))))))
def f_L_deliver (σ : zSt) (a1 : Int32) : Int32 × zSt := zwr (f_X_deliver σ a1)
def f_X_lose (σ : zSt) (a1 : Int32) : Int32 × Int32 × zSt := zlet (f_W_holds 9 σ a1) (fun r1 => (if r1 = 0 then (1, 0, σ) else zlet (f_W_cell 9 σ a1 0) (fun r4 => zlet (f_W_remove 9 σ a1) (fun u6 => (0, r4, u6)))))
def k_X_lose (σ : zSt) (a1 : Int32) : Prop := (∀ r1, r1 = (f_W_holds 9 σ a1) → (¬ r1 = 0 → ((k_W_cell 9 σ a1 0) ∧ (∀ r4, r4 = (f_W_cell 9 σ a1 0) → (k_W_remove 9 σ a1)))))
def f_L_lose (σ : zSt) (a1 : Int32) : Int32 × zSt := zwr (f_X_lose σ a1)
def f_X_duplicate (σ : zSt) (a1 : Int32) : Int32 × Int32 × zSt := zlet (f_W_holds 9 σ a1) (fun r1 => (if r1 = 0 then (1, 0, σ) else zlet (f_W_isFull 9 σ) (fun r4 => (if r4 = 0 then zseq (f_W_addRow 9 σ) (fun r7 u8 => zlet (f_W_cell 9 u8 a1 0) (fun r10 => zlet (f_W_setCell 9 u8 r7 0 r10) (fun u12 => zlet (f_W_cell 9 u12 a1 1) (fun r14 => zlet (f_W_setCell 9 u12 r7 1 r14) (fun u16 => (0, (u16 9 2), u16)))))) else (2, 0, σ)))))
def k_X_duplicate (σ : zSt) (a1 : Int32) : Prop := (∀ r1, r1 = (f_W_holds 9 σ a1) → (¬ r1 = 0 → (∀ r4, r4 = (f_W_isFull 9 σ) → (r4 = 0 → (∀ r7 u8, (r7, u8) = (f_W_addRow 9 σ) → ((k_W_cell 9 u8 a1 0) ∧ (∀ r10, r10 = (f_W_cell 9 u8 a1 0) → ((k_W_setCell 9 u8 r7 0 r10) ∧ (∀ u12, u12 = (f_W_setCell 9 u8 r7 0 r10) → ((k_W_cell 9 u12 a1 1) ∧ (∀ r14, r14 = (f_W_cell 9 u12 a1 1) → (k_W_setCell 9 u12 r7 1 r14))))))))))))
def f_L_duplicate (σ : zSt) (a1 : Int32) : Int32 × zSt := zwr (f_X_duplicate σ a1)
def f_X_deliverAck (σ : zSt) (a1 : Int32) : Int32 × Int32 × zSt := zlet (f_W_holds 11 σ a1) (fun r1 => (if r1 = 0 then (1, 0, σ) else zseq (f_S_takeAck σ a1) (fun r4 u5 => zlet (f_W_remove 11 u5 a1) (fun u7 => (0, r4, u7)))))
def k_X_deliverAck (σ : zSt) (a1 : Int32) : Prop := (∀ r1, r1 = (f_W_holds 11 σ a1) → (¬ r1 = 0 → ((k_S_takeAck σ a1) ∧ (∀ r4 u5, (r4, u5) = (f_S_takeAck σ a1) → (k_W_remove 11 u5 a1)))))
def f_L_deliverAck (σ : zSt) (a1 : Int32) : Int32 × zSt := zwr (f_X_deliverAck σ a1)
def f_X_loseAck (σ : zSt) (a1 : Int32) : Int32 × Int32 × zSt := zlet (f_W_holds 11 σ a1) (fun r1 => (if r1 = 0 then (1, 0, σ) else zlet (f_W_cell 11 σ a1 0) (fun r4 => zlet (f_W_remove 11 σ a1) (fun u6 => (0, r4, u6)))))
def k_X_loseAck (σ : zSt) (a1 : Int32) : Prop := (∀ r1, r1 = (f_W_holds 11 σ a1) → (¬ r1 = 0 → ((k_W_cell 11 σ a1 0) ∧ (∀ r4, r4 = (f_W_cell 11 σ a1 0) → (k_W_remove 11 σ a1)))))
def f_L_loseAck (σ : zSt) (a1 : Int32) : Int32 × zSt := zwr (f_X_loseAck σ a1)
def f_X_startOf (σ : zSt) (a1 : Int32) : Int32 × Int32 × zSt := zlet (f_W_holds 9 σ a1) (fun r1 => (if r1 = 0 then (1, 0, σ) else zlet (f_W_cell 9 σ a1 0) (fun r4 => (0, r4, σ))))
def k_X_startOf (σ : zSt) (a1 : Int32) : Prop := (∀ r1, r1 = (f_W_holds 9 σ a1) → (¬ r1 = 0 → (k_W_cell 9 σ a1 0)))
def f_L_startOf (σ : zSt) (a1 : Int32) : Int32 × zSt := zwr (f_X_startOf σ a1)
def f_X_endOf (σ : zSt) (a1 : Int32) : Int32 × Int32 × zSt := zlet (f_W_holds 9 σ a1) (fun r1 => (if r1 = 0 then (1, 0, σ) else zlet (f_W_cell 9 σ a1 1) (fun r4 => (0, r4, σ))))
def k_X_endOf (σ : zSt) (a1 : Int32) : Prop := (∀ r1, r1 = (f_W_holds 9 σ a1) → (¬ r1 = 0 → (k_W_cell 9 σ a1 1)))
def f_L_endOf (σ : zSt) (a1 : Int32) : Int32 × zSt := zwr (f_X_endOf σ a1)
def f_X_ackNumber (σ : zSt) (a1 : Int32) : Int32 × Int32 × zSt := zlet (f_W_holds 11 σ a1) (fun r1 => (if r1 = 0 then (1, 0, σ) else zlet (f_W_cell 11 σ a1 0) (fun r4 => (0, r4, σ))))
def k_X_ackNumber (σ : zSt) (a1 : Int32) : Prop := (∀ r1, r1 = (f_W_holds 11 σ a1) → (¬ r1 = 0 → (k_W_cell 11 σ a1 0)))
def f_L_ackNumber (σ : zSt) (a1 : Int32) : Int32 × zSt := zwr (f_X_ackNumber σ a1)
def f_X_ackWindow (σ : zSt) (a1 : Int32) : Int32 × Int32 × zSt := zlet (f_W_holds 11 σ a1) (fun r1 => (if r1 = 0 then (1, 0, σ) else zlet (f_W_cell 11 σ a1 1) (fun r4 => (0, r4, σ))))
def k_X_ackWindow (σ : zSt) (a1 : Int32) : Prop := (∀ r1, r1 = (f_W_holds 11 σ a1) → (¬ r1 = 0 → (k_W_cell 11 σ a1 1)))
def f_L_ackWindow (σ : zSt) (a1 : Int32) : Int32 × zSt := zwr (f_X_ackWindow σ a1)
def f_X_ackBlocks (σ : zSt) (a1 : Int32) : Int32 × Int32 × zSt := zlet (f_W_holds 11 σ a1) (fun r1 => (if r1 = 0 then (1, 0, σ) else zlet (f_W_cell 11 σ a1 2) (fun r4 => (0, r4, σ))))
def k_X_ackBlocks (σ : zSt) (a1 : Int32) : Prop := (∀ r1, r1 = (f_W_holds 11 σ a1) → (¬ r1 = 0 → (k_W_cell 11 σ a1 2)))
def f_L_ackBlocks (σ : zSt) (a1 : Int32) : Int32 × zSt := zwr (f_X_ackBlocks σ a1)
def f_X_ackBlock (σ : zSt) (a1 : Int32) (a2 : Int32) : Int32 × Int32 × zSt := zlet (f_W_holds 11 σ a1) (fun r1 => (if r1 = 0 then (1, 0, σ) else (if a2 < 0 then (1, 0, σ) else zlet (f_W_cell 11 σ a1 2) (fun r5 => (if a2 < r5 then zlet (f_W_cell 11 σ a1 (3 + (2 * a2))) (fun r8 => (0, r8, σ)) else (1, 0, σ))))))
def k_X_ackBlock (σ : zSt) (a1 : Int32) (a2 : Int32) : Prop := (∀ r1, r1 = (f_W_holds 11 σ a1) → (¬ r1 = 0 → (¬ a2 < 0 → ((k_W_cell 11 σ a1 2) ∧ (∀ r5, r5 = (f_W_cell 11 σ a1 2) → (a2 < r5 → (k_W_cell 11 σ a1 (3 + (2 * a2)))))))))
def f_L_ackBlock (σ : zSt) (a1 : Int32) (a2 : Int32) : Int32 × zSt := zwr (f_X_ackBlock σ a1 a2)
def f_X_isMarked (σ : zSt) (a1 : Int32) : Int32 × Int32 × zSt := (if a1 < 0 then (1, 0, σ) else (if a1 < (σ 2 5) then zlet (f_P_at 3 σ a1) (fun r3 => (if r3 = 0 then (0, 0, σ) else (0, 1, σ))) else (1, 0, σ)))
def k_X_isMarked (σ : zSt) (a1 : Int32) : Prop := (¬ a1 < 0 → (a1 < (σ 2 5) → (k_P_at 3 σ a1)))
def f_L_isMarked (σ : zSt) (a1 : Int32) : Int32 × zSt := zwb (f_X_isMarked σ a1)
def f_X_blockStart (σ : zSt) (a1 : Int32) : Int32 × Int32 × zSt := (if a1 < 0 then (1, 0, σ) else zlet (f_R_countBlocks σ) (fun r2 => (if a1 < r2 then zlet (f_R_startOfBlock σ a1) (fun r5 => (0, r5, σ)) else (1, 0, σ))))
def k_X_blockStart (σ : zSt) (a1 : Int32) : Prop := (¬ a1 < 0 → ((k_R_countBlocks σ) ∧ (∀ r2, r2 = (f_R_countBlocks σ) → (a1 < r2 → (k_R_startOfBlock σ a1)))))
def f_L_blockStart (σ : zSt) (a1 : Int32) : Int32 × zSt := zwr (f_X_blockStart σ a1)
def f_X_blockEnd (σ : zSt) (a1 : Int32) : Int32 × Int32 × zSt := (if a1 < 0 then (1, 0, σ) else zlet (f_R_countBlocks σ) (fun r2 => (if a1 < r2 then zlet (f_R_startOfBlock σ a1) (fun r5 => zlet (f_R_endOfRun σ r5) (fun r7 => (0, r7, σ))) else (1, 0, σ))))
def k_X_blockEnd (σ : zSt) (a1 : Int32) : Prop := (¬ a1 < 0 → ((k_R_countBlocks σ) ∧ (∀ r2, r2 = (f_R_countBlocks σ) → (a1 < r2 → ((k_R_startOfBlock σ a1) ∧ (∀ r5, r5 = (f_R_startOfBlock σ a1) → (k_R_endOfRun σ r5)))))))
def f_L_blockEnd (σ : zSt) (a1 : Int32) : Int32 × zSt := zwr (f_X_blockEnd σ a1)
def nx_0 (σ : zSt) (a1 a2 : Int32) : zSt := zseq (f_L_write σ a1 a2) (fun _ u => (f_M_write u a1 a2).2)
def kq_0 (σ : zSt) (a1 a2 : Int32) : Prop := k_X_write σ a1 a2 ∧ (∀ k u, (k, u) = f_L_write σ a1 a2 → k_M_write u a1 a2 ∧ ∀ r u2, (r, u2) = f_M_write u a1 a2 → f_M_thrown u2 = k ∧ (k = 0 → u2 25 0 = r))
def nx_1 (σ : zSt) (a1 a2 : Int32) : zSt := (f_M_read (f_X_read σ).2).2
def kq_1 (σ : zSt) (a1 a2 : Int32) : Prop := k_X_read σ ∧ (∀ r u, (r, u) = f_X_read σ → k_M_read u ∧ r = (f_M_read u).1)
def nx_2 (σ : zSt) (a1 a2 : Int32) : zSt := zseq (f_L_setLimit σ a1) (fun _ u => (f_M_setLimit u a1).2)
def kq_2 (σ : zSt) (a1 a2 : Int32) : Prop := ∀ k u, (k, u) = f_L_setLimit σ a1 → ∀ r u2, (r, u2) = f_M_setLimit u a1 → f_M_thrown u2 = k ∧ (k = 0 → u2 25 0 = r)
def nx_3 (σ : zSt) (a1 a2 : Int32) : zSt := zseq (f_L_send σ) (fun _ u => (f_M_send u).2)
def kq_3 (σ : zSt) (a1 a2 : Int32) : Prop := k_X_send σ ∧ (∀ k u, (k, u) = f_L_send σ → k_M_send u ∧ ∀ r u2, (r, u2) = f_M_send u → f_M_thrown u2 = k ∧ (k = 0 → u2 25 0 = r))
def nx_4 (σ : zSt) (a1 a2 : Int32) : zSt := zseq (f_L_tick σ a1) (fun _ u => (f_M_tick u a1).2)
def kq_4 (σ : zSt) (a1 a2 : Int32) : Prop := k_X_tick σ a1 ∧ (∀ k u, (k, u) = f_L_tick σ a1 → k_M_tick u a1 ∧ ∀ r u2, (r, u2) = f_M_tick u a1 → f_M_thrown u2 = k ∧ (k = 0 → u2 25 0 = r))
def nx_5 (σ : zSt) (a1 a2 : Int32) : zSt := zseq (f_L_deliver σ a1) (fun _ u => (f_M_deliver u a1).2)
def kq_5 (σ : zSt) (a1 a2 : Int32) : Prop := k_X_deliver σ a1 ∧ (∀ k u, (k, u) = f_L_deliver σ a1 → k_M_deliver u a1 ∧ ∀ r u2, (r, u2) = f_M_deliver u a1 → f_M_thrown u2 = k ∧ (k = 0 → u2 25 0 = r))
def nx_6 (σ : zSt) (a1 a2 : Int32) : zSt := zseq (f_L_lose σ a1) (fun _ u => (f_M_lose u a1).2)
def kq_6 (σ : zSt) (a1 a2 : Int32) : Prop := k_X_lose σ a1 ∧ (∀ k u, (k, u) = f_L_lose σ a1 → k_M_lose u a1 ∧ ∀ r u2, (r, u2) = f_M_lose u a1 → f_M_thrown u2 = k ∧ (k = 0 → u2 25 0 = r))
def nx_7 (σ : zSt) (a1 a2 : Int32) : zSt := zseq (f_L_duplicate σ a1) (fun _ u => (f_M_duplicate u a1).2)
def kq_7 (σ : zSt) (a1 a2 : Int32) : Prop := k_X_duplicate σ a1 ∧ (∀ k u, (k, u) = f_L_duplicate σ a1 → k_M_duplicate u a1 ∧ ∀ r u2, (r, u2) = f_M_duplicate u a1 → f_M_thrown u2 = k ∧ (k = 0 → u2 25 0 = r))
def nx_8 (σ : zSt) (a1 a2 : Int32) : zSt := zseq (f_L_deliverAck σ a1) (fun _ u => (f_M_deliverAck u a1).2)
def kq_8 (σ : zSt) (a1 a2 : Int32) : Prop := k_X_deliverAck σ a1 ∧ (∀ k u, (k, u) = f_L_deliverAck σ a1 → k_M_deliverAck u a1 ∧ ∀ r u2, (r, u2) = f_M_deliverAck u a1 → f_M_thrown u2 = k ∧ (k = 0 → u2 25 0 = r))
def nx_9 (σ : zSt) (a1 a2 : Int32) : zSt := zseq (f_L_loseAck σ a1) (fun _ u => (f_M_loseAck u a1).2)
def kq_9 (σ : zSt) (a1 a2 : Int32) : Prop := k_X_loseAck σ a1 ∧ (∀ k u, (k, u) = f_L_loseAck σ a1 → k_M_loseAck u a1 ∧ ∀ r u2, (r, u2) = f_M_loseAck u a1 → f_M_thrown u2 = k ∧ (k = 0 → u2 25 0 = r))
def nx_10 (σ : zSt) (a1 a2 : Int32) : zSt := (f_M_segments σ).2
def kq_10 (σ : zSt) (a1 a2 : Int32) : Prop := f_X_segments σ = (f_M_segments σ).1
def nx_11 (σ : zSt) (a1 a2 : Int32) : zSt := zseq (f_L_startOf σ a1) (fun _ u => (f_M_startOf u a1).2)
def kq_11 (σ : zSt) (a1 a2 : Int32) : Prop := k_X_startOf σ a1 ∧ (∀ k u, (k, u) = f_L_startOf σ a1 → k_M_startOf u a1 ∧ ∀ r u2, (r, u2) = f_M_startOf u a1 → f_M_thrown u2 = k ∧ (k = 0 → u2 25 0 = r))
def nx_12 (σ : zSt) (a1 a2 : Int32) : zSt := zseq (f_L_endOf σ a1) (fun _ u => (f_M_endOf u a1).2)
def kq_12 (σ : zSt) (a1 a2 : Int32) : Prop := k_X_endOf σ a1 ∧ (∀ k u, (k, u) = f_L_endOf σ a1 → k_M_endOf u a1 ∧ ∀ r u2, (r, u2) = f_M_endOf u a1 → f_M_thrown u2 = k ∧ (k = 0 → u2 25 0 = r))
def nx_13 (σ : zSt) (a1 a2 : Int32) : zSt := (f_M_acks σ).2
def kq_13 (σ : zSt) (a1 a2 : Int32) : Prop := f_X_acks σ = (f_M_acks σ).1
def nx_14 (σ : zSt) (a1 a2 : Int32) : zSt := zseq (f_L_ackNumber σ a1) (fun _ u => (f_M_ackNumber u a1).2)
def kq_14 (σ : zSt) (a1 a2 : Int32) : Prop := k_X_ackNumber σ a1 ∧ (∀ k u, (k, u) = f_L_ackNumber σ a1 → k_M_ackNumber u a1 ∧ ∀ r u2, (r, u2) = f_M_ackNumber u a1 → f_M_thrown u2 = k ∧ (k = 0 → u2 25 0 = r))
def nx_15 (σ : zSt) (a1 a2 : Int32) : zSt := zseq (f_L_ackWindow σ a1) (fun _ u => (f_M_ackWindow u a1).2)
def kq_15 (σ : zSt) (a1 a2 : Int32) : Prop := k_X_ackWindow σ a1 ∧ (∀ k u, (k, u) = f_L_ackWindow σ a1 → k_M_ackWindow u a1 ∧ ∀ r u2, (r, u2) = f_M_ackWindow u a1 → f_M_thrown u2 = k ∧ (k = 0 → u2 25 0 = r))
def nx_16 (σ : zSt) (a1 a2 : Int32) : zSt := zseq (f_L_ackBlocks σ a1) (fun _ u => (f_M_ackBlocks u a1).2)
def kq_16 (σ : zSt) (a1 a2 : Int32) : Prop := k_X_ackBlocks σ a1 ∧ (∀ k u, (k, u) = f_L_ackBlocks σ a1 → k_M_ackBlocks u a1 ∧ ∀ r u2, (r, u2) = f_M_ackBlocks u a1 → f_M_thrown u2 = k ∧ (k = 0 → u2 25 0 = r))
def nx_17 (σ : zSt) (a1 a2 : Int32) : zSt := zseq (f_L_ackBlock σ a1 a2) (fun _ u => (f_M_ackBlock u a1 a2).2)
def kq_17 (σ : zSt) (a1 a2 : Int32) : Prop := k_X_ackBlock σ a1 a2 ∧ (∀ k u, (k, u) = f_L_ackBlock σ a1 a2 → k_M_ackBlock u a1 a2 ∧ ∀ r u2, (r, u2) = f_M_ackBlock u a1 a2 → f_M_thrown u2 = k ∧ (k = 0 → u2 25 0 = r))
def nx_18 (σ : zSt) (a1 a2 : Int32) : zSt := (f_M_time σ).2
def kq_18 (σ : zSt) (a1 a2 : Int32) : Prop := f_X_time σ = (f_M_time σ).1
def nx_19 (σ : zSt) (a1 a2 : Int32) : zSt := (f_M_acknowledged σ).2
def kq_19 (σ : zSt) (a1 a2 : Int32) : Prop := f_X_acknowledged σ = (f_M_acknowledged σ).1
def nx_20 (σ : zSt) (a1 a2 : Int32) : zSt := (f_M_next σ).2
def kq_20 (σ : zSt) (a1 a2 : Int32) : Prop := f_X_next σ = (f_M_next σ).1
def nx_21 (σ : zSt) (a1 a2 : Int32) : zSt := (f_M_highest σ).2
def kq_21 (σ : zSt) (a1 a2 : Int32) : Prop := f_X_highest σ = (f_M_highest σ).1
def nx_22 (σ : zSt) (a1 a2 : Int32) : zSt := (f_M_written σ).2
def kq_22 (σ : zSt) (a1 a2 : Int32) : Prop := f_X_written σ = (f_M_written σ).1
def nx_23 (σ : zSt) (a1 a2 : Int32) : zSt := (f_M_edge σ).2
def kq_23 (σ : zSt) (a1 a2 : Int32) : Prop := f_X_edge σ = (f_M_edge σ).1
def nx_24 (σ : zSt) (a1 a2 : Int32) : zSt := (f_M_inFlight σ).2
def kq_24 (σ : zSt) (a1 a2 : Int32) : Prop := k_X_inFlight σ ∧ (k_M_inFlight σ ∧ f_X_inFlight σ = (f_M_inFlight σ).1)
def nx_25 (σ : zSt) (a1 a2 : Int32) : zSt := zseq (f_L_isMarked σ a1) (fun _ u => (f_M_isMarked u a1).2)
def kq_25 (σ : zSt) (a1 a2 : Int32) : Prop := k_X_isMarked σ a1 ∧ (∀ k u, (k, u) = f_L_isMarked σ a1 → k_M_isMarked u a1 ∧ ∀ r u2, (r, u2) = f_M_isMarked u a1 → f_M_thrown u2 = k ∧ (k = 0 → u2 25 0 = (if r = 0 then 0 else 1)))
def nx_26 (σ : zSt) (a1 a2 : Int32) : zSt := (f_M_congestionWindow σ).2
def kq_26 (σ : zSt) (a1 a2 : Int32) : Prop := f_X_congestionWindow σ = (f_M_congestionWindow σ).1
def nx_27 (σ : zSt) (a1 a2 : Int32) : zSt := (f_M_threshold σ).2
def kq_27 (σ : zSt) (a1 a2 : Int32) : Prop := f_X_threshold σ = (f_M_threshold σ).1
def nx_28 (σ : zSt) (a1 a2 : Int32) : zSt := (f_M_duplicates σ).2
def kq_28 (σ : zSt) (a1 a2 : Int32) : Prop := f_X_duplicates σ = (f_M_duplicates σ).1
def nx_29 (σ : zSt) (a1 a2 : Int32) : zSt := (f_M_recoveryEnd σ).2
def kq_29 (σ : zSt) (a1 a2 : Int32) : Prop := f_X_recoveryEnd σ = (f_M_recoveryEnd σ).1
def nx_30 (σ : zSt) (a1 a2 : Int32) : zSt := (f_M_timeout σ).2
def kq_30 (σ : zSt) (a1 a2 : Int32) : Prop := f_X_timeout σ = (f_M_timeout σ).1
def nx_31 (σ : zSt) (a1 a2 : Int32) : zSt := (f_M_timerEnd σ).2
def kq_31 (σ : zSt) (a1 a2 : Int32) : Prop := f_X_timerEnd σ = (f_M_timerEnd σ).1
def nx_32 (σ : zSt) (a1 a2 : Int32) : zSt := (f_M_roundTrip σ).2
def kq_32 (σ : zSt) (a1 a2 : Int32) : Prop := f_X_roundTrip σ = (f_M_roundTrip σ).1
def nx_33 (σ : zSt) (a1 a2 : Int32) : zSt := (f_M_variation σ).2
def kq_33 (σ : zSt) (a1 a2 : Int32) : Prop := f_X_variation σ = (f_M_variation σ).1
def nx_34 (σ : zSt) (a1 a2 : Int32) : zSt := (f_M_timedEnd σ).2
def kq_34 (σ : zSt) (a1 a2 : Int32) : Prop := f_X_timedEnd σ = (f_M_timedEnd σ).1
def nx_35 (σ : zSt) (a1 a2 : Int32) : zSt := (f_M_sent σ).2
def kq_35 (σ : zSt) (a1 a2 : Int32) : Prop := f_X_sent σ = (f_M_sent σ).1
def nx_36 (σ : zSt) (a1 a2 : Int32) : zSt := (f_M_sentAgain σ).2
def kq_36 (σ : zSt) (a1 a2 : Int32) : Prop := f_X_sentAgain σ = (f_M_sentAgain σ).1
def nx_37 (σ : zSt) (a1 a2 : Int32) : zSt := (f_M_inOrder σ).2
def kq_37 (σ : zSt) (a1 a2 : Int32) : Prop := f_X_inOrder σ = (f_M_inOrder σ).1
def nx_38 (σ : zSt) (a1 a2 : Int32) : zSt := (f_M_readPosition σ).2
def kq_38 (σ : zSt) (a1 a2 : Int32) : Prop := f_X_readPosition σ = (f_M_readPosition σ).1
def nx_39 (σ : zSt) (a1 a2 : Int32) : zSt := (f_M_window σ).2
def kq_39 (σ : zSt) (a1 a2 : Int32) : Prop := f_X_window σ = (f_M_window σ).1
def nx_40 (σ : zSt) (a1 a2 : Int32) : zSt := (f_M_blocks σ).2
def kq_40 (σ : zSt) (a1 a2 : Int32) : Prop := k_X_blocks σ ∧ (k_M_blocks σ ∧ f_X_blocks σ = (f_M_blocks σ).1)
def nx_41 (σ : zSt) (a1 a2 : Int32) : zSt := zseq (f_L_blockStart σ a1) (fun _ u => (f_M_blockStart u a1).2)
def kq_41 (σ : zSt) (a1 a2 : Int32) : Prop := k_X_blockStart σ a1 ∧ (∀ k u, (k, u) = f_L_blockStart σ a1 → k_M_blockStart u a1 ∧ ∀ r u2, (r, u2) = f_M_blockStart u a1 → f_M_thrown u2 = k ∧ (k = 0 → u2 25 0 = r))
def nx_42 (σ : zSt) (a1 a2 : Int32) : zSt := zseq (f_L_blockEnd σ a1) (fun _ u => (f_M_blockEnd u a1).2)
def kq_42 (σ : zSt) (a1 a2 : Int32) : Prop := k_X_blockEnd σ a1 ∧ (∀ k u, (k, u) = f_L_blockEnd σ a1 → k_M_blockEnd u a1 ∧ ∀ r u2, (r, u2) = f_M_blockEnd u a1 → f_M_thrown u2 = k ∧ (k = 0 → u2 25 0 = r))
def zStep (j : Nat) (σ : zSt) (a1 a2 : Int32) : zSt := match j with
  | 0 => nx_0 σ a1 a2
  | 1 => nx_1 σ a1 a2
  | 2 => nx_2 σ a1 a2
  | 3 => nx_3 σ a1 a2
  | 4 => nx_4 σ a1 a2
  | 5 => nx_5 σ a1 a2
  | 6 => nx_6 σ a1 a2
  | 7 => nx_7 σ a1 a2
  | 8 => nx_8 σ a1 a2
  | 9 => nx_9 σ a1 a2
  | 10 => nx_10 σ a1 a2
  | 11 => nx_11 σ a1 a2
  | 12 => nx_12 σ a1 a2
  | 13 => nx_13 σ a1 a2
  | 14 => nx_14 σ a1 a2
  | 15 => nx_15 σ a1 a2
  | 16 => nx_16 σ a1 a2
  | 17 => nx_17 σ a1 a2
  | 18 => nx_18 σ a1 a2
  | 19 => nx_19 σ a1 a2
  | 20 => nx_20 σ a1 a2
  | 21 => nx_21 σ a1 a2
  | 22 => nx_22 σ a1 a2
  | 23 => nx_23 σ a1 a2
  | 24 => nx_24 σ a1 a2
  | 25 => nx_25 σ a1 a2
  | 26 => nx_26 σ a1 a2
  | 27 => nx_27 σ a1 a2
  | 28 => nx_28 σ a1 a2
  | 29 => nx_29 σ a1 a2
  | 30 => nx_30 σ a1 a2
  | 31 => nx_31 σ a1 a2
  | 32 => nx_32 σ a1 a2
  | 33 => nx_33 σ a1 a2
  | 34 => nx_34 σ a1 a2
  | 35 => nx_35 σ a1 a2
  | 36 => nx_36 σ a1 a2
  | 37 => nx_37 σ a1 a2
  | 38 => nx_38 σ a1 a2
  | 39 => nx_39 σ a1 a2
  | 40 => nx_40 σ a1 a2
  | 41 => nx_41 σ a1 a2
  | 42 => nx_42 σ a1 a2
  | _ => σ
def zStepOk (j : Nat) (σ : zSt) (a1 a2 : Int32) : Prop := match j with
  | 0 => kq_0 σ a1 a2
  | 1 => kq_1 σ a1 a2
  | 2 => kq_2 σ a1 a2
  | 3 => kq_3 σ a1 a2
  | 4 => kq_4 σ a1 a2
  | 5 => kq_5 σ a1 a2
  | 6 => kq_6 σ a1 a2
  | 7 => kq_7 σ a1 a2
  | 8 => kq_8 σ a1 a2
  | 9 => kq_9 σ a1 a2
  | 10 => kq_10 σ a1 a2
  | 11 => kq_11 σ a1 a2
  | 12 => kq_12 σ a1 a2
  | 13 => kq_13 σ a1 a2
  | 14 => kq_14 σ a1 a2
  | 15 => kq_15 σ a1 a2
  | 16 => kq_16 σ a1 a2
  | 17 => kq_17 σ a1 a2
  | 18 => kq_18 σ a1 a2
  | 19 => kq_19 σ a1 a2
  | 20 => kq_20 σ a1 a2
  | 21 => kq_21 σ a1 a2
  | 22 => kq_22 σ a1 a2
  | 23 => kq_23 σ a1 a2
  | 24 => kq_24 σ a1 a2
  | 25 => kq_25 σ a1 a2
  | 26 => kq_26 σ a1 a2
  | 27 => kq_27 σ a1 a2
  | 28 => kq_28 σ a1 a2
  | 29 => kq_29 σ a1 a2
  | 30 => kq_30 σ a1 a2
  | 31 => kq_31 σ a1 a2
  | 32 => kq_32 σ a1 a2
  | 33 => kq_33 σ a1 a2
  | 34 => kq_34 σ a1 a2
  | 35 => kq_35 σ a1 a2
  | 36 => kq_36 σ a1 a2
  | 37 => kq_37 σ a1 a2
  | 38 => kq_38 σ a1 a2
  | 39 => kq_39 σ a1 a2
  | 40 => kq_40 σ a1 a2
  | 41 => kq_41 σ a1 a2
  | 42 => kq_42 σ a1 a2
  | _ => True
def zRunOk (xs : Nat → Int32) : Nat → Nat → zSt → Prop
  | 0, _, _ => True
  | m + 1, p, σ => zStepOk (xs p &&& 63).toInt.toNat σ (xs (p + 1)) (xs (p + 2)) ∧ zRunOk xs m (p + 3) (zStep (xs p &&& 63).toInt.toNat σ (xs (p + 1)) (xs (p + 2)))
