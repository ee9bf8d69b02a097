def zcol (c : Nat) : Int32 := if c = 9 then 2 else 9
def zln (c : Nat) : Nat := if c = 9 then 80 else 360
def zlen (c : Nat) : Int32 := if c = 9 then 80 else 360
def f_P_at (c : Nat) (σ : zSt) (a1 : Int32) : Int32 := (if a1 < 0 then 0 else (if 600 ≤ a1 then 0 else (σ (c + 1) a1.toNatClampNeg)))
def k_P_at (c : Nat) (σ : zSt) (a1 : Int32) : Prop := (¬ a1 < 0 → (¬ 600 ≤ a1 → (vp_in a1 600)))
def l_P_fillEmpty_10 (c : Nat) (x2 x3 : Int32) : Nat → zSt → Int32 → Int32 → Int32 × zSt
  | 0, σ, _, _ => (0, σ)
  | m + 1, σ, x4, x5 => (if x2 ≤ x5 then (x4, σ) else (if 600 ≤ x5 then (x4, σ) else (if (σ (c + 1) x5.toNatClampNeg) = 0 then (l_P_fillEmpty_10 c x2 x3 m (zuf σ (c + 1) x5.toNatClampNeg x3) (x4 + 1) (x5 + 1)) else (l_P_fillEmpty_10 c x2 x3 m σ x4 (x5 + 1)))))
def kl_P_fillEmpty_10 (c : Nat) (x2 x3 : Int32) : Nat → zSt → Int32 → Int32 → Prop
  | 0, _, _, _ => False
  | m + 1, σ, x4, x5 => (¬ x2 ≤ x5 → (¬ 600 ≤ x5 → (vp_in x5 600 ∧ (((σ (c + 1) x5.toNatClampNeg) = 0 → (vp_in x5 600 ∧ (kl_P_fillEmpty_10 c x2 x3 m (zuf σ (c + 1) x5.toNatClampNeg x3) (x4 + 1) (x5 + 1)))) ∧ (¬ (σ (c + 1) x5.toNatClampNeg) = 0 → (kl_P_fillEmpty_10 c x2 x3 m σ x4 (x5 + 1)))))))
def f_P_fillEmpty (c : Nat) (σ : zSt) (a1 : Int32) (a2 : Int32) (a3 : Int32) : Int32 × zSt := zlet (l_P_fillEmpty_10 c a2 a3 (((a2).toInt - ((if a1 < 0 then 0 else a1)).toInt).toNat + 2) σ 0 (if a1 < 0 then 0 else a1)) (fun r6 => (r6.1, r6.2))
def k_P_fillEmpty (c : Nat) (σ : zSt) (a1 : Int32) (a2 : Int32) (a3 : Int32) : Prop := (kl_P_fillEmpty_10 c a2 a3 (((a2).toInt - ((if a1 < 0 then 0 else a1)).toInt).toNat + 2) σ 0 (if a1 < 0 then 0 else a1))
def l_P_empty_6 (c : Nat) (x2 : Int32) : Nat → zSt → Int32 → zSt
  | 0, σ, _ => σ
  | m + 1, σ, x3 => (if x2 ≤ x3 then σ else (if 600 ≤ x3 then σ else (l_P_empty_6 c x2 m (zuf σ (c + 1) x3.toNatClampNeg 0) (x3 + 1))))
def kl_P_empty_6 (c : Nat) (x2 : Int32) : Nat → zSt → Int32 → Prop
  | 0, _, _ => False
  | m + 1, σ, x3 => (¬ x2 ≤ x3 → (¬ 600 ≤ x3 → (vp_in x3 600 ∧ (kl_P_empty_6 c x2 m (zuf σ (c + 1) x3.toNatClampNeg 0) (x3 + 1)))))
def f_P_empty (c : Nat) (σ : zSt) (a1 : Int32) (a2 : Int32) : zSt := zlet (l_P_empty_6 c a2 (((a2).toInt - ((if a1 < 0 then 0 else a1)).toInt).toNat + 2) σ (if a1 < 0 then 0 else a1)) (fun r4 => r4)
def k_P_empty (c : Nat) (σ : zSt) (a1 : Int32) (a2 : Int32) : Prop := (kl_P_empty_6 c a2 (((a2).toInt - ((if a1 < 0 then 0 else a1)).toInt).toNat + 2) σ (if a1 < 0 then 0 else a1))
def l_P_countEmpty_5 (c : Nat) (σ : zSt) (x2 : Int32) : Nat → Int32 → Int32 → Int32
  | 0, _, _ => 0
  | m + 1, x3, x4 => (if x2 ≤ x4 then x3 else zlet (f_P_at c σ x4) (fun r2 => (if r2 = 0 then (l_P_countEmpty_5 c σ x2 m (x3 + 1) (x4 + 1)) else (l_P_countEmpty_5 c σ x2 m x3 (x4 + 1)))))
def kl_P_countEmpty_5 (c : Nat) (σ : zSt) (x2 : Int32) : Nat → Int32 → Int32 → Prop
  | 0, _, _ => False
  | m + 1, x3, x4 => (¬ x2 ≤ x4 → ((k_P_at c σ x4) ∧ (∀ r2, r2 = (f_P_at c σ x4) → ((r2 = 0 → (kl_P_countEmpty_5 c σ x2 m (x3 + 1) (x4 + 1))) ∧ (¬ r2 = 0 → (kl_P_countEmpty_5 c σ x2 m x3 (x4 + 1)))))))
def f_P_countEmpty (c : Nat) (σ : zSt) (a1 : Int32) (a2 : Int32) : Int32 := zlet (l_P_countEmpty_5 c σ a2 (((a2).toInt - (a1).toInt).toNat + 2) 0 a1) (fun r5 => r5)
def k_P_countEmpty (c : Nat) (σ : zSt) (a1 : Int32) (a2 : Int32) : Prop := (kl_P_countEmpty_5 c σ a2 (((a2).toInt - (a1).toInt).toNat + 2) 0 a1)
def l_P_firstEmpty_2 (c : Nat) (σ : zSt) (x2 : Int32) : Nat → Int32 → Int32
  | 0, _ => 0
  | m + 1, x3 => (if x2 ≤ x3 then x3 else zlet (f_P_at c σ x3) (fun r2 => (if r2 = 0 then x3 else (l_P_firstEmpty_2 c σ x2 m (x3 + 1)))))
def kl_P_firstEmpty_2 (c : Nat) (σ : zSt) (x2 : Int32) : Nat → Int32 → Prop
  | 0, _ => False
  | m + 1, x3 => (¬ x2 ≤ x3 → ((k_P_at c σ x3) ∧ (∀ r2, r2 = (f_P_at c σ x3) → (¬ r2 = 0 → (kl_P_firstEmpty_2 c σ x2 m (x3 + 1))))))
def f_P_firstEmpty (c : Nat) (σ : zSt) (a1 : Int32) (a2 : Int32) : Int32 := zlet (l_P_firstEmpty_2 c σ a2 (((a2).toInt - (a1).toInt).toNat + 2) a1) (fun r5 => r5)
def k_P_firstEmpty (c : Nat) (σ : zSt) (a1 : Int32) (a2 : Int32) : Prop := (kl_P_firstEmpty_2 c σ a2 (((a2).toInt - (a1).toInt).toNat + 2) a1)
def l_P_firstFilled_2 (c : Nat) (σ : zSt) (x2 : Int32) : Nat → Int32 → Int32
  | 0, _ => 0
  | m + 1, x3 => (if x2 ≤ x3 then x3 else zlet (f_P_at c σ x3) (fun r2 => (if r2 = 0 then (l_P_firstFilled_2 c σ x2 m (x3 + 1)) else x3)))
def kl_P_firstFilled_2 (c : Nat) (σ : zSt) (x2 : Int32) : Nat → Int32 → Prop
  | 0, _ => False
  | m + 1, x3 => (¬ x2 ≤ x3 → ((k_P_at c σ x3) ∧ (∀ r2, r2 = (f_P_at c σ x3) → (r2 = 0 → (kl_P_firstFilled_2 c σ x2 m (x3 + 1))))))
def f_P_firstFilled (c : Nat) (σ : zSt) (a1 : Int32) (a2 : Int32) : Int32 := zlet (l_P_firstFilled_2 c σ a2 (((a2).toInt - (a1).toInt).toNat + 2) a1) (fun r5 => r5)
def k_P_firstFilled (c : Nat) (σ : zSt) (a1 : Int32) (a2 : Int32) : Prop := (kl_P_firstFilled_2 c σ a2 (((a2).toInt - (a1).toInt).toNat + 2) a1)
def l_P_greatest_5 (c : Nat) (σ : zSt) (x2 : Int32) : Nat → Int32 → Int32 → Int32
  | 0, _, _ => 0
  | m + 1, x3, x4 => (if x2 ≤ x4 then x3 else zlet (f_P_at c σ x4) (fun r2 => (l_P_greatest_5 c σ x2 m (if x3 < r2 then r2 else x3) (x4 + 1))))
def kl_P_greatest_5 (c : Nat) (σ : zSt) (x2 : Int32) : Nat → Int32 → Int32 → Prop
  | 0, _, _ => False
  | m + 1, x3, x4 => (¬ x2 ≤ x4 → ((k_P_at c σ x4) ∧ (∀ r2, r2 = (f_P_at c σ x4) → (kl_P_greatest_5 c σ x2 m (if x3 < r2 then r2 else x3) (x4 + 1)))))
def f_P_greatest (c : Nat) (σ : zSt) (a1 : Int32) (a2 : Int32) : Int32 := zlet (l_P_greatest_5 c σ a2 (((a2).toInt - (a1).toInt).toNat + 2) 0 a1) (fun r4 => r4)
def k_P_greatest (c : Nat) (σ : zSt) (a1 : Int32) (a2 : Int32) : Prop := (kl_P_greatest_5 c σ a2 (((a2).toInt - (a1).toInt).toNat + 2) 0 a1)
def f_W_holds (c : Nat) (σ : zSt) (a1 : Int32) : Int32 := (if a1 < 0 then 0 else (if (σ c 2) ≤ a1 then 0 else 1))
def f_W_isFull (c : Nat) (σ : zSt) : Int32 := (if (σ c 2) < 40 then 0 else 1)
def f_W_cell (c : Nat) (σ : zSt) (a1 : Int32) (a2 : Int32) : Int32 := (if ((a1 * (zcol c)) + a2) < 0 then (-1) else (if (zlen c) ≤ ((a1 * (zcol c)) + a2) then (-1) else (σ (c + 1) (((a1 * (zcol c)) + a2) : Int32).toNatClampNeg)))
def k_W_cell (c : Nat) (σ : zSt) (a1 : Int32) (a2 : Int32) : Prop := (¬ ((a1 * (zcol c)) + a2) < 0 → (¬ (zlen c) ≤ ((a1 * (zcol c)) + a2) → (vp_in ((a1 * (zcol c)) + a2) (zln c))))
def f_W_setCell (c : Nat) (σ : zSt) (a1 : Int32) (a2 : Int32) (a3 : Int32) : zSt := (if ((a1 * (zcol c)) + a2) < 0 then σ else (if (zlen c) ≤ ((a1 * (zcol c)) + a2) then σ else (zuf σ (c + 1) (((a1 * (zcol c)) + a2) : Int32).toNatClampNeg a3)))
def k_W_setCell (c : Nat) (σ : zSt) (a1 : Int32) (a2 : Int32) (a3 : Int32) : Prop := (¬ ((a1 * (zcol c)) + a2) < 0 → (¬ (zlen c) ≤ ((a1 * (zcol c)) + a2) → (vp_in ((a1 * (zcol c)) + a2) (zln c))))
def f_W_addRow (c : Nat) (σ : zSt) : Int32 × zSt := (if 40 ≤ (σ c 2) then (((σ c 2) - 1), σ) else ((((σ c 2) + 1) - 1), (zuf σ c 2 ((σ c 2) + 1))))
def l_W_remove_26 (c : Nat) : Nat → zSt → Int32 → zSt
  | 0, σ, _ => σ
  | m + 1, σ, x2 => (if ((σ c 2) * (zcol c)) ≤ x2 then σ else (if x2 < 0 then σ else (if (zlen c) ≤ (x2 + (zcol c)) then σ else (l_W_remove_26 c m (zuf σ (c + 1) x2.toNatClampNeg (σ (c + 1) ((x2 + (zcol c)) : Int32).toNatClampNeg)) (x2 + 1)))))
def kl_W_remove_26 (c : Nat) : Nat → zSt → Int32 → Prop
  | 0, _, _ => False
  | m + 1, σ, x2 => (¬ ((σ c 2) * (zcol c)) ≤ x2 → (¬ x2 < 0 → (¬ (zlen c) ≤ (x2 + (zcol c)) → (vp_in (x2 + (zcol c)) (zln c) ∧ (vp_in x2 (zln c) ∧ (kl_W_remove_26 c m (zuf σ (c + 1) x2.toNatClampNeg (σ (c + 1) ((x2 + (zcol c)) : Int32).toNatClampNeg)) (x2 + 1)))))))
def f_W_remove (c : Nat) (σ : zSt) (a1 : Int32) : zSt := zlet (f_W_holds c σ a1) (fun r1 => (if r1 = 0 then σ else zlet (l_W_remove_26 c ((((((zuf σ c 2 ((σ c 2) - 1)) c 2) * (zcol c))).toInt - ((a1 * (zcol c))).toInt).toNat + 2) (zuf σ c 2 ((σ c 2) - 1)) (a1 * (zcol c))) (fun r9 => r9)))
def k_W_remove (c : Nat) (σ : zSt) (a1 : Int32) : Prop := (∀ r1, r1 = (f_W_holds c σ a1) → (¬ r1 = 0 → (kl_W_remove_26 c ((((((zuf σ c 2 ((σ c 2) - 1)) c 2) * (zcol c))).toInt - ((a1 * (zcol c))).toInt).toNat + 2) (zuf σ c 2 ((σ c 2) - 1)) (a1 * (zcol c)))))
def f_T_passTick (σ : zSt) : Int32 × zSt := (if (σ 5 2) = (-1) then (0, (zuf σ 5 0 ((σ 5 0) + 1))) else (if ((σ 5 0) + 1) = (σ 5 2) then (1, (zuf σ 5 0 ((σ 5 0) + 1))) else (0, (zuf σ 5 0 ((σ 5 0) + 1)))))
def f_T_startAnew (σ : zSt) : zSt := (zuf σ 5 2 ((σ 5 0) + (σ 5 1)))
def f_T_startIfStopped (σ : zSt) : zSt := (if (σ 5 2) = (-1) then zlet (f_T_startAnew σ) (fun u2 => u2) else σ)
def f_T_stop (σ : zSt) : zSt := (zuf σ 5 2 (-1))
def f_T_forgetTiming (σ : zSt) : zSt := (zuf σ 5 3 (-1))
def f_T_backOff (σ : zSt) : zSt := zlet (f_T_forgetTiming (zuf σ 5 1 (if (2 * (σ 5 1)) < 64 then (2 * (σ 5 1)) else 64))) (fun u1 => zlet (f_T_stop u1) (fun u3 => u3))
def f_T_timeSegment (σ : zSt) (a1 : Int32) : zSt := (if (σ 5 3) = (-1) then (zuf (zuf σ 5 3 a1) 5 6 (σ 5 0)) else σ)
def f_T_takeSample (σ : zSt) (a1 : Int32) : zSt := (if (σ 5 7) = 0 then (zuf (zuf (zuf (zuf σ 5 4 (8 * a1)) 5 5 (2 * a1)) 5 7 1) 5 1 (if (if 2 < (((8 * a1) / 8) + (if (2 * a1) < 1 then 1 else (2 * a1))) then (((8 * a1) / 8) + (if (2 * a1) < 1 then 1 else (2 * a1))) else 2) < 64 then (if 2 < (((8 * a1) / 8) + (if (2 * a1) < 1 then 1 else (2 * a1))) then (((8 * a1) / 8) + (if (2 * a1) < 1 then 1 else (2 * a1))) else 2) else 64)) else (zuf (zuf (zuf σ 5 4 ((σ 5 4) + (a1 - ((σ 5 4) / 8)))) 5 5 ((σ 5 5) + ((if 0 ≤ (a1 - ((σ 5 4) / 8)) then (a1 - ((σ 5 4) / 8)) else 0 - (a1 - ((σ 5 4) / 8))) - ((σ 5 5) / 4)))) 5 1 (if (if 2 < ((((σ 5 4) + (a1 - ((σ 5 4) / 8))) / 8) + (if ((σ 5 5) + ((if 0 ≤ (a1 - ((σ 5 4) / 8)) then (a1 - ((σ 5 4) / 8)) else 0 - (a1 - ((σ 5 4) / 8))) - ((σ 5 5) / 4))) < 1 then 1 else ((σ 5 5) + ((if 0 ≤ (a1 - ((σ 5 4) / 8)) then (a1 - ((σ 5 4) / 8)) else 0 - (a1 - ((σ 5 4) / 8))) - ((σ 5 5) / 4))))) then ((((σ 5 4) + (a1 - ((σ 5 4) / 8))) / 8) + (if ((σ 5 5) + ((if 0 ≤ (a1 - ((σ 5 4) / 8)) then (a1 - ((σ 5 4) / 8)) else 0 - (a1 - ((σ 5 4) / 8))) - ((σ 5 5) / 4))) < 1 then 1 else ((σ 5 5) + ((if 0 ≤ (a1 - ((σ 5 4) / 8)) then (a1 - ((σ 5 4) / 8)) else 0 - (a1 - ((σ 5 4) / 8))) - ((σ 5 5) / 4))))) else 2) < 64 then (if 2 < ((((σ 5 4) + (a1 - ((σ 5 4) / 8))) / 8) + (if ((σ 5 5) + ((if 0 ≤ (a1 - ((σ 5 4) / 8)) then (a1 - ((σ 5 4) / 8)) else 0 - (a1 - ((σ 5 4) / 8))) - ((σ 5 5) / 4))) < 1 then 1 else ((σ 5 5) + ((if 0 ≤ (a1 - ((σ 5 4) / 8)) then (a1 - ((σ 5 4) / 8)) else 0 - (a1 - ((σ 5 4) / 8))) - ((σ 5 5) / 4))))) then ((((σ 5 4) + (a1 - ((σ 5 4) / 8))) / 8) + (if ((σ 5 5) + ((if 0 ≤ (a1 - ((σ 5 4) / 8)) then (a1 - ((σ 5 4) / 8)) else 0 - (a1 - ((σ 5 4) / 8))) - ((σ 5 5) / 4))) < 1 then 1 else ((σ 5 5) + ((if 0 ≤ (a1 - ((σ 5 4) / 8)) then (a1 - ((σ 5 4) / 8)) else 0 - (a1 - ((σ 5 4) / 8))) - ((σ 5 5) / 4))))) else 2) else 64)))
def f_T_endTiming (σ : zSt) (a1 : Int32) : zSt := (if (σ 5 3) = (-1) then σ else (if a1 < (σ 5 3) then σ else zlet (f_T_takeSample σ ((σ 5 0) - (σ 5 6))) (fun u3 => zlet (f_T_forgetTiming u3) (fun u5 => u5))))
def f_R_room (σ : zSt) : Int32 := (((σ 6 3) + 32) - (σ 6 2))
def f_R_takeBytes (σ : zSt) (a1 : Int32) (a2 : Int32) : Int32 × zSt := zseq (f_P_fillEmpty 7 (zuf σ 6 1 ((σ 6 1) + 1)) a1 (if ((σ 6 3) + 32) < a2 then ((σ 6 3) + 32) else a2) ((σ 6 1) + 1)) (fun r1 u2 => zlet (f_P_firstEmpty 7 u2 (u2 6 2) 600) (fun r4 => (r1, (zuf u2 6 2 r4))))
def k_R_takeBytes (σ : zSt) (a1 : Int32) (a2 : Int32) : Prop := ((k_P_fillEmpty 7 (zuf σ 6 1 ((σ 6 1) + 1)) a1 (if ((σ 6 3) + 32) < a2 then ((σ 6 3) + 32) else a2) ((σ 6 1) + 1)) ∧ (∀ r1 u2, (r1, u2) = (f_P_fillEmpty 7 (zuf σ 6 1 ((σ 6 1) + 1)) a1 (if ((σ 6 3) + 32) < a2 then ((σ 6 3) + 32) else a2) ((σ 6 1) + 1)) → (k_P_firstEmpty 7 u2 (u2 6 2) 600)))
def f_R_passByte (σ : zSt) : Int32 × zSt := zlet (f_R_room σ) (fun r1 => (if 4 ≤ r1 then (0, (zuf σ 6 3 ((σ 6 3) + 1))) else zlet (f_R_room (zuf σ 6 3 ((σ 6 3) + 1))) (fun r4 => (if r4 < 4 then (0, (zuf σ 6 3 ((σ 6 3) + 1))) else (1, (zuf σ 6 3 ((σ 6 3) + 1)))))))
def f_R_blockFrom (σ : zSt) (a1 : Int32) : Int32 := zlet (f_P_firstFilled 7 σ a1 ((σ 6 3) + 32)) (fun r1 => (if ((σ 6 3) + 32) ≤ r1 then (-1) else r1))
def k_R_blockFrom (σ : zSt) (a1 : Int32) : Prop := (k_P_firstFilled 7 σ a1 ((σ 6 3) + 32))
def f_R_endOfRun (σ : zSt) (a1 : Int32) : Int32 := zlet (f_P_firstEmpty 7 σ a1 600) (fun r1 => r1)
def k_R_endOfRun (σ : zSt) (a1 : Int32) : Prop := (k_P_firstEmpty 7 σ a1 600)
def l_R_newestBlockBefore_17 (σ : zSt) (x1 : Int32) : Nat → Int32 → Int32 → Int32 → Int32 → Int32
  | 0, _, _, _, _ => 0
  | m + 1, x2, x3, x4, x5 => (if 32 ≤ x5 then x3 else (if x4 = (-1) then x3 else zlet (f_R_endOfRun σ x4) (fun r5 => zlet (f_P_greatest 7 σ x4 r5) (fun r7 => (if r7 ≤ x2 then zlet (f_R_blockFrom σ r5) (fun r10 => (l_R_newestBlockBefore_17 σ x1 m x2 x3 r10 (x5 + 1))) else (if x1 ≤ r7 then zlet (f_R_blockFrom σ r5) (fun r13 => (l_R_newestBlockBefore_17 σ x1 m x2 x3 r13 (x5 + 1))) else zlet (f_R_blockFrom σ r5) (fun r15 => (l_R_newestBlockBefore_17 σ x1 m r7 x4 r15 (x5 + 1)))))))))
def kl_R_newestBlockBefore_17 (σ : zSt) (x1 : Int32) : Nat → Int32 → Int32 → Int32 → Int32 → Prop
  | 0, _, _, _, _ => False
  | m + 1, x2, x3, x4, x5 => (¬ 32 ≤ x5 → (¬ x4 = (-1) → ((k_R_endOfRun σ x4) ∧ (∀ r5, r5 = (f_R_endOfRun σ x4) → ((k_P_greatest 7 σ x4 r5) ∧ (∀ r7, r7 = (f_P_greatest 7 σ x4 r5) → ((r7 ≤ x2 → ((k_R_blockFrom σ r5) ∧ (∀ r10, r10 = (f_R_blockFrom σ r5) → (kl_R_newestBlockBefore_17 σ x1 m x2 x3 r10 (x5 + 1))))) ∧ (¬ r7 ≤ x2 → ((x1 ≤ r7 → ((k_R_blockFrom σ r5) ∧ (∀ r13, r13 = (f_R_blockFrom σ r5) → (kl_R_newestBlockBefore_17 σ x1 m x2 x3 r13 (x5 + 1))))) ∧ (¬ x1 ≤ r7 → ((k_R_blockFrom σ r5) ∧ (∀ r15, r15 = (f_R_blockFrom σ r5) → (kl_R_newestBlockBefore_17 σ x1 m r7 x4 r15 (x5 + 1))))))))))))))
def f_R_newestBlockBefore (σ : zSt) (a1 : Int32) : Int32 := zlet (f_R_blockFrom σ (σ 6 2)) (fun r1 => zlet (l_R_newestBlockBefore_17 σ a1 (((32 : Int32).toInt - (0 : Int32).toInt).toNat + 2) 0 (-1) r1 0) (fun r17 => r17))
def k_R_newestBlockBefore (σ : zSt) (a1 : Int32) : Prop := ((k_R_blockFrom σ (σ 6 2)) ∧ (∀ r1, r1 = (f_R_blockFrom σ (σ 6 2)) → (kl_R_newestBlockBefore_17 σ a1 (((32 : Int32).toInt - (0 : Int32).toInt).toNat + 2) 0 (-1) r1 0)))
def l_R_tellBlocks_13 (x2 : Int32) : Nat → zSt → Int32 → Int32 → Int32 → Int32 × zSt
  | 0, σ, _, _, _ => (0, σ)
  | m + 1, σ, x3, x4, x5 => (if 3 ≤ x5 then (x3, σ) else zlet (f_R_newestBlockBefore σ x4) (fun r2 => (if r2 = (-1) then (l_R_tellBlocks_13 x2 m σ x3 x4 (x5 + 1)) else zlet (f_R_endOfRun σ r2) (fun r5 => zlet (f_W_setCell 11 σ x2 (3 + (2 * x5)) r2) (fun u7 => zlet (f_W_setCell 11 u7 x2 ((3 + (2 * x5)) + 1) r5) (fun u9 => zlet (f_P_greatest 7 u9 r2 r5) (fun r11 => (l_R_tellBlocks_13 x2 m u9 (x3 + 1) r11 (x5 + 1)))))))))
def kl_R_tellBlocks_13 (x2 : Int32) : Nat → zSt → Int32 → Int32 → Int32 → Prop
  | 0, _, _, _, _ => False
  | m + 1, σ, x3, x4, x5 => (¬ 3 ≤ x5 → ((k_R_newestBlockBefore σ x4) ∧ (∀ r2, r2 = (f_R_newestBlockBefore σ x4) → ((r2 = (-1) → (kl_R_tellBlocks_13 x2 m σ x3 x4 (x5 + 1))) ∧ (¬ r2 = (-1) → ((k_R_endOfRun σ r2) ∧ (∀ r5, r5 = (f_R_endOfRun σ r2) → ((k_W_setCell 11 σ x2 (3 + (2 * x5)) r2) ∧ (∀ u7, u7 = (f_W_setCell 11 σ x2 (3 + (2 * x5)) r2) → ((k_W_setCell 11 u7 x2 ((3 + (2 * x5)) + 1) r5) ∧ (∀ u9, u9 = (f_W_setCell 11 u7 x2 ((3 + (2 * x5)) + 1) r5) → ((k_P_greatest 7 u9 r2 r5) ∧ (∀ r11, r11 = (f_P_greatest 7 u9 r2 r5) → (kl_R_tellBlocks_13 x2 m u9 (x3 + 1) r11 (x5 + 1)))))))))))))))
def f_R_tellBlocks (σ : zSt) (a2 : Int32) : Int32 × zSt := zlet (l_R_tellBlocks_13 a2 (((3 : Int32).toInt - (0 : Int32).toInt).toNat + 2) σ 0 ((σ 6 1) + 1) 0) (fun r13 => (r13.1, r13.2))
def k_R_tellBlocks (σ : zSt) (a2 : Int32) : Prop := (kl_R_tellBlocks_13 a2 (((3 : Int32).toInt - (0 : Int32).toInt).toNat + 2) σ 0 ((σ 6 1) + 1) 0)
def f_R_makeAck (σ : zSt) : zSt := zlet (f_W_isFull 11 σ) (fun r1 => (if r1 = 0 then zseq (f_W_addRow 11 σ) (fun r4 u5 => zlet (f_W_setCell 11 u5 r4 0 (u5 6 2)) (fun u7 => zlet (f_R_room u7) (fun r9 => zlet (f_W_setCell 11 u7 r4 1 r9) (fun u11 => zseq (f_R_tellBlocks u11 r4) (fun r13 u14 => zlet (f_W_setCell 11 u14 r4 2 r13) (fun u16 => u16)))))) else zlet (f_W_remove 11 σ 0) (fun u18 => zseq (f_W_addRow 11 u18) (fun r20 u21 => zlet (f_W_setCell 11 u21 r20 0 (u21 6 2)) (fun u23 => zlet (f_R_room u23) (fun r25 => zlet (f_W_setCell 11 u23 r20 1 r25) (fun u27 => zseq (f_R_tellBlocks u27 r20) (fun r29 u30 => zlet (f_W_setCell 11 u30 r20 2 r29) (fun u32 => u32)))))))))
def k_R_makeAck (σ : zSt) : Prop := (∀ r1, r1 = (f_W_isFull 11 σ) → ((r1 = 0 → (∀ r4 u5, (r4, u5) = (f_W_addRow 11 σ) → ((k_W_setCell 11 u5 r4 0 (u5 6 2)) ∧ (∀ u7, u7 = (f_W_setCell 11 u5 r4 0 (u5 6 2)) → (∀ r9, r9 = (f_R_room u7) → ((k_W_setCell 11 u7 r4 1 r9) ∧ (∀ u11, u11 = (f_W_setCell 11 u7 r4 1 r9) → ((k_R_tellBlocks u11 r4) ∧ (∀ r13 u14, (r13, u14) = (f_R_tellBlocks u11 r4) → (k_W_setCell 11 u14 r4 2 r13)))))))))) ∧ (¬ r1 = 0 → ((k_W_remove 11 σ 0) ∧ (∀ u18, u18 = (f_W_remove 11 σ 0) → (∀ r20 u21, (r20, u21) = (f_W_addRow 11 u18) → ((k_W_setCell 11 u21 r20 0 (u21 6 2)) ∧ (∀ u23, u23 = (f_W_setCell 11 u21 r20 0 (u21 6 2)) → (∀ r25, r25 = (f_R_room u23) → ((k_W_setCell 11 u23 r20 1 r25) ∧ (∀ u27, u27 = (f_W_setCell 11 u23 r20 1 r25) → ((k_R_tellBlocks u27 r20) ∧ (∀ r29 u30, (r29, u30) = (f_R_tellBlocks u27 r20) → (k_W_setCell 11 u30 r20 2 r29))))))))))))))
def l_R_countBlocks_13 (σ : zSt) : Nat → Int32 → Int32 → Int32 → Int32
  | 0, _, _, _ => 0
  | m + 1, x1, x2, x3 => (if 32 ≤ x3 then x1 else (if x2 = (-1) then x1 else zlet (f_R_endOfRun σ x2) (fun r5 => zlet (f_R_blockFrom σ r5) (fun r7 => (l_R_countBlocks_13 σ m (x1 + 1) r7 (x3 + 1))))))
def kl_R_countBlocks_13 (σ : zSt) : Nat → Int32 → Int32 → Int32 → Prop
  | 0, _, _, _ => False
  | m + 1, x1, x2, x3 => (¬ 32 ≤ x3 → (¬ x2 = (-1) → ((k_R_endOfRun σ x2) ∧ (∀ r5, r5 = (f_R_endOfRun σ x2) → ((k_R_blockFrom σ r5) ∧ (∀ r7, r7 = (f_R_blockFrom σ r5) → (kl_R_countBlocks_13 σ m (x1 + 1) r7 (x3 + 1))))))))
def f_R_countBlocks (σ : zSt) : Int32 := zlet (f_R_blockFrom σ (σ 6 2)) (fun r1 => zlet (l_R_countBlocks_13 σ (((32 : Int32).toInt - (0 : Int32).toInt).toNat + 2) 0 r1 0) (fun r9 => r9))
def k_R_countBlocks (σ : zSt) : Prop := ((k_R_blockFrom σ (σ 6 2)) ∧ (∀ r1, r1 = (f_R_blockFrom σ (σ 6 2)) → (kl_R_countBlocks_13 σ (((32 : Int32).toInt - (0 : Int32).toInt).toNat + 2) 0 r1 0)))
def l_R_startOfBlock_11 (σ : zSt) (x1 : Int32) : Nat → Int32 → Int32 → Int32
  | 0, _, _ => 0
  | m + 1, x2, x3 => (if x1 ≤ x3 then x2 else (if x2 = (-1) then x2 else zlet (f_R_endOfRun σ x2) (fun r5 => zlet (f_R_blockFrom σ r5) (fun r7 => (l_R_startOfBlock_11 σ x1 m r7 (x3 + 1))))))
def kl_R_startOfBlock_11 (σ : zSt) (x1 : Int32) : Nat → Int32 → Int32 → Prop
  | 0, _, _ => False
  | m + 1, x2, x3 => (¬ x1 ≤ x3 → (¬ x2 = (-1) → ((k_R_endOfRun σ x2) ∧ (∀ r5, r5 = (f_R_endOfRun σ x2) → ((k_R_blockFrom σ r5) ∧ (∀ r7, r7 = (f_R_blockFrom σ r5) → (kl_R_startOfBlock_11 σ x1 m r7 (x3 + 1))))))))
def f_R_startOfBlock (σ : zSt) (a1 : Int32) : Int32 := zlet (f_R_blockFrom σ (σ 6 2)) (fun r1 => zlet (l_R_startOfBlock_11 σ a1 (((a1).toInt - (0 : Int32).toInt).toNat + 2) r1 0) (fun r9 => r9))
def k_R_startOfBlock (σ : zSt) (a1 : Int32) : Prop := ((k_R_blockFrom σ (σ 6 2)) ∧ (∀ r1, r1 = (f_R_blockFrom σ (σ 6 2)) → (kl_R_startOfBlock_11 σ a1 (((a1).toInt - (0 : Int32).toInt).toNat + 2) r1 0)))
def f_S_countFlying (σ : zSt) : Int32 := zlet (f_P_countEmpty 3 σ (σ 2 2) (σ 2 3)) (fun r1 => r1)
def k_S_countFlying (σ : zSt) : Prop := (k_P_countEmpty 3 σ (σ 2 2) (σ 2 3))
def f_S_startOfRepair (σ : zSt) : Int32 := (if (σ 2 11) = (-1) then (-1) else zlet (f_P_firstEmpty 3 σ (if (σ 2 2) < (σ 2 12) then (σ 2 12) else (σ 2 2)) (σ 2 3)) (fun r2 => (if r2 < (σ 2 3) then zlet (f_P_firstFilled 3 σ r2 (σ 2 4)) (fun r5 => (if (σ 2 4) ≤ r5 then (if r2 = (σ 2 2) then r2 else (-1)) else (if r2 = (σ 2 2) then r2 else r2))) else (-1))))
def k_S_startOfRepair (σ : zSt) : Prop := (¬ (σ 2 11) = (-1) → ((k_P_firstEmpty 3 σ (if (σ 2 2) < (σ 2 12) then (σ 2 12) else (σ 2 2)) (σ 2 3)) ∧ (∀ r2, r2 = (f_P_firstEmpty 3 σ (if (σ 2 2) < (σ 2 12) then (σ 2 12) else (σ 2 2)) (σ 2 3)) → (r2 < (σ 2 3) → (k_P_firstFilled 3 σ r2 (σ 2 4))))))
def f_S_endOfRun (σ : zSt) (a1 : Int32) (a2 : Int32) : Int32 := zlet (f_P_firstFilled 3 σ a1 (if a2 < (a1 + 4) then a2 else (a1 + 4))) (fun r1 => r1)
def k_S_endOfRun (σ : zSt) (a1 : Int32) (a2 : Int32) : Prop := (k_P_firstFilled 3 σ a1 (if a2 < (a1 + 4) then a2 else (a1 + 4)))
def f_S_endOfFresh (σ : zSt) : Int32 := (if (σ 2 3) < (σ 2 5) then zlet (f_S_countFlying σ) (fun r2 => (if (σ 2 3) < (σ 2 6) then zlet (f_S_endOfRun σ (σ 2 3) (if (σ 2 6) < (σ 2 5) then (σ 2 6) else (σ 2 5))) (fun r5 => (if (if (σ 2 9) < (σ 2 7) then (σ 2 9) else (σ 2 7)) < ((r2 + r5) - (σ 2 3)) then (if r2 = 0 then r5 else (σ 2 3)) else (if r2 = 0 then r5 else r5))) else (if r2 = 0 then ((σ 2 3) + 1) else (σ 2 3)))) else (σ 2 3))
def k_S_endOfFresh (σ : zSt) : Prop := ((σ 2 3) < (σ 2 5) → ((k_S_countFlying σ) ∧ (∀ r2, r2 = (f_S_countFlying σ) → ((σ 2 3) < (σ 2 6) → (k_S_endOfRun σ (σ 2 3) (if (σ 2 6) < (σ 2 5) then (σ 2 6) else (σ 2 5)))))))
def f_S_noteSent (σ : zSt) (a1 : Int32) (a2 : Int32) : zSt := (if (σ 2 4) ≤ a1 then zlet (f_T_timeSegment (zuf σ 2 13 ((σ 2 13) + 1)) a2) (fun u2 => zlet (f_T_startIfStopped (zuf u2 2 4 (if (u2 2 4) < (u2 2 3) then (u2 2 3) else (u2 2 4)))) (fun u4 => u4)) else zlet (f_T_startIfStopped (zuf (zuf (zuf σ 2 13 ((σ 2 13) + 1)) 2 14 ((σ 2 14) + 1)) 2 4 (if (σ 2 4) < (σ 2 3) then (σ 2 3) else (σ 2 4)))) (fun u6 => u6))
def f_S_sendInto (σ : zSt) : Int32 × zSt := zlet (f_S_startOfRepair σ) (fun r1 => (if r1 = (-1) then zlet (f_P_firstEmpty 3 σ (σ 2 3) (σ 2 5)) (fun r4 => zlet (f_S_endOfFresh (zuf σ 2 3 r4)) (fun r6 => (if r6 ≤ r4 then ((r6 - r4), (zuf (zuf σ 2 3 r4) 2 3 r6)) else zlet (f_S_noteSent (zuf (zuf σ 2 3 r4) 2 3 r6) r4 r6) (fun u9 => zseq (f_W_addRow 9 u9) (fun r11 u12 => zlet (f_W_setCell 9 u12 r11 0 r4) (fun u14 => zlet (f_W_setCell 9 u14 r11 1 r6) (fun u16 => ((r6 - r4), u16)))))))) else zlet (f_S_endOfRun σ r1 (σ 2 3)) (fun r18 => (if r18 ≤ r1 then ((r18 - r1), (zuf σ 2 12 r18)) else zlet (f_S_noteSent (zuf σ 2 12 r18) r1 r18) (fun u21 => zseq (f_W_addRow 9 u21) (fun r23 u24 => zlet (f_W_setCell 9 u24 r23 0 r1) (fun u26 => zlet (f_W_setCell 9 u26 r23 1 r18) (fun u28 => ((r18 - r1), u28)))))))))
def k_S_sendInto (σ : zSt) : Prop := ((k_S_startOfRepair σ) ∧ (∀ r1, r1 = (f_S_startOfRepair σ) → ((r1 = (-1) → ((k_P_firstEmpty 3 σ (σ 2 3) (σ 2 5)) ∧ (∀ r4, r4 = (f_P_firstEmpty 3 σ (σ 2 3) (σ 2 5)) → ((k_S_endOfFresh (zuf σ 2 3 r4)) ∧ (∀ r6, r6 = (f_S_endOfFresh (zuf σ 2 3 r4)) → (¬ r6 ≤ r4 → (∀ u9, u9 = (f_S_noteSent (zuf (zuf σ 2 3 r4) 2 3 r6) r4 r6) → (∀ r11 u12, (r11, u12) = (f_W_addRow 9 u9) → ((k_W_setCell 9 u12 r11 0 r4) ∧ (∀ u14, u14 = (f_W_setCell 9 u12 r11 0 r4) → (k_W_setCell 9 u14 r11 1 r6))))))))))) ∧ (¬ r1 = (-1) → ((k_S_endOfRun σ r1 (σ 2 3)) ∧ (∀ r18, r18 = (f_S_endOfRun σ r1 (σ 2 3)) → (¬ r18 ≤ r1 → (∀ u21, u21 = (f_S_noteSent (zuf σ 2 12 r18) r1 r18) → (∀ r23 u24, (r23, u24) = (f_W_addRow 9 u21) → ((k_W_setCell 9 u24 r23 0 r1) ∧ (∀ u26, u26 = (f_W_setCell 9 u24 r23 0 r1) → (k_W_setCell 9 u26 r23 1 r18))))))))))))
def f_S_halfOfFlying (σ : zSt) : Int32 := zlet (f_S_countFlying σ) (fun r1 => (if 8 < (r1 / 2) then (r1 / 2) else 8))
def k_S_halfOfFlying (σ : zSt) : Prop := (k_S_countFlying σ)
def f_S_startOver (σ : zSt) : zSt := zlet (f_S_halfOfFlying σ) (fun r1 => zlet (f_T_backOff (zuf (zuf σ 2 8 r1) 2 7 4)) (fun u3 => zlet (f_P_empty 3 u3 (u3 2 2) (u3 2 4)) (fun u5 => (zuf (zuf (zuf u5 2 3 (u5 2 2)) 2 11 (-1)) 2 10 0))))
def k_S_startOver (σ : zSt) : Prop := ((k_S_halfOfFlying σ) ∧ (∀ r1, r1 = (f_S_halfOfFlying σ) → (∀ u3, u3 = (f_T_backOff (zuf (zuf σ 2 8 r1) 2 7 4)) → (k_P_empty 3 u3 (u3 2 2) (u3 2 4)))))
def l_S_passTicks_4 (x1 : Int32) : Nat → zSt → Int32 → Int32 → Int32 × zSt
  | 0, σ, _, _ => (0, σ)
  | m + 1, σ, x2, x3 => (if x1 ≤ x3 then (x2, σ) else zseq (f_T_passTick σ) (fun r2 u3 => (if r2 = 0 then (l_S_passTicks_4 x1 m u3 x2 (x3 + 1)) else zlet (f_S_startOver u3) (fun u6 => (l_S_passTicks_4 x1 m u6 (x2 + 1) (x3 + 1))))))
def kl_S_passTicks_4 (x1 : Int32) : Nat → zSt → Int32 → Int32 → Prop
  | 0, _, _, _ => False
  | m + 1, σ, x2, x3 => (¬ x1 ≤ x3 → (∀ r2 u3, (r2, u3) = (f_T_passTick σ) → ((r2 = 0 → (kl_S_passTicks_4 x1 m u3 x2 (x3 + 1))) ∧ (¬ r2 = 0 → ((k_S_startOver u3) ∧ (∀ u6, u6 = (f_S_startOver u3) → (kl_S_passTicks_4 x1 m u6 (x2 + 1) (x3 + 1))))))))
def f_S_passTicks (σ : zSt) (a1 : Int32) : Int32 × zSt := zlet (l_S_passTicks_4 a1 (((a1).toInt - (0 : Int32).toInt).toNat + 2) σ 0 0) (fun r8 => (r8.1, r8.2))
def k_S_passTicks (σ : zSt) (a1 : Int32) : Prop := (kl_S_passTicks_4 a1 (((a1).toInt - (0 : Int32).toInt).toNat + 2) σ 0 0)
def f_S_growCongestion (σ : zSt) : zSt := (if (σ 2 8) ≤ (σ 2 7) then (if (σ 2 7) ≤ 0 then (zuf σ 2 7 (if ((σ 2 7) + 1) < 256 then ((σ 2 7) + 1) else 256)) else (zuf σ 2 7 (if ((σ 2 7) + (if 1 < (16 / (σ 2 7)) then (16 / (σ 2 7)) else 1)) < 256 then ((σ 2 7) + (if 1 < (16 / (σ 2 7)) then (16 / (σ 2 7)) else 1)) else 256))) else (zuf σ 2 7 (if ((σ 2 7) + 4) < 256 then ((σ 2 7) + 4) else 256)))
def k_S_growCongestion (σ : zSt) : Prop := ((σ 2 8) ≤ (σ 2 7) → (¬ (σ 2 7) ≤ 0 → (¬ (σ 2 7) = 0)))
def f_S_advanceTo (σ : zSt) (a1 : Int32) : zSt := zlet (f_T_endTiming σ a1) (fun u1 => zlet (f_P_empty 3 u1 (u1 2 2) a1) (fun u3 => (if (u3 2 11) = (-1) then zlet (f_S_growCongestion (zuf (zuf (zuf u3 2 2 a1) 2 3 (if (u3 2 3) < a1 then a1 else (u3 2 3))) 2 10 0)) (fun u17 => (if (u17 2 2) = (u17 2 3) then zlet (f_T_stop u17) (fun u22 => u22) else zlet (f_T_startAnew u17) (fun u20 => u20))) else (if a1 < (u3 2 11) then (if a1 = (if (u3 2 3) < a1 then a1 else (u3 2 3)) then zlet (f_T_stop (zuf (zuf (zuf u3 2 2 a1) 2 3 (if (u3 2 3) < a1 then a1 else (u3 2 3))) 2 10 0)) (fun u10 => u10) else zlet (f_T_startAnew (zuf (zuf (zuf u3 2 2 a1) 2 3 (if (u3 2 3) < a1 then a1 else (u3 2 3))) 2 10 0)) (fun u8 => u8)) else (if a1 = (if (u3 2 3) < a1 then a1 else (u3 2 3)) then zlet (f_T_stop (zuf (zuf (zuf (zuf (zuf u3 2 2 a1) 2 3 (if (u3 2 3) < a1 then a1 else (u3 2 3))) 2 10 0) 2 11 (-1)) 2 7 (u3 2 8))) (fun u15 => u15) else zlet (f_T_startAnew (zuf (zuf (zuf (zuf (zuf u3 2 2 a1) 2 3 (if (u3 2 3) < a1 then a1 else (u3 2 3))) 2 10 0) 2 11 (-1)) 2 7 (u3 2 8))) (fun u13 => u13))))))
def k_S_advanceTo (σ : zSt) (a1 : Int32) : Prop := (∀ u1, u1 = (f_T_endTiming σ a1) → ((k_P_empty 3 u1 (u1 2 2) a1) ∧ (∀ u3, u3 = (f_P_empty 3 u1 (u1 2 2) a1) → ((u3 2 11) = (-1) → (k_S_growCongestion (zuf (zuf (zuf u3 2 2 a1) 2 3 (if (u3 2 3) < a1 then a1 else (u3 2 3))) 2 10 0))))))
def l_S_markBlocks_14 (x2 x3 : Int32) : Nat → zSt → Int32 → zSt
  | 0, σ, _ => σ
  | m + 1, σ, x4 => (if x3 ≤ x4 then σ else zlet (f_W_cell 11 σ x2 (3 + (2 * x4))) (fun r4 => zlet (f_W_cell 11 σ x2 ((3 + (2 * x4)) + 1)) (fun r6 => zseq (f_P_fillEmpty 3 σ (if (σ 2 2) < r4 then r4 else (σ 2 2)) r6 1) (fun r8 u9 => (l_S_markBlocks_14 x2 x3 m u9 (x4 + 1))))))
def kl_S_markBlocks_14 (x2 x3 : Int32) : Nat → zSt → Int32 → Prop
  | 0, _, _ => False
  | m + 1, σ, x4 => (¬ x3 ≤ x4 → ((k_W_cell 11 σ x2 (3 + (2 * x4))) ∧ (∀ r4, r4 = (f_W_cell 11 σ x2 (3 + (2 * x4))) → ((k_W_cell 11 σ x2 ((3 + (2 * x4)) + 1)) ∧ (∀ r6, r6 = (f_W_cell 11 σ x2 ((3 + (2 * x4)) + 1)) → ((k_P_fillEmpty 3 σ (if (σ 2 2) < r4 then r4 else (σ 2 2)) r6 1) ∧ (∀ r8 u9, (r8, u9) = (f_P_fillEmpty 3 σ (if (σ 2 2) < r4 then r4 else (σ 2 2)) r6 1) → (kl_S_markBlocks_14 x2 x3 m u9 (x4 + 1)))))))))
def f_S_markBlocks (σ : zSt) (a2 : Int32) : zSt := zlet (f_W_cell 11 σ a2 2) (fun r1 => zlet (l_S_markBlocks_14 a2 (if r1 < 3 then r1 else 3) ((((if r1 < 3 then r1 else 3)).toInt - (0 : Int32).toInt).toNat + 2) σ 0) (fun r11 => r11))
def k_S_markBlocks (σ : zSt) (a2 : Int32) : Prop := ((k_W_cell 11 σ a2 2) ∧ (∀ r1, r1 = (f_W_cell 11 σ a2 2) → (kl_S_markBlocks_14 a2 (if r1 < 3 then r1 else 3) ((((if r1 < 3 then r1 else 3)).toInt - (0 : Int32).toInt).toNat + 2) σ 0)))
def f_S_countDuplicate (σ : zSt) : zSt := (if ((σ 2 10) + 1) = 3 then (if (σ 2 11) = (-1) then zlet (f_S_halfOfFlying (zuf σ 2 10 ((σ 2 10) + 1))) (fun r3 => zlet (f_T_forgetTiming (zuf (zuf (zuf (zuf (zuf σ 2 10 ((σ 2 10) + 1)) 2 8 r3) 2 7 r3) 2 11 (σ 2 3)) 2 12 (σ 2 2))) (fun u5 => u5)) else (zuf σ 2 10 ((σ 2 10) + 1))) else (zuf σ 2 10 ((σ 2 10) + 1)))
def k_S_countDuplicate (σ : zSt) : Prop := (((σ 2 10) + 1) = 3 → ((σ 2 11) = (-1) → (k_S_halfOfFlying (zuf σ 2 10 ((σ 2 10) + 1)))))
def f_S_takeAck (σ : zSt) (a2 : Int32) : Int32 × zSt := zlet (f_W_cell 11 σ a2 0) (fun r1 => (if (σ 2 2) ≤ r1 then zlet (f_W_cell 11 σ a2 1) (fun r4 => (if (r1 + r4) ≤ (σ 2 6) then (if (r1 - (σ 2 2)) ≤ 0 then zlet (f_S_markBlocks (zuf σ 2 6 (if (σ 2 6) < (r1 + r4) then (r1 + r4) else (σ 2 6))) a2) (fun u8 => (if (r1 - (σ 2 2)) = 0 then (if (u8 2 3) ≤ (u8 2 2) then ((r1 - (σ 2 2)), u8) else zlet (f_S_countDuplicate u8) (fun u13 => ((r1 - (σ 2 2)), u13))) else ((r1 - (σ 2 2)), u8))) else zlet (f_S_advanceTo (zuf σ 2 6 (if (σ 2 6) < (r1 + r4) then (r1 + r4) else (σ 2 6))) r1) (fun u15 => zlet (f_S_markBlocks u15 a2) (fun u17 => (if (r1 - (σ 2 2)) = 0 then (if (u17 2 3) ≤ (u17 2 2) then ((r1 - (σ 2 2)), u17) else zlet (f_S_countDuplicate u17) (fun u22 => ((r1 - (σ 2 2)), u22))) else ((r1 - (σ 2 2)), u17))))) else (if (r1 - (σ 2 2)) ≤ 0 then zlet (f_S_markBlocks (zuf σ 2 6 (if (σ 2 6) < (r1 + r4) then (r1 + r4) else (σ 2 6))) a2) (fun u25 => (if (r1 - (σ 2 2)) = 0 then (if (u25 2 3) ≤ (u25 2 2) then ((r1 - (σ 2 2)), u25) else ((r1 - (σ 2 2)), u25)) else ((r1 - (σ 2 2)), u25))) else zlet (f_S_advanceTo (zuf σ 2 6 (if (σ 2 6) < (r1 + r4) then (r1 + r4) else (σ 2 6))) r1) (fun u30 => zlet (f_S_markBlocks u30 a2) (fun u32 => (if (r1 - (σ 2 2)) = 0 then (if (u32 2 3) ≤ (u32 2 2) then ((r1 - (σ 2 2)), u32) else ((r1 - (σ 2 2)), u32)) else ((r1 - (σ 2 2)), u32))))))) else (0, σ)))
def k_S_takeAck (σ : zSt) (a2 : Int32) : Prop := ((k_W_cell 11 σ a2 0) ∧ (∀ r1, r1 = (f_W_cell 11 σ a2 0) → ((σ 2 2) ≤ r1 → ((k_W_cell 11 σ a2 1) ∧ (∀ r4, r4 = (f_W_cell 11 σ a2 1) → (((r1 + r4) ≤ (σ 2 6) → (((r1 - (σ 2 2)) ≤ 0 → ((k_S_markBlocks (zuf σ 2 6 (if (σ 2 6) < (r1 + r4) then (r1 + r4) else (σ 2 6))) a2) ∧ (∀ u8, u8 = (f_S_markBlocks (zuf σ 2 6 (if (σ 2 6) < (r1 + r4) then (r1 + r4) else (σ 2 6))) a2) → ((r1 - (σ 2 2)) = 0 → (¬ (u8 2 3) ≤ (u8 2 2) → (k_S_countDuplicate u8)))))) ∧ (¬ (r1 - (σ 2 2)) ≤ 0 → ((k_S_advanceTo (zuf σ 2 6 (if (σ 2 6) < (r1 + r4) then (r1 + r4) else (σ 2 6))) r1) ∧ (∀ u15, u15 = (f_S_advanceTo (zuf σ 2 6 (if (σ 2 6) < (r1 + r4) then (r1 + r4) else (σ 2 6))) r1) → ((k_S_markBlocks u15 a2) ∧ (∀ u17, u17 = (f_S_markBlocks u15 a2) → ((r1 - (σ 2 2)) = 0 → (¬ (u17 2 3) ≤ (u17 2 2) → (k_S_countDuplicate u17)))))))))) ∧ (¬ (r1 + r4) ≤ (σ 2 6) → (((r1 - (σ 2 2)) ≤ 0 → (k_S_markBlocks (zuf σ 2 6 (if (σ 2 6) < (r1 + r4) then (r1 + r4) else (σ 2 6))) a2)) ∧ (¬ (r1 - (σ 2 2)) ≤ 0 → ((k_S_advanceTo (zuf σ 2 6 (if (σ 2 6) < (r1 + r4) then (r1 + r4) else (σ 2 6))) r1) ∧ (∀ u30, u30 = (f_S_advanceTo (zuf σ 2 6 (if (σ 2 6) < (r1 + r4) then (r1 + r4) else (σ 2 6))) r1) → (k_S_markBlocks u30 a2))))))))))))
def l_X_write_55 (x1 x2 : Int32) : Nat → zSt → Int32 → zSt
  | 0, σ, _ => σ
  | m + 1, σ, x3 => (if x2 ≤ x3 then σ else (if ((σ 2 5) + x3) < 0 then (l_X_write_55 x1 x2 m σ (x3 + 1)) else (if 600 ≤ ((σ 2 5) + x3) then (l_X_write_55 x1 x2 m σ (x3 + 1)) else (l_X_write_55 x1 x2 m (zuf σ 1 (((σ 2 5) + x3) : Int32).toNatClampNeg ((x1 + x3) - (x1 + x3) / 256 * 256)) (x3 + 1)))))
def kl_X_write_55 (x1 x2 : Int32) : Nat → zSt → Int32 → Prop
  | 0, _, _ => False
  | m + 1, σ, x3 => (¬ x2 ≤ x3 → ((((σ 2 5) + x3) < 0 → (kl_X_write_55 x1 x2 m σ (x3 + 1))) ∧ (¬ ((σ 2 5) + x3) < 0 → ((600 ≤ ((σ 2 5) + x3) → (kl_X_write_55 x1 x2 m σ (x3 + 1))) ∧ (¬ 600 ≤ ((σ 2 5) + x3) → (vp_in ((σ 2 5) + x3) 600 ∧ (kl_X_write_55 x1 x2 m (zuf σ 1 (((σ 2 5) + x3) : Int32).toNatClampNeg ((x1 + x3) - (x1 + x3) / 256 * 256)) (x3 + 1))))))))
def f_X_write (σ : zSt) (a1 : Int32) (a2 : Int32) : Int32 × zSt := (if a1 < 0 then (0, σ) else (if 256 ≤ a1 then (0, σ) else (if a2 < 1 then (0, σ) else (if a2 ≤ 100 then (if ((σ 2 5) + a2) ≤ 600 then zlet (l_X_write_55 a1 a2 (((a2).toInt - (0 : Int32).toInt).toNat + 2) σ 0) (fun r13 => (((r13 2 5) + a2), (zuf r13 2 5 ((r13 2 5) + a2)))) else (0, σ)) else (0, σ)))))
def k_X_write (σ : zSt) (a1 : Int32) (a2 : Int32) : Prop := ((a1 < 0 → False) ∧ (¬ a1 < 0 → ((256 ≤ a1 → False) ∧ (¬ 256 ≤ a1 → ((a2 < 1 → False) ∧ (¬ a2 < 1 → ((a2 ≤ 100 → ((((σ 2 5) + a2) ≤ 600 → (kl_X_write_55 a1 a2 (((a2).toInt - (0 : Int32).toInt).toNat + 2) σ 0)) ∧ (¬ ((σ 2 5) + a2) ≤ 600 → False))) ∧ (¬ a2 ≤ 100 → False))))))))
def f_X_read (σ : zSt) : Int32 × zSt := (if (σ 6 2) ≤ (σ 6 3) then ((-1), σ) else (if (σ 6 3) < 0 then ((-1), σ) else (if (σ 6 3) < 600 then zseq (f_R_passByte σ) (fun r4 u5 => (if r4 = 0 then ((u5 1 ((σ 6 3) : Int32).toNatClampNeg), u5) else zlet (f_R_makeAck u5) (fun u9 => ((u9 1 ((σ 6 3) : Int32).toNatClampNeg), u9)))) else ((-1), σ))))
def k_X_read (σ : zSt) : Prop := (¬ (σ 6 2) ≤ (σ 6 3) → (¬ (σ 6 3) < 0 → ((σ 6 3) < 600 → (∀ r4 u5, (r4, u5) = (f_R_passByte σ) → ((r4 = 0 → (vp_in (σ 6 3) 600)) ∧ (¬ r4 = 0 → ((k_R_makeAck u5) ∧ (∀ u9, u9 = (f_R_makeAck u5) → (vp_in (σ 6 3) 600)))))))))
def f_X_send (σ : zSt) : Int32 × zSt := zlet (f_W_isFull 9 σ) (fun r1 => (if r1 = 0 then zseq (f_S_sendInto σ) (fun r4 u5 => (r4, u5)) else (0, σ)))
def k_X_send (σ : zSt) : Prop := (∀ r1, r1 = (f_W_isFull 9 σ) → ((r1 = 0 → (k_S_sendInto σ)) ∧ (¬ r1 = 0 → False)))
def f_X_tick (σ : zSt) (a1 : Int32) : Int32 × zSt := (if a1 < 1 then (0, σ) else (if a1 ≤ 100 then zseq (f_S_passTicks σ a1) (fun r4 u5 => (r4, u5)) else (0, σ)))
def k_X_tick (σ : zSt) (a1 : Int32) : Prop := ((a1 < 1 → False) ∧ (¬ a1 < 1 → ((a1 ≤ 100 → (k_S_passTicks σ a1)) ∧ (¬ a1 ≤ 100 → False))))
def f_X_deliver (σ : zSt) (a1 : Int32) : Int32 × zSt := zlet (f_W_holds 9 σ a1) (fun r1 => (if r1 = 0 then (0, σ) else zlet (f_W_cell 9 σ a1 0) (fun r4 => zlet (f_W_cell 9 σ a1 1) (fun r6 => zseq (f_R_takeBytes σ r4 r6) (fun r8 u9 => zlet (f_W_remove 9 u9 a1) (fun u11 => zlet (f_R_makeAck u11) (fun u13 => (r8, u13))))))))
def k_X_deliver (σ : zSt) (a1 : Int32) : Prop := (∀ r1, r1 = (f_W_holds 9 σ a1) → ((r1 = 0 → False) ∧ (¬ r1 = 0 → ((k_W_cell 9 σ a1 0) ∧ (∀ r4, r4 = (f_W_cell 9 σ a1 0) → ((k_W_cell 9 σ a1 1) ∧ (∀ r6, r6 = (f_W_cell 9 σ a1 1) → ((k_R_takeBytes σ r4 r6) ∧ (∀ r8 u9, (r8, u9) = (f_R_takeBytes σ r4 r6) → ((k_W_remove 9 u9 a1) ∧ (∀ u11, u11 = (f_W_remove 9 u9 a1) → (k_R_makeAck u11))))))))))))
def f_X_lose (σ : zSt) (a1 : Int32) : Int32 × zSt := zlet (f_W_holds 9 σ a1) (fun r1 => (if r1 = 0 then (0, σ) else zlet (f_W_cell 9 σ a1 0) (fun r4 => zlet (f_W_remove 9 σ a1) (fun u6 => (r4, u6)))))
def k_X_lose (σ : zSt) (a1 : Int32) : Prop := (∀ r1, r1 = (f_W_holds 9 σ a1) → ((r1 = 0 → False) ∧ (¬ r1 = 0 → ((k_W_cell 9 σ a1 0) ∧ (∀ r4, r4 = (f_W_cell 9 σ a1 0) → (k_W_remove 9 σ a1))))))
def f_X_duplicate (σ : zSt) (a1 : Int32) : Int32 × zSt := zlet (f_W_holds 9 σ a1) (fun r1 => (if r1 = 0 then (0, σ) else zlet (f_W_isFull 9 σ) (fun r4 => (if r4 = 0 then zseq (f_W_addRow 9 σ) (fun r7 u8 => zlet (f_W_cell 9 u8 a1 0) (fun r10 => zlet (f_W_setCell 9 u8 r7 0 r10) (fun u12 => zlet (f_W_cell 9 u12 a1 1) (fun r14 => zlet (f_W_setCell 9 u12 r7 1 r14) (fun u16 => ((u16 9 2), u16)))))) else (0, σ)))))
def k_X_duplicate (σ : zSt) (a1 : Int32) : Prop := (∀ r1, r1 = (f_W_holds 9 σ a1) → ((r1 = 0 → False) ∧ (¬ r1 = 0 → (∀ r4, r4 = (f_W_isFull 9 σ) → ((r4 = 0 → (∀ r7 u8, (r7, u8) = (f_W_addRow 9 σ) → ((k_W_cell 9 u8 a1 0) ∧ (∀ r10, r10 = (f_W_cell 9 u8 a1 0) → ((k_W_setCell 9 u8 r7 0 r10) ∧ (∀ u12, u12 = (f_W_setCell 9 u8 r7 0 r10) → ((k_W_cell 9 u12 a1 1) ∧ (∀ r14, r14 = (f_W_cell 9 u12 a1 1) → (k_W_setCell 9 u12 r7 1 r14))))))))) ∧ (¬ r4 = 0 → False))))))
def f_X_deliverAck (σ : zSt) (a1 : Int32) : Int32 × zSt := zlet (f_W_holds 11 σ a1) (fun r1 => (if r1 = 0 then (0, σ) else zseq (f_S_takeAck σ a1) (fun r4 u5 => zlet (f_W_remove 11 u5 a1) (fun u7 => (r4, u7)))))
def k_X_deliverAck (σ : zSt) (a1 : Int32) : Prop := (∀ r1, r1 = (f_W_holds 11 σ a1) → ((r1 = 0 → False) ∧ (¬ r1 = 0 → ((k_S_takeAck σ a1) ∧ (∀ r4 u5, (r4, u5) = (f_S_takeAck σ a1) → (k_W_remove 11 u5 a1))))))
def f_X_loseAck (σ : zSt) (a1 : Int32) : Int32 × zSt := zlet (f_W_holds 11 σ a1) (fun r1 => (if r1 = 0 then (0, σ) else zlet (f_W_cell 11 σ a1 0) (fun r4 => zlet (f_W_remove 11 σ a1) (fun u6 => (r4, u6)))))
def k_X_loseAck (σ : zSt) (a1 : Int32) : Prop := (∀ r1, r1 = (f_W_holds 11 σ a1) → ((r1 = 0 → False) ∧ (¬ r1 = 0 → ((k_W_cell 11 σ a1 0) ∧ (∀ r4, r4 = (f_W_cell 11 σ a1 0) → (k_W_remove 11 σ a1))))))
def f_X_segments (σ : zSt) : Int32 := (σ 9 2)
def f_X_startOf (σ : zSt) (a1 : Int32) : Int32 := zlet (f_W_holds 9 σ a1) (fun r1 => (if r1 = 0 then 0 else zlet (f_W_cell 9 σ a1 0) (fun r4 => r4)))
def k_X_startOf (σ : zSt) (a1 : Int32) : Prop := (∀ r1, r1 = (f_W_holds 9 σ a1) → ((r1 = 0 → False) ∧ (¬ r1 = 0 → (k_W_cell 9 σ a1 0))))
def f_X_endOf (σ : zSt) (a1 : Int32) : Int32 := zlet (f_W_holds 9 σ a1) (fun r1 => (if r1 = 0 then 0 else zlet (f_W_cell 9 σ a1 1) (fun r4 => r4)))
def k_X_endOf (σ : zSt) (a1 : Int32) : Prop := (∀ r1, r1 = (f_W_holds 9 σ a1) → ((r1 = 0 → False) ∧ (¬ r1 = 0 → (k_W_cell 9 σ a1 1))))
def f_X_acks (σ : zSt) : Int32 := (σ 11 2)
def f_X_ackNumber (σ : zSt) (a1 : Int32) : Int32 := zlet (f_W_holds 11 σ a1) (fun r1 => (if r1 = 0 then 0 else zlet (f_W_cell 11 σ a1 0) (fun r4 => r4)))
def k_X_ackNumber (σ : zSt) (a1 : Int32) : Prop := (∀ r1, r1 = (f_W_holds 11 σ a1) → ((r1 = 0 → False) ∧ (¬ r1 = 0 → (k_W_cell 11 σ a1 0))))
def f_X_ackWindow (σ : zSt) (a1 : Int32) : Int32 := zlet (f_W_holds 11 σ a1) (fun r1 => (if r1 = 0 then 0 else zlet (f_W_cell 11 σ a1 1) (fun r4 => r4)))
def k_X_ackWindow (σ : zSt) (a1 : Int32) : Prop := (∀ r1, r1 = (f_W_holds 11 σ a1) → ((r1 = 0 → False) ∧ (¬ r1 = 0 → (k_W_cell 11 σ a1 1))))
def f_X_ackBlocks (σ : zSt) (a1 : Int32) : Int32 := zlet (f_W_holds 11 σ a1) (fun r1 => (if r1 = 0 then 0 else zlet (f_W_cell 11 σ a1 2) (fun r4 => r4)))
def k_X_ackBlocks (σ : zSt) (a1 : Int32) : Prop := (∀ r1, r1 = (f_W_holds 11 σ a1) → ((r1 = 0 → False) ∧ (¬ r1 = 0 → (k_W_cell 11 σ a1 2))))
def f_X_ackBlock (σ : zSt) (a1 : Int32) (a2 : Int32) : Int32 := zlet (f_W_holds 11 σ a1) (fun r1 => (if r1 = 0 then 0 else (if a2 < 0 then 0 else zlet (f_W_cell 11 σ a1 2) (fun r7 => (if a2 < r7 then zlet (f_W_cell 11 σ a1 (3 + (2 * a2))) (fun r10 => r10) else 0)))))
def k_X_ackBlock (σ : zSt) (a1 : Int32) (a2 : Int32) : Prop := (∀ r1, r1 = (f_W_holds 11 σ a1) → ((r1 = 0 → False) ∧ (¬ r1 = 0 → ((a2 < 0 → False) ∧ (¬ a2 < 0 → ((k_W_cell 11 σ a1 2) ∧ (∀ r7, r7 = (f_W_cell 11 σ a1 2) → ((a2 < r7 → (k_W_cell 11 σ a1 (3 + (2 * a2)))) ∧ (¬ a2 < r7 → False)))))))))
def f_X_time (σ : zSt) : Int32 := (σ 5 0)
def f_X_acknowledged (σ : zSt) : Int32 := (σ 2 2)
def f_X_next (σ : zSt) : Int32 := (σ 2 3)
def f_X_highest (σ : zSt) : Int32 := (σ 2 4)
def f_X_written (σ : zSt) : Int32 := (σ 2 5)
def f_X_edge (σ : zSt) : Int32 := (σ 2 6)
def f_X_inFlight (σ : zSt) : Int32 := zlet (f_S_countFlying σ) (fun r1 => r1)
def k_X_inFlight (σ : zSt) : Prop := (k_S_countFlying σ)
def f_X_isMarked (σ : zSt) (a1 : Int32) : Int32 := (if a1 < 0 then 0 else (if a1 < (σ 2 5) then zlet (f_P_at 3 σ a1) (fun r4 => (if r4 = 0 then 0 else 1)) else 0))
def k_X_isMarked (σ : zSt) (a1 : Int32) : Prop := ((a1 < 0 → False) ∧ (¬ a1 < 0 → ((a1 < (σ 2 5) → (k_P_at 3 σ a1)) ∧ (¬ a1 < (σ 2 5) → False))))
def f_X_congestionWindow (σ : zSt) : Int32 := (σ 2 7)
def f_X_threshold (σ : zSt) : Int32 := (σ 2 8)
def f_X_duplicates (σ : zSt) : Int32 := (σ 2 10)
def f_X_recoveryEnd (σ : zSt) : Int32 := (σ 2 11)
def f_X_timeout (σ : zSt) : Int32 := (σ 5 1)
def f_X_timerEnd (σ : zSt) : Int32 := (σ 5 2)
def f_X_timedEnd (σ : zSt) : Int32 := (σ 5 3)
def f_X_sent (σ : zSt) : Int32 := (σ 2 13)
def f_X_sentAgain (σ : zSt) : Int32 := (σ 2 14)
def f_X_inOrder (σ : zSt) : Int32 := (σ 6 2)
def f_X_readPosition (σ : zSt) : Int32 := (σ 6 3)
def f_X_window (σ : zSt) : Int32 := zlet (f_R_room σ) (fun r1 => r1)
def f_X_blocks (σ : zSt) : Int32 := zlet (f_R_countBlocks σ) (fun r1 => r1)
def k_X_blocks (σ : zSt) : Prop := (k_R_countBlocks σ)
def f_X_blockStart (σ : zSt) (a1 : Int32) : Int32 := (if a1 < 0 then 0 else zlet (f_R_countBlocks σ) (fun r3 => (if a1 < r3 then zlet (f_R_startOfBlock σ a1) (fun r6 => r6) else 0)))
def k_X_blockStart (σ : zSt) (a1 : Int32) : Prop := ((a1 < 0 → False) ∧ (¬ a1 < 0 → ((k_R_countBlocks σ) ∧ (∀ r3, r3 = (f_R_countBlocks σ) → ((a1 < r3 → (k_R_startOfBlock σ a1)) ∧ (¬ a1 < r3 → False))))))
def f_X_blockEnd (σ : zSt) (a1 : Int32) : Int32 := (if a1 < 0 then 0 else zlet (f_R_countBlocks σ) (fun r3 => (if a1 < r3 then zlet (f_R_startOfBlock σ a1) (fun r6 => zlet (f_R_endOfRun σ r6) (fun r8 => r8)) else 0)))
def k_X_blockEnd (σ : zSt) (a1 : Int32) : Prop := ((a1 < 0 → False) ∧ (¬ a1 < 0 → ((k_R_countBlocks σ) ∧ (∀ r3, r3 = (f_R_countBlocks σ) → ((a1 < r3 → ((k_R_startOfBlock σ a1) ∧ (∀ r6, r6 = (f_R_startOfBlock σ a1) → (k_R_endOfRun σ r6)))) ∧ (¬ a1 < r3 → False))))))
