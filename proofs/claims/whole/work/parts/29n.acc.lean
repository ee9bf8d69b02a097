/-! the other accessors -/
theorem op_ackBlock {k : Nat} {σ τ : zSt} (h : zRel σ τ) (b : zBnd k τ) (a i : Int32) : k_X_ackBlock σ a i ∧ k_M_ackBlock τ a i ∧ zOp k σ τ (f_X_ackBlock σ a i) (f_M_ackBlock τ a i) := by
  have h' := h
  obtain ⟨-, -, -, -, -, e9, e11, hS, hN, hC, hB⟩ := h'
  have b' := b
  obtain ⟨-, ⟨-, -, b1, b2, b3, b4⟩, -, -, -, -, w4, -⟩ := b'
  have hq : f_M_isAck τ a = 0 ↔ f_W_holds 11 σ a = 0 := zisAck e11 b3
  have han : a.toNatClampNeg = a.toInt.toNat := rfl
  unfold k_X_ackBlock k_M_ackBlock f_X_ackBlock f_M_ackBlock
  dsimp only [zlet, zseq]
  by_cases g : f_W_holds 11 σ a = 0
  · rw [if_pos g, if_pos (hq.mpr g), zfine1]
    dsimp only
    rw [if_pos rfl]
    refine ⟨fun r hr q => absurd (hr.trans g) q, fun r hr => ⟨fun _ r4 u5 hu q => absurd (Prod.mk.inj hu).1 q, fun q => absurd (hr.trans (hq.mpr g)) q⟩, zOp_refuse h b (by decide) 0 0⟩
  · have g2 : ¬ f_M_isAck τ a = 0 := fun q => g (hq.mp q)
    have g3 := Classical.not_not.mp (fun q => g ((W_holds 11 σ a).1.mpr q))
    rw [e11] at g3
    have hva : vp_in a 40 := zvin g3.1 (by omega)
    obtain ⟨c1, c2⟩ := W_cell11 (σ := σ) (a := a) (i := 2) g3.1 (by omega) (by decide) (by decide)
    have z2 : (2 : Int32).toInt.toNat = 2 := rfl
    rw [z2, hC a.toInt.toNat (by omega)] at c2
    have hw := w4 a.toInt.toNat (by omega)
    rw [if_neg g, if_neg g2, c2, han]
    generalize hx : τ 22 a.toInt.toNat = x at *
    have hI := (zisIn τ i 0 (x - 1)).1
    rw [zt0, zdec1 (by omega)] at hI
    by_cases p : f_M_isIn τ i 0 (x - 1) = 0
    · have p' := hI.mp p
      rw [if_pos p, zfine1]
      dsimp only
      rw [if_pos rfl]
      refine ⟨fun r hr q p2 => ⟨c1, fun y hy w => absurd ?_ p'⟩, fun r hr => ⟨fun q => absurd (hr.symm.trans q) g2, fun _ => ⟨hva, fun y hy => ⟨fun _ r u hu q => absurd (Prod.mk.inj hu).1 q, fun q => absurd (hy.trans p) q⟩⟩⟩, ?_⟩
      · rw [hy] at w
        rw [zlt] at w
        rw [zlt, zt0] at p2
        omega
      · by_cases p2 : i < 0
        · rw [if_pos p2]; exact zOp_refuse h b (by decide) 0 0
        · rw [if_neg p2, if_neg (fun w => p' (by rw [zlt] at w; rw [zlt, zt0] at p2; omega))]
          exact zOp_refuse h b (by decide) 0 0
    · have p' := Classical.not_not.mp (fun q => p (hI.mpr q))
      have p2 : ¬ i < 0 := by rw [zlt, zt0]; omega
      have p3 : i < x := by rw [zlt]; omega
      rw [if_neg p2, if_pos p3, if_neg p, zfine0]
      dsimp only
      rw [if_neg (show ¬ (1 : Int32) = 0 by decide)]
      have hx2 : (2 * i).toInt = 2 * i.toInt := by
        rw [zmul (by rw [zt2]; omega) (by rw [zt2]; omega), zt2]
      have hc3 : (3 + 2 * i).toInt = 3 + 2 * i.toInt := by
        rw [zadd (by rw [zt3]; omega) (by rw [zt3]; omega), zt3, hx2]
      obtain ⟨s1, s2⟩ := W_cell11 (σ := σ) (a := a) (i := 3 + 2 * i) g3.1 (by omega) (by omega) (by omega)
      have n1 : 9 * a.toInt.toNat + (3 + 2 * i).toInt.toNat = 9 * a.toInt.toNat + 3 + 2 * i.toInt.toNat := by omega
      rw [n1, (hB a.toInt.toNat (by omega) i.toInt.toNat (by omega)).1] at s2
      have h3 := zidx3 (a := a) (x := i) g3.1 (by omega) (by omega) (by omega)
      have hn3 : (3 * a + i).toNatClampNeg = 3 * a.toInt.toNat + i.toInt.toNat := by rw [zNat, h3.2]; omega
      have hv : vp_in (3 * a + i) 120 := zvin (by omega) (by omega)
      refine ⟨fun r hr q _ => ⟨c1, fun y hy w => s1⟩, fun r hr => ⟨fun q => absurd (hr.symm.trans q) g2, fun _ => ⟨hva, fun y hy => ⟨fun q => absurd (hy.symm.trans q) p, fun _ r u hu q => hv⟩⟩⟩, zOp_see h b ?_⟩
      rw [s2, hn3, zuf_ne (by decide)]
theorem op_isMarked {k : Nat} {σ τ : zSt} (h : zRel σ τ) (b : zBnd k τ) (a : Int32) : k_X_isMarked σ a ∧ k_M_isMarked τ a ∧ zOp k σ τ (f_X_isMarked σ a) (f_M_isMarked τ a) := by
  have h' := h
  obtain ⟨⟨⟨-, -, -, c5, -⟩, -⟩, rM, -⟩ := h'
  have b' := b
  obtain ⟨⟨g1, g2, g3, g4, g5, -⟩, -⟩ := b'
  have hI := (zisIn τ a 0 (τ 13 5 - 1)).1
  rw [zt0, zdec1 (by omega)] at hI
  unfold k_X_isMarked k_M_isMarked f_X_isMarked f_M_isMarked
  dsimp only [zlet, zseq]
  rw [c5]
  refine ⟨fun _ _ => k_at 3 σ a, ?_⟩
  by_cases p : f_M_isIn τ a 0 (τ 13 5 - 1) = 0
  · have p' := hI.mp p
    rw [if_pos p, zfine1]
    dsimp only
    rw [if_pos rfl]
    refine ⟨fun y hy => ⟨fun _ r u hu q => absurd (Prod.mk.inj hu).1 q, fun q => absurd (hy.trans p) q⟩, ?_⟩
    by_cases p2 : a < 0
    · rw [if_pos p2]; exact zOp_refuse h b (by decide) 0 0
    · rw [if_neg p2, if_neg (fun w => p' (by rw [zlt] at w; rw [zlt, zt0] at p2; omega))]
      exact zOp_refuse h b (by decide) 0 0
  · have p' := Classical.not_not.mp (fun q => p (hI.mpr q))
    have p2 : ¬ a < 0 := by rw [zlt, zt0]; omega
    have p3 : a < τ 13 5 := by rw [zlt]; omega
    rw [if_neg p2, if_pos p3, if_neg p, zfine0]
    dsimp only
    rw [if_neg (show ¬ (1 : Int32) = 0 by decide)]
    have e1 : f_P_at 3 σ a = zuf τ 13 0 0 15 a.toNatClampNeg := by
      rw [f_at, zA0_eq rM, zA0_in (by omega) (by omega), zuf_ne (by decide)]
      rfl
    refine ⟨fun y hy => ⟨fun q => absurd (hy.symm.trans q) p, fun _ r u hu q => zvin (by omega) (by omega)⟩, ?_⟩
    rw [e1]
    by_cases p4 : zuf τ 13 0 0 15 a.toNatClampNeg = 0
    · rw [if_pos p4, if_pos p4]; exact zOp_see h b rfl
    · rw [if_neg p4, if_neg p4]; exact zOp_see h b rfl
theorem zpl_k0 {σ τ : zSt} (h : zRel σ τ) : zHB σ (zuf τ 13 0 0) := by
  have h4 := h.2.2.2.1
  exact zHB_of h4 rfl rfl (zuf_ne (by decide)) (zuf_ne (by decide)) (zuf_nj (by decide)) (zuf_nj (by decide))
theorem op_blockStart {k : Nat} {σ τ : zSt} (h : zRel σ τ) (b : zBnd k τ) (a : Int32) : k_X_blockStart σ a ∧ k_M_blockStart τ a ∧ zOp k σ τ (f_X_blockStart σ a) (f_M_blockStart τ a) := by
  have h4 := h.2.2.2.1
  unfold k_X_blockStart k_M_blockStart f_X_blockStart f_M_blockStart
  dsimp only [zlet, zseq]
  by_cases p : a < 0
  · have p2 : ¬ 0 ≤ a := by rw [zle, zt0]; rw [zlt, zt0] at p; omega
    rw [if_pos p, if_neg p2, zfine1]
    dsimp only
    rw [if_pos rfl]
    exact ⟨fun q => absurd p q, fun q => absurd q p2, zOp_refuse h b (by decide) 0 0⟩
  · have p2 : 0 ≤ a := by rw [zle, zt0]; rw [zlt, zt0] at p; omega
    obtain ⟨m1, m2, m3, m4, m5⟩ := zplace h4 a (by rw [zle, zt0] at p2; exact p2)
    rw [if_neg p, if_pos p2]
    refine ⟨fun _ => ⟨(zcount h4).1, fun r hr _ => m1⟩, fun _ => m2, ?_⟩
    by_cases q : f_M_startOfBlock τ a = -1
    · rw [if_pos q, if_neg (m4.mp q), zfine1]
      dsimp only
      rw [if_pos rfl]
      exact zOp_refuse h b (by decide) 0 0
    · rw [if_neg q, if_pos (Classical.not_not.mp (fun w => q (m4.mpr w))), zfine0]
      dsimp only
      rw [if_neg (show ¬ (1 : Int32) = 0 by decide)]
      exact zOp_see h b m3
theorem op_blockEnd {k : Nat} {σ τ : zSt} (h : zRel σ τ) (b : zBnd k τ) (a : Int32) : k_X_blockEnd σ a ∧ k_M_blockEnd τ a ∧ zOp k σ τ (f_X_blockEnd σ a) (f_M_blockEnd τ a) := by
  have h4 := h.2.2.2.1
  unfold k_X_blockEnd k_M_blockEnd f_X_blockEnd f_M_blockEnd
  dsimp only [zlet, zseq]
  by_cases p : a < 0
  · have p2 : ¬ 0 ≤ a := by rw [zle, zt0]; rw [zlt, zt0] at p; omega
    rw [if_pos p, if_neg p2, zfine1]
    dsimp only
    rw [if_pos rfl]
    exact ⟨fun q => absurd p q, ⟨fun q => absurd q p2, fun _ r u hu q => absurd (Prod.mk.inj hu).1 q⟩, zOp_refuse h b (by decide) 0 0⟩
  · have p2 : 0 ≤ a := by rw [zle, zt0]; rw [zlt, zt0] at p; omega
    obtain ⟨m1, m2, m3, m4, m5⟩ := zplace h4 a (by rw [zle, zt0] at p2; exact p2)
    rw [if_neg p, if_pos p2]
    by_cases q : f_M_startOfBlock τ a = -1
    · have q2 := m4.mp q
      rw [if_pos q, if_neg q2, zfine1]
      dsimp only
      rw [if_pos rfl]
      refine ⟨fun _ => ⟨(zcount h4).1, fun r hr w => absurd (by rw [← hr]; exact w) q2⟩, ⟨fun _ => ⟨m2, fun r hr => ⟨fun _ x u hu w => absurd (Prod.mk.inj hu).1 w, fun w => absurd (hr.trans q) w⟩⟩, fun w => absurd p2 w⟩, zOp_refuse h b (by decide) 0 0⟩
    · have q2 := Classical.not_not.mp (fun w => q (m4.mpr w))
      rw [if_neg q, if_pos q2, zfine0]
      dsimp only
      rw [if_neg (show ¬ (1 : Int32) = 0 by decide), m3]
      have n1 := znext (zpl_k0 h) (f_M_startOfBlock τ a) (zSS_of (m5.resolve_left q) (zuf_ne (by decide)) (zuf_nj (by decide)))
      refine ⟨fun _ => ⟨(zcount h4).1, fun r hr _ => ⟨m1, fun x hx => by rw [hx]; exact n1.1⟩⟩, ⟨fun _ => ⟨m2, fun r hr => ⟨fun w => absurd (hr.symm.trans w) q, fun _ x u hu _ => by rw [hr, (Prod.mk.inj hu).2]; exact n1.2.2.1⟩⟩, fun w => absurd p2 w⟩, zOp_see h b n1.2.1⟩
