/-! bytes are written -/
theorem op_write {k : Nat} {σ τ : zSt} (h : zRel σ τ) (b : zBnd k τ) (a1 a2 : Int32) : k_X_write σ a1 a2 ∧ k_M_write τ a1 a2 ∧ zOp k σ τ (f_X_write σ a1 a2) (f_M_write τ a1 a2) := by
  have h' := h
  obtain ⟨⟨⟨c1, c2, c3, c4, c5, c6, c7, c8, c9, c10, c11, c12, c13⟩, d0, d1, d2, d3, d4, d5, d6, d7⟩, r2, r3, r4, r5, r6, r7, r8, r9, r10, r11⟩ := h'
  have b' := b
  obtain ⟨⟨h1, h2, h3, h4, h5, h6, h7, h8, h9, h10, h11, h12⟩, -, b3, -⟩ := b'
  have z100 : (100 : Int32).toInt = 100 := rfl
  have z256 : (256 : Int32).toInt = 256 := rfl
  have z255 : (255 : Int32).toInt = 255 := rfl
  have q1 := (zisIn τ a1 0 255).1
  have q2 := (zisIn τ a2 1 100).1
  rw [zt0, z255] at q1
  rw [zt1, z100] at q2
  unfold k_X_write k_M_write f_X_write f_M_write
  dsimp only [zlet, zseq]
  rw [c4]
  have hF1 : ∀ (P : zSt → Prop), ∀ r u, (r, u) = f_M_isFine τ 1 → (¬ r = 0 → P u) := fun P r u hu q => absurd (zf1 hu) q
  have hF2 : ∀ (P : zSt → Prop), ∀ r u, (r, u) = f_M_isFine τ 2 → (¬ r = 0 → P u) := fun P r u hu q => absurd (zf2 hu) q
  by_cases g1 : f_M_isIn τ a1 0 255 = 0
  · have g1' := q1.mp g1
    refine ⟨fun w1 w2 => absurd (by rw [zlt, zt0] at w1; rw [zle, z256] at w2; omega) g1', fun r hr => ⟨fun _ => hF1 (fun u => kl_M_write_53 a1 a2 _ u 0), fun w => absurd (hr.trans g1) w⟩, ?_⟩
    rw [if_pos g1, zfine1]
    dsimp only
    rw [if_pos rfl]
    by_cases g2 : a1 < 0
    · rw [if_pos g2]; exact zOp_refuse h b (by decide) 0 0
    · rw [if_neg g2, if_pos (by rw [zlt, zt0] at g2; rw [zle, z256]; omega)]
      exact zOp_refuse h b (by decide) 0 0
  · have g1' := Classical.not_not.mp (fun q => g1 (q1.mpr q))
    rw [if_neg (show ¬ a1 < 0 by rw [zlt, zt0]; omega), if_neg (show ¬ (256 : Int32) ≤ a1 by rw [zle, z256]; omega), if_neg g1]
    by_cases g2 : f_M_isIn τ a2 1 100 = 0
    · have g2' := q2.mp g2
      refine ⟨fun _ _ w1 w2 => absurd (by rw [zlt, zt1] at w1; rw [zle, z100] at w2; omega) g2', fun r hr => ⟨fun w => absurd (hr.symm.trans w) g1, fun _ => fun r hr => ⟨fun _ => hF1 (fun u => kl_M_write_53 a1 a2 _ u 0), fun w => absurd (hr.trans g2) w⟩⟩, ?_⟩
      rw [if_pos g2, zfine1]
      dsimp only
      rw [if_pos rfl]
      by_cases g3 : a2 < 1
      · rw [if_pos g3]; exact zOp_refuse h b (by decide) 0 0
      · rw [if_neg g3, if_neg (show ¬ a2 ≤ 100 by rw [zlt, zt1] at g3; rw [zle, z100]; omega)]
        exact zOp_refuse h b (by decide) 0 0
    · have g2' := Classical.not_not.mp (fun q => g2 (q2.mpr q))
      have hw : (τ 13 5 + a2).toInt = (τ 13 5).toInt + a2.toInt := zadd (by omega) (by omega)
      rw [if_neg (show ¬ a2 < 1 by rw [zlt, zt1]; omega), if_pos (show a2 ≤ 100 by rw [zle, z100]; omega), if_neg g2]
      by_cases g3 : τ 13 5 + a2 ≤ 600
      · have g3' := g3
        rw [zle, zt600, hw] at g3'
        rw [if_pos g3, if_pos g3, zfine0]
        dsimp only
        rw [if_neg (show ¬ (1 : Int32) = 0 by decide)]
        obtain ⟨τ0, hτ0⟩ : ∃ u, u = zuf τ 13 0 0 := ⟨_, rfl⟩
        have t0 : ∀ i, i ≠ 13 → τ0 i = τ i := fun i q => by rw [hτ0, zuf_ne q]
        have t1 : ∀ j, j ≠ 0 → τ0 13 j = τ 13 j := fun j q => by rw [hτ0, zuf_nj q]
        have t2 : τ0 13 0 = 0 := by rw [hτ0, zuf_eq]
        rw [← hτ0]
        obtain ⟨m1, m2, m3, m4, m5⟩ := l_write a1 a2 (τ 13 5) (by omega) (by omega) ((a2.toInt - (0 : Int32).toInt).toNat + 2) σ τ0 0 (by rw [t0 14 (by decide)]; exact r3) c4 (t1 5 (by decide)) (by rw [zt0]; omega) (by omega)
        refine ⟨fun _ _ _ _ _ => m1, fun r hr => ⟨fun w => absurd (hr.symm.trans w) g1, fun _ => fun r hr => ⟨fun w => absurd (hr.symm.trans w) g2, fun _ => ⟨fun _ r u hu q => by rw [(Prod.mk.inj hu).2]; exact m2, fun w => absurd g3 w⟩⟩⟩, ?_⟩
        generalize l_X_write_55 a1 a2 ((a2.toInt - (0 : Int32).toInt).toNat + 2) σ 0 = S at *
        generalize l_M_write_53 a1 a2 ((a2.toInt - (0 : Int32).toInt).toNat + 2) τ0 0 = T at *
        have S2 : S 2 = σ 2 := m4 2 (by decide)
        have T13 : ∀ j, j ≠ 0 → T 13 j = τ 13 j := fun j q => by rw [m5 13 (by decide), t1 j q]
        have eS : S 2 5 = τ 13 5 := by rw [S2, c4]
        rw [eS, T13 5 (by decide)]
        have fS : ∀ i, i ≠ 1 → i ≠ 2 → zuf S 2 5 (τ 13 5 + a2) i = σ i := fun i w1 w2 => by rw [zuf_ne w2, m4 i w1]
        have fT : ∀ i, i ≠ 13 → i ≠ 14 → zuf T 13 5 (τ 13 5 + a2) i = τ i := fun i w1 w2 => by rw [zuf_ne w1, m5 i w2, t0 i w1]
        have fU : ∀ j, j ≠ 0 → j ≠ 5 → zuf T 13 5 (τ 13 5 + a2) 13 j = τ 13 j := fun j w1 w2 => by rw [zuf_nj w2, T13 j w1]
        have fV : ∀ j, j ≠ 5 → zuf S 2 5 (τ 13 5 + a2) 2 j = σ 2 j := fun j w2 => by rw [zuf_nj w2, S2]
        have f5 : zuf T 13 5 (τ 13 5 + a2) 13 5 = τ 13 5 + a2 := zuf_eq
        have f6 : zuf S 2 5 (τ 13 5 + a2) 2 5 = τ 13 5 + a2 := zuf_eq
        have f0 : zuf T 13 5 (τ 13 5 + a2) 13 0 = 0 := by rw [zuf_nj (by decide), m5 13 (by decide)]; exact t2
        have f1 : zEq (zuf S 2 5 (τ 13 5 + a2) 1) (zuf T 13 5 (τ 13 5 + a2) 14) := by
          rw [zuf_ne (by decide), zuf_ne (by decide)]; exact m3
        generalize zuf S 2 5 (τ 13 5 + a2) = S' at *
        generalize zuf T 13 5 (τ 13 5 + a2) = T' at *
        refine ⟨f0, fun _ => rfl, ⟨?_, ?_, f1, ?_, ?_, ?_, ?_, ?_, ?_, ?_, ?_⟩, ⟨?_, ?_, ?_, ?_⟩, fun i w => fS i (by omega) (by omega), fun i w => fT i (by omega) (by omega)⟩
        · show zRS (S' 2) (S' 5) (T' 13)
          unfold zRS
          rw [fV 2 (by decide), fV 3 (by decide), fV 4 (by decide), f6, fV 6 (by decide), fV 7 (by decide), fV 8 (by decide), fV 9 (by decide), fV 10 (by decide), fV 11 (by decide), fV 12 (by decide), fV 13 (by decide), fV 14 (by decide), fS 5 (by decide) (by decide), f5, fU 2 (by decide) (by decide), fU 3 (by decide) (by decide), fU 4 (by decide) (by decide), fU 6 (by decide) (by decide), fU 7 (by decide) (by decide), fU 8 (by decide) (by decide), fU 9 (by decide) (by decide), fU 10 (by decide) (by decide), fU 11 (by decide) (by decide), fU 12 (by decide) (by decide), fU 13 (by decide) (by decide), fU 14 (by decide) (by decide), fU 15 (by decide) (by decide), fU 16 (by decide) (by decide), fU 17 (by decide) (by decide), fU 18 (by decide) (by decide), fU 19 (by decide) (by decide), fU 20 (by decide) (by decide), fU 21 (by decide) (by decide), fU 22 (by decide) (by decide), fU 1 (by decide) (by decide)]
          exact ⟨⟨c1, c2, c3, rfl, c5, c6, c7, c8, c9, c10, c11, c12, c13⟩, d0, d1, d2, d3, d4, d5, d6, d7⟩
        · dsimp only
          rw [fS 4 (by decide) (by decide), fT 15 (by decide) (by decide)]; exact r2
        · exact zHB_of r4 (fS 8 (by decide) (by decide)) (fS 6 (by decide) (by decide)) (fT 16 (by decide) (by decide)) (fT 17 (by decide) (by decide)) (fU 28 (by decide) (by decide)) (fU 29 (by decide) (by decide))
        · dsimp only
          rw [fS 6 (by decide) (by decide), fU 27 (by decide) (by decide)]; exact r5
        · dsimp only
          rw [fS 9 (by decide) (by decide), fU 32 (by decide) (by decide)]; exact r6
        · dsimp only
          rw [fS 11 (by decide) (by decide), fU 38 (by decide) (by decide)]; exact r7
        · dsimp only
          rw [fS 10 (by decide) (by decide), fT 18 (by decide) (by decide), fT 19 (by decide) (by decide)]; exact r8
        · dsimp only
          rw [fS 12 (by decide) (by decide), fT 20 (by decide) (by decide), fT 21 (by decide) (by decide)]; exact r9
        · dsimp only
          rw [fS 12 (by decide) (by decide), fT 22 (by decide) (by decide)]; exact r10
        · dsimp only
          rw [fS 12 (by decide) (by decide), fT 23 (by decide) (by decide), fT 24 (by decide) (by decide)]; exact r11
        · unfold zBS
          dsimp only
          rw [f5, fU 1 (by decide) (by decide), fU 2 (by decide) (by decide), fU 3 (by decide) (by decide), fU 4 (by decide) (by decide), fU 7 (by decide) (by decide), fU 8 (by decide) (by decide), fU 11 (by decide) (by decide)]
          exact ⟨h1, h2, h3, by omega, by omega, h6, h7, h8, h9, h10, by omega, h12⟩
        · have bt := b.2.1
          unfold zBT at bt ⊢
          dsimp only
          rw [fU 27 (by decide) (by decide), fU 32 (by decide) (by decide), fU 38 (by decide) (by decide)]
          obtain ⟨t1, t2, t3⟩ := bt
          exact ⟨t1, by omega, t3⟩
        · unfold zBM at b3 ⊢
          dsimp only
          rw [fT 15 (by decide) (by decide), fU 2 (by decide) (by decide), fU 4 (by decide) (by decide)]
          exact b3
        · have br := b.2.2.2
          unfold zBR at br ⊢
          dsimp only
          rw [fU 28 (by decide) (by decide), fU 4 (by decide) (by decide), fT 17 (by decide) (by decide), fT 18 (by decide) (by decide), fT 19 (by decide) (by decide), fT 20 (by decide) (by decide), fT 22 (by decide) (by decide), fT 23 (by decide) (by decide), fT 24 (by decide) (by decide)]
          exact br
      · refine ⟨fun _ _ _ _ w => absurd w g3, fun r hr => ⟨fun w => absurd (hr.symm.trans w) g1, fun _ => fun r hr => ⟨fun w => absurd (hr.symm.trans w) g2, fun _ => ⟨fun w => absurd w g3, fun _ => hF2 (fun u => kl_M_write_53 a1 a2 _ u 0)⟩⟩⟩, ?_⟩
        rw [if_neg g3, if_neg g3, zfine2]
        dsimp only
        rw [if_pos rfl]
        exact zOp_refuse h b (by decide) 0 0
/-! a segment is duplicated -/
theorem op_duplicate {k : Nat} {σ τ : zSt} (h : zRel σ τ) (b : zBnd k τ) (a : Int32) : k_X_duplicate σ a ∧ k_M_duplicate τ a ∧ zOp k σ τ (f_X_duplicate σ a) (f_M_duplicate τ a) := by
  have h' := h
  obtain ⟨-, -, -, r4, r5, e9, e11, hS, hN, hC, hB⟩ := h'
  have b' := b
  obtain ⟨-, ⟨b1, b2, b3, b4, b5, b6⟩, -, w1, w2, w3, w4, w5⟩ := b'
  have hq : f_M_isSegment τ a = 0 ↔ f_W_holds 9 σ a = 0 := zisSeg e9 b3
  unfold k_X_duplicate k_M_duplicate f_X_duplicate f_M_duplicate
  dsimp only [zlet, zseq]
  by_cases g : f_W_holds 9 σ a = 0
  · rw [if_pos g, if_pos (hq.mpr g), zfine1]
    dsimp only
    rw [if_pos rfl]
    refine ⟨fun r hr q => absurd (hr.trans g) q, fun r hr => ⟨fun _ r4 u5 hu q => absurd (Prod.mk.inj hu).1 q, fun q => absurd (hr.trans (hq.mpr g)) q⟩, zOp_refuse h b (by decide) 0 0⟩
  · have g2 : ¬ f_M_isSegment τ a = 0 := fun q => g (hq.mp q)
    have g3 := Classical.not_not.mp (fun q => g ((W_holds 9 σ a).1.mpr q))
    rw [e9] at g3
    rw [if_neg g, if_neg g2]
    by_cases g4 : τ 13 32 = 40
    · have g4' : (τ 13 32).toInt = 40 := by rw [g4]; rfl
      have g5 : ¬ f_W_isFull 9 σ = 0 := by
        unfold f_W_isFull
        rw [if_neg (by rw [zlt, e9, zt40]; omega)]
        decide
      rw [if_neg g5, if_pos g4, zfine2]
      dsimp only
      rw [if_pos rfl]
      exact ⟨fun r hr q r4 hr4 w => absurd (hr4.symm.trans w) g5, fun r hr => ⟨fun q => absurd (hr.symm.trans q) g2, fun _ => ⟨fun _ r u hu q => absurd (Prod.mk.inj hu).1 q, fun q => absurd g4 q⟩⟩, zOp_refuse h b (by decide) 0 0⟩
    · have g4' : (τ 13 32).toInt ≠ 40 := fun q => g4 (by rw [zeq, zt40]; exact q)
      have g5 : f_W_isFull 9 σ = 0 := by
        unfold f_W_isFull
        rw [if_pos (by rw [zlt, e9, zt40]; omega)]
      have hadd := zadd_row (c := 9) (σ := σ) (by rw [e9]; exact b3) (by rw [e9]; omega)
      rw [if_pos g5, if_neg g4, zfine0, hadd]
      dsimp only
      rw [if_neg (show ¬ (1 : Int32) = 0 by decide), e9]
      generalize hn : τ 13 32 = n at *
      obtain ⟨c1, c2⟩ := W_cell9 (σ := zuf σ 9 2 (n + 1)) (a := a) (i := 0) g3.1 (by omega) (by decide) (by decide)
      have z0 : (0 : Int32).toInt.toNat = 0 := rfl
      have z1 : (1 : Int32).toInt.toNat = 1 := rfl
      rw [z0, Nat.add_zero, zuf_ne (by decide), (hS a.toInt.toNat (by omega)).1] at c2
      obtain ⟨c3, c4⟩ := W_set9 (σ := zuf σ 9 2 (n + 1)) (a := n) (i := 0) (v := τ 18 a.toInt.toNat) b3 (by omega) (by decide) (by decide)
      rw [z0, Nat.add_zero] at c4
      obtain ⟨c5, c6⟩ := W_cell9 (σ := zuf (zuf σ 9 2 (n + 1)) 10 (2 * n.toInt.toNat) (τ 18 a.toInt.toNat)) (a := a) (i := 1) g3.1 (by omega) (by decide) (by decide)
      rw [z1, zuf_nj (by omega), zuf_ne (by decide), (hS a.toInt.toNat (by omega)).2] at c6
      obtain ⟨c7, c8⟩ := W_set9 (σ := zuf (zuf σ 9 2 (n + 1)) 10 (2 * n.toInt.toNat) (τ 18 a.toInt.toNat)) (a := n) (i := 1) (v := τ 19 a.toInt.toNat) b3 (by omega) (by decide) (by decide)
      rw [z1] at c8
      have c9 : ∀ v w x : Int32, zuf (zuf (zuf σ 9 2 v) 10 (2 * n.toInt.toNat) w) 10 (2 * n.toInt.toNat + 1) x 9 2 = v := fun v w x => by
        rw [zuf_ne (by decide), zuf_ne (by decide), zuf_eq]
      rw [c2, c4, c6, c8, c9]
      have t0 : ∀ i, i ≠ 13 → zuf τ 13 0 0 i = τ i := fun i q => zuf_ne q
      have t1 : ∀ j, j ≠ 0 → zuf τ 13 0 0 13 j = τ 13 j := fun j q => zuf_nj q
      have han : a.toNatClampNeg = a.toInt.toNat := rfl
      have hnn : n.toNatClampNeg = n.toInt.toNat := rfl
      rw [t1 32 (by decide), t0 18 (by decide), t0 19 (by decide), hn, han, hnn]
      have hi : (n + 1).toInt = n.toInt + 1 := zinc' (by omega)
      refine ⟨fun r hr q r4 hr4 w r7 u8 hu => ?_, fun r hr => ⟨fun q => absurd (hr.symm.trans q) g2, fun _ => ⟨fun q => absurd q g4, fun _ r u hu q => ?_⟩⟩, ?_⟩
      · obtain ⟨rfl, rfl⟩ := Prod.mk.inj hu
        refine ⟨c1, fun x hx => ?_⟩
        rw [c2] at hx
        rw [hx]
        refine ⟨c3, fun x hx => ?_⟩
        rw [c4] at hx
        rw [hx]
        refine ⟨c5, fun x hx => ?_⟩
        rw [c6] at hx
        rw [hx]
        exact c7
      · rw [(Prod.mk.inj hu).2, t1 32 (by decide), hn]
        exact ⟨zvin g3.1 (by omega), zvin b3 (by omega), zvin g3.1 (by omega), zvin b3 (by omega)⟩
      · have e19 : zuf (zuf τ 13 0 0) 18 n.toInt.toNat (τ 18 a.toInt.toNat) 19 a.toInt.toNat = τ 19 a.toInt.toNat := by
          rw [zuf_ne (by decide), t0 19 (by decide)]
        have fT : ∀ i, i ≠ 13 → i ≠ 18 → i ≠ 19 → zuf (zuf (zuf (zuf τ 13 0 0) 18 n.toInt.toNat (τ 18 a.toInt.toNat)) 19 n.toInt.toNat (τ 19 a.toInt.toNat)) 13 32 (n + 1) i = τ i := fun i q1 q2 q3 => by
          rw [zuf_ne q1, zuf_ne q3, zuf_ne q2, t0 i q1]
        have fU : ∀ j, j ≠ 0 → j ≠ 32 → zuf (zuf (zuf (zuf τ 13 0 0) 18 n.toInt.toNat (τ 18 a.toInt.toNat)) 19 n.toInt.toNat (τ 19 a.toInt.toNat)) 13 32 (n + 1) 13 j = τ 13 j := fun j q1 q2 => by
          rw [zuf_nj q2, zuf_ne (by decide), zuf_ne (by decide), t1 j q1]
        have f0 : zuf (zuf (zuf (zuf τ 13 0 0) 18 n.toInt.toNat (τ 18 a.toInt.toNat)) 19 n.toInt.toNat (τ 19 a.toInt.toNat)) 13 32 (n + 1) 13 0 = 0 := by
          rw [zuf_nj (by decide), zuf_ne (by decide), zuf_ne (by decide), zuf_eq]
        have f32 : zuf (zuf (zuf (zuf τ 13 0 0) 18 n.toInt.toNat (τ 18 a.toInt.toNat)) 19 n.toInt.toNat (τ 19 a.toInt.toNat)) 13 32 (n + 1) 13 32 = n + 1 := zuf_eq
        have f18 : ∀ p, zuf (zuf (zuf (zuf τ 13 0 0) 18 n.toInt.toNat (τ 18 a.toInt.toNat)) 19 n.toInt.toNat (τ 19 a.toInt.toNat)) 13 32 (n + 1) 18 p = if p = n.toInt.toNat then τ 18 a.toInt.toNat else τ 18 p := fun p => by
          rw [zuf_ne (by decide), zuf_ne (by decide), zuf_i, t0 18 (by decide)]
        have f19 : ∀ p, zuf (zuf (zuf (zuf τ 13 0 0) 18 n.toInt.toNat (τ 18 a.toInt.toNat)) 19 n.toInt.toNat (τ 19 a.toInt.toNat)) 13 32 (n + 1) 19 p = if p = n.toInt.toNat then τ 19 a.toInt.toNat else τ 19 p := fun p => by
          rw [zuf_ne (by decide), zuf_i, zuf_ne (by decide), t0 19 (by decide)]
        have fS : ∀ i, i ≠ 9 → i ≠ 10 → zuf (zuf (zuf σ 9 2 (n + 1)) 10 (2 * n.toInt.toNat) (τ 18 a.toInt.toNat)) 10 (2 * n.toInt.toNat + 1) (τ 19 a.toInt.toNat) i = σ i := fun i q1 q2 => by
          rw [zuf_ne q2, zuf_ne q2, zuf_ne q1]
        have s9 := c9 (n + 1) (τ 18 a.toInt.toNat) (τ 19 a.toInt.toNat)
        have s10 : ∀ j, zuf (zuf (zuf σ 9 2 (n + 1)) 10 (2 * n.toInt.toNat) (τ 18 a.toInt.toNat)) 10 (2 * n.toInt.toNat + 1) (τ 19 a.toInt.toNat) 10 j = if j = 2 * n.toInt.toNat + 1 then τ 19 a.toInt.toNat else if j = 2 * n.toInt.toNat then τ 18 a.toInt.toNat else σ 10 j := fun j => by
          rw [zuf_i, zuf_i, zuf_ne (by decide)]
        generalize zuf (zuf (zuf (zuf τ 13 0 0) 18 n.toInt.toNat (τ 18 a.toInt.toNat)) 19 n.toInt.toNat (τ 19 a.toInt.toNat)) 13 32 (n + 1) = T' at *
        generalize zuf (zuf (zuf σ 9 2 (n + 1)) 10 (2 * n.toInt.toNat) (τ 18 a.toInt.toNat)) 10 (2 * n.toInt.toNat + 1) (τ 19 a.toInt.toNat) = S' at *
        refine ⟨f0, fun _ => rfl, ?_, ?_, fun i q => fS i (by omega) (by omega), fun i q => fT i (by omega) (by omega) (by omega)⟩
        · dsimp only
          refine zRel_rcv h ?_ ?_ ?_ ?_ ?_ ?_ ?_ ?_ (fun i q => fS i (by omega) (by omega)) (fT 14 (by decide) (by decide) (by decide)) (fT 15 (by decide) (by decide) (by decide)) (fun j q1 q2 => fU j (by omega) (by omega))
          · exact zHB_of r4 (fS 8 (by decide) (by decide)) (fS 6 (by decide) (by decide)) (fT 16 (by decide) (by decide) (by decide)) (fT 17 (by decide) (by decide) (by decide)) (fU 28 (by decide) (by decide)) (fU 29 (by decide) (by decide))
          · rw [fS 6 (by decide) (by decide), fU 27 (by decide) (by decide)]; exact r5
          · rw [s9, f32]
          · rw [fS 11 (by decide) (by decide), fU 38 (by decide) (by decide)]; exact e11
          · intro p hp
            rw [s10, s10, f18, f19]
            by_cases q : p = n.toInt.toNat
            · rw [if_neg (by omega), if_pos (by omega), if_pos q, if_pos (by omega), if_pos q]
              exact ⟨rfl, rfl⟩
            · rw [if_neg (by omega), if_neg (by omega), if_neg q, if_neg (by omega), if_neg (by omega), if_neg q]
              exact hS p hp
          · rw [fS 12 (by decide) (by decide), fT 20 (by decide) (by decide) (by decide), fT 21 (by decide) (by decide) (by decide)]; exact hN
          · rw [fS 12 (by decide) (by decide), fT 22 (by decide) (by decide) (by decide)]; exact hC
          · rw [fS 12 (by decide) (by decide), fT 23 (by decide) (by decide) (by decide), fT 24 (by decide) (by decide) (by decide)]; exact hB
        · dsimp only
          refine zBnd_rcv b ?_ ?_ (fT 15 (by decide) (by decide) (by decide)) (fun j q1 q2 => fU j (by omega) (by omega))
          · unfold zBT
            rw [fU 27 (by decide) (by decide), f32, fU 38 (by decide) (by decide)]
            exact ⟨b1, by omega, by omega, by omega, b5, b6⟩
          · unfold zBR
            rw [fU 28 (by decide) (by decide), fT 17 (by decide) (by decide) (by decide), fT 20 (by decide) (by decide) (by decide), fT 22 (by decide) (by decide) (by decide), fT 23 (by decide) (by decide) (by decide), fT 24 (by decide) (by decide) (by decide)]
            refine ⟨w1, w2, fun p hp => ?_, w4, w5⟩
            rw [f18, f19]
            by_cases q : p = n.toInt.toNat
            · rw [if_pos q, if_pos q]; exact w3 a.toInt.toNat (by omega)
            · rw [if_neg q, if_neg q]; exact w3 p hp
