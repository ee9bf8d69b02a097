/-! what changes on one side only -/
theorem zRel_snd {σ τ σ' τ' : zSt} (h : zRel σ τ) (hs : zRS (σ' 2) (σ' 5) (τ' 13)) (hm : zEq (σ' 4) (τ' 15)) (e1 : ∀ i, i < 13 → i ≠ 2 → i ≠ 4 → i ≠ 5 → σ' i = σ i) (e2 : ∀ i, 14 ≤ i → i < 25 → i ≠ 15 → τ' i = τ i) (e3 : ∀ j, 23 ≤ j → τ' 13 j = τ 13 j) : zRel σ' τ' := by
  obtain ⟨-, -, r3, r4, r5, r6, r7, r8, r9, r10, r11⟩ := h
  have q1 := e1 1 (by decide) (by decide) (by decide) (by decide)
  have q6 := e1 6 (by decide) (by decide) (by decide) (by decide)
  have q8 := e1 8 (by decide) (by decide) (by decide) (by decide)
  have q9 := e1 9 (by decide) (by decide) (by decide) (by decide)
  have q10 := e1 10 (by decide) (by decide) (by decide) (by decide)
  have q11 := e1 11 (by decide) (by decide) (by decide) (by decide)
  have q12 := e1 12 (by decide) (by decide) (by decide) (by decide)
  refine ⟨hs, hm, ?_, ?_, ?_, ?_, ?_, ?_, ?_, ?_, ?_⟩
  · rw [q1, e2 14 (by decide) (by decide) (by decide)]; exact r3
  · exact zHB_of r4 q8 q6 (e2 16 (by decide) (by decide) (by decide)) (e2 17 (by decide) (by decide) (by decide)) (e3 28 (by decide)) (e3 29 (by decide))
  · rw [q6, e3 27 (by decide)]; exact r5
  · rw [q9, e3 32 (by decide)]; exact r6
  · rw [q11, e3 38 (by decide)]; exact r7
  · rw [q10, e2 18 (by decide) (by decide) (by decide), e2 19 (by decide) (by decide) (by decide)]; exact r8
  · rw [q12, e2 20 (by decide) (by decide) (by decide), e2 21 (by decide) (by decide) (by decide)]; exact r9
  · rw [q12, e2 22 (by decide) (by decide) (by decide)]; exact r10
  · rw [q12, e2 23 (by decide) (by decide) (by decide), e2 24 (by decide) (by decide) (by decide)]; exact r11
theorem zBnd_snd {k : Nat} {τ τ' : zSt} (h : zBnd k τ) (hs : zBS (k + 1) (τ' 13)) (hm : zBM (τ' 15) (τ' 13)) (hh : (τ 13 4).toInt ≤ (τ' 13 4).toInt) (e2 : ∀ i, 14 ≤ i → i < 25 → i ≠ 15 → τ' i = τ i) (e3 : ∀ j, 23 ≤ j → τ' 13 j = τ 13 j) : zBnd (k + 1) τ' := by
  obtain ⟨-, ⟨t1, t2, t3, t4, t5, t6⟩, -, w1, w2, w3, w4, w5⟩ := h
  refine ⟨hs, ?_, hm, ?_⟩
  · unfold zBT
    rw [e3 27 (by decide), e3 32 (by decide), e3 38 (by decide)]
    exact ⟨t1, by omega, t3, t4, t5, t6⟩
  · unfold zBR
    rw [e3 28 (by decide), e2 17 (by decide) (by decide) (by decide), e2 18 (by decide) (by decide) (by decide), e2 19 (by decide) (by decide) (by decide), e2 20 (by decide) (by decide) (by decide), e2 22 (by decide) (by decide) (by decide), e2 23 (by decide) (by decide) (by decide), e2 24 (by decide) (by decide) (by decide)]
    refine ⟨by omega, fun j hj q => ?_, fun p hp => ?_, w4, fun j hj => ?_⟩
    · have := w2 j hj q; omega
    · have := w3 p hp; omega
    · have := w5 j hj; omega
theorem zRS_of {f t f' t' g g' : Nat → Int32} (h : zRS f t g) (e1 : f' = f) (e2 : t' = t) (e3 : ∀ j, 0 < j → j < 23 → g' j = g j) : zRS f' t' g' := by
  unfold zRS at h ⊢
  rw [e1, e2, e3 1 (by decide) (by decide), e3 2 (by decide) (by decide), e3 3 (by decide) (by decide), e3 4 (by decide) (by decide), e3 5 (by decide) (by decide), e3 6 (by decide) (by decide), e3 7 (by decide) (by decide), e3 8 (by decide) (by decide), e3 9 (by decide) (by decide), e3 10 (by decide) (by decide), e3 11 (by decide) (by decide), e3 12 (by decide) (by decide), e3 13 (by decide) (by decide), e3 14 (by decide) (by decide), e3 15 (by decide) (by decide), e3 16 (by decide) (by decide), e3 17 (by decide) (by decide), e3 18 (by decide) (by decide), e3 19 (by decide) (by decide), e3 20 (by decide) (by decide), e3 21 (by decide) (by decide), e3 22 (by decide) (by decide)]
  exact h
theorem zBS_of {k : Nat} {g g' : Nat → Int32} (h : zBS k g) (e3 : ∀ j, 0 < j → j < 23 → g' j = g j) : zBS (k + 1) g' := by
  unfold zBS at h ⊢
  rw [e3 1 (by decide) (by decide), e3 2 (by decide) (by decide), e3 3 (by decide) (by decide), e3 4 (by decide) (by decide), e3 5 (by decide) (by decide), e3 7 (by decide) (by decide), e3 8 (by decide) (by decide), e3 11 (by decide) (by decide)]
  obtain ⟨h1, h2, h3, h4, h5, h6, h7, h8, h9, h10, h11, h12⟩ := h
  exact ⟨h1, h2, h3, h4, h5, h6, h7, h8, h9, h10, by omega, h12⟩
theorem zRel_rcv {σ τ σ' τ' : zSt} (h : zRel σ τ) (r4 : zHB σ' τ') (r5 : σ' 6 1 = τ' 13 27) (r6 : σ' 9 2 = τ' 13 32) (r7 : σ' 11 2 = τ' 13 38) (r8 : zSg (σ' 10) (τ' 18) (τ' 19)) (r9 : zAkN (σ' 12) (τ' 20) (τ' 21)) (r10 : zAkC (σ' 12) (τ' 22)) (r11 : zAkB (σ' 12) (τ' 23) (τ' 24)) (e1 : ∀ i, i < 6 → σ' i = σ i) (e2 : τ' 14 = τ 14) (e2' : τ' 15 = τ 15) (e3 : ∀ j, 0 < j → j < 23 → τ' 13 j = τ 13 j) : zRel σ' τ' := by
  obtain ⟨r1, r2, r3, -⟩ := h
  refine ⟨zRS_of r1 (e1 2 (by decide)) (e1 5 (by decide)) e3, ?_, ?_, r4, r5, r6, r7, r8, r9, r10, r11⟩
  · rw [e1 4 (by decide), e2']; exact r2
  · rw [e1 1 (by decide), e2]; exact r3
theorem zBnd_rcv {k : Nat} {τ τ' : zSt} (h : zBnd k τ) (ht : zBT (k + 1) (τ' 13)) (hr : zBR τ' (τ 13 4).toInt (τ' 13 28).toInt) (e2' : τ' 15 = τ 15) (e3 : ∀ j, 0 < j → j < 23 → τ' 13 j = τ 13 j) : zBnd (k + 1) τ' := by
  obtain ⟨h1, -, h3, -⟩ := h
  refine ⟨zBS_of h1 e3, ht, ?_, ?_⟩
  · unfold zBM at h3 ⊢
    rw [e2', e3 2 (by decide) (by decide), e3 4 (by decide) (by decide)]
    exact h3
  · rw [e3 4 (by decide) (by decide)]
    exact hr
/-! a limit is set -/
theorem op_setLimit {k : Nat} {σ τ : zSt} (h : zRel σ τ) (b : zBnd k τ) (a : Int32) : True ∧ True ∧ zOp k σ τ (f_X_setLimit σ a) (f_M_setLimit τ a) := by
  refine ⟨trivial, trivial, ?_⟩
  unfold f_X_setLimit f_M_setLimit
  dsimp only [zlet, zseq]
  have z4 : (4 : Int32).toInt = 4 := rfl
  have z256 : (256 : Int32).toInt = 256 := rfl
  have hq := (zisIn τ a 4 256).1
  rw [z4, z256] at hq
  by_cases g1 : a < 4
  · rw [if_pos g1, if_pos (hq.mpr (by rw [zlt, z4] at g1; omega)), zfine1]
    dsimp only
    rw [if_pos rfl]
    exact zOp_refuse h b (by decide) 0 0
  · rw [if_neg g1]
    by_cases g2 : a ≤ 256
    · rw [if_pos g2, if_neg (fun q => (hq.mp q) (by rw [zlt, z4] at g1; rw [zle, z256] at g2; omega)), zfine0]
      dsimp only
      rw [if_neg (show ¬ (1 : Int32) = 0 by decide)]
      have h' := h
      obtain ⟨⟨⟨c1, c2, c3, c4, c5, c6, c7, c8, c9, c10, c11, c12, c13⟩, d0, d1, d2, d3, d4, d5, d6, d7⟩, r2, -⟩ := h'
      have b' := b
      obtain ⟨b1, -, b3, -⟩ := b'
      have e3 : ∀ j, j ≠ 0 → j ≠ 9 → zuf (zuf τ 13 0 0) 13 9 a 13 j = τ 13 j := fun j q1 q2 => by rw [zuf_nj q2, zuf_nj q1]
      have e2 : ∀ i, i ≠ 13 → zuf (zuf τ 13 0 0) 13 9 a i = τ i := fun i q => by rw [zuf_ne q, zuf_ne q]
      refine ⟨?_, fun _ => ?_, ?_, ?_, fun i q => zuf_ne (by omega), fun i q => e2 i (by omega)⟩
      · show zuf (zuf τ 13 0 0) 13 9 a 13 0 = 0
        rw [zuf_nj (by decide), zuf_eq]
      · show σ 2 9 = zuf τ 13 0 0 13 9
        rw [zuf_nj (by decide)]; exact c8
      · refine zRel_snd h ?_ ?_ (fun i q1 q2 q3 q4 => zuf_ne q2) (fun i q1 q2 q3 => e2 i (by omega)) (fun j q => e3 j (by omega) (by omega))
        · unfold zRS
          simp [zuf_at, c1, c2, c3, c4, c5, c6, c7, c9, c10, c11, c12, c13, d0, d1, d2, d3, d4, d5, d6, d7]
        · show zEq (zuf σ 2 9 a 4) (zuf (zuf τ 13 0 0) 13 9 a 15)
          rw [zuf_ne (by decide), e2 15 (by decide)]
          exact r2
      · refine zBnd_snd b ?_ ?_ ?_ (fun i q1 q2 q3 => e2 i (by omega)) (fun j q => e3 j (by omega) (by omega))
        · obtain ⟨h1, h2, h3, h4, h5, h6, h7, h8, h9, h10, h11, h12⟩ := b1
          unfold zBS
          dsimp only
          rw [e3 1 (by decide) (by decide), e3 2 (by decide) (by decide), e3 3 (by decide) (by decide), e3 4 (by decide) (by decide), e3 5 (by decide) (by decide), e3 7 (by decide) (by decide), e3 8 (by decide) (by decide), e3 11 (by decide) (by decide)]
          exact ⟨h1, h2, h3, h4, h5, h6, h7, h8, h9, h10, by omega, h12⟩
        · unfold zBM at b3 ⊢
          dsimp only
          rw [e2 15 (by decide), e3 2 (by decide) (by decide), e3 4 (by decide) (by decide)]
          exact b3
        · dsimp only
          rw [e3 4 (by decide) (by decide)]
          exact Int.le_refl _
    · rw [if_neg g2, if_pos (hq.mpr (by rw [zle, z256] at g2; omega)), zfine1]
      dsimp only
      rw [if_pos rfl]
      exact zOp_refuse h b (by decide) 0 0
/-! a segment or an acknowledgment is lost -/
theorem op_lose {k : Nat} {σ τ : zSt} (h : zRel σ τ) (b : zBnd k τ) (a : Int32) : k_X_lose σ a ∧ k_M_lose τ a ∧ zOp k σ τ (f_X_lose σ a) (f_M_lose τ a) := by
  have h' := h
  obtain ⟨-, -, -, r4, r5, e9, e11, hS, hN, hC, hB⟩ := h'
  have b' := b
  obtain ⟨-, ⟨b1, b2, b3, b4, b5, b6⟩, -, w1, w2, w3, w4, w5⟩ := b'
  have hq : f_M_isSegment τ a = 0 ↔ f_W_holds 9 σ a = 0 := zisSeg e9 b3
  unfold k_X_lose k_M_lose f_X_lose f_M_lose
  dsimp only [zlet, zseq]
  by_cases g : f_W_holds 9 σ a = 0
  · rw [if_pos g, if_pos (hq.mpr g), zfine1]
    dsimp only
    rw [if_pos rfl]
    refine ⟨fun r hr q => absurd (hr.trans g) q, fun r hr => ⟨fun _ r4 u5 hu q => absurd (zf1 hu) q, fun q => absurd (hr.trans (hq.mpr g)) q⟩, zOp_refuse h b (by decide) 0 0⟩
  · have g2 : ¬ f_M_isSegment τ a = 0 := fun q => g (hq.mp q)
    have g3 := Classical.not_not.mp (fun q => g ((W_holds 9 σ a).1.mpr q))
    rw [e9] at g3
    obtain ⟨c1, c2⟩ := W_cell9 (σ := σ) (a := a) (i := 0) g3.1 (by omega) (by decide) (by decide)
    rw [if_neg g, if_neg g2, zfine0]
    dsimp only
    rw [if_neg (show ¬ (1 : Int32) = 0 by decide)]
    obtain ⟨τ0, hτ0⟩ : ∃ u, u = zuf τ 13 0 0 := ⟨_, rfl⟩
    have t0 : ∀ i, i ≠ 13 → τ0 i = τ i := fun i q => by rw [hτ0, zuf_ne q]
    have t1 : ∀ j, j ≠ 0 → τ0 13 j = τ 13 j := fun j q => by rw [hτ0, zuf_nj q]
    have t2 : τ0 13 0 = 0 := by rw [hτ0, zuf_eq]
    obtain ⟨m1, m2, m3, m4, m5, m6, m7, m8, m9⟩ := zremS (σ := σ) (τ := τ0) (a := a) (by rw [t1 32 (by decide)]; exact e9) g3.1 (by rw [t1 32 (by decide)]; exact g3.2) (by rw [t1 32 (by decide)]; exact b4) (by rw [t0 18 (by decide), t0 19 (by decide)]; exact hS)
    rw [← hτ0]
    rw [t1 32 (by decide)] at m5
    refine ⟨fun r hr q => ⟨c1, fun _ _ => m1⟩, fun r hr => ⟨fun q => absurd (hr.symm.trans q) g2, fun _ r4 u5 hu q => ⟨zvin g3.1 (by omega), by rw [(Prod.mk.inj hu).2]; exact m2⟩⟩, ?_, fun _ => ?_, ?_, ?_, fun i q => ?_, fun i q => ?_⟩
    · dsimp only
      rw [m8 0 (by decide)]; exact t2
    · dsimp only
      rw [c2, t0 18 (by decide)]
      exact (hS a.toInt.toNat (by omega)).1
    · dsimp only
      refine zRel_rcv h ?_ ?_ m4 ?_ m3 ?_ ?_ ?_ (fun i q => m6 i (by omega) (by omega)) (by rw [m7 14 (by decide) (by decide) (by decide), t0 14 (by decide)]) (by rw [m7 15 (by decide) (by decide) (by decide), t0 15 (by decide)]) (fun j q1 q2 => by rw [m8 j (by omega), t1 j (by omega)])
      · exact zHB_of r4 (m6 8 (by decide) (by decide)) (m6 6 (by decide) (by decide)) (by rw [m7 16 (by decide) (by decide) (by decide), t0 16 (by decide)]) (by rw [m7 17 (by decide) (by decide) (by decide), t0 17 (by decide)]) (by rw [m8 28 (by decide), t1 28 (by decide)]) (by rw [m8 29 (by decide), t1 29 (by decide)])
      · rw [m6 6 (by decide) (by decide), m8 27 (by decide), t1 27 (by decide)]; exact r5
      · rw [m6 11 (by decide) (by decide), m8 38 (by decide), t1 38 (by decide)]; exact e11
      · rw [m6 12 (by decide) (by decide), m7 20 (by decide) (by decide) (by decide), m7 21 (by decide) (by decide) (by decide), t0 20 (by decide), t0 21 (by decide)]; exact hN
      · rw [m6 12 (by decide) (by decide), m7 22 (by decide) (by decide) (by decide), t0 22 (by decide)]; exact hC
      · rw [m6 12 (by decide) (by decide), m7 23 (by decide) (by decide) (by decide), m7 24 (by decide) (by decide) (by decide), t0 23 (by decide), t0 24 (by decide)]; exact hB
    · dsimp only
      refine zBnd_rcv b ?_ ?_ (by rw [m7 15 (by decide) (by decide) (by decide), t0 15 (by decide)]) (fun j q1 q2 => by rw [m8 j (by omega), t1 j (by omega)])
      · unfold zBT
        rw [m8 27 (by decide), t1 27 (by decide), m8 38 (by decide), t1 38 (by decide)]
        exact ⟨b1, by omega, by omega, by omega, b5, b6⟩
      · unfold zBR
        rw [m8 28 (by decide), t1 28 (by decide), m7 17 (by decide) (by decide) (by decide), m7 20 (by decide) (by decide) (by decide), m7 22 (by decide) (by decide) (by decide), m7 23 (by decide) (by decide) (by decide), m7 24 (by decide) (by decide) (by decide), t0 17 (by decide), t0 20 (by decide), t0 22 (by decide), t0 23 (by decide), t0 24 (by decide)]
        refine ⟨w1, w2, fun p hp => ?_, w4, w5⟩
        obtain ⟨s, s1, s2, s3⟩ := m9 p hp
        rw [s2, s3, t0 18 (by decide), t0 19 (by decide)]
        exact w3 s s1
    · exact m6 i (by omega) (by omega)
    · dsimp only
      rw [m7 i (by omega) (by omega) (by omega), t0 i (by omega)]
theorem op_loseAck {k : Nat} {σ τ : zSt} (h : zRel σ τ) (b : zBnd k τ) (a : Int32) : k_X_loseAck σ a ∧ k_M_loseAck τ a ∧ zOp k σ τ (f_X_loseAck σ a) (f_M_loseAck τ a) := by
  have h' := h
  obtain ⟨-, -, -, r4, r5, e9, e11, hS, hN, hC, hB⟩ := h'
  have b' := b
  obtain ⟨-, ⟨b1, b2, b3, b4, b5, b6⟩, -, w1, w2, w3, w4, w5⟩ := b'
  have hq : f_M_isAck τ a = 0 ↔ f_W_holds 11 σ a = 0 := zisAck e11 b5
  unfold k_X_loseAck k_M_loseAck f_X_loseAck f_M_loseAck
  dsimp only [zlet, zseq]
  by_cases g : f_W_holds 11 σ a = 0
  · rw [if_pos g, if_pos (hq.mpr g), zfine1]
    dsimp only
    rw [if_pos rfl]
    refine ⟨fun r hr q => absurd (hr.trans g) q, fun r hr => ⟨fun _ r4 u5 hu q => absurd (zf1 hu) q, fun q => absurd (hr.trans (hq.mpr g)) q⟩, zOp_refuse h b (by decide) 0 0⟩
  · have g2 : ¬ f_M_isAck τ a = 0 := fun q => g (hq.mp q)
    have g3 := Classical.not_not.mp (fun q => g ((W_holds 11 σ a).1.mpr q))
    rw [e11] at g3
    obtain ⟨c1, c2⟩ := W_cell11 (σ := σ) (a := a) (i := 0) g3.1 (by omega) (by decide) (by decide)
    rw [if_neg g, if_neg g2, zfine0]
    dsimp only
    rw [if_neg (show ¬ (1 : Int32) = 0 by decide)]
    obtain ⟨τ0, hτ0⟩ : ∃ u, u = zuf τ 13 0 0 := ⟨_, rfl⟩
    have t0 : ∀ i, i ≠ 13 → τ0 i = τ i := fun i q => by rw [hτ0, zuf_ne q]
    have t1 : ∀ j, j ≠ 0 → τ0 13 j = τ 13 j := fun j q => by rw [hτ0, zuf_nj q]
    have t2 : τ0 13 0 = 0 := by rw [hτ0, zuf_eq]
    obtain ⟨m1, m2, m3, m4, m5, m6, m7, m8, m9, m10, m11, m12⟩ := zremA (σ := σ) (τ := τ0) (a := a) (by rw [t1 38 (by decide)]; exact e11) g3.1 (by rw [t1 38 (by decide)]; exact g3.2) (by rw [t1 38 (by decide)]; exact b6) (by rw [t0 20 (by decide), t0 21 (by decide)]; exact hN) (by rw [t0 22 (by decide)]; exact hC) (by rw [t0 23 (by decide), t0 24 (by decide)]; exact hB)
    rw [← hτ0]
    rw [t1 38 (by decide)] at m7
    have n9 : ∀ i, i ≠ 13 → i ≠ 20 → i ≠ 21 → i ≠ 22 → i ≠ 23 → i ≠ 24 → f_M_leaves τ0 a i = τ i := fun i q1 q2 q3 q4 q5 q6 => by rw [m9 i q1 q2 q3 q4 q5 q6, t0 i q1]
    have n10 : ∀ j, j ≠ 0 → j ≠ 38 → f_M_leaves τ0 a 13 j = τ 13 j := fun j q1 q2 => by rw [m10 j q2, t1 j q1]
    refine ⟨fun r hr q => ⟨c1, fun _ _ => m1⟩, fun r hr => ⟨fun q => absurd (hr.symm.trans q) g2, fun _ r4 u5 hu q => ⟨zvin g3.1 (by omega), by rw [(Prod.mk.inj hu).2]; exact m2⟩⟩, ?_, fun _ => ?_, ?_, ?_, fun i q => ?_, fun i q => ?_⟩
    · dsimp only
      rw [m10 0 (by decide)]; exact t2
    · dsimp only
      rw [c2, t0 20 (by decide)]
      exact (hN a.toInt.toNat (by omega)).1
    · dsimp only
      refine zRel_rcv h ?_ ?_ ?_ m6 ?_ m3 m4 m5 (fun i q => m8 i (by omega) (by omega)) (n9 14 (by decide) (by decide) (by decide) (by decide) (by decide) (by decide)) (n9 15 (by decide) (by decide) (by decide) (by decide) (by decide) (by decide)) (fun j q1 q2 => n10 j (by omega) (by omega))
      · exact zHB_of r4 (m8 8 (by decide) (by decide)) (m8 6 (by decide) (by decide)) (n9 16 (by decide) (by decide) (by decide) (by decide) (by decide) (by decide)) (n9 17 (by decide) (by decide) (by decide) (by decide) (by decide) (by decide)) (n10 28 (by decide) (by decide)) (n10 29 (by decide) (by decide))
      · rw [m8 6 (by decide) (by decide), n10 27 (by decide) (by decide)]; exact r5
      · rw [m8 9 (by decide) (by decide), n10 32 (by decide) (by decide)]; exact e9
      · rw [m8 10 (by decide) (by decide), n9 18 (by decide) (by decide) (by decide) (by decide) (by decide) (by decide), n9 19 (by decide) (by decide) (by decide) (by decide) (by decide) (by decide)]; exact hS
    · dsimp only
      refine zBnd_rcv b ?_ ?_ (n9 15 (by decide) (by decide) (by decide) (by decide) (by decide) (by decide)) (fun j q1 q2 => n10 j (by omega) (by omega))
      · unfold zBT
        rw [n10 27 (by decide) (by decide), n10 32 (by decide) (by decide)]
        exact ⟨b1, by omega, b3, b4, by omega, by omega⟩
      · unfold zBR
        rw [n10 28 (by decide) (by decide), n9 17 (by decide) (by decide) (by decide) (by decide) (by decide) (by decide), n9 18 (by decide) (by decide) (by decide) (by decide) (by decide) (by decide), n9 19 (by decide) (by decide) (by decide) (by decide) (by decide) (by decide)]
        refine ⟨w1, w2, w3, fun p hp => ?_, fun j hj => ?_⟩
        · obtain ⟨s, s1, s2, s3, s4⟩ := m11 p hp
          rw [s2, s4, t0 20 (by decide), t0 22 (by decide)]
          exact w4 s s1
        · obtain ⟨s, s1, s2, s3⟩ := m12 j hj
          rw [s2, s3, t0 23 (by decide), t0 24 (by decide)]
          exact w5 s s1
    · exact m8 i (by omega) (by omega)
    · dsimp only
      exact n9 i (by omega) (by omega) (by omega) (by omega) (by omega) (by omega)
