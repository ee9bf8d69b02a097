/-! a byte is read -/
theorem op_read {k : Nat} {σ τ : zSt} (h : zRel σ τ) (b : zBnd k τ) : k_X_read σ ∧ k_M_read τ ∧ zOp k σ τ (0, (f_X_read σ).1, (f_X_read σ).2) (f_M_read τ) := by
  have h' := h
  obtain ⟨-, -, rV, r4, r5, e9, e11, hS, hN, hC, hB⟩ := h'
  have b' := b
  obtain ⟨⟨h1, h2, h3, h4, h5, -⟩, ⟨b1, b2, b3, b4, b5, b6⟩, -, w⟩ := b'
  have r4' := r4
  obtain ⟨q1, q2, q3, q4, q5, q6, q7⟩ := r4'
  unfold k_X_read k_M_read f_X_read f_M_read
  dsimp only [zlet, zseq]
  rw [q2, q3]
  by_cases g : τ 13 29 = τ 13 28
  · have g1 : τ 13 28 ≤ τ 13 29 := by rw [g]; exact Int32.le_refl _
    rw [if_pos g, if_pos g1]
    exact ⟨fun q => absurd g1 q, fun q => absurd g q, zOp_see h b rfl⟩
  · have g' : (τ 13 29).toInt ≠ (τ 13 28).toInt := fun q => g (zeq.mpr q)
    have g1 : ¬ τ 13 28 ≤ τ 13 29 := by rw [zle]; omega
    have g2 : ¬ τ 13 29 < 0 := by rw [zlt, zt0]; omega
    have g3 : τ 13 29 < 600 := by rw [zlt, zt600]; omega
    rw [if_neg g, if_neg g1, if_neg g2, if_pos g3]
    have hi : (τ 13 29 + 1).toInt = (τ 13 29).toInt + 1 := zinc' (by omega)
    have hid : τ 13 29 + 1 - 1 = τ 13 29 := by rw [zeq, zdec1 (by omega), hi]; omega
    obtain ⟨σ1, hσ1⟩ : ∃ u, u = zuf σ 6 3 (τ 13 29 + 1) := ⟨_, rfl⟩
    obtain ⟨τ1, hτ1⟩ : ∃ u, u = zuf (zuf τ 13 0 0) 13 29 (τ 13 29 + 1) := ⟨_, rfl⟩
    have fS : ∀ i, i ≠ 6 → σ1 i = σ i := fun i q => by rw [hσ1, zuf_ne q]
    have fS6 : ∀ j, j ≠ 3 → σ1 6 j = σ 6 j := fun j q => by rw [hσ1, zuf_nj q]
    have fS63 : σ1 6 3 = τ 13 29 + 1 := by rw [hσ1, zuf_eq]
    have fT : ∀ i, i ≠ 13 → τ1 i = τ i := fun i q => by rw [hτ1, zuf_ne q, zuf_ne q]
    have fT13 : ∀ j, j ≠ 0 → j ≠ 29 → τ1 13 j = τ 13 j := fun j p1 p2 => by rw [hτ1, zuf_nj p2, zuf_nj p1]
    have fT29 : τ1 13 29 = τ 13 29 + 1 := by rw [hτ1, zuf_eq]
    have fT0 : τ1 13 0 = 0 := by rw [hτ1, zuf_nj (by decide), zuf_eq]
    have m32 : (τ 13 29 + 32).toInt = (τ 13 29).toInt + 32 := by
      rw [zadd (by rw [zt32]; omega) (by rw [zt32]; omega), zt32]
    have m33 : (τ 13 29 + 1 + 32).toInt = (τ 13 29).toInt + 33 := by
      rw [zadd (by rw [zt32]; omega) (by rw [zt32]; omega), zt32, hi]; omega
    have ra : (f_R_room σ).toInt = (τ 13 29).toInt + 32 - (τ 13 28).toInt := by
      unfold f_R_room
      rw [q2, q3, zsub (by omega) (by omega), m32]
    have rb : (f_R_room σ1).toInt = (τ 13 29).toInt + 33 - (τ 13 28).toInt := by
      unfold f_R_room
      rw [fS6 2 (by decide), fS63, q2, zsub (by omega) (by omega), m33]
    have rc : (f_M_room τ1).toInt = (τ 13 29).toInt + 33 - (τ 13 28).toInt := by
      unfold f_M_room
      rw [fT13 28 (by decide) (by decide), fT29, zsub (by omega) (by omega), m33]
    have hP : f_R_passByte σ = (if f_M_room τ1 = 4 then 1 else 0, σ1) := by
      unfold f_R_passByte
      dsimp only [zlet]
      rw [q3, ← hσ1]
      by_cases p : f_M_room τ1 = 4
      · have p' : (f_M_room τ1).toInt = 4 := by rw [p]; rfl
        rw [if_pos p, if_neg (by rw [zle, zt4]; omega), if_neg (by rw [zlt, zt4]; omega)]
      · have p' : (f_M_room τ1).toInt ≠ 4 := fun p' => p (by rw [zeq, zt4]; exact p')
        rw [if_neg p]
        by_cases p2 : 4 ≤ f_R_room σ
        · rw [if_pos p2]
        · rw [if_neg p2, if_pos (by rw [zle, zt4] at p2; rw [zlt, zt4]; omega)]
    rw [hP, ← hτ1, hid]
    have hHB : zHB σ1 τ1 := by
      refine ⟨fun j hj => ?_, ?_, ?_, ?_, ?_, ?_, ?_⟩
      · rw [fS 8 (by decide), fT 17 (by decide), fT 16 (by decide), fT29, hi]
        obtain ⟨p1, p2, p3, p4⟩ := q1 j hj
        exact ⟨p1, p2, p3, fun p => by have := p4 p; omega⟩
      · rw [fS6 2 (by decide), fT13 28 (by decide) (by decide)]; exact q2
      · rw [fS63, fT29]
      · rw [fT29, hi]; omega
      · rw [fT29, hi, fT13 28 (by decide) (by decide)]; omega
      · rw [fT13 28 (by decide) (by decide)]; exact q6
      · rw [fT13 28 (by decide) (by decide), fT 16 (by decide)]; exact q7
    have vr : vp_in (τ 13 29) 600 := zvin q4 (by omega)
    by_cases p : f_M_room τ1 = 4
    · rw [if_pos p, if_pos p]
      dsimp only
      rw [if_neg (show ¬ (1 : Int32) = 0 by decide)]
      have e38 : τ1 13 38 = τ 13 38 := fT13 38 (by decide) (by decide)
      obtain ⟨l1, l2, l3, l4, l5, l6, l7, l8, l9, l10, l11, l12⟩ := zmakeAck (σ := σ1) (τ := τ1) hHB (by rw [fS6 1 (by decide), fT13 27 (by decide) (by decide)]; exact r5) (by rw [fS 11 (by decide), e38]; exact e11) (by rw [e38]; exact b5) (by rw [e38]; exact b6) (by rw [fS 12 (by decide), fT 20 (by decide), fT 21 (by decide)]; exact hN) (by rw [fS 12 (by decide), fT 22 (by decide)]; exact hC) (by rw [fS 12 (by decide), fT 23 (by decide), fT 24 (by decide)]; exact hB)
      have T5 : ∀ i, i ≠ 13 → i ≠ 20 → i ≠ 21 → i ≠ 22 → i ≠ 23 → i ≠ 24 → f_M_answers τ1 i = τ i := fun i p1 p2 p3 p4 p5 p6 => by rw [l10 i p1 p2 p3 p4 p5 p6, fT i p1]
      have T13 : ∀ j, j ≠ 0 → j ≠ 29 → j ≠ 38 → f_M_answers τ1 13 j = τ 13 j := fun j p1 p2 p3 => by rw [l11 j p3, fT13 j p1 p2]
      have T29 : f_M_answers τ1 13 29 = τ 13 29 + 1 := by rw [l11 29 (by decide), fT29]
      rw [T29, hid]
      refine ⟨fun _ _ _ r u hu => ⟨fun q => absurd ((Prod.mk.inj hu).1.symm.trans q) (by decide), fun _ => ?_⟩, fun _ r hr => ⟨fun _ => ⟨l2, fun x hx => by rw [hx, T29, hid]; exact vr⟩, fun q => absurd (hr.trans p) q⟩, ?_, fun _ => ?_, ?_, ?_, fun i q => ?_, fun i q => ?_⟩
      · rw [(Prod.mk.inj hu).2]
        exact ⟨l1, fun _ _ => vr⟩
      · show f_M_answers τ1 13 0 = 0
        rw [l11 0 (by decide)]; exact fT0
      · show f_R_makeAck σ1 1 _ = f_M_answers τ1 14 _
        rw [l9 1 (by decide) (by decide), fS 1 (by decide), T5 14 (by decide) (by decide) (by decide) (by decide) (by decide) (by decide)]
        exact rV _ (by rw [zNat]; omega)
      · dsimp only
        refine zRel_rcv h ?_ ?_ ?_ l6 ?_ l3 l4 l5 (fun i q => by rw [l9 i (by omega) (by omega), fS i (by omega)]) (T5 14 (by decide) (by decide) (by decide) (by decide) (by decide) (by decide)) (T5 15 (by decide) (by decide) (by decide) (by decide) (by decide) (by decide)) (fun j p1 p2 => T13 j (by omega) (by omega) (by omega))
        · exact zHB_of hHB (l9 8 (by decide) (by decide)) (l9 6 (by decide) (by decide)) (l10 16 (by decide) (by decide) (by decide) (by decide) (by decide) (by decide)) (l10 17 (by decide) (by decide) (by decide) (by decide) (by decide) (by decide)) (l11 28 (by decide)) (l11 29 (by decide))
        · rw [l9 6 (by decide) (by decide), fS6 1 (by decide), T13 27 (by decide) (by decide) (by decide)]; exact r5
        · rw [l9 9 (by decide) (by decide), fS 9 (by decide), T13 32 (by decide) (by decide) (by decide)]; exact e9
        · rw [l9 10 (by decide) (by decide), fS 10 (by decide), T5 18 (by decide) (by decide) (by decide) (by decide) (by decide) (by decide), T5 19 (by decide) (by decide) (by decide) (by decide) (by decide) (by decide)]; exact hS
      · dsimp only
        have wB : zBR τ1 (τ 13 4).toInt (τ1 13 28).toInt := by
          unfold zBR at w ⊢
          rw [fT13 28 (by decide) (by decide), fT 17 (by decide), fT 18 (by decide), fT 19 (by decide), fT 20 (by decide), fT 22 (by decide), fT 23 (by decide), fT 24 (by decide)]
          exact w
        refine zBnd_rcv b ?_ (zBR_ack wB (by rw [fT13 28 (by decide) (by decide)]; omega) (fun j hj => (hHB.1 j hj).2.1) l12 (l10 17 (by decide) (by decide) (by decide) (by decide) (by decide) (by decide)) (l10 18 (by decide) (by decide) (by decide) (by decide) (by decide) (by decide)) (l10 19 (by decide) (by decide) (by decide) (by decide) (by decide) (by decide)) (l11 28 (by decide))) (T5 15 (by decide) (by decide) (by decide) (by decide) (by decide) (by decide)) (fun j p1 p2 => T13 j (by omega) (by omega) (by omega))
        unfold zBT
        rw [T13 27 (by decide) (by decide) (by decide), T13 32 (by decide) (by decide) (by decide)]
        exact ⟨b1, by omega, b3, b4, l7, l8⟩
      · show f_R_makeAck σ1 i = σ i
        rw [l9 i (by omega) (by omega), fS i (by omega)]
      · exact T5 i (by omega) (by omega) (by omega) (by omega) (by omega) (by omega)
    · rw [if_neg p, if_neg p]
      dsimp only
      rw [if_pos rfl]
      refine ⟨fun _ _ _ r u hu => ⟨fun _ => vr, fun q => absurd (Prod.mk.inj hu).1 q⟩, fun _ r hr => ⟨fun q => absurd (hr.symm.trans q) p, fun _ => vr⟩, ?_, fun _ => ?_, ?_, ?_, fun i q => ?_, fun i q => ?_⟩
      · exact fT0
      · show σ1 1 _ = τ 14 _
        rw [fS 1 (by decide)]
        exact rV _ (by rw [zNat]; omega)
      · dsimp only
        refine zRel_rcv h hHB ?_ ?_ ?_ ?_ ?_ ?_ ?_ (fun i q => fS i (by omega)) (fT 14 (by decide)) (fT 15 (by decide)) (fun j p1 p2 => fT13 j (by omega) (by omega))
        · rw [fS6 1 (by decide), fT13 27 (by decide) (by decide)]; exact r5
        · rw [fS 9 (by decide), fT13 32 (by decide) (by decide)]; exact e9
        · rw [fS 11 (by decide), fT13 38 (by decide) (by decide)]; exact e11
        · rw [fS 10 (by decide), fT 18 (by decide), fT 19 (by decide)]; exact hS
        · rw [fS 12 (by decide), fT 20 (by decide), fT 21 (by decide)]; exact hN
        · rw [fS 12 (by decide), fT 22 (by decide)]; exact hC
        · rw [fS 12 (by decide), fT 23 (by decide), fT 24 (by decide)]; exact hB
      · dsimp only
        refine zBnd_rcv b ?_ ?_ (fT 15 (by decide)) (fun j p1 p2 => fT13 j (by omega) (by omega))
        · unfold zBT
          rw [fT13 27 (by decide) (by decide), fT13 32 (by decide) (by decide), fT13 38 (by decide) (by decide)]
          exact ⟨b1, by omega, b3, b4, b5, b6⟩
        · unfold zBR at w ⊢
          rw [fT13 28 (by decide) (by decide), fT 17 (by decide), fT 18 (by decide), fT 19 (by decide), fT 20 (by decide), fT 22 (by decide), fT 23 (by decide), fT 24 (by decide)]
          exact w
      · exact fS i (by omega)
      · exact fT i (by omega)
