/-! bounds after an acknowledgment is made -/
theorem zBR_ack {τ τ' : zSt} {h : Int} (w : zBR τ h (τ 13 28).toInt) (h0 : 0 ≤ (τ 13 28).toInt) (hh : ∀ j : Nat, j < 600 → τ 16 j = (if τ 17 j = 0 then 0 else 1)) (n : zNewAck τ τ') (e17 : τ' 17 = τ 17) (e18 : τ' 18 = τ 18) (e19 : τ' 19 = τ 19) (e28 : τ' 13 28 = τ 13 28) : zBR τ' h (τ' 13 28).toInt := by
  obtain ⟨w1, w2, w3, w4, w5⟩ := w
  obtain ⟨n1, n2⟩ := n
  unfold zBR
  rw [e28, e17, e18, e19]
  refine ⟨w1, w2, w3, fun p hp => ?_, fun j hj => ?_⟩
  · rcases n1 p hp with ⟨s, s1, s2, s3, s4⟩ | ⟨s1, s2, s3, s4⟩
    · rw [s2, s4]; exact w4 s s1
    · rw [s1]; exact ⟨h0, Int.le_refl _, s3, s4⟩
  · rcases n2 j hj with ⟨s, s1, s2, s3⟩ | ⟨s1, s2, s3⟩
    · rw [s2, s3]; exact w5 s s1
    · refine ⟨s1, ?_⟩
      unfold zA0 at s3
      by_cases q : 0 ≤ (τ' 24 j).toInt - 1 ∧ (τ' 24 j).toInt - 1 < 600
      · rw [if_pos q, hh _ (by omega)] at s3
        have q2 := w2 ((τ' 24 j).toInt - 1).toNat (by omega) (fun q2 => s3 (by rw [if_pos q2]))
        omega
      · rw [if_neg q] at s3
        exact absurd rfl s3
theorem op_deliver {k : Nat} {σ τ : zSt} (h : zRel σ τ) (b : zBnd k τ) (hk : k < 1000) (a : Int32) : k_X_deliver σ a ∧ k_M_deliver τ a ∧ zOp k σ τ (f_X_deliver σ a) (f_M_deliver τ a) := by
  have h' := h
  obtain ⟨-, -, -, r4, r5, e9, e11, hS, hN, hC, hB⟩ := h'
  have b' := b
  obtain ⟨⟨h1, h2, h3, h4, h5, -⟩, ⟨b1, b2, b3, b4, b5, b6⟩, -, w1, w2, w3, w4, w5⟩ := b'
  have hq : f_M_isSegment τ a = 0 ↔ f_W_holds 9 σ a = 0 := zisSeg e9 b3
  unfold k_X_deliver k_M_deliver f_X_deliver f_M_deliver
  dsimp only [zlet, zseq]
  by_cases g : f_W_holds 9 σ a = 0
  · rw [if_pos g, if_pos (hq.mpr g), zfine1]
    dsimp only
    rw [if_pos rfl]
    refine ⟨fun r hr q => absurd (hr.trans g) q, fun r hr => ⟨fun _ r4 u5 hu q => absurd (Prod.mk.inj hu).1 q, fun q => absurd (hr.trans (hq.mpr g)) q⟩, zOp_refuse h b (by decide) 0 0⟩
  · have g2 : ¬ f_M_isSegment τ a = 0 := fun q => g (hq.mp q)
    have g3 := Classical.not_not.mp (fun q => g ((W_holds 9 σ a).1.mpr q))
    rw [e9] at g3
    obtain ⟨c1, c2⟩ := W_cell9 (σ := σ) (a := a) (i := 0) g3.1 (by omega) (by decide) (by decide)
    obtain ⟨c3, c4⟩ := W_cell9 (σ := σ) (a := a) (i := 1) g3.1 (by omega) (by decide) (by decide)
    have z0 : (0 : Int32).toInt.toNat = 0 := rfl
    have z1 : (1 : Int32).toInt.toNat = 1 := rfl
    rw [z0, Nat.add_zero, (hS a.toInt.toNat (by omega)).1] at c2
    rw [z1, (hS a.toInt.toNat (by omega)).2] at c4
    obtain ⟨w6, w7⟩ := w3 a.toInt.toNat (by omega)
    have han : a.toNatClampNeg = a.toInt.toNat := rfl
    generalize hs1 : τ 18 a.toInt.toNat = s1 at *
    generalize hs2 : τ 19 a.toInt.toNat = s2 at *
    obtain ⟨τ0, hτ0⟩ : ∃ u, u = zuf τ 13 0 0 := ⟨_, rfl⟩
    have t0 : ∀ i, i ≠ 13 → τ0 i = τ i := fun i q => by rw [hτ0, zuf_ne q]
    have t1 : ∀ j, j ≠ 0 → τ0 13 j = τ 13 j := fun j q => by rw [hτ0, zuf_nj q]
    have t2 : τ0 13 0 = 0 := by rw [hτ0, zuf_eq]
    rw [if_neg g, if_neg g2, zfine0]
    dsimp only
    rw [if_neg (show ¬ (1 : Int32) = 0 by decide), ← hτ0, c2, c4, han, t1 27 (by decide), t0 18 (by decide), hs1]
    have hd : (τ 13 27 + 1).toInt = (τ 13 27).toInt + 1 := zinc' (by omega)
    have hd0 : ¬ τ 13 27 + 1 = 0 := by rw [zeq, zt0]; omega
    have r4' := r4
    obtain ⟨q1, q2, q3, q4, q5, q6, q7⟩ := r4'
    have hr : (τ 13 29 + 32).toInt = (τ 13 29).toInt + 32 := by
      rw [zadd (by rw [zt32]; omega) (by rw [zt32]; omega), zt32]
    have u1 : ∀ i, i ≠ 13 → zuf τ0 13 27 (τ 13 27 + 1) i = τ i := fun i q => by rw [zuf_ne q, t0 i q]
    have u2 : ∀ j, j ≠ 0 → j ≠ 27 → zuf τ0 13 27 (τ 13 27 + 1) 13 j = τ 13 j := fun j q q' => by rw [zuf_nj q', t1 j q]
    have u3 : zuf τ0 13 27 (τ 13 27 + 1) 13 27 = τ 13 27 + 1 := zuf_eq
    have u4 : zuf τ0 13 27 (τ 13 27 + 1) 13 0 = 0 := by rw [zuf_nj (by decide)]; exact t2
    have v1 : ∀ i, i ≠ 6 → zuf σ 6 1 (τ 13 27 + 1) i = σ i := fun i q => zuf_ne q
    have v2 : ∀ j, j ≠ 1 → zuf σ 6 1 (τ 13 27 + 1) 6 j = σ 6 j := fun j q => zuf_nj q
    have v3 : zuf σ 6 1 (τ 13 27 + 1) 6 1 = τ 13 27 + 1 := zuf_eq
    rw [u1 19 (by decide), hs2]
    have hlo : (if s1 < 0 then 0 else s1) = s1 := if_neg (by rw [zlt, zt0]; omega)
    have fA : f_R_takeBytes σ s1 s2 = zseq (f_P_fillEmpty 7 (zuf σ 6 1 (τ 13 27 + 1)) s1 (if τ 13 29 + 32 < s2 then τ 13 29 + 32 else s2) (τ 13 27 + 1)) (fun r1 u2 => (r1, (zuf u2 6 2 (f_P_firstEmpty 7 u2 (u2 6 2) 600)))) := by
      unfold f_R_takeBytes
      dsimp only [zlet]
      rw [r5, q3]
    have fB : k_R_takeBytes σ s1 s2 = ((k_P_fillEmpty 7 (zuf σ 6 1 (τ 13 27 + 1)) s1 (if τ 13 29 + 32 < s2 then τ 13 29 + 32 else s2) (τ 13 27 + 1)) ∧ (∀ r1 u2, (r1, u2) = (f_P_fillEmpty 7 (zuf σ 6 1 (τ 13 27 + 1)) s1 (if τ 13 29 + 32 < s2 then τ 13 29 + 32 else s2) (τ 13 27 + 1)) → (k_P_firstEmpty 7 u2 (u2 6 2) 600))) := by
      unfold k_R_takeBytes
      rw [r5, q3]
    obtain ⟨bb, hbb⟩ : ∃ bb, bb = (if τ 13 29 + 32 < s2 then τ 13 29 + 32 else s2) := ⟨_, rfl⟩
    rw [← hbb] at fA fB
    have fC : f_P_fillEmpty 7 (zuf σ 6 1 (τ 13 27 + 1)) s1 bb (τ 13 27 + 1) = l_P_fillEmpty_10 7 bb (τ 13 27 + 1) ((bb.toInt - s1.toInt).toNat + 2) (zuf σ 6 1 (τ 13 27 + 1)) 0 s1 := by
      unfold f_P_fillEmpty
      dsimp only [zlet]
      rw [hlo]
    have fD : k_P_fillEmpty 7 (zuf σ 6 1 (τ 13 27 + 1)) s1 bb (τ 13 27 + 1) = kl_P_fillEmpty_10 7 bb (τ 13 27 + 1) ((bb.toInt - s1.toInt).toNat + 2) (zuf σ 6 1 (τ 13 27 + 1)) 0 s1 := by
      unfold k_P_fillEmpty
      rw [hlo]
    obtain ⟨j1, j2, j3, j4, j5, j6, j7⟩ := l_fill7 a (τ 13 27 + 1) bb s2 (τ 13 29 + 32) hd0 g3.1 (by omega) hbb (by omega) ((bb.toInt - s1.toInt).toNat + 2) ((s2.toInt - s1.toInt).toNat + 2) (zuf σ 6 1 (τ 13 27 + 1)) (zuf τ0 13 27 (τ 13 27 + 1)) 0 s1 (fun j hj => by
      rw [v1 8 (by decide), u1 17 (by decide), u1 16 (by decide)]
      exact ⟨(q1 j hj).1, (q1 j hj).2.1⟩) u3 (by rw [u2 29 (by decide) (by decide)]) (by rw [u1 19 (by decide), han]; exact hs2) w6 (by omega) (by omega)
    rw [fC] at fA fB
    rw [fD] at fB
    generalize l_P_fillEmpty_10 7 bb (τ 13 27 + 1) ((bb.toInt - s1.toInt).toNat + 2) (zuf σ 6 1 (τ 13 27 + 1)) 0 s1 = S at *
    generalize hT : l_M_deliver_41 a ((s2.toInt - s1.toInt).toNat + 2) (zuf τ0 13 27 (τ 13 27 + 1)) 0 s1 = T at *
    obtain ⟨n1, σ2⟩ := S
    obtain ⟨n2, τ2⟩ := T
    dsimp only at j3 j4 j5 j6 j7
    subst j3
    dsimp only [zseq] at fA
    dsimp only
    -- frames of the two so far
    have x6 : ∀ i, i ≠ 6 → i ≠ 8 → σ2 i = σ i := fun i p1 p2 => by rw [j5 i p2, v1 i p1]
    have x62 : ∀ j, j ≠ 1 → σ2 6 j = σ 6 j := fun j p => by rw [j5 6 (by decide), v2 j p]
    have x61 : σ2 6 1 = τ 13 27 + 1 := by rw [j5 6 (by decide), v3]
    have y : ∀ i, i ≠ 13 → i ≠ 16 → i ≠ 17 → τ2 i = τ i := fun i p1 p2 p3 => by rw [j6 i p2 p3, u1 i p1]
    have y13 : ∀ j, j ≠ 0 → j ≠ 27 → τ2 13 j = τ 13 j := fun j p1 p2 => by rw [j6 13 (by decide) (by decide), u2 j p1 p2]
    have y27 : τ2 13 27 = τ 13 27 + 1 := by rw [j6 13 (by decide) (by decide), u3]
    have y0 : τ2 13 0 = 0 := by rw [j6 13 (by decide) (by decide), u4]
    have hA : ∀ p : Int, zA0 (σ2 8) p = 0 ↔ zA0 (τ2 16) p = 0 := by
      intro p
      unfold zA0
      by_cases q : 0 ≤ p ∧ p < 600
      · rw [if_pos q, if_pos q]
        have h1 := j4 p.toNat (by omega)
        rw [h1.2, h1.1]
        by_cases q : τ2 17 p.toNat = 0
        · simp [q]
        · simp [q]
      · rw [if_neg q, if_neg q]
    have e62 : σ2 6 2 = τ 13 28 := by rw [x62 2 (by decide)]; exact q2
    obtain ⟨f1, f2⟩ := firstEmpty 7 σ2 (σ2 6 2) 600
    obtain ⟨f3, f4⟩ := runEnd τ2 (τ2 13 28) (by rw [y13 28 (by decide) (by decide)]; omega)
    rw [e62] at f1 f2 fA
    rw [y13 28 (by decide) (by decide)] at f3 f4 ⊢
    rw [zt600] at f2
    have f5 : f_P_firstEmpty 7 σ2 (τ 13 28) 600 = f_M_runEnd τ2 (τ 13 28) := zeq.mpr (zFst_uniq (zFst_iff f2 (fun p _ _ => hA p)) f4)
    rw [f5] at fA
    generalize hnbe : f_M_runEnd τ2 (τ 13 28) = nb at *
    obtain ⟨k1, k2, k3, k4⟩ := f4
    have hnb : nb.toInt ≤ 600 := by omega
    have hval : ∀ j : Nat, j < 600 → 0 ≤ (τ2 17 j).toInt ∧ (¬ τ2 17 j = 0 → (j : Int) < (τ 13 29).toInt + 32 ∧ (j : Int) < (τ 13 4).toInt) := by
      intro j hj
      obtain ⟨p1, p2, p3, p4⟩ := q1 j hj
      rcases j7 j hj with p5 | ⟨p5, p6, p7, p8⟩
      · rw [p5, u1 17 (by decide)]
        exact ⟨p3, fun p6 => ⟨p4 p6, w2 j hj p6⟩⟩
      · rw [p5]
        exact ⟨by omega, fun _ => ⟨by omega, by omega⟩⟩
    have hz : zA0 (τ2 16) nb.toInt = 0 := by
      by_cases p : nb.toInt < 600
      · exact k4 p
      · exact zA0_out (by omega)
    have hnbh : nb.toInt ≤ (τ 13 4).toInt := by
      by_cases p : nb.toInt = (τ 13 28).toInt
      · omega
      · have p2 : ¬ zA0 (τ2 16) (nb.toInt - 1) = 0 := (k3 (nb.toInt - 1) (by omega) (by omega)).2
        unfold zA0 at p2
        rw [if_pos (by omega), (j4 _ (by omega)).2] at p2
        have p3 := (hval (nb.toInt - 1).toNat (by omega)).2 (fun p3 => p2 (by rw [if_pos p3]))
        omega
    obtain ⟨σ3, hσ3⟩ : ∃ u, u = zuf σ2 6 2 nb := ⟨_, rfl⟩
    obtain ⟨τ3, hτ3⟩ : ∃ u, u = zuf τ2 13 28 nb := ⟨_, rfl⟩
    rw [← hσ3] at fA
    rw [← hτ3]
    have X6 : ∀ i, i ≠ 6 → i ≠ 8 → σ3 i = σ i := fun i p1 p2 => by rw [hσ3, zuf_ne p1, x6 i p1 p2]
    have X8 : σ3 8 = σ2 8 := by rw [hσ3, zuf_ne (by decide)]
    have X61 : σ3 6 1 = τ 13 27 + 1 := by rw [hσ3, zuf_nj (by decide), x61]
    have X62 : σ3 6 2 = nb := by rw [hσ3, zuf_eq]
    have X63 : σ3 6 3 = τ 13 29 := by rw [hσ3, zuf_nj (by decide), x62 3 (by decide)]; exact q3
    have Y : ∀ i, i ≠ 13 → i ≠ 16 → i ≠ 17 → τ3 i = τ i := fun i p1 p2 p3 => by rw [hτ3, zuf_ne p1, y i p1 p2 p3]
    have Y16 : τ3 16 = τ2 16 := by rw [hτ3, zuf_ne (by decide)]
    have Y17 : τ3 17 = τ2 17 := by rw [hτ3, zuf_ne (by decide)]
    have Y13 : ∀ j, j ≠ 0 → j ≠ 27 → j ≠ 28 → τ3 13 j = τ 13 j := fun j p1 p2 p3 => by rw [hτ3, zuf_nj p3, y13 j p1 p2]
    have Y28 : τ3 13 28 = nb := by rw [hτ3, zuf_eq]
    have Y27 : τ3 13 27 = τ 13 27 + 1 := by rw [hτ3, zuf_nj (by decide), y27]
    have Y0 : τ3 13 0 = 0 := by rw [hτ3, zuf_nj (by decide), y0]
    have hHB : zHB σ3 τ3 := by
      refine ⟨fun j hj => ?_, ?_, ?_, ?_, ?_, ?_, ?_⟩
      · rw [X8, Y17, Y16, Y13 29 (by decide) (by decide) (by decide)]
        exact ⟨(j4 j hj).1, (j4 j hj).2, (hval j hj).1, fun p => ((hval j hj).2 p).1⟩
      · rw [X62, Y28]
      · rw [X63, Y13 29 (by decide) (by decide) (by decide)]
      · rw [Y13 29 (by decide) (by decide) (by decide)]; exact q4
      · rw [Y13 29 (by decide) (by decide) (by decide), Y28]; omega
      · rw [Y28]; exact hnb
      · rw [Y28, Y16]; exact hz
    have e9' : σ3 9 2 = τ3 13 32 := by rw [X6 9 (by decide) (by decide), Y13 32 (by decide) (by decide) (by decide)]; exact e9
    have e32 : τ3 13 32 = τ 13 32 := Y13 32 (by decide) (by decide) (by decide)
    obtain ⟨m1, m2, m3, m4, m5, m6, m7, m8, m9⟩ := zremS (σ := σ3) (τ := τ3) (a := a) e9' g3.1 (by rw [e32]; exact g3.2) (by rw [e32]; exact b4) (by rw [X6 10 (by decide) (by decide), Y 18 (by decide) (by decide) (by decide), Y 19 (by decide) (by decide) (by decide)]; exact hS)
    rw [e32] at m5
    generalize hσ4 : f_W_remove 9 σ3 a = σ4 at *
    generalize hτ4 : f_M_takes τ3 a = τ4 at *
    have hHB4 : zHB σ4 τ4 := zHB_of hHB (m6 8 (by decide) (by decide)) (m6 6 (by decide) (by decide)) (m7 16 (by decide) (by decide) (by decide)) (m7 17 (by decide) (by decide) (by decide)) (m8 28 (by decide)) (m8 29 (by decide))
    have e38 : τ4 13 38 = τ 13 38 := by rw [m8 38 (by decide), Y13 38 (by decide) (by decide) (by decide)]
    have T4 : ∀ i, i ≠ 13 → i ≠ 16 → i ≠ 17 → i ≠ 18 → i ≠ 19 → τ4 i = τ i := fun i p1 p2 p3 p4 p5 => by rw [m7 i p1 p4 p5, Y i p1 p2 p3]
    have S4 : ∀ i, i ≠ 6 → i ≠ 8 → i ≠ 9 → i ≠ 10 → σ4 i = σ i := fun i p1 p2 p3 p4 => by rw [m6 i p3 p4, X6 i p1 p2]
    obtain ⟨l1, l2, l3, l4, l5, l6, l7, l8, l9, l10, l11, l12⟩ := zmakeAck (σ := σ4) (τ := τ4) hHB4 (by rw [m6 6 (by decide) (by decide), X61, m8 27 (by decide), Y27]) (by rw [S4 11 (by decide) (by decide) (by decide) (by decide), e38]; exact e11) (by rw [e38]; exact b5) (by rw [e38]; exact b6) (by rw [S4 12 (by decide) (by decide) (by decide) (by decide), T4 20 (by decide) (by decide) (by decide) (by decide) (by decide), T4 21 (by decide) (by decide) (by decide) (by decide) (by decide)]; exact hN) (by rw [S4 12 (by decide) (by decide) (by decide) (by decide), T4 22 (by decide) (by decide) (by decide) (by decide) (by decide)]; exact hC) (by rw [S4 12 (by decide) (by decide) (by decide) (by decide), T4 23 (by decide) (by decide) (by decide) (by decide) (by decide), T4 24 (by decide) (by decide) (by decide) (by decide) (by decide)]; exact hB)
    rw [fA]
    dsimp only
    rw [hσ4]
    have T5 : ∀ i, i ≠ 13 → i ≠ 16 → i ≠ 17 → i ≠ 18 → i ≠ 19 → i ≠ 20 → i ≠ 21 → i ≠ 22 → i ≠ 23 → i ≠ 24 → f_M_answers τ4 i = τ i := fun i p1 p2 p3 p4 p5 p6 p7 p8 p9 p10 => by rw [l10 i p1 p6 p7 p8 p9 p10, T4 i p1 p2 p3 p4 p5]
    have T13 : ∀ j, j ≠ 38 → j ≠ 32 → f_M_answers τ4 13 j = τ3 13 j := fun j p1 p2 => by rw [l11 j p1, m8 j p2]
    have S5 : ∀ i, i ≠ 6 → i ≠ 8 → i ≠ 9 → i ≠ 10 → i ≠ 11 → i ≠ 12 → f_R_makeAck σ4 i = σ i := fun i p1 p2 p3 p4 p5 p6 => by rw [l9 i p5 p6, S4 i p1 p2 p3 p4]
    refine ⟨fun r hr q => ⟨c1, fun x hx => ?_⟩, fun r hr => ⟨fun q => absurd (hr.symm.trans q) g2, fun _ r u hu q => ?_⟩, ?_, fun _ => rfl, ?_, ?_, fun i q => ?_, fun i q => ?_⟩
    · subst hx
      refine ⟨c3, fun x hx => ?_⟩
      subst hx
      rw [fB]
      refine ⟨⟨j1, fun p1 p2 hp => ?_⟩, fun p1 p2 hp => ?_⟩
      · obtain ⟨rfl, rfl⟩ := Prod.mk.inj hp
        rw [e62]; exact f1
      · obtain ⟨rfl, rfl⟩ := Prod.mk.inj (hp.trans fA)
        exact ⟨m1, fun x hx => by rw [hx, hσ4]; exact l1⟩
    · rw [(Prod.mk.inj hu).2, t1 27 (by decide), t0 18 (by decide), hs1, u1 19 (by decide), hs2]
      refine ⟨zvin g3.1 (by omega), j2, fun x hx => ?_⟩
      rw [hT] at hx
      rw [hx]
      dsimp only
      rw [y13 28 (by decide) (by decide)]
      refine ⟨f3, fun x hx => ?_⟩
      rw [hnbe] at hx
      rw [hx, ← hτ3]
      refine ⟨m2, fun x hx => ?_⟩
      rw [hτ4] at hx
      rw [hx]
      exact l2
    · show f_M_answers τ4 13 0 = 0
      rw [T13 0 (by decide) (by decide)]; exact Y0
    · dsimp only
      refine zRel_rcv h ?_ ?_ ?_ l6 ?_ l3 l4 l5 (fun i q => S5 i (by omega) (by omega) (by omega) (by omega) (by omega) (by omega)) (T5 14 (by decide) (by decide) (by decide) (by decide) (by decide) (by decide) (by decide) (by decide) (by decide) (by decide)) (T5 15 (by decide) (by decide) (by decide) (by decide) (by decide) (by decide) (by decide) (by decide) (by decide) (by decide)) (fun j p1 p2 => by rw [T13 j (by omega) (by omega), Y13 j (by omega) (by omega) (by omega)])
      · exact zHB_of hHB4 (l9 8 (by decide) (by decide)) (l9 6 (by decide) (by decide)) (l10 16 (by decide) (by decide) (by decide) (by decide) (by decide) (by decide)) (l10 17 (by decide) (by decide) (by decide) (by decide) (by decide) (by decide)) (l11 28 (by decide)) (l11 29 (by decide))
      · rw [l9 6 (by decide) (by decide), m6 6 (by decide) (by decide), X61, T13 27 (by decide) (by decide), Y27]
      · rw [l9 9 (by decide) (by decide), m4, l11 32 (by decide)]
      · rw [l9 10 (by decide) (by decide), l10 18 (by decide) (by decide) (by decide) (by decide) (by decide) (by decide), l10 19 (by decide) (by decide) (by decide) (by decide) (by decide) (by decide)]; exact m3
    · dsimp only
      have wB : zBR τ4 (τ 13 4).toInt (τ4 13 28).toInt := by
        unfold zBR
        rw [m8 28 (by decide), Y28, m7 17 (by decide) (by decide) (by decide), Y17, T4 20 (by decide) (by decide) (by decide) (by decide) (by decide), T4 22 (by decide) (by decide) (by decide) (by decide) (by decide), T4 23 (by decide) (by decide) (by decide) (by decide) (by decide), T4 24 (by decide) (by decide) (by decide) (by decide) (by decide)]
        refine ⟨hnbh, fun j hj p => ((hval j hj).2 p).2, fun p hp => ?_, fun p hp => ?_, w5⟩
        · obtain ⟨s, p1, p2, p3⟩ := m9 p hp
          rw [p2, p3, Y 18 (by decide) (by decide) (by decide), Y 19 (by decide) (by decide) (by decide)]
          exact w3 s p1
        · have := w4 p hp; omega
      refine zBnd_rcv b ?_ (zBR_ack wB (by rw [m8 28 (by decide), Y28]; omega) (fun j hj => (hHB4.1 j hj).2.1) l12 (l10 17 (by decide) (by decide) (by decide) (by decide) (by decide) (by decide)) (l10 18 (by decide) (by decide) (by decide) (by decide) (by decide) (by decide)) (l10 19 (by decide) (by decide) (by decide) (by decide) (by decide) (by decide)) (l11 28 (by decide))) (T5 15 (by decide) (by decide) (by decide) (by decide) (by decide) (by decide) (by decide) (by decide) (by decide) (by decide)) (fun j p1 p2 => by rw [T13 j (by omega) (by omega), Y13 j (by omega) (by omega) (by omega)])
      unfold zBT
      rw [T13 27 (by decide) (by decide), Y27, l11 32 (by decide)]
      exact ⟨by omega, by omega, by omega, by omega, l7, l8⟩
    · exact S5 i (by omega) (by omega) (by omega) (by omega) (by omega) (by omega)
    · exact T5 i (by omega) (by omega) (by omega) (by omega) (by omega) (by omega) (by omega) (by omega) (by omega) (by omega)
