def zSd (k : Nat) (σ τ : zSt) (S M : Int32 × zSt) : Prop := S.1 = M.1 ∧ zRel S.2 M.2 ∧ zBnd (k + 1) M.2 ∧ (∀ i, 13 ≤ i → S.2 i = σ i) ∧ (∀ i, i < 13 ∨ i = 25 → M.2 i = τ i) ∧ M.2 13 0 = 0
theorem send_done {k : Nat} {σ τ σa τa : zSt} (s e : Int32) (h : zRel σ τ) (b : zBnd k τ) (hN : (τ 13 32).toInt < 40) (hR : zRS (σa 2) (σa 5) (τa 13)) (ea : ∀ i, i ≠ 2 → σa i = σ i) (eb : ∀ i, i ≠ 13 → τa i = τ i) (ec : ∀ j, j ≠ 0 → j ≠ 3 → j ≠ 12 → τa 13 j = τ 13 j) (e0 : τa 13 0 = 0) (hs : 0 ≤ s.toInt) (h1 : (τ 13 2).toInt ≤ (τa 13 3).toInt) (h2 : (τa 13 3).toInt ≤ (τ 13 5).toInt) (h3 : e.toInt ≤ (τa 13 3).toInt) : kput σa s e ∧ k_M_sends τa s e ∧ zSd k σ τ (zput σa s e) (f_M_sends τa s e) := by
  have h' := h
  obtain ⟨-, rM, rV, r4, r5, e9, e11, hS, hNN, hC, hB⟩ := h'
  have b' := b
  obtain ⟨⟨g1, g2, g3, g4, g5, g6, g7, g8, g9, g10, g11, g12⟩, ⟨b1, b2, b3, b4, b5, b6⟩, bM, w1, w2, w3, w4, w5⟩ := b'
  obtain ⟨m1, m2, m3, m4, m5, m6, m7, m8, m9, m10, m11, m12, m13⟩ := send_seg (σ := σa) (τ := τa) s e hR (by rw [ea 9 (by decide), ec 32 (by decide) (by decide) (by decide)]; exact e9) (by rw [ec 32 (by decide) (by decide) (by decide)]; exact b3) (by rw [ec 32 (by decide) (by decide) (by decide)]; exact hN) (by rw [ea 10 (by decide), eb 18 (by decide), eb 19 (by decide)]; exact hS)
  refine ⟨m1, m2, ?_⟩
  generalize zput σa s e = S at *
  generalize f_M_sends τa s e = T at *
  have fS : ∀ i, i ≠ 2 → i ≠ 5 → i ≠ 9 → i ≠ 10 → S.2 i = σ i := fun i p1 p2 p3 p4 => by rw [m9 i p1 p2 p3 p4, ea i p1]
  have fT : ∀ i, i ≠ 13 → i ≠ 18 → i ≠ 19 → T.2 i = τ i := fun i p1 p2 p3 => by rw [m10 i p1 p2 p3, eb i p1]
  have fT13 : ∀ j, j ≠ 32 → j ≠ 21 → j ≠ 4 → j ≠ 22 → j ≠ 16 → j ≠ 17 → j ≠ 15 → j ≠ 0 → j ≠ 3 → j ≠ 12 → T.2 13 j = τ 13 j := fun j p1 p2 p3 p4 p5 p6 p7 p8 p9 p10 => by rw [m11 j p1 p2 p3 p4 p5 p6 p7, ec j p8 p9 p10]
  have fT3 : T.2 13 3 = τa 13 3 := m11 3 (by decide) (by decide) (by decide) (by decide) (by decide) (by decide) (by decide)
  have f4 : (T.2 13 4).toInt = if (τ 13 4).toInt ≤ (τa 13 3).toInt then (τa 13 3).toInt else (τ 13 4).toInt := by
    rw [m12, zmx_t, ec 4 (by decide) (by decide) (by decide)]
  have f4a : (τ 13 4).toInt ≤ (T.2 13 4).toInt ∧ (τa 13 3).toInt ≤ (T.2 13 4).toInt ∧ (T.2 13 4).toInt ≤ (τ 13 5).toInt := by
    rw [f4]; split <;> omega
  have f27 : T.2 13 27 = τ 13 27 := fT13 27 (by decide) (by decide) (by decide) (by decide) (by decide) (by decide) (by decide) (by decide) (by decide) (by decide)
  have f28 : T.2 13 28 = τ 13 28 := fT13 28 (by decide) (by decide) (by decide) (by decide) (by decide) (by decide) (by decide) (by decide) (by decide) (by decide)
  have f29 : T.2 13 29 = τ 13 29 := fT13 29 (by decide) (by decide) (by decide) (by decide) (by decide) (by decide) (by decide) (by decide) (by decide) (by decide)
  have f38 : T.2 13 38 = τ 13 38 := fT13 38 (by decide) (by decide) (by decide) (by decide) (by decide) (by decide) (by decide) (by decide) (by decide) (by decide)
  have f2 : T.2 13 2 = τ 13 2 := fT13 2 (by decide) (by decide) (by decide) (by decide) (by decide) (by decide) (by decide) (by decide) (by decide) (by decide)
  have f32 : (T.2 13 32).toInt = (τ 13 32).toInt + 1 := by
    rw [m7, ec 32 (by decide) (by decide) (by decide), zinc' (by omega)]
  refine ⟨m3.trans m4.symm, ⟨m5, ?_, ?_, ?_, ?_, m6, ?_, m8, ?_, ?_, ?_⟩, ⟨?_, ?_, ?_, ?_⟩, fun i p => fS i (by omega) (by omega) (by omega) (by omega), fun i p => fT i (by omega) (by omega) (by omega), ?_⟩
  · rw [fS 4 (by decide) (by decide) (by decide) (by decide), fT 15 (by decide) (by decide) (by decide)]; exact rM
  · rw [fS 1 (by decide) (by decide) (by decide) (by decide), fT 14 (by decide) (by decide) (by decide)]; exact rV
  · exact zHB_of r4 (fS 8 (by decide) (by decide) (by decide) (by decide)) (fS 6 (by decide) (by decide) (by decide) (by decide)) (fT 16 (by decide) (by decide) (by decide)) (fT 17 (by decide) (by decide) (by decide)) f28 f29
  · rw [fS 6 (by decide) (by decide) (by decide) (by decide), f27]; exact r5
  · rw [fS 11 (by decide) (by decide) (by decide) (by decide), f38]; exact e11
  · rw [fS 12 (by decide) (by decide) (by decide) (by decide), fT 20 (by decide) (by decide) (by decide), fT 21 (by decide) (by decide) (by decide)]; exact hNN
  · rw [fS 12 (by decide) (by decide) (by decide) (by decide), fT 22 (by decide) (by decide) (by decide)]; exact hC
  · rw [fS 12 (by decide) (by decide) (by decide) (by decide), fT 23 (by decide) (by decide) (by decide), fT 24 (by decide) (by decide) (by decide)]; exact hB
  · unfold zBS
    rw [f2, fT3, fT13 5 (by decide) (by decide) (by decide) (by decide) (by decide) (by decide) (by decide) (by decide) (by decide) (by decide), fT13 7 (by decide) (by decide) (by decide) (by decide) (by decide) (by decide) (by decide) (by decide) (by decide) (by decide), fT13 8 (by decide) (by decide) (by decide) (by decide) (by decide) (by decide) (by decide) (by decide) (by decide) (by decide), fT13 1 (by decide) (by decide) (by decide) (by decide) (by decide) (by decide) (by decide) (by decide) (by decide) (by decide), fT13 11 (by decide) (by decide) (by decide) (by decide) (by decide) (by decide) (by decide) (by decide) (by decide) (by decide)]
    exact ⟨g1, h1, f4a.2.1, f4a.2.2, g5, g6, g7, g8, g9, g10, by omega, g12⟩
  · unfold zBT
    rw [f27, f38]
    exact ⟨b1, by omega, by omega, by omega, b5, b6⟩
  · unfold zBM at bM ⊢
    rw [fT 15 (by decide) (by decide) (by decide), f2]
    intro j hj
    obtain ⟨p1, p2⟩ := bM j hj
    exact ⟨p1, fun p => by have := p2 p; omega⟩
  · unfold zBR
    rw [f28, fT 17 (by decide) (by decide) (by decide), fT 20 (by decide) (by decide) (by decide), fT 22 (by decide) (by decide) (by decide), fT 23 (by decide) (by decide) (by decide), fT 24 (by decide) (by decide) (by decide)]
    refine ⟨by omega, fun j hj p => by have := w2 j hj p; omega, fun p hp => ?_, w4, fun j hj => by have := w5 j hj; omega⟩
    rcases m13 p with ⟨p1, p2⟩ | ⟨p1, p2⟩
    · rw [p1, p2, eb 18 (by decide), eb 19 (by decide)]
      have := w3 p hp; omega
    · rw [p1, p2]
      exact ⟨hs, by omega⟩
  · rw [m11 0 (by decide) (by decide) (by decide) (by decide) (by decide) (by decide) (by decide)]; exact e0
/-- N alone moves -/
theorem send_none {k : Nat} {σ τ σa τa : zSt} (h : zRel σ τ) (b : zBnd k τ) (hR : zRS (σa 2) (σa 5) (τa 13)) (ea : ∀ i, i ≠ 2 → σa i = σ i) (eb : ∀ i, i ≠ 13 → τa i = τ i) (ec : ∀ j, j ≠ 0 → j ≠ 3 → τa 13 j = τ 13 j) (e0 : τa 13 0 = 0) (h1 : (τ 13 2).toInt ≤ (τa 13 3).toInt) (h2 : (τa 13 3).toInt ≤ (τ 13 4).toInt) : zSd k σ τ (0, σa) (0, τa) := by
  have b' := b
  obtain ⟨⟨g1, g2, g3, g4, g5, g6, g7, g8, g9, g10, g11, g12⟩, -, bM, -⟩ := b'
  refine ⟨rfl, zRel_snd h hR ?_ (fun i p1 p2 p3 p4 => ea i p2) (fun i p1 p2 p3 => eb i (by omega)) (fun j p => ec j (by omega) (by omega)), zBnd_snd b ?_ ?_ ?_ (fun i p1 p2 p3 => eb i (by omega)) (fun j p => ec j (by omega) (by omega)), fun i p => ea i (by omega), fun i p => eb i (by omega), e0⟩
  · dsimp only
    rw [ea 4 (by decide), eb 15 (by decide)]
    exact h.2.1
  · unfold zBS
    dsimp only
    rw [ec 1 (by decide) (by decide), ec 2 (by decide) (by decide), ec 4 (by decide) (by decide), ec 5 (by decide) (by decide), ec 7 (by decide) (by decide), ec 8 (by decide) (by decide), ec 11 (by decide) (by decide)]
    exact ⟨g1, h1, h2, g4, g5, g6, g7, g8, g9, g10, by omega, g12⟩
  · unfold zBM at bM ⊢
    dsimp only
    rw [eb 15 (by decide), ec 2 (by decide) (by decide), ec 4 (by decide) (by decide)]
    exact bM
  · dsimp only
    rw [ec 4 (by decide) (by decide)]
    exact Int.le_refl _
def zfrC (σ : zSt) : Int32 × zSt := zlet (f_P_firstEmpty 3 σ (σ 2 3) (σ 2 5)) (fun r4 => zlet (f_S_endOfFresh (zuf σ 2 3 r4)) (fun r6 => (if r6 ≤ r4 then ((r6 - r4), (zuf (zuf σ 2 3 r4) 2 3 r6)) else zput (zuf (zuf σ 2 3 r4) 2 3 r6) r4 r6)))
def kfrC (σ : zSt) : Prop := ((k_P_firstEmpty 3 σ (σ 2 3) (σ 2 5)) ∧ (∀ r4, r4 = (f_P_firstEmpty 3 σ (σ 2 3) (σ 2 5)) → ((k_S_endOfFresh (zuf σ 2 3 r4)) ∧ (∀ r6, r6 = (f_S_endOfFresh (zuf σ 2 3 r4)) → (¬ r6 ≤ r4 → kput (zuf (zuf σ 2 3 r4) 2 3 r6) r4 r6)))))
theorem zfresh {k : Nat} {σ τ : zSt} (h : zRel σ τ) (b : zBnd k τ) (hN : (τ 13 32).toInt < 40) (e0 : τ 13 0 = 0) : kfrC σ ∧ kfrM τ ∧ zSd k σ τ (zfrC σ) (zfrM τ) := by
  have h' := h
  obtain ⟨hR, rM, -⟩ := h'
  have hR' := hR
  obtain ⟨⟨c2, c3, c4, c5, c6, c7, c8, c9, c10, c11, c12, c13, c14⟩, d0, d1, d2, d3, d4, d5, d6, d7⟩ := hR'
  have b' := b
  obtain ⟨⟨g1, g2, g3, g4, g5, g6, g7, g8, g9, g10, g11, g12⟩, -, bM, -⟩ := b'
  have hA : ∀ p, zA0 (σ (3 + 1)) p = zA0 (τ 15) p := fun p => zA0_eq rM p
  obtain ⟨f1, f2⟩ := firstEmpty 3 σ (σ 2 3) (σ 2 5)
  rw [c3, c5] at f1 f2
  obtain ⟨j1, v, j2, j3⟩ := l_send73 (((τ 13 5).toInt - (τ 13 3).toInt).toNat + 2) τ (by omega) g5 (by omega)
  have hv : f_P_firstEmpty 3 σ (τ 13 3) (τ 13 5) = v := zeq.mpr (zFst_uniq (zFst_iff f2 (fun p _ _ => by rw [hA])) j3)
  obtain ⟨k1, k2, k3, k4⟩ := j3
  have hvw : v.toInt ≤ (τ 13 5).toInt := by omega
  have hvh : v.toInt ≤ (τ 13 4).toInt := by
    by_cases q : v.toInt = (τ 13 3).toInt
    · omega
    · have p2 : ¬ zA0 (τ 15) (v.toInt - 1) = 0 := (k3 (v.toInt - 1) (by omega) (by omega)).2
      have p3 := zA0_in (f := τ 15) (p := v.toInt - 1) (by omega) (by omega)
      have p4 := (bM (v.toInt - 1).toNat (by omega)).2 (by rw [← p3]; exact p2)
      omega
  obtain ⟨σ1, hσ1⟩ : ∃ u, u = zuf σ 2 3 v := ⟨_, rfl⟩
  obtain ⟨τ1, hτ1⟩ : ∃ u, u = zuf τ 13 3 v := ⟨_, rfl⟩
  have fS : ∀ i, i ≠ 2 → σ1 i = σ i := fun i q => by rw [hσ1, zuf_ne q]
  have fS2 : ∀ j, j ≠ 3 → σ1 2 j = σ 2 j := fun j q => by rw [hσ1, zuf_nj q]
  have fS3 : σ1 2 3 = v := by rw [hσ1, zuf_eq]
  have fT : ∀ i, i ≠ 13 → τ1 i = τ i := fun i q => by rw [hτ1, zuf_ne q]
  have fT2 : ∀ j, j ≠ 3 → τ1 13 j = τ 13 j := fun j q => by rw [hτ1, zuf_nj q]
  have fT3 : τ1 13 3 = v := by rw [hτ1, zuf_eq]
  -- the two after N := e
  have aS : ∀ e i, i ≠ 2 → zuf σ1 2 3 e i = σ i := fun e i q => by rw [zuf_ne q, fS i q]
  have aT : ∀ e i, i ≠ 13 → zuf τ1 13 3 e i = τ i := fun e i q => by rw [zuf_ne q, fT i q]
  have aT2 : ∀ e j, j ≠ 3 → zuf τ1 13 3 e 13 j = τ 13 j := fun e j q => by rw [zuf_nj q, fT2 j q]
  have aS2 : ∀ e j, j ≠ 3 → zuf σ1 2 3 e 2 j = σ 2 j := fun e j q => by rw [zuf_nj q, fS2 j q]
  have aS3 : ∀ e, zuf σ1 2 3 e 2 3 = e := fun e => zuf_eq
  have aT3 : ∀ e, zuf τ1 13 3 e 13 3 = e := fun e => zuf_eq
  have aR : ∀ e, zRS (zuf σ1 2 3 e 2) (zuf σ1 2 3 e 5) (zuf τ1 13 3 e 13) := fun e => by
    rw [aS e 5 (by decide)]
    unfold zRS
    rw [aS2 e 2 (by decide), aS2 e 4 (by decide), aS2 e 5 (by decide), aS2 e 6 (by decide), aS2 e 7 (by decide), aS2 e 8 (by decide), aS2 e 9 (by decide), aS2 e 10 (by decide), aS2 e 11 (by decide), aS2 e 12 (by decide), aS2 e 13 (by decide), aS2 e 14 (by decide), aS3, aT3, aT2 e 1 (by decide), aT2 e 2 (by decide), aT2 e 4 (by decide), aT2 e 5 (by decide), aT2 e 6 (by decide), aT2 e 7 (by decide), aT2 e 8 (by decide), aT2 e 9 (by decide), aT2 e 10 (by decide), aT2 e 11 (by decide), aT2 e 12 (by decide), aT2 e 13 (by decide), aT2 e 14 (by decide), aT2 e 15 (by decide), aT2 e 16 (by decide), aT2 e 17 (by decide), aT2 e 18 (by decide), aT2 e 19 (by decide), aT2 e 20 (by decide), aT2 e 21 (by decide), aT2 e 22 (by decide)]
    exact ⟨⟨c2, rfl, c4, c5, c6, c7, c8, c9, c10, c11, c12, c13, c14⟩, d0, d1, d2, d3, d4, d5, d6, d7⟩
  have hself : zuf τ1 13 3 v = τ1 := by
    funext i j
    rw [zuf_at]
    by_cases q : i = 13
    · by_cases q2 : j = 3
      · rw [if_pos q, if_pos q2, q, q2, fT3]
      · rw [if_pos q, if_neg q2]
    · rw [if_neg q]
  have done : ∀ e : Int32, v.toInt ≤ e.toInt → e.toInt ≤ (τ 13 5).toInt → kput (zuf σ1 2 3 e) v e ∧ k_M_sends (zuf τ1 13 3 e) v e ∧ zSd k σ τ (zput (zuf σ1 2 3 e) v e) (f_M_sends (zuf τ1 13 3 e) v e) := fun e q1 q2 => send_done v e h b hN (aR e) (aS e) (aT e) (fun j p1 p2 p3 => aT2 e j p2) (by rw [aT2 e 0 (by decide)]; exact e0) (by omega) (by rw [aT3]; omega) (by rw [aT3]; exact q2) (by rw [aT3]; exact Int.le_refl _)
  have none : zSd k σ τ (0, zuf σ1 2 3 v) (0, τ1) := send_none h b (by have q := aR v; rw [hself] at q; exact q) (aS v) fT (fun j p1 p2 => fT2 j p2) (by rw [fT2 0 (by decide)]; exact e0) (by rw [fT3]; omega) (by rw [fT3]; exact hvh)
  obtain ⟨fl1, fl2, fl3, fl4, fl5⟩ := zflight σ1 τ1 (by rw [fS 4 (by decide), fT 15 (by decide)]; exact rM) (by rw [fS2 2 (by decide), fT2 2 (by decide)]; exact c2) (by rw [fS3, fT3]) (by rw [fT2 2 (by decide)]; exact g1) (by rw [fT2 2 (by decide)]; omega) (by rw [fT3]; omega)
  unfold kfrC kfrM zfrC zfrM
  dsimp only [zlet, zseq]
  rw [c3, c5, hv, j2, ← hσ1, ← hτ1, fT3, fT2 5 (by decide), fT2 6 (by decide), fT2 7 (by decide), fT2 9 (by decide)]
  have hvv : v - v = 0 := by rw [zeq, zsub (by omega) (by omega), zt0]; omega
  -- what the class finds
  have hE : f_S_endOfFresh σ1 = (if v < τ 13 5 then zlet (f_M_flight τ1) (fun r2 => (if v < τ 13 6 then zlet (f_P_firstFilled 3 σ1 v (zmn (zmn (τ 13 6) (τ 13 5)) (v + 4))) (fun r5 => (if (zmn (τ 13 9) (τ 13 7)) < ((r2 + r5) - v) then (if r2 = 0 then r5 else v) else r5)) else (if r2 = 0 then (v + 1) else v))) else v) := by
    unfold f_S_endOfFresh f_S_endOfRun
    dsimp only [zlet]
    simp only [fS3, fS2 5 (by decide), fS2 6 (by decide), fS2 7 (by decide), fS2 9 (by decide), c5, c6, c7, c9, fl3, zmn_lt, ite_self]
  have hK : k_S_endOfFresh σ1 := by
    unfold k_S_endOfFresh k_S_endOfRun
    exact fun _ => ⟨fl1, fun _ _ _ => (firstFilled 3 σ1 _ _).1⟩
  by_cases q1 : v = τ 13 5
  · have q2 : ¬ v < τ 13 5 := by rw [zlt, q1]; omega
    rw [if_neg q2] at hE
    rw [hE, if_pos (Int32.le_refl v), if_pos q1, hvv]
    exact ⟨⟨f1, fun r hr => by rw [hr, ← hσ1]; exact ⟨hK, fun r6 hr6 w => absurd (by rw [hr6, hE]; exact Int32.le_refl v) w⟩⟩, ⟨j1, fun r hr w => absurd (by rw [hr, fT3, fT2 5 (by decide)]; exact q1) w⟩, none⟩
  · have q1' : v.toInt ≠ (τ 13 5).toInt := fun q => q1 (zeq.mpr q)
    have q2 : v < τ 13 5 := by rw [zlt]; omega
    rw [if_pos q2] at hE
    dsimp only [zlet] at hE
    rw [if_neg q1]
    have k4' : zA0 (τ 15) v.toInt = 0 := k4 (by omega)
    have hv1 : (v + 1).toInt = v.toInt + 1 := zinc' (by omega)
    by_cases q3 : τ 13 6 ≤ v
    · have q4 : ¬ v < τ 13 6 := by rw [zlt]; rw [zle] at q3; omega
      rw [if_neg q4] at hE
      rw [if_pos q3]
      by_cases q5 : f_M_flight τ1 = 0
      · rw [if_pos q5] at hE
        rw [if_pos q5, hE]
        have q6 : ¬ v + 1 ≤ v := by rw [zle]; omega
        rw [if_neg q6]
        obtain ⟨m1, m2, m3⟩ := done (v + 1) (by omega) (by omega)
        refine ⟨⟨f1, fun r hr => by rw [hr, ← hσ1]; exact ⟨hK, fun r6 hr6 w => by rw [hr6, hE]; exact m1⟩⟩, ⟨j1, fun r hr w => ?_⟩, m3⟩
        rw [hr, fT3, fT2 5 (by decide), fT2 6 (by decide), fT2 7 (by decide), fT2 9 (by decide)]
        exact ⟨fl2, fun r13 hr13 => ⟨fun _ => ⟨fun _ => m2, fun p => absurd (hr13.trans q5) p⟩, fun p => absurd q3 p⟩⟩
      · rw [if_neg q5] at hE
        rw [if_neg q5, hE, if_pos q3, if_pos (Int32.le_refl v), hvv]
        refine ⟨⟨f1, fun r hr => by rw [hr, ← hσ1]; exact ⟨hK, fun r6 hr6 w => absurd (by rw [hr6, hE]; exact Int32.le_refl v) w⟩⟩, ⟨j1, fun r hr w => ?_⟩, none⟩
        rw [hr, fT3, fT2 5 (by decide), fT2 6 (by decide), fT2 7 (by decide), fT2 9 (by decide)]
        exact ⟨fl2, fun r13 hr13 => ⟨fun _ => ⟨fun p => absurd (hr13.symm.trans p) q5, fun _ p => absurd q3 p⟩, fun p => absurd q3 p⟩⟩
    · have q4 : v < τ 13 6 := by rw [zlt]; rw [zle] at q3; omega
      rw [if_pos q4] at hE
      rw [if_neg q3]
      have hv4 : (v + 4).toInt = v.toInt + 4 := by
        rw [zadd (by rw [zt4]; omega) (by rw [zt4]; omega), zt4]
      obtain ⟨y, hy⟩ : ∃ y, y = zmn (zmn (τ 13 6) (τ 13 5)) (v + 4) := ⟨_, rfl⟩
      have hy2 : f_M_lesser τ1 (v + 4) (f_M_lesser τ1 (τ 13 5) (τ 13 6)) = y := by
        rw [zlesser, zlesser, zmn_comm (τ 13 5), zmn_comm (v + 4), hy]
      have hyb : v.toInt < y.toInt ∧ y.toInt ≤ (τ 13 5).toInt := by
        have p1 := zmn_t (zmn (τ 13 6) (τ 13 5)) (v + 4)
        have p2 := zmn_t (τ 13 6) (τ 13 5)
        have p3 := zlt.mp q4
        rw [hy, p1, p2]
        split <;> split <;> omega
      rw [← hy] at hE
      rw [hy2]
      obtain ⟨i1, i2⟩ := firstFilled 3 σ1 v y
      obtain ⟨i3, i4⟩ := markOr τ1 v y (by omega) (by omega)
      have hA1 : ∀ p, zA0 (σ1 (3 + 1)) p = zA0 (τ1 15) p := fun p => by
        rw [fS (3 + 1) (by decide), fT 15 (by decide)]; exact hA p
      have i5 : f_P_firstFilled 3 σ1 v y = f_M_markOr τ1 v y := zeq.mpr (zFst_uniq (zFst_iff i2 (fun p _ _ => by rw [hA1])) i4)
      rw [i5] at hE
      generalize hee : f_M_markOr τ1 v y = e at *
      obtain ⟨l1, l2, l3, l4⟩ := i4
      have hev : v.toInt < e.toInt := by
        by_cases p : v.toInt = e.toInt
        · have p2 := l4 (by omega)
          rw [← p, fT 15 (by decide)] at p2
          exact absurd k4' p2
        · omega
      have hev' : ¬ e ≤ v := by rw [zle]; omega
      obtain ⟨m1, m2, m3⟩ := done e (by omega) (by omega)
      have kk : ∀ P : Prop, (k_M_sends (zuf τ1 13 3 e) v e → P) → P := fun P f => f m2
      by_cases q5 : f_M_flight τ1 = 0
      · rw [q5] at hE
        simp only [if_true, ite_self] at hE
        rw [if_pos q5, hE, if_neg hev']
        refine ⟨⟨f1, fun r hr => by rw [hr, ← hσ1]; exact ⟨hK, fun r6 hr6 w => by rw [hr6, hE]; exact m1⟩⟩, ⟨j1, fun r hr w => ?_⟩, m3⟩
        rw [hr, fT3, fT2 5 (by decide), fT2 6 (by decide), fT2 7 (by decide), fT2 9 (by decide)]
        refine ⟨fl2, fun r13 hr13 => ⟨fun p => absurd p q3, fun _ r31 hr31 r33 hr33 => ?_⟩⟩
        have p1 : r33 = y := by rw [hr33, hr31]; exact hy2
        rw [p1]
        refine ⟨i3, fun r35 hr35 => ?_⟩
        rw [hee] at hr35
        rw [hr35]
        exact ⟨fun _ => m2, fun _ _ _ _ _ => m2⟩
      · simp only [if_neg q5] at hE
        rw [if_neg q5, zlesser, zmn_comm (τ 13 7)]
        have kM : ∀ r11, r11 = τ1 → (¬ (r11 13 3) = (r11 13 5) → ((k_M_flight r11) ∧ (∀ r13, r13 = (f_M_flight r11) → (((r11 13 6) ≤ (r11 13 3) → ((r13 = 0 → (k_M_sends (zuf r11 13 3 ((r11 13 3) + 1)) (r11 13 3) ((r11 13 3) + 1))) ∧ (¬ r13 = 0 → (¬ (r11 13 6) ≤ (r11 13 3) → (∀ r23, r23 = (f_M_lesser r11 (r11 13 7) (r11 13 9)) → (¬ r23 < ((r13 + ((r11 13 3) + 1)) - (r11 13 3)) → (k_M_sends (zuf r11 13 3 ((r11 13 3) + 1)) (r11 13 3) ((r11 13 3) + 1)))))))) ∧ (¬ (r11 13 6) ≤ (r11 13 3) → (∀ r31, r31 = (f_M_lesser r11 (r11 13 5) (r11 13 6)) → (∀ r33, r33 = (f_M_lesser r11 ((r11 13 3) + 4) r31) → ((k_M_markOr r11 (r11 13 3) r33) ∧ (∀ r35, r35 = (f_M_markOr r11 (r11 13 3) r33) → ((r13 = 0 → (k_M_sends (zuf r11 13 3 r35) (r11 13 3) r35)) ∧ (¬ r13 = 0 → (¬ (r11 13 6) ≤ (r11 13 3) → (∀ r44, r44 = (f_M_lesser r11 (r11 13 7) (r11 13 9)) → (¬ r44 < ((r13 + r35) - (r11 13 3)) → (k_M_sends (zuf r11 13 3 r35) (r11 13 3) r35))))))))))))))) := by
          intro r hr w
          rw [hr, fT3, fT2 5 (by decide), fT2 6 (by decide), fT2 7 (by decide), fT2 9 (by decide)]
          refine ⟨fl2, fun r13 hr13 => ⟨fun p => absurd p q3, fun _ r31 hr31 r33 hr33 => ?_⟩⟩
          have p1 : r33 = y := by rw [hr33, hr31]; exact hy2
          rw [p1]
          refine ⟨i3, fun r35 hr35 => ?_⟩
          rw [hee] at hr35
          rw [hr35]
          exact ⟨fun _ => m2, fun _ _ _ _ _ => m2⟩
        by_cases q6 : zmn (τ 13 9) (τ 13 7) < f_M_flight τ1 + e - v
        · rw [if_pos q6] at hE
          simp only [hE, if_neg q3, if_pos q6]
          rw [if_pos (Int32.le_refl v), hvv]
          exact ⟨⟨f1, fun r hr => by rw [hr, ← hσ1]; exact ⟨hK, fun r6 hr6 w => absurd (by first | (rw [hr6, hE]; exact Int32.le_refl v) | (rw [hr6]; exact Int32.le_refl v)) w⟩⟩, ⟨j1, kM⟩, none⟩
        · rw [if_neg q6] at hE
          simp only [hE, if_neg q3, if_neg q6]
          rw [if_neg hev']
          exact ⟨⟨f1, fun r hr => by rw [hr, ← hσ1]; exact ⟨hK, fun r6 hr6 w => by first | (rw [hr6, hE]; exact m1) | (rw [hr6]; exact m1)⟩⟩, ⟨j1, kM⟩, m3⟩
