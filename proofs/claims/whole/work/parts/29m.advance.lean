set_option maxHeartbeats 2000000 in
theorem zadvance {k : Nat} {σ τ : zSt} (h : zRel σ τ) (b : zBnd k τ) (r : Int32) (hr : (τ 13 2).toInt ≤ r.toInt) (hrh : r.toInt ≤ (τ 13 4).toInt) : (k_P_empty 3 σ (σ 2 2) r ∧ (∀ u3, u3 = f_P_empty 3 σ (σ 2 2) r → u3 2 11 = -1 → k_S_growCongestion (zuf (zuf (zuf u3 2 2 r) 2 3 (if (u3 2 3) < r then r else u3 2 3)) 2 10 0))) ∧ (∀ r2, r2 = f_M_greater (zuf τ 13 2 r) (τ 13 3) r → (kl_M_advances_56 (((((zuf (zuf τ 13 2 r) 13 3 r2) 13 2)).toInt - (0 : Int32).toInt).toNat + 2) (zuf (zuf τ 13 2 r) 13 3 r2) 0 ∧ ∀ r6, r6 = l_M_advances_56 (((((zuf (zuf τ 13 2 r) 13 3 r2) 13 2)).toInt - (0 : Int32).toInt).toNat + 2) (zuf (zuf τ 13 2 r) 13 3 r2) 0 → (r6 13 10 = 0 → (r6 13 8 ≤ r6 13 7 → ¬ r6 13 7 = 0)))) ∧ zAdv k σ τ (zadvC σ r) (zadvM τ r) ∧ zadvM τ r 13 2 = r := by
  have hR := h.1
  obtain ⟨⟨c2, c3, c4, c5, c6, c7, c8, c9, c10, c11, c12, c13, c14⟩, d0, d1, d2, d3, d4, d5, d6, d7⟩ := hR
  have b' := b
  obtain ⟨⟨g1, g2, g3, g4, g5, g6, g7, g8, g9, g10, g11, g12⟩, -, bM, -⟩ := b'
  obtain ⟨N, hN⟩ : ∃ N, N = zmx (τ 13 3) r := ⟨_, rfl⟩
  obtain ⟨k1, k2⟩ := P_empty 3 σ (τ 13 2) r g1 (by omega)
  obtain ⟨τ0, hτ0⟩ : ∃ u, u = zuf (zuf τ 13 2 r) 13 3 N := ⟨_, rfl⟩
  have t02 : τ0 13 2 = r := by rw [hτ0, zuf_nj (by decide), zuf_eq]
  obtain ⟨k3, k4⟩ := l_advances (((τ0 13 2).toInt - (0 : Int32).toInt).toNat + 2) τ0 0 (by rw [zt0]; omega) (by rw [t02]; omega) (by omega)
  rw [t02] at k4
  have k4' : l_M_advances_56 ((r.toInt - (0 : Int32).toInt).toNat + 2) τ0 0 = zclr τ0 15 0 r.toInt := by rw [k4, zt0]
  obtain ⟨B, hB⟩ : ∃ B, B = zclr σ 4 (τ 13 2).toInt r.toInt := ⟨_, rfl⟩
  obtain ⟨C, hC⟩ : ∃ C, C = zclr τ0 15 0 r.toInt := ⟨_, rfl⟩
  have k2' : f_P_empty 3 σ (τ 13 2) r = B := by rw [k2, hB]
  have B2 : ∀ j, B 2 j = σ 2 j := fun j => by rw [hB, zclr_ne (by decide)]
  have B5 : ∀ j, B 5 j = σ 5 j := fun j => by rw [hB, zclr_ne (by decide)]
  have B4 : ∀ j : Nat, B 4 j = if (τ 13 2).toInt ≤ (j : Int) ∧ (j : Int) < r.toInt then 0 else σ 4 j := fun j => by
    rw [hB]
    unfold zclr
    by_cases q : (τ 13 2).toInt ≤ (j : Int) ∧ (j : Int) < r.toInt
    · rw [if_pos ⟨rfl, q⟩, if_pos q]
    · rw [if_neg (fun w => q w.2), if_neg q]
  have BF : ∀ i, i ≠ 4 → B i = σ i := fun i q => by rw [hB, zclr_ne q]
  have C2 : C 13 2 = r := by rw [hC, zclr_ne (by decide), t02]
  have C3 : C 13 3 = N := by rw [hC, zclr_ne (by decide), hτ0, zuf_eq]
  have CO : ∀ j, j ≠ 2 → j ≠ 3 → C 13 j = τ 13 j := fun j p1 p2 => by rw [hC, zclr_ne (by decide), hτ0, zuf_nj p2, zuf_nj p1]
  have C15 : ∀ j : Nat, C 15 j = if (j : Int) < r.toInt then 0 else τ 15 j := fun j => by
    rw [hC]
    unfold zclr
    by_cases q : (j : Int) < r.toInt
    · rw [if_pos ⟨rfl, by omega, q⟩, if_pos q]
    · rw [if_neg (fun w => q w.2.2), if_neg q, hτ0, zuf_ne (by decide), zuf_ne (by decide)]
  have CF : ∀ i, i ≠ 13 → i ≠ 15 → C i = τ i := fun i p1 p2 => by rw [hC, zclr_ne p2, hτ0, zuf_ne p1, zuf_ne p1]
  have C7 := CO 7 (by decide) (by decide)
  have C8 := CO 8 (by decide) (by decide)
  have C10 := CO 10 (by decide) (by decide)
  have C11 := CO 11 (by decide) (by decide)
  have C1 := CO 1 (by decide) (by decide)
  have C14 := CO 14 (by decide) (by decide)
  obtain ⟨G, hG⟩ : ∃ G, G = zuf (zuf (zuf B 2 2 r) 2 3 N) 2 10 0 := ⟨_, rfl⟩
  have G2 : G 2 2 = r ∧ G 2 3 = N ∧ G 2 4 = σ 2 4 ∧ G 2 5 = σ 2 5 ∧ G 2 6 = σ 2 6 ∧ G 2 7 = σ 2 7 ∧ G 2 8 = σ 2 8 ∧ G 2 9 = σ 2 9 ∧ G 2 10 = 0 ∧ G 2 11 = σ 2 11 ∧ G 2 12 = σ 2 12 ∧ G 2 13 = σ 2 13 ∧ G 2 14 = σ 2 14 := by
    rw [hG]
    simp [zuf_at, B2]
  have GF : ∀ i, i ≠ 2 → G i = B i := fun i p => by rw [hG, zuf_ne p, zuf_ne p, zuf_ne p]
  have G5 : ∀ j, G 5 j = σ 5 j := fun j => by rw [GF 5 (by decide), B5]
  have G4 : ∀ j, G 4 j = B 4 j := fun j => by rw [GF 4 (by decide)]
  obtain ⟨G22, G23, G24, G25, G26, G27, G28, G29, G210, G211, G212, G213, G214⟩ := G2
  obtain ⟨w1, w2⟩ := zgrow G (by rw [G27, c7]; exact g6)
  rw [G27, G28, c7, c8] at w2
  have hcc := zgc_in (t := τ 13 8) (c := τ 13 7) g6 g7
  have hM : ∀ t c : Int32, (if t ≤ c then zmn (c + zmx (16 / c) 1) 256 else zmn (c + 4) 256) = zgc t c := fun t c => rfl
  have hg : f_M_greater (zuf τ 13 2 r) (τ 13 3) r = N := by rw [zgreater, hN]
  refine ⟨⟨by rw [c2]; exact k1, fun u3 hu _ => ?_⟩, fun r2 hr2 => ?_, ?_⟩
  · rw [c2, k2'] at hu
    rw [hu, zmx_lt, B2, c3, ← hN, ← hG]
    exact w1
  · rw [hg] at hr2
    rw [hr2, ← hτ0]
    refine ⟨k3, fun r6 hr6 _ _ => ?_⟩
    rw [hr6, t02, k4', ← hC, C7, zeq, zt0]
    omega
  · have eM : zadvM τ r = (if τ 13 10 = 0 then (if r = N then zuf (zuf (zuf C 13 13 0) 13 7 (zgc (τ 13 8) (τ 13 7))) 13 15 (-1) else zuf (zuf (zuf C 13 13 0) 13 7 (zgc (τ 13 8) (τ 13 7))) 13 15 (τ 13 1 + τ 13 14)) else (if r < τ 13 11 then (if r = N then zuf (zuf C 13 13 0) 13 15 (-1) else zuf (zuf C 13 13 0) 13 15 (τ 13 1 + τ 13 14)) else (if r = N then zuf (zuf (zuf (zuf C 13 13 0) 13 10 0) 13 7 (τ 13 8)) 13 15 (-1) else zuf (zuf (zuf (zuf C 13 13 0) 13 10 0) 13 7 (τ 13 8)) 13 15 (τ 13 1 + τ 13 14)))) := by
      unfold zadvM zgc
      dsimp only [zlet]
      rw [hg, ← hτ0, t02, k4', ← hC]
      simp only [C2, C3, C1, C7, C8, C10, C11, C14, zgreater, zlesser]
      by_cases q : τ 13 8 ≤ τ 13 7
      · simp only [if_pos q]
      · simp only [if_neg q]
    have eC : zadvC σ r = (if σ 2 11 = -1 then (if r = N then zuf (zuf G 2 7 (zgc (τ 13 8) (τ 13 7))) 5 2 (-1) else zuf (zuf G 2 7 (zgc (τ 13 8) (τ 13 7))) 5 2 (τ 13 1 + τ 13 14)) else (if r < σ 2 11 then (if r = N then zuf G 5 2 (-1) else zuf G 5 2 (τ 13 1 + τ 13 14)) else (if r = N then zuf (zuf (zuf G 2 11 (-1)) 2 7 (τ 13 8)) 5 2 (-1) else zuf (zuf (zuf G 2 11 (-1)) 2 7 (τ 13 8)) 5 2 (τ 13 1 + τ 13 14)))) := by
      unfold zadvC f_T_stop f_T_startAnew
      dsimp only [zlet]
      rw [c2, k2']
      simp only [zmx_lt, B2, c3, ← hN, ← hG, w2]
      simp [zuf_at, G22, G23, G5, d0, d1, c8]
    have e2 : zadvM τ r 13 2 = r := by
      rw [eM]
      repeat' split
      all_goals simp [zuf_at, C2]
    refine ⟨?_, e2⟩
    rw [eM, eC]
    by_cases q1 : τ 13 10 = 0
    · rw [if_pos q1] at c11 ⊢
      rw [if_pos c11]
      by_cases q2 : r = N
      · rw [if_pos q2, if_pos q2]
        refine zadv_fin h b r N (zgc (τ 13 8) (τ 13 7)) 0 (-1) (-1) hr hrh hN ?_ (fun j => ?_) (fun j => ?_) (fun i p1 p2 p3 => ?_) ?_ (fun j p1 p2 p3 p4 p5 p6 => ?_) (fun j => ?_) (fun i p1 p2 => ?_) rfl hcc
        · simp [zuf_at, G22, G23, G24, G25, G26, G28, G29, G210, G211, G212, G213, G214, c11]
        · simp [zuf_at, G5]
        · simp [zuf_at, G4, B4]
        · simp [zuf_ne, p1, p3, GF i p1, BF i p2]
        · simp [zuf_at, C2, C3, C10, q1]
        · simp [zuf_at, p3, p4, p5, p6, CO j p1 p2]
        · simp [zuf_at, C15]
        · simp [zuf_ne, p1, CF i p1 p2]
      · rw [if_neg q2, if_neg q2]
        refine zadv_fin h b r N (zgc (τ 13 8) (τ 13 7)) 0 (-1) (τ 13 1 + τ 13 14) hr hrh hN ?_ (fun j => ?_) (fun j => ?_) (fun i p1 p2 p3 => ?_) ?_ (fun j p1 p2 p3 p4 p5 p6 => ?_) (fun j => ?_) (fun i p1 p2 => ?_) rfl hcc
        · simp [zuf_at, G22, G23, G24, G25, G26, G28, G29, G210, G211, G212, G213, G214, c11]
        · simp [zuf_at, G5]
        · simp [zuf_at, G4, B4]
        · simp [zuf_ne, p1, p3, GF i p1, BF i p2]
        · simp [zuf_at, C2, C3, C10, q1]
        · simp [zuf_at, p3, p4, p5, p6, CO j p1 p2]
        · simp [zuf_at, C15]
        · simp [zuf_ne, p1, CF i p1 p2]
    · rw [if_neg q1] at c11 ⊢
      have q3 : ¬ σ 2 11 = -1 := by rw [c11]; exact zne1 g12
      rw [if_neg q3, c11]
      by_cases q4 : r < τ 13 11
      · rw [if_pos q4, if_pos q4]
        by_cases q2 : r = N
        · rw [if_pos q2, if_pos q2]
          refine zadv_fin h b r N (τ 13 7) (τ 13 10) (τ 13 11) (-1) hr hrh hN ?_ (fun j => ?_) (fun j => ?_) (fun i p1 p2 p3 => ?_) ?_ (fun j p1 p2 p3 p4 p5 p6 => ?_) (fun j => ?_) (fun i p1 p2 => ?_) (by rw [if_neg q1]) ⟨g6, g7⟩
          · simp [zuf_at, G22, G23, G24, G25, G26, G27, G28, G29, G210, G211, G212, G213, G214, c11, c7]
          · simp [zuf_at, G5]
          · simp [zuf_at, G4, B4]
          · simp [zuf_ne, p1, p3, GF i p1, BF i p2]
          · simp [zuf_at, C2, C3, C10, C7]
          · simp [zuf_at, p3, p4, p5, p6, CO j p1 p2]
          · simp [zuf_at, C15]
          · simp [zuf_ne, p1, CF i p1 p2]
        · rw [if_neg q2, if_neg q2]
          refine zadv_fin h b r N (τ 13 7) (τ 13 10) (τ 13 11) (τ 13 1 + τ 13 14) hr hrh hN ?_ (fun j => ?_) (fun j => ?_) (fun i p1 p2 p3 => ?_) ?_ (fun j p1 p2 p3 p4 p5 p6 => ?_) (fun j => ?_) (fun i p1 p2 => ?_) (by rw [if_neg q1]) ⟨g6, g7⟩
          · simp [zuf_at, G22, G23, G24, G25, G26, G27, G28, G29, G210, G211, G212, G213, G214, c11, c7]
          · simp [zuf_at, G5]
          · simp [zuf_at, G4, B4]
          · simp [zuf_ne, p1, p3, GF i p1, BF i p2]
          · simp [zuf_at, C2, C3, C10, C7]
          · simp [zuf_at, p3, p4, p5, p6, CO j p1 p2]
          · simp [zuf_at, C15]
          · simp [zuf_ne, p1, CF i p1 p2]
      · rw [if_neg q4, if_neg q4]
        by_cases q2 : r = N
        · rw [if_pos q2, if_pos q2]
          refine zadv_fin h b r N (τ 13 8) 0 (-1) (-1) hr hrh hN ?_ (fun j => ?_) (fun j => ?_) (fun i p1 p2 p3 => ?_) ?_ (fun j p1 p2 p3 p4 p5 p6 => ?_) (fun j => ?_) (fun i p1 p2 => ?_) rfl ⟨by omega, g9⟩
          · simp [zuf_at, G22, G23, G24, G25, G26, G27, G28, G29, G210, G211, G212, G213, G214]
          · simp [zuf_at, G5]
          · simp [zuf_at, G4, B4]
          · simp [zuf_ne, p1, p3, GF i p1, BF i p2]
          · simp [zuf_at, C2, C3]
          · simp [zuf_at, p3, p4, p5, p6, CO j p1 p2]
          · simp [zuf_at, C15]
          · simp [zuf_ne, p1, CF i p1 p2]
        · rw [if_neg q2, if_neg q2]
          refine zadv_fin h b r N (τ 13 8) 0 (-1) (τ 13 1 + τ 13 14) hr hrh hN ?_ (fun j => ?_) (fun j => ?_) (fun i p1 p2 p3 => ?_) ?_ (fun j p1 p2 p3 p4 p5 p6 => ?_) (fun j => ?_) (fun i p1 p2 => ?_) rfl ⟨by omega, g9⟩
          · simp [zuf_at, G22, G23, G24, G25, G26, G27, G28, G29, G210, G211, G212, G213, G214]
          · simp [zuf_at, G5]
          · simp [zuf_at, G4, B4]
          · simp [zuf_ne, p1, p3, GF i p1, BF i p2]
          · simp [zuf_at, C2, C3]
          · simp [zuf_at, p3, p4, p5, p6, CO j p1 p2]
          · simp [zuf_at, C15]
          · simp [zuf_ne, p1, CF i p1 p2]
theorem zadvAll {k : Nat} {σ τ : zSt} (h : zRel σ τ) (b : zBnd k τ) (r : Int32) (hr : (τ 13 2).toInt ≤ r.toInt) (hrb : r.toInt ≤ (τ 13 28).toInt) : k_S_advanceTo σ r ∧ k_M_advances τ r ∧ zAdv k σ τ (f_S_advanceTo σ r) (f_M_advances τ r) ∧ f_M_advances τ r 13 2 = r := by
  obtain ⟨s1, s2, s3⟩ := zsample h b r
  obtain ⟨t1, t2, t3, t4, t5, t6⟩ := s1
  obtain ⟨a1, a2, a3, a4⟩ := zadvance t1 t2 r (by rw [s2]; exact hr) (by have := t2.2.2.2.1; rw [s3] at this; omega)
  have eC : f_S_advanceTo σ r = zadvC (f_T_endTiming σ r) r := rfl
  have eM : f_M_advances τ r = zadvM (zsam τ r) r := by
    unfold f_M_advances zsam
    by_cases q1 : τ 13 16 = -1
    · rw [if_pos q1, if_pos q1]; rfl
    · rw [if_neg q1, if_neg q1]
      by_cases q2 : r < τ 13 16
      · rw [if_pos q2, if_pos q2]; rfl
      · rw [if_neg q2, if_neg q2]; rfl
  rw [eC, eM]
  refine ⟨?_, ?_, zAdv_trans ⟨t1, t2, t3, t4, t5, t6⟩ a3, a4⟩
  · unfold k_S_advanceTo
    intro u1 hu
    rw [hu]
    exact a1
  · unfold k_M_advances
    unfold zsam at a2
    by_cases q1 : τ 13 16 = -1
    · rw [if_pos q1] at a2
      exact ⟨fun _ => a2, fun q => absurd q1 q⟩
    · rw [if_neg q1] at a2
      by_cases q2 : r < τ 13 16
      · rw [if_pos q2] at a2
        exact ⟨fun q => absurd q q1, fun _ => ⟨fun _ => a2, fun q => absurd q2 q⟩⟩
      · rw [if_neg q2] at a2
        refine ⟨fun q => absurd q q1, fun _ => ⟨fun q => absurd q q2, fun _ u hu => ?_⟩⟩
        rw [hu]
        exact a2
theorem zleave {k : Nat} {σ τ : zSt} (h : zRel σ τ) (b : zBnd k τ) (a : Int32) (ha0 : 0 ≤ a.toInt) (ha1 : a.toInt < (τ 13 38).toInt) : k_W_remove 11 σ a ∧ k_M_leaves τ a ∧ zRel (f_W_remove 11 σ a) (f_M_leaves τ a) ∧ zBnd (k + 1) (f_M_leaves τ a) ∧ (∀ i, i ≠ 11 → i ≠ 12 → f_W_remove 11 σ a i = σ i) ∧ (∀ i, i ≠ 13 → i ≠ 20 → i ≠ 21 → i ≠ 22 → i ≠ 23 → i ≠ 24 → f_M_leaves τ a i = τ i) ∧ (∀ j, j ≠ 38 → f_M_leaves τ a 13 j = τ 13 j) := by
  have h' := h
  obtain ⟨-, -, -, r4, r5, e9, e11, hS, hN, hC, hB⟩ := h'
  have b' := b
  obtain ⟨-, ⟨b1, b2, b3, b4, b5, b6⟩, -, w1, w2, w3, w4, w5⟩ := b'
  obtain ⟨m1, m2, m3, m4, m5, m6, m7, m8, n9, n10, m11, m12⟩ := zremA (σ := σ) (τ := τ) (a := a) e11 ha0 ha1 b6 hN hC hB
  refine ⟨m1, m2, ?_, ?_, m8, n9, n10⟩
  · refine zRel_rcv h ?_ ?_ ?_ m6 ?_ m3 m4 m5 (fun i q => m8 i (by omega) (by omega)) (n9 14 (by decide) (by decide) (by decide) (by decide) (by decide) (by decide)) (n9 15 (by decide) (by decide) (by decide) (by decide) (by decide) (by decide)) (fun j q1 q2 => n10 j (by omega))
    · exact zHB_of r4 (m8 8 (by decide) (by decide)) (m8 6 (by decide) (by decide)) (n9 16 (by decide) (by decide) (by decide) (by decide) (by decide) (by decide)) (n9 17 (by decide) (by decide) (by decide) (by decide) (by decide) (by decide)) (n10 28 (by decide)) (n10 29 (by decide))
    · rw [m8 6 (by decide) (by decide), n10 27 (by decide)]; exact r5
    · rw [m8 9 (by decide) (by decide), n10 32 (by decide)]; exact e9
    · rw [m8 10 (by decide) (by decide), n9 18 (by decide) (by decide) (by decide) (by decide) (by decide) (by decide), n9 19 (by decide) (by decide) (by decide) (by decide) (by decide) (by decide)]; exact hS
  · refine zBnd_rcv b ?_ ?_ (n9 15 (by decide) (by decide) (by decide) (by decide) (by decide) (by decide)) (fun j q1 q2 => n10 j (by omega))
    · unfold zBT
      rw [n10 27 (by decide), n10 32 (by decide)]
      exact ⟨b1, by omega, b3, b4, by omega, by omega⟩
    · unfold zBR
      rw [n10 28 (by decide), n9 17 (by decide) (by decide) (by decide) (by decide) (by decide) (by decide), n9 18 (by decide) (by decide) (by decide) (by decide) (by decide) (by decide), n9 19 (by decide) (by decide) (by decide) (by decide) (by decide) (by decide)]
      refine ⟨w1, w2, w3, fun p hp => ?_, fun j hj => ?_⟩
      · obtain ⟨s, s1, s2, s3, s4⟩ := m11 p hp
        rw [s2, s4]
        exact w4 s s1
      · obtain ⟨s, s1, s2, s3⟩ := m12 j hj
        rw [s2, s3]
        exact w5 s s1
/-- what an acknowledgment does, but for its leaving -/
theorem zarrive {k : Nat} {σ τ : zSt} (h : zRel σ τ) (b : zBnd k τ) (a : Int32) (ha0 : 0 ≤ a.toInt) (ha1 : a.toInt < 40) (hge : ¬ τ 20 a.toInt.toNat < τ 13 2) : k_S_takeAck σ a ∧ k_M_arrives τ a ∧ zAdv k σ τ (f_S_takeAck σ a).2 (f_M_arrives τ a) ∧ (f_S_takeAck σ a).1 = f_M_arrives τ a 13 2 - τ 13 2 := by
  have h' := h
  obtain ⟨hR, -, -, -, -, -, -, -, hN, -, -⟩ := h'
  obtain ⟨⟨c2, c3, c4, c5, c6, -⟩, -⟩ := hR
  have b' := b
  obtain ⟨⟨g1, g2, g3, g4, g5, -⟩, -, -, w1, -, -, w4, -⟩ := b'
  have hw := w4 a.toInt.toNat (by omega)
  have han : a.toNatClampNeg = a.toInt.toNat := rfl
  have hva : vp_in a 40 := zvin ha0 (by omega)
  obtain ⟨s1, s2⟩ := W_cell11 (σ := σ) (a := a) (i := 0) ha0 ha1 (by decide) (by decide)
  obtain ⟨s3, s4⟩ := W_cell11 (σ := σ) (a := a) (i := 1) ha0 ha1 (by decide) (by decide)
  have z0 : (0 : Int32).toInt.toNat = 0 := rfl
  have z1 : (1 : Int32).toInt.toNat = 1 := rfl
  rw [z0, Nat.add_zero, (hN a.toInt.toNat (by omega)).1] at s2
  rw [z1, (hN a.toInt.toNat (by omega)).2] at s4
  unfold k_S_takeAck f_S_takeAck k_M_arrives f_M_arrives
  dsimp only [zlet]
  rw [han, s2, s4, c2, c6]
  generalize hr1 : τ 20 a.toInt.toNat = r at *
  generalize hr4 : τ 21 a.toInt.toNat = q at *
  generalize hE : τ 13 6 = E at *
  have hge' := hge
  rw [zlt] at hge'
  have hle : τ 13 2 ≤ r := by rw [zle]; omega
  have hsub : (r - τ 13 2).toInt = r.toInt - (τ 13 2).toInt := zsub (by omega) (by omega)
  rw [if_pos hle]
  obtain ⟨x, hx⟩ : ∃ x, x = (if E < r + q then r + q else E) := ⟨_, rfl⟩
  rw [← hx]
  obtain ⟨σe, hσe⟩ : ∃ u, u = zuf σ 2 6 x := ⟨_, rfl⟩
  obtain ⟨τe, hτe⟩ : ∃ u, u = zuf τ 13 6 x := ⟨_, rfl⟩
  have hA := zedge h b x
  rw [← hσe, ← hτe] at hA
  have hA' := hA
  obtain ⟨A1, A2, A3, A4, A5, A6⟩ := hA'
  have te2 : τe 13 2 = τ 13 2 := by rw [hτe, zuf_nj (by decide)]
  have te28 : τe 13 28 = τ 13 28 := by rw [hτe, zuf_nj (by decide)]
  have te22 : τe 22 = τ 22 := by rw [hτe, zuf_ne (by decide)]
  have hxE : r + q ≤ E → x = E := fun p => by rw [hx, if_neg (by rw [zlt]; rw [zle] at p; omega)]
  have hxW : ¬ r + q ≤ E → x = r + q := fun p => by rw [hx, if_pos (by rw [zlt]; rw [zle] at p; omega)]
  have hmul : ∀ z1 z2 : Int32, True := fun _ _ => trivial
  by_cases p1 : r ≤ τ 13 2
  · -- nothing new
    have p2 : r - τ 13 2 ≤ 0 := by rw [zle, hsub, zt0]; rw [zle] at p1; omega
    have p3 : r - τ 13 2 = 0 := by rw [zeq, hsub, zt0]; rw [zle] at p1; omega
    have p4 : τ 13 2 - τ 13 2 = 0 := by rw [zeq, zsub (by omega) (by omega), zt0]; omega
    simp only [if_pos p1, if_pos p2, if_pos p3]
    by_cases p5 : r + q ≤ E
    · have hxx := hxE p5
      have hτe' : zuf τ 13 6 E = τe := by rw [hτe, hxx]
      obtain ⟨m1, m2, m3, m4, m5⟩ := zmark (σ := σe) (τ := τe) a 0 0 A1 A2 ha0 ha1
      rw [han] at m2 m3 m5
      simp only [if_pos p5, hτe', ← hσe]
      generalize hU : f_S_markBlocks σe a = U at *
      generalize hV : l_M_arrives_92 a 0 0 ((((3 * a) + (τe 22 a.toInt.toNat)).toInt - (3 * a).toInt).toNat + 2) τe (3 * a) = V at *
      obtain ⟨M1, M2, M3, M4, M5, M6⟩ := m3
      have V2 : V 13 2 = τ 13 2 := by rw [m5 13 (by decide), te2]
      have hR' := M1.1.1
      have U2 : U 2 2 = V 13 2 := hR'.1
      have U3 : U 2 3 = V 13 3 := hR'.2.1
      obtain ⟨d1, d2, d3⟩ := zdup M1 M2
      rw [U2, U3]
      by_cases p6 : V 13 3 ≤ V 13 2
      · rw [if_pos p6, if_pos p6]
        refine ⟨⟨s1, fun y hy _ => ?_⟩, ⟨hva, hva, ⟨fun _ => ⟨hva, fun _ => ⟨m2, fun y hy w => absurd (by rw [hy]; exact p6) w⟩, fun w => absurd p1 w⟩, fun w => absurd p5 w⟩⟩, zAdv_trans hA ⟨M1, M2, M3, M4, M5, M6⟩, ?_⟩
        · rw [hy]
          refine ⟨s3, fun y4 hy4 => ?_⟩
          rw [hy4]
          refine ⟨fun _ => ⟨fun _ => ?_, fun w => absurd p2 w⟩, fun w => absurd p5 w⟩
          rw [← hx, ← hσe]
          refine ⟨m1, fun u hu _ hw => ?_⟩
          rw [hU] at hu
          exact absurd (by rw [hu, U2, U3]; exact p6) hw
        · rw [V2, p4]; exact p3
      · rw [if_neg p6, if_neg p6]
        refine ⟨⟨s1, fun y hy _ => ?_⟩, ⟨hva, hva, ⟨fun _ => ⟨hva, fun _ => ⟨m2, fun y hy _ _ _ => by rw [hy]; exact d2⟩, fun w => absurd p1 w⟩, fun w => absurd p5 w⟩⟩, zAdv_trans (zAdv_trans hA ⟨M1, M2, M3, M4, M5, M6⟩) d3, ?_⟩
        · rw [hy]
          refine ⟨s3, fun y4 hy4 => ?_⟩
          rw [hy4]
          refine ⟨fun _ => ⟨fun _ => ?_, fun w => absurd p2 w⟩, fun w => absurd p5 w⟩
          rw [← hx, ← hσe]
          refine ⟨m1, fun u hu _ hw => ?_⟩
          rw [hU] at hu
          rw [hu]
          exact d1
        · have e : zdupM V 13 2 = V 13 2 := by
            unfold zdupM f_M_recovers
            dsimp only [zlet]
            repeat' split
            all_goals simp [zuf_at]
          show r - τ 13 2 = zdupM V 13 2 - τ 13 2
          rw [e, V2, p4]; exact p3
    · have hxx := hxW p5
      have hτe' : zuf τ 13 6 (r + q) = τe := by rw [hτe, hxx]
      obtain ⟨m1, m2, m3, m4, m5⟩ := zmark (σ := σe) (τ := τe) a 1 0 A1 A2 ha0 ha1
      rw [han] at m2 m3 m5
      simp only [if_neg p5, hτe', ← hσe, ite_self]
      refine ⟨⟨s1, fun y hy _ => ?_⟩, ⟨hva, hva, ⟨fun w => absurd w p5, fun _ => ⟨hva, ⟨fun _ => ⟨hva, hva, m2⟩, fun w => absurd p1 w⟩⟩⟩⟩, zAdv_trans hA m3, ?_⟩
      · rw [hy]
        refine ⟨s3, fun y4 hy4 => ?_⟩
        rw [hy4]
        refine ⟨fun w => absurd w p5, fun _ => ⟨fun _ => ?_, fun w => absurd p2 w⟩⟩
        rw [← hx, ← hσe]
        exact m1
      · rw [m5 13 (by decide), te2, p4]; exact p3
  · have p1' := p1
    rw [zle] at p1'
    have p2 : ¬ r - τ 13 2 ≤ 0 := by rw [zle, hsub, zt0]; omega
    have p3 : ¬ r - τ 13 2 = 0 := by rw [zeq, hsub, zt0]; omega
    simp only [if_neg p1, if_neg p2, if_neg p3]
    obtain ⟨v1, v2, v3, v4⟩ := zadvAll A1 A2 r (by rw [te2]; omega) (by rw [te28]; omega)
    obtain ⟨B1, B2, B3, B4, B5, B6⟩ := v3
    by_cases p5 : r + q ≤ E
    · have hxx := hxE p5
      have hτe' : zuf τ 13 6 E = τe := by rw [hτe, hxx]
      obtain ⟨m1, m2, m3, m4, m5⟩ := zmark (σ := f_S_advanceTo σe r) (τ := f_M_advances τe r) a 0 1 B1 B2 ha0 ha1
      rw [han] at m2 m3 m5
      simp only [if_pos p5, hτe', ← hσe]
      refine ⟨⟨s1, fun y hy _ => ?_⟩, ⟨hva, hva, ⟨fun _ => ⟨hva, fun w => absurd w p1, fun _ => ⟨hva, v2, fun y hy => by rw [hy]; exact m2⟩⟩, fun w => absurd p5 w⟩⟩, zAdv_trans (zAdv_trans hA ⟨B1, B2, B3, B4, B5, B6⟩) m3, ?_⟩
      · rw [hy]
        refine ⟨s3, fun y4 hy4 => ?_⟩
        rw [hy4]
        refine ⟨fun _ => ⟨fun w => absurd w p2, fun _ => ?_⟩, fun w => absurd p5 w⟩
        rw [← hx, ← hσe]
        refine ⟨v1, fun u hu => ?_⟩
        rw [hu]
        exact ⟨m1, fun u2 hu2 w => absurd w p3⟩
      · rw [m5 13 (by decide), v4]
    · have hxx := hxW p5
      have hτe' : zuf τ 13 6 (r + q) = τe := by rw [hτe, hxx]
      obtain ⟨m1, m2, m3, m4, m5⟩ := zmark (σ := f_S_advanceTo σe r) (τ := f_M_advances τe r) a 1 1 B1 B2 ha0 ha1
      rw [han] at m2 m3 m5
      simp only [if_neg p5, hτe', ← hσe]
      refine ⟨⟨s1, fun y hy _ => ?_⟩, ⟨hva, hva, ⟨fun w => absurd w p5, fun _ => ⟨hva, ⟨fun w => absurd w p1, fun _ => ⟨hva, hva, hva, v2, fun y hy => by rw [hy]; exact m2⟩⟩⟩⟩⟩, zAdv_trans (zAdv_trans hA ⟨B1, B2, B3, B4, B5, B6⟩) m3, ?_⟩
      · rw [hy]
        refine ⟨s3, fun y4 hy4 => ?_⟩
        rw [hy4]
        refine ⟨fun w => absurd w p5, fun _ => ⟨fun w => absurd w p2, fun _ => ?_⟩⟩
        rw [← hx, ← hσe]
        refine ⟨v1, fun u hu => ?_⟩
        rw [hu]
        exact m1
      · rw [m5 13 (by decide), v4]
theorem op_deliverAck {k : Nat} {σ τ : zSt} (h : zRel σ τ) (b : zBnd k τ) (a : Int32) : k_X_deliverAck σ a ∧ k_M_deliverAck τ a ∧ zOp k σ τ (f_X_deliverAck σ a) (f_M_deliverAck τ a) := by
  have h' := h
  obtain ⟨hR, -, -, -, -, -, e11, -, hN, -, -⟩ := h'
  obtain ⟨⟨c2, -⟩, -⟩ := hR
  have b' := b
  obtain ⟨⟨g1, g2, g3, g4, g5, -⟩, ⟨b1, b2, b3, b4, b5, b6⟩, -⟩ := b'
  have hq : f_M_isAck τ a = 0 ↔ f_W_holds 11 σ a = 0 := zisAck e11 b5
  have han : a.toNatClampNeg = a.toInt.toNat := rfl
  unfold k_X_deliverAck k_M_deliverAck f_X_deliverAck f_M_deliverAck
  dsimp only [zlet, zseq]
  by_cases g : f_W_holds 11 σ a = 0
  · rw [if_pos g, if_pos (hq.mpr g), zfine1]
    dsimp only
    rw [if_pos rfl]
    refine ⟨fun r hr q => absurd (hr.trans g) q, fun r hr => ⟨fun _ r4 u5 hu q => absurd (Prod.mk.inj hu).1 q, fun q => absurd (hr.trans (hq.mpr g)) q⟩, zOp_refuse h b (by decide) 0 0⟩
  · have g2' : ¬ f_M_isAck τ a = 0 := fun q => g (hq.mp q)
    have gg := Classical.not_not.mp (fun q => g ((W_holds 11 σ a).1.mpr q))
    rw [e11] at gg
    obtain ⟨ga, gb⟩ := gg
    rw [if_neg g, if_neg g2', zfine0]
    dsimp only
    rw [if_neg (show ¬ (1 : Int32) = 0 by decide), han]
    obtain ⟨u, hu⟩ : ∃ u, u = zuf τ 13 0 0 := ⟨_, rfl⟩
    have u0 : u 13 0 = 0 := by rw [hu, zuf_eq]
    have u1 : ∀ i, i ≠ 13 → u i = τ i := fun i q => by rw [hu, zuf_ne q]
    have u2 : ∀ j, j ≠ 0 → u 13 j = τ 13 j := fun j q => by rw [hu, zuf_nj q]
    have hr : zRel σ u := zRel_of h (fun _ _ => rfl) (fun i q _ => u1 i (by omega)) (fun j q => u2 j q)
    have hb : zBnd k u := zBnd_of b (fun i q _ => u1 i (by omega)) (fun j q => u2 j q)
    rw [← hu]
    have hva : vp_in a 40 := zvin ga (by omega)
    by_cases p : u 20 a.toInt.toNat < u 13 2
    · rw [if_pos p]
      obtain ⟨s1, s2⟩ := W_cell11 (σ := σ) (a := a) (i := 0) ga (by omega) (by decide) (by decide)
      have z0 : (0 : Int32).toInt.toNat = 0 := rfl
      rw [z0, Nat.add_zero, (hN a.toInt.toNat (by omega)).1, ← u1 20 (by decide)] at s2
      have p1 : ¬ σ 2 2 ≤ u 20 a.toInt.toNat := by
        rw [c2, zle]
        rw [zlt, u2 2 (by decide)] at p
        omega
      have tA : f_S_takeAck σ a = (0, σ) := by
        unfold f_S_takeAck
        dsimp only [zlet]
        rw [s2, if_neg p1]
      have tK : k_S_takeAck σ a := by
        unfold k_S_takeAck
        refine ⟨s1, fun y hy w => ?_⟩
        rw [hy, s2] at w
        exact absurd w p1
      rw [tA]
      dsimp only
      obtain ⟨l1, l2, l3, l4, l5, l6, l7⟩ := zleave hr hb a ga (by rw [u2 38 (by decide)]; exact gb)
      refine ⟨fun r hr' _ => ⟨tK, fun x y hxy => by rw [(Prod.mk.inj hxy).2]; exact l1⟩, fun r hr' => ⟨fun q => absurd (hr'.symm.trans q) g2', fun _ r4 u5 hu5 _ => ?_⟩, ?_, fun _ => ?_, l3, l4, fun i q => l5 i (by omega) (by omega), fun i q => ?_⟩
      · rw [(Prod.mk.inj hu5).2]
        exact ⟨hva, fun _ => l2, fun w => absurd p w⟩
      · show f_M_leaves u a 13 0 = 0
        rw [l7 0 (by decide)]; exact u0
      · show (0 : Int32) = f_M_leaves u a 13 2 - u 13 2
        rw [l7 2 (by decide), zeq, zsub (by omega) (by omega), zt0]
        omega
      · show f_M_leaves u a i = τ i
        rw [l6 i (by omega) (by omega) (by omega) (by omega) (by omega) (by omega), u1 i (by omega)]
    · rw [if_neg p]
      obtain ⟨t1, t2, t3, t4⟩ := zarrive hr hb a ga (by omega) p
      obtain ⟨A1, A2, A3, A4, A5, A6⟩ := t3
      generalize hS : f_S_takeAck σ a = S at *
      obtain ⟨rr, S⟩ := S
      dsimp only at t4 A1 A3 ⊢
      generalize hT : f_M_arrives u a = T at *
      obtain ⟨l1, l2, l3, l4, l5, l6, l7⟩ := zleave A1 A2 a ga (by rw [A6, u2 38 (by decide)]; exact gb)
      refine ⟨fun r hr' _ => ⟨t1, fun x y hxy => by rw [(Prod.mk.inj hxy).2]; exact l1⟩, fun r hr' => ⟨fun q => absurd (hr'.symm.trans q) g2', fun _ r4 u5 hu5 _ => ?_⟩, ?_, fun _ => ?_, l3, l4, fun i q => ?_, fun i q => ?_⟩
      · rw [(Prod.mk.inj hu5).2]
        exact ⟨hva, fun w => absurd w p, fun _ => ⟨t2, fun v hv => by rw [hv, hT]; exact l2⟩⟩
      · show f_M_leaves T a 13 0 = 0
        rw [l7 0 (by decide), A5]; exact u0
      · show rr = f_M_leaves T a 13 2 - u 13 2
        rw [l7 2 (by decide)]; exact t4
      · show f_W_remove 11 S a i = σ i
        rw [l5 i (by omega) (by omega), A3 i (by omega) (by omega) (by omega)]
      · show f_M_leaves T a i = τ i
        rw [l6 i (by omega) (by omega) (by omega) (by omega) (by omega) (by omega), A4 i (by omega) (by omega), u1 i (by omega)]
