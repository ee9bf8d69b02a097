set_option maxHeartbeats 2000000 in
theorem zadvance {k : Nat} {σ τ : zSt} (h : zRel σ τ) (b : zBnd k τ) (r : Int32) (hr : (τ 13 2).toInt ≤ r.toInt) (hrh : r.toInt ≤ (τ 13 4).toInt) : (k_P_empty 3 σ (σ 2 2) r ∧ (∀ u3, u3 = f_P_empty 3 σ (σ 2 2) r → u3 2 11 = -1 → k_S_growCongestion (zuf (zuf (zuf u3 2 2 r) 2 3 (if (u3 2 3) < r then r else u3 2 3)) 2 10 0))) ∧ (∀ r2, r2 = f_M_greater (zuf τ 13 2 r) (τ 13 3) r → (kl_M_advances_56 (((((zuf (zuf τ 13 2 r) 13 3 r2) 13 2)).toInt - (0 : Int32).toInt).toNat + 2) (zuf (zuf τ 13 2 r) 13 3 r2) 0 ∧ ∀ r6, r6 = l_M_advances_56 (((((zuf (zuf τ 13 2 r) 13 3 r2) 13 2)).toInt - (0 : Int32).toInt).toNat + 2) (zuf (zuf τ 13 2 r) 13 3 r2) 0 → (r6 13 10 = 0 → (r6 13 8 ≤ r6 13 7 → ¬ r6 13 7 = 0)))) ∧ zAdv k σ τ (zadvC σ r) (zadvM τ r) := by
  have hR := h.1
  obtain ⟨⟨c2, c3, c4, c5, c6, c7, c8, c9, c10, c11, c12, c13, c14⟩, d0, d1, d2, d3, d4, d5, d6, d7⟩ := hR
  have b' := b
  obtain ⟨⟨g1, g2, g3, g4, g5, g6, g7, g8, g9, g10, g11, g12⟩, -, bM, -⟩ := b'
  obtain ⟨N, hN⟩ : ∃ N, N = zmx (τ 13 3) r := ⟨_, rfl⟩
  obtain ⟨k1, k2⟩ := P_empty 3 σ (τ 13 2) r g1 (by omega)
  obtain ⟨τ0, hτ0⟩ : ∃ u, u = zuf (zuf τ 13 2 r) 13 3 N := ⟨_, rfl⟩
  have t02 : τ0 13 2 = r := by rw [hτ0, zuf_nj (by decide), zuf_eq]
  obtain ⟨k3, k4⟩ := l_advances (((τ0 13 2).toInt - (0 : Int32).toInt).toNat + 2) τ0 0 (by rw [zt0]; omega) (by rw [t02]; omega) (by omega)
  rw [t02] at k4
  have k4' : l_M_advances_56 ((r.toInt - (0 : Int32).toInt).toNat + 2) τ0 0 = zclr τ0 15 0 r.toInt := by rw [k4, zt0]
  obtain ⟨B, hB⟩ : ∃ B, B = zclr σ 4 (τ 13 2).toInt r.toInt := ⟨_, rfl⟩
  obtain ⟨C, hC⟩ : ∃ C, C = zclr τ0 15 0 r.toInt := ⟨_, rfl⟩
  have k2' : f_P_empty 3 σ (τ 13 2) r = B := by rw [k2, hB]
  have B2 : ∀ j, B 2 j = σ 2 j := fun j => by rw [hB, zclr_ne (by decide)]
  have B5 : ∀ j, B 5 j = σ 5 j := fun j => by rw [hB, zclr_ne (by decide)]
  have B4 : ∀ j : Nat, B 4 j = if (τ 13 2).toInt ≤ (j : Int) ∧ (j : Int) < r.toInt then 0 else σ 4 j := fun j => by
    rw [hB]
    unfold zclr
    by_cases q : (τ 13 2).toInt ≤ (j : Int) ∧ (j : Int) < r.toInt
    · rw [if_pos ⟨rfl, q⟩, if_pos q]
    · rw [if_neg (fun w => q w.2), if_neg q]
  have BF : ∀ i, i ≠ 4 → B i = σ i := fun i q => by rw [hB, zclr_ne q]
  have C2 : C 13 2 = r := by rw [hC, zclr_ne (by decide), t02]
  have C3 : C 13 3 = N := by rw [hC, zclr_ne (by decide), hτ0, zuf_eq]
  have CO : ∀ j, j ≠ 2 → j ≠ 3 → C 13 j = τ 13 j := fun j p1 p2 => by rw [hC, zclr_ne (by decide), hτ0, zuf_nj p2, zuf_nj p1]
  have C15 : ∀ j : Nat, C 15 j = if (j : Int) < r.toInt then 0 else τ 15 j := fun j => by
    rw [hC]
    unfold zclr
    by_cases q : (j : Int) < r.toInt
    · rw [if_pos ⟨rfl, by omega, q⟩, if_pos q]
    · rw [if_neg (fun w => q w.2.2), if_neg q, hτ0, zuf_ne (by decide), zuf_ne (by decide)]
  have CF : ∀ i, i ≠ 13 → i ≠ 15 → C i = τ i := fun i p1 p2 => by rw [hC, zclr_ne p2, hτ0, zuf_ne p1, zuf_ne p1]
  have C7 := CO 7 (by decide) (by decide)
  have C8 := CO 8 (by decide) (by decide)
  have C10 := CO 10 (by decide) (by decide)
  have C11 := CO 11 (by decide) (by decide)
  have C1 := CO 1 (by decide) (by decide)
  have C14 := CO 14 (by decide) (by decide)
  obtain ⟨G, hG⟩ : ∃ G, G = zuf (zuf (zuf B 2 2 r) 2 3 N) 2 10 0 := ⟨_, rfl⟩
  have G2 : G 2 2 = r ∧ G 2 3 = N ∧ G 2 4 = σ 2 4 ∧ G 2 5 = σ 2 5 ∧ G 2 6 = σ 2 6 ∧ G 2 7 = σ 2 7 ∧ G 2 8 = σ 2 8 ∧ G 2 9 = σ 2 9 ∧ G 2 10 = 0 ∧ G 2 11 = σ 2 11 ∧ G 2 12 = σ 2 12 ∧ G 2 13 = σ 2 13 ∧ G 2 14 = σ 2 14 := by
    rw [hG]
    simp [zuf_at, B2]
  have GF : ∀ i, i ≠ 2 → G i = B i := fun i p => by rw [hG, zuf_ne p, zuf_ne p, zuf_ne p]
  have G5 : ∀ j, G 5 j = σ 5 j := fun j => by rw [GF 5 (by decide), B5]
  have G4 : ∀ j, G 4 j = B 4 j := fun j => by rw [GF 4 (by decide)]
  obtain ⟨G22, G23, G24, G25, G26, G27, G28, G29, G210, G211, G212, G213, G214⟩ := G2
  obtain ⟨w1, w2⟩ := zgrow G (by rw [G27, c7]; exact g6)
  rw [G27, G28, c7, c8] at w2
  have hcc := zgc_in (t := τ 13 8) (c := τ 13 7) g6 g7
  have hM : ∀ t c : Int32, (if t ≤ c then zmn (c + zmx (16 / c) 1) 256 else zmn (c + 4) 256) = zgc t c := fun t c => rfl
  have hg : f_M_greater (zuf τ 13 2 r) (τ 13 3) r = N := by rw [zgreater, hN]
  refine ⟨⟨by rw [c2]; exact k1, fun u3 hu _ => ?_⟩, fun r2 hr2 => ?_, ?_⟩
  · rw [c2, k2'] at hu
    rw [hu, zmx_lt, B2, c3, ← hN, ← hG]
    exact w1
  · rw [hg] at hr2
    rw [hr2, ← hτ0]
    refine ⟨k3, fun r6 hr6 _ _ => ?_⟩
    rw [hr6, t02, k4', ← hC, C7, zeq, zt0]
    omega
  · have eM : zadvM τ r = (if τ 13 10 = 0 then (if r = N then zuf (zuf (zuf C 13 13 0) 13 7 (zgc (τ 13 8) (τ 13 7))) 13 15 (-1) else zuf (zuf (zuf C 13 13 0) 13 7 (zgc (τ 13 8) (τ 13 7))) 13 15 (τ 13 1 + τ 13 14)) else (if r < τ 13 11 then (if r = N then zuf (zuf C 13 13 0) 13 15 (-1) else zuf (zuf C 13 13 0) 13 15 (τ 13 1 + τ 13 14)) else (if r = N then zuf (zuf (zuf (zuf C 13 13 0) 13 10 0) 13 7 (τ 13 8)) 13 15 (-1) else zuf (zuf (zuf (zuf C 13 13 0) 13 10 0) 13 7 (τ 13 8)) 13 15 (τ 13 1 + τ 13 14)))) := by
      unfold zadvM zgc
      dsimp only [zlet]
      rw [hg, ← hτ0, t02, k4', ← hC]
      simp only [C2, C3, C1, C7, C8, C10, C11, C14, zgreater, zlesser]
      by_cases q : τ 13 8 ≤ τ 13 7
      · simp only [if_pos q]
      · simp only [if_neg q]
    have eC : zadvC σ r = (if σ 2 11 = -1 then (if r = N then zuf (zuf G 2 7 (zgc (τ 13 8) (τ 13 7))) 5 2 (-1) else zuf (zuf G 2 7 (zgc (τ 13 8) (τ 13 7))) 5 2 (τ 13 1 + τ 13 14)) else (if r < σ 2 11 then (if r = N then zuf G 5 2 (-1) else zuf G 5 2 (τ 13 1 + τ 13 14)) else (if r = N then zuf (zuf (zuf G 2 11 (-1)) 2 7 (τ 13 8)) 5 2 (-1) else zuf (zuf (zuf G 2 11 (-1)) 2 7 (τ 13 8)) 5 2 (τ 13 1 + τ 13 14)))) := by
      unfold zadvC f_T_stop f_T_startAnew
      dsimp only [zlet]
      rw [c2, k2']
      simp only [zmx_lt, B2, c3, ← hN, ← hG, w2]
      simp [zuf_at, G22, G23, G5, d0, d1, c8]
    rw [eM, eC]
    by_cases q1 : τ 13 10 = 0
    · rw [if_pos q1] at c11 ⊢
      rw [if_pos c11]
      by_cases q2 : r = N
      · rw [if_pos q2, if_pos q2]
        refine zadv_fin h b r N (zgc (τ 13 8) (τ 13 7)) 0 (-1) (-1) hr hrh hN ?_ (fun j => ?_) (fun j => ?_) (fun i p1 p2 p3 => ?_) ?_ (fun j p1 p2 p3 p4 p5 p6 => ?_) (fun j => ?_) (fun i p1 p2 => ?_) rfl hcc
        · simp [zuf_at, G22, G23, G24, G25, G26, G28, G29, G210, G211, G212, G213, G214, c11]
        · simp [zuf_at, G5]
        · simp [zuf_at, G4, B4]
        · simp [zuf_ne, p1, p3, GF i p1, BF i p2]
        · simp [zuf_at, C2, C3, C10, q1]
        · simp [zuf_at, p3, p4, p5, p6, CO j p1 p2]
        · simp [zuf_at, C15]
        · simp [zuf_ne, p1, CF i p1 p2]
      · rw [if_neg q2, if_neg q2]
        refine zadv_fin h b r N (zgc (τ 13 8) (τ 13 7)) 0 (-1) (τ 13 1 + τ 13 14) hr hrh hN ?_ (fun j => ?_) (fun j => ?_) (fun i p1 p2 p3 => ?_) ?_ (fun j p1 p2 p3 p4 p5 p6 => ?_) (fun j => ?_) (fun i p1 p2 => ?_) rfl hcc
        · simp [zuf_at, G22, G23, G24, G25, G26, G28, G29, G210, G211, G212, G213, G214, c11]
        · simp [zuf_at, G5]
        · simp [zuf_at, G4, B4]
        · simp [zuf_ne, p1, p3, GF i p1, BF i p2]
        · simp [zuf_at, C2, C3, C10, q1]
        · simp [zuf_at, p3, p4, p5, p6, CO j p1 p2]
        · simp [zuf_at, C15]
        · simp [zuf_ne, p1, CF i p1 p2]
    · rw [if_neg q1] at c11 ⊢
      have q3 : ¬ σ 2 11 = -1 := by rw [c11]; exact zne1 g12
      rw [if_neg q3, c11]
      by_cases q4 : r < τ 13 11
      · rw [if_pos q4, if_pos q4]
        by_cases q2 : r = N
        · rw [if_pos q2, if_pos q2]
          refine zadv_fin h b r N (τ 13 7) (τ 13 10) (τ 13 11) (-1) hr hrh hN ?_ (fun j => ?_) (fun j => ?_) (fun i p1 p2 p3 => ?_) ?_ (fun j p1 p2 p3 p4 p5 p6 => ?_) (fun j => ?_) (fun i p1 p2 => ?_) (by rw [if_neg q1]) ⟨g6, g7⟩
          · simp [zuf_at, G22, G23, G24, G25, G26, G27, G28, G29, G210, G211, G212, G213, G214, c11, c7]
          · simp [zuf_at, G5]
          · simp [zuf_at, G4, B4]
          · simp [zuf_ne, p1, p3, GF i p1, BF i p2]
          · simp [zuf_at, C2, C3, C10, C7]
          · simp [zuf_at, p3, p4, p5, p6, CO j p1 p2]
          · simp [zuf_at, C15]
          · simp [zuf_ne, p1, CF i p1 p2]
        · rw [if_neg q2, if_neg q2]
          refine zadv_fin h b r N (τ 13 7) (τ 13 10) (τ 13 11) (τ 13 1 + τ 13 14) hr hrh hN ?_ (fun j => ?_) (fun j => ?_) (fun i p1 p2 p3 => ?_) ?_ (fun j p1 p2 p3 p4 p5 p6 => ?_) (fun j => ?_) (fun i p1 p2 => ?_) (by rw [if_neg q1]) ⟨g6, g7⟩
          · simp [zuf_at, G22, G23, G24, G25, G26, G27, G28, G29, G210, G211, G212, G213, G214, c11, c7]
          · simp [zuf_at, G5]
          · simp [zuf_at, G4, B4]
          · simp [zuf_ne, p1, p3, GF i p1, BF i p2]
          · simp [zuf_at, C2, C3, C10, C7]
          · simp [zuf_at, p3, p4, p5, p6, CO j p1 p2]
          · simp [zuf_at, C15]
          · simp [zuf_ne, p1, CF i p1 p2]
      · rw [if_neg q4, if_neg q4]
        by_cases q2 : r = N
        · rw [if_pos q2, if_pos q2]
          refine zadv_fin h b r N (τ 13 8) 0 (-1) (-1) hr hrh hN ?_ (fun j => ?_) (fun j => ?_) (fun i p1 p2 p3 => ?_) ?_ (fun j p1 p2 p3 p4 p5 p6 => ?_) (fun j => ?_) (fun i p1 p2 => ?_) rfl ⟨by omega, g9⟩
          · simp [zuf_at, G22, G23, G24, G25, G26, G27, G28, G29, G210, G211, G212, G213, G214]
          · simp [zuf_at, G5]
          · simp [zuf_at, G4, B4]
          · simp [zuf_ne, p1, p3, GF i p1, BF i p2]
          · simp [zuf_at, C2, C3]
          · simp [zuf_at, p3, p4, p5, p6, CO j p1 p2]
          · simp [zuf_at, C15]
          · simp [zuf_ne, p1, CF i p1 p2]
        · rw [if_neg q2, if_neg q2]
          refine zadv_fin h b r N (τ 13 8) 0 (-1) (τ 13 1 + τ 13 14) hr hrh hN ?_ (fun j => ?_) (fun j => ?_) (fun i p1 p2 p3 => ?_) ?_ (fun j p1 p2 p3 p4 p5 p6 => ?_) (fun j => ?_) (fun i p1 p2 => ?_) rfl ⟨by omega, g9⟩
          · simp [zuf_at, G22, G23, G24, G25, G26, G27, G28, G29, G210, G211, G212, G213, G214]
          · simp [zuf_at, G5]
          · simp [zuf_at, G4, B4]
          · simp [zuf_ne, p1, p3, GF i p1, BF i p2]
          · simp [zuf_at, C2, C3]
          · simp [zuf_at, p3, p4, p5, p6, CO j p1 p2]
          · simp [zuf_at, C15]
          · simp [zuf_ne, p1, CF i p1 p2]
