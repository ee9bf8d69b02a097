/-! a send -/
theorem op_send {k : Nat} {σ τ : zSt} (h : zRel σ τ) (b : zBnd k τ) : k_X_send σ ∧ k_M_send τ ∧ zOp k σ τ (f_X_send σ) (f_M_send τ) := by
  have h' := h
  obtain ⟨-, -, -, -, -, e9, -⟩ := h'
  have b' := b
  obtain ⟨-, ⟨-, -, b3, b4, -⟩, -⟩ := b'
  unfold k_X_send f_X_send
  dsimp only [zlet, zseq]
  by_cases g40 : τ 13 32 = 40
  · have g40' : (τ 13 32).toInt = 40 := by rw [g40]; rfl
    have g5 : ¬ f_W_isFull 9 σ = 0 := by
      unfold f_W_isFull
      rw [if_neg (by rw [zlt, e9, zt40]; omega)]
      decide
    rw [if_neg g5]
    have fM : f_M_send τ = (0, zuf τ 13 0 1) := by
      unfold f_M_send
      rw [if_pos g40, zfine1]
      rfl
    rw [fM]
    refine ⟨fun r hr q => absurd (hr.symm.trans q) g5, ?_, zOp_refuse h b (by decide) 0 0⟩
    unfold k_M_send
    exact ⟨fun _ r u hu q => absurd (zf1 hu) q, fun q => absurd g40 q⟩
  · have g40' : (τ 13 32).toInt ≠ 40 := fun q => g40 (by rw [zeq, zt40]; exact q)
    have g5 : f_W_isFull 9 σ = 0 := by
      unfold f_W_isFull
      rw [if_pos (by rw [zlt, e9, zt40]; omega)]
    rw [if_pos g5]
    obtain ⟨u, hu⟩ : ∃ u, u = zuf τ 13 0 0 := ⟨_, rfl⟩
    have u0 : u 13 0 = 0 := by rw [hu, zuf_eq]
    have u1 : ∀ i, i ≠ 13 → u i = τ i := fun i q => by rw [hu, zuf_ne q]
    have u2 : ∀ j, j ≠ 0 → u 13 j = τ 13 j := fun j q => by rw [hu, zuf_nj q]
    have hr : zRel σ u := zRel_of h (fun _ _ => rfl) (fun i q _ => u1 i (by omega)) (fun j q => u2 j q)
    have hb : zBnd k u := zBnd_of b (fun i q _ => u1 i (by omega)) (fun j q => u2 j q)
    have fM : f_M_send τ = (if u 13 10 = 0 then zfrM u else zlet (f_M_hole u) (fun r52 => if r52 = -1 then zfrM u else zlet (f_M_lesser u (r52 + 4) (u 13 3)) (fun r96 => zlet (f_M_markOr u r52 r96) (fun r98 => f_M_sends (zuf u 13 12 r98) r52 r98)))) := by
      unfold f_M_send
      rw [if_neg g40, zfine0, hu]
      rfl
    have fK : ((u 13 10 = 0 → kfrM u) ∧ (¬ u 13 10 = 0 → (k_M_hole u ∧ ∀ r52, r52 = f_M_hole u → ((r52 = -1 → kfrM u) ∧ (¬ r52 = -1 → ∀ r96, r96 = f_M_lesser u (r52 + 4) (u 13 3) → (k_M_markOr u r52 r96 ∧ ∀ r98, r98 = f_M_markOr u r52 r96 → k_M_sends (zuf u 13 12 r98) r52 r98)))))) → k_M_send τ := by
      intro hk
      unfold k_M_send
      refine ⟨fun q => absurd q g40, fun _ r v hv q => ?_⟩
      rw [(zf0 hv).2, ← hu]
      exact hk
    have fS : f_S_sendInto σ = zlet (f_S_startOfRepair σ) (fun r1 => if r1 = -1 then zfrC σ else zlet (f_S_endOfRun σ r1 (σ 2 3)) (fun r18 => if r18 ≤ r1 then (r18 - r1, zuf σ 2 12 r18) else zput (zuf σ 2 12 r18) r1 r18)) := rfl
    have fKS : k_S_sendInto σ = (k_S_startOfRepair σ ∧ ∀ r1, r1 = f_S_startOfRepair σ → ((r1 = -1 → kfrC σ) ∧ (¬ r1 = -1 → (k_S_endOfRun σ r1 (σ 2 3) ∧ ∀ r18, r18 = f_S_endOfRun σ r1 (σ 2 3) → (¬ r18 ≤ r1 → kput (zuf σ 2 12 r18) r1 r18))))) := rfl
    have main : k_S_sendInto σ ∧ k_M_send τ ∧ zSd k σ u (f_S_sendInto σ) (f_M_send τ) := by
      rw [fM, fS, fKS]
      have hr' := hr
      obtain ⟨⟨⟨c2, c3, c4, c5, c6, c7, c8, c9, c10, c11, c12, c13, c14⟩, d0, d1, d2, d3, d4, d5, d6, d7⟩, rM, -⟩ := hr'
      have hb' := hb
      obtain ⟨⟨g1, g2, g3, g4, g5, g6, g7, g8, g9, g10, g11, g12⟩, -, bM, -⟩ := hb'
      obtain ⟨z1, z2, z3⟩ := zfresh hr hb (by rw [u2 32 (by decide)]; omega) u0
      dsimp only [zlet]
      by_cases q1 : u 13 10 = 0
      · rw [if_pos q1] at c11 ⊢
        have q2 : f_S_startOfRepair σ = -1 := by
          unfold f_S_startOfRepair
          rw [if_pos c11]
        have q3 : k_S_startOfRepair σ := by
          unfold k_S_startOfRepair
          exact fun q => absurd c11 q
        rw [if_pos q2]
        exact ⟨⟨q3, fun r hr => ⟨fun _ => z1, fun q => absurd (hr.trans q2) q⟩⟩, fK ⟨fun _ => z2, fun q => absurd q1 q⟩, z3⟩
      · rw [if_neg q1] at c11 ⊢
        have q4 : ¬ σ 2 11 = -1 := by rw [c11]; exact zne1 g12
        obtain ⟨r1, r2, r3, r4⟩ := zrepair rM bM c2 c3 c4 q4 c12 g1 g2 g3 (by omega) g4 g5
        rw [r3]
        generalize hH : f_M_hole u = r at *
        by_cases q5 : r = -1
        · rw [if_pos q5, if_pos q5]
          exact ⟨⟨r1, fun x hx => ⟨fun _ => z1, fun q => absurd (hx.trans q5) q⟩⟩, fK ⟨fun q => absurd q q1, fun _ => ⟨r2, fun x hx => ⟨fun _ => z2, fun q => absurd (hx.trans q5) q⟩⟩⟩, z3⟩
        · rw [if_neg q5, if_neg q5]
          obtain ⟨r5, r6, r7⟩ := r4.resolve_left q5
          have hr4 : (r + 4).toInt = r.toInt + 4 := by
            rw [zadd (by rw [zt4]; omega) (by rw [zt4]; omega), zt4]
          obtain ⟨y, hy⟩ : ∃ y, y = zmn (u 13 3) (r + 4) := ⟨_, rfl⟩
          have hyb : r.toInt < y.toInt ∧ y.toInt ≤ (u 13 3).toInt := by
            rw [hy, zmn_t]; split <;> omega
          have fE : f_S_endOfRun σ r (σ 2 3) = f_P_firstFilled 3 σ r y := by
            unfold f_S_endOfRun
            dsimp only [zlet]
            rw [zmn_lt, c3, ← hy]
          have fL : f_M_lesser u (r + 4) (u 13 3) = y := by
            rw [zlesser, zmn_comm, hy]
          have fKE : k_S_endOfRun σ r (σ 2 3) := by
            unfold k_S_endOfRun
            exact (firstFilled 3 σ _ _).1
          obtain ⟨i1, i2⟩ := firstFilled 3 σ r y
          obtain ⟨i3, i4⟩ := markOr u r y (by omega) (by omega)
          have hA : ∀ p, zA0 (σ (3 + 1)) p = zA0 (u 15) p := fun p => zA0_eq rM p
          have i5 : f_P_firstFilled 3 σ r y = f_M_markOr u r y := zeq.mpr (zFst_uniq (zFst_iff i2 (fun p _ _ => by rw [hA])) i4)
          rw [fE, fL, i5]
          generalize hee : f_M_markOr u r y = e at *
          obtain ⟨l1, l2, l3, l4⟩ := i4
          have hev : r.toInt < e.toInt := by
            by_cases p : r.toInt = e.toInt
            · have p2 := l4 (by omega)
              rw [← p] at p2
              exact absurd r7 p2
            · omega
          have hev' : ¬ e ≤ r := by rw [zle]; omega
          rw [if_neg hev']
          have eS : ∀ j, j ≠ 12 → zuf σ 2 12 e 2 j = σ 2 j := fun j q => zuf_nj q
          have eT : ∀ j, j ≠ 12 → zuf u 13 12 e 13 j = u 13 j := fun j q => zuf_nj q
          have eS12 : zuf σ 2 12 e 2 12 = e := zuf_eq
          have eT12 : zuf u 13 12 e 13 12 = e := zuf_eq
          have hR : zRS (zuf σ 2 12 e 2) (zuf σ 2 12 e 5) (zuf u 13 12 e 13) := by
            rw [zuf_ne (show (5 : Nat) ≠ 2 by decide)]
            unfold zRS
            rw [eS 2 (by decide), eS 3 (by decide), eS 4 (by decide), eS 5 (by decide), eS 6 (by decide), eS 7 (by decide), eS 8 (by decide), eS 9 (by decide), eS 10 (by decide), eS 11 (by decide), eS12, eS 13 (by decide), eS 14 (by decide), eT 1 (by decide), eT 2 (by decide), eT 3 (by decide), eT 4 (by decide), eT 5 (by decide), eT 6 (by decide), eT 7 (by decide), eT 8 (by decide), eT 9 (by decide), eT 10 (by decide), eT 11 (by decide), eT12, eT 13 (by decide), eT 14 (by decide), eT 15 (by decide), eT 16 (by decide), eT 17 (by decide), eT 18 (by decide), eT 19 (by decide), eT 20 (by decide), eT 21 (by decide), eT 22 (by decide)]
            exact ⟨⟨c2, c3, c4, c5, c6, c7, c8, c9, c10, by rw [if_neg q1]; exact c11, rfl, c13, c14⟩, d0, d1, d2, d3, d4, d5, d6, d7⟩
          obtain ⟨m1, m2, m3⟩ := send_done (σa := zuf σ 2 12 e) (τa := zuf u 13 12 e) r e hr hb (by rw [u2 32 (by decide)]; omega) hR (fun i q => zuf_ne q) (fun i q => zuf_ne q) (fun j p1 p2 p3 => eT j p3) (by rw [eT 0 (by decide)]; exact u0) (by omega) (by rw [eT 3 (by decide)]; exact g2) (by rw [eT 3 (by decide)]; omega) (by rw [eT 3 (by decide)]; omega)
          refine ⟨⟨r1, fun x hx => ⟨fun q => absurd (hx.symm.trans q) q5, fun _ => ?_⟩⟩, fK ⟨fun q => absurd q q1, fun _ => ⟨r2, fun x hx => ⟨fun q => absurd (by rw [← hx]; exact q) q5, fun _ r96 hr96 => ?_⟩⟩⟩, m3⟩
          · rw [hx]
            refine ⟨fKE, fun x hx _ => ?_⟩
            rw [fE, i5] at hx
            rw [hx]
            exact m1
          · rw [hx] at hr96 ⊢
            rw [fL] at hr96
            rw [hr96]
            refine ⟨i3, fun x hx => ?_⟩
            rw [hee] at hx
            rw [hx]
            exact m2
    obtain ⟨m1, m2, m3, m4, m5, m6, m7, m8⟩ := main
    exact ⟨fun _ _ _ => m1, m2, m8, fun _ => m3, m4, m5, m6, fun i q => by rw [m7 i q, u1 i (by omega)]⟩
/-! the timer runs out -/
theorem zBnd_same {k : Nat} {τ τ' : zSt} (h : zBnd k τ) (hs : zBS k (τ' 13)) (hm : zBM (τ' 15) (τ' 13)) (hh : (τ' 13 4) = (τ 13 4)) (e2 : ∀ i, 14 ≤ i → i < 25 → i ≠ 15 → τ' i = τ i) (e3 : ∀ j, 23 ≤ j → τ' 13 j = τ 13 j) : zBnd k τ' := by
  obtain ⟨-, ht, -, w⟩ := h
  refine ⟨hs, ?_, hm, ?_⟩
  · unfold zBT at ht ⊢
    rw [e3 27 (by decide), e3 32 (by decide), e3 38 (by decide)]
    exact ht
  · unfold zBR at w ⊢
    rw [hh, e3 28 (by decide), e2 17 (by decide) (by decide) (by decide), e2 18 (by decide) (by decide) (by decide), e2 19 (by decide) (by decide) (by decide), e2 20 (by decide) (by decide) (by decide), e2 22 (by decide) (by decide) (by decide), e2 23 (by decide) (by decide) (by decide), e2 24 (by decide) (by decide) (by decide)]
    exact w
theorem zhalf {σ τ : zSt} (h : zRel σ τ) {k : Nat} (b : zBnd k τ) : k_S_halfOfFlying σ ∧ k_M_flight τ ∧ f_S_halfOfFlying σ = zmx (f_M_flight τ / 2) 8 ∧ 8 ≤ (zmx (f_M_flight τ / 2) 8).toInt ∧ (zmx (f_M_flight τ / 2) 8).toInt ≤ 300 := by
  obtain ⟨⟨⟨c2, c3, -⟩, -⟩, rM, -⟩ := h
  obtain ⟨⟨g1, g2, g3, g4, g5, -⟩, -⟩ := b
  obtain ⟨f1, f2, f3, f4, f5⟩ := zflight σ τ rM c2 c3 g1 (by omega) (by omega)
  have hd : (f_M_flight τ / 2).toInt = (f_M_flight τ).toInt / 2 := by
    rw [zdiv f4 (by decide), zt2]
  refine ⟨f1, f2, ?_, ?_, ?_⟩
  · unfold f_S_halfOfFlying
    dsimp only [zlet]
    rw [f3, zmx_lt, zmx_comm]
  · rw [zmx_t, zt8]; split <;> omega
  · rw [zmx_t, zt8, hd]; split <;> omega
theorem zover {k : Nat} {σ τ : zSt} (h : zRel σ τ) (b : zBnd k τ) : k_S_startOver σ ∧ k_M_runsOut τ ∧ zRel (f_S_startOver σ) (f_M_runsOut τ) ∧ zBnd k (f_M_runsOut τ) ∧ (∀ i, i ≠ 2 → i ≠ 4 → i ≠ 5 → f_S_startOver σ i = σ i) ∧ (∀ i, i ≠ 13 → i ≠ 15 → f_M_runsOut τ i = τ i) ∧ f_M_runsOut τ 13 1 = τ 13 1 ∧ f_M_runsOut τ 13 0 = τ 13 0 := by
  have h' := h
  obtain ⟨⟨⟨c2, c3, c4, c5, c6, c7, c8, c9, c10, c11, c12, c13, c14⟩, d0, d1, d2, d3, d4, d5, d6, d7⟩, rM, -⟩ := h'
  have b' := b
  obtain ⟨⟨g1, g2, g3, g4, g5, g6, g7, g8, g9, g10, g11, g12⟩, -, bM, -⟩ := b'
  obtain ⟨f1, f2, f3, f4, f5⟩ := zhalf h b
  obtain ⟨t, ht⟩ : ∃ t, t = zmx (f_M_flight τ / 2) 8 := ⟨_, rfl⟩
  rw [← ht] at f3 f4 f5
  obtain ⟨τ1, hτ1⟩ : ∃ u, u = zuf (zuf (zuf τ 13 8 t) 13 7 4) 13 14 (zmn (2 * τ 13 14) 64) := ⟨_, rfl⟩
  obtain ⟨l1, l2⟩ := l_runsOut (((600 : Int32).toInt - (0 : Int32).toInt).toNat + 2) τ1 0 (by rw [zt0]; omega) (by rw [zt600, zt0]; decide)
  obtain ⟨σ1, hσ1⟩ : ∃ u, u = zuf (zuf (zuf (zuf (zuf σ 2 8 t) 2 7 4) 5 1 (zmn (2 * σ 5 1) 64)) 5 3 (-1)) 5 2 (-1) := ⟨_, rfl⟩
  have s22 : σ1 2 2 = τ 13 2 := by rw [hσ1]; simp [zuf_at, c2]
  have s24 : σ1 2 4 = τ 13 4 := by rw [hσ1]; simp [zuf_at, c4]
  obtain ⟨l3, l4⟩ := P_empty 3 σ1 (σ1 2 2) (σ1 2 4) (by rw [s22]; exact g1) (by rw [s24]; omega)
  have hS : f_S_startOver σ = zuf (zuf (zuf (zclr σ1 4 (τ 13 2).toInt (τ 13 4).toInt) 2 3 (τ 13 2)) 2 11 (-1)) 2 10 0 := by
    unfold f_S_startOver f_T_backOff f_T_stop f_T_forgetTiming
    dsimp only [zlet]
    rw [f3]
    have q : zuf (zuf (zuf (zuf (zuf σ 2 8 t) 2 7 4) 5 1 (if 2 * (zuf (zuf σ 2 8 t) 2 7 4 5 1) < 64 then 2 * (zuf (zuf σ 2 8 t) 2 7 4 5 1) else 64)) 5 3 (-1)) 5 2 (-1) = σ1 := by
      rw [hσ1, zmn_lt]
      rfl
    rw [q, l4, s22, s24]
    have q2 : zclr σ1 (3 + 1) (τ 13 2).toInt (τ 13 4).toInt 2 2 = τ 13 2 := by
      rw [zclr_ne (by decide)]; exact s22
    rw [q2]
  have hKS : k_S_startOver σ := by
    unfold k_S_startOver f_T_backOff f_T_stop f_T_forgetTiming
    dsimp only [zlet]
    refine ⟨f1, fun r hr u hu => ?_⟩
    rw [f3] at hr
    rw [hr] at hu
    have q : u = σ1 := by
      rw [hu, hσ1, zmn_lt]
      rfl
    rw [q]
    exact l3
  have hM : f_M_runsOut τ = zuf (zuf (zuf (zuf (zuf (zclr τ1 15 0 600) 13 3 (τ 13 2)) 13 10 0) 13 13 0) 13 16 (-1)) 13 15 (-1) := by
    unfold f_M_runsOut
    dsimp only [zlet]
    rw [zgreater, ← ht, zlesser, ← hτ1, l2, zt0]
    have q2 : zclr τ1 15 0 600 13 2 = τ 13 2 := by
      rw [zclr_ne (by decide), hτ1]; simp [zuf_at]
    rw [q2]
  have hKM : k_M_runsOut τ := by
    unfold k_M_runsOut
    refine ⟨f2, fun r hr r3 hr3 r5 hr5 => ?_⟩
    rw [hr, zgreater, ← ht] at hr3
    rw [hr3, zlesser] at hr5
    rw [hr3, hr5, ← hτ1]
    exact l1
  have FS : ∀ i, i ≠ 2 → i ≠ 4 → i ≠ 5 → f_S_startOver σ i = σ i := fun i p1 p2 p3 => by
    rw [hS, zuf_ne p1, zuf_ne p1, zuf_ne p1, zclr_ne p2, hσ1, zuf_ne p3, zuf_ne p3, zuf_ne p3, zuf_ne p1, zuf_ne p1]
  have FT : ∀ i, i ≠ 13 → i ≠ 15 → f_M_runsOut τ i = τ i := fun i p1 p2 => by
    rw [hM, zuf_ne p1, zuf_ne p1, zuf_ne p1, zuf_ne p1, zuf_ne p1, zclr_ne p2, hτ1, zuf_ne p1, zuf_ne p1, zuf_ne p1]
  have z2 : ∀ j, zclr σ1 4 (τ 13 2).toInt (τ 13 4).toInt 2 j = σ1 2 j := fun j => by rw [zclr_ne (by decide)]
  have z5 : ∀ j, zclr σ1 4 (τ 13 2).toInt (τ 13 4).toInt 5 j = σ1 5 j := fun j => by rw [zclr_ne (by decide)]
  have z13 : ∀ j, zclr τ1 15 0 600 13 j = τ1 13 j := fun j => by rw [zclr_ne (by decide)]
  have T15 : ∀ j : Nat, j < 600 → f_M_runsOut τ 15 j = 0 := fun j hj => by
    rw [hM, zuf_ne (by decide), zuf_ne (by decide), zuf_ne (by decide), zuf_ne (by decide), zuf_ne (by decide)]
    unfold zclr
    rw [if_pos ⟨rfl, by omega, by omega⟩]
  have S4 : ∀ j : Nat, j < 600 → f_S_startOver σ 4 j = 0 := fun j hj => by
    rw [hS, zuf_ne (by decide), zuf_ne (by decide), zuf_ne (by decide)]
    unfold zclr
    by_cases q : (τ 13 2).toInt ≤ (j : Int) ∧ (j : Int) < (τ 13 4).toInt
    · rw [if_pos ⟨rfl, q⟩]
    · rw [if_neg (fun w => q w.2)]
      have q2 : σ1 4 j = τ 15 j := by
        rw [hσ1, zuf_ne (by decide), zuf_ne (by decide), zuf_ne (by decide), zuf_ne (by decide), zuf_ne (by decide)]
        exact rM j hj
      rw [q2]
      exact Classical.not_not.mp (fun q3 => q ((bM j hj).2 q3))
  refine ⟨hKS, hKM, ?_, ?_, FS, FT, ?_, ?_⟩
  · refine zRel_snd h ?_ (fun j hj => by rw [S4 j hj, T15 j hj]) (fun i p1 p2 p3 p4 => FS i p2 p3 p4) (fun i p1 p2 p3 => FT i (by omega) p3) (fun j p => ?_)
    · unfold zRS
      rw [hS, hM]
      simp [zuf_at, z2, z5, z13]
      rw [hσ1, hτ1]
      simp [zuf_at, c2, c3, c4, c5, c6, c7, c8, c9, c10, c12, c13, c14, d0, d1, d4, d5, d6, d7]
    · rw [hM, zuf_nj (by omega), zuf_nj (by omega), zuf_nj (by omega), zuf_nj (by omega), zuf_nj (by omega), z13, hτ1, zuf_nj (by omega), zuf_nj (by omega), zuf_nj (by omega)]
  · have q3 : f_M_runsOut τ 13 4 = τ 13 4 := by
      rw [hM]
      simp [zuf_at, z13]
      rw [hτ1]
      simp [zuf_at]
    refine zBnd_same b ?_ (fun j hj => ⟨Or.inl (T15 j hj), fun q => absurd (T15 j hj) q⟩) q3 (fun i p1 p2 p3 => FT i (by omega) p3) (fun j p => ?_)
    · unfold zBS
      rw [hM]
      simp only [zuf_at, z13]
      rw [hτ1]
      simp only [zuf_at]
      simp
      exact ⟨g1, by omega, g4, g5, f4, f5, g10, g11, g12⟩
    · rw [hM, zuf_nj (by omega), zuf_nj (by omega), zuf_nj (by omega), zuf_nj (by omega), zuf_nj (by omega), z13, hτ1, zuf_nj (by omega), zuf_nj (by omega), zuf_nj (by omega)]
  · rw [hM]
    simp [zuf_at, z13]
    rw [hτ1]
    simp [zuf_at]
  · rw [hM]
    simp [zuf_at, z13]
    rw [hτ1]
    simp [zuf_at]
theorem zclock {k : Nat} {σ τ : zSt} (h : zRel σ τ) (b : zBnd (k + 1) τ) (x : Int) (ht : (τ 13 1).toInt ≤ 100 * k + x) (hx : x < 100) (hk : k < 1000) : (τ 13 1 + 1).toInt = (τ 13 1).toInt + 1 ∧ zRel (zuf σ 5 0 (τ 13 1 + 1)) (zuf τ 13 1 (τ 13 1 + 1)) ∧ zBnd (k + 1) (zuf τ 13 1 (τ 13 1 + 1)) := by
  have h' := h
  obtain ⟨⟨⟨c2, c3, c4, c5, c6, c7, c8, c9, c10, c11, c12, c13, c14⟩, d0, d1, d2, d3, d4, d5, d6, d7⟩, rM, -⟩ := h'
  have b' := b
  obtain ⟨⟨g1, g2, g3, g4, g5, g6, g7, g8, g9, g10, g11, g12⟩, -, bM, -⟩ := b'
  have hi : (τ 13 1 + 1).toInt = (τ 13 1).toInt + 1 := zinc' (by omega)
  have fT : ∀ j, j ≠ 1 → zuf τ 13 1 (τ 13 1 + 1) 13 j = τ 13 j := fun j q => zuf_nj q
  have fT1 : zuf τ 13 1 (τ 13 1 + 1) 13 1 = τ 13 1 + 1 := zuf_eq
  have fS : ∀ j, j ≠ 0 → zuf σ 5 0 (τ 13 1 + 1) 5 j = σ 5 j := fun j q => zuf_nj q
  have fS0 : zuf σ 5 0 (τ 13 1 + 1) 5 0 = τ 13 1 + 1 := zuf_eq
  refine ⟨hi, zRel_snd h ?_ ?_ (fun i p1 p2 p3 p4 => zuf_ne p4) (fun i p1 p2 p3 => zuf_ne (by omega)) (fun j p => fT j (by omega)), zBnd_same b ?_ ?_ (fT 4 (by decide)) (fun i p1 p2 p3 => zuf_ne (by omega)) (fun j p => fT j (by omega))⟩
  · rw [zuf_ne (show (2 : Nat) ≠ 5 by decide)]
    unfold zRS
    rw [fS0, fS 1 (by decide), fS 2 (by decide), fS 3 (by decide), fS 4 (by decide), fS 5 (by decide), fS 6 (by decide), fS 7 (by decide), fT1, fT 2 (by decide), fT 3 (by decide), fT 4 (by decide), fT 5 (by decide), fT 6 (by decide), fT 7 (by decide), fT 8 (by decide), fT 9 (by decide), fT 10 (by decide), fT 11 (by decide), fT 12 (by decide), fT 13 (by decide), fT 14 (by decide), fT 15 (by decide), fT 16 (by decide), fT 17 (by decide), fT 18 (by decide), fT 19 (by decide), fT 20 (by decide), fT 21 (by decide), fT 22 (by decide)]
    exact ⟨⟨c2, c3, c4, c5, c6, c7, c8, c9, c10, c11, c12, c13, c14⟩, rfl, d1, d2, d3, d4, d5, d6, d7⟩
  · rw [zuf_ne (by decide), zuf_ne (by decide)]; exact rM
  · unfold zBS
    rw [fT1, fT 2 (by decide), fT 3 (by decide), fT 4 (by decide), fT 5 (by decide), fT 7 (by decide), fT 8 (by decide), fT 11 (by decide)]
    exact ⟨g1, g2, g3, g4, g5, g6, g7, g8, g9, by omega, by omega, g12⟩
  · unfold zBM at bM ⊢
    rw [zuf_ne (by decide), fT 2 (by decide), fT 4 (by decide)]
    exact bM
theorem l_tick (a : Int32) (ha : a.toInt ≤ 100) {k : Nat} (hk : k < 1000) : ∀ (m : Nat) (σ τ : zSt) (x2 x3 : Int32), zRel σ τ → zBnd (k + 1) τ → (τ 13 1).toInt ≤ 100 * k + x3.toInt → 0 ≤ x3.toInt → (a.toInt - x3.toInt).toNat < m → kl_S_passTicks_4 a m σ x2 x3 ∧ kl_M_tick_28 a m τ x2 x3 ∧ (l_S_passTicks_4 a m σ x2 x3).1 = (l_M_tick_28 a m τ x2 x3).1 ∧ zRel (l_S_passTicks_4 a m σ x2 x3).2 (l_M_tick_28 a m τ x2 x3).2 ∧ zBnd (k + 1) (l_M_tick_28 a m τ x2 x3).2 ∧ (∀ i, i ≠ 2 → i ≠ 4 → i ≠ 5 → (l_S_passTicks_4 a m σ x2 x3).2 i = σ i) ∧ (∀ i, i ≠ 13 → i ≠ 15 → (l_M_tick_28 a m τ x2 x3).2 i = τ i) ∧ (l_M_tick_28 a m τ x2 x3).2 13 0 = τ 13 0 := by
  intro m
  induction m with
  | zero => intro σ τ x2 x3 _ _ _ _ h; omega
  | succ m ih =>
    intro σ τ x2 x3 h b ht h0 h1
    unfold kl_S_passTicks_4 l_S_passTicks_4 kl_M_tick_28 l_M_tick_28
    by_cases g1 : a ≤ x3
    · rw [if_pos g1, if_pos g1]
      exact ⟨fun q => absurd g1 q, fun q => absurd g1 q, rfl, h, b, fun _ _ _ _ => rfl, fun _ _ _ => rfl, rfl⟩
    · rw [if_neg g1, if_neg g1]
      have g1' := g1
      rw [zle] at g1'
      have hi : (x3 + 1).toInt = x3.toInt + 1 := zinc' (by omega)
      have hS := h.1
      have d0 : σ 5 0 = τ 13 1 := hS.2.1
      have d2 : σ 5 2 = τ 13 15 := hS.2.2.2.1
      have t0 : 0 ≤ (τ 13 1).toInt := b.1.2.2.2.2.2.2.2.2.2.1
      obtain ⟨e1, e2, e3⟩ := zclock h b x3.toInt ht (by omega) hk
      obtain ⟨σ1, hσ1⟩ : ∃ u, u = zuf σ 5 0 (τ 13 1 + 1) := ⟨_, rfl⟩
      obtain ⟨τ1, hτ1⟩ : ∃ u, u = zuf τ 13 1 (τ 13 1 + 1) := ⟨_, rfl⟩
      have fS : ∀ i, i ≠ 5 → σ1 i = σ i := fun i q => by rw [hσ1, zuf_ne q]
      have fT : ∀ i, i ≠ 13 → τ1 i = τ i := fun i q => by rw [hτ1, zuf_ne q]
      have fT1 : τ1 13 1 = τ 13 1 + 1 := by rw [hτ1, zuf_eq]
      have fT0 : τ1 13 0 = τ 13 0 := by rw [hτ1, zuf_nj (by decide)]
      have hP : f_T_passTick σ = (if τ 13 1 + 1 = τ 13 15 then 1 else 0, σ1) := by
        unfold f_T_passTick
        rw [d0, d2, ← hσ1]
        by_cases p : τ 13 15 = -1
        · have p2 : ¬ τ 13 1 + 1 = τ 13 15 := by rw [p, zeq, ztm1]; omega
          rw [if_pos p, if_neg p2]
        · rw [if_neg p]
          by_cases p2 : τ 13 1 + 1 = τ 13 15
          · rw [if_pos p2, if_pos p2]
          · rw [if_neg p2, if_neg p2]
      rw [hP, ← hτ1]
      rw [← hσ1, ← hτ1] at e2
      rw [← hτ1] at e3
      dsimp only [zseq, zlet]
      by_cases p : τ 13 1 + 1 = τ 13 15
      · rw [if_pos p, if_pos p, if_neg (show ¬ (1 : Int32) = 0 by decide)]
        obtain ⟨o1, o2, o3, o4, o5, o6, o7, o8⟩ := zover e2 e3
        obtain ⟨j1, j2, j3, j4, j5, j6, j7, j8⟩ := ih (f_S_startOver σ1) (f_M_runsOut τ1) (x2 + 1) (x3 + 1) o3 o4 (by rw [o7, fT1]; omega) (by omega) (by omega)
        refine ⟨fun _ r u hu => ?_, fun _ => ⟨fun _ => ⟨o2, fun r hr => by rw [hr]; exact j2⟩, fun q => absurd p q⟩, j3, j4, j5, fun i p1 p2 p3 => by rw [j6 i p1 p2 p3, o5 i p1 p2 p3, fS i p3], fun i p1 p2 => by rw [j7 i p1 p2, o6 i p1 p2, fT i p1], by rw [j8, o8, fT0]⟩
        obtain ⟨rfl, rfl⟩ := Prod.mk.inj hu
        exact ⟨fun q => absurd q (by decide), fun _ => ⟨o1, fun v hv => by rw [hv]; exact j1⟩⟩
      · rw [if_neg p, if_neg p, if_pos rfl]
        obtain ⟨j1, j2, j3, j4, j5, j6, j7, j8⟩ := ih σ1 τ1 x2 (x3 + 1) e2 e3 (by rw [fT1]; omega) (by omega) (by omega)
        refine ⟨fun _ r u hu => ?_, fun _ => ⟨fun q => absurd q p, fun _ => j2⟩, j3, j4, j5, fun i p1 p2 p3 => by rw [j6 i p1 p2 p3, fS i p3], fun i p1 p2 => by rw [j7 i p1 p2, fT i p1], by rw [j8, fT0]⟩
        obtain ⟨rfl, rfl⟩ := Prod.mk.inj hu
        exact ⟨fun _ => j1, fun q => absurd rfl q⟩
theorem op_tick {k : Nat} {σ τ : zSt} (h : zRel σ τ) (b : zBnd k τ) (hk : k < 1000) (a : Int32) : k_X_tick σ a ∧ k_M_tick τ a ∧ zOp k σ τ (f_X_tick σ a) (f_M_tick τ a) := by
  have z100 : (100 : Int32).toInt = 100 := rfl
  have q1 := (zisIn τ a 1 100).1
  rw [zt1, z100] at q1
  unfold k_X_tick k_M_tick f_X_tick f_M_tick
  dsimp only [zlet, zseq]
  by_cases g : f_M_isIn τ a 1 100 = 0
  · have g' := q1.mp g
    rw [if_pos g, zfine1]
    dsimp only
    rw [if_pos rfl]
    refine ⟨fun p1 p2 => absurd (by rw [zlt, zt1] at p1; rw [zle, z100] at p2; omega) g', fun r hr => ⟨fun _ r4 u5 hu q => absurd (Prod.mk.inj hu).1 q, fun q => absurd (hr.trans g) q⟩, ?_⟩
    by_cases g2 : a < 1
    · rw [if_pos g2]; exact zOp_refuse h b (by decide) 0 0
    · rw [if_neg g2, if_neg (show ¬ a ≤ 100 by rw [zlt, zt1] at g2; rw [zle, z100]; omega)]
      exact zOp_refuse h b (by decide) 0 0
  · have g' := Classical.not_not.mp (fun q => g (q1.mpr q))
    rw [if_neg (show ¬ a < 1 by rw [zlt, zt1]; omega), if_pos (show a ≤ 100 by rw [zle, z100]; omega), if_neg g, zfine0]
    dsimp only
    rw [if_neg (show ¬ (1 : Int32) = 0 by decide)]
    obtain ⟨u, hu⟩ : ∃ u, u = zuf τ 13 0 0 := ⟨_, rfl⟩
    have u0 : u 13 0 = 0 := by rw [hu, zuf_eq]
    have u1 : ∀ i, i ≠ 13 → u i = τ i := fun i q => by rw [hu, zuf_ne q]
    have u2 : ∀ j, j ≠ 0 → u 13 j = τ 13 j := fun j q => by rw [hu, zuf_nj q]
    have hr : zRel σ u := zRel_of h (fun _ _ => rfl) (fun i q _ => u1 i (by omega)) (fun j q => u2 j q)
    have hb : zBnd k u := zBnd_of b (fun i q _ => u1 i (by omega)) (fun j q => u2 j q)
    rw [← hu]
    obtain ⟨j1, j2, j3, j4, j5, j6, j7, j8⟩ := l_tick a (by omega) hk ((a.toInt - (0 : Int32).toInt).toNat + 2) σ u 0 0 hr (zBnd_up hb) (by rw [zt0]; have := hb.1.2.2.2.2.2.2.2.2.2.2.1; omega) (by rw [zt0]; omega) (by omega)
    refine ⟨fun _ _ => j1, fun r hr => ⟨fun q => absurd (hr.symm.trans q) g, fun _ r u hu _ => by rw [(Prod.mk.inj hu).2]; exact j2⟩, ?_, fun _ => j3, j4, j5, fun i q => j6 i (by omega) (by omega) (by omega), fun i q => by
      show (l_M_tick_28 a ((a.toInt - (0 : Int32).toInt).toNat + 2) u 0 0).2 i = τ i
      rw [j7 i (by omega) (by omega), u1 i (by omega)]⟩
    show (l_M_tick_28 a ((a.toInt - (0 : Int32).toInt).toNat + 2) u 0 0).2 13 0 = 0
    rw [j8, u0]
