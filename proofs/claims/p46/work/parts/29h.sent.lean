/-! what the law asks of a call of send -/
theorem isSentOk {k : Nat} {σ : zSt} (h : zI k σ) (hk : k + 1 ≤ 10000000) (h4 : (σ 9 2).toInt < 40) : k_L_isSent σ ∧ f_L_isSent σ = (1, (f_X_send σ).2) := by
  obtain ⟨ks, hI, hS⟩ := op_send h hk h4
  have hp := h.1.1
  have hc := h.1.2.1
  have hs0 := h.2.2.2.1.1
  obtain ⟨kf, ef⟩ := flying (σ := σ) (by omega) (by omega)
  have hfb := zCt_b (σ 4) (σ 2 2).toInt ((σ 2 3).toInt - (σ 2 2).toInt).toNat
  have hfl : zfl σ = zCt (σ 4) (σ 2 2).toInt ((σ 2 3).toInt - (σ 2 2).toInt).toNat := rfl
  generalize hX : f_X_send σ = X at *
  obtain ⟨m, u⟩ := X
  dsimp only at hI hS
  have hpu := hI.1.1
  have hsu := hI.2.2.2.1.2.1
  obtain ⟨ku, eu⟩ := flying (σ := u) (by omega) (by omega)
  have e39 : ∀ x1 x2 x3 x4 x5 x6 x7, s_L_isSent_39 σ x1 x2 x3 x4 x5 x6 x7 = (if σ 2 11 < 0 then 0 else 1) := fun _ _ _ _ _ _ _ => rfl
  have hR : σ 2 11 < 0 ↔ (σ 2 11).toInt = -1 := by rw [zlt, zt0]; omega
  rcases hS with ⟨hm, z1, z2, z3, z4, z5, z6⟩ | ⟨s, e, ⟨n1, n2, n3, n4⟩, z1, z2, z3, z4, z5, z6, z7, z8, z9, z10, z11, z12, z13, z14⟩
  · have hm0 : m = 0 := by rw [zeq, zt0]; exact hm
    subst hm0
    have hflx : f_S_countFlying u = f_S_countFlying σ := by rw [zeq, eu, ef, z4]
    refine ⟨?_, ?_⟩
    · intro r1 _ r3 _ r5 _ r7 _ r9 _ r11 _
      refine ⟨kf, fun r13 _ r18 _ => ⟨ks, fun r19 u20 q => ?_⟩⟩
      rw [hX] at q
      obtain ⟨rfl, rfl⟩ := Prod.mk.inj q
      exact ⟨fun _ _ _ _ _ _ _ _ _ _ => ku, fun w => absurd rfl w⟩
    · unfold f_L_isSent
      dsimp only [zlet, zseq, f_X_sent, f_X_sentAgain, f_X_segments, f_X_next, f_X_highest, f_X_congestionWindow, f_X_inFlight]
      rw [hX]
      dsimp only
      rw [if_pos rfl, if_pos (by rw [z2 13 (by decide)]), if_pos (by rw [z1 9 (by decide)]), if_neg (by rw [zlt]; omega), if_pos hflx]
  · have hm0 : ¬ m = 0 := by rw [zeq, zt0]; omega
    have hi9 : (σ 9 2 + 1).toInt = (σ 9 2).toInt + 1 := zinc' (by omega)
    obtain ⟨w1, w2, w3, w4⟩ := seeSeg (σ := u) (a := σ 9 2) hs0 (by rw [z7]; omega) hsu
    rw [z9] at w2
    rw [z10] at w4
    have hsm : (s + m).toInt = s.toInt + m.toInt := by
      have hse : s.toInt ≤ 400 := by
        have := z12
        rcases z12 with q | q <;> omega
      exact zadd (by omega) (by omega)
    have he : e = s + m := by rw [zeq, hsm]; omega
    have e111 : ∀ r18, s_L_isSent_111 u (σ 2 13) (σ 2 14) (σ 9 2) (σ 2 3) (σ 2 4) (σ 2 7) (f_S_countFlying σ) r18 m s = 1 := by
      intro r18
      unfold s_L_isSent_111
      dsimp only [zlet, f_X_sent, f_X_segments, f_X_sentAgain, f_X_timerEnd]
      rw [w4, if_neg (by rw [zlt, zt4]; omega), if_pos z3, if_pos z7, if_pos he]
      by_cases q : σ 2 4 ≤ s
      · rw [if_pos q] at z4 ⊢
        rw [if_pos (by rw [z4, Int32.add_zero]), if_neg (by rw [zlt, zt0]; omega)]
      · rw [if_neg q] at z4 ⊢
        rw [if_pos z4, if_neg (by rw [zlt, zt0]; omega)]
    have hfr : (σ 2 3).toInt ≤ s.toInt → u 2 3 = s + m ∧ f_S_countFlying u = f_S_countFlying σ + m ∧ (¬ f_S_countFlying σ = 0 → ¬ σ 2 7 < f_S_countFlying σ + m) := by
      intro q
      rcases z12 with z12 | ⟨y1, y2, y3, y4, y5, y6, y7⟩
      · omega
      · have e1 : (f_S_countFlying σ + m).toInt = zfl σ + m.toInt := by rw [zadd (by omega) (by omega), ef]
        refine ⟨by rw [y3, he], by rw [zeq, eu, e1, y5], fun c => ?_⟩
        rw [zeq, ef, zt0] at c
        rw [zlt, e1]
        omega
    have hchain : ¬ s < σ 2 3 → (if u 2 3 = s + m then (if f_S_countFlying u = f_S_countFlying σ + m then (if f_S_countFlying σ = 0 then ((1 : Int32), u) else (if σ 2 7 < f_S_countFlying σ + m then (0, u) else (1, u))) else (0, u)) else (0, u)) = (1, u) := by
      intro q
      rw [zlt] at q
      obtain ⟨y1, y2, y3⟩ := hfr (by omega)
      rw [if_pos y1, if_pos y2]
      by_cases c : f_S_countFlying σ = 0
      · rw [if_pos c]
      · rw [if_neg c, if_neg (y3 c)]
    refine ⟨?_, ?_⟩
    · intro r1 q1 r3 q3 r5 q5 r7 q7 r9 q9 r11 q11
      have q5' : r5 = σ 9 2 := q5
      subst q5'
      refine ⟨kf, fun r13 _ r18 _ => ⟨ks, fun r19 u20 q => ?_⟩⟩
      rw [hX] at q
      obtain ⟨rfl, rfl⟩ := Prod.mk.inj q
      exact ⟨fun w => absurd w hm0, fun _ => ⟨w1, fun r23 q23 => ⟨fun _ _ _ _ _ _ _ => w3, fun r46 _ _ => ⟨fun _ _ _ _ _ => ku, fun _ _ _ _ _ _ => ku⟩⟩⟩⟩
    · unfold f_L_isSent
      dsimp only [zlet, zseq, f_X_sent, f_X_sentAgain, f_X_segments, f_X_next, f_X_highest, f_X_congestionWindow, f_X_inFlight]
      rw [hX]
      dsimp only
      rw [if_neg hm0, w2, e111, if_neg (by decide), e39]
      by_cases c1 : σ 2 11 < 0
      · have hns : ¬ s < σ 2 3 := by
          rw [zlt]
          have := hR.mp c1
          rcases z12 with q | q
          · exact absurd this q.1
          · omega
        rw [if_pos c1, if_pos rfl, if_neg hns]
        exact hchain hns
      · rw [if_neg c1, if_neg (by decide)]
        by_cases c2 : s < σ 2 3
        · rw [if_pos c2]
        · rw [if_neg c2, if_neg c2]
          exact hchain c2
