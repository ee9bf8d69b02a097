/-! a call of deliverAck, and what the law asks of it -/
theorem op_deliverAck {k : Nat} {σ : zSt} (h : zI k σ) (hk : k + 1 ≤ 10000000) {a : Int32} (h0 : 0 ≤ a.toInt) (h1 : a.toInt < (σ 11 2).toInt) : k_X_deliverAck σ a ∧ zI (k + 1) (f_X_deliverAck σ a).2 ∧ ∃ u : zSt, zTa σ u (f_X_deliverAck σ a).1.toInt (σ 12 (9 * a.toInt.toNat + 0)).toInt (σ 12 (9 * a.toInt.toNat + 1)).toInt ∧ (∀ i, i ≠ 11 → i ≠ 12 → (f_X_deliverAck σ a).2 i = u i) ∧ ((f_X_deliverAck σ a).2 11 2).toInt = (σ 11 2).toInt - 1 ∧ (∀ i j : Nat, (i : Int) < (σ 11 2).toInt - 1 → j < 9 → (f_X_deliverAck σ a).2 12 (9 * i + j) = σ 12 (9 * (if (i : Int) < a.toInt then i else i + 1) + j)) := by
  have hh := holdsY (c := 11) h0 h1
  have h4 := h.2.2.2.2.2.1
  obtain ⟨k1, t1, t2⟩ := takeAck h hk h0 h1
  generalize hT : f_S_takeAck σ a = T at *
  obtain ⟨g, u⟩ := T
  dsimp only at t1 t2
  have u11 : u 11 = σ 11 := t2.1 11 (by decide) (by decide) (by decide)
  have u12 : u 12 = σ 12 := t2.1 12 (by decide) (by decide) (by decide)
  obtain ⟨m1, m2, m3, m4⟩ := remA (σ := u) (a := a) h0 (by rw [u11]; exact h1) (by rw [u11]; exact h4)
  have hI := zI_remA t1 h0 (by rw [u11]; exact h1)
  have hx : f_X_deliverAck σ a = (g, f_W_remove 11 u a) := by
    unfold f_X_deliverAck
    dsimp only [zlet, zseq]
    rw [if_neg hh, hT]
  rw [hx]
  refine ⟨fun r1 q => ⟨fun w => absurd (q.symm.trans w) hh, fun _ => ⟨k1, fun r4 u5 q => ?_⟩⟩, hI, u, t2, m3, ?_, fun i j hi hj => ?_⟩
  · rw [hT] at q
    obtain ⟨rfl, rfl⟩ := Prod.mk.inj q
    exact m1
  · show (f_W_remove 11 u a 11 2).toInt = _
    rw [m2, u11]
  · show f_W_remove 11 u a 12 (9 * i + j) = _
    rw [m4 i j (by rw [u11]; exact hi) hj, u12]
theorem isAnsweredOk {k : Nat} {σ : zSt} (h : zI k σ) (hk : k + 1 ≤ 10000000) {a : Int32} (h0 : 0 ≤ a.toInt) (h1 : a.toInt < (σ 11 2).toInt) : k_L_isAnswered σ a ∧ f_L_isAnswered σ a = (1, (f_X_deliverAck σ a).2) := by
  obtain ⟨kd, hI, u, hu, hne, -, -⟩ := op_deliverAck h hk h0 h1
  have h4 := h.2.2.2.2.2.1
  have hp := h.1.1
  have hc := h.1.2.1
  have hlim := h.1.2.2.2.2.1
  obtain ⟨b1, -, -⟩ := h.2.2.2.2.2.2.1 a.toInt.toNat (by omega)
  obtain ⟨⟨s1, t1⟩, ⟨s2, t2⟩, -⟩ := seeAck (σ := σ) (a := a) h0 h1 h4
  have e38 : ∀ x1 x2 x3 x4 x5 x6 x7, s_L_isAnswered_38 σ x1 x2 x3 x4 x5 x6 x7 = (if σ 2 11 < 0 then 0 else 1) := fun _ _ _ _ _ _ _ => rfl
  have hR : σ 2 11 < 0 ↔ (σ 2 11).toInt = -1 := by rw [zlt, zt0]; omega
  refine ⟨?_, ?_⟩
  · exact fun _ _ => ⟨s1, fun _ _ _ _ => ⟨s2, fun _ _ _ _ _ _ _ _ => kd⟩⟩
  · generalize σ 12 (9 * a.toInt.toNat + 0) = x at *
    generalize σ 12 (9 * a.toInt.toNat + 1) = y at *
    have hxa : (x - σ 2 2).toInt = x.toInt - (σ 2 2).toInt := zsub (by omega) (by omega)
    have hxy : (x + y).toInt = x.toInt + y.toInt := zadd (by omega) (by omega)
    unfold f_L_isAnswered
    dsimp only [zlet, zseq, f_X_acknowledged, f_X_edge, f_X_duplicates, f_X_congestionWindow]
    rw [t1, t2]
    generalize f_X_deliverAck σ a = D at *
    obtain ⟨g, w⟩ := D
    dsimp only at hu hne ⊢
    have w2 : w 2 = u 2 := hne 2 (by decide) (by decide)
    obtain ⟨-, -, -, hu⟩ := hu
    rcases hu with ⟨q1, q2, q3⟩ | ⟨q1, q2, q3, q4, q5, q6⟩
    · subst q3
      rw [if_neg (by rw [zle]; omega), if_pos (by rw [zeq, zt0]; exact q2), if_pos (by rw [w2]), if_pos (by rw [w2]), if_pos (by rw [w2])]
    · rw [if_pos (by rw [zle]; exact q1)]
      have e102 : ∀ r16, s_L_isAnswered_102 w (σ 2 2) x (σ 2 6) (x + y) (σ 2 10) (σ 2 7) r16 g = 1 := by
        intro r16
        unfold s_L_isAnswered_102
        dsimp only [zlet, f_X_acknowledged, f_X_edge]
        rw [if_pos (by rw [zeq, hxa]; exact q2), if_pos (by rw [zeq, w2]; exact q3)]
        by_cases c : x + y ≤ σ 2 6
        · rw [if_pos c, if_pos ?_]
          rw [zle, hxy] at c
          rw [zeq, w2, q5]
          by_cases z : (σ 2 6).toInt ≤ x.toInt + y.toInt
          · rw [if_pos z]; omega
          · rw [if_neg z]
        · rw [if_neg c, if_pos ?_]
          rw [zle, hxy] at c
          rw [zeq, w2, q5, hxy, if_pos (by omega)]
      rw [e102, if_neg (by decide), e38]
      rw [← w2] at q6
      rcases q6 with ⟨z1, z2, z3, z4⟩ | ⟨z1, z2, z3, z4⟩
      · have hi : (σ 2 10 + 1).toInt = (σ 2 10).toInt + 1 := zinc' (by omega)
        rw [if_pos (by rw [zle, zt0]; omega), if_neg (by rw [zlt]; omega), if_neg (by rw [zlt, hi]; omega)]
      · rw [if_neg (by rw [zle, zt0]; omega), if_pos z2]
        by_cases c : σ 2 11 < 0
        · rw [if_pos c, if_pos rfl]
          have := hR.mp c
          have z4 := z4.resolve_left (fun q => q this)
          have hi : (σ 2 7 + 4).toInt = (σ 2 7).toInt + 4 := by rw [zadd (by rw [zt4]; omega) (by rw [zt4]; omega), zt4]
          rw [if_neg (by rw [zlt]; omega), if_neg (by rw [zlt, hi]; omega)]
        · rw [if_neg c, if_neg (by decide)]
