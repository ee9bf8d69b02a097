/-! a call of deliverAck -/
theorem zI_edge {k : Nat} {σ τ : zSt} (h : zI k σ) {a : Int32} (h0 : 0 ≤ a.toInt) (h1 : a.toInt < (σ 11 2).toInt) (hnum : (σ 12 (9 * a.toInt.toNat + 0)).toInt = (σ 2 2).toInt) (e1 : ∀ i, i ≠ 2 → τ i = σ i) (e2 : ∀ j, j ≠ 6 → τ 2 j = σ 2 j) (e6 : (τ 2 6).toInt = (if (σ 2 6).toInt ≤ (σ 12 (9 * a.toInt.toNat + 0)).toInt + (σ 12 (9 * a.toInt.toNat + 1)).toInt then (σ 12 (9 * a.toInt.toNat + 0)).toInt + (σ 12 (9 * a.toInt.toNat + 1)).toInt else (σ 2 6).toInt)) : zI k τ := by
  obtain ⟨hn, hm, hh, hs, hA⟩ := h
  obtain ⟨hp, hc, ht⟩ := hn
  obtain ⟨b1, -, -⟩ := hA.2.2.1 a.toInt.toNat (by omega)
  have hE : 32 ≤ (τ 2 6).toInt ∧ (τ 2 6).toInt ≤ (σ 6 3).toInt + 32 ∧ (τ 2 6).toInt ≤ (σ 2 2).toInt + 32 := by
    by_cases q : (σ 2 6).toInt ≤ (σ 12 (9 * a.toInt.toNat + 0)).toInt + (σ 12 (9 * a.toInt.toNat + 1)).toInt
    · rw [if_pos q] at e6; omega
    · rw [if_neg q] at e6; omega
  unfold zI
  rw [e1 4 (by decide), e1 5 (by decide), e1 6 (by decide), e1 8 (by decide), e1 9 (by decide), e1 10 (by decide), e1 11 (by decide), e1 12 (by decide)]
  refine ⟨?_, ?_, ?_, ?_, hA⟩
  · unfold zNum
    rw [e2 2 (by decide), e2 3 (by decide), e2 4 (by decide), e2 5 (by decide), e2 7 (by decide), e2 8 (by decide), e2 9 (by decide), e2 10 (by decide), e2 11 (by decide), e2 12 (by decide), e2 13 (by decide), e2 14 (by decide)]
    exact ⟨by omega, hc, ht⟩
  · unfold zMk
    rw [e2 2 (by decide), e2 4 (by decide)]
    exact hm
  · unfold zHd
    rw [e2 4 (by decide)]
    exact hh
  · unfold zSg
    rw [e2 4 (by decide)]
    exact hs
/-- what an acknowledgment does: nothing, or a duplicate, or A grows -/
def zTa (σ u : zSt) (g x y : Int) : Prop := (∀ i, i ≠ 2 → i ≠ 4 → i ≠ 5 → u i = σ i) ∧ u 5 0 = σ 5 0 ∧ (u 2 4 = σ 2 4 ∧ u 2 5 = σ 2 5 ∧ u 2 13 = σ 2 13 ∧ u 2 14 = σ 2 14) ∧ ((x < (σ 2 2).toInt ∧ g = 0 ∧ u = σ) ∨ ((σ 2 2).toInt ≤ x ∧ g = x - (σ 2 2).toInt ∧ (u 2 2).toInt = x ∧ (u 2 3).toInt = (if (σ 2 3).toInt ≤ x then x else (σ 2 3).toInt) ∧ (u 2 6).toInt = (if (σ 2 6).toInt ≤ x + y then x + y else (σ 2 6).toInt) ∧ ((x = (σ 2 2).toInt ∧ (σ 2 10).toInt ≤ (u 2 10).toInt ∧ (u 2 10).toInt ≤ (σ 2 10).toInt + 1 ∧ ((u 2 11 = σ 2 11 ∧ u 2 12 = σ 2 12) ∨ (u 2 11 = σ 2 3 ∧ u 2 12 = σ 2 2 ∧ (σ 2 2).toInt < (σ 2 3).toInt))) ∨ ((σ 2 2).toInt < x ∧ u 2 10 = 0 ∧ u 2 12 = σ 2 12 ∧ (¬ (σ 2 11).toInt = -1 ∨ ((σ 2 7).toInt ≤ (u 2 7).toInt ∧ (u 2 7).toInt ≤ (σ 2 7).toInt + 4))))))
set_option maxHeartbeats 8000000 in
theorem takeAck {k : Nat} {σ : zSt} (h : zI k σ) (hk : k + 1 ≤ 10000000) {a : Int32} (h0 : 0 ≤ a.toInt) (h1 : a.toInt < (σ 11 2).toInt) : k_S_takeAck σ a ∧ zI (k + 1) (f_S_takeAck σ a).2 ∧ zTa σ (f_S_takeAck σ a).2 (f_S_takeAck σ a).1.toInt (σ 12 (9 * a.toInt.toNat + 0)).toInt (σ 12 (9 * a.toInt.toNat + 1)).toInt := by
  have h' := h
  obtain ⟨hn, hm, hh, hs, hA⟩ := h'
  have hn' := hn
  obtain ⟨hp, hc, ht⟩ := hn'
  obtain ⟨a1, a2, a3, a4⟩ := hA
  obtain ⟨b1, b2, b3⟩ := a3 a.toInt.toNat (by omega)
  obtain ⟨k1, e1⟩ := W_cell11 (σ := σ) (a := a) (i := 0) h0 (by omega) (by decide) (by decide)
  rw [show (0 : Int32).toInt.toNat = 0 from rfl] at e1
  obtain ⟨k2, e2⟩ := W_cell11 (σ := σ) (a := a) (i := 1) h0 (by omega) (by decide) (by decide)
  rw [show (1 : Int32).toInt.toNat = 1 from rfl] at e2
  have hxa : (σ 12 (9 * a.toInt.toNat + 0) - σ 2 2).toInt = (σ 12 (9 * a.toInt.toNat + 0)).toInt - (σ 2 2).toInt := zsub (by omega) (by omega)
  have hxy : (σ 12 (9 * a.toInt.toNat + 0) + σ 12 (9 * a.toInt.toNat + 1)).toInt = (σ 12 (9 * a.toInt.toNat + 0)).toInt + (σ 12 (9 * a.toInt.toNat + 1)).toInt := zadd (by omega) (by omega)
  have hE : (if σ 2 6 < σ 12 (9 * a.toInt.toNat + 0) + σ 12 (9 * a.toInt.toNat + 1) then σ 12 (9 * a.toInt.toNat + 0) + σ 12 (9 * a.toInt.toNat + 1) else σ 2 6).toInt = (if (σ 2 6).toInt ≤ (σ 12 (9 * a.toInt.toNat + 0)).toInt + (σ 12 (9 * a.toInt.toNat + 1)).toInt then (σ 12 (9 * a.toInt.toNat + 0)).toInt + (σ 12 (9 * a.toInt.toNat + 1)).toInt else (σ 2 6).toInt) := by rw [zmx_lt, zmx_t, hxy]
  unfold f_S_takeAck
  dsimp only [zlet]
  rw [e1]
  by_cases c1 : σ 2 2 ≤ σ 12 (9 * a.toInt.toNat + 0)
  · rw [if_pos c1, e2]
    rw [zle] at c1
    generalize hE' : (if σ 2 6 < σ 12 (9 * a.toInt.toNat + 0) + σ 12 (9 * a.toInt.toNat + 1) then σ 12 (9 * a.toInt.toNat + 0) + σ 12 (9 * a.toInt.toNat + 1) else σ 2 6) = E at *
    have tne : ∀ i, i ≠ 2 → zuf σ 2 6 E i = σ i := fun i q => zuf_ne q
    have tj : ∀ j, j ≠ 6 → zuf σ 2 6 E 2 j = σ 2 j := fun j q => zuf_nj q
    have t6 : zuf σ 2 6 E 2 6 = E := zuf_eq
    rw [← t6] at hE
    -- A grows
    have grown : (σ 2 2).toInt < (σ 12 (9 * a.toInt.toNat + 0)).toInt → k_S_advanceTo (zuf σ 2 6 E) (σ 12 (9 * a.toInt.toNat + 0)) ∧ k_S_markBlocks (f_S_advanceTo (zuf σ 2 6 E) (σ 12 (9 * a.toInt.toNat + 0))) a ∧ zI (k + 1) (f_S_markBlocks (f_S_advanceTo (zuf σ 2 6 E) (σ 12 (9 * a.toInt.toNat + 0))) a) ∧ zTa σ (f_S_markBlocks (f_S_advanceTo (zuf σ 2 6 E) (σ 12 (9 * a.toInt.toNat + 0))) a) ((σ 12 (9 * a.toInt.toNat + 0)).toInt - (σ 2 2).toInt) (σ 12 (9 * a.toInt.toNat + 0)).toInt (σ 12 (9 * a.toInt.toNat + 1)).toInt := by
      intro hg
      obtain ⟨d1, d2⟩ := advance (σ := zuf σ 2 6 E) (x := σ 12 (9 * a.toInt.toNat + 0)) (by rw [tj 2 (by decide)]; omega) (by omega) (by rw [tj 7 (by decide)]; omega) (by rw [tj 7 (by decide)]; omega) (by rw [tne 5 (by decide)]; omega) (by rw [tne 5 (by decide)]; omega)
      have hI := zI_adv h h0 h1 hg tne tj hE d2
      generalize f_S_advanceTo (zuf σ 2 6 E) (σ 12 (9 * a.toInt.toNat + 0)) = v at *
      obtain ⟨v1, v2, v3, v4, v5, v6, v7, v8, v9, v10, v11, v12⟩ := d2
      have v112 : v 12 = σ 12 := by rw [v1 12 (by decide) (by decide) (by decide), tne 12 (by decide)]
      have v111 : v 11 = σ 11 := by rw [v1 11 (by decide) (by decide) (by decide), tne 11 (by decide)]
      obtain ⟨m1, m2, m3⟩ := zI_mark hI (a := a) h0 (by rw [v111]; exact h1) (by rw [v112, v3]; exact Int.le_refl _)
      refine ⟨d1, m1, zI_up m2 (Nat.le_succ k) hk, ?_⟩
      generalize f_S_markBlocks v a = u at *
      have u2 : u 2 = v 2 := m3 2 (by decide)
      have u5 : u 5 = v 5 := m3 5 (by decide)
      refine ⟨fun i q1 q2 q3 => by rw [m3 i q2, v1 i q1 q2 q3, tne i q1], by rw [u5, v8, tne 5 (by decide)], ⟨?_, ?_, ?_, ?_⟩, Or.inr ⟨c1, rfl, by rw [u2, v3], ?_, ?_, Or.inr ⟨hg, by rw [u2, v5], ?_, ?_⟩⟩⟩
      · rw [u2, v6 4 (by decide) (by decide) (by decide) (by decide) (by decide), tj 4 (by decide)]
      · rw [u2, v6 5 (by decide) (by decide) (by decide) (by decide) (by decide), tj 5 (by decide)]
      · rw [u2, v6 13 (by decide) (by decide) (by decide) (by decide) (by decide), tj 13 (by decide)]
      · rw [u2, v6 14 (by decide) (by decide) (by decide) (by decide) (by decide), tj 14 (by decide)]
      · rw [u2, v4, tj 3 (by decide)]
      · rw [u2, v6 6 (by decide) (by decide) (by decide) (by decide) (by decide)]; exact hE
      · rw [u2, v6 12 (by decide) (by decide) (by decide) (by decide) (by decide), tj 12 (by decide)]
      · rw [u2]
        rw [tj 7 (by decide), tj 8 (by decide), tj 11 (by decide)] at v7
        rcases v7 with q | q | q
        · exact Or.inr ⟨q.2.2.1, q.2.2.2.1⟩
        · exact Or.inl q.1
        · exact Or.inl q.1
    -- the same number
    have same : (σ 12 (9 * a.toInt.toNat + 0)).toInt = (σ 2 2).toInt → k_S_markBlocks (zuf σ 2 6 E) a ∧ zI k (f_S_markBlocks (zuf σ 2 6 E) a) ∧ (∀ i, i ≠ 2 → i ≠ 4 → f_S_markBlocks (zuf σ 2 6 E) a i = σ i) ∧ (∀ j, j ≠ 6 → f_S_markBlocks (zuf σ 2 6 E) a 2 j = σ 2 j) ∧ f_S_markBlocks (zuf σ 2 6 E) a 2 6 = zuf σ 2 6 E 2 6 := by
      intro hg
      have hI := zI_edge h h0 h1 hg tne tj hE
      generalize zuf σ 2 6 E = v at *
      obtain ⟨m1, m2, m3⟩ := zI_mark hI (a := a) h0 (by rw [tne 11 (by decide)]; exact h1) (by rw [tne 12 (by decide), tj 2 (by decide)]; omega)
      exact ⟨m1, m2, fun i q1 q2 => by rw [m3 i q2, tne i q1], fun j q => by rw [m3 2 (by decide), tj j q], by rw [m3 2 (by decide)]⟩
    have plain : ∀ u : zSt, (σ 12 (9 * a.toInt.toNat + 0)).toInt = (σ 2 2).toInt → (∀ i, i ≠ 2 → i ≠ 4 → u i = σ i) → (∀ j, j ≠ 6 → u 2 j = σ 2 j) → u 2 6 = zuf σ 2 6 E 2 6 → zTa σ u ((σ 12 (9 * a.toInt.toNat + 0)).toInt - (σ 2 2).toInt) (σ 12 (9 * a.toInt.toNat + 0)).toInt (σ 12 (9 * a.toInt.toNat + 1)).toInt := by
      intro u hg q1 q2 q3
      refine ⟨fun i w1 w2 _ => q1 i w1 w2, by rw [q1 5 (by decide) (by decide)], ⟨q2 4 (by decide), q2 5 (by decide), q2 13 (by decide), q2 14 (by decide)⟩, Or.inr ⟨c1, rfl, by rw [q2 2 (by decide)]; omega, ?_, by rw [q3]; exact hE, Or.inl ⟨hg, by rw [q2 10 (by decide)]; exact Int.le_refl _, by rw [q2 10 (by decide)]; omega, Or.inl ⟨q2 11 (by decide), q2 12 (by decide)⟩⟩⟩⟩
      rw [q2 3 (by decide)]
      by_cases w : (σ 2 3).toInt ≤ (σ 12 (9 * a.toInt.toNat + 0)).toInt
      · rw [if_pos w]; omega
      · rw [if_neg w]
    by_cases c2 : σ 12 (9 * a.toInt.toNat + 0) + σ 12 (9 * a.toInt.toNat + 1) ≤ σ 2 6
    · rw [if_pos c2]
      by_cases c3 : σ 12 (9 * a.toInt.toNat + 0) - σ 2 2 ≤ 0
      · rw [if_pos c3]
        have c3' := c3
        rw [zle, hxa, zt0] at c3'
        have hg : (σ 12 (9 * a.toInt.toNat + 0)).toInt = (σ 2 2).toInt := by omega
        have c4 : σ 12 (9 * a.toInt.toNat + 0) - σ 2 2 = 0 := by rw [zeq, hxa, zt0]; omega
        obtain ⟨s1, s2, s3, s4, s5⟩ := same hg
        generalize hv : f_S_markBlocks (zuf σ 2 6 E) a = v at *
        rw [if_pos c4]
        have kk : (¬ (v 2 3) ≤ (v 2 2) → k_S_countDuplicate v) → k_S_takeAck σ a := by
          intro kd
          refine ⟨k1, fun r1 q1 _ => ⟨k2, fun r4 q4 => ?_⟩⟩
          rw [e1] at q1
          rw [e2] at q4
          subst q1
          subst q4
          rw [hE', hv]
          exact ⟨fun _ => ⟨fun _ => ⟨s1, fun u8 q _ => by subst q; exact kd⟩, fun q => absurd c3 q⟩, fun q => absurd c2 q⟩
        by_cases c5 : v 2 3 ≤ v 2 2
        · rw [if_pos c5]
          exact ⟨kk (fun q => absurd c5 q), zI_up s2 (Nat.le_succ k) hk, by rw [hxa]; exact plain v hg s3 s4 s5⟩
        · rw [if_neg c5]
          have c5' := c5
          rw [zle, s4 3 (by decide), s4 2 (by decide)] at c5'
          obtain ⟨d1, d2, d3, d4, d5, d6, d7⟩ := zI_dup s2 hk (by rw [s4 3 (by decide), s4 2 (by decide)]; omega)
          refine ⟨kk (fun _ => d1), d2, ?_⟩
          dsimp only
          generalize f_S_countDuplicate v = u at *
          rw [hxa]
          refine ⟨fun i q1 q2 q3 => by rw [d3 i q1 q3, s3 i q1 q2], by rw [d6 0 (by decide), s3 5 (by decide) (by decide)], ⟨?_, ?_, ?_, ?_⟩, Or.inr ⟨c1, rfl, ?_, ?_, ?_, Or.inl ⟨hg, ?_, ?_, ?_⟩⟩⟩
          · rw [d5 4 (by decide) (by decide) (by decide) (by decide) (by decide), s4 4 (by decide)]
          · rw [d5 5 (by decide) (by decide) (by decide) (by decide) (by decide), s4 5 (by decide)]
          · rw [d5 13 (by decide) (by decide) (by decide) (by decide) (by decide), s4 13 (by decide)]
          · rw [d5 14 (by decide) (by decide) (by decide) (by decide) (by decide), s4 14 (by decide)]
          · rw [d5 2 (by decide) (by decide) (by decide) (by decide) (by decide), s4 2 (by decide)]; omega
          · rw [d5 3 (by decide) (by decide) (by decide) (by decide) (by decide), s4 3 (by decide)]
            by_cases w : (σ 2 3).toInt ≤ (σ 12 (9 * a.toInt.toNat + 0)).toInt
            · rw [if_pos w]; omega
            · rw [if_neg w]
          · rw [d5 6 (by decide) (by decide) (by decide) (by decide) (by decide), s5]; exact hE
          · rw [d4, s4 10 (by decide)]; omega
          · rw [d4, s4 10 (by decide)]; exact Int.le_refl _
          · rcases d7 with q | q
            · exact Or.inl ⟨by rw [q.2.2.1, s4 11 (by decide)], by rw [q.2.2.2.1, s4 12 (by decide)]⟩
            · exact Or.inr ⟨by rw [q.2.2.2.2.1, s4 3 (by decide)], by rw [q.2.2.2.2.2.1, s4 2 (by decide)], by omega⟩
      · rw [if_neg c3]
        have c3' := c3
        rw [zle, hxa, zt0] at c3'
        have c4 : ¬ σ 12 (9 * a.toInt.toNat + 0) - σ 2 2 = 0 := by rw [zeq, hxa, zt0]; omega
        obtain ⟨g1, g2, g3, g4⟩ := grown (by omega)
        rw [if_neg c4]
        refine ⟨⟨k1, fun r1 q1 _ => ⟨k2, fun r4 q4 => ?_⟩⟩, g3, by rw [hxa]; exact g4⟩
        rw [e1] at q1
        rw [e2] at q4
        subst q1
        subst q4
        rw [hE']
        exact ⟨fun _ => ⟨fun q => absurd q c3, fun _ => ⟨g1, fun u15 q => by subst q; exact ⟨g2, fun _ _ q => absurd q c4⟩⟩⟩, fun q => absurd c2 q⟩
    · rw [if_neg c2]
      by_cases c3 : σ 12 (9 * a.toInt.toNat + 0) - σ 2 2 ≤ 0
      · rw [if_pos c3]
        have c3' := c3
        rw [zle, hxa, zt0] at c3'
        have hg : (σ 12 (9 * a.toInt.toNat + 0)).toInt = (σ 2 2).toInt := by omega
        have c4 : σ 12 (9 * a.toInt.toNat + 0) - σ 2 2 = 0 := by rw [zeq, hxa, zt0]; omega
        obtain ⟨s1, s2, s3, s4, s5⟩ := same hg
        rw [if_pos c4]
        have hif : (if f_S_markBlocks (zuf σ 2 6 E) a 2 3 ≤ f_S_markBlocks (zuf σ 2 6 E) a 2 2 then (σ 12 (9 * a.toInt.toNat + 0) - σ 2 2, f_S_markBlocks (zuf σ 2 6 E) a) else (σ 12 (9 * a.toInt.toNat + 0) - σ 2 2, f_S_markBlocks (zuf σ 2 6 E) a)) = (σ 12 (9 * a.toInt.toNat + 0) - σ 2 2, f_S_markBlocks (zuf σ 2 6 E) a) := by
          by_cases w : f_S_markBlocks (zuf σ 2 6 E) a 2 3 ≤ f_S_markBlocks (zuf σ 2 6 E) a 2 2
          · rw [if_pos w]
          · rw [if_neg w]
        rw [hif]
        refine ⟨⟨k1, fun r1 q1 _ => ⟨k2, fun r4 q4 => ?_⟩⟩, zI_up s2 (Nat.le_succ k) hk, by rw [hxa]; exact plain _ hg s3 s4 s5⟩
        rw [e1] at q1
        rw [e2] at q4
        subst q1
        subst q4
        rw [hE']
        exact ⟨fun q => absurd q c2, fun _ => ⟨fun _ => s1, fun q => absurd c3 q⟩⟩
      · rw [if_neg c3]
        have c3' := c3
        rw [zle, hxa, zt0] at c3'
        have c4 : ¬ σ 12 (9 * a.toInt.toNat + 0) - σ 2 2 = 0 := by rw [zeq, hxa, zt0]; omega
        obtain ⟨g1, g2, g3, g4⟩ := grown (by omega)
        rw [if_neg c4]
        refine ⟨⟨k1, fun r1 q1 _ => ⟨k2, fun r4 q4 => ?_⟩⟩, g3, by rw [hxa]; exact g4⟩
        rw [e1] at q1
        rw [e2] at q4
        subst q1
        subst q4
        rw [hE']
        exact ⟨fun q => absurd q c2, fun _ => ⟨fun q => absurd q c3, fun _ => ⟨g1, fun u30 q => by subst q; exact g2⟩⟩⟩
  · rw [if_neg c1]
    refine ⟨⟨k1, fun r1 q1 w => absurd (by rw [← e1, ← q1]; exact w) c1⟩, zI_up h (Nat.le_succ k) hk, fun _ _ _ _ => rfl, rfl, ⟨rfl, rfl, rfl, rfl⟩, Or.inl ⟨?_, rfl, rfl⟩⟩
    rw [zle] at c1
    omega
