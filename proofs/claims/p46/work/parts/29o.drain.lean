/-! all is read at last: what grows smaller from round to round -/
def zPh (σ τ : zSt) : Prop := ((τ 9 2).toInt = 0 ∧ (τ 11 2).toInt = 0 ∧ (τ 6 3).toInt = (τ 6 2).toInt ∧ τ 2 4 = σ 2 4 ∧ τ 2 5 = σ 2 5 ∧ (σ 6 2).toInt ≤ (τ 6 2).toInt ∧ (σ 2 2).toInt ≤ (τ 2 2).toInt) ∧ (∀ p : Int, ¬ zA0 (σ 8) p = 0 → ¬ zA0 (τ 8) p = 0) ∧ (∀ i : Nat, (i : Int) < (σ 9 2).toInt → ∀ p : Int, (σ 10 (2 * i)).toInt ≤ p → p < (σ 10 (2 * i + 1)).toInt → p < (σ 6 3).toInt + 32 → ¬ zA0 (τ 8) p = 0) ∧ (0 < (σ 9 2).toInt → (τ 2 2).toInt = (τ 6 2).toInt) ∧ zQ σ τ ∧ ((σ 9 2).toInt = 0 → (σ 11 2).toInt = 0 → (σ 6 3).toInt = (σ 6 2).toInt → τ = σ)
theorem phases (x1 x4 : Int32) {k : Nat} {f : Int} (hf : x1.toInt = f) (h0 : 0 ≤ f) (h1 : f < 256) {σ : zSt} {x3 : Int32} (h : zI k σ) (hv : zVl f σ) (h3 : x3.toInt = (σ 6 3).toInt) (hk : k + 80 ≤ 10000000) {D E K : Int32 × zSt} {v : Int32} {u : zSt} (eD : D = l_L_drains_21 x1 x4 50 σ x3) (eR : (v, u) = f_X_read D.2) (eE : E = l_L_drains_55 x1 x4 700 u D.1 v) (eK : K = l_L_drains_91 x1 x4 50 E.2 E.1) : kl_L_drains_21 x1 x4 50 σ x3 ∧ k_X_read D.2 ∧ kl_L_drains_55 x1 x4 700 u D.1 v ∧ kl_L_drains_91 x1 x4 50 E.2 E.1 ∧ zI (k + 80) K.2 ∧ zVl f K.2 ∧ K.1.toInt = (K.2 6 3).toInt ∧ zPh σ K.2 := by
  have hs := h.2.2.2.1
  obtain ⟨a0, a1, a2, a3, a4, a5, a6, a7, a8, a9, a10⟩ := l_dels x1 x4 50 σ x3 k h hv (by have := hs.2.1; omega) (by have := hs.2.1; omega)
  rw [← eD] at a1 a2 a3 a4 a5 a6 a7 a8 a9 a10
  have hvD : zVl f D.2 := zVl_of hv (a3 1 (by decide)) (congrFun (a3 2 (by decide)) 5)
  obtain ⟨r0, r1, r2, r3, r4, r5, r6⟩ := readStep a2 hvD (x3 := D.1) (by rw [a1, a4]; exact h3)
  rw [← eR] at r1 r2 r3 r4 r5 r6
  dsimp only at r1 r2 r3 r4 r5 r6
  have hpD := a2.1.1
  have h30 := h.1.1
  obtain ⟨b0, b1, b2, b3, b4, b5, b6, b7⟩ := l_rds x1 x4 hf h0 h1 700 u D.1 v r1 r2 (by rw [a1]; omega)
  rw [← eE] at b1 b2 b3 b4 b5 b6 b7
  have hsE := b2.2.2.2.2
  obtain ⟨c0, c1, c2, c3, c4, c5, c6, c7, c8, c9, c10⟩ := l_acks x1 x4 50 E.2 E.1 _ b2 (by have := hsE.2.1; omega) (by have := hsE.2.1; have := hs.2.1; omega)
  rw [← eK] at c1 c2 c3 c4 c5 c6 c7 c8 c9 c10
  have e6 : K.2 6 = E.2 6 := c4 6 (by decide) (by decide) (by decide) (by decide) (by decide)
  have e2 : E.2 2 = σ 2 := by rw [b5 2 (by decide) (by decide) (by decide), r4 2 (by decide) (by decide) (by decide), a3 2 (by decide)]
  have e8 : K.2 8 = D.2 8 := by rw [c4 8 (by decide) (by decide) (by decide) (by decide) (by decide), b5 8 (by decide) (by decide) (by decide), r4 8 (by decide) (by decide) (by decide)]
  have e1 : K.2 1 = σ 1 := by rw [c4 1 (by decide) (by decide) (by decide) (by decide) (by decide), b5 1 (by decide) (by decide) (by decide), r4 1 (by decide) (by decide) (by decide), a3 1 (by decide)]
  have e9 : K.2 9 = D.2 9 := by rw [c4 9 (by decide) (by decide) (by decide) (by decide) (by decide), b5 9 (by decide) (by decide) (by decide), r4 9 (by decide) (by decide) (by decide)]
  have e62 : E.2 6 2 = D.2 6 2 := by rw [b4, r3]
  refine ⟨a0, r0, b0, c0, zI_up c2 (by have := hsE.2.1; have := hs.2.1; omega) hk, zVl_of hv e1 (by rw [c6, e2]), by rw [c1, b1, e6], ⟨by rw [e9]; exact a5, c3, by rw [e6]; exact b3, by rw [c5, e2], by rw [c6, e2], by rw [e6, e62]; exact a6, by rw [e2] at c7; exact c7⟩, fun p q => by rw [e8]; exact a7 p q, fun i hi p p1 p2 p3 => by rw [e8]; exact a8 i hi p p1 p2 p3, fun q => ?_, ?_, fun q1 q2 q3 => ?_⟩
  · rw [c9 (b6 (r5 (a10 q))), e6]
  · unfold zQ at c8 ⊢
    rw [e2] at c8
    exact c8
  · have eD2 : D.2 = σ := a9 q1
    obtain ⟨hv1, hu1⟩ := Prod.mk.inj (r6 (by rw [eD2]; exact q3))
    have hE2 : E.2 = u := b7 hv1
    rw [c10 (by rw [hE2, hu1, eD2]; exact q2), hE2, hu1, eD2]
def zIn (τ : zSt) : Int := if (τ 2 3).toInt = (τ 2 2).toInt ∨ (¬ (τ 2 11).toInt = -1 ∧ (τ 2 12).toInt ≤ (τ 2 2).toInt ∧ (τ 2 2).toInt < (τ 2 3).toInt) then 0 else ((τ 2 2).toInt + 33 - (τ 2 3).toInt) + ((τ 2 2).toInt + 33 - (if (τ 2 2).toInt ≤ (τ 2 12).toInt then (τ 2 12).toInt else (τ 2 2).toInt)) + 1
def zMu (h0 : Int) (τ : zSt) : Int := if (τ 2 2).toInt < (τ 6 2).toInt then (if (τ 2 3).toInt = (τ 2 2).toInt then 2614 else 2615) else if (τ 6 2).toInt < h0 then 68 * (h0 - (τ 6 2).toInt) + 302 + zIn τ else (τ 2 5).toInt - (τ 6 2).toInt + 1
theorem zIn_b {k : Nat} {τ : zSt} (h : zI k τ) : 0 ≤ zIn τ ∧ zIn τ ≤ 67 := by
  have hp := h.1.1
  have hc := h.1.2.1.2.2.2.2.2.2.2.2.2.2.2.2.2.1
  unfold zIn
  by_cases c : (τ 2 3).toInt = (τ 2 2).toInt ∨ (¬ (τ 2 11).toInt = -1 ∧ (τ 2 12).toInt ≤ (τ 2 2).toInt ∧ (τ 2 2).toInt < (τ 2 3).toInt)
  · rw [if_pos c]; omega
  · rw [if_neg c]
    by_cases d : (τ 2 2).toInt ≤ (τ 2 12).toInt
    · rw [if_pos d]; omega
    · rw [if_neg d]; omega
theorem zMu_b {k : Nat} {τ : zSt} {h0 : Int} (h : zI k τ) (hH : h0 ≤ (τ 2 4).toInt) : 0 ≤ zMu h0 τ ∧ zMu h0 τ ≤ 2615 ∧ ((τ 2 2).toInt = (τ 6 2).toInt → zMu h0 τ ≤ 2613) := by
  have hp := h.1.1
  have hi := zIn_b h
  unfold zMu
  by_cases c1 : (τ 2 2).toInt < (τ 6 2).toInt
  · rw [if_pos c1]
    by_cases c2 : (τ 2 3).toInt = (τ 2 2).toInt
    · rw [if_pos c2]; omega
    · rw [if_neg c2]; omega
  · rw [if_neg c1]
    by_cases c2 : (τ 6 2).toInt < h0
    · rw [if_pos c2]; omega
    · rw [if_neg c2]; omega
/-- what is below the highest byte is there, from h0 on -/
def zGh (h0 : Int) (τ : zSt) : Prop := ∀ p : Int, h0 ≤ p → p < (τ 2 4).toInt → ¬ zA0 (τ 8) p = 0
theorem mu_send {k k' : Nat} {h0 : Int} {τ σ' τ' : zSt} {n : Int} {s e : Int32} (h : zI k τ) (hG : zGh h0 τ) (hH : h0 ≤ (τ 2 4).toInt) (hS : (τ 9 2).toInt = 0) (hR : (τ 6 3).toInt = (τ 6 2).toInt) (z : zSp τ σ' n s e) (h' : zI k' τ') (ph : zPh σ' τ') : zMu h0 τ' + 1 ≤ zMu h0 τ := by
  have hp := h.1.1
  have hc := h.1.2.1
  have hp' := h'.1.1
  have hB0 := h.2.2.1.2.1
  have hi := zIn_b h
  have hi' := zIn_b h'
  obtain ⟨⟨n1, n2, n3, n4⟩, z1, z2, -, -, -, -, z7, -, z9, z10, z11, z12, z13, z14⟩ := z
  obtain ⟨⟨-, -, p3, p4, p5, p6, p7⟩, q1, q2, q3, q4, -⟩ := ph
  have g22 : σ' 2 2 = τ 2 2 := z2 2 (by decide) (by decide) (by decide) (by decide) (by decide)
  have g25 : σ' 2 5 = τ 2 5 := z2 5 (by decide) (by decide) (by decide) (by decide) (by decide)
  have g211 : σ' 2 11 = τ 2 11 := z2 11 (by decide) (by decide) (by decide) (by decide) (by decide)
  have g6 : σ' 6 = τ 6 := z1 6 (by decide) (by decide) (by decide) (by decide)
  have g9 : (σ' 9 2).toInt = 1 := by rw [z7, zinc' (by omega), hS]; rfl
  have hH' : (τ 2 4).toInt ≤ (σ' 2 4).toInt := by
    rw [z11]
    by_cases w : (τ 2 4).toInt ≤ (σ' 2 3).toInt
    · rw [if_pos w]; exact w
    · rw [if_neg w]; exact Int.le_refl _
  rw [g22] at p7
  rw [g25] at p5
  rw [g6] at p6
  have hAB := q3 (by omega)
  have hMb := zMu_b h' (h0 := h0) (by rw [p4]; omega)
  have hM' := hMb.2.2 hAB
  -- the segment brings the first missing byte
  have hbring : s.toInt = (τ 2 2).toInt → (τ 2 2).toInt = (τ 6 2).toInt → (τ 6 2).toInt < (τ' 6 2).toInt := by
    intro w1 w2
    have hx := q2 0 (by omega) (τ 6 2).toInt (by rw [show 2 * 0 = 2 * (τ 9 2).toInt.toNat by omega, z9]; omega) (by rw [show 2 * 0 + 1 = 2 * (τ 9 2).toInt.toNat + 1 by omega, z10]; omega) (by rw [g6]; omega)
    by_cases w : (τ' 6 2).toInt = (τ 6 2).toInt
    · rw [← w] at hx
      exact absurd h'.2.2.1.2.1 hx
    · omega
  by_cases c1 : (τ 2 2).toInt < (τ 6 2).toInt
  · have : 2614 ≤ zMu h0 τ := by
      unfold zMu
      rw [if_pos c1]
      by_cases c2 : (τ 2 3).toInt = (τ 2 2).toInt
      · rw [if_pos c2]; omega
      · rw [if_neg c2]; omega
    omega
  · have hABτ : (τ 2 2).toInt = (τ 6 2).toInt := by omega
    by_cases c2 : (τ 6 2).toInt < h0
    · have hmu : zMu h0 τ = 68 * (h0 - (τ 6 2).toInt) + 302 + zIn τ := by
        unfold zMu
        rw [if_neg c1, if_pos c2]
      rw [hmu]
      by_cases c3 : (τ 6 2).toInt < (τ' 6 2).toInt
      · unfold zMu
        rw [if_neg (by omega)]
        by_cases c4 : (τ' 6 2).toInt < h0
        · rw [if_pos c4]; omega
        · rw [if_neg c4]; omega
      · have hBB : (τ' 6 2).toInt = (τ 6 2).toInt := by omega
        have hns : ¬ s.toInt = (τ 2 2).toInt := fun w => c3 (hbring w hABτ)
        have hnin : ¬ ((τ 2 3).toInt = (τ 2 2).toInt ∨ (¬ (τ 2 11).toInt = -1 ∧ (τ 2 12).toInt ≤ (τ 2 2).toInt ∧ (τ 2 2).toInt < (τ 2 3).toInt)) := fun w => by
          rcases w with w | w
          · exact hns (z13 w)
          · exact hns (z14 w.1 w.2.1 w.2.2)
        have hin : zIn τ = ((τ 2 2).toInt + 33 - (τ 2 3).toInt) + ((τ 2 2).toInt + 33 - (if (τ 2 2).toInt ≤ (τ 2 12).toInt then (τ 2 12).toInt else (τ 2 2).toInt)) + 1 := by
          unfold zIn
          rw [if_neg hnin]
        have hmu' : zMu h0 τ' = 68 * (h0 - (τ' 6 2).toInt) + 302 + zIn τ' := by
          unfold zMu
          rw [if_neg (by omega), if_pos (by omega)]
        rw [hmu', hBB]
        have hpos : 1 ≤ zIn τ := by
          rw [hin]
          by_cases d : (τ 2 2).toInt ≤ (τ 2 12).toInt
          · rw [if_pos d]; omega
          · rw [if_neg d]; omega
        obtain ⟨m1, m2⟩ := q4 (by rw [g22]; omega)
        rw [g211] at m2
        by_cases c5 : (τ' 2 3).toInt = (τ' 2 2).toInt ∨ (¬ (τ' 2 11).toInt = -1 ∧ (τ' 2 12).toInt ≤ (τ' 2 2).toInt ∧ (τ' 2 2).toInt < (τ' 2 3).toInt)
        · have : zIn τ' = 0 := by
            unfold zIn
            rw [if_pos c5]
          omega
        · have hin' : zIn τ' = ((τ' 2 2).toInt + 33 - (τ' 2 3).toInt) + ((τ' 2 2).toInt + 33 - (if (τ' 2 2).toInt ≤ (τ' 2 12).toInt then (τ' 2 12).toInt else (τ' 2 2).toInt)) + 1 := by
            unfold zIn
            rw [if_neg c5]
          rw [hin, hin']
          rcases m2 with ⟨m2, m3⟩ | m2
          · rw [m3]
            rcases z12 with ⟨-, y2, y3, y4, y5⟩ | ⟨y1, y2, y3, y4, -⟩
            · rw [y3] at m1
              rw [y4]
              by_cases d : (τ 2 2).toInt ≤ (τ 2 12).toInt
              · rw [if_pos d, if_pos (by omega)]; omega
              · rw [if_neg d, if_pos (by omega)]; omega
            · rw [y3] at m1
              rw [y4]
              by_cases d : (τ 2 2).toInt ≤ (τ 2 12).toInt
              · rw [if_pos d, if_pos (by omega)]; omega
              · rw [if_neg d, if_neg (by omega)]; omega
          · exact absurd (Or.inr ⟨m2.1, by omega, m2.2.2⟩) c5
    · have hBH : (τ 6 2).toInt = (τ 2 4).toInt := by
        by_cases w : (τ 6 2).toInt < (τ 2 4).toInt
        · exact absurd hB0 (hG _ (by omega) w)
        · omega
      have hs := hbring (z13 (by omega)) hABτ
      unfold zMu
      rw [if_neg (by omega), if_neg (by omega), if_neg c1, if_neg c2, p5]
      omega
theorem mu_tick {k : Nat} {h0 : Int} {τ σ' : zSt} (h : zI k τ) (hG : zGh h0 τ) (z1 : σ' 6 = τ 6) (z2 : (σ' 2 2).toInt = (τ 2 2).toInt) (z3 : (σ' 2 3).toInt = (τ 2 2).toInt) (hN : ¬ (τ 2 3).toInt = (τ 2 2).toInt) (hz : (τ 2 11).toInt = -1 ∨ (τ 2 2).toInt < (τ 2 12).toInt ∨ (τ 2 3).toInt = (τ 2 2).toInt) : zMu h0 σ' + 1 ≤ zMu h0 τ := by
  have hp := h.1.1
  have hB0 := h.2.2.1.2.1
  have hc := h.1.2.1.2.2.2.2.2.2.2.2.2.2.2.2.2.1
  unfold zMu
  rw [z1, z2, z3]
  by_cases c1 : (τ 2 2).toInt < (τ 6 2).toInt
  · rw [if_pos c1, if_pos c1, if_pos rfl, if_neg hN]
    decide
  · rw [if_neg c1, if_neg c1]
    by_cases c2 : (τ 6 2).toInt < h0
    · rw [if_pos c2, if_pos c2]
      have e1 : zIn σ' = 0 := by
        unfold zIn
        rw [if_pos (Or.inl (by omega))]
      have e2 : 1 ≤ zIn τ := by
        unfold zIn
        rw [if_neg (by omega)]
        by_cases d : (τ 2 2).toInt ≤ (τ 2 12).toInt
        · rw [if_pos d]; omega
        · rw [if_neg d]; omega
      omega
    · have hBH : (τ 6 2).toInt = (τ 2 4).toInt := by
        by_cases w : (τ 6 2).toInt < (τ 2 4).toInt
        · exact absurd hB0 (hG _ (by omega) w)
        · omega
      omega
