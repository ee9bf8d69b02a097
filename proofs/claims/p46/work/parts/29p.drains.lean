/-! the rounds in which nothing is lost -/
def zPd (h0 : Int) (σ : zSt) : Prop := ∀ p : Int, h0 ≤ p → p < (σ 2 4).toInt → ¬ zA0 (σ 8) p = 0 ∨ ∃ i : Nat, (i : Int) < (σ 9 2).toInt ∧ (σ 10 (2 * i)).toInt ≤ p ∧ p < (σ 10 (2 * i + 1)).toInt ∧ p < (σ 6 3).toInt + 32
theorem zGh_of {h0 : Int} {σ τ : zSt} (h : zPd h0 σ) (ph : zPh σ τ) : zGh h0 τ := by
  intro p q1 q2
  obtain ⟨⟨-, -, -, p4, -, -, -⟩, m1, m2, -⟩ := ph
  rw [p4] at q2
  rcases h p q1 q2 with w | ⟨i, w1, w2, w3, w4⟩
  · exact m1 p w
  · exact m2 i w1 p w2 w3 w4
theorem s119 {x1 x3 x4 : Int32} {k : Nat} {h0 : Int} {τ : zSt} (h : zI k τ) (hk : k + 2 ≤ 10000000) (hS : (τ 9 2).toInt = 0) (hA : (τ 11 2).toInt = 0) (hR : (τ 6 3).toInt = (τ 6 2).toInt) (hG : zGh h0 τ) (hH : h0 ≤ (τ 2 4).toInt) : ks_L_drains_119 τ x1 x3 x4 ∧ (s_L_drains_119 τ x1 x3 x4).1 = x3 ∧ zI (k + 2) (s_L_drains_119 τ x1 x3 x4).2 ∧ (s_L_drains_119 τ x1 x3 x4).2 1 = τ 1 ∧ (s_L_drains_119 τ x1 x3 x4).2 2 5 = τ 2 5 ∧ (s_L_drains_119 τ x1 x3 x4).2 6 = τ 6 ∧ (τ 2 4).toInt ≤ ((s_L_drains_119 τ x1 x3 x4).2 2 4).toInt ∧ ((τ 6 3).toInt = (τ 2 5).toInt ∨ (zPd h0 (s_L_drains_119 τ x1 x3 x4).2 ∧ ∀ (τ' : zSt) (k' : Nat), zI k' τ' → zPh (s_L_drains_119 τ x1 x3 x4).2 τ' → zMu h0 τ' + 1 ≤ zMu h0 τ)) := by
  obtain ⟨ks, hI, hs⟩ := op_send h (by omega) (by omega)
  have hp := h.1.1
  have ht := h.1.2.2
  generalize hX : f_X_send τ = X at *
  obtain ⟨r, u⟩ := X
  dsimp only at hI hs
  have hx : s_L_drains_119 τ x1 x3 x4 = (if r = 0 then (if u 5 2 < 0 then (x3, u) else zseq (f_X_tick u (u 5 2 - u 5 0)) (fun r42 u43 => (if r42 = 1 then ((x3 + 0), u43) else ((x3 + 1000), u43)))) else (x3, u)) := by
    unfold s_L_drains_119
    rw [zseq_e hX.symm]
    rfl
  rw [hx]
  rcases hs with ⟨hr, z1, z2, z3, z4, z5, z6⟩ | ⟨s, e, z⟩
  · have hr0 : r = 0 := by rw [zeq, zt0]; exact hr
    rw [if_pos hr0]
    have u5 : u 5 = τ 5 := z1 5 (by decide)
    by_cases c : u 5 2 < 0
    · rw [if_pos c]
      have c' := c
      rw [zlt, zt0, u5] at c'
      have hNA : (τ 2 3).toInt = (τ 2 2).toInt := by omega
      have hAW := z5 hNA
      refine ⟨⟨ks, fun r31 u32 q w r35 q35 w2 => ?_⟩, rfl, zI_up hI (by omega) hk, z1 1 (by decide), z2 5 (by decide), z1 6 (by decide), by show (τ 2 4).toInt ≤ (u 2 4).toInt; rw [z2 4 (by decide)]; exact Int.le_refl _, Or.inl (by omega)⟩
      rw [hX] at q
      obtain ⟨rfl, rfl⟩ := Prod.mk.inj q
      exact absurd (by rw [q35]; exact c) w2
    · rw [if_neg c]
      have c' := c
      rw [zlt, zt0] at c'
      have htu := hI.1.2.2
      have hd : (u 5 2 - u 5 0).toInt = (u 5 2).toInt - (u 5 0).toInt := zsub (by omega) (by omega)
      obtain ⟨k1, t1, t2, t3, t4⟩ := op_tick hI (by omega) (a := u 5 2 - u 5 0) (by omega) (by omega)
      have kk : ks_L_drains_119 τ x1 x3 x4 := by
        refine ⟨ks, fun r31 u32 q w r35 q35 w2 r38 q38 r40 q40 => ?_⟩
        rw [hX] at q
        obtain ⟨rfl, rfl⟩ := Prod.mk.inj q
        rw [q38, q40]
        exact k1
      generalize f_X_tick u (u 5 2 - u 5 0) = T at *
      obtain ⟨e, v⟩ := T
      dsimp only at t1 t2 t3 t4
      rcases t4 with ⟨w1, w2, w3, w4, w5, w6, w7⟩ | w
      · have he : e = 1 := by rw [zeq, zt1]; omega
        rw [zseq_e (show (e, v) = (e, v) from rfl), if_pos he]
        dsimp only
        have v6 : v 6 = τ 6 := by rw [t3 6 (by decide) (by decide) (by decide), z1 6 (by decide)]
        have v8 : v 8 = τ 8 := by rw [t3 8 (by decide) (by decide) (by decide), z1 8 (by decide)]
        have v9 : v 9 = τ 9 := by rw [t3 9 (by decide) (by decide) (by decide), z1 9 (by decide)]
        have v11 : v 11 = τ 11 := by rw [t3 11 (by decide) (by decide) (by decide), z1 11 (by decide)]
        have v22 : v 2 2 = τ 2 2 := by rw [w4 2 (by decide) (by decide) (by decide) (by decide) (by decide), z2 2 (by decide)]
        have v23 : v 2 3 = τ 2 2 := by rw [w5, z2 2 (by decide)]
        have v24 : v 2 4 = τ 2 4 := by rw [w4 4 (by decide) (by decide) (by decide) (by decide) (by decide), z2 4 (by decide)]
        refine ⟨kk, Int32.add_zero _, zI_up t1 (by omega) hk, by rw [t3 1 (by decide) (by decide) (by decide), z1 1 (by decide)], by rw [w4 5 (by decide) (by decide) (by decide) (by decide) (by decide), z2 5 (by decide)], v6, by rw [v24]; exact Int.le_refl _, ?_⟩
        by_cases hNA : (τ 2 3).toInt = (τ 2 2).toInt
        · have := z5 hNA
          exact Or.inl (by omega)
        · refine Or.inr ⟨fun p q1 q2 => ?_, fun τ' k' _ ph => ?_⟩
          · rw [v24] at q2
            rw [v8]
            exact Or.inl (hG p q1 q2)
          · obtain ⟨-, -, -, -, -, hlast⟩ := ph
            rw [hlast (by rw [v9]; exact hS) (by rw [v11]; exact hA) (by rw [v6]; exact hR)]
            exact mu_tick h hG v6 (by rw [v22]) (by rw [v23]) hNA z6
      · omega
  · have hr0 : ¬ r = 0 := by rw [zeq, zt0]; have := z.1.1; omega
    rw [if_neg hr0]
    have hz := z
    obtain ⟨⟨n1, n2, n3, n4⟩, z1, z2, -, -, -, -, z7, -, z9, z10, z11, z12, z13, z14⟩ := hz
    have hHH : (τ 2 4).toInt ≤ (u 2 4).toInt := by
      rw [z11]
      by_cases w : (τ 2 4).toInt ≤ (u 2 3).toInt
      · rw [if_pos w]; exact w
      · rw [if_neg w]; exact Int.le_refl _
    have u9 : (u 9 2).toInt = 1 := by rw [z7, zinc' (by omega), hS]; rfl
    have u6 : u 6 = τ 6 := z1 6 (by decide) (by decide) (by decide) (by decide)
    refine ⟨⟨ks, fun r31 u32 q w => ?_⟩, rfl, zI_up hI (by omega) hk, z1 1 (by decide) (by decide) (by decide) (by decide), z2 5 (by decide) (by decide) (by decide) (by decide) (by decide), u6, hHH, Or.inr ⟨fun p q1 q2 => ?_, fun τ' k' h' ph => mu_send h hG hH hS hR z h' ph⟩⟩
    · rw [hX] at q
      obtain ⟨rfl, rfl⟩ := Prod.mk.inj q
      exact absurd w hr0
    · by_cases q : p < (τ 2 4).toInt
      · refine Or.inl ?_
        show ¬ zA0 (u 8) p = 0
        rw [z1 8 (by decide) (by decide) (by decide) (by decide)]
        exact hG p q1 q
      · have q2' : p < (u 2 4).toInt := q2
        rw [z11] at q2'
        have hN : (τ 2 4).toInt < (u 2 3).toInt ∧ p < (u 2 3).toInt := by
          by_cases w : (τ 2 4).toInt ≤ (u 2 3).toInt
          · rw [if_pos w] at q2'; omega
          · rw [if_neg w] at q2'; omega
        rcases z12 with ⟨-, y2, y3, -⟩ | ⟨y1, y2, y3, -, -, -, y4⟩
        · rw [y3] at hN; omega
        · rw [y3] at hN
          refine Or.inr ⟨0, by show ((0 : Nat) : Int) < (u 9 2).toInt; omega, ?_, ?_, ?_⟩
          · show (u 10 (2 * 0)).toInt ≤ p
            rw [show 2 * 0 = 2 * (τ 9 2).toInt.toNat by omega, z9]; omega
          · show p < (u 10 (2 * 0 + 1)).toInt
            rw [show 2 * 0 + 1 = 2 * (τ 9 2).toInt.toNat + 1 by omega, z10]; omega
          · show p < (u 6 3).toInt + 32
            rw [u6]; omega
theorem l_drain (x1 : Int32) {f h0 : Int} (hf : x1.toInt = f) (hf0 : 0 ≤ f) (hf1 : f < 256) : ∀ (m : Nat) (σ : zSt) (x3 x4 : Int32) (k : Nat), zI k σ → zVl f σ → x3.toInt = (σ 6 3).toInt → 0 ≤ x4.toInt → x4.toInt ≤ 3000 → (3000 - x4.toInt).toNat < m → k + 100 * (3001 - x4.toInt).toNat ≤ 10000000 → h0 ≤ (σ 2 4).toInt → ((σ 6 3).toInt = (σ 2 5).toInt ∨ (zPd h0 σ ∧ ∀ (τ : zSt) (k' : Nat), zI k' τ → zPh σ τ → zMu h0 τ + x4.toInt ≤ 2615)) → kl_L_drains_5 x1 m σ x3 x4 ∧ (l_L_drains_5 x1 m σ x3 x4).1.toInt = ((l_L_drains_5 x1 m σ x3 x4).2 2 5).toInt ∧ ∃ k' : Nat, zI k' (l_L_drains_5 x1 m σ x3 x4).2 := by
  intro m
  induction m with
  | zero => intro σ x3 x4 k _ _ _ _ _ hm; omega
  | succ m ih =>
    intro σ x3 x4 k h hv h3 h40 h41 hm hk hH hJ
    have hp := h.1.1
    obtain ⟨D, eD⟩ : ∃ D, D = l_L_drains_21 x1 x4 50 σ x3 := ⟨_, rfl⟩
    obtain ⟨R, eR⟩ : ∃ R, R = f_X_read D.2 := ⟨_, rfl⟩
    obtain ⟨v, u⟩ := R
    obtain ⟨E, eE⟩ : ∃ E, E = l_L_drains_55 x1 x4 700 u D.1 v := ⟨_, rfl⟩
    obtain ⟨K, eK⟩ : ∃ K, K = l_L_drains_91 x1 x4 50 E.2 E.1 := ⟨_, rfl⟩
    obtain ⟨a0, a1, a2, a3, a4, a5, a6, a7⟩ := phases x1 x4 hf hf0 hf1 h hv h3 (by omega) eD eR eE eK
    unfold kl_L_drains_5 l_L_drains_5
    by_cases c1 : 3000 ≤ x4
    · rw [if_pos c1]
      have c1' := c1
      rw [zle, show (3000 : Int32).toInt = 3000 from rfl] at c1'
      refine ⟨fun q => absurd c1 q, ?_, k, h⟩
      show x3.toInt = (σ 2 5).toInt
      rcases hJ with q | ⟨-, q⟩
      · omega
      · have := q K.2 _ a4 a7
        have hb := (zMu_b a4 (h0 := h0) (by rw [a7.1.2.2.2.1]; exact hH)).1
        omega
    · rw [if_neg c1, zlet_e (show σ 2 5 = f_X_written σ from rfl)]
      have c1' := c1
      rw [zle, show (3000 : Int32).toInt = 3000 from rfl] at c1'
      by_cases c2 : σ 2 5 ≤ x3
      · rw [if_pos c2]
        have c2' := zle.mp c2
        exact ⟨fun _ r2 q w => absurd (by rw [q]; exact c2) w, by show x3.toInt = (σ 2 5).toInt; omega, k, h⟩
      · rw [if_neg c2, zlet_e eD, zseq_e eR, zlet_e eE, zlet_e eK]
        have c2' := c2
        rw [zle] at c2'
        have hJ2 := hJ.resolve_left (by omega)
        obtain ⟨j1, j2⟩ := hJ2
        have hG := zGh_of j1 a7
        have hmu := j2 K.2 _ a4 a7
        have hHK : h0 ≤ (K.2 2 4).toInt := by rw [a7.1.2.2.2.1]; exact hH
        obtain ⟨b0, b1, b2, b3, b4, b5, b6, b7⟩ := s119 (x1 := x1) (x3 := K.1) (x4 := x4) a4 (by omega) a7.1.1 a7.1.2.1 a7.1.2.2.1 hG hHK
        have hi : (x4 + 1).toInt = x4.toInt + 1 := zinc' (by omega)
        obtain ⟨V, eV⟩ : ∃ V, V = s_L_drains_119 K.2 x1 K.1 x4 := ⟨_, rfl⟩
        rw [← eV] at b1 b2 b3 b4 b5 b6 b7
        rw [zlet_e eV]
        obtain ⟨i0, i1, i2⟩ := ih V.2 V.1 (x4 + 1) (k + 80 + 2) b2 (zVl_of a5 b3 b4) (by rw [b1, b5]; exact a6) (by omega) (by omega) (by omega) (by omega) (by omega) (by
          rcases b7 with q | ⟨q1, q2⟩
          · exact Or.inl (by rw [b5, b4]; exact q)
          · exact Or.inr ⟨q1, fun τ' k' g1 g2 => by have := q2 τ' k' g1 g2; omega⟩)
        refine ⟨fun _ r2 _ _ => ⟨a0, fun r12 q12 => ?_⟩, i1, i2⟩
        rw [← eD] at q12
        subst q12
        refine ⟨a1, fun r13 u14 q => ?_⟩
        rw [← eR] at q
        obtain ⟨rfl, rfl⟩ := Prod.mk.inj q
        refine ⟨a2, fun r22 q22 => ?_⟩
        rw [← eE] at q22
        subst q22
        refine ⟨a3, fun r30 q30 => ?_⟩
        rw [← eK] at q30
        subst q30
        refine ⟨b0, fun r46 q46 => ?_⟩
        rw [← eV] at q46
        subst q46
        exact i0
theorem drainsOk {k : Nat} {f : Int} {σ : zSt} (h : zI k σ) (hv : zVl f σ) {a2 a3 : Int32} (hf : a2.toInt = f) (hf0 : 0 ≤ f) (hf1 : f < 256) (h3 : a3.toInt = (σ 6 3).toInt) (hk : k + 300100 ≤ 10000000) : k_L_drains σ a2 a3 ∧ ∃ (p : Int32) (u : zSt) (k' : Nat), f_L_drains σ a2 a3 = (p, u) ∧ p.toInt = (u 2 5).toInt ∧ zI k' u := by
  obtain ⟨l1, l2, k', l3⟩ := l_drain a2 (h0 := (σ 2 4).toInt) hf hf0 hf1 3001 σ a3 0 k h hv h3 (by decide) (by decide) (by decide) (by rw [zt0]; omega) (Int.le_refl _) (Or.inr ⟨fun p q1 q2 => by omega, fun τ k' g1 g2 => by
    have := (zMu_b g1 (h0 := (σ 2 4).toInt) (by rw [g2.1.2.2.2.1]; exact Int.le_refl _)).2.1
    rw [zt0]
    omega⟩)
  obtain ⟨R, hR⟩ : ∃ R, R = l_L_drains_5 a2 3001 σ a3 0 := ⟨_, rfl⟩
  rw [← hR] at l2 l3
  refine ⟨l1, R.1, R.2, k', ?_, l2, l3⟩
  unfold f_L_drains
  rw [zlet_e hR]
