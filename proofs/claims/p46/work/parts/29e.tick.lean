/-! the clock -/
theorem half {σ : zSt} (h0 : 0 ≤ (σ 2 2).toInt) (h1 : (σ 2 3).toInt ≤ 600) (h2 : (σ 2 3).toInt ≤ (σ 2 2).toInt + 400) : k_S_halfOfFlying σ ∧ 8 ≤ (f_S_halfOfFlying σ).toInt ∧ (f_S_halfOfFlying σ).toInt ≤ 256 := by
  obtain ⟨k1, e1⟩ := flying h0 h1
  have hb := zCt_b (σ 4) (σ 2 2).toInt ((σ 2 3).toInt - (σ 2 2).toInt).toNat
  have hfl : zfl σ = zCt (σ 4) (σ 2 2).toInt ((σ 2 3).toInt - (σ 2 2).toInt).toNat := rfl
  have hd : (f_S_countFlying σ / 2).toInt = (f_S_countFlying σ).toInt / 2 := by rw [zdiv (by omega) (by decide), zt2]
  refine ⟨k1, ?_⟩
  unfold f_S_halfOfFlying
  dsimp only [zlet]
  by_cases q : 8 < f_S_countFlying σ / 2
  · rw [if_pos q]
    rw [zlt, zt8] at q
    exact ⟨by omega, by omega⟩
  · rw [if_neg q]
    exact ⟨by decide, by decide⟩
theorem zbk (x : Int32) (h1 : 2 ≤ x.toInt) (h2 : x.toInt ≤ 64) : 2 ≤ (if 2 * x < 64 then 2 * x else 64 : Int32).toInt ∧ (if 2 * x < 64 then 2 * x else 64 : Int32).toInt ≤ 64 := by
  have e : (2 * x).toInt = 2 * x.toInt := by rw [zmul (by rw [zt2]; omega) (by rw [zt2]; omega), zt2]
  by_cases q : 2 * x < 64
  · rw [if_pos q]
    rw [zlt, zt64] at q
    exact ⟨by omega, by omega⟩
  · rw [if_neg q]
    exact ⟨by decide, by decide⟩
/-- the timer's end, one tick on from a state that is in order -/
theorem over {k : Nat} {σ : zSt} (h : zI k σ) (hk : (σ 5 0).toInt + 1 ≤ 100 * k) : k_S_startOver (zuf σ 5 0 (σ 5 0 + 1)) ∧ zI k (f_S_startOver (zuf σ 5 0 (σ 5 0 + 1))) ∧ (∀ i, i ≠ 2 → i ≠ 4 → i ≠ 5 → f_S_startOver (zuf σ 5 0 (σ 5 0 + 1)) i = σ i) ∧ (∀ j, j ≠ 3 → j ≠ 7 → j ≠ 8 → j ≠ 10 → j ≠ 11 → f_S_startOver (zuf σ 5 0 (σ 5 0 + 1)) 2 j = σ 2 j) ∧ f_S_startOver (zuf σ 5 0 (σ 5 0 + 1)) 2 3 = σ 2 2 ∧ f_S_startOver (zuf σ 5 0 (σ 5 0 + 1)) 2 11 = -1 ∧ f_S_startOver (zuf σ 5 0 (σ 5 0 + 1)) 5 0 = σ 5 0 + 1 ∧ f_S_startOver (zuf σ 5 0 (σ 5 0 + 1)) 5 2 = -1 := by
  obtain ⟨hn, hm, hh, hs, hA⟩ := h
  have hn' := hn
  obtain ⟨hp, hc, ht⟩ := hn'
  have ei : (σ 5 0 + 1).toInt = (σ 5 0).toInt + 1 := zinc' (by omega)
  generalize hσ' : zuf σ 5 0 (σ 5 0 + 1) = s at *
  have sne : ∀ i, i ≠ 5 → s i = σ i := fun i q => by rw [← hσ', zuf_ne q]
  have s5 : ∀ j, s 5 j = if j = 0 then σ 5 0 + 1 else σ 5 j := fun j => by rw [← hσ', zuf_i]
  have s2 : s 2 = σ 2 := sne 2 (by decide)
  obtain ⟨k1, g1, g2⟩ := half (σ := s) (by rw [s2]; omega) (by rw [s2]; omega) (by rw [s2]; omega)
  generalize hr : f_S_halfOfFlying s = r at *
  have s51 : s 5 1 = σ 5 1 := by rw [s5 1, if_neg (by decide)]
  obtain ⟨m1, m2⟩ := zbk (σ 5 1) (by omega) (by omega)
  generalize hsp : (if 2 * σ 5 1 < 64 then 2 * σ 5 1 else 64 : Int32) = sp at *
  have hb : f_T_backOff (zuf (zuf s 2 8 r) 2 7 4) = zuf (zuf (zuf (zuf (zuf s 2 8 r) 2 7 4) 5 1 sp) 5 3 (-1)) 5 2 (-1) := by
    unfold f_T_backOff f_T_forgetTiming f_T_stop
    dsimp only [zlet]
    rw [zuf_ne (by decide), zuf_ne (by decide), s51, hsp]
  obtain ⟨w, hw⟩ : ∃ w, w = zuf (zuf (zuf (zuf (zuf s 2 8 r) 2 7 4) 5 1 sp) 5 3 (-1)) 5 2 (-1) := ⟨_, rfl⟩
  rw [← hw] at hb
  have w2 : ∀ j, w 2 j = if j = 7 then 4 else if j = 8 then r else σ 2 j := fun j => by
    rw [hw, zuf_ne (by decide), zuf_ne (by decide), zuf_ne (by decide), zuf_i, zuf_i, s2]
  have w5 : ∀ j, w 5 j = if j = 2 then -1 else if j = 3 then -1 else if j = 1 then sp else if j = 0 then σ 5 0 + 1 else σ 5 j := fun j => by
    rw [hw, zuf_i, zuf_i, zuf_i, zuf_ne (by decide), zuf_ne (by decide), s5]
  have wne : ∀ i, i ≠ 2 → i ≠ 5 → w i = σ i := fun i q1 q2 => by
    rw [hw, zuf_ne q2, zuf_ne q2, zuf_ne q2, zuf_ne q1, zuf_ne q1, sne i q2]
  have w22 : w 2 2 = σ 2 2 := by rw [w2 2, if_neg (by decide), if_neg (by decide)]
  have w24 : w 2 4 = σ 2 4 := by rw [w2 4, if_neg (by decide), if_neg (by decide)]
  obtain ⟨k2, e2⟩ := P_empty 3 w (w 2 2) (w 2 4) (by rw [w22]; omega) (by rw [w24]; omega)
  rw [show (3 + 1 : Nat) = 4 from rfl, w22, w24] at e2
  have hx : f_S_startOver s = zuf (zuf (zuf (zclr w 4 (σ 2 2).toInt (σ 2 4).toInt) 2 3 (σ 2 2)) 2 11 (-1)) 2 10 0 := by
    unfold f_S_startOver
    dsimp only [zlet]
    rw [hr, hb, w22, w24, e2, zclr_ne (by decide), w22]
  have v4 : f_S_startOver s 4 = zclr w 4 (σ 2 2).toInt (σ 2 4).toInt 4 := by rw [hx, zuf_ne (by decide), zuf_ne (by decide), zuf_ne (by decide)]
  have v2 : ∀ j, f_S_startOver s 2 j = if j = 10 then 0 else if j = 11 then -1 else if j = 3 then σ 2 2 else if j = 7 then 4 else if j = 8 then r else σ 2 j := fun j => by
    rw [hx, zuf_i, zuf_i, zuf_i, zclr_ne (by decide), w2]
  have v5 : ∀ j, f_S_startOver s 5 j = if j = 2 then -1 else if j = 3 then -1 else if j = 1 then sp else if j = 0 then σ 5 0 + 1 else σ 5 j := fun j => by
    rw [hx, zuf_ne (by decide), zuf_ne (by decide), zuf_ne (by decide), zclr_ne (by decide), w5]
  have vne : ∀ i, i ≠ 2 → i ≠ 4 → i ≠ 5 → f_S_startOver s i = σ i := fun i q1 q2 q3 => by
    rw [hx, zuf_ne q1, zuf_ne q1, zuf_ne q1, zclr_ne q2, wne i q1 q3]
  have hk3 : k_S_startOver s := by
    refine ⟨k1, fun r1 e u3 e3 => ?_⟩
    rw [hr] at e
    subst e
    rw [hb] at e3
    subst e3
    exact k2
  generalize f_S_startOver s = v at *
  have v4' : ∀ p : Int, zA0 (v 4) p = 0 := fun p => by
    by_cases q : zA0 (v 4) p = 0
    · exact q
    · rw [v4] at q
      obtain ⟨q1, q2⟩ := (zA0_clr p).mp q
      rw [wne 4 (by decide) (by decide)] at q1
      have := hm p q1
      exact absurd ⟨by omega, by omega⟩ q2
  have v22 : v 2 2 = σ 2 2 := v2 2
  have v23 : v 2 3 = σ 2 2 := v2 3
  have v24 : v 2 4 = σ 2 4 := v2 4
  refine ⟨hk3, ⟨?_, ?_, ?_, ?_, ?_⟩, vne, fun j q1 q2 q3 q4 q5 => ?_, v23, v2 11, v5 0, v5 2⟩
  · rw [vne 6 (by decide) (by decide) (by decide)]
    unfold zNum
    rw [v22, v23, v24, show v 2 5 = σ 2 5 from v2 5, show v 2 6 = σ 2 6 from v2 6, show v 2 7 = 4 from v2 7, show v 2 8 = r from v2 8, show v 2 9 = σ 2 9 from v2 9, show v 2 10 = 0 from v2 10, show v 2 11 = -1 from v2 11, show v 2 12 = σ 2 12 from v2 12, show v 2 13 = σ 2 13 from v2 13, show v 2 14 = σ 2 14 from v2 14, show v 5 0 = σ 5 0 + 1 from v5 0, show v 5 1 = sp from v5 1, show v 5 2 = -1 from v5 2, show v 5 3 = -1 from v5 3, ei, ztm1, zt0, zt4]
    obtain ⟨b1, b2, b3, b4, b5, b6, b7, b8, b9, b10, b11, b12, b13, b14, b15⟩ := hc
    refine ⟨by omega, ⟨by omega, by omega, g1, g2, b5, by omega, by omega, b8, b9, b10, b11, b12, b13, b14, Or.inl rfl⟩, by omega, by omega, by omega, m1, m2, Or.inl ⟨rfl, rfl⟩, Or.inl rfl⟩
  · exact fun p q => absurd (v4' p) q
  · rw [vne 6 (by decide) (by decide) (by decide), vne 8 (by decide) (by decide) (by decide)]
    unfold zHd
    rw [v24]
    exact hh
  · rw [vne 9 (by decide) (by decide) (by decide), vne 10 (by decide) (by decide) (by decide)]
    unfold zSg
    rw [v24]
    exact hs
  · rw [vne 6 (by decide) (by decide) (by decide), vne 8 (by decide) (by decide) (by decide), vne 11 (by decide) (by decide) (by decide), vne 12 (by decide) (by decide) (by decide)]
    obtain ⟨a1, a2, a3, a4⟩ := hA
    exact ⟨a1, a2, fun i hi => zRw_up (a3 i hi) (Int.le_refl _) (Int.le_refl _) (v4' _) (fun _ q => q), a4⟩
  · rw [v2 j, if_neg q4, if_neg q5, if_neg q1, if_neg q2, if_neg q3]
theorem zI_clock {k : Nat} {σ : zSt} (h : zI k σ) (hk : (σ 5 0).toInt + 1 ≤ 100 * k) (hte : ¬ σ 5 0 + 1 = σ 5 2) : zI k (zuf σ 5 0 (σ 5 0 + 1)) := by
  obtain ⟨hn, hm, hh, hs, hA⟩ := h
  obtain ⟨hp, hc, ht⟩ := hn
  have ei : (σ 5 0 + 1).toInt = (σ 5 0).toInt + 1 := zinc' (by omega)
  rw [zeq, ei] at hte
  have sne : ∀ i, i ≠ 5 → zuf σ 5 0 (σ 5 0 + 1) i = σ i := fun i q => zuf_ne q
  have s5 : ∀ j, zuf σ 5 0 (σ 5 0 + 1) 5 j = if j = 0 then σ 5 0 + 1 else σ 5 j := fun j => zuf_i
  generalize zuf σ 5 0 (σ 5 0 + 1) = s at *
  unfold zI
  rw [sne 2 (by decide), sne 4 (by decide), sne 6 (by decide), sne 8 (by decide), sne 9 (by decide), sne 10 (by decide), sne 11 (by decide), sne 12 (by decide)]
  refine ⟨⟨hp, hc, ?_⟩, hm, hh, hs, hA⟩
  rw [show s 5 0 = σ 5 0 + 1 from s5 0, show s 5 1 = σ 5 1 from s5 1, show s 5 2 = σ 5 2 from s5 2, show s 5 3 = σ 5 3 from s5 3, ei]
  obtain ⟨b1, b2, b3, b4, b5, b6, b7⟩ := ht
  exact ⟨by omega, by omega, by omega, by omega, by omega, by omega, b7⟩
/-- what ticks do: nothing but the clock, or the timer's end -/
def zTk (σ u : zSt) (n x e : Int) : Prop := (u 5 0).toInt = (σ 5 0).toInt + n ∧ (∀ i, i ≠ 2 → i ≠ 4 → i ≠ 5 → u i = σ i) ∧ ((¬ (σ 5 2).toInt = -1 ∧ (σ 5 2).toInt ≤ (σ 5 0).toInt + n ∧ e = x + 1 ∧ (∀ j, j ≠ 3 → j ≠ 7 → j ≠ 8 → j ≠ 10 → j ≠ 11 → u 2 j = σ 2 j) ∧ u 2 3 = σ 2 2 ∧ u 2 11 = -1 ∧ u 5 2 = -1) ∨ (((σ 5 2).toInt = -1 ∨ (σ 5 0).toInt + n < (σ 5 2).toInt) ∧ e = x ∧ u 2 = σ 2 ∧ u 4 = σ 4 ∧ u 5 2 = σ 5 2))
theorem l_ticks (a : Int32) (ha : a.toInt ≤ 100) {k : Nat} : ∀ (m : Nat) (σ : zSt) (x2 x3 : Int32), zI (k + 1) σ → (σ 5 0).toInt ≤ 100 * k + x3.toInt → 0 ≤ x3.toInt → x3.toInt ≤ a.toInt → 0 ≤ x2.toInt → x2.toInt ≤ x3.toInt → (a.toInt - x3.toInt).toNat < m → kl_S_passTicks_4 a m σ x2 x3 ∧ zI (k + 1) (l_S_passTicks_4 a m σ x2 x3).2 ∧ zTk σ (l_S_passTicks_4 a m σ x2 x3).2 (a.toInt - x3.toInt) x2.toInt (l_S_passTicks_4 a m σ x2 x3).1.toInt := by
  intro m
  induction m with
  | zero => intro σ x2 x3 _ _ _ _ _ _ hm; omega
  | succ m ih =>
    intro σ x2 x3 h hnow h30 h3a h20 h23 hm
    unfold kl_S_passTicks_4 l_S_passTicks_4
    by_cases c1 : a ≤ x3
    · rw [if_pos c1]
      have c1' := zle.mp c1
      refine ⟨fun q => absurd c1 q, h, by show (σ 5 0).toInt = _; omega, fun _ _ _ _ => rfl, Or.inr ⟨?_, rfl, rfl, rfl, rfl⟩⟩
      have := h.1.2.2.2.2.2.2.2.1
      omega
    · rw [if_neg c1]
      have c1' := c1
      rw [zle] at c1'
      have hi : (x3 + 1).toInt = x3.toInt + 1 := zinc' (by omega)
      have hi2 : (x2 + 1).toInt = x2.toInt + 1 := zinc' (by omega)
      have hlim := h.1.2.2.2.2.1
      have ei : (σ 5 0 + 1).toInt = (σ 5 0).toInt + 1 := zinc' (by omega)
      have htm := h.1.2.2.2.2.2.2.1
      by_cases ce : σ 5 0 + 1 = σ 5 2
      · have ce' := ce
        rw [zeq, ei] at ce'
        have hpt : f_T_passTick σ = (1, zuf σ 5 0 (σ 5 0 + 1)) := by
          unfold f_T_passTick
          rw [if_neg (by rw [zeq, ztm1]; have := h.1.2.2.1; omega), if_pos ce]
        obtain ⟨o1, o2, o3, o4, o5, o6, o7, o8⟩ := over h (by omega)
        rw [hpt]
        dsimp only [zseq, zlet]
        rw [if_neg (by decide)]
        generalize hg : f_S_startOver (zuf σ 5 0 (σ 5 0 + 1)) = v at *
        obtain ⟨i1, i2, i3, i4, i5⟩ := ih v (x2 + 1) (x3 + 1) o2 (by rw [o7]; omega) (by omega) (by omega) (by omega) (by omega) (by omega)
        refine ⟨fun _ r2 u3 q => ?_, i2, ?_⟩
        · obtain ⟨rfl, rfl⟩ := Prod.mk.inj q
          exact ⟨fun q => absurd q (by decide), fun _ => ⟨o1, fun u6 q => by rw [hg] at q; subst q; exact i1⟩⟩
        · rw [o7] at i3 i5
          rw [o8] at i5
          generalize l_S_passTicks_4 a m v (x2 + 1) (x3 + 1) = w at *
          rcases i5 with i5 | i5
          · exact absurd ztm1 i5.1
          · obtain ⟨j1, j2, j3, j4, j5⟩ := i5
            refine ⟨by omega, fun i q1 q2 q3 => by rw [i4 i q1 q2 q3, o3 i q1 q2 q3], Or.inl ⟨?_, by omega, by omega, fun j q1 q2 q3 q4 q5 => by rw [j3, o4 j q1 q2 q3 q4 q5], by rw [j3]; exact o5, by rw [j3]; exact o6, j5⟩⟩
            have := h.1.2.2.1
            omega
      · have hz := zI_clock h (by omega) ce
        have hpt : f_T_passTick σ = (0, zuf σ 5 0 (σ 5 0 + 1)) := by
          unfold f_T_passTick
          by_cases q : σ 5 2 = -1
          · rw [if_pos q]
          · rw [if_neg q, if_neg ce]
        have ce' := ce
        rw [zeq, ei] at ce'
        rw [hpt]
        dsimp only [zseq, zlet]
        rw [if_pos rfl]
        have sne : ∀ i, i ≠ 5 → zuf σ 5 0 (σ 5 0 + 1) i = σ i := fun i q => zuf_ne q
        have s50 : zuf σ 5 0 (σ 5 0 + 1) 5 0 = σ 5 0 + 1 := zuf_eq
        have s52 : zuf σ 5 0 (σ 5 0 + 1) 5 2 = σ 5 2 := zuf_nj (by decide)
        generalize zuf σ 5 0 (σ 5 0 + 1) = v at *
        obtain ⟨i1, i2, i3, i4, i5⟩ := ih v x2 (x3 + 1) hz (by rw [s50]; omega) (by omega) (by omega) h20 (by omega) (by omega)
        refine ⟨fun _ r2 u3 q => ?_, i2, ?_⟩
        · obtain ⟨rfl, rfl⟩ := Prod.mk.inj q
          exact ⟨fun _ => i1, fun q => absurd rfl q⟩
        · rw [s50] at i3 i5
          rw [s52] at i5
          rw [sne 2 (by decide), sne 4 (by decide)] at i5
          generalize l_S_passTicks_4 a m v x2 (x3 + 1) = w at *
          refine ⟨by omega, fun i q1 q2 q3 => by rw [i4 i q1 q2 q3, sne i q3], ?_⟩
          rcases i5 with i5 | i5
          · exact Or.inl ⟨i5.1, by omega, i5.2.2⟩
          · obtain ⟨j1, j2, j3, j4, j5⟩ := i5
            exact Or.inr ⟨by omega, j2, j3, j4, j5⟩
theorem op_tick {k : Nat} {σ : zSt} (h : zI k σ) (hk : k + 1 ≤ 10000000) {a : Int32} (h1 : 1 ≤ a.toInt) (h2 : a.toInt ≤ 100) : k_X_tick σ a ∧ zI (k + 1) (f_X_tick σ a).2 ∧ zTk σ (f_X_tick σ a).2 a.toInt 0 (f_X_tick σ a).1.toInt := by
  have c1 : ¬ a < 1 := by rw [zlt, zt1]; omega
  have c2 : a ≤ 100 := by rw [zle, zt100]; omega
  have hn := h.1.2.2.2.1
  obtain ⟨k1, k2, k3⟩ := l_ticks a h2 (k := k) ((a.toInt - (0 : Int32).toInt).toNat + 2) σ 0 0 (zI_up h (Nat.le_succ _) hk) (by rw [zt0]; omega) (by decide) (by rw [zt0]; omega) (by decide) (by decide) (by omega)
  have hx : f_X_tick σ a = l_S_passTicks_4 a ((a.toInt - (0 : Int32).toInt).toNat + 2) σ 0 0 := by
    unfold f_X_tick
    rw [if_neg c1, if_pos c2]
    rfl
  rw [hx]
  rw [zt0, show a.toInt - 0 = a.toInt by omega] at k3
  refine ⟨⟨fun q => absurd q c1, fun _ => ⟨fun _ => k1, fun q => absurd c2 q⟩⟩, k2, ?_⟩
  rw [zt0, show a.toInt - 0 = a.toInt by omega]
  exact k3
