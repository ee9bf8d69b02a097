/-! marks, duplicates -/
theorem l_marks (a c : Int32) (ha0 : 0 ≤ a.toInt) (ha1 : a.toInt < 40) (hc : c.toInt ≤ 3) : ∀ (m : Nat) (σ : zSt) (x : Int32), 0 ≤ (σ 2 2).toInt → 0 ≤ x.toInt → (∀ k : Nat, (k : Int) < c.toInt → (σ 12 (9 * a.toInt.toNat + (4 + 2 * k))).toInt ≤ 600) → (c.toInt - x.toInt).toNat < m → kl_S_markBlocks_14 a c m σ x ∧ (∀ i, i ≠ 4 → l_S_markBlocks_14 a c m σ x i = σ i) ∧ (∀ p : Int, ¬ zA0 (l_S_markBlocks_14 a c m σ x 4) p = 0 → ¬ zA0 (σ 4) p = 0 ∨ ∃ k : Nat, (k : Int) < c.toInt ∧ (σ 12 (9 * a.toInt.toNat + (3 + 2 * k))).toInt ≤ p ∧ p < (σ 12 (9 * a.toInt.toNat + (4 + 2 * k))).toInt) := by
  intro m
  induction m with
  | zero => intro σ x _ _ _ h; omega
  | succ m ih =>
    intro σ x hA hx hb h
    unfold kl_S_markBlocks_14 l_S_markBlocks_14
    by_cases c1 : c ≤ x
    · rw [if_pos c1]
      exact ⟨fun q => absurd c1 q, fun _ _ => rfl, fun _ q => Or.inl q⟩
    · rw [if_neg c1]
      have c1' := c1
      rw [zle] at c1'
      have hi : (x + 1).toInt = x.toInt + 1 := zinc' (by omega)
      have hz := zidx2 (x := x) hx (by omega)
      obtain ⟨k1, e1⟩ := W_cell11 (σ := σ) (a := a) (i := 3 + 2 * x) ha0 ha1 (by omega) (by omega)
      obtain ⟨k2, e2⟩ := W_cell11 (σ := σ) (a := a) (i := 3 + 2 * x + 1) ha0 ha1 (by omega) (by omega)
      rw [hz.1, show (3 + 2 * x.toInt).toNat = 3 + 2 * x.toInt.toNat by omega] at e1
      rw [hz.2, show (4 + 2 * x.toInt).toNat = 4 + 2 * x.toInt.toNat by omega] at e2
      have hb1 := hb x.toInt.toNat (by omega)
      generalize hs : σ 12 (9 * a.toInt.toNat + (3 + 2 * x.toInt.toNat)) = s at *
      generalize he : σ 12 (9 * a.toInt.toNat + (4 + 2 * x.toInt.toNat)) = e at *
      dsimp only [zlet]
      rw [e1, e2]
      have hmx : (if σ 2 2 < s then s else σ 2 2).toInt = (if (σ 2 2).toInt ≤ s.toInt then s.toInt else (σ 2 2).toInt) := by rw [zmx_lt, zmx_t]
      generalize hy : (if σ 2 2 < s then s else σ 2 2) = y at *
      have hy2 : (σ 2 2).toInt ≤ y.toInt ∧ s.toInt ≤ y.toInt := by
        by_cases q : (σ 2 2).toInt ≤ s.toInt
        · rw [if_pos q] at hmx; omega
        · rw [if_neg q] at hmx; omega
      obtain ⟨f1, f2, -, -, -⟩ := fillEmpty 3 σ y e 1 (by omega) hb1
      rw [show (3 + 1 : Nat) = 4 from rfl] at f2
      generalize hF : f_P_fillEmpty 3 σ y e 1 = F at *
      obtain ⟨r, u⟩ := F
      dsimp only [zseq] at f2 ⊢
      have une : ∀ i, i ≠ 4 → u i = σ i := fun i q => by rw [f2, zfil_ne q]
      obtain ⟨i1, i2, i3⟩ := ih u (x + 1) (by rw [une 2 (by decide)]; exact hA) (by omega) (by rw [une 12 (by decide)]; exact hb) (by omega)
      refine ⟨fun _ => ⟨k1, fun r4 q4 => ⟨k2, fun r6 q6 => ?_⟩⟩, fun i q => by rw [i2 i q, une i q], fun p q => ?_⟩
      · subst q4
        subst q6
        rw [hy]
        refine ⟨f1, fun r8 u9 q => ?_⟩
        rw [hF] at q
        obtain ⟨rfl, rfl⟩ := Prod.mk.inj q
        exact i1
      · rcases i3 p q with w | ⟨k, w1, w2, w3⟩
        · rw [f2] at w
          rcases (zA0_fil (by decide) p).mp w with w | w
          · exact Or.inl w
          · exact Or.inr ⟨x.toInt.toNat, by omega, by rw [hs]; omega, by rw [he]; omega⟩
        · rw [une 12 (by decide)] at w2 w3
          exact Or.inr ⟨k, w1, w2, w3⟩
theorem zI_mark {k : Nat} {σ : zSt} (h : zI k σ) {a : Int32} (h0 : 0 ≤ a.toInt) (h1 : a.toInt < (σ 11 2).toInt) (hnum : (σ 2 2).toInt ≤ (σ 12 (9 * a.toInt.toNat + 0)).toInt) : k_S_markBlocks σ a ∧ zI k (f_S_markBlocks σ a) ∧ (∀ i, i ≠ 4 → f_S_markBlocks σ a i = σ i) := by
  obtain ⟨hn, hm, hh, hs, hA⟩ := h
  have hp := hn.1
  obtain ⟨a1, a2, a3, a4⟩ := hA
  obtain ⟨b1, b2, b3⟩ := a3 a.toInt.toNat (by omega)
  obtain ⟨k1, e1⟩ := W_cell11 (σ := σ) (a := a) (i := 2) h0 (by omega) (by decide) (by decide)
  rw [show (2 : Int32).toInt.toNat = 2 from rfl] at e1
  have hc : (if σ 12 (9 * a.toInt.toNat + 2) < 3 then σ 12 (9 * a.toInt.toNat + 2) else 3 : Int32) = σ 12 (9 * a.toInt.toNat + 2) := by
    by_cases q : σ 12 (9 * a.toInt.toNat + 2) < 3
    · rw [if_pos q]
    · rw [if_neg q]
      rw [zlt, zt3] at q
      rw [zeq, zt3]
      omega
  obtain ⟨l1, l2, l3⟩ := l_marks a (σ 12 (9 * a.toInt.toNat + 2)) h0 (by omega) (by omega) (((σ 12 (9 * a.toInt.toNat + 2)).toInt - (0 : Int32).toInt).toNat + 2) σ 0 (by omega) (by decide) (fun k hk => (b3 k hk).2.2.1) (by rw [zt0]; omega)
  have hx : f_S_markBlocks σ a = l_S_markBlocks_14 a (σ 12 (9 * a.toInt.toNat + 2)) (((σ 12 (9 * a.toInt.toNat + 2)).toInt - (0 : Int32).toInt).toNat + 2) σ 0 := by
    unfold f_S_markBlocks
    dsimp only [zlet]
    rw [e1, hc]
  rw [hx]
  have hkk : k_S_markBlocks σ a := by
    refine ⟨k1, fun r1 q => ?_⟩
    rw [e1] at q
    subst q
    rw [hc]
    exact l1
  generalize l_S_markBlocks_14 a (σ 12 (9 * a.toInt.toNat + 2)) (((σ 12 (9 * a.toInt.toNat + 2)).toInt - (0 : Int32).toInt).toNat + 2) σ 0 = u at *
  refine ⟨hkk, ?_, l2⟩
  unfold zI
  rw [l2 2 (by decide), l2 5 (by decide), l2 6 (by decide), l2 8 (by decide), l2 9 (by decide), l2 10 (by decide), l2 11 (by decide), l2 12 (by decide)]
  refine ⟨hn, fun p q => ?_, hh, hs, a1, a2, fun i hi => ?_, a4⟩
  · rcases l3 p q with w | ⟨k, w1, w2, w3⟩
    · exact hm p w
    · obtain ⟨d1, d2, d3, d4⟩ := b3 k w1
      have hheld := d4 p w2 w3
      exact ⟨by omega, (hh.2.2 p hheld).1, hheld⟩
  · refine zRw_up (a3 i hi) (Int.le_refl _) (Int.le_refl _) ?_ (fun _ q => q)
    by_cases q : zA0 (u 4) (σ 12 (9 * i + 0)).toInt = 0
    · exact q
    · rcases l3 _ q with w | ⟨k, w1, w2, w3⟩
      · exact absurd (a3 i hi).2.1 w
      · exact absurd ⟨w2, w3⟩ (a4 a.toInt.toNat i (by omega) hi k w1)
/-- a duplicate is counted -/
def zDu (σ u : zSt) : Prop := (∀ i, i ≠ 2 → i ≠ 5 → u i = σ i) ∧ (u 2 10).toInt = (σ 2 10).toInt + 1 ∧ (∀ j, j ≠ 7 → j ≠ 8 → j ≠ 10 → j ≠ 11 → j ≠ 12 → u 2 j = σ 2 j) ∧ (∀ j, j ≠ 3 → u 5 j = σ 5 j) ∧ ((u 2 7 = σ 2 7 ∧ u 2 8 = σ 2 8 ∧ u 2 11 = σ 2 11 ∧ u 2 12 = σ 2 12 ∧ u 5 3 = σ 5 3) ∨ (8 ≤ (u 2 7).toInt ∧ (u 2 7).toInt ≤ 256 ∧ 8 ≤ (u 2 8).toInt ∧ (u 2 8).toInt ≤ 256 ∧ u 2 11 = σ 2 3 ∧ u 2 12 = σ 2 2 ∧ (u 5 3).toInt = -1))
theorem zI_dup {k : Nat} {σ : zSt} (h : zI k σ) (hk : k + 1 ≤ 10000000) (h1 : (σ 2 2).toInt < (σ 2 3).toInt) : k_S_countDuplicate σ ∧ zI (k + 1) (f_S_countDuplicate σ) ∧ zDu σ (f_S_countDuplicate σ) := by
  obtain ⟨hn, hm, hh, hs, hA⟩ := h
  have hn' := hn
  obtain ⟨hp, hc, ht⟩ := hn'
  have hi : (σ 2 10 + 1).toInt = (σ 2 10).toInt + 1 := zinc' (by omega)
  have s2 : ∀ j, j ≠ 10 → zuf σ 2 10 (σ 2 10 + 1) 2 j = σ 2 j := fun j q => zuf_nj q
  have s10 : zuf σ 2 10 (σ 2 10 + 1) 2 10 = σ 2 10 + 1 := zuf_eq
  have sne : ∀ i, i ≠ 2 → zuf σ 2 10 (σ 2 10 + 1) i = σ i := fun i q => zuf_ne q
  obtain ⟨kh, g1, g2⟩ := half (σ := zuf σ 2 10 (σ 2 10 + 1)) (by rw [s2 2 (by decide)]; omega) (by rw [s2 3 (by decide)]; omega) (by rw [s2 2 (by decide), s2 3 (by decide)]; omega)
  have hD : zDu σ (f_S_countDuplicate σ) := by
    unfold f_S_countDuplicate f_T_forgetTiming
    dsimp only [zlet]
    generalize f_S_halfOfFlying (zuf σ 2 10 (σ 2 10 + 1)) = r at *
    have h0 : zDu σ (zuf σ 2 10 (σ 2 10 + 1)) := ⟨fun i q1 q2 => sne i q1, by rw [s10, hi], fun j q1 q2 q3 q4 q5 => s2 j q3, fun j q => by rw [sne 5 (by decide)], Or.inl ⟨s2 7 (by decide), s2 8 (by decide), s2 11 (by decide), s2 12 (by decide), by rw [sne 5 (by decide)]⟩⟩
    by_cases c1 : σ 2 10 + 1 = 3
    · rw [if_pos c1]
      by_cases c2 : σ 2 11 = -1
      · rw [if_pos c2]
        refine ⟨fun i q1 q2 => ?_, ?_, fun j q1 q2 q3 q4 q5 => ?_, fun j q => ?_, Or.inr ⟨?_, ?_, ?_, ?_, ?_, ?_, ?_⟩⟩
        · rw [zuf_ne q2, zuf_ne q1, zuf_ne q1, zuf_ne q1, zuf_ne q1, sne i q1]
        · rw [zuf_ne (by decide), zuf_nj (by decide), zuf_nj (by decide), zuf_nj (by decide), zuf_nj (by decide), s10, hi]
        · rw [zuf_ne (by decide), zuf_nj q5, zuf_nj q4, zuf_nj q1, zuf_nj q2, s2 j q3]
        · rw [zuf_nj q, zuf_ne (by decide), zuf_ne (by decide), zuf_ne (by decide), zuf_ne (by decide), sne 5 (by decide)]
        · rw [zuf_ne (by decide), zuf_nj (by decide), zuf_nj (by decide), zuf_eq]; exact g1
        · rw [zuf_ne (by decide), zuf_nj (by decide), zuf_nj (by decide), zuf_eq]; exact g2
        · rw [zuf_ne (by decide), zuf_nj (by decide), zuf_nj (by decide), zuf_nj (by decide), zuf_eq]; exact g1
        · rw [zuf_ne (by decide), zuf_nj (by decide), zuf_nj (by decide), zuf_nj (by decide), zuf_eq]; exact g2
        · rw [zuf_ne (by decide), zuf_nj (by decide), zuf_eq]
        · rw [zuf_ne (by decide), zuf_eq]
        · rw [zuf_eq]; rfl
      · rw [if_neg c2]; exact h0
    · rw [if_neg c1]; exact h0
  refine ⟨fun _ _ => kh, ?_, hD⟩
  generalize f_S_countDuplicate σ = u at *
  obtain ⟨d1, d2, d3, d4, d5⟩ := hD
  unfold zI
  rw [d1 4 (by decide) (by decide), d1 6 (by decide) (by decide), d1 8 (by decide) (by decide), d1 9 (by decide) (by decide), d1 10 (by decide) (by decide), d1 11 (by decide) (by decide), d1 12 (by decide) (by decide)]
  have e2 := d3 2 (by decide) (by decide) (by decide) (by decide) (by decide)
  have e3 := d3 3 (by decide) (by decide) (by decide) (by decide) (by decide)
  have e4 := d3 4 (by decide) (by decide) (by decide) (by decide) (by decide)
  have e5 := d3 5 (by decide) (by decide) (by decide) (by decide) (by decide)
  have e6 := d3 6 (by decide) (by decide) (by decide) (by decide) (by decide)
  have e9 := d3 9 (by decide) (by decide) (by decide) (by decide) (by decide)
  have e13 := d3 13 (by decide) (by decide) (by decide) (by decide) (by decide)
  have e14 := d3 14 (by decide) (by decide) (by decide) (by decide) (by decide)
  refine ⟨?_, ?_, ?_, ?_, hA⟩
  · unfold zNum
    rw [e2, e3, e4, e5, e6, e9, e13, e14, d2, d4 0 (by decide), d4 1 (by decide), d4 2 (by decide)]
    obtain ⟨b1, b2, b3, b4, b5, b6, b7, b8, b9, b10, b11, b12, b13, b14, b15⟩ := hc
    obtain ⟨c1, c2, c3, c4, c5, c6, c7⟩ := ht
    rcases d5 with ⟨x7, x8, x11, x12, x3⟩ | ⟨x7, x7', x8, x8', x11, x12, x3⟩
    · rw [x7, x8, x11, x12, x3]
      exact ⟨hp, ⟨b1, b2, b3, b4, b5, by omega, by omega, b8, b9, by omega, b11, by omega, b13, b14, b15⟩, c1, by omega, hk, c4, c5, c6, c7⟩
    · rw [x11, x12]
      exact ⟨hp, ⟨by omega, x7', x8, x8', b5, by omega, by omega, b8, b9, by omega, b11, by omega, by omega, by omega, Or.inr ⟨h1, by omega⟩⟩, c1, by omega, hk, c4, c5, c6, Or.inl x3⟩
  · unfold zMk
    rw [e2, e4]
    exact hm
  · unfold zHd
    rw [e4]
    exact hh
  · unfold zSg
    rw [e4]
    exact hs
/-- A grows: the state is in order -/
theorem zI_adv {k : Nat} {σ τ : zSt} (h : zI k σ) {a : Int32} (h0 : 0 ≤ a.toInt) (h1 : a.toInt < (σ 11 2).toInt) (hnum : (σ 2 2).toInt < (σ 12 (9 * a.toInt.toNat + 0)).toInt) (e1 : ∀ i, i ≠ 2 → τ i = σ i) (e2 : ∀ j, j ≠ 6 → τ 2 j = σ 2 j) (e6 : (τ 2 6).toInt = (if (σ 2 6).toInt ≤ (σ 12 (9 * a.toInt.toNat + 0)).toInt + (σ 12 (9 * a.toInt.toNat + 1)).toInt then (σ 12 (9 * a.toInt.toNat + 0)).toInt + (σ 12 (9 * a.toInt.toNat + 1)).toInt else (σ 2 6).toInt)) {u : zSt} (hu : zAdv τ u (σ 12 (9 * a.toInt.toNat + 0))) : zI k u := by
  obtain ⟨hn, hm, hh, hs, hA⟩ := h
  have hn' := hn
  obtain ⟨hp, hc, ht⟩ := hn'
  obtain ⟨a1, a2, a3, a4⟩ := hA
  obtain ⟨b1, b2, b3⟩ := a3 a.toInt.toNat (by omega)
  generalize σ 12 (9 * a.toInt.toNat + 0) = x at *
  generalize σ 12 (9 * a.toInt.toNat + 1) = y at *
  obtain ⟨v1, v2, v3, v4, v5, v6, v7, v8, v9, v10, v11, v12⟩ := hu
  rw [e2 2 (by decide)] at v2
  rw [e2 3 (by decide)] at v4
  rw [e2 7 (by decide), e2 8 (by decide), e2 11 (by decide)] at v7
  rw [e1 5 (by decide)] at v8 v11 v12
  have vne : ∀ i, i ≠ 2 → i ≠ 4 → i ≠ 5 → u i = σ i := fun i q1 q2 q3 => by rw [v1 i q1 q2 q3, e1 i q1]
  have vj : ∀ j, j ≠ 2 → j ≠ 3 → j ≠ 6 → j ≠ 7 → j ≠ 10 → j ≠ 11 → u 2 j = σ 2 j := fun j q1 q2 q3 q4 q5 q6 => by rw [v6 j q1 q2 q4 q5 q6, e2 j q3]
  have w4 := vj 4 (by decide) (by decide) (by decide) (by decide) (by decide) (by decide)
  have w5 := vj 5 (by decide) (by decide) (by decide) (by decide) (by decide) (by decide)
  have w8 := vj 8 (by decide) (by decide) (by decide) (by decide) (by decide) (by decide)
  have w9 := vj 9 (by decide) (by decide) (by decide) (by decide) (by decide) (by decide)
  have w12 := vj 12 (by decide) (by decide) (by decide) (by decide) (by decide) (by decide)
  have w13 := vj 13 (by decide) (by decide) (by decide) (by decide) (by decide) (by decide)
  have w14 := vj 14 (by decide) (by decide) (by decide) (by decide) (by decide) (by decide)
  have w6 : u 2 6 = τ 2 6 := v6 6 (by decide) (by decide) (by decide) (by decide) (by decide)
  rw [← w6] at e6
  have v4' : (u 2 4).toInt = (σ 2 4).toInt := by rw [w4]
  have hN : x.toInt ≤ (u 2 3).toInt ∧ (σ 2 3).toInt ≤ (u 2 3).toInt ∧ (u 2 3).toInt ≤ (σ 2 4).toInt := by
    by_cases q : (σ 2 3).toInt ≤ x.toInt
    · rw [if_pos q] at v4; omega
    · rw [if_neg q] at v4; omega
  have hE : 32 ≤ (u 2 6).toInt ∧ (u 2 6).toInt ≤ (σ 6 3).toInt + 32 ∧ (u 2 6).toInt ≤ x.toInt + 32 := by
    by_cases q : (σ 2 6).toInt ≤ x.toInt + y.toInt
    · rw [if_pos q] at e6; omega
    · rw [if_neg q] at e6; omega
  have hmk : ∀ p : Int, ¬ zA0 (u 4) p = 0 → ¬ zA0 (σ 4) p = 0 ∧ ¬ ((σ 2 2).toInt ≤ p ∧ p < x.toInt) := fun p q => by
    rw [v2] at q
    have := (zA0_clr p).mp q
    rw [e1 4 (by decide)] at this
    exact this
  unfold zI
  rw [vne 6 (by decide) (by decide) (by decide), vne 8 (by decide) (by decide) (by decide), vne 9 (by decide) (by decide) (by decide), vne 10 (by decide) (by decide) (by decide), vne 11 (by decide) (by decide) (by decide), vne 12 (by decide) (by decide) (by decide)]
  refine ⟨?_, ?_, ?_, ?_, a1, a2, fun i hi => ?_, a4⟩
  · unfold zNum
    rw [v3, w4, w5, w8, w9, w12, w13, w14, v8, show (u 2 10).toInt = 0 by rw [v5]; rfl]
    obtain ⟨c1, c2, c3, c4, c5, c6, c7, c8, c9, c10, c11, c12, c13, c14, c15⟩ := hc
    obtain ⟨d1, d2, d3, d4, d5, d6, d7⟩ := ht
    refine ⟨by omega, ⟨?_, ?_, c3, c4, c5, by omega, by omega, c8, c9, c10, c11, c12, c13, c14, ?_⟩, d1, d2, d3, v9, v10, ?_, ?_⟩
    · rcases v7 with q | q | q
      · omega
      · rw [q.2.2.2]; exact c1
      · rw [q.2.2]; omega
    · rcases v7 with q | q | q
      · omega
      · rw [q.2.2.2]; exact c2
      · rw [q.2.2]; exact c4
    · rcases v7 with q | q | q
      · exact Or.inl q.2.1
      · rw [q.2.2.1]; exact Or.inr ⟨q.2.1, by omega⟩
      · exact Or.inl q.2.1
    · by_cases q : x = u 2 3
      · rw [if_pos q] at v11
        exact Or.inl ⟨by rw [v11]; rfl, by rw [← q]⟩
      · rw [if_neg q] at v11
        have : (σ 5 0 + u 5 1).toInt = (σ 5 0).toInt + (u 5 1).toInt := zadd (by omega) (by omega)
        rw [v11, this]
        exact Or.inr ⟨by omega, by omega⟩
    · rcases v12 with q | q
      · exact Or.inl q
      · rw [q.1]; exact Or.inr ⟨q.2, by omega⟩
  · intro p q
    obtain ⟨q1, q2⟩ := hmk p q
    have g := hm p q1
    rw [v3, w4]
    refine ⟨?_, g.2.1, g.2.2⟩
    have hne : ¬ p = x.toInt := fun w => by rw [w] at q1; exact q1 b2
    omega
  · unfold zHd
    rw [w4]
    exact hh
  · unfold zSg
    rw [w4]
    exact hs
  · refine zRw_up (a3 i hi) (Int.le_refl _) (Int.le_refl _) ?_ (fun _ q => q)
    by_cases q : zA0 (u 4) (σ 12 (9 * i + 0)).toInt = 0
    · exact q
    · exact absurd (a3 i hi).2.1 (hmk _ q).1
