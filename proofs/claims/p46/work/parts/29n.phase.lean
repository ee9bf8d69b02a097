/-! the phases of a round in which nothing is lost -/
theorem l_dels (x1 x4 : Int32) {f : Int} : ∀ (m : Nat) (σ : zSt) (x3 : Int32) (k : Nat), zI k σ → zVl f σ → (σ 9 2).toInt < m → k + (σ 9 2).toInt.toNat ≤ 10000000 → kl_L_drains_21 x1 x4 m σ x3 ∧ (l_L_drains_21 x1 x4 m σ x3).1 = x3 ∧ zI (k + (σ 9 2).toInt.toNat) (l_L_drains_21 x1 x4 m σ x3).2 ∧ (∀ i, i < 6 → (l_L_drains_21 x1 x4 m σ x3).2 i = σ i) ∧ (l_L_drains_21 x1 x4 m σ x3).2 6 3 = σ 6 3 ∧ ((l_L_drains_21 x1 x4 m σ x3).2 9 2).toInt = 0 ∧ (σ 6 2).toInt ≤ ((l_L_drains_21 x1 x4 m σ x3).2 6 2).toInt ∧ (∀ p : Int, ¬ zA0 (σ 8) p = 0 → ¬ zA0 ((l_L_drains_21 x1 x4 m σ x3).2 8) p = 0) ∧ (∀ i : Nat, (i : Int) < (σ 9 2).toInt → ∀ p : Int, (σ 10 (2 * i)).toInt ≤ p → p < (σ 10 (2 * i + 1)).toInt → p < (σ 6 3).toInt + 32 → ¬ zA0 ((l_L_drains_21 x1 x4 m σ x3).2 8) p = 0) ∧ ((σ 9 2).toInt = 0 → (l_L_drains_21 x1 x4 m σ x3).2 = σ) ∧ (0 < (σ 9 2).toInt → zLB (l_L_drains_21 x1 x4 m σ x3).2) := by
  intro m
  induction m with
  | zero => intro σ x3 k h _ hm; have := h.2.2.2.1.1; omega
  | succ m ih =>
    intro σ x3 k h hv hm hk
    have hs := h.2.2.2.1.1
    unfold kl_L_drains_21 l_L_drains_21
    dsimp only [zlet]
    by_cases c1 : f_X_segments σ ≤ 0
    · have c1' : (σ 9 2).toInt ≤ 0 := zle.mp c1
      rw [if_pos c1]
      exact ⟨fun r q w => absurd (by rw [q]; exact c1) w, rfl, zI_up h (by omega) hk, fun _ _ => rfl, rfl, by show (σ 9 2).toInt = 0; omega, Int.le_refl _, fun _ q => q, fun i hi => by omega, fun _ => rfl, fun q => by omega⟩
    · have c1' : ¬ (σ 9 2).toInt ≤ 0 := fun w => c1 (zle.mpr w)
      rw [if_neg c1]
      obtain ⟨d0, d1, d2, d3, d4, d5, d6, d7, d8, d9, d10, d11, d12, d13, d14⟩ := op_deliver h (by omega) (a := 0) (by decide) (by rw [zt0]; omega)
      generalize hX : f_X_deliver σ 0 = X at *
      obtain ⟨r, u⟩ := X
      dsimp only at d1 d2 d3 d4 d5 d6 d7 d8 d9 d10 d11 d12 d13 d14
      rw [zt0] at d9 d12
      have hr : 0 ≤ r := by rw [zle, zt0]; exact d1
      have hk2 : k + 1 + (u 9 2).toInt.toNat = k + (σ 9 2).toInt.toNat := by omega
      obtain ⟨i0, i1, i2, i3, i4, i5, i6, i7, i8, i9, i10⟩ := ih u (x3 + 0) (k + 1) d4 (zVl_of hv (d5 1 (by decide)) (congrFun (d5 2 (by decide)) 5)) (by omega) (by omega)
      rw [hk2] at i2
      rw [zseq_e (show (r, u) = (r, u) from rfl), if_pos hr]
      refine ⟨fun r5 _ _ => ⟨d0, fun r8 u9 q => ?_⟩, by rw [i1, Int32.add_zero], i2, fun i q => by rw [i3 i q, d5 i q], by rw [i4, d6], i5, Int.le_trans d7 i6, fun p q => i7 p (d8 p q), ?_, fun q => by omega, fun _ => ?_⟩
      · obtain ⟨rfl, rfl⟩ := Prod.mk.inj q
        exact ⟨fun _ => i0, fun w => absurd hr w⟩
      · intro i hi p p1 p2 p3
        by_cases q : i = 0
        · subst q
          exact i7 p (d9 p p1 p2 p3)
        · have e0 := d12 (i - 1) 0 (by omega) (by decide)
          have e1 := d12 (i - 1) 1 (by omega) (by decide)
          rw [if_neg (by omega), show i - 1 + 1 = i by omega] at e0 e1
          rw [Nat.add_zero, Nat.add_zero] at e0
          exact i8 (i - 1) (by omega) p (by rw [e0]; exact p1) (by rw [e1]; exact p2) (by rw [d6]; exact p3)
      · by_cases q : (u 9 2).toInt = 0
        · rw [i9 q]; exact d14
        · exact i10 (by have := d4.2.2.2.1.1; omega)
/-- a call of read, and what it leaves -/
theorem readStep {k : Nat} {f : Int} {σ : zSt} (h : zI k σ) (hv : zVl f σ) {x3 : Int32} (h3 : x3.toInt = (σ 6 3).toInt) : k_X_read σ ∧ zRd k f (f_X_read σ).2 x3 (f_X_read σ).1 ∧ ((f_X_read σ).1 = -1 → ((f_X_read σ).2 6 3).toInt = ((f_X_read σ).2 6 2).toInt) ∧ (f_X_read σ).2 6 2 = σ 6 2 ∧ (∀ i, i ≠ 6 → i ≠ 11 → i ≠ 12 → (f_X_read σ).2 i = σ i) ∧ (zLB σ → zLB (f_X_read σ).2) ∧ ((σ 6 3).toInt = (σ 6 2).toInt → f_X_read σ = (-1, σ)) := by
  obtain ⟨k1, r1⟩ := readRd h hv h3
  have hp := h.1.1
  refine ⟨k1, r1, ?_⟩
  by_cases c : (σ 6 3).toInt < (σ 6 2).toInt
  · obtain ⟨-, w1, w2, w3, w4, w5, w6⟩ := op_read h c
    refine ⟨fun q => ?_, w3, w5, w6, fun q => by omega⟩
    have := hv (σ 6 3).toInt.toNat (by omega)
    rw [← w1, q, ztm1] at this
    omega
  · obtain ⟨-, w1⟩ := op_readNone h (by omega)
    rw [w1]
    exact ⟨fun _ => by show (σ 6 3).toInt = (σ 6 2).toInt; omega, rfl, fun _ _ _ _ => rfl, fun q => q, fun _ => rfl⟩
theorem l_rds (x1 x4 : Int32) {k : Nat} {f : Int} (hf : x1.toInt = f) (h0 : 0 ≤ f) (h1 : f < 256) : ∀ (m : Nat) (σ : zSt) (x3 v : Int32), zRd k f σ x3 v → (v = -1 → (σ 6 3).toInt = (σ 6 2).toInt) → (300 - x3.toInt).toNat < m → kl_L_drains_55 x1 x4 m σ x3 v ∧ (l_L_drains_55 x1 x4 m σ x3 v).1.toInt = ((l_L_drains_55 x1 x4 m σ x3 v).2 6 3).toInt ∧ zI k (l_L_drains_55 x1 x4 m σ x3 v).2 ∧ ((l_L_drains_55 x1 x4 m σ x3 v).2 6 3).toInt = ((l_L_drains_55 x1 x4 m σ x3 v).2 6 2).toInt ∧ (l_L_drains_55 x1 x4 m σ x3 v).2 6 2 = σ 6 2 ∧ (∀ i, i ≠ 6 → i ≠ 11 → i ≠ 12 → (l_L_drains_55 x1 x4 m σ x3 v).2 i = σ i) ∧ (zLB σ → zLB (l_L_drains_55 x1 x4 m σ x3 v).2) ∧ (v = -1 → (l_L_drains_55 x1 x4 m σ x3 v).2 = σ) := by
  intro m
  induction m with
  | zero => intro σ x3 v _ _ hm; omega
  | succ m ih =>
    intro σ x3 v hR hb hm
    obtain ⟨hI, hv, hc⟩ := hR
    have hp := hI.1.1
    unfold kl_L_drains_55 l_L_drains_55
    rcases hc with ⟨c1, c2⟩ | ⟨c0, c1, c2, c3⟩
    · have q : v < 0 := by rw [c1]; decide
      rw [if_pos q]
      exact ⟨fun w => absurd q w, c2, hI, hb c1, rfl, fun _ _ _ _ => rfl, fun w => w, fun _ => rfl⟩
    · have q : ¬ v < 0 := by rw [zlt, zt0]; omega
      have ei : (x3 + 1).toInt = x3.toInt + 1 := zinc' (by omega)
      have es : (x1 + x3).toInt = f + x3.toInt := by rw [zadd (by omega) (by omega), hf]
      have e60 : s_L_drains_60 σ x1 x3 x4 v = x3 + 1 := by
        unfold s_L_drains_60
        rw [if_pos (by rw [zeq, zrem (by omega) (by decide), es, zt256, c2])]
      obtain ⟨k1, r1, r2, r3, r4, r5, r6⟩ := readStep hI hv (x3 := x3 + 1) (by omega)
      rw [if_neg q]
      dsimp only [zlet]
      rw [e60]
      generalize hX : f_X_read σ = X at *
      obtain ⟨v', u⟩ := X
      dsimp only at r1 r2 r3 r4 r5
      obtain ⟨i0, i1, i2, i3, i4, i5, i6, i7⟩ := ih u (x3 + 1) v' r1 r2 (by omega)
      rw [zseq_e (show (v', u) = (v', u) from rfl)]
      refine ⟨fun _ r18 w => ?_, i1, i2, i3, by rw [i4, r3], fun i q1 q2 q3 => by rw [i5 i q1 q2 q3, r4 i q1 q2 q3], fun w => i6 (r5 w), fun w => ?_⟩
      · subst w
        refine ⟨k1, fun r19 u20 w => ?_⟩
        obtain ⟨rfl, rfl⟩ := Prod.mk.inj w
        exact i0
      · rw [w] at c1
        exact absurd c1 (by decide)
/-- acknowledgments that bring nothing new -/
def zQ (σ τ : zSt) : Prop := (τ 2 2).toInt = (σ 2 2).toInt → (τ 2 3).toInt = (σ 2 3).toInt ∧ ((τ 2 11 = σ 2 11 ∧ τ 2 12 = σ 2 12) ∨ (¬ (τ 2 11).toInt = -1 ∧ (τ 2 12).toInt = (τ 2 2).toInt ∧ (τ 2 2).toInt < (τ 2 3).toInt))
theorem l_acks (x1 x4 : Int32) : ∀ (m : Nat) (σ : zSt) (x3 : Int32) (k : Nat), zI k σ → (σ 11 2).toInt < m → k + (σ 11 2).toInt.toNat ≤ 10000000 → kl_L_drains_91 x1 x4 m σ x3 ∧ (l_L_drains_91 x1 x4 m σ x3).1 = x3 ∧ zI (k + (σ 11 2).toInt.toNat) (l_L_drains_91 x1 x4 m σ x3).2 ∧ ((l_L_drains_91 x1 x4 m σ x3).2 11 2).toInt = 0 ∧ (∀ i, i ≠ 2 → i ≠ 4 → i ≠ 5 → i ≠ 11 → i ≠ 12 → (l_L_drains_91 x1 x4 m σ x3).2 i = σ i) ∧ (l_L_drains_91 x1 x4 m σ x3).2 2 4 = σ 2 4 ∧ (l_L_drains_91 x1 x4 m σ x3).2 2 5 = σ 2 5 ∧ (σ 2 2).toInt ≤ ((l_L_drains_91 x1 x4 m σ x3).2 2 2).toInt ∧ zQ σ (l_L_drains_91 x1 x4 m σ x3).2 ∧ (zLB σ → ((l_L_drains_91 x1 x4 m σ x3).2 2 2).toInt = (σ 6 2).toInt) ∧ ((σ 11 2).toInt = 0 → (l_L_drains_91 x1 x4 m σ x3).2 = σ) := by
  intro m
  induction m with
  | zero => intro σ x3 k h hm; have := h.2.2.2.2.1; omega
  | succ m ih =>
    intro σ x3 k h hm hk
    have hs := h.2.2.2.2.1
    have hp := h.1.1
    unfold kl_L_drains_91 l_L_drains_91
    dsimp only [zlet]
    by_cases c1 : f_X_acks σ ≤ 0
    · have c1' : (σ 11 2).toInt ≤ 0 := zle.mp c1
      rw [if_pos c1]
      exact ⟨fun r q w => absurd (by rw [q]; exact c1) w, rfl, zI_up h (by omega) hk, by show (σ 11 2).toInt = 0; omega, fun _ _ _ _ _ _ => rfl, rfl, rfl, Int.le_refl _, fun _ => ⟨rfl, Or.inl ⟨rfl, rfl⟩⟩, fun w => by have := w.1; omega, fun _ => rfl⟩
    · have c1' : ¬ (σ 11 2).toInt ≤ 0 := fun w => c1 (zle.mpr w)
      rw [if_neg c1]
      obtain ⟨d0, d1, u, d2, d3, d4, d5⟩ := op_deliverAck h (by omega) (a := 0) (by decide) (by rw [zt0]; omega)
      rw [show (0 : Int32).toInt.toNat = 0 from rfl] at d2
      obtain ⟨b1, -, -⟩ := h.2.2.2.2.2.2.1 0 (by omega)
      generalize hX : f_X_deliverAck σ 0 = X at *
      obtain ⟨r, w⟩ := X
      dsimp only at d1 d2 d3 d4 d5
      obtain ⟨t1, t2, t3, t4⟩ := d2
      have w2 : w 2 = u 2 := d3 2 (by decide) (by decide)
      have hA : (σ 2 2).toInt ≤ (w 2 2).toInt ∧ 0 ≤ r.toInt ∧ (w 2 2).toInt ≤ (if (σ 2 2).toInt ≤ (σ 12 (9 * 0 + 0)).toInt then (σ 12 (9 * 0 + 0)).toInt else (σ 2 2).toInt) := by
        rw [w2]
        rcases t4 with q | q
        · rw [q.2.2, if_neg (by omega)]; omega
        · rw [if_pos q.1]; omega
      have hr : 0 ≤ r := by rw [zle, zt0]; exact hA.2.1
      have hQ : zQ σ w := by
        unfold zQ
        rw [w2]
        intro e
        rcases t4 with q | q
        · rw [q.2.2]; exact ⟨rfl, Or.inl ⟨rfl, rfl⟩⟩
        · obtain ⟨q1, q2, q3, q4, q5, q6⟩ := q
          have hN : (u 2 3).toInt = (σ 2 3).toInt := by
            by_cases g : (σ 2 3).toInt ≤ (σ 12 (9 * 0 + 0)).toInt
            · rw [if_pos g] at q4; omega
            · rw [if_neg g] at q4; exact q4
          refine ⟨hN, ?_⟩
          rcases q6 with q6 | q6
          · rcases q6.2.2.2 with g | g
            · exact Or.inl g
            · refine Or.inr ⟨by rw [g.1]; omega, by rw [g.2.1]; omega, by omega⟩
          · omega
      have hk2 : k + 1 + (w 11 2).toInt.toNat = k + (σ 11 2).toInt.toNat := by omega
      obtain ⟨i0, i1, i2, i3, i4, i5, i6, i7, i8, i9, i10⟩ := ih w (x3 + 0) (k + 1) d1 (by omega) (by omega)
      rw [hk2] at i2
      rw [zseq_e (show (r, w) = (r, w) from rfl), if_pos hr]
      have w6 : w 6 = σ 6 := by rw [d3 6 (by decide) (by decide), t1 6 (by decide) (by decide) (by decide)]
      refine ⟨fun r23 _ _ => ⟨d0, fun r26 u27 q => ?_⟩, by rw [i1, Int32.add_zero], i2, i3, fun i q1 q2 q3 q4 q5 => by rw [i4 i q1 q2 q3 q4 q5, d3 i q4 q5, t1 i q1 q2 q3], by rw [i5, w2, t3.1], by rw [i6, w2, t3.2.1], Int.le_trans hA.1 i7, ?_, ?_, fun q => by omega⟩
      · obtain ⟨rfl, rfl⟩ := Prod.mk.inj q
        exact ⟨fun _ => i0, fun g => absurd hr g⟩
      · generalize (l_L_drains_91 x1 x4 m w (x3 + 0)).2 = z at *
        intro e
        obtain ⟨n1, n2⟩ := hQ (by omega)
        obtain ⟨m1, m2⟩ := i8 (by omega)
        refine ⟨by omega, ?_⟩
        rcases m2 with m2 | m2
        · rcases n2 with n2 | n2
          · exact Or.inl ⟨by rw [m2.1, n2.1], by rw [m2.2, n2.2]⟩
          · exact Or.inr ⟨by rw [m2.1]; exact n2.1, by rw [m2.2]; omega, by omega⟩
        · exact Or.inr m2
      · intro hl
        by_cases q : (w 11 2).toInt = 0
        · rw [i10 q]
          have hl2 := hl.2
          rw [show ((σ 11 2).toInt - 1).toNat = 0 by omega] at hl2
          have hx : (σ 12 (9 * 0 + 0)).toInt = (σ 6 2).toInt := hl2
          rw [w2]
          rcases t4 with g | g
          · omega
          · omega
        · have hl2 := hl.2
          have := i9 ⟨by have := d1.2.2.2.2.1; omega, by
            have e := d5 ((w 11 2).toInt - 1).toNat 0 (by omega) (by decide)
            rw [if_neg (by rw [zt0]; omega), Nat.add_zero, Nat.add_zero, show ((w 11 2).toInt - 1).toNat + 1 = ((σ 11 2).toInt - 1).toNat by omega] at e
            rw [e, w6]
            exact hl2⟩
          rw [w6] at this
          exact this
