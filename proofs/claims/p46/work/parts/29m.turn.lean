/-! a turn of the law -/
theorem zand {x m : Int32} {n : Nat} (hm : m.toBitVec.toNat = n) (hn : n < 1000) : 0 ≤ (x &&& m).toInt ∧ (x &&& m).toInt ≤ n := by
  have h1 : (x &&& m).toBitVec = x.toBitVec &&& m.toBitVec := rfl
  have h2 : (x.toBitVec &&& m.toBitVec).toNat ≤ n := by
    rw [BitVec.toNat_and, hm]
    exact Nat.and_le_right
  have h3 : (x &&& m).toInt = (x.toBitVec &&& m.toBitVec).toInt := by rw [← h1]; rfl
  rw [h3, BitVec.toInt_eq_toNat_of_lt (by omega)]
  omega
theorem z255 (x : Int32) : 0 ≤ (x &&& 255).toInt ∧ (x &&& 255).toInt ≤ 255 := zand (m := 255) (n := 255) rfl (by decide)
theorem z15 (x : Int32) : 0 ≤ (x &&& 15).toInt ∧ (x &&& 15).toInt ≤ 15 := zand (m := 15) (n := 15) rfl (by decide)
theorem zVl_of {f : Int} {σ u : zSt} (h : zVl f σ) (e1 : u 1 = σ 1) (e5 : u 2 5 = σ 2 5) : zVl f u := by
  unfold zVl
  rw [e1, e5]
  exact h
/-- behind a call of read: nothing to read, or the next byte -/
def zRd (k : Nat) (f : Int) (u : zSt) (x3 v : Int32) : Prop := zI k u ∧ zVl f u ∧ ((v = -1 ∧ x3.toInt = (u 6 3).toInt) ∨ (0 ≤ x3.toInt ∧ 0 ≤ v.toInt ∧ v.toInt = (f + x3.toInt) % 256 ∧ (u 6 3).toInt = x3.toInt + 1))
theorem readRd {k : Nat} {f : Int} {σ : zSt} (h : zI k σ) (hv : zVl f σ) {x3 : Int32} (h3 : x3.toInt = (σ 6 3).toInt) : k_X_read σ ∧ zRd k f (f_X_read σ).2 x3 (f_X_read σ).1 := by
  have hp := h.1.1
  by_cases c : (σ 6 3).toInt < (σ 6 2).toInt
  · obtain ⟨k1, r1, r2, r3, r4, r5, r6⟩ := op_read h c
    refine ⟨k1, r2, zVl_of hv (r5 1 (by decide) (by decide) (by decide)) (by rw [r5 2 (by decide) (by decide) (by decide)]), Or.inr ?_⟩
    have := hv (σ 6 3).toInt.toNat (by omega)
    rw [r1, this, r4]
    exact ⟨by omega, Int.emod_nonneg _ (by decide), by rw [show (((σ 6 3).toInt.toNat : Nat) : Int) = x3.toInt by omega], by omega⟩
  · obtain ⟨k1, r1⟩ := op_readNone h (by omega)
    rw [r1]
    exact ⟨k1, h, hv, Or.inl ⟨rfl, h3⟩⟩
theorem l_reads (L : Nat) (xs : Nat → Int32) (x2 x5 x6 x8 : Int32) {k : Nat} {f : Int} (hf : x2.toInt = f) (h0 : 0 ≤ f) (h1 : f < 256) : ∀ (m : Nat) (σ : zSt) (x3 v : Int32), zRd k f σ x3 v → (300 - x3.toInt).toNat < m → kl_L_law_590 L xs x2 x5 x6 x8 m σ x3 1 v ∧ (l_L_law_590 L xs x2 x5 x6 x8 m σ x3 1 v).2.1 = 1 ∧ zI k (l_L_law_590 L xs x2 x5 x6 x8 m σ x3 1 v).2.2 ∧ zVl f (l_L_law_590 L xs x2 x5 x6 x8 m σ x3 1 v).2.2 ∧ (l_L_law_590 L xs x2 x5 x6 x8 m σ x3 1 v).1.toInt = ((l_L_law_590 L xs x2 x5 x6 x8 m σ x3 1 v).2.2 6 3).toInt := by
  intro m
  induction m with
  | zero => intro σ x3 v _ hm; omega
  | succ m ih =>
    intro σ x3 v hR hm
    obtain ⟨hI, hv, hc⟩ := hR
    have hp := hI.1.1
    unfold kl_L_law_590 l_L_law_590
    rcases hc with ⟨c1, c2⟩ | ⟨c0, c1, c2, c3⟩
    · have q : v < 0 := by rw [c1]; decide
      rw [if_pos q]
      exact ⟨fun w => absurd q w, rfl, hI, hv, c2⟩
    · have q : ¬ v < 0 := by rw [zlt, zt0]; omega
      have ei : (x3 + 1).toInt = x3.toInt + 1 := zinc' (by omega)
      have es : (x2 + x3).toInt = f + x3.toInt := by rw [zadd (by omega) (by omega), hf]
      have e600 : s_L_law_600 L xs σ x2 x3 x5 x6 x8 v = 1 := by
        unfold s_L_law_600
        rw [if_pos (by rw [zeq, zrem (by omega) (by decide), es, zt256, c2])]
      obtain ⟨r1, r2⟩ := readRd hI hv (x3 := x3 + 1) (by omega)
      have hnone : zRd k f σ (x3 + 1) (-1) := ⟨hI, hv, Or.inl ⟨rfl, by omega⟩⟩
      have e622 : ks_L_law_622 L xs σ x2 (x3 + 1) 1 x5 x6 x8 ∧ zRd k f (s_L_law_622 L xs σ x2 (x3 + 1) 1 x5 x6 x8).2 (x3 + 1) (s_L_law_622 L xs σ x2 (x3 + 1) 1 x5 x6 x8).1 := by
        refine ⟨⟨fun _ => r1, fun _ _ => r1⟩, ?_⟩
        unfold s_L_law_622
        dsimp only [zseq]
        by_cases d1 : x8 &&& 2 = 0
        · rw [if_pos d1]; exact r2
        · rw [if_neg d1]
          by_cases d2 : x3 + 1 - (x3 + 1) / 5 * 5 ≤ 0
          · rw [if_pos d2]; exact hnone
          · rw [if_neg d2]; exact r2
      obtain ⟨g1, g2⟩ := e622
      obtain ⟨i1, i2⟩ := ih _ _ _ g2 (by omega)
      rw [if_neg q, if_neg (by decide)]
      dsimp only [zlet]
      rw [e600]
      refine ⟨fun _ _ r59 w => ?_, i2⟩
      subst w
      exact ⟨g1, fun r68 w => by subst w; exact i1⟩
/-- what holds as a turn begins -/
def zTh (k : Nat) (f : Int) (σ : zSt) (x2 x3 x10 x11 x12 : Int32) : Prop := zI k σ ∧ k + 700 ≤ 10000000 ∧ zVl f σ ∧ x2.toInt = f ∧ 0 ≤ f ∧ f < 256 ∧ x3.toInt = (σ 6 3).toInt ∧ x10 = σ 9 2 ∧ x11.toInt < (σ 9 2).toInt ∧ x12.toInt < (σ 11 2).toInt
/-- what holds as it ends -/
def zTn (k : Nat) (f : Int) (r : Int32 × Int32 × zSt) : Prop := r.2.1 = 1 ∧ zI k r.2.2 ∧ zVl f r.2.2 ∧ r.1.toInt = (r.2.2 6 3).toInt
section ZTN
variable {L : Nat} {xs : Nat → Int32} {k : Nat} {f : Int} {σ : zSt} {x2 x3 x5 x6 x8 x9 x10 x11 x12 : Int32}
theorem t577 (h : zTh k f σ x2 x3 x10 x11 x12) : ks_L_law_577 L xs σ x2 x3 1 x5 x6 x8 x9 ∧ zTn (k + 700) f (s_L_law_577 L xs σ x2 x3 1 x5 x6 x8 x9) := by
  obtain ⟨hI, hk, hv, h2, h0, h1, h3, -, -, -⟩ := h
  have hp := hI.1.1
  have ht := hI.1.2.2
  have hy := z15 (x8 >>> ((1 : Int32) &&& (31 : Int32)))
  generalize x8 >>> ((1 : Int32) &&& (31 : Int32)) &&& 15 = y at hy
  by_cases c : 15 ≤ x9
  · have hy := z15 (x8 >>> ((1 : Int32) &&& (31 : Int32)))
    unfold ks_L_law_577 s_L_law_577
    dsimp only [zlet, zseq, f_X_time]
    generalize hyy : (x8 >>> ((1 : Int32) &&& (31 : Int32))) &&& 15 = y at *
    have e1 : (1 + y).toInt = 1 + y.toInt := by rw [zadd (by rw [zt1]; omega) (by rw [zt1]; omega), zt1]
    obtain ⟨k1, t1, t2, t3, t4⟩ := op_tick hI (by omega) (a := 1 + y) (by omega) (by omega)
    refine ⟨⟨fun _ _ _ => k1, fun q => absurd c q⟩, ?_⟩
    rw [if_pos c]
    generalize f_X_tick σ (1 + y) = T at *
    obtain ⟨e, u⟩ := T
    dsimp only at t1 t2 t3 t4 ⊢
    have et : (σ 5 0 + (1 + y)).toInt = (σ 5 0).toInt + (1 + y).toInt := zadd (by omega) (by omega)
    have he : 0 ≤ e.toInt ∧ e.toInt ≤ 1 := by
      rcases t4 with q | q
      · omega
      · omega
    rw [if_pos (by rw [zeq, et]; exact t2), if_neg (by rw [zlt, zt0]; omega), if_neg (by rw [zlt, zt1]; omega)]
    have e5 : u 2 5 = σ 2 5 := by
      rcases t4 with q | q
      · exact q.2.2.2.1 5 (by decide) (by decide) (by decide) (by decide) (by decide)
      · rw [q.2.2.1]
    exact ⟨rfl, zI_up t1 (by omega) hk, zVl_of hv (t3 1 (by decide) (by decide) (by decide)) e5, by show x3.toInt = (u 6 3).toInt; rw [t3 6 (by decide) (by decide) (by decide)]; exact h3⟩
  · obtain ⟨r1, r2⟩ := readRd hI hv h3
    unfold ks_L_law_577 s_L_law_577
    rw [if_neg c]
    generalize hX : f_X_read σ = X at *
    obtain ⟨v, u⟩ := X
    dsimp only at r2
    obtain ⟨l1, l2, l3, l4, l5⟩ := l_reads L xs x2 x5 x6 x8 h2 h0 h1 700 u x3 v r2 (by omega)
    refine ⟨⟨fun q => absurd q c, fun _ => ⟨r1, fun r53 u54 q => ?_⟩⟩, ?_⟩
    · obtain ⟨rfl, rfl⟩ := Prod.mk.inj q
      exact l1
    · rw [zseq_e (show (v, u) = (v, u) from rfl)]
      generalize l_L_law_590 L xs x2 x5 x6 x8 700 u x3 1 v = R at *
      dsimp only [zlet, f_X_readPosition]
      rw [if_neg (by rw [l2]; decide), if_pos (by rw [zeq]; exact l5.symm)]
      exact ⟨rfl, zI_up l3 (by omega) hk, l4, l5⟩
theorem t546 (h : zTh k f σ x2 x3 x10 x11 x12) : ks_L_law_546 L xs σ x2 x3 1 x5 x6 x8 x9 x12 ∧ zTn (k + 700) f (s_L_law_546 L xs σ x2 x3 1 x5 x6 x8 x9 x12) := by
  obtain ⟨k1, t1⟩ := t577 (L := L) (xs := xs) (x5 := x5) (x6 := x6) (x8 := x8) (x9 := x9) h
  obtain ⟨hI, hk, hv, h2, h0, h1, h3, h10, h11, h12⟩ := h
  unfold ks_L_law_546 s_L_law_546
  dsimp only [zlet]
  by_cases c1 : x9 = 12
  · by_cases c2 : x12 < 0
    · rw [if_pos c1, if_pos c2]
      exact ⟨⟨fun _ => ⟨fun _ => k1, fun q => absurd c2 q⟩, fun q => absurd c1 q⟩, t1⟩
    · rw [if_pos c1, if_neg c2]
      have c2' := c2
      rw [zlt, zt0] at c2'
      obtain ⟨k2, e2⟩ := op_loseAck hI (a := x12) (by omega) h12
      have hr := zI_remA hI (a := x12) (by omega) h12
      obtain ⟨-, -, m3, -⟩ := remA (σ := σ) (a := x12) (by omega) h12 hI.2.2.2.2.2.1
      obtain ⟨b1, -, -⟩ := hI.2.2.2.2.2.2.1 x12.toInt.toNat (by omega)
      refine ⟨⟨fun _ => ⟨fun q => absurd q c2, fun _ => k2⟩, fun q => absurd c1 q⟩, ?_⟩
      rw [zseq_e e2.symm, if_neg (by rw [zlt, zt0]; omega)]
      exact ⟨rfl, zI_up hr (by omega) hk, zVl_of hv (m3 1 (by decide) (by decide)) (congrFun (m3 2 (by decide) (by decide)) 5), by show x3.toInt = (f_W_remove 11 σ x12 6 3).toInt; rw [m3 6 (by decide) (by decide)]; exact h3⟩
  · rw [if_neg c1]
    exact ⟨⟨fun q => absurd q c1, fun _ => k1⟩, t1⟩
theorem t504 (h : zTh k f σ x2 x3 x10 x11 x12) : ks_L_law_504 L xs σ x2 x3 1 x5 x6 x8 x9 x10 x11 x12 ∧ zTn (k + 700) f (s_L_law_504 L xs σ x2 x3 1 x5 x6 x8 x9 x10 x11 x12) := by
  obtain ⟨k1, t1⟩ := t546 (L := L) (xs := xs) (x5 := x5) (x6 := x6) (x8 := x8) (x9 := x9) h
  obtain ⟨hI, hk, hv, h2, h0, h1, h3, h10, h11, h12⟩ := h
  have hs := hI.2.2.2.1
  unfold ks_L_law_504 s_L_law_504
  dsimp only [zlet]
  by_cases c1 : x9 = 11
  · by_cases c2 : x11 < 0
    · rw [if_pos c1, if_pos c2]
      exact ⟨⟨fun _ => ⟨fun _ => k1, fun q => absurd c2 q⟩, fun q => absurd c1 q⟩, t1⟩
    · rw [if_pos c1, if_neg c2]
      have c2' := c2
      rw [zlt, zt0] at c2'
      obtain ⟨k2, e2⟩ := op_lose hI (a := x11) (by omega) h11
      have hr := zI_remS hI (a := x11) (by omega) h11
      obtain ⟨-, m2, m3, -⟩ := remS (σ := σ) (a := x11) (by omega) h11 hs.2.1
      obtain ⟨b1, -, -, -⟩ := hs.2.2 x11.toInt.toNat (by omega)
      refine ⟨⟨fun _ => ⟨fun q => absurd q c2, fun _ => k2⟩, fun q => absurd c1 q⟩, ?_⟩
      have hseg : f_X_segments (f_W_remove 9 σ x11) = x10 - 1 := by
        show f_W_remove 9 σ x11 9 2 = x10 - 1
        rw [zeq, m2, h10, zdec1 (by omega)]
      rw [zseq_e e2.symm, if_neg (by rw [zlt, zt0]; omega), if_pos hseg]
      exact ⟨rfl, zI_up hr (by omega) hk, zVl_of hv (m3 1 (by decide) (by decide)) (congrFun (m3 2 (by decide) (by decide)) 5), by show x3.toInt = (f_W_remove 9 σ x11 6 3).toInt; rw [m3 6 (by decide) (by decide)]; exact h3⟩
  · rw [if_neg c1]
    exact ⟨⟨fun q => absurd q c1, fun _ => k1⟩, t1⟩
theorem t462 (h : zTh k f σ x2 x3 x10 x11 x12) : ks_L_law_462 L xs σ x2 x3 1 x5 x6 x8 x9 x10 x11 x12 ∧ zTn (k + 700) f (s_L_law_462 L xs σ x2 x3 1 x5 x6 x8 x9 x10 x11 x12) := by
  obtain ⟨k1, t1⟩ := t504 (L := L) (xs := xs) (x5 := x5) (x6 := x6) (x8 := x8) (x9 := x9) h
  obtain ⟨hI, hk, hv, h2, h0, h1, h3, h10, h11, h12⟩ := h
  have hs := hI.2.2.2.1
  unfold ks_L_law_462 s_L_law_462
  dsimp only [zlet]
  by_cases c1 : x9 = 10
  · by_cases c2 : x11 < 0
    · rw [if_pos c1, if_pos c2]
      exact ⟨⟨fun _ => ⟨fun _ => k1, fun q => absurd c2 q⟩, fun q => absurd c1 q⟩, t1⟩
    · rw [if_pos c1, if_neg c2]
      have c2' := c2
      rw [zlt, zt0] at c2'
      by_cases c3 : x10 = 40
      · rw [if_pos c3]
        exact ⟨⟨fun _ => ⟨fun q => absurd q c2, fun _ q => absurd c3 q⟩, fun q => absurd c1 q⟩, rfl, zI_up hI (by omega) hk, hv, h3⟩
      · rw [if_neg c3]
        have c3' := c3
        rw [zeq, zt40, h10] at c3'
        have hs2 := hs.2.1
        obtain ⟨k2, e2, e3, e4⟩ := op_duplicate hI (a := x11) (by omega) h11 (by omega)
        refine ⟨⟨fun _ => ⟨fun q => absurd q c2, fun _ _ => k2⟩, fun q => absurd c1 q⟩, ?_⟩
        generalize f_X_duplicate σ x11 = D at *
        obtain ⟨r, u⟩ := D
        dsimp only at e2 e3 e4
        rw [zseq_e (show (r, u) = (r, u) from rfl), if_pos (by rw [zeq, e2, h10, zinc' (by omega)])]
        exact ⟨rfl, zI_up e4 (by omega) hk, zVl_of hv (e3 1 (by decide) (by decide)) (congrFun (e3 2 (by decide) (by decide)) 5), by show x3.toInt = (u 6 3).toInt; rw [e3 6 (by decide) (by decide)]; exact h3⟩
  · rw [if_neg c1]
    exact ⟨⟨fun q => absurd q c1, fun _ => k1⟩, t1⟩
theorem t439 (h : zTh k f σ x2 x3 x10 x11 x12) : ks_L_law_439 L xs σ x2 x3 1 x5 x6 x8 x9 x10 x11 x12 ∧ zTn (k + 700) f (s_L_law_439 L xs σ x2 x3 1 x5 x6 x8 x9 x10 x11 x12) := by
  obtain ⟨k1, t1⟩ := t462 (L := L) (xs := xs) (x5 := x5) (x6 := x6) (x8 := x8) (x9 := x9) h
  obtain ⟨hI, hk, hv, h2, h0, h1, h3, h10, h11, h12⟩ := h
  unfold ks_L_law_439 s_L_law_439
  dsimp only [zlet]
  by_cases c1 : 10 ≤ x9
  · rw [if_pos c1]
    exact ⟨⟨fun _ => k1, fun q => absurd c1 q⟩, t1⟩
  · rw [if_neg c1]
    by_cases c2 : x12 < 0
    · rw [if_pos c2]
      exact ⟨⟨fun q => absurd q c1, fun _ => ⟨fun _ => k1, fun q => absurd c2 q⟩⟩, t1⟩
    · rw [if_neg c2]
      have c2' := c2
      rw [zlt, zt0] at c2'
      obtain ⟨k2, e2⟩ := isAnsweredOk hI (by omega) (a := x12) (by omega) h12
      obtain ⟨-, i1, u, i2, i3, -, -⟩ := op_deliverAck hI (by omega) (a := x12) (by omega) h12
      refine ⟨⟨fun q => absurd q c1, fun _ => ⟨fun q => absurd q c2, fun _ => k2⟩⟩, ?_⟩
      rw [zseq_e e2.symm]
      refine ⟨rfl, zI_up i1 (by omega) hk, zVl_of hv ?_ ?_, ?_⟩
      · show (f_X_deliverAck σ x12).2 1 = σ 1
        rw [i3 1 (by decide) (by decide), i2.1 1 (by decide) (by decide) (by decide)]
      · show (f_X_deliverAck σ x12).2 2 5 = σ 2 5
        rw [i3 2 (by decide) (by decide), i2.2.2.1.2.1]
      · show x3.toInt = ((f_X_deliverAck σ x12).2 6 3).toInt
        rw [i3 6 (by decide) (by decide), i2.1 6 (by decide) (by decide) (by decide)]
        exact h3
theorem t317 (h : zTh k f σ x2 x3 x10 x11 x12) : ks_L_law_317 L xs σ x2 x3 1 x5 x6 x8 x9 x10 x11 x12 ∧ zTn (k + 700) f (s_L_law_317 L xs σ x2 x3 1 x5 x6 x8 x9 x10 x11 x12) := by
  obtain ⟨k1, t1⟩ := t439 (L := L) (xs := xs) (x5 := x5) (x6 := x6) (x8 := x8) (x9 := x9) h
  obtain ⟨hI, hk, hv, h2, h0, h1, h3, h10, h11, h12⟩ := h
  have hs := hI.2.2.2.1
  have hA := hI.2.2.2.2
  unfold ks_L_law_317 s_L_law_317
  dsimp only [zlet]
  by_cases c1 : 8 ≤ x9
  · rw [if_pos c1]
    exact ⟨⟨fun _ => k1, fun q => absurd c1 q⟩, t1⟩
  · rw [if_neg c1]
    by_cases c2 : x11 < 0
    · rw [if_pos c2]
      exact ⟨⟨fun q => absurd q c1, fun _ => ⟨fun _ => k1, fun q => absurd c2 q⟩⟩, t1⟩
    · rw [if_neg c2]
      have c2' := c2
      rw [zlt, zt0] at c2'
      obtain ⟨-, -, se1, se2⟩ := seeSeg (σ := σ) (a := x11) (by omega) h11 hs.2.1
      obtain ⟨d0, d1, d2, d3, d4, d5, d6, d7, d8, d9, d10, d11, d12, d13, d14⟩ := op_deliver hI (by omega) (a := x11) (by omega) h11
      rw [← se2] at d3
      generalize hX : f_X_deliver σ x11 = X at *
      obtain ⟨r, u⟩ := X
      dsimp only at d1 d2 d3 d4 d5 d6 d7 d13 d14
      have hu := d4.2.2.2.2
      have hlast := d14.2
      have hpos := d14.1
      have hu2 := hu.2.1
      have ha0 := hA.1
      have hm1 : (f_X_acks u - 1).toInt = (u 11 2).toInt - 1 := zdec1 (x := u 11 2) (by omega)
      obtain ⟨⟨n1, n2⟩, -, -⟩ := seeAck (σ := u) (a := f_X_acks u - 1) (by omega) (by omega) hu2
      rw [hm1, Nat.add_zero] at n2
      have n3 : f_X_ackNumber u (f_X_acks u - 1) = f_X_inOrder u := by rw [zeq, n2]; exact hlast
      have hfin : (if f_X_ackNumber u (f_X_acks u - 1) = f_X_inOrder u then (if f_X_inOrder σ < f_X_endOf σ x11 then (x3, (1 : Int32), u) else (if r = 0 then (x3, 1, u) else (x3, 0, u))) else (x3, 0, u)) = (x3, 1, u) := by
        rw [if_pos n3]
        by_cases q : f_X_inOrder σ < f_X_endOf σ x11
        · rw [if_pos q]
        · have q' : ¬ (σ 6 2).toInt < (f_X_endOf σ x11).toInt := fun w => q (zlt.mpr w)
          rw [if_neg q, if_pos (d3 (by omega))]
      have hgood : zTn (k + 700) f (x3, 1, u) := ⟨rfl, zI_up d4 (by omega) hk, zVl_of hv (d5 1 (by decide)) (congrFun (d5 2 (by decide)) 5), by show x3.toInt = (u 6 3).toInt; rw [d6]; exact h3⟩
      refine ⟨⟨fun q => absurd q c1, fun _ => ⟨fun q => absurd q c2, fun _ r108 _ => ⟨se1, fun r110 _ r112 _ => ⟨d0, fun r114 u115 q => ?_⟩⟩⟩⟩, ?_⟩
      · obtain ⟨rfl, rfl⟩ := Prod.mk.inj q
        exact fun _ _ r119 _ _ r122 _ => ⟨fun _ _ r136 q136 => by rw [q136]; exact n1, fun _ _ r126 q126 => by rw [q126]; exact n1⟩
      · have hbb : ¬ f_X_inOrder u < f_X_inOrder σ := by
          show ¬ u 6 2 < σ 6 2
          rw [zlt]; omega
        rw [zseq_e (show (r, u) = (r, u) from rfl), if_neg (by rw [zlt, zt0]; omega), if_neg (by rw [zlt, zt4]; omega), if_neg hbb]
        by_cases q : f_X_acks σ = 40
        · have q' : (σ 11 2).toInt = 40 := by rw [show σ 11 2 = 40 from q]; rfl
          rw [if_pos q'] at d13
          have hx : f_X_acks u = 40 := by
            show u 11 2 = 40
            rw [zeq, zt40]; exact d13
          rw [if_pos q, if_pos hx, hfin]
          exact hgood
        · have q' : ¬ (σ 11 2).toInt = 40 := fun w => q (by show σ 11 2 = 40; rw [zeq, zt40]; exact w)
          rw [if_neg q'] at d13
          have hx : f_X_acks u = f_X_acks σ + 1 := by
            show u 11 2 = σ 11 2 + 1
            rw [zeq, d13, zinc' (by omega)]
          rw [if_neg q, if_pos hx, hfin]
          exact hgood
theorem t295 (h : zTh k f σ x2 x3 x10 x11 x12) : ks_L_law_295 L xs σ x2 x3 1 x5 x6 x8 x9 x10 x11 x12 ∧ zTn (k + 700) f (s_L_law_295 L xs σ x2 x3 1 x5 x6 x8 x9 x10 x11 x12) := by
  obtain ⟨k1, t1⟩ := t317 (L := L) (xs := xs) (x5 := x5) (x6 := x6) (x8 := x8) (x9 := x9) h
  obtain ⟨hI, hk, hv, h2, h0, h1, h3, h10, h11, h12⟩ := h
  unfold ks_L_law_295 s_L_law_295
  dsimp only [zlet]
  by_cases c1 : 5 ≤ x9
  · rw [if_pos c1]
    exact ⟨⟨fun _ => k1, fun q => absurd c1 q⟩, t1⟩
  · rw [if_neg c1]
    by_cases c2 : 40 ≤ x10
    · rw [if_pos c2]
      exact ⟨⟨fun q => absurd q c1, fun _ => ⟨fun _ => k1, fun q => absurd c2 q⟩⟩, t1⟩
    · rw [if_neg c2]
      have c2' := c2
      rw [zle, zt40, h10] at c2'
      obtain ⟨k2, e2⟩ := isSentOk hI (by omega) (by omega)
      obtain ⟨-, i1, i2⟩ := op_send hI (by omega) (by omega)
      refine ⟨⟨fun q => absurd q c1, fun _ => ⟨fun q => absurd q c2, fun _ => k2⟩⟩, ?_⟩
      rw [zseq_e e2.symm]
      generalize f_X_send σ = S at *
      obtain ⟨r, u⟩ := S
      dsimp only at i1 i2 ⊢
      rcases i2 with ⟨-, z1, z2, -⟩ | ⟨s, e, -, z1, z2, -⟩
      · exact ⟨rfl, zI_up i1 (by omega) hk, zVl_of hv (z1 1 (by decide)) (z2 5 (by decide)), by show x3.toInt = (u 6 3).toInt; rw [z1 6 (by decide)]; exact h3⟩
      · exact ⟨rfl, zI_up i1 (by omega) hk, zVl_of hv (z1 1 (by decide) (by decide) (by decide) (by decide)) (z2 5 (by decide) (by decide) (by decide) (by decide) (by decide)), by show x3.toInt = (u 6 3).toInt; rw [z1 6 (by decide) (by decide) (by decide) (by decide)]; exact h3⟩
theorem t227 (h : zTh k f σ x2 x3 x10 x11 x12) : ks_L_law_227 L xs σ x2 x3 1 x5 x6 x8 x9 x10 x11 x12 ∧ zTn (k + 700) f (s_L_law_227 L xs σ x2 x3 1 x5 x6 x8 x9 x10 x11 x12) := by
  obtain ⟨k1, t1⟩ := t295 (L := L) (xs := xs) (x5 := x5) (x6 := x6) (x8 := x8) (x9 := x9) h
  obtain ⟨hI, hk, hv, h2, h0, h1, h3, h10, h11, h12⟩ := h
  have hp := hI.1.1
  have hz := z255 (x8 >>> ((1 : Int32) &&& (31 : Int32)))
  unfold ks_L_law_227 s_L_law_227
  dsimp only [zlet, f_X_written]
  generalize (x8 >>> ((1 : Int32) &&& (31 : Int32))) &&& 255 = z at *
  by_cases c1 : x9 = 0
  · rw [if_pos c1]
    by_cases c2 : 200 < σ 2 5
    · rw [if_pos c2]
      exact ⟨⟨fun _ r q => ⟨fun _ => k1, fun w => absurd (by rw [q]; exact c2) w⟩, fun q => absurd c1 q⟩, t1⟩
    · rw [if_neg c2]
      have c2' := c2
      rw [zlt, show (200 : Int32).toInt = 200 from rfl] at c2'
      have e1 : (x2 + σ 2 5).toInt = f + (σ 2 5).toInt := by rw [zadd (by omega) (by omega), h2]
      have em : ((x2 + σ 2 5) - (x2 + σ 2 5) / 256 * 256).toInt = (f + (σ 2 5).toInt) % 256 := by rw [zrem (by omega) (by decide), e1, zt256]
      have en : (z - z / 100 * 100).toInt = z.toInt % 100 := by rw [zrem (by omega) (by decide), zt100]
      have eo : (1 + (z - z / 100 * 100)).toInt = 1 + z.toInt % 100 := by rw [zadd (by rw [zt1]; omega) (by rw [zt1]; omega), zt1, en]
      have ew : (σ 2 5 + (1 + (z - z / 100 * 100))).toInt = (σ 2 5).toInt + (1 + (z - z / 100 * 100)).toInt := zadd (by omega) (by omega)
      obtain ⟨k2, w1, w2, w3, w4, w5⟩ := op_write hI hv em (a2 := 1 + (z - z / 100 * 100)) (by omega) (by omega) (by omega)
      refine ⟨⟨fun _ r q => ⟨fun w => absurd (by rw [← show r = σ 2 5 from q]; exact w) c2, fun _ r156 q156 => ?_⟩, fun q => absurd c1 q⟩, ?_⟩
      · rw [show r156 = σ 2 5 from q156]
        exact k2
      · generalize f_X_write σ ((x2 + σ 2 5) - (x2 + σ 2 5) / 256 * 256) (1 + (z - z / 100 * 100)) = W at *
        obtain ⟨r, u⟩ := W
        dsimp only [zseq] at w1 w2 w3 w4 w5 ⊢
        rw [if_pos (by rw [zeq, w1, ew])]
        exact ⟨rfl, zI_up w2 (by omega) hk, w3, by show x3.toInt = (u 6 3).toInt; rw [w4 6 (by decide) (by decide)]; exact h3⟩
  · rw [if_neg c1]
    exact ⟨⟨fun q => absurd q c1, fun _ => k1⟩, t1⟩
end ZTN
