/-! the network, and what the receiver does -/
theorem op_lose {k : Nat} {σ : zSt} (h : zI k σ) {a : Int32} (h0 : 0 ≤ a.toInt) (h1 : a.toInt < (σ 9 2).toInt) : k_X_lose σ a ∧ f_X_lose σ a = (σ 10 (2 * a.toInt.toNat), f_W_remove 9 σ a) := by
  have hh := holdsY (c := 9) h0 h1
  have h4 := h.2.2.2.1.2.1
  obtain ⟨k1, e1⟩ := W_cell9 (σ := σ) (a := a) (i := 0) h0 (by omega) (by decide) (by decide)
  have k2 := (remS h0 h1 h4).1
  refine ⟨fun r hr => ⟨fun q => absurd (hr.symm.trans q) hh, fun _ => ⟨k1, fun _ _ => k2⟩⟩, ?_⟩
  unfold f_X_lose
  dsimp only [zlet]
  rw [if_neg hh, e1]
  rfl
theorem op_loseAck {k : Nat} {σ : zSt} (h : zI k σ) {a : Int32} (h0 : 0 ≤ a.toInt) (h1 : a.toInt < (σ 11 2).toInt) : k_X_loseAck σ a ∧ f_X_loseAck σ a = (σ 12 (9 * a.toInt.toNat + 0), f_W_remove 11 σ a) := by
  have hh := holdsY (c := 11) h0 h1
  have h4 := h.2.2.2.2.2.1
  obtain ⟨k1, e1⟩ := W_cell11 (σ := σ) (a := a) (i := 0) h0 (by omega) (by decide) (by decide)
  have k2 := (remA h0 h1 h4).1
  refine ⟨fun r hr => ⟨fun q => absurd (hr.symm.trans q) hh, fun _ => ⟨k1, fun _ _ => k2⟩⟩, ?_⟩
  unfold f_X_loseAck
  dsimp only [zlet]
  rw [if_neg hh, e1]
  rfl
theorem zfull {c : Nat} {σ : zSt} (h1 : (σ c 2).toInt < 40) : f_W_isFull c σ = 0 := by
  unfold f_W_isFull
  rw [if_pos (by rw [zlt, zt40]; omega)]
theorem op_duplicate {k : Nat} {σ : zSt} (h : zI k σ) {a : Int32} (h0 : 0 ≤ a.toInt) (h1 : a.toInt < (σ 9 2).toInt) (h4 : (σ 9 2).toInt < 40) : k_X_duplicate σ a ∧ (f_X_duplicate σ a).1.toInt = (σ 9 2).toInt + 1 ∧ (∀ i, i ≠ 9 → i ≠ 10 → (f_X_duplicate σ a).2 i = σ i) ∧ zI k (f_X_duplicate σ a).2 := by
  have hh := holdsY (c := 9) h0 h1
  have hf := zfull (c := 9) h4
  have ha := zadd_row (c := 9) (σ := σ) (by omega) h4
  have hi : (σ 9 2 + 1).toInt = (σ 9 2).toInt + 1 := zinc' (by omega)
  generalize ht : zuf σ 9 2 (σ 9 2 + 1) = t at ha
  have t10 : t 10 = σ 10 := by rw [← ht, zuf_ne (by decide)]
  have t92 : t 9 2 = σ 9 2 + 1 := by rw [← ht, zuf_eq]
  have tne : ∀ i, i ≠ 9 → t i = σ i := fun i q => by rw [← ht, zuf_ne q]
  obtain ⟨k1, e1⟩ := W_cell9 (σ := t) (a := a) (i := 0) h0 (by omega) (by decide) (by decide)
  rw [show (0 : Int32).toInt.toNat = 0 from rfl, Nat.add_zero, t10] at e1
  obtain ⟨k2, e2⟩ := W_set9 (σ := t) (a := σ 9 2) (i := 0) (v := σ 10 (2 * a.toInt.toNat)) (by omega) (by omega) (by decide) (by decide)
  rw [show (0 : Int32).toInt.toNat = 0 from rfl, Nat.add_zero] at e2
  generalize hu : f_W_setCell 9 t (σ 9 2) 0 (σ 10 (2 * a.toInt.toNat)) = u at *
  obtain ⟨k3, e3⟩ := W_cell9 (σ := u) (a := a) (i := 1) h0 (by omega) (by decide) (by decide)
  rw [show (1 : Int32).toInt.toNat = 1 from rfl, e2, zuf_nj (by omega), t10] at e3
  obtain ⟨k4, e4⟩ := W_set9 (σ := u) (a := σ 9 2) (i := 1) (v := σ 10 (2 * a.toInt.toNat + 1)) (by omega) (by omega) (by decide) (by decide)
  rw [show (1 : Int32).toInt.toNat = 1 from rfl] at e4
  have hx : f_X_duplicate σ a = ((f_W_setCell 9 u (σ 9 2) 1 (σ 10 (2 * a.toInt.toNat + 1))) 9 2, f_W_setCell 9 u (σ 9 2) 1 (σ 10 (2 * a.toInt.toNat + 1))) := by
    unfold f_X_duplicate
    dsimp only [zlet, zseq]
    rw [if_neg hh, if_pos hf, ha]
    dsimp only
    rw [e1, hu, show f_W_cell 9 u a 1 = σ 10 (2 * a.toInt.toNat + 1) by rw [← e3, e2]]
  generalize hv : f_W_setCell 9 u (σ 9 2) 1 (σ 10 (2 * a.toInt.toNat + 1)) = v at *
  rw [hx]
  have v92 : v 9 2 = σ 9 2 + 1 := by rw [e4, zuf_ne (by decide), e2, zuf_ne (by decide), t92]
  have vne : ∀ i, i ≠ 9 → i ≠ 10 → v i = σ i := fun i q1 q2 => by rw [e4, zuf_ne q2, e2, zuf_ne q2, tne i q1]
  refine ⟨?_, by show (v 9 2).toInt = _; rw [v92, hi], vne, ?_⟩
  · intro r hr
    refine ⟨fun q => absurd (hr.symm.trans q) hh, fun _ r4 e => ⟨fun _ => ?_, fun q => absurd (e.trans hf) q⟩⟩
    intro r7 u8 e
    rw [ha] at e
    obtain ⟨rfl, rfl⟩ := Prod.mk.inj e
    refine ⟨k1, fun r10 e => ?_⟩
    rw [e1] at e
    subst e
    refine ⟨k2, fun u12 e => ?_⟩
    rw [hu] at e
    subst e
    refine ⟨k3, fun r14 e => ?_⟩
    rw [show f_W_cell 9 u12 a 1 = σ 10 (2 * a.toInt.toNat + 1) by rw [← e3, e2]] at e
    subst e
    exact k4
  · have hs := h.2.2.2.1
    refine zI_eq h (vne 2 (by decide) (by decide)) (vne 4 (by decide) (by decide)) (vne 5 (by decide) (by decide)) (vne 6 (by decide) (by decide)) (vne 8 (by decide) (by decide)) ?_ ?_
    · show zSg (σ 2) (v 9 2) (v 10)
      rw [v92]
      refine zSg_rows hs (by omega) (by omega) (fun i hi2 => ?_)
      by_cases q : (i : Int) < (σ 9 2).toInt
      · refine ⟨i, q, fun j hj => ?_⟩
        rw [e4, zuf_nj (by omega), e2, zuf_nj (by omega), t10]
      · refine ⟨a.toInt.toNat, by omega, fun j hj => ?_⟩
        have hi3 : i = (σ 9 2).toInt.toNat := by omega
        subst hi3
        rcases (by omega : j = 0 ∨ j = 1) with rfl | rfl
        · rw [e4, zuf_nj (by omega), e2, Nat.add_zero, zuf_eq, Nat.add_zero]
        · rw [e4, zuf_eq]
    · show zAk (σ 6) (σ 4) (σ 8) (v 11 2) (v 12)
      rw [vne 11 (by decide) (by decide), vne 12 (by decide) (by decide)]
      exact h.2.2.2.2
/-! the written bytes -/
theorem zrem {y d : Int32} (hy : 0 ≤ y.toInt) (hd : 0 < d.toInt) : (y - y / d * d).toInt = y.toInt % d.toInt := by
  have h1 := zdiv hy hd
  have h2 : 0 ≤ y.toInt / d.toInt := Int.ediv_nonneg hy (by omega)
  have h3 : y.toInt / d.toInt * d.toInt ≤ y.toInt := Int.ediv_mul_le _ (by omega)
  have h4 : 0 ≤ y.toInt / d.toInt * d.toInt := Int.mul_nonneg h2 (by omega)
  have hb := zb2 y
  have h5 : (y / d * d).toInt = y.toInt / d.toInt * d.toInt := by rw [zmul (by rw [h1]; omega) (by rw [h1]; omega), h1]
  rw [zsub (by omega) (by omega), h5, Int.emod_def, Int.mul_comm]
theorem l_write (a1 a2 w : Int32) (hw : 0 ≤ w.toInt) (hw2 : w.toInt + a2.toInt ≤ 600) (ha : 0 ≤ a1.toInt) (ha1 : a1.toInt < 256) : ∀ (m : Nat) (σ : zSt) (x : Int32), σ 2 5 = w → 0 ≤ x.toInt → (a2.toInt - x.toInt).toNat < m → kl_X_write_55 a1 a2 m σ x ∧ (∀ i, i ≠ 1 → l_X_write_55 a1 a2 m σ x i = σ i) ∧ (∀ p : Nat, (p : Int) < w.toInt + x.toInt → l_X_write_55 a1 a2 m σ x 1 p = σ 1 p) ∧ (∀ p : Nat, w.toInt + x.toInt ≤ (p : Int) → (p : Int) < w.toInt + a2.toInt → (l_X_write_55 a1 a2 m σ x 1 p).toInt = (a1.toInt + (p - w.toInt)) % 256) := by
  intro m
  induction m with
  | zero => intro σ x _ _ h; omega
  | succ m ih =>
    intro σ x e5 hx h
    unfold kl_X_write_55 l_X_write_55
    by_cases c1 : a2 ≤ x
    · rw [if_pos c1]
      rw [zle] at c1
      exact ⟨fun q => absurd (zle.mpr c1) q, fun _ _ => rfl, fun _ _ => rfl, fun p h1 h2 => by omega⟩
    · rw [if_neg c1]
      have c1' := c1
      rw [zle] at c1'
      have hi : (x + 1).toInt = x.toInt + 1 := zinc (y := a2) (zlt.mpr (by omega))
      have es : (σ 2 5 + x).toInt = w.toInt + x.toInt := by rw [e5, zadd (by omega) (by omega)]
      have c2 : ¬ σ 2 5 + x < 0 := by rw [zlt, zt0, es]; omega
      have c3 : ¬ 600 ≤ σ 2 5 + x := by rw [zle, zt600, es]; omega
      rw [if_neg c2, if_neg c3]
      have hn : (σ 2 5 + x).toNatClampNeg = (w.toInt + x.toInt).toNat := by rw [zNat, es]
      rw [hn]
      have ea : (a1 + x).toInt = a1.toInt + x.toInt := zadd (by omega) (by omega)
      have em : ((a1 + x) - (a1 + x) / 256 * 256).toInt = (a1.toInt + x.toInt) % 256 := by rw [zrem (by omega) (by decide), ea, zt256]
      generalize hg : ((a1 + x) - (a1 + x) / 256 * 256) = g at *
      obtain ⟨i1, i2, i3, i4⟩ := ih (zuf σ 1 (w.toInt + x.toInt).toNat g) (x + 1) (by rw [zuf_ne (by decide)]; exact e5) (by omega) (by omega)
      refine ⟨fun _ => ⟨fun q => absurd q c2, fun _ => ⟨fun q => absurd q c3, fun _ => ⟨zvin (by omega) (by show _ < ((600 : Nat) : Int); omega), i1⟩⟩⟩, fun i q => by rw [i2 i q, zuf_ne q], fun p hp => by rw [i3 p (by omega), zuf_nj (by omega)], fun p h1 h2 => ?_⟩
      by_cases q : (p : Int) = w.toInt + x.toInt
      · rw [i3 p (by omega), show (w.toInt + x.toInt).toNat = p by omega, zuf_eq, em, show (p : Int) - w.toInt = x.toInt by omega]
      · exact i4 p (by omega) h2
theorem op_write {k : Nat} {σ : zSt} (h : zI k σ) {f : Int} (hv : zVl f σ) {a1 a2 : Int32} (h0 : a1.toInt = (f + (σ 2 5).toInt) % 256) (h1 : 1 ≤ a2.toInt) (h2 : a2.toInt ≤ 100) (h3 : (σ 2 5).toInt ≤ 200) : k_X_write σ a1 a2 ∧ (f_X_write σ a1 a2).1.toInt = (σ 2 5).toInt + a2.toInt ∧ zI k (f_X_write σ a1 a2).2 ∧ zVl f (f_X_write σ a1 a2).2 ∧ (∀ i, i ≠ 1 → i ≠ 2 → (f_X_write σ a1 a2).2 i = σ i) ∧ (∀ j, j ≠ 5 → (f_X_write σ a1 a2).2 2 j = σ 2 j) := by
  obtain ⟨hn, hm, hh, hs, hA⟩ := h
  have hp := hn.1
  have es : (σ 2 5 + a2).toInt = (σ 2 5).toInt + a2.toInt := zadd (by omega) (by omega)
  have c1 : ¬ a1 < 0 := by rw [zlt, zt0]; omega
  have c2 : ¬ 256 ≤ a1 := by rw [zle, zt256]; omega
  have c3 : ¬ a2 < 1 := by rw [zlt, zt1]; omega
  have c4 : a2 ≤ 100 := by rw [zle, zt100]; omega
  have c5 : σ 2 5 + a2 ≤ 600 := by rw [zle, zt600, es]; omega
  obtain ⟨k1, e1, e2, e3⟩ := l_write a1 a2 (σ 2 5) (by omega) (by omega) (by omega) (by omega) ((a2.toInt - (0 : Int32).toInt).toNat + 2) σ 0 rfl (by decide) (by rw [zt0]; omega)
  have hx : f_X_write σ a1 a2 = ((l_X_write_55 a1 a2 ((a2.toInt - (0 : Int32).toInt).toNat + 2) σ 0) 2 5 + a2, zuf (l_X_write_55 a1 a2 ((a2.toInt - (0 : Int32).toInt).toNat + 2) σ 0) 2 5 ((l_X_write_55 a1 a2 ((a2.toInt - (0 : Int32).toInt).toNat + 2) σ 0) 2 5 + a2)) := by
    unfold f_X_write
    rw [if_neg c1, if_neg c2, if_neg c3, if_pos c4, if_pos c5]
    rfl
  generalize l_X_write_55 a1 a2 ((a2.toInt - (0 : Int32).toInt).toNat + 2) σ 0 = u at *
  rw [zt0] at e2 e3
  have u2 : u 2 = σ 2 := e1 2 (by decide)
  rw [u2] at hx
  rw [hx]
  have vne : ∀ i, i ≠ 1 → i ≠ 2 → zuf u 2 5 (σ 2 5 + a2) i = σ i := fun i q1 q2 => by rw [zuf_ne q2, e1 i q1]
  have vj : ∀ j, j ≠ 5 → zuf u 2 5 (σ 2 5 + a2) 2 j = σ 2 j := fun j q => by rw [zuf_nj q, u2]
  have v5 : zuf u 2 5 (σ 2 5 + a2) 2 5 = σ 2 5 + a2 := zuf_eq
  have v1 : zuf u 2 5 (σ 2 5 + a2) 1 = u 1 := zuf_ne (by decide)
  refine ⟨⟨fun q => absurd q c1, fun _ => ⟨fun q => absurd q c2, fun _ => ⟨fun q => absurd q c3, fun _ => ⟨fun _ => ⟨fun _ => k1, fun q => absurd c5 q⟩, fun q => absurd c4 q⟩⟩⟩⟩, es, ?_, ?_, vne, vj⟩
  · show zI k (zuf u 2 5 (σ 2 5 + a2))
    generalize zuf u 2 5 (σ 2 5 + a2) = v at *
    refine ⟨?_, ?_, ?_, ?_, ?_⟩
    · rw [vne 5 (by decide) (by decide), vne 6 (by decide) (by decide)]
      obtain ⟨n1, n2, n3⟩ := hn
      unfold zNum
      rw [v5, vj 2 (by decide), vj 3 (by decide), vj 4 (by decide), vj 6 (by decide), vj 7 (by decide), vj 8 (by decide), vj 9 (by decide), vj 10 (by decide), vj 11 (by decide), vj 12 (by decide), vj 13 (by decide), vj 14 (by decide)]
      exact ⟨by omega, n2, n3⟩
    · rw [vne 4 (by decide) (by decide), vne 8 (by decide) (by decide)]
      unfold zMk
      rw [vj 2 (by decide), vj 4 (by decide)]
      exact hm
    · rw [vne 6 (by decide) (by decide), vne 8 (by decide) (by decide)]
      unfold zHd
      rw [vj 4 (by decide)]
      exact hh
    · rw [vne 9 (by decide) (by decide), vne 10 (by decide) (by decide)]
      unfold zSg
      rw [vj 4 (by decide)]
      exact hs
    · rw [vne 4 (by decide) (by decide), vne 6 (by decide) (by decide), vne 8 (by decide) (by decide), vne 11 (by decide) (by decide), vne 12 (by decide) (by decide)]
      exact hA
  · intro p hpp
    show ((zuf u 2 5 (σ 2 5 + a2)) 1 p).toInt = _
    rw [v1]
    have hpp' : (p : Int) < (σ 2 5).toInt + a2.toInt := by rw [← es, ← v5]; exact hpp
    by_cases q : (p : Int) < (σ 2 5).toInt
    · rw [e2 p (by omega)]; exact hv p q
    · rw [e3 p (by omega) hpp', h0]; omega
