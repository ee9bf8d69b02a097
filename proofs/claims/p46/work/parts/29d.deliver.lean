/-! a segment is delivered, a byte is read -/
theorem zRw_up {r r' m m' h h' c : Nat → Int32} {i : Nat} (w : zRw r m h c i) (e2 : (r 2).toInt ≤ (r' 2).toInt) (e3 : (r 3).toInt ≤ (r' 3).toInt) (em : zA0 m' (c (9 * i + 0)).toInt = 0) (eh : ∀ p : Int, ¬ zA0 h p = 0 → ¬ zA0 h' p = 0) : zRw r' m' h' c i := by
  obtain ⟨w1, w2, w3⟩ := w
  refine ⟨by omega, em, fun k hk => ?_⟩
  obtain ⟨b1, b2, b3, b4⟩ := w3 k hk
  exact ⟨b1, b2, b3, fun p g1 g2 => eh p (b4 p g1 g2)⟩
theorem zAk_up {r r' m h h' c : Nat → Int32} {n : Int32} (w : zAk r m h n c) (e2 : (r 2).toInt ≤ (r' 2).toInt) (e3 : (r 3).toInt ≤ (r' 3).toInt) (eh : ∀ p : Int, ¬ zA0 h p = 0 → ¬ zA0 h' p = 0) : zAk r' m h' n c := by
  obtain ⟨w1, w2, w3, w4⟩ := w
  exact ⟨w1, w2, fun i hi => zRw_up (w3 i hi) e2 e3 (w3 i hi).2.1 eh, w4⟩
/-- the last acknowledgment of the list tells the first missing byte -/
def zLB (σ : zSt) : Prop := 0 < (σ 11 2).toInt ∧ (σ 12 (9 * ((σ 11 2).toInt - 1).toNat)).toInt = (σ 6 2).toInt
theorem takes {k : Nat} {σ : zSt} (h : zI k σ) (hk : k + 1 ≤ 10000000) {s e : Int32} (h0 : 0 ≤ s.toInt) (h1 : s.toInt < e.toInt) (h2 : e.toInt ≤ s.toInt + 4) (h3 : e.toInt ≤ (σ 2 4).toInt) : k_R_takeBytes σ s e ∧ 0 ≤ (f_R_takeBytes σ s e).1.toInt ∧ (f_R_takeBytes σ s e).1.toInt ≤ 4 ∧ (e.toInt ≤ (σ 6 2).toInt → (f_R_takeBytes σ s e).1 = 0) ∧ (∀ i, i ≠ 6 → i ≠ 8 → (f_R_takeBytes σ s e).2 i = σ i) ∧ (f_R_takeBytes σ s e).2 6 3 = σ 6 3 ∧ (σ 6 2).toInt ≤ ((f_R_takeBytes σ s e).2 6 2).toInt ∧ (∀ p : Int, ¬ zA0 (σ 8) p = 0 → ¬ zA0 ((f_R_takeBytes σ s e).2 8) p = 0) ∧ (∀ p : Int, s.toInt ≤ p → p < e.toInt → p < (σ 6 3).toInt + 32 → ¬ zA0 ((f_R_takeBytes σ s e).2 8) p = 0) ∧ (s.toInt ≤ (σ 6 2).toInt → (σ 6 2).toInt < e.toInt → (σ 6 2).toInt < (σ 6 3).toInt + 32 → (σ 6 2).toInt < ((f_R_takeBytes σ s e).2 6 2).toInt) ∧ zI (k + 1) (f_R_takeBytes σ s e).2 := by
  obtain ⟨hn, hm, hh, hs, hA⟩ := h
  have hn' := hn
  obtain ⟨hp, hc, ht⟩ := hn'
  have e1 := zp32 (x := σ 6 3) (by omega) (by omega)
  have ed : (σ 6 1 + 1).toInt = (σ 6 1).toInt + 1 := zinc' (by omega)
  have hv : ¬ σ 6 1 + 1 = 0 := by rw [zeq, zt0]; omega
  have hy : (if σ 6 3 + 32 < e then σ 6 3 + 32 else e).toInt ≤ e.toInt ∧ (if σ 6 3 + 32 < e then σ 6 3 + 32 else e).toInt ≤ (σ 6 3).toInt + 32 ∧ (∀ p : Int, p < e.toInt → p < (σ 6 3).toInt + 32 → p < (if σ 6 3 + 32 < e then σ 6 3 + 32 else e).toInt) := by
    by_cases q : σ 6 3 + 32 < e
    · rw [if_pos q]
      rw [zlt] at q
      exact ⟨by omega, by omega, fun p g1 g2 => by omega⟩
    · rw [if_neg q]
      rw [zlt] at q
      exact ⟨by omega, by omega, fun p g1 g2 => g1⟩
  generalize hyy : (if σ 6 3 + 32 < e then σ 6 3 + 32 else e) = y at *
  obtain ⟨y1, y2, y3⟩ := hy
  obtain ⟨f1, f2, f3, f4, f5⟩ := fillEmpty 7 (zuf σ 6 1 (σ 6 1 + 1)) s y (σ 6 1 + 1) h0 (by omega)
  rw [show (7 + 1 : Nat) = 8 from rfl] at f2 f5
  generalize hF : f_P_fillEmpty 7 (zuf σ 6 1 (σ 6 1 + 1)) s y (σ 6 1 + 1) = F at *
  obtain ⟨r, u⟩ := F
  dsimp only at f2 f3 f4 f5
  have u6 : ∀ j, u 6 j = if j = 1 then σ 6 1 + 1 else σ 6 j := fun j => by rw [f2, zfil_ne (by decide), zuf_i]
  have une : ∀ i, i ≠ 6 → i ≠ 8 → u i = σ i := fun i q1 q2 => by rw [f2, zfil_ne q2, zuf_ne q1]
  have u8 : ∀ p : Int, ¬ zA0 (u 8) p = 0 ↔ (¬ zA0 (σ 8) p = 0 ∨ (s.toInt ≤ p ∧ p < y.toInt ∧ 0 ≤ p ∧ p < 600)) := fun p => by
    rw [f2, zA0_fil hv p, zuf_ne (by decide)]
  have u62 : u 6 2 = σ 6 2 := by rw [u6 2, if_neg (by decide)]
  obtain ⟨g1, gz⟩ := firstEmpty 7 u (u 6 2) 600
  have gz : zFst (fun p => zA0 (u 8) p = 0) (u 6 2).toInt (600 : Int32).toInt (f_P_firstEmpty 7 u (u 6 2) 600).toInt := gz
  rw [zt600, u62] at gz
  obtain ⟨g2, g3, g4, g5⟩ := gz
  rw [u62] at g1
  have hb2 : f_P_firstEmpty 7 u (u 6 2) 600 = f_P_firstEmpty 7 u (σ 6 2) 600 := by rw [u62]
  generalize hB : f_P_firstEmpty 7 u (σ 6 2) 600 = B at *
  have hf : f_R_takeBytes σ s e = (r, zuf u 6 2 B) := by
    unfold f_R_takeBytes
    rw [hyy, hF]
    dsimp only [zseq, zlet]
    rw [hb2]
  have hheld : ∀ p : Int, ¬ zA0 (u 8) p = 0 → p < (σ 2 4).toInt ∧ p < (σ 6 3).toInt + 32 := fun p q => by
    rcases (u8 p).mp q with q | q
    · exact hh.2.2 p q
    · exact ⟨by omega, by omega⟩
  have hBH : B.toInt ≤ (σ 2 4).toInt ∧ B.toInt ≤ (σ 6 3).toInt + 32 := by
    by_cases q : B.toInt = (σ 6 2).toInt
    · omega
    · have := hheld (B.toInt - 1) (g4 (B.toInt - 1) (by omega) (by omega)).2
      omega
  have hB0 : zA0 (u 8) B.toInt = 0 := g5 (by omega)
  rw [hf]
  have v6 : ∀ j, zuf u 6 2 B 6 j = if j = 2 then B else if j = 1 then σ 6 1 + 1 else σ 6 j := fun j => by rw [zuf_i, u6]
  have vne : ∀ i, i ≠ 6 → i ≠ 8 → zuf u 6 2 B i = σ i := fun i q1 q2 => by rw [zuf_ne q1, une i q1 q2]
  have v8 : zuf u 6 2 B 8 = u 8 := zuf_ne (by decide)
  have hmono : ∀ p : Int, ¬ zA0 (σ 8) p = 0 → ¬ zA0 (u 8) p = 0 := fun p q => (u8 p).mpr (Or.inl q)
  have hbr : ∀ p : Int, s.toInt ≤ p → p < e.toInt → p < (σ 6 3).toInt + 32 → ¬ zA0 (u 8) p = 0 := fun p q1 q2 q3 => (u8 p).mpr (Or.inr ⟨q1, y3 p q2 q3, by omega, by omega⟩)
  have v63 : zuf u 6 2 B 6 3 = σ 6 3 := by rw [v6 3, if_neg (by decide), if_neg (by decide)]
  have v62 : zuf u 6 2 B 6 2 = B := zuf_eq
  have v61 : zuf u 6 2 B 6 1 = σ 6 1 + 1 := by rw [v6 1, if_neg (by decide), if_pos rfl]
  refine ⟨⟨?_, ?_⟩, f3, ?_, ?_, vne, v63, ?_, ?_, ?_, ?_, ?_⟩
  · rw [hyy]; exact f1
  · intro r1 u2 q
    rw [hyy, hF] at q
    obtain ⟨rfl, rfl⟩ := Prod.mk.inj q
    rw [u62]
    exact g1
  · show r.toInt ≤ 4
    by_cases q : s.toInt ≤ y.toInt
    · have := f4 q; omega
    · rw [f5 (Or.inl (by omega))]; decide
  · intro q
    refine f5 (Or.inr (fun p q1 q2 => ?_))
    have := hh.1 p (by omega) (by omega)
    rw [zA0_in (by omega) (by omega), show ((p : Int)).toNat = p by omega] at this
    rw [zuf_ne (by decide)]
    exact this
  · show (σ 6 2).toInt ≤ (zuf u 6 2 B 6 2).toInt
    rw [v62]; exact g2
  · show ∀ p : Int, ¬ zA0 (σ 8) p = 0 → ¬ zA0 (zuf u 6 2 B 8) p = 0
    rw [v8]; exact hmono
  · show ∀ p : Int, s.toInt ≤ p → p < e.toInt → p < (σ 6 3).toInt + 32 → ¬ zA0 (zuf u 6 2 B 8) p = 0
    rw [v8]; exact hbr
  · intro q1 q2 q3
    show (σ 6 2).toInt < (zuf u 6 2 B 6 2).toInt
    rw [v62]
    by_cases q : B.toInt = (σ 6 2).toInt
    · rw [q] at hB0
      exact absurd hB0 (hbr _ q1 q2 q3)
    · omega
  · show zI (k + 1) (zuf u 6 2 B)
    generalize zuf u 6 2 B = v at *
    refine ⟨?_, ?_, ?_, ?_, ?_⟩
    · rw [vne 2 (by decide) (by decide), vne 5 (by decide) (by decide)]
      unfold zNum
      rw [v61, v62, v63]
      refine ⟨by omega, ?_, ?_⟩
      · obtain ⟨b1, b2, b3, b4, b5, b6, b7, b8, b9, b10, b11, b12, b13⟩ := hc
        exact ⟨b1, b2, b3, b4, b5, b6, by omega, b8, b9, by omega, by omega, by omega, b13⟩
      · obtain ⟨b1, b2, b3, b4⟩ := ht
        exact ⟨b1, by omega, hk, b4⟩
    · rw [vne 2 (by decide) (by decide), vne 4 (by decide) (by decide), v8]
      exact fun p q => ⟨(hm p q).1, (hm p q).2.1, hmono p (hm p q).2.2⟩
    · rw [vne 2 (by decide) (by decide), v8]
      unfold zHd
      rw [v62, v63]
      refine ⟨fun p q1 q2 => ?_, hB0, hheld⟩
      by_cases q : p < (σ 6 2).toInt
      · exact hmono p (hh.1 p q1 q)
      · exact (g4 p (by omega) q2).2
    · rw [vne 2 (by decide) (by decide), vne 9 (by decide) (by decide), vne 10 (by decide) (by decide)]
      exact hs
    · rw [vne 4 (by decide) (by decide), vne 11 (by decide) (by decide), vne 12 (by decide) (by decide), v8]
      exact zAk_up hA (by rw [v62]; exact g2) (by rw [v63]; exact Int.le_refl _) hmono
theorem op_deliver {k : Nat} {σ : zSt} (h : zI k σ) (hk : k + 1 ≤ 10000000) {a : Int32} (h0 : 0 ≤ a.toInt) (h1 : a.toInt < (σ 9 2).toInt) : k_X_deliver σ a ∧ 0 ≤ (f_X_deliver σ a).1.toInt ∧ (f_X_deliver σ a).1.toInt ≤ 4 ∧ ((σ 10 (2 * a.toInt.toNat + 1)).toInt ≤ (σ 6 2).toInt → (f_X_deliver σ a).1 = 0) ∧ zI (k + 1) (f_X_deliver σ a).2 ∧ (∀ i, i < 6 → (f_X_deliver σ a).2 i = σ i) ∧ (f_X_deliver σ a).2 6 3 = σ 6 3 ∧ (σ 6 2).toInt ≤ ((f_X_deliver σ a).2 6 2).toInt ∧ (∀ p : Int, ¬ zA0 (σ 8) p = 0 → ¬ zA0 ((f_X_deliver σ a).2 8) p = 0) ∧ (∀ p : Int, (σ 10 (2 * a.toInt.toNat)).toInt ≤ p → p < (σ 10 (2 * a.toInt.toNat + 1)).toInt → p < (σ 6 3).toInt + 32 → ¬ zA0 ((f_X_deliver σ a).2 8) p = 0) ∧ ((σ 10 (2 * a.toInt.toNat)).toInt ≤ (σ 6 2).toInt → (σ 6 2).toInt < (σ 10 (2 * a.toInt.toNat + 1)).toInt → (σ 6 2).toInt < (σ 6 3).toInt + 32 → (σ 6 2).toInt < ((f_X_deliver σ a).2 6 2).toInt) ∧ ((f_X_deliver σ a).2 9 2).toInt = (σ 9 2).toInt - 1 ∧ (∀ i j : Nat, (i : Int) < (σ 9 2).toInt - 1 → j < 2 → (f_X_deliver σ a).2 10 (2 * i + j) = σ 10 (2 * (if (i : Int) < a.toInt then i else i + 1) + j)) ∧ ((f_X_deliver σ a).2 11 2).toInt = (if (σ 11 2).toInt = 40 then 40 else (σ 11 2).toInt + 1) ∧ zLB (f_X_deliver σ a).2 := by
  have hh := holdsY (c := 9) h0 h1
  obtain ⟨s1, s2, s3⟩ := h.2.2.2.1
  obtain ⟨b1, b2, b3, b4⟩ := s3 a.toInt.toNat (by omega)
  obtain ⟨c1, e1⟩ := W_cell9 (σ := σ) (a := a) (i := 0) h0 (by omega) (by decide) (by decide)
  obtain ⟨c2, e2⟩ := W_cell9 (σ := σ) (a := a) (i := 1) h0 (by omega) (by decide) (by decide)
  rw [show (0 : Int32).toInt.toNat = 0 from rfl, Nat.add_zero] at e1
  rw [show (1 : Int32).toInt.toNat = 1 from rfl] at e2
  obtain ⟨t0, t1, t2, t3, t4, t5, t6, t7, t8, t9, t10⟩ := takes h hk b1 b2 b3 b4
  generalize hT : f_R_takeBytes σ (σ 10 (2 * a.toInt.toNat)) (σ 10 (2 * a.toInt.toNat + 1)) = T at *
  obtain ⟨r, u⟩ := T
  dsimp only at t1 t2 t3 t4 t5 t6 t7 t8 t9 t10
  have u92 : u 9 2 = σ 9 2 := by rw [t4 9 (by decide) (by decide)]
  obtain ⟨m1, m2, m3, m4⟩ := remS (σ := u) (a := a) h0 (by rw [u92]; exact h1) (by rw [u92]; exact s2)
  have hI2 := zI_remS t10 h0 (by rw [u92]; exact h1)
  generalize hw : f_W_remove 9 u a = w at *
  obtain ⟨a0, a1, a2, a3, a4⟩ := zI_ack hI2
  have hx : f_X_deliver σ a = (r, f_R_makeAck w) := by
    unfold f_X_deliver
    dsimp only [zlet, zseq]
    rw [if_neg hh, e1, e2, hT]
    dsimp only
    rw [hw]
  rw [hx]
  have w6 : w 6 = u 6 := m3 6 (by decide) (by decide)
  have w8 : w 8 = u 8 := m3 8 (by decide) (by decide)
  have w11 : w 11 = σ 11 := by rw [m3 11 (by decide) (by decide), t4 11 (by decide) (by decide)]
  have q6 : f_R_makeAck w 6 = u 6 := by rw [a2 6 (by decide) (by decide), w6]
  have q8 : f_R_makeAck w 8 = u 8 := by rw [a2 8 (by decide) (by decide), w8]
  have q9 : f_R_makeAck w 9 = w 9 := a2 9 (by decide) (by decide)
  have q10 : f_R_makeAck w 10 = w 10 := a2 10 (by decide) (by decide)
  rw [w11] at a3
  refine ⟨?_, t1, t2, t3, a1, fun i hi => ?_, ?_, ?_, ?_, ?_, ?_, ?_, ?_, ?_, ?_⟩
  · intro r1 q
    refine ⟨fun q' => absurd (q.symm.trans q') hh, fun _ => ⟨c1, fun r4 q4 => ⟨c2, fun r6 q6' => ?_⟩⟩⟩
    rw [e1] at q4
    rw [e2] at q6'
    subst q4
    subst q6'
    refine ⟨t0, fun r8 u9 q => ?_⟩
    rw [hT] at q
    obtain ⟨rfl, rfl⟩ := Prod.mk.inj q
    exact ⟨m1, fun u11 q => by rw [hw] at q; subst q; exact a0⟩
  · show f_R_makeAck w i = σ i
    rw [a2 i (by omega) (by omega), m3 i (by omega) (by omega), t4 i (by omega) (by omega)]
  · show f_R_makeAck w 6 3 = σ 6 3
    rw [q6]; exact t5
  · show (σ 6 2).toInt ≤ (f_R_makeAck w 6 2).toInt
    rw [q6]; exact t6
  · show ∀ p : Int, ¬ zA0 (σ 8) p = 0 → ¬ zA0 (f_R_makeAck w 8) p = 0
    rw [q8]; exact t7
  · show ∀ p : Int, (σ 10 (2 * a.toInt.toNat)).toInt ≤ p → p < (σ 10 (2 * a.toInt.toNat + 1)).toInt → p < (σ 6 3).toInt + 32 → ¬ zA0 (f_R_makeAck w 8) p = 0
    rw [q8]; exact t8
  · show (σ 10 (2 * a.toInt.toNat)).toInt ≤ (σ 6 2).toInt → (σ 6 2).toInt < (σ 10 (2 * a.toInt.toNat + 1)).toInt → (σ 6 2).toInt < (σ 6 3).toInt + 32 → (σ 6 2).toInt < (f_R_makeAck w 6 2).toInt
    rw [q6]; exact t9
  · show (f_R_makeAck w 9 2).toInt = _
    rw [q9, m2, u92]
  · intro i j hi hj
    show f_R_makeAck w 10 (2 * i + j) = _
    rw [q10, m4 i j (by rw [u92]; exact hi) hj, t4 10 (by decide) (by decide)]
  · exact a3
  · have hpos : 0 < (f_R_makeAck w 11 2).toInt := by
      rw [a3]
      have := h.2.2.2.2.1
      by_cases q : (σ 11 2).toInt = 40
      · rw [if_pos q]; omega
      · rw [if_neg q]; omega
    refine ⟨hpos, ?_⟩
    show (f_R_makeAck w 12 (9 * ((f_R_makeAck w 11 2).toInt - 1).toNat)).toInt = (f_R_makeAck w 6 2).toInt
    rw [a4, q6, w6]
theorem op_readNone {k : Nat} {σ : zSt} (h : zI k σ) (h1 : (σ 6 3).toInt = (σ 6 2).toInt) : k_X_read σ ∧ f_X_read σ = (-1, σ) := by
  have c1 : σ 6 2 ≤ σ 6 3 := by rw [zle]; omega
  refine ⟨fun q => absurd c1 q, ?_⟩
  unfold f_X_read
  rw [if_pos c1]
theorem op_read {k : Nat} {σ : zSt} (h : zI k σ) (h1 : (σ 6 3).toInt < (σ 6 2).toInt) : k_X_read σ ∧ (f_X_read σ).1 = σ 1 (σ 6 3).toInt.toNat ∧ zI k (f_X_read σ).2 ∧ (f_X_read σ).2 6 2 = σ 6 2 ∧ ((f_X_read σ).2 6 3).toInt = (σ 6 3).toInt + 1 ∧ (∀ i, i ≠ 6 → i ≠ 11 → i ≠ 12 → (f_X_read σ).2 i = σ i) ∧ (zLB σ → zLB (f_X_read σ).2) := by
  have h' := h
  obtain ⟨hn, hm, hh, hs, hA⟩ := h'
  have hn' := hn
  obtain ⟨hp, hc, ht⟩ := hn'
  have ei : (σ 6 3 + 1).toInt = (σ 6 3).toInt + 1 := zinc' (by omega)
  have u6 : ∀ j, zuf σ 6 3 (σ 6 3 + 1) 6 j = if j = 3 then σ 6 3 + 1 else σ 6 j := fun j => zuf_i
  have une : ∀ i, i ≠ 6 → zuf σ 6 3 (σ 6 3 + 1) i = σ i := fun i q => zuf_ne q
  have hI : zI k (zuf σ 6 3 (σ 6 3 + 1)) := by
    generalize zuf σ 6 3 (σ 6 3 + 1) = u at *
    refine ⟨?_, ?_, ?_, ?_, ?_⟩
    · rw [une 2 (by decide), une 5 (by decide)]
      unfold zNum
      rw [show u 6 1 = σ 6 1 by rw [u6 1, if_neg (by decide)], show u 6 2 = σ 6 2 by rw [u6 2, if_neg (by decide)], show u 6 3 = σ 6 3 + 1 by rw [u6 3, if_pos rfl], ei]
      exact ⟨by omega, hc, ht⟩
    · rw [une 2 (by decide), une 4 (by decide), une 8 (by decide)]
      exact hm
    · rw [une 2 (by decide), une 8 (by decide)]
      unfold zHd
      rw [show u 6 2 = σ 6 2 by rw [u6 2, if_neg (by decide)], show u 6 3 = σ 6 3 + 1 by rw [u6 3, if_pos rfl], ei]
      exact ⟨hh.1, hh.2.1, fun p q => ⟨(hh.2.2 p q).1, by have := (hh.2.2 p q).2; omega⟩⟩
    · rw [une 2 (by decide), une 9 (by decide), une 10 (by decide)]
      exact hs
    · rw [une 4 (by decide), une 8 (by decide), une 11 (by decide), une 12 (by decide)]
      exact zAk_up hA (by rw [u6 2, if_neg (by decide)]; exact Int.le_refl _) (by rw [u6 3, if_pos rfl, ei]; omega) (fun _ q => q)
  have hb : ∃ b : Int32, f_R_passByte σ = (b, zuf σ 6 3 (σ 6 3 + 1)) := by
    unfold f_R_passByte
    dsimp only [zlet]
    by_cases q1 : 4 ≤ f_R_room σ
    · rw [if_pos q1]; exact ⟨_, rfl⟩
    · rw [if_neg q1]
      by_cases q2 : f_R_room (zuf σ 6 3 (σ 6 3 + 1)) < 4
      · rw [if_pos q2]; exact ⟨_, rfl⟩
      · rw [if_neg q2]; exact ⟨_, rfl⟩
  obtain ⟨b, hb⟩ := hb
  have c1 : ¬ σ 6 2 ≤ σ 6 3 := by rw [zle]; omega
  have c2 : ¬ σ 6 3 < 0 := by rw [zlt, zt0]; omega
  have c3 : σ 6 3 < 600 := by rw [zlt, zt600]; omega
  have hin : vp_in (σ 6 3) 600 := zvin (by omega) (by show _ < ((600 : Nat) : Int); omega)
  generalize zuf σ 6 3 (σ 6 3 + 1) = u at *
  obtain ⟨a0, a1, a2, a3, a4⟩ := zI_ack hI
  have u62 : u 6 2 = σ 6 2 := by rw [u6 2, if_neg (by decide)]
  have u63 : (u 6 3).toInt = (σ 6 3).toInt + 1 := by rw [u6 3, if_pos rfl, ei]
  refine ⟨fun _ _ _ r4 u5 q => ?_, ?_⟩
  · rw [hb] at q
    obtain ⟨rfl, rfl⟩ := Prod.mk.inj q
    exact ⟨fun _ => hin, fun _ => ⟨a0, fun _ _ => hin⟩⟩
  · have hx : f_X_read σ = if b = 0 then (u 1 (σ 6 3).toNatClampNeg, u) else (f_R_makeAck u 1 (σ 6 3).toNatClampNeg, f_R_makeAck u) := by
      unfold f_X_read
      rw [if_neg c1, if_neg c2, if_pos c3, hb]
      rfl
    rw [hx]
    by_cases q : b = 0
    · rw [if_pos q]
      refine ⟨by show u 1 _ = _; rw [une 1 (by decide)]; rfl, hI, u62, u63, fun i q1 _ _ => une i q1, fun w => ?_⟩
      unfold zLB at w
      show 0 < (u 11 2).toInt ∧ (u 12 (9 * ((u 11 2).toInt - 1).toNat)).toInt = (u 6 2).toInt
      rw [une 11 (by decide), une 12 (by decide), u62]
      exact w
    · rw [if_neg q]
      refine ⟨by show f_R_makeAck u 1 _ = _; rw [a2 1 (by decide) (by decide), une 1 (by decide)]; rfl, a1, by show f_R_makeAck u 6 2 = _; rw [a2 6 (by decide) (by decide), u62], by show (f_R_makeAck u 6 3).toInt = _; rw [a2 6 (by decide) (by decide), u63], fun i q1 q2 q3 => by show f_R_makeAck u i = _; rw [a2 i q2 q3, une i q1], fun w => ?_⟩
      have w1 := w.1
      have hpos : 0 < (f_R_makeAck u 11 2).toInt := by
        rw [a3]
        rw [une 11 (by decide)]
        by_cases q : (σ 11 2).toInt = 40
        · rw [if_pos q]; omega
        · rw [if_neg q]; omega
      refine ⟨hpos, ?_⟩
      show (f_R_makeAck u 12 (9 * ((f_R_makeAck u 11 2).toInt - 1).toNat)).toInt = (f_R_makeAck u 6 2).toInt
      rw [a4, a2 6 (by decide) (by decide)]
