/-! a call of send -/
def zfr (σ : zSt) : Int32 × zSt := zlet (f_P_firstEmpty 3 σ (σ 2 3) (σ 2 5)) (fun r4 => zlet (f_S_endOfFresh (zuf σ 2 3 r4)) (fun r6 => (if r6 ≤ r4 then ((r6 - r4), (zuf (zuf σ 2 3 r4) 2 3 r6)) else zput (zuf (zuf σ 2 3 r4) 2 3 r6) r4 r6)))
def kfr (σ : zSt) : Prop := ((k_P_firstEmpty 3 σ (σ 2 3) (σ 2 5)) ∧ (∀ r4, r4 = (f_P_firstEmpty 3 σ (σ 2 3) (σ 2 5)) → ((k_S_endOfFresh (zuf σ 2 3 r4)) ∧ (∀ r6, r6 = (f_S_endOfFresh (zuf σ 2 3 r4)) → (¬ r6 ≤ r4 → kput (zuf (zuf σ 2 3 r4) 2 3 r6) r4 r6)))))
def zrp (σ : zSt) (r1 : Int32) : Int32 × zSt := zlet (f_S_endOfRun σ r1 (σ 2 3)) (fun r18 => (if r18 ≤ r1 then ((r18 - r1), (zuf σ 2 12 r18)) else zput (zuf σ 2 12 r18) r1 r18))
def krp (σ : zSt) (r1 : Int32) : Prop := ((k_S_endOfRun σ r1 (σ 2 3)) ∧ (∀ r18, r18 = (f_S_endOfRun σ r1 (σ 2 3)) → (¬ r18 ≤ r1 → kput (zuf σ 2 12 r18) r1 r18)))
/-- nothing is sent -/
def zSn (σ u : zSt) : Prop := (∀ i, i ≠ 2 → u i = σ i) ∧ (∀ j, j ≠ 3 → u 2 j = σ 2 j) ∧ (σ 2 3).toInt ≤ (u 2 3).toInt ∧ zfl u = zfl σ ∧ ((σ 2 3).toInt = (σ 2 2).toInt → (σ 2 2).toInt = (σ 2 5).toInt) ∧ ((σ 2 11).toInt = -1 ∨ (σ 2 2).toInt < (σ 2 12).toInt ∨ (σ 2 3).toInt = (σ 2 2).toInt)
/-- a segment is sent -/
def zSp (σ u : zSt) (n : Int) (s e : Int32) : Prop := (1 ≤ n ∧ n ≤ 4 ∧ e.toInt = s.toInt + n ∧ (σ 2 2).toInt ≤ s.toInt) ∧ (∀ i, i ≠ 2 → i ≠ 5 → i ≠ 9 → i ≠ 10 → u i = σ i) ∧ (∀ j, j ≠ 3 → j ≠ 4 → j ≠ 12 → j ≠ 13 → j ≠ 14 → u 2 j = σ 2 j) ∧ u 2 13 = σ 2 13 + 1 ∧ u 2 14 = (if σ 2 4 ≤ s then σ 2 14 else σ 2 14 + 1) ∧ 0 ≤ (u 5 2).toInt ∧ u 5 0 = σ 5 0 ∧ u 9 2 = σ 9 2 + 1 ∧ (∀ j, j < 2 * (σ 9 2).toInt.toNat → u 10 j = σ 10 j) ∧ u 10 (2 * (σ 9 2).toInt.toNat) = s ∧ u 10 (2 * (σ 9 2).toInt.toNat + 1) = e ∧ (u 2 4).toInt = (if (σ 2 4).toInt ≤ (u 2 3).toInt then (u 2 3).toInt else (σ 2 4).toInt) ∧ ((¬ (σ 2 11).toInt = -1 ∧ s.toInt < (σ 2 3).toInt ∧ u 2 3 = σ 2 3 ∧ u 2 12 = e ∧ (σ 2 12).toInt ≤ s.toInt) ∨ ((σ 2 3).toInt ≤ s.toInt ∧ s.toInt ≤ (σ 2 4).toInt ∧ u 2 3 = e ∧ u 2 12 = σ 2 12 ∧ zfl u = zfl σ + n ∧ (zfl σ = 0 ∨ zfl σ + n ≤ (σ 2 7).toInt) ∧ (e.toInt ≤ (σ 2 6).toInt ∨ s.toInt = (σ 2 2).toInt))) ∧ ((σ 2 3).toInt = (σ 2 2).toInt → s.toInt = (σ 2 2).toInt) ∧ (¬ (σ 2 11).toInt = -1 → (σ 2 12).toInt ≤ (σ 2 2).toInt → (σ 2 2).toInt < (σ 2 3).toInt → s.toInt = (σ 2 2).toInt)
theorem repairDo {k : Nat} {σ : zSt} (h : zI k σ) (hk : k + 1 ≤ 10000000) (h4 : (σ 9 2).toInt < 40) {r : Int32} (hr : r = f_S_startOfRepair σ) (hn : ¬ r = -1) : krp σ r ∧ zI (k + 1) (zrp σ r).2 ∧ ∃ s e, zSp σ (zrp σ r).2 (zrp σ r).1.toInt s e := by
  obtain ⟨-, q1, q2, q3⟩ := repairS h
  rw [← hr] at q1 q2 q3
  obtain ⟨c1, c2, c3, c4, c5⟩ := q1.resolve_left hn
  have hp := h.1.1
  have hc := h.1.2.1
  obtain ⟨r1, r2, r3, r4, r5⟩ := runOf (σ := σ) (x := r) (b := σ 2 3) (by omega) (by omega) c4 c5
  have hx : zrp σ r = zput (zuf σ 2 12 (f_S_endOfRun σ r (σ 2 3))) r (f_S_endOfRun σ r (σ 2 3)) := by
    unfold zrp
    dsimp only [zlet]
    rw [if_neg (by rw [zle]; omega)]
  have hxe : f_S_endOfRun σ r (σ 2 3) = f_S_endOfRun σ r (σ 2 3) := rfl
  generalize he : f_S_endOfRun σ r (σ 2 3) = e at *
  have ea : ∀ i, i ≠ 2 → zuf σ 2 12 e i = σ i := fun i q => zuf_ne q
  have ej : ∀ j, j ≠ 12 → zuf σ 2 12 e 2 j = σ 2 j := fun j q => zuf_nj q
  have e12 : zuf σ 2 12 e 2 12 = e := zuf_eq
  rw [hx]
  unfold krp
  generalize hsa : zuf σ 2 12 e = sa at *
  have s3 : sa 2 3 = σ 2 3 := ej 3 (by decide)
  have a9 : sa 9 = σ 9 := ea 9 (by decide)
  obtain ⟨p1, p2, p3, p4, p5, p6, p7, p8, p9⟩ := put (σ := sa) r e (by rw [a9]; exact h.2.2.2.1.1) (by rw [a9]; exact h4)
  obtain ⟨i1, i2, i3, i4, i5, i6, i7⟩ := put_I (σa := sa) h hk h4 (s := r) (e := e) ea (fun j q1 q2 => ej j q2) (by rw [s3]; omega) (by rw [s3]; omega) (by rw [s3]; omega) (by rw [e12]; omega) (by rw [e12]; omega) (by omega) r2 r3 (by rw [s3]; omega) c2
  have hd : (e - r).toInt = e.toInt - r.toInt := zsub (by omega) (by omega)
  refine ⟨⟨r1, fun r18 q _ => by rw [he] at q; subst q; rw [hsa]; exact p1⟩, i1, r, e, ⟨by rw [p2, hd]; omega, by rw [p2, hd]; omega, by rw [p2, hd]; omega, c2⟩, ?_⟩
  generalize (zput sa r e).2 = u at *
  rw [a9] at p4 p5 p6 p7
  rw [ea 10 (by decide)] at p5
  have u3 : u 2 3 = σ 2 3 := by rw [i3 3 (by decide) (by decide) (by decide), s3]
  rw [s3] at i2
  refine ⟨fun i w1 w2 w3 w4 => by rw [p3 i w1 w2 w3 w4, ea i w1], fun j w1 w2 w3 w4 w5 => by rw [i3 j w2 w4 w5, ej j w3], i4, i5, i6, i7, p4, p5, p6, p7, by rw [u3]; exact i2, Or.inl ⟨c1, c4, u3, by rw [i3 12 (by decide) (by decide) (by decide), e12], c3⟩, fun w => ?_, fun w1 w2 w3 => ?_⟩
  · exact absurd (q3 w) hn
  · rw [q2 w1 w2 w3]
theorem freshDo {k : Nat} {σ : zSt} (h : zI k σ) (hk : k + 1 ≤ 10000000) (h4 : (σ 9 2).toInt < 40) (hr : f_S_startOfRepair σ = -1) : kfr σ ∧ zI (k + 1) (zfr σ).2 ∧ (((zfr σ).1.toInt = 0 ∧ zSn σ (zfr σ).2) ∨ ∃ s e, zSp σ (zfr σ).2 (zfr σ).1.toInt s e) := by
  obtain ⟨-, -, q2, -⟩ := repairS h
  rw [hr] at q2
  have hA0 := markA h
  have h' := h
  obtain ⟨hn, hm, hh, hs, hA⟩ := h'
  have hn' := hn
  obtain ⟨hp, hc, ht⟩ := hn'
  have qq : ¬ (σ 2 11).toInt = -1 → (σ 2 12).toInt ≤ (σ 2 2).toInt → (σ 2 2).toInt < (σ 2 3).toInt → False := fun w1 w2 w3 => by
    have := q2 w1 w2 w3
    rw [zeq, ztm1] at this
    omega
  obtain ⟨k1, g⟩ := firstEmpty 3 σ (σ 2 3) (σ 2 5)
  have g : zFst (fun p => zA0 (σ 4) p = 0) (σ 2 3).toInt (σ 2 5).toInt (f_P_firstEmpty 3 σ (σ 2 3) (σ 2 5)).toInt := g
  obtain ⟨g1, g2, g3, g4⟩ := g
  unfold kfr zfr
  dsimp only [zlet]
  generalize hx : f_P_firstEmpty 3 σ (σ 2 3) (σ 2 5) = x at *
  have xH : x.toInt ≤ (σ 2 4).toInt := by
    by_cases q : x.toInt = (σ 2 3).toInt
    · omega
    · have := hm _ (g3 (x.toInt - 1) (by omega) (by omega)).2
      omega
  have xA : (σ 2 3).toInt = (σ 2 2).toInt → x.toInt = (σ 2 2).toInt := fun q => by
    by_cases w : x.toInt = (σ 2 2).toInt
    · exact w
    · exact absurd hA0 (by rw [← q]; exact (g3 _ (Int.le_refl _) (by omega)).2)
  have ea : ∀ i, i ≠ 2 → zuf σ 2 3 x i = σ i := fun i q => zuf_ne q
  have ej : ∀ j, j ≠ 3 → zuf σ 2 3 x 2 j = σ 2 j := fun j q => zuf_nj q
  have e3 : zuf σ 2 3 x 2 3 = x := zuf_eq
  have htw : ∀ y, zuf (zuf σ 2 3 x) 2 3 y = zuf σ 2 3 y := fun y => by
    funext a b
    unfold zuf
    by_cases q : a = 2 <;> by_cases q' : b = 3 <;> simp [q, q']
  have hflx : zCt (σ 4) (σ 2 2).toInt (x.toInt - (σ 2 2).toInt).toNat = zfl σ := by
    unfold zfl
    rw [show (x.toInt - (σ 2 2).toInt).toNat = ((σ 2 3).toInt - (σ 2 2).toInt).toNat + (x.toInt - (σ 2 3).toInt).toNat by omega, zCt_add, zCt_full (σ 4) _ (x.toInt - (σ 2 3).toInt).toNat (fun p w1 w2 => (g3 p (by omega) (by omega)).2)]
    omega
  obtain ⟨f1, f2, f3, f4, f5, f6, f7⟩ := freshEnd (σ := zuf σ 2 3 x) (by rw [ej 2 (by decide)]; omega) (by rw [ej 2 (by decide), e3]; omega) (by rw [ej 5 (by decide), e3]; omega) (by rw [ej 5 (by decide)]; omega) (by rw [ej 6 (by decide)]; omega) (by rw [ej 7 (by decide)]; omega) (by rw [ej 9 (by decide)]; omega) (by rw [ej 2 (by decide), ea 4 (by decide)]; exact hA0) (by rw [ej 5 (by decide), e3, ea 4 (by decide)]; exact g4)
  have hfls : zfl (zuf σ 2 3 x) = zfl σ := by
    rw [← hflx]
    unfold zfl
    rw [ej 2 (by decide), e3, ea 4 (by decide)]
  rw [ej 5 (by decide)] at f4
  rw [e3] at f2 f3 f5
  rw [e3, ej 2 (by decide), ej 6 (by decide), ej 7 (by decide), hfls] at f6
  rw [e3, ej 2 (by decide), ej 5 (by decide)] at f7
  rw [ea 4 (by decide)] at f5
  generalize hy : f_S_endOfFresh (zuf σ 2 3 x) = y at *
  rw [htw y]
  have ya : ∀ i, i ≠ 2 → zuf σ 2 3 y i = σ i := fun i q => zuf_ne q
  have yj : ∀ j, j ≠ 3 → zuf σ 2 3 y 2 j = σ 2 j := fun j q => zuf_nj q
  have y3 : zuf σ 2 3 y 2 3 = y := zuf_eq
  by_cases c1 : y ≤ x
  · rw [if_pos c1]
    rw [zle] at c1
    have hyx : y.toInt = x.toInt := by omega
    have hNA : (σ 2 3).toInt = (σ 2 2).toInt → (σ 2 2).toInt = (σ 2 5).toInt := fun q => by
      have h1 := xA q
      by_cases w : (σ 2 2).toInt < (σ 2 5).toInt
      · have := f7 h1 w; omega
      · omega
    refine ⟨⟨k1, fun r4 q => by subst q; exact ⟨f1, fun r6 q w => absurd (by rw [zle, q, hy]; exact c1) w⟩⟩, ?_, Or.inl ⟨by show (y - x).toInt = 0; rw [zsub (by omega) (by omega)]; omega, ya, yj, by show (σ 2 3).toInt ≤ (zuf σ 2 3 y 2 3).toInt; rw [y3]; omega, ?_, hNA, ?_⟩⟩
    · show zI (k + 1) (zuf σ 2 3 y)
      generalize zuf σ 2 3 y = u at *
      have up := zNum_up hn (Nat.le_succ k) hk
      obtain ⟨v1, v2, v3⟩ := up
      unfold zI
      rw [ya 4 (by decide), ya 5 (by decide), ya 6 (by decide), ya 8 (by decide), ya 9 (by decide), ya 10 (by decide), ya 11 (by decide), ya 12 (by decide)]
      refine ⟨?_, ?_, ?_, ?_, hA⟩
      · unfold zNum
        rw [y3, yj 2 (by decide), yj 4 (by decide), yj 5 (by decide), yj 6 (by decide), yj 7 (by decide), yj 8 (by decide), yj 9 (by decide), yj 10 (by decide), yj 11 (by decide), yj 12 (by decide), yj 13 (by decide), yj 14 (by decide)]
        refine ⟨by omega, v2, ?_⟩
        obtain ⟨b1, b2, b3, b4, b5, b6, b7⟩ := v3
        refine ⟨b1, b2, b3, b4, b5, ?_, b7⟩
        rcases b6 with b6 | b6
        · exact Or.inl ⟨b6.1, by have := xA b6.2; omega⟩
        · exact Or.inr b6
      · unfold zMk
        rw [yj 2 (by decide), yj 4 (by decide)]
        exact hm
      · unfold zHd
        rw [yj 4 (by decide)]
        exact hh
      · unfold zSg
        rw [yj 4 (by decide)]
        exact hs
    · show zfl (zuf σ 2 3 y) = zfl σ
      rw [← hflx]
      unfold zfl
      rw [yj 2 (by decide), y3, ya 4 (by decide), hyx]
    · by_cases w1 : (σ 2 11).toInt = -1
      · exact Or.inl w1
      · by_cases w2 : (σ 2 2).toInt < (σ 2 12).toInt
        · exact Or.inr (Or.inl w2)
        · by_cases w3 : (σ 2 3).toInt = (σ 2 2).toInt
          · exact Or.inr (Or.inr w3)
          · exact (qq w1 (by omega) (by omega)).elim
  · rw [if_neg c1]
    rw [zle] at c1
    have f6 := f6 (by omega)
    have ya9 : zuf σ 2 3 y 9 = σ 9 := ya 9 (by decide)
    have hyN : y.toInt ≤ (σ 2 2).toInt + 33 := by omega
    generalize hsa : zuf σ 2 3 y = sa at *
    obtain ⟨p1, p2, p3, p4, p5, p6, p7, p8, p9⟩ := put (σ := sa) x y (by rw [ya9]; exact hs.1) (by rw [ya9]; exact h4)
    have y12 : sa 2 12 = σ 2 12 := yj 12 (by decide)
    obtain ⟨i1, i2, i3, i4, i5, i6, i7⟩ := put_I (σa := sa) h hk h4 (s := x) (e := y) ya (fun j q1 q2 => yj j q1) (by rw [y3]; omega) (by rw [y3]; omega) (by rw [y3]; omega) (by rw [y12]; omega) (by rw [y12]; omega) (by omega) (by omega) (by omega) (by rw [y3]; omega) (by omega)
    have hd : (y - x).toInt = y.toInt - x.toInt := zsub (by omega) (by omega)
    refine ⟨⟨k1, fun r4 q => by subst q; exact ⟨f1, fun r6 q w => by rw [hy] at q; subst q; rw [htw, hsa]; exact p1⟩⟩, i1, Or.inr ⟨x, y, ⟨by rw [p2, hd]; omega, by rw [p2, hd]; omega, by rw [p2, hd]; omega, by omega⟩, ?_⟩⟩
    rw [p2, hd]
    generalize (zput sa x y).2 = u at *
    rw [ya9] at p4 p5 p6 p7
    rw [ya 10 (by decide)] at p5
    have u3 : u 2 3 = y := by rw [i3 3 (by decide) (by decide) (by decide), y3]
    rw [y3] at i2
    have hflu : zfl u = zfl σ + (y.toInt - x.toInt) := by
      rw [← hflx]
      unfold zfl
      rw [p3 4 (by decide) (by decide) (by decide) (by decide), ya 4 (by decide), i3 2 (by decide) (by decide) (by decide), yj 2 (by decide), u3, show (y.toInt - (σ 2 2).toInt).toNat = (x.toInt - (σ 2 2).toInt).toNat + (y.toInt - x.toInt).toNat by omega, zCt_add, zCt_none (σ 4) _ (y.toInt - x.toInt).toNat (fun p w1 w2 => f5 p (by omega) (by omega))]
      omega
    refine ⟨fun i w1 w2 w3 w4 => by rw [p3 i w1 w2 w3 w4, ya i w1], fun j w1 w2 w3 w4 w5 => by rw [i3 j w2 w4 w5, yj j w1], i4, i5, i6, i7, p4, p5, p6, p7, by rw [u3]; exact i2, Or.inr ⟨g1, xH, u3, by rw [i3 12 (by decide) (by decide) (by decide), y12], hflu, f6.2, ?_⟩, xA, fun w1 w2 w3 => (qq w1 w2 w3).elim⟩
    rcases f6.1 with w | w
    · exact Or.inl w
    · exact Or.inr w.1
theorem op_send {k : Nat} {σ : zSt} (h : zI k σ) (hk : k + 1 ≤ 10000000) (h4 : (σ 9 2).toInt < 40) : k_X_send σ ∧ zI (k + 1) (f_X_send σ).2 ∧ (((f_X_send σ).1.toInt = 0 ∧ zSn σ (f_X_send σ).2) ∨ ∃ s e, zSp σ (f_X_send σ).2 (f_X_send σ).1.toInt s e) := by
  have hf := zfull (c := 9) h4
  have hx : f_X_send σ = if f_S_startOfRepair σ = -1 then zfr σ else zrp σ (f_S_startOfRepair σ) := by
    unfold f_X_send
    dsimp only [zlet]
    rw [if_pos hf]
    rfl
  have hkx : k_S_sendInto σ = ((k_S_startOfRepair σ) ∧ (∀ r1, r1 = (f_S_startOfRepair σ) → ((r1 = (-1) → kfr σ) ∧ (¬ r1 = (-1) → krp σ r1)))) := rfl
  rw [hx]
  by_cases c : f_S_startOfRepair σ = -1
  · rw [if_pos c]
    obtain ⟨d1, d2, d3⟩ := freshDo h hk h4 c
    refine ⟨fun r1 q => ⟨fun _ => ?_, fun w => absurd (q.trans hf) w⟩, d2, d3⟩
    rw [hkx]
    exact ⟨(repairS h).1, fun r1 q => ⟨fun _ => d1, fun w => absurd (q.trans c) w⟩⟩
  · rw [if_neg c]
    obtain ⟨d1, d2, d3⟩ := repairDo h hk h4 rfl c
    refine ⟨fun r1 q => ⟨fun _ => ?_, fun w => absurd (q.trans hf) w⟩, d2, Or.inr d3⟩
    rw [hkx]
    exact ⟨(repairS h).1, fun r1 q => ⟨fun w => absurd (q.symm.trans w) c, fun _ => by rw [q]; exact d1⟩⟩
