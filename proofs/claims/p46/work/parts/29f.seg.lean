/-! a segment goes out -/
theorem noteSent_facts (σ : zSt) (s e : Int32) : (∀ i, i ≠ 2 → i ≠ 5 → f_S_noteSent σ s e i = σ i) ∧ (∀ j, f_S_noteSent σ s e 2 j = if j = 13 then σ 2 13 + 1 else if j = 14 then (if σ 2 4 ≤ s then σ 2 14 else σ 2 14 + 1) else if j = 4 then zmx (σ 2 4) (σ 2 3) else σ 2 j) ∧ (∀ j, f_S_noteSent σ s e 5 j = if j = 3 then (if σ 2 4 ≤ s ∧ σ 5 3 = -1 then e else σ 5 3) else if j = 6 then (if σ 2 4 ≤ s ∧ σ 5 3 = -1 then σ 5 0 else σ 5 6) else if j = 2 then (if σ 5 2 = -1 then σ 5 0 + σ 5 1 else σ 5 2) else σ 5 j) := by
  unfold f_S_noteSent f_T_timeSegment f_T_startIfStopped f_T_startAnew
  dsimp only [zlet]
  simp only [zmx_lt]
  by_cases c1 : σ 2 4 ≤ s
  · by_cases c2 : σ 5 3 = -1
    · by_cases c3 : σ 5 2 = -1
      · refine ⟨fun i q1 q2 => ?_, fun j => ?_, fun j => ?_⟩
        · simp [zuf_at, zuf_ne, c1, c2, c3, q1, q2]
        · by_cases j13 : j = 13
          · subst j13; simp [zuf_at, c1, c2, c3]
          · by_cases j14 : j = 14
            · subst j14; simp [zuf_at, c1, c2, c3]
            · by_cases j4 : j = 4
              · subst j4; simp [zuf_at, c1, c2, c3]
              · simp [zuf_at, c1, c2, c3, j13, j14, j4]
        · by_cases j3 : j = 3
          · subst j3; simp [zuf_at, c1, c2, c3]
          · by_cases j6 : j = 6
            · subst j6; simp [zuf_at, c1, c2, c3]
            · by_cases j2 : j = 2
              · subst j2; simp [zuf_at, c1, c2, c3]
              · simp [zuf_at, c1, c2, c3, j3, j6, j2]
      · refine ⟨fun i q1 q2 => ?_, fun j => ?_, fun j => ?_⟩
        · simp [zuf_at, zuf_ne, c1, c2, c3, q1, q2]
        · by_cases j13 : j = 13
          · subst j13; simp [zuf_at, c1, c2, c3]
          · by_cases j14 : j = 14
            · subst j14; simp [zuf_at, c1, c2, c3]
            · by_cases j4 : j = 4
              · subst j4; simp [zuf_at, c1, c2, c3]
              · simp [zuf_at, c1, c2, c3, j13, j14, j4]
        · by_cases j3 : j = 3
          · subst j3; simp [zuf_at, c1, c2, c3]
          · by_cases j6 : j = 6
            · subst j6; simp [zuf_at, c1, c2, c3]
            · by_cases j2 : j = 2
              · subst j2; simp [zuf_at, c1, c2, c3]
              · simp [zuf_at, c1, c2, c3, j3, j6, j2]
    · by_cases c3 : σ 5 2 = -1
      · refine ⟨fun i q1 q2 => ?_, fun j => ?_, fun j => ?_⟩
        · simp [zuf_at, zuf_ne, c1, c2, c3, q1, q2]
        · by_cases j13 : j = 13
          · subst j13; simp [zuf_at, c1, c2, c3]
          · by_cases j14 : j = 14
            · subst j14; simp [zuf_at, c1, c2, c3]
            · by_cases j4 : j = 4
              · subst j4; simp [zuf_at, c1, c2, c3]
              · simp [zuf_at, c1, c2, c3, j13, j14, j4]
        · by_cases j3 : j = 3
          · subst j3; simp [zuf_at, c1, c2, c3]
          · by_cases j6 : j = 6
            · subst j6; simp [zuf_at, c1, c2, c3]
            · by_cases j2 : j = 2
              · subst j2; simp [zuf_at, c1, c2, c3]
              · simp [zuf_at, c1, c2, c3, j3, j6, j2]
      · refine ⟨fun i q1 q2 => ?_, fun j => ?_, fun j => ?_⟩
        · simp [zuf_at, zuf_ne, c1, c2, c3, q1, q2]
        · by_cases j13 : j = 13
          · subst j13; simp [zuf_at, c1, c2, c3]
          · by_cases j14 : j = 14
            · subst j14; simp [zuf_at, c1, c2, c3]
            · by_cases j4 : j = 4
              · subst j4; simp [zuf_at, c1, c2, c3]
              · simp [zuf_at, c1, c2, c3, j13, j14, j4]
        · by_cases j3 : j = 3
          · subst j3; simp [zuf_at, c1, c2, c3]
          · by_cases j6 : j = 6
            · subst j6; simp [zuf_at, c1, c2, c3]
            · by_cases j2 : j = 2
              · subst j2; simp [zuf_at, c1, c2, c3]
              · simp [zuf_at, c1, c2, c3, j3, j6, j2]
  · by_cases c3 : σ 5 2 = -1
    · refine ⟨fun i q1 q2 => ?_, fun j => ?_, fun j => ?_⟩
      · simp [zuf_at, zuf_ne, c1, c3, q1, q2]
      · by_cases j13 : j = 13
        · subst j13; simp [zuf_at, c1, c3]
        · by_cases j14 : j = 14
          · subst j14; simp [zuf_at, c1, c3]
          · by_cases j4 : j = 4
            · subst j4; simp [zuf_at, c1, c3]
            · simp [zuf_at, c1, c3, j13, j14, j4]
      · by_cases j3 : j = 3
        · subst j3; simp [zuf_at, c1, c3]
        · by_cases j6 : j = 6
          · subst j6; simp [zuf_at, c1, c3]
          · by_cases j2 : j = 2
            · subst j2; simp [zuf_at, c1, c3]
            · simp [zuf_at, c1, c3, j3, j6, j2]
    · refine ⟨fun i q1 q2 => ?_, fun j => ?_, fun j => ?_⟩
      · simp [zuf_at, zuf_ne, c1, c3, q1, q2]
      · by_cases j13 : j = 13
        · subst j13; simp [zuf_at, c1, c3]
        · by_cases j14 : j = 14
          · subst j14; simp [zuf_at, c1, c3]
          · by_cases j4 : j = 4
            · subst j4; simp [zuf_at, c1, c3]
            · simp [zuf_at, c1, c3, j13, j14, j4]
      · by_cases j3 : j = 3
        · subst j3; simp [zuf_at, c1, c3]
        · by_cases j6 : j = 6
          · subst j6; simp [zuf_at, c1, c3]
          · by_cases j2 : j = 2
            · subst j2; simp [zuf_at, c1, c3]
            · simp [zuf_at, c1, c3, j3, j6, j2]
def zput (σ : zSt) (s e : Int32) : Int32 × zSt := zlet (f_S_noteSent σ s e) (fun u9 => zseq (f_W_addRow 9 u9) (fun r11 u12 => zlet (f_W_setCell 9 u12 r11 0 s) (fun u14 => zlet (f_W_setCell 9 u14 r11 1 e) (fun u16 => ((e - s), u16)))))
def kput (σ : zSt) (s e : Int32) : Prop := (∀ u9, u9 = (f_S_noteSent σ s e) → (∀ r11 u12, (r11, u12) = (f_W_addRow 9 u9) → ((k_W_setCell 9 u12 r11 0 s) ∧ (∀ u14, u14 = (f_W_setCell 9 u12 r11 0 s) → (k_W_setCell 9 u14 r11 1 e)))))
theorem put {σ : zSt} (s e : Int32) (h0 : 0 ≤ (σ 9 2).toInt) (h4 : (σ 9 2).toInt < 40) : kput σ s e ∧ (zput σ s e).1 = e - s ∧ (∀ i, i ≠ 2 → i ≠ 5 → i ≠ 9 → i ≠ 10 → (zput σ s e).2 i = σ i) ∧ (zput σ s e).2 9 2 = σ 9 2 + 1 ∧ (∀ j, j < 2 * (σ 9 2).toInt.toNat → (zput σ s e).2 10 j = σ 10 j) ∧ (zput σ s e).2 10 (2 * (σ 9 2).toInt.toNat) = s ∧ (zput σ s e).2 10 (2 * (σ 9 2).toInt.toNat + 1) = e ∧ (zput σ s e).2 2 = f_S_noteSent σ s e 2 ∧ (zput σ s e).2 5 = f_S_noteSent σ s e 5 := by
  have hne := (noteSent_facts σ s e).1
  generalize ht : f_S_noteSent σ s e = t at *
  have t9 : t 9 = σ 9 := hne 9 (by decide) (by decide)
  have t10 : t 10 = σ 10 := hne 10 (by decide) (by decide)
  have ha := zadd_row (c := 9) (σ := t) (by rw [t9]; exact h0) (by rw [t9]; exact h4)
  rw [t9] at ha
  generalize hw : zuf t 9 2 (σ 9 2 + 1) = w at ha
  have w9 : w 9 2 = σ 9 2 + 1 := by rw [← hw, zuf_eq]
  have wne : ∀ i, i ≠ 9 → w i = t i := fun i q => by rw [← hw, zuf_ne q]
  obtain ⟨k1, e1⟩ := W_set9 (σ := w) (a := σ 9 2) (i := 0) (v := s) h0 h4 (by decide) (by decide)
  rw [show (0 : Int32).toInt.toNat = 0 from rfl, Nat.add_zero] at e1
  generalize hu : f_W_setCell 9 w (σ 9 2) 0 s = u at *
  obtain ⟨k2, e2⟩ := W_set9 (σ := u) (a := σ 9 2) (i := 1) (v := e) h0 h4 (by decide) (by decide)
  rw [show (1 : Int32).toInt.toNat = 1 from rfl] at e2
  have hx : zput σ s e = (e - s, f_W_setCell 9 u (σ 9 2) 1 e) := by
    unfold zput
    rw [ht]
    dsimp only [zlet, zseq]
    rw [ha]
    dsimp only
    rw [hu]
  rw [hx]
  generalize hv : f_W_setCell 9 u (σ 9 2) 1 e = v at *
  have vne : ∀ i, i ≠ 9 → i ≠ 10 → v i = t i := fun i q1 q2 => by rw [e2, zuf_ne q2, e1, zuf_ne q2, wne i q1]
  refine ⟨?_, rfl, fun i q1 q2 q3 q4 => ?_, ?_, fun j hj => ?_, ?_, ?_, vne 2 (by decide) (by decide), vne 5 (by decide) (by decide)⟩
  · intro u9 q
    rw [ht] at q
    subst q
    intro r u12 q
    rw [ha] at q
    obtain ⟨rfl, rfl⟩ := Prod.mk.inj q
    refine ⟨k1, fun u14 q => ?_⟩
    rw [hu] at q
    subst q
    exact k2
  · show v i = σ i
    rw [vne i q3 q4, hne i q1 q2]
  · show v 9 2 = _
    rw [e2, zuf_ne (by decide), e1, zuf_ne (by decide), w9]
  · show v 10 j = σ 10 j
    rw [e2, zuf_nj (by omega), e1, zuf_nj (by omega), wne 10 (by decide), t10]
  · show v 10 _ = s
    rw [e2, zuf_nj (by omega), e1, zuf_eq]
  · show v 10 _ = e
    rw [e2, zuf_eq]
/-- the state behind a segment that went out is in order -/
theorem put_I {k : Nat} {σ σa : zSt} (h : zI k σ) (hk : k + 1 ≤ 10000000) (h4 : (σ 9 2).toInt < 40) {s e : Int32} (ea : ∀ i, i ≠ 2 → σa i = σ i) (ej : ∀ j, j ≠ 3 → j ≠ 12 → σa 2 j = σ 2 j) (n1 : (σ 2 2).toInt ≤ (σa 2 3).toInt) (n2 : (σa 2 3).toInt ≤ (σ 2 5).toInt) (n3 : (σa 2 3).toInt ≤ (σ 2 2).toInt + 33) (f1 : 0 ≤ (σa 2 12).toInt) (f2 : (σa 2 12).toInt ≤ (σ 2 4).toInt) (s0 : 0 ≤ s.toInt) (s1 : s.toInt < e.toInt) (s2 : e.toInt ≤ s.toInt + 4) (s3 : e.toInt ≤ (σa 2 3).toInt) (s4 : (σ 2 2).toInt ≤ s.toInt) : zI (k + 1) (zput σa s e).2 ∧ ((zput σa s e).2 2 4).toInt = (if (σ 2 4).toInt ≤ (σa 2 3).toInt then (σa 2 3).toInt else (σ 2 4).toInt) ∧ (∀ j, j ≠ 4 → j ≠ 13 → j ≠ 14 → (zput σa s e).2 2 j = σa 2 j) ∧ (zput σa s e).2 2 13 = σ 2 13 + 1 ∧ (zput σa s e).2 2 14 = (if σ 2 4 ≤ s then σ 2 14 else σ 2 14 + 1) ∧ 0 ≤ ((zput σa s e).2 5 2).toInt ∧ (zput σa s e).2 5 0 = σ 5 0 := by
  obtain ⟨hn, hm, hh, hs, hA⟩ := h
  obtain ⟨hp, hc, ht⟩ := hn
  have a9 : σa 9 = σ 9 := ea 9 (by decide)
  obtain ⟨p1, p2, p3, p4, p5, p6, p7, p8, p9⟩ := put (σ := σa) s e (by rw [a9]; exact hs.1) (by rw [a9]; exact h4)
  obtain ⟨-, t2, t5⟩ := noteSent_facts σa s e
  generalize (zput σa s e).2 = u at *
  rw [a9] at p4 p5 p6 p7
  rw [ea 10 (by decide)] at p5
  rw [ea 5 (by decide), ej 4 (by decide) (by decide)] at t5
  rw [ej 4 (by decide) (by decide), ej 13 (by decide) (by decide), ej 14 (by decide) (by decide)] at t2
  rw [← p8] at t2
  rw [← p9] at t5
  have hi13 : (σ 2 13 + 1).toInt = (σ 2 13).toInt + 1 := zinc' (by omega)
  have hi14 : (σ 2 14 + 1).toInt = (σ 2 14).toInt + 1 := zinc' (by omega)
  have uj : ∀ j, j ≠ 4 → j ≠ 13 → j ≠ 14 → u 2 j = σa 2 j := fun j q1 q2 q3 => by rw [t2 j, if_neg q2, if_neg q3, if_neg q1]
  have u24 : (u 2 4).toInt = (if (σ 2 4).toInt ≤ (σa 2 3).toInt then (σa 2 3).toInt else (σ 2 4).toInt) := by
    rw [show u 2 4 = zmx (σ 2 4) (σa 2 3) from t2 4, zmx_t]
  have u213 : u 2 13 = σ 2 13 + 1 := t2 13
  have u214 : u 2 14 = (if σ 2 4 ≤ s then σ 2 14 else σ 2 14 + 1) := t2 14
  have h14 : (u 2 14).toInt ≤ (σ 2 14).toInt + 1 ∧ 0 ≤ (u 2 14).toInt := by
    rw [u214]
    by_cases q : σ 2 4 ≤ s
    · rw [if_pos q]; omega
    · rw [if_neg q]; omega
  have hH : (σ 2 4).toInt ≤ (u 2 4).toInt ∧ (σa 2 3).toInt ≤ (u 2 4).toInt ∧ (u 2 4).toInt ≤ (σ 2 5).toInt ∧ (u 2 4).toInt ≤ (σ 2 2).toInt + 33 := by
    rw [u24]
    by_cases q : (σ 2 4).toInt ≤ (σa 2 3).toInt
    · rw [if_pos q]; omega
    · rw [if_neg q]; omega
  have u50 : u 5 0 = σ 5 0 := t5 0
  have u51 : u 5 1 = σ 5 1 := t5 1
  have u52 : (σ 5 0).toInt < (u 5 2).toInt ∧ (u 5 2).toInt ≤ (σ 5 0).toInt + 64 := by
    rw [show u 5 2 = (if σ 5 2 = -1 then σ 5 0 + σ 5 1 else σ 5 2) from t5 2]
    by_cases q : σ 5 2 = -1
    · rw [if_pos q, zadd (by omega) (by omega)]; omega
    · rw [if_neg q]
      rw [zeq, ztm1] at q
      omega
  have u53 : (u 5 3).toInt = -1 ∨ ((σ 2 2).toInt < (u 5 3).toInt ∧ (u 5 3).toInt ≤ (u 2 4).toInt) := by
    rw [show u 5 3 = (if σ 2 4 ≤ s ∧ σ 5 3 = -1 then e else σ 5 3) from t5 3]
    by_cases q : σ 2 4 ≤ s ∧ σ 5 3 = -1
    · rw [if_pos q]; exact Or.inr ⟨by omega, by omega⟩
    · rw [if_neg q]; omega
  have une : ∀ i, i ≠ 2 → i ≠ 5 → i ≠ 9 → i ≠ 10 → u i = σ i := fun i q1 q2 q3 q4 => by rw [p3 i q1 q2 q3 q4, ea i q1]
  have g22 : u 2 2 = σ 2 2 := by rw [uj 2 (by decide) (by decide) (by decide), ej 2 (by decide) (by decide)]
  refine ⟨⟨?_, ?_, ?_, ?_, ?_⟩, u24, uj, u213, u214, by omega, u50⟩
  · rw [une 6 (by decide) (by decide) (by decide) (by decide)]
    unfold zNum
    rw [g22, uj 3 (by decide) (by decide) (by decide), uj 5 (by decide) (by decide) (by decide), uj 6 (by decide) (by decide) (by decide), uj 7 (by decide) (by decide) (by decide), uj 8 (by decide) (by decide) (by decide), uj 9 (by decide) (by decide) (by decide), uj 10 (by decide) (by decide) (by decide), uj 11 (by decide) (by decide) (by decide), uj 12 (by decide) (by decide) (by decide), u213, u50, u51, hi13, ej 5 (by decide) (by decide), ej 6 (by decide) (by decide), ej 7 (by decide) (by decide), ej 8 (by decide) (by decide), ej 9 (by decide) (by decide), ej 10 (by decide) (by decide), ej 11 (by decide) (by decide)]
    obtain ⟨b1, b2, b3, b4, b5, b6, b7, b8, b9, b10, b11, b12, b13, b14, b15⟩ := hc
    refine ⟨by omega, ⟨b1, b2, b3, b4, b5, b6, by omega, by omega, by omega, by omega, b11, by omega, f1, by omega, by omega⟩, by omega, by omega, hk, by omega, by omega, Or.inr u52, u53⟩
  · rw [une 4 (by decide) (by decide) (by decide) (by decide), une 8 (by decide) (by decide) (by decide) (by decide)]
    unfold zMk
    rw [g22]
    intro p q
    have := hm p q
    exact ⟨this.1, by omega, this.2.2⟩
  · rw [une 6 (by decide) (by decide) (by decide) (by decide), une 8 (by decide) (by decide) (by decide) (by decide)]
    exact ⟨hh.1, hh.2.1, fun p q => ⟨by have := (hh.2.2 p q).1; omega, (hh.2.2 p q).2⟩⟩
  · obtain ⟨c1, c2, c3⟩ := hs
    have hi : (u 9 2).toInt = (σ 9 2).toInt + 1 := by rw [p4, zinc' (by omega)]
    refine ⟨by omega, by omega, fun i hi2 => ?_⟩
    by_cases q : (i : Int) < (σ 9 2).toInt
    · rw [p5 _ (by omega), p5 _ (by omega)]
      obtain ⟨d1, d2, d3, d4⟩ := c3 i q
      exact ⟨d1, d2, d3, by omega⟩
    · have hi3 : i = (σ 9 2).toInt.toNat := by omega
      subst hi3
      rw [p6, p7]
      exact ⟨s0, s1, s2, by omega⟩
  · rw [une 4 (by decide) (by decide) (by decide) (by decide), une 6 (by decide) (by decide) (by decide) (by decide), une 8 (by decide) (by decide) (by decide) (by decide), une 11 (by decide) (by decide) (by decide) (by decide), une 12 (by decide) (by decide) (by decide) (by decide)]
    exact hA
/-! where a segment starts and ends -/
theorem zmn4 (x b : Int32) (h0 : 0 ≤ x.toInt) (h1 : x.toInt ≤ 600) : (if b < x + 4 then b else x + 4).toInt ≤ x.toInt + 4 ∧ (if b < x + 4 then b else x + 4).toInt ≤ b.toInt ∧ (x.toInt < b.toInt → x.toInt < (if b < x + 4 then b else x + 4).toInt) := by
  have e := zp4 (x := x) h0 (by omega)
  by_cases q : b < x + 4
  · rw [if_pos q]
    rw [zlt] at q
    exact ⟨by omega, by omega, fun q => q⟩
  · rw [if_neg q]
    rw [zlt] at q
    exact ⟨by omega, by omega, fun _ => by omega⟩
theorem runOf {σ : zSt} {x b : Int32} (h0 : 0 ≤ x.toInt) (h1 : x.toInt ≤ 600) (h2 : x.toInt < b.toInt) (h3 : zA0 (σ 4) x.toInt = 0) : k_S_endOfRun σ x b ∧ x.toInt < (f_S_endOfRun σ x b).toInt ∧ (f_S_endOfRun σ x b).toInt ≤ x.toInt + 4 ∧ (f_S_endOfRun σ x b).toInt ≤ b.toInt ∧ (∀ p, x.toInt ≤ p → p < (f_S_endOfRun σ x b).toInt → zA0 (σ 4) p = 0) := by
  obtain ⟨m1, m2, m3⟩ := zmn4 x b h0 h1
  have m3 := m3 h2
  obtain ⟨k1, g⟩ := firstFilled 3 σ x (if b < x + 4 then b else x + 4)
  have g : zFst (fun p => ¬ zA0 (σ 4) p = 0) x.toInt (if b < x + 4 then b else x + 4).toInt (f_P_firstFilled 3 σ x (if b < x + 4 then b else x + 4)).toInt := g
  obtain ⟨g1, g2, g3, g4⟩ := g
  have hx : f_S_endOfRun σ x b = f_P_firstFilled 3 σ x (if b < x + 4 then b else x + 4) := rfl
  rw [hx]
  have hne : ¬ (f_P_firstFilled 3 σ x (if b < x + 4 then b else x + 4)).toInt = x.toInt := fun q => by
    have := g4 (by omega)
    rw [q] at this
    exact this h3
  refine ⟨k1, by omega, by omega, by omega, fun p q1 q2 => ?_⟩
  by_cases q : zA0 (σ 4) p = 0
  · exact q
  · exact absurd q (g3 p q1 q2).2
theorem markA {k : Nat} {σ : zSt} (h : zI k σ) : zA0 (σ 4) (σ 2 2).toInt = 0 := by
  by_cases q : zA0 (σ 4) (σ 2 2).toInt = 0
  · exact q
  · have := (h.2.1 _ q).1
    omega
theorem repairS {k : Nat} {σ : zSt} (h : zI k σ) : k_S_startOfRepair σ ∧ (f_S_startOfRepair σ = -1 ∨ (¬ (σ 2 11).toInt = -1 ∧ (σ 2 2).toInt ≤ (f_S_startOfRepair σ).toInt ∧ (σ 2 12).toInt ≤ (f_S_startOfRepair σ).toInt ∧ (f_S_startOfRepair σ).toInt < (σ 2 3).toInt ∧ zA0 (σ 4) (f_S_startOfRepair σ).toInt = 0)) ∧ (¬ (σ 2 11).toInt = -1 → (σ 2 12).toInt ≤ (σ 2 2).toInt → (σ 2 2).toInt < (σ 2 3).toInt → f_S_startOfRepair σ = σ 2 2) ∧ ((σ 2 3).toInt = (σ 2 2).toInt → f_S_startOfRepair σ = -1) := by
  have hA := markA h
  obtain ⟨⟨hp, hc, -⟩, -⟩ := h
  have hmx : (if σ 2 2 < σ 2 12 then σ 2 12 else σ 2 2).toInt = (if (σ 2 2).toInt ≤ (σ 2 12).toInt then (σ 2 12).toInt else (σ 2 2).toInt) := by rw [zmx_lt, zmx_t]
  unfold k_S_startOfRepair f_S_startOfRepair
  dsimp only [zlet]
  by_cases c1 : σ 2 11 = -1
  · rw [if_pos c1]
    exact ⟨fun q => absurd c1 q, Or.inl rfl, fun q => absurd (by rw [c1]; rfl) q, fun _ => rfl⟩
  · rw [if_neg c1]
    have c1' := c1
    rw [zeq, ztm1] at c1'
    generalize (if σ 2 2 < σ 2 12 then σ 2 12 else σ 2 2) = m at *
    have hm1 : (σ 2 2).toInt ≤ m.toInt ∧ (σ 2 12).toInt ≤ m.toInt ∧ ((σ 2 12).toInt ≤ (σ 2 2).toInt → m.toInt = (σ 2 2).toInt) := by
      by_cases q : (σ 2 2).toInt ≤ (σ 2 12).toInt
      · rw [if_pos q] at hmx; exact ⟨by omega, by omega, fun _ => by omega⟩
      · rw [if_neg q] at hmx; exact ⟨by omega, by omega, fun _ => by omega⟩
    obtain ⟨m1, m2, m3⟩ := hm1
    obtain ⟨k1, g⟩ := firstEmpty 3 σ m (σ 2 3)
    have g : zFst (fun p => zA0 (σ 4) p = 0) m.toInt (σ 2 3).toInt (f_P_firstEmpty 3 σ m (σ 2 3)).toInt := g
    obtain ⟨g1, g2, g3, g4⟩ := g
    generalize f_P_firstEmpty 3 σ m (σ 2 3) = x at *
    refine ⟨fun _ => ⟨k1, fun r q _ => (firstFilled 3 σ r (σ 2 4)).1⟩, ?_, fun q1 q2 q3 => ?_, fun q => ?_⟩
    · by_cases c2 : x < σ 2 3
      · rw [if_pos c2]
        rw [zlt] at c2
        have hx := g4 c2
        by_cases c3 : σ 2 4 ≤ f_P_firstFilled 3 σ x (σ 2 4)
        · rw [if_pos c3]
          by_cases c4 : x = σ 2 2
          · rw [if_pos c4]; exact Or.inr ⟨c1', by omega, by omega, c2, hx⟩
          · rw [if_neg c4]; exact Or.inl rfl
        · rw [if_neg c3]
          by_cases c4 : x = σ 2 2
          · rw [if_pos c4]; exact Or.inr ⟨c1', by omega, by omega, c2, hx⟩
          · rw [if_neg c4]; exact Or.inr ⟨c1', by omega, by omega, c2, hx⟩
      · rw [if_neg c2]; exact Or.inl rfl
    · have hma := m3 q2
      have hxa : x.toInt = (σ 2 2).toInt := by
        by_cases w : x.toInt = (σ 2 2).toInt
        · exact w
        · exact absurd hA (by rw [← hma]; exact (g3 m.toInt (Int.le_refl _) (by omega)).2)
      have hx : x = σ 2 2 := zeq.mpr hxa
      rw [if_pos (by rw [zlt]; omega), if_pos hx, if_pos hx]
      by_cases c3 : σ 2 4 ≤ f_P_firstFilled 3 σ x (σ 2 4)
      · rw [if_pos c3]; exact hx
      · rw [if_neg c3]; exact hx
    · rw [if_neg (by rw [zlt]; omega)]
theorem freshEnd {σ : zSt} (h0 : 0 ≤ (σ 2 2).toInt) (h1 : (σ 2 2).toInt ≤ (σ 2 3).toInt) (h2 : (σ 2 3).toInt ≤ (σ 2 5).toInt) (h3 : (σ 2 5).toInt ≤ 300) (h6 : (σ 2 6).toInt ≤ 1000) (h7 : (σ 2 7).toInt ≤ 256) (h9 : (σ 2 9).toInt = 256) (hA : zA0 (σ 4) (σ 2 2).toInt = 0) (hN : (σ 2 3).toInt < (σ 2 5).toInt → zA0 (σ 4) (σ 2 3).toInt = 0) : k_S_endOfFresh σ ∧ (σ 2 3).toInt ≤ (f_S_endOfFresh σ).toInt ∧ (f_S_endOfFresh σ).toInt ≤ (σ 2 3).toInt + 4 ∧ (f_S_endOfFresh σ).toInt ≤ (σ 2 5).toInt ∧ (∀ p, (σ 2 3).toInt ≤ p → p < (f_S_endOfFresh σ).toInt → zA0 (σ 4) p = 0) ∧ ((σ 2 3).toInt < (f_S_endOfFresh σ).toInt → ((f_S_endOfFresh σ).toInt ≤ (σ 2 6).toInt ∨ ((σ 2 3).toInt = (σ 2 2).toInt ∧ (f_S_endOfFresh σ).toInt = (σ 2 2).toInt + 1)) ∧ (zfl σ = 0 ∨ zfl σ + ((f_S_endOfFresh σ).toInt - (σ 2 3).toInt) ≤ (σ 2 7).toInt)) ∧ ((σ 2 3).toInt = (σ 2 2).toInt → (σ 2 2).toInt < (σ 2 5).toInt → (σ 2 3).toInt < (f_S_endOfFresh σ).toInt) := by
  obtain ⟨kf, ef⟩ := flying (σ := σ) h0 (by omega)
  have hb := zCt_b (σ 4) (σ 2 2).toInt ((σ 2 3).toInt - (σ 2 2).toInt).toNat
  have hfl : zfl σ = zCt (σ 4) (σ 2 2).toInt ((σ 2 3).toInt - (σ 2 2).toInt).toNat := rfl
  have hfl0 : (σ 2 3).toInt = (σ 2 2).toInt → zfl σ = 0 := fun q => by
    rw [hfl, show ((σ 2 3).toInt - (σ 2 2).toInt).toNat = 0 by omega]
    rfl
  have hfl1 : zfl σ = 0 → (σ 2 3).toInt = (σ 2 2).toInt := fun q => by
    by_cases w : (σ 2 3).toInt = (σ 2 2).toInt
    · exact w
    · rw [hfl, show ((σ 2 3).toInt - (σ 2 2).toInt).toNat = ((σ 2 3).toInt - (σ 2 2).toInt - 1).toNat + 1 by omega, zCt_front, if_pos hA] at q
      have := zCt_b (σ 4) ((σ 2 2).toInt + 1) ((σ 2 3).toInt - (σ 2 2).toInt - 1).toNat
      omega
  unfold k_S_endOfFresh f_S_endOfFresh
  dsimp only [zlet]
  by_cases c1 : σ 2 3 < σ 2 5
  · rw [if_pos c1]
    have c1' := zlt.mp c1
    have hN := hN c1'
    by_cases c2 : σ 2 3 < σ 2 6
    · rw [if_pos c2]
      have c2' := zlt.mp c2
      have hmin : (if σ 2 6 < σ 2 5 then σ 2 6 else σ 2 5).toInt ≤ (σ 2 6).toInt ∧ (if σ 2 6 < σ 2 5 then σ 2 6 else σ 2 5).toInt ≤ (σ 2 5).toInt ∧ (σ 2 3).toInt < (if σ 2 6 < σ 2 5 then σ 2 6 else σ 2 5).toInt := by
        by_cases q : σ 2 6 < σ 2 5
        · rw [if_pos q]; rw [zlt] at q; omega
        · rw [if_neg q]; rw [zlt] at q; omega
      generalize (if σ 2 6 < σ 2 5 then σ 2 6 else σ 2 5) = b at *
      obtain ⟨b1, b2, b3⟩ := hmin
      obtain ⟨r1, r2, r3, r4, r5⟩ := runOf (σ := σ) (x := σ 2 3) (b := b) (by omega) (by omega) b3 hN
      generalize f_S_endOfRun σ (σ 2 3) b = r at *
      have ks : (σ 2 3) < (σ 2 5) → ((k_S_countFlying σ) ∧ (∀ r2, r2 = (f_S_countFlying σ) → ((σ 2 3) < (σ 2 6) → (k_S_endOfRun σ (σ 2 3) b)))) := fun _ => ⟨kf, fun _ _ _ => r1⟩
      refine ⟨ks, ?_⟩
      have hmc : (if σ 2 9 < σ 2 7 then σ 2 9 else σ 2 7).toInt ≤ (σ 2 7).toInt := by
        by_cases q : σ 2 9 < σ 2 7
        · rw [if_pos q]; rw [zlt] at q; omega
        · rw [if_neg q]; omega
      generalize (if σ 2 9 < σ 2 7 then σ 2 9 else σ 2 7) = mc at *
      have es : (f_S_countFlying σ + r - σ 2 3).toInt = zfl σ + (r.toInt - (σ 2 3).toInt) := by
        have e1 : (f_S_countFlying σ + r).toInt = zfl σ + r.toInt := by rw [zadd (by omega) (by omega), ef]
        rw [zsub (by omega) (by omega), e1]; omega
      by_cases c3 : mc < f_S_countFlying σ + r - σ 2 3
      · rw [if_pos c3]
        by_cases c4 : f_S_countFlying σ = 0
        · rw [if_pos c4]
          rw [zeq, ef, zt0] at c4
          exact ⟨by omega, by omega, by omega, r5, fun _ => ⟨Or.inl (by omega), Or.inl c4⟩, fun _ _ => r2⟩
        · rw [if_neg c4]
          rw [zeq, ef, zt0] at c4
          exact ⟨by omega, by omega, by omega, fun p q1 q2 => by omega, fun q => by omega, fun q _ => absurd (hfl0 q) c4⟩
      · rw [if_neg c3, show (if f_S_countFlying σ = 0 then r else r) = r by by_cases q : f_S_countFlying σ = 0 <;> simp [q]]
        rw [zlt, es] at c3
        exact ⟨by omega, by omega, by omega, r5, fun _ => ⟨Or.inl (by omega), Or.inr (by omega)⟩, fun _ _ => r2⟩
    · rw [if_neg c2]
      refine ⟨fun _ => ⟨kf, fun _ _ q => absurd q c2⟩, ?_⟩
      have hi : (σ 2 3 + 1).toInt = (σ 2 3).toInt + 1 := zinc' (by omega)
      by_cases c4 : f_S_countFlying σ = 0
      · rw [if_pos c4]
        rw [zeq, ef, zt0] at c4
        have := hfl1 c4
        exact ⟨by omega, by omega, by omega, fun p q1 q2 => by rw [show p = (σ 2 3).toInt by omega]; exact hN, fun _ => ⟨Or.inr ⟨this, by omega⟩, Or.inl c4⟩, fun _ _ => by omega⟩
      · rw [if_neg c4]
        rw [zeq, ef, zt0] at c4
        exact ⟨by omega, by omega, by omega, fun p q1 q2 => by omega, fun q => by omega, fun q _ => absurd (hfl0 q) c4⟩
  · rw [if_neg c1]
    have c1' := c1
    rw [zlt] at c1'
    exact ⟨fun q => absurd q c1, by omega, by omega, by omega, fun p q1 q2 => by omega, fun q => by omega, fun q1 q2 => by omega⟩
