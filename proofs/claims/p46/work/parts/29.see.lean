/-! what the law looks at -/
theorem zp32 {x : Int32} (h0 : 0 ≤ x.toInt) (h1 : x.toInt ≤ 1000) : (x + 32).toInt = x.toInt + 32 := by rw [zadd (by rw [zt32]; omega) (by rw [zt32]; omega), zt32]
theorem zt33 : (33 : Int32).toInt = 33 := rfl
theorem zp33 {x : Int32} (h0 : 0 ≤ x.toInt) (h1 : x.toInt ≤ 1000) : (x + 33).toInt = x.toInt + 33 := by rw [zadd (by rw [zt33]; omega) (by rw [zt33]; omega), zt33]
theorem zp4 {x : Int32} (h0 : 0 ≤ x.toInt) (h1 : x.toInt ≤ 1000) : (x + 4).toInt = x.toInt + 4 := by rw [zadd (by rw [zt4]; omega) (by rw [zt4]; omega), zt4]
theorem isS12 {k : Nat} {σ : zSt} (h : zNum k (σ 2) (σ 5) (σ 6)) : s_L_isSender_12 σ (σ 2 2) (σ 2 3) 0 = 1 := by
  obtain ⟨h, -, -⟩ := h
  have e1 := zp32 (x := σ 6 3) (by omega) (by omega)
  have e2 := zp33 (x := σ 2 2) (by omega) (by omega)
  unfold s_L_isSender_12
  dsimp only [zlet, f_X_inOrder, f_X_written, f_X_highest, f_X_edge, f_X_readPosition]
  rw [if_neg (by rw [zlt]; omega), if_neg (by rw [zlt]; omega), if_neg (by rw [zlt]; omega), if_neg (by rw [zlt]; omega), if_neg (by rw [zlt]; omega), if_neg (by rw [zlt, zt32]; omega), if_neg (by rw [zlt, e1]; omega), if_neg (by rw [zlt, e2]; omega)]
theorem isMk {σ : zSt} {x : Int32} (h0 : 0 ≤ x.toInt) (h1 : x.toInt < (σ 2 5).toInt) : k_X_isMarked σ x ∧ f_X_isMarked σ x = (if zA0 (σ 4) x.toInt = 0 then 0 else 1) := by
  unfold k_X_isMarked f_X_isMarked
  have c1 : ¬ x < 0 := by rw [zlt, zt0]; omega
  have c2 : x < σ 2 5 := by rw [zlt]; omega
  refine ⟨⟨fun q => absurd q c1, fun _ => ⟨fun _ => k_at 3 σ x, fun q => absurd c2 q⟩⟩, ?_⟩
  rw [if_neg c1, if_pos c2]
  dsimp only [zlet]
  rw [f_at]
/-- the marks below a place and below N -/
def zMc (f : Nat → Int32) (A N p : Int) : Int := if p ≤ A then 0 else if p ≤ N then (p - A) - zCt f A (p - A).toNat else (N - A) - zCt f A (N - A).toNat
theorem zMc_step {f : Nat → Int32} {A N p : Int} (hA : A ≤ N) (hm : ∀ q, ¬ zA0 f q = 0 → A < q) : zMc f A N (p + 1) = zMc f A N p + (if ¬ zA0 f p = 0 ∧ p < N then 1 else 0) := by
  unfold zMc
  by_cases c1 : p + 1 ≤ A
  · rw [if_pos c1, if_pos (by omega), if_neg (show ¬ (¬ zA0 f p = 0 ∧ p < N) from fun q => by have := hm p q.1; omega)]; rfl
  · rw [if_neg c1]
    by_cases c2 : p ≤ A
    · have hp : p = A := by omega
      subst hp
      have hu : zA0 f p = 0 := by
        by_cases q : zA0 f p = 0
        · exact q
        · have := hm p q; omega
      rw [if_pos (Int.le_refl p), if_neg (show ¬ (¬ zA0 f p = 0 ∧ p < N) from fun q => q.1 hu)]
      by_cases c3 : p + 1 ≤ N
      · rw [if_pos c3, show (p + 1 - p).toNat = 0 + 1 by omega]
        show p + 1 - p - (0 + (if zA0 f (p + ((0 : Nat) : Int)) = 0 then 1 else 0)) = 0 + 0
        rw [if_pos (by rw [show p + ((0 : Nat) : Int) = p by omega]; exact hu)]
        omega
      · rw [if_neg c3, show (N - p).toNat = 0 by omega]
        show N - p - 0 = 0 + 0
        omega
    · rw [if_neg c2]
      by_cases c3 : p + 1 ≤ N
      · rw [if_pos c3, if_pos (by omega), show (p + 1 - A).toNat = (p - A).toNat + 1 by omega]
        show p + 1 - A - (zCt f A (p - A).toNat + (if zA0 f (A + ((p - A).toNat : Int)) = 0 then 1 else 0)) = _
        rw [show A + ((p - A).toNat : Int) = p by omega]
        by_cases c4 : zA0 f p = 0
        · rw [if_pos c4, if_neg (show ¬ (¬ zA0 f p = 0 ∧ p < N) from fun q => q.1 c4)]; omega
        · rw [if_neg c4, if_pos ⟨c4, by omega⟩]; omega
      · rw [if_neg c3, if_neg (show ¬ (¬ zA0 f p = 0 ∧ p < N) from fun q => by have := q.2; omega)]
        by_cases c4 : p ≤ N
        · have hp : p = N := by omega
          rw [if_pos c4, hp]; omega
        · rw [if_neg c4]; omega
theorem isS93 {σ : zSt} (h1 : 0 ≤ (σ 2 2).toInt) (h2 : (σ 2 2).toInt ≤ (σ 2 3).toInt) (h3 : (σ 2 3).toInt ≤ (σ 2 5).toInt) (h5 : (σ 2 5).toInt ≤ 300) (h4 : (σ 2 4).toInt ≤ (σ 2 2).toInt + 33) (hm : ∀ q, ¬ zA0 (σ 4) q = 0 → (σ 2 2).toInt < q ∧ q < (σ 2 4).toInt) : ∀ (m : Nat) (x3 x5 : Int32), 0 ≤ x5.toInt → x5.toInt ≤ (σ 2 5).toInt → ((σ 2 5).toInt - x5.toInt).toNat < m → x3.toInt = zMc (σ 4) (σ 2 2).toInt (σ 2 3).toInt x5.toInt → kl_L_isSender_93 σ (σ 2 2) (σ 2 3) m x3 1 x5 ∧ (l_L_isSender_93 σ (σ 2 2) (σ 2 3) m x3 1 x5).2 = 1 ∧ (l_L_isSender_93 σ (σ 2 2) (σ 2 3) m x3 1 x5).1.toInt = zMc (σ 4) (σ 2 2).toInt (σ 2 3).toInt (σ 2 5).toInt := by
  intro m
  induction m with
  | zero => intro x3 x5 _ _ hm; omega
  | succ m ih =>
    intro x3 x5 g0 g1 hm0 gx
    unfold kl_L_isSender_93 l_L_isSender_93
    dsimp only [zlet, f_X_written]
    by_cases c1 : σ 2 5 ≤ x5
    · rw [if_pos c1]
      rw [zle] at c1
      have e : x5.toInt = (σ 2 5).toInt := by omega
      refine ⟨fun r hr q => absurd (zle.mpr (by rw [hr]; omega)) q, rfl, ?_⟩
      show x3.toInt = _
      rw [gx, e]
    · rw [if_neg c1]
      have c1' := c1
      rw [zle] at c1'
      have hi : (x5 + 1).toInt = x5.toInt + 1 := zinc' (by omega)
      obtain ⟨k1, k2⟩ := isMk (σ := σ) (x := x5) g0 (by omega)
      have hb : 0 ≤ x3.toInt ∧ x3.toInt ≤ 300 := by
        rw [gx]
        unfold zMc
        have b1 := zCt_b (σ 4) (σ 2 2).toInt (x5.toInt - (σ 2 2).toInt).toNat
        have b2 := zCt_b (σ 4) (σ 2 2).toInt ((σ 2 3).toInt - (σ 2 2).toInt).toNat
        by_cases q1 : x5.toInt ≤ (σ 2 2).toInt
        · rw [if_pos q1]; omega
        · rw [if_neg q1]
          by_cases q2 : x5.toInt ≤ (σ 2 3).toInt
          · rw [if_pos q2]; omega
          · rw [if_neg q2]; omega
      have hst := zMc_step (f := σ 4) (A := (σ 2 2).toInt) (N := (σ 2 3).toInt) (p := x5.toInt) h2 (fun q w => (hm q w).1)
      have e110 : (s_L_isSender_110 σ (σ 2 2) (σ 2 3) x3 1 x5 (f_X_isMarked σ x5)).toInt = zMc (σ 4) (σ 2 2).toInt (σ 2 3).toInt (x5 + 1).toInt := by
        rw [hi, hst, ← gx, k2]
        unfold s_L_isSender_110
        by_cases c2 : zA0 (σ 4) x5.toInt = 0
        · rw [if_pos c2, if_pos rfl, if_neg (fun q => q.1 c2), Int32.add_zero]; omega
        · rw [if_neg c2, if_neg (by decide)]
          by_cases c3 : σ 2 3 ≤ x5
          · rw [if_pos c3, if_neg (fun q => by have := q.2; rw [zle] at c3; omega), Int32.add_zero]; omega
          · rw [if_neg c3, if_pos ⟨c2, by rw [zle] at c3; omega⟩, zinc' (by omega)]
      have e129 : ∀ y, s_L_isSender_129 σ (σ 2 2) (σ 2 3) y 1 x5 (f_X_isMarked σ x5) = 1 := by
        intro y
        rw [k2]
        unfold s_L_isSender_129
        rw [if_neg (by decide)]
        by_cases c2 : zA0 (σ 4) x5.toInt = 0
        · rw [if_pos c2, if_pos rfl]
        · have := hm _ c2
          have e2 := zp33 (x := σ 2 2) (by omega) (by omega)
          dsimp only [zlet, f_X_highest]
          rw [if_neg c2, if_neg (by decide), if_neg (by rw [zle]; omega), if_neg (by rw [zle]; omega), if_neg (by rw [zle, e2]; omega)]
      obtain ⟨i1, i2, i3⟩ := ih (s_L_isSender_110 σ (σ 2 2) (σ 2 3) x3 1 x5 (f_X_isMarked σ x5)) (x5 + 1) (by omega) (by omega) (by omega) e110
      rw [e129]
      refine ⟨fun r30 _ _ => ⟨k1, fun r33 e33 r37 e37 r45 e45 => ?_⟩, i2, i3⟩
      subst e33
      subst e37
      rw [e129] at e45
      subst e45
      exact i1
/-- bytes under way -/
def zfl (σ : zSt) : Int := zCt (σ 4) (σ 2 2).toInt ((σ 2 3).toInt - (σ 2 2).toInt).toNat
theorem flying {σ : zSt} (h0 : 0 ≤ (σ 2 2).toInt) (h1 : (σ 2 3).toInt ≤ 600) : k_S_countFlying σ ∧ (f_S_countFlying σ).toInt = zfl σ := countEmpty 3 σ (σ 2 2) (σ 2 3) h0 h1
theorem isSender {k : Nat} {σ : zSt} (h : zI k σ) : k_L_isSender σ ∧ f_L_isSender σ = 1 := by
  obtain ⟨hn, hm, -⟩ := h
  have hn' := hn
  obtain ⟨hp, hc, ht⟩ := hn'
  have e12 := isS12 hn
  obtain ⟨k1, l1, l2⟩ := isS93 (σ := σ) (by omega) (by omega) (by omega) (by omega) (by omega) (fun q w => ⟨(hm q w).1, (hm q w).2.1⟩) 700 0 0 (by decide) (by rw [zt0]; omega) (by rw [zt0]; omega) (by
    rw [zt0]
    unfold zMc
    rw [if_pos (by omega)])
  obtain ⟨f1, f2⟩ := flying (σ := σ) (by omega) (by omega)
  have hfb := zCt_b (σ 4) (σ 2 2).toInt ((σ 2 3).toInt - (σ 2 2).toInt).toNat
  have hM : zMc (σ 4) (σ 2 2).toInt (σ 2 3).toInt (σ 2 5).toInt = (σ 2 3).toInt - (σ 2 2).toInt - zfl σ := by
    unfold zMc zfl
    by_cases q1 : (σ 2 5).toInt ≤ (σ 2 2).toInt
    · rw [if_pos q1, show ((σ 2 3).toInt - (σ 2 2).toInt).toNat = 0 by omega]
      show (0 : Int) = _ - (0 : Int)
      omega
    · rw [if_neg q1]
      by_cases q2 : (σ 2 5).toInt ≤ (σ 2 3).toInt
      · rw [if_pos q2, show (σ 2 5).toInt = (σ 2 3).toInt by omega]
      · rw [if_neg q2]
  rw [hM] at l2
  have hfl : zfl σ = zCt (σ 4) (σ 2 2).toInt ((σ 2 3).toInt - (σ 2 2).toInt).toNat := rfl
  generalize hL : l_L_isSender_93 σ (σ 2 2) (σ 2 3) 700 0 1 0 = R at *
  have e176 : s_L_isSender_176 σ (σ 2 2) (σ 2 3) R.1 R.2 = 1 := by
    rw [l1]
    unfold s_L_isSender_176
    dsimp only [zlet, f_X_inFlight, f_X_congestionWindow, f_X_threshold, f_X_timeout, f_X_duplicates, f_X_sentAgain, f_X_sent]
    have d1 : (σ 2 3 - σ 2 2).toInt = (σ 2 3).toInt - (σ 2 2).toInt := zsub (by omega) (by omega)
    have d2 : (σ 2 3 - σ 2 2 - R.1).toInt = zfl σ := by rw [zsub (by omega) (by omega)]; omega
    rw [if_neg (by decide), if_pos (by rw [zeq, f2, d2]), if_neg (by rw [zlt, zt4]; omega), if_neg (by rw [zlt, zt256]; omega), if_neg (by rw [zlt, zt8]; omega), if_neg (by rw [zlt, zt2]; omega), if_neg (by rw [zlt, zt64]; omega), if_neg (by rw [zlt, zt0]; omega), if_neg (by rw [zlt]; omega)]
  have e262 : s_L_isSender_262 σ (σ 2 2) (σ 2 3) 1 = 1 := by
    unfold s_L_isSender_262
    dsimp only [zlet, f_X_recoveryEnd, f_X_timedEnd, f_X_highest]
    rw [if_neg (by decide)]
    have g : (if σ 5 3 = -1 then (1 : Int32) else if σ 5 3 ≤ σ 2 2 then 0 else if σ 2 4 < σ 5 3 then 0 else 1) = 1 := by
      by_cases c2 : σ 5 3 = -1
      · rw [if_pos c2]
      · have c2' := c2
        rw [zeq, ztm1] at c2'
        rw [if_neg c2, if_neg (by rw [zle]; omega), if_neg (by rw [zlt]; omega)]
    rw [g]
    by_cases c1 : σ 2 11 = -1
    · rw [if_pos c1]
    · have c1' := c1
      rw [zeq, ztm1] at c1'
      rw [if_neg c1, if_neg (by rw [zle]; omega)]
  refine ⟨?_, ?_⟩
  · unfold k_L_isSender
    intro r1 q1 r3 q3 r29 q29
    dsimp only [f_X_acknowledged, f_X_next] at q1 q3
    subst q1
    subst q3
    rw [e12] at q29
    subst q29
    refine ⟨k1, fun r46 _ => ?_⟩
    unfold ks_L_isSender_176
    exact fun _ => f1
  · unfold f_L_isSender
    dsimp only [zlet, f_X_acknowledged, f_X_next, f_X_timerEnd, f_X_time]
    rw [e12, hL, e176, e262, if_neg (by decide)]
    by_cases c1 : σ 5 2 = -1
    · have c1' := c1
      rw [zeq, ztm1] at c1'
      rw [if_pos c1, if_neg (by rw [zle, zt0]; omega), if_pos (by rw [zeq]; omega)]
    · have c1' := c1
      rw [zeq, ztm1] at c1'
      have e64 : (σ 5 0 + 64).toInt = (σ 5 0).toInt + 64 := by rw [zadd (by rw [zt64]; omega) (by rw [zt64]; omega), zt64]
      rw [if_neg c1, if_neg (by rw [zle]; omega), if_neg (by rw [zlt, e64]; omega), if_pos (by rw [zle, zt0]; omega)]
