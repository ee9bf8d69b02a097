/-! the law's turns, its start and its end -/
theorem zofL {L : Nat} (hL : L ≤ 260) : (Int32.ofNat L).toInt = L := Int32.toInt_ofNat_of_lt (by omega)
theorem t157 {L : Nat} {xs : Nat → Int32} {σ : zSt} {x2 x3 x4 x5 x6 x8 x9 : Int32} (h0 : 0 ≤ (σ 9 2).toInt) : ks_L_law_157 L xs σ x2 x3 x4 x5 x6 x8 x9 (σ 9 2) ∧ (s_L_law_157 L xs σ x2 x3 x4 x5 x6 x8 x9 (σ 9 2)).toInt < (σ 9 2).toInt := by
  refine ⟨fun q _ => q, ?_⟩
  unfold s_L_law_157
  by_cases c1 : σ 9 2 = 0
  · rw [if_pos c1, c1]; decide
  · rw [if_neg c1]
    have c1' := c1
    rw [zeq, zt0] at c1'
    by_cases c2 : x8 &&& 1 = 0
    · rw [if_pos c2, zt0]; omega
    · rw [if_neg c2]
      have hz := z255 (x8 >>> ((1 : Int32) &&& (31 : Int32)))
      generalize (x8 >>> ((1 : Int32) &&& (31 : Int32))) &&& 255 = z at *
      rw [zrem hz.1 (by omega)]
      exact Int.emod_lt_of_pos _ (by omega)
theorem t190 {L : Nat} {xs : Nat → Int32} {σ : zSt} {x2 x3 x4 x5 x6 x8 x9 x10 x11 : Int32} (h0 : 0 ≤ (σ 11 2).toInt) : ks_L_law_190 L xs σ x2 x3 x4 x5 x6 x8 x9 x10 x11 ∧ (s_L_law_190 L xs σ x2 x3 x4 x5 x6 x8 x9 x10 x11).toInt < (σ 11 2).toInt := by
  refine ⟨fun r q1 q2 _ r31 q3 => by rw [q3, ← q1]; exact q2, ?_⟩
  unfold s_L_law_190
  rw [zlet_e (show σ 11 2 = f_X_acks σ from rfl)]
  by_cases c1 : σ 11 2 = 0
  · rw [if_pos c1, c1]; decide
  · rw [if_neg c1]
    have c1' := c1
    rw [zeq, zt0] at c1'
    by_cases c2 : x8 &&& 1 = 0
    · rw [if_pos c2, zt0]; omega
    · rw [if_neg c2, zlet_e (show σ 11 2 = f_X_acks σ from rfl)]
      have hz := z255 (x8 >>> ((1 : Int32) &&& (31 : Int32)))
      generalize (x8 >>> ((1 : Int32) &&& (31 : Int32))) &&& 255 = z at *
      rw [zrem hz.1 (by omega)]
      exact Int.emod_lt_of_pos _ (by omega)
theorem t726 {L : Nat} {xs : Nat → Int32} {k : Nat} {σ : zSt} {x2 x3 x5 x6 : Int32} (h : zI k σ) : ks_L_law_726 L xs σ x2 x3 1 x5 x6 ∧ s_L_law_726 L xs σ x2 x3 1 x5 x6 = 1 := by
  obtain ⟨k1, e1⟩ := isSender h
  obtain ⟨k2, e2⟩ := isReceiver h
  refine ⟨fun _ => ⟨k1, fun _ _ _ => k2⟩, ?_⟩
  unfold s_L_law_726
  rw [if_neg (by decide), zlet_e e1.symm, if_neg (by decide), zlet_e e2.symm, if_neg (by decide)]
theorem l_turns {L : Nat} (hL : L ≤ 260) (xs : Nat → Int32) {x2 x5 : Int32} {f : Int} (hf : x2.toInt = f) (hf0 : 0 ≤ f) (hf1 : f < 256) (h5 : x5.toInt ≤ 320) : ∀ (m : Nat) (σ : zSt) (x3 x6 : Int32) (k : Nat), zI k σ → zVl f σ → x3.toInt = (σ 6 3).toInt → 0 ≤ x6.toInt → (x5.toInt - x6.toInt).toNat < m → k + 700 * (x5.toInt - x6.toInt).toNat ≤ 1000000 → kl_L_law_83 L xs x2 x5 m σ x3 1 x6 ∧ zTn (k + 700 * (x5.toInt - x6.toInt).toNat) f (l_L_law_83 L xs x2 x5 m σ x3 1 x6) := by
  intro m
  induction m with
  | zero => intro σ x3 x6 k _ _ _ _ hm; omega
  | succ m ih =>
    intro σ x3 x6 k h hv h3 h60 hm hk
    unfold kl_L_law_83 l_L_law_83
    by_cases c1 : x5 ≤ x6
    · rw [if_pos c1]
      exact ⟨fun q => absurd c1 q, rfl, zI_up h (by omega) (by omega), hv, h3⟩
    · rw [if_neg c1, if_neg (by decide)]
      have c1' := c1
      rw [zle] at c1'
      have hi : (x6 + 1).toInt = x6.toInt + 1 := zinc' (by omega)
      have h95 : ks_L_law_95 L xs σ x2 x3 1 x5 x6 := by
        intro q
        rw [zle, zofL hL] at q
        exact zvin h60 (by omega)
      rw [zlet_e rfl, zlet_e rfl, zlet_e (show σ 9 2 = f_X_segments σ from rfl)]
      generalize hx7 : s_L_law_95 L xs σ x2 x3 1 x5 x6 = x7
      generalize hx9 : s_L_law_135 L xs σ x2 x3 1 x5 x6 x7 (x7 >>> ((4 : Int32) &&& (31 : Int32))) = x9
      obtain ⟨a1, a2⟩ := t157 (L := L) (xs := xs) (σ := σ) (x2 := x2) (x3 := x3) (x4 := 1) (x5 := x5) (x6 := x6) (x8 := x7 >>> ((4 : Int32) &&& (31 : Int32))) (x9 := x9) h.2.2.2.1.1
      rw [zlet_e rfl]
      generalize hx11 : s_L_law_157 L xs σ x2 x3 1 x5 x6 (x7 >>> ((4 : Int32) &&& (31 : Int32))) x9 (σ 9 2) = x11 at *
      obtain ⟨b1, b2⟩ := t190 (L := L) (xs := xs) (σ := σ) (x2 := x2) (x3 := x3) (x4 := 1) (x5 := x5) (x6 := x6) (x8 := x7 >>> ((4 : Int32) &&& (31 : Int32))) (x9 := x9) (x10 := σ 9 2) (x11 := x11) h.2.2.2.2.1
      rw [zlet_e rfl]
      generalize hx12 : s_L_law_190 L xs σ x2 x3 1 x5 x6 (x7 >>> ((4 : Int32) &&& (31 : Int32))) x9 (σ 9 2) x11 = x12 at *
      obtain ⟨c2, c3⟩ := t227 (L := L) (xs := xs) (k := k) (f := f) (σ := σ) (x2 := x2) (x3 := x3) (x5 := x5) (x6 := x6) (x8 := x7 >>> ((4 : Int32) &&& (31 : Int32))) (x9 := x9) (x10 := σ 9 2) (x11 := x11) (x12 := x12) ⟨h, by omega, hv, hf, hf0, hf1, h3, rfl, a2, b2⟩
      rw [zlet_e rfl]
      generalize hR : s_L_law_227 L xs σ x2 x3 1 x5 x6 (x7 >>> ((4 : Int32) &&& (31 : Int32))) x9 (σ 9 2) x11 x12 = R at *
      obtain ⟨d1, d2, d3, d4⟩ := c3
      obtain ⟨r3, r4, u⟩ := R
      dsimp only at d1 d2 d3 d4 ⊢
      subst d1
      obtain ⟨e1, e2⟩ := t726 (L := L) (xs := xs) (x2 := x2) (x3 := r3) (x5 := x5) (x6 := x6) d2
      rw [zlet_e e2.symm]
      obtain ⟨i1, i2⟩ := ih u r3 (x6 + 1) (k + 700) d2 d3 d4 (by omega) (by omega) (by omega)
      rw [show k + 700 + 700 * (x5.toInt - (x6 + 1).toInt).toNat = k + 700 * (x5.toInt - x6.toInt).toNat by omega] at i2
      refine ⟨fun _ _ => ⟨h95, fun r18 q18 r20 q20 r21 q21 => ?_⟩, i2⟩
      subst q18
      rw [hx9] at q20
      subst q20
      have q21' : r21 = σ 9 2 := q21
      subst q21'
      refine ⟨a1, fun r26 q26 => ?_⟩
      rw [hx11] at q26
      subst q26
      refine ⟨b1, fun r34 q34 => ?_⟩
      rw [hx12] at q34
      subst q34
      refine ⟨c2, fun r162 q162 => ?_⟩
      rw [hR] at q162
      subst q162
      refine ⟨e1, fun r170 q170 => ?_⟩
      have q' : r170 = s_L_law_726 L xs u x2 r3 1 x5 x6 := q170
      rw [e2] at q'
      subst q'
      exact i1
theorem z4_0 (p : Int) : zA0 (zs0 4) p = 0 := by
  unfold zA0
  by_cases c : 0 ≤ p ∧ p < 600
  · rw [if_pos c]; rfl
  · rw [if_neg c]
theorem z8_0 (p : Int) : zA0 (zs0 8) p = 0 := by
  unfold zA0
  by_cases c : 0 ≤ p ∧ p < 600
  · rw [if_pos c]; rfl
  · rw [if_neg c]
theorem zI_0 : zI 0 zs0 := by
  refine ⟨?_, fun p q => absurd (z4_0 p) q, ⟨fun p q1 q2 => ?_, z8_0 _, fun p q => absurd (z8_0 p) q⟩, ⟨by decide, by decide, fun i hi => ?_⟩, by decide, by decide, fun i hi => ?_, fun i j hi _ => ?_⟩
  · unfold zNum
    rw [show (zs0 2 2).toInt = 0 from rfl, show (zs0 2 3).toInt = 0 from rfl, show (zs0 2 4).toInt = 0 from rfl, show (zs0 2 5).toInt = 0 from rfl, show (zs0 2 6).toInt = 32 from rfl, show (zs0 2 7).toInt = 8 from rfl, show (zs0 2 8).toInt = 64 from rfl, show (zs0 2 9).toInt = 256 from rfl, show (zs0 2 10).toInt = 0 from rfl, show (zs0 2 11).toInt = -1 from rfl, show (zs0 2 12).toInt = 0 from rfl, show (zs0 2 13).toInt = 0 from rfl, show (zs0 2 14).toInt = 0 from rfl, show (zs0 5 0).toInt = 0 from rfl, show (zs0 5 1).toInt = 8 from rfl, show (zs0 5 2).toInt = -1 from rfl, show (zs0 5 3).toInt = -1 from rfl, show (zs0 6 1).toInt = 0 from rfl, show (zs0 6 2).toInt = 0 from rfl, show (zs0 6 3).toInt = 0 from rfl]
    decide
  · have : (zs0 6 2).toInt = 0 := rfl
    omega
  · have : (zs0 9 2).toInt = 0 := rfl
    omega
  · have : (zs0 11 2).toInt = 0 := rfl
    omega
  · have : (zs0 11 2).toInt = 0 := rfl
    omega
theorem z_pure (L : Nat) (xs : Nat → Int32) (hL : L ≤ 260) : kj_L_law_8 L xs zs0 ∧ (j_L_law_8 L xs zs0).1 = 1 := by
  have hI := zI_0
  -- the first byte
  have h8 : ks_L_law_8 L xs zs0 := fun q => by
    rw [zle, zofL hL, zt0] at q
    exact zvin (by decide) (by rw [zt0]; omega)
  have hf : 0 ≤ (s_L_law_8 L xs zs0).toInt ∧ (s_L_law_8 L xs zs0).toInt < 256 := by
    unfold s_L_law_8
    by_cases c : Int32.ofNat L ≤ 0
    · rw [if_pos c]; exact ⟨by decide, by decide⟩
    · rw [if_neg c]
      have := z255 (xs (0 : Int32).toNatClampNeg)
      omega
  obtain ⟨k1, e1⟩ := isSender hI
  obtain ⟨k2, e2⟩ := isReceiver hI
  have h28 : ∀ x, ks_L_law_28 L xs zs0 x 0 := fun x => ⟨k1, fun _ _ _ => k2⟩
  have e28 : ∀ x, s_L_law_28 L xs zs0 x 0 = 1 := fun x => by
    unfold s_L_law_28
    rw [zlet_e e1.symm, if_neg (by decide), zlet_e e2.symm, if_neg (by decide)]
  have e49 : ∀ x y, (s_L_law_49 L xs zs0 x 0 y).toInt ≤ 320 ∧ 0 ≤ (s_L_law_49 L xs zs0 x 0 y).toInt := fun x y => by
    unfold s_L_law_49
    by_cases c1 : 30 ≤ Int32.ofNat L
    · rw [if_pos c1]
      by_cases c2 : 80 ≤ Int32.ofNat L
      · rw [if_pos c2]; exact ⟨by decide, by decide⟩
      · rw [if_neg c2]
        rw [zle, zofL hL, zt80] at c2
        have : (4 * Int32.ofNat L).toInt = 4 * L := by rw [zmul (by rw [zt4, zofL hL]; omega) (by rw [zt4, zofL hL]; omega), zt4, zofL hL]
        omega
    · rw [if_neg c1]; exact ⟨by decide, by decide⟩
  have hv0 : ∀ f, zVl f zs0 := fun f p q => by
    have : (zs0 2 5).toInt = 0 := rfl
    omega
  unfold kj_L_law_8 j_L_law_8
  obtain ⟨x2, hx2⟩ : ∃ x2, x2 = s_L_law_8 L xs zs0 := ⟨_, rfl⟩
  rw [← hx2] at hf
  rw [zlet_e hx2, zlet_e (e28 x2).symm]
  obtain ⟨x5, hx5⟩ : ∃ x5, x5 = s_L_law_49 L xs zs0 x2 0 1 := ⟨_, rfl⟩
  rw [zlet_e hx5]
  have h5 := e49 x2 1
  rw [← hx5] at h5
  obtain ⟨l1, l2⟩ := l_turns hL xs (x2 := x2) (x5 := x5) rfl hf.1 hf.2 h5.1 400 zs0 0 0 0 hI (hv0 _) rfl (by decide) (by rw [zt0]; omega) (by rw [zt0]; omega)
  obtain ⟨R, hR⟩ : ∃ R, R = l_L_law_83 L xs x2 x5 400 zs0 0 1 0 := ⟨_, rfl⟩
  rw [← hR] at l2
  rw [zlet_e hR]
  obtain ⟨r3, r4, u⟩ := R
  obtain ⟨d1, d2, d3, d4⟩ := l2
  dsimp only at d1 d2 d3 d4 ⊢
  subst d1
  obtain ⟨g1, p, v, k', g2, g3, g4⟩ := drainsOk d2 d3 (a2 := x2) (a3 := r3) rfl hf.1 hf.2 d4 (by rw [zt0]; omega)
  obtain ⟨m1, n1⟩ := isSender g4
  obtain ⟨m2, n2⟩ := isReceiver g4
  have hpw : p = f_X_written v := by rw [zeq]; exact g3
  rw [if_neg (by decide), zseq_e g2.symm, zlet_e rfl, if_pos hpw, zlet_e n1.symm, if_neg (by decide), zlet_e n2.symm, if_neg (by decide)]
  refine ⟨⟨h8, fun r3' q3 => ?_⟩, rfl⟩
  rw [← hx2] at q3
  subst q3
  refine ⟨h28 _, fun r10 q10 r13 q13 => ?_⟩
  rw [e28] at q10
  subst q10
  rw [← hx5] at q13
  subst q13
  refine ⟨l1, fun r171 q171 _ => ?_⟩
  rw [← hR] at q171
  subst q171
  refine ⟨g1, fun r173 u174 q r176 _ _ => ?_⟩
  have q' : (r173, u174) = f_L_drains u r3' r3 := q
  rw [g2] at q'
  obtain ⟨rfl, rfl⟩ := Prod.mk.inj q'
  exact ⟨m1, fun _ _ _ => m2⟩
