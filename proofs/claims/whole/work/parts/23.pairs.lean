/-! greater and lesser -/
def zmx (a b : Int32) : Int32 := if a ≤ b then b else a
def zmn (a b : Int32) : Int32 := if b ≤ a then b else a
theorem zmx_t (a b : Int32) : (zmx a b).toInt = if a.toInt ≤ b.toInt then b.toInt else a.toInt := by
  unfold zmx
  by_cases h : a ≤ b
  · rw [if_pos h, if_pos (zle.mp h)]
  · rw [if_neg h, if_neg (fun q => h (zle.mpr q))]
theorem zmn_t (a b : Int32) : (zmn a b).toInt = if b.toInt ≤ a.toInt then b.toInt else a.toInt := by
  unfold zmn
  by_cases h : b ≤ a
  · rw [if_pos h, if_pos (zle.mp h)]
  · rw [if_neg h, if_neg (fun q => h (zle.mpr q))]
theorem zgreater (σ : zSt) (a b : Int32) : f_M_greater σ a b = zmx a b := rfl
theorem zlesser (σ : zSt) (a b : Int32) : f_M_lesser σ a b = zmn a b := rfl
theorem zmx_lt (a b : Int32) : (if a < b then b else a) = zmx a b := by
  rw [zeq, zmx_t]
  by_cases h : a < b
  · rw [if_pos h, if_pos]
    rw [zlt] at h; omega
  · rw [if_neg h]
    rw [zlt] at h
    split <;> omega
theorem zmn_lt (a b : Int32) : (if a < b then a else b) = zmn a b := by
  rw [zeq, zmn_t]
  by_cases h : a < b
  · rw [if_pos h, if_neg]
    rw [zlt] at h; omega
  · rw [if_neg h]
    rw [zlt] at h
    split <;> omega
theorem zmx_comm (a b : Int32) : zmx a b = zmx b a := by
  rw [zeq, zmx_t, zmx_t]
  split <;> split <;> omega
theorem zmn_comm (a b : Int32) : zmn a b = zmn b a := by
  rw [zeq, zmn_t, zmn_t]
  split <;> split <;> omega
theorem zA0_eq {f g : Nat → Int32} (h : ∀ j, j < 600 → f j = g j) (p : Int) : zA0 f p = zA0 g p := by
  unfold zA0
  by_cases h1 : 0 ≤ p ∧ p < 600
  · rw [if_pos h1, if_pos h1, h _ (by omega)]
  · rw [if_neg h1, if_neg h1]
/-! bytes in flight -/
theorem l_flight (σ τ : zSt) (hm : ∀ j : Nat, j < 600 → σ 4 j = τ 15 j) (hy : (τ 13 3).toInt ≤ 600) : ∀ (m m' : Nat) (c x : Int32), 0 ≤ c.toInt → c.toInt ≤ x.toInt → x.toInt ≤ 600 → ((τ 13 3).toInt - x.toInt).toNat < m → ((τ 13 3).toInt - x.toInt).toNat < m' → kl_P_countEmpty_5 3 σ (τ 13 3) m c x ∧ kl_M_flight_7 τ m' c x ∧ l_P_countEmpty_5 3 σ (τ 13 3) m c x = l_M_flight_7 τ m' c x ∧ c.toInt ≤ (l_M_flight_7 τ m' c x).toInt ∧ (l_M_flight_7 τ m' c x).toInt ≤ 600 := by
  intro m
  induction m with
  | zero => intro m' c x _ _ _ h; omega
  | succ m ih =>
    intro m' c x h0 h1 h2 h3 h4
    obtain ⟨m'', rfl⟩ : ∃ k, m' = k + 1 := ⟨m' - 1, by omega⟩
    unfold kl_P_countEmpty_5 l_P_countEmpty_5 kl_M_flight_7 l_M_flight_7
    by_cases g1 : τ 13 3 ≤ x
    · rw [if_pos g1, if_pos g1]
      exact ⟨fun q => absurd g1 q, fun q => absurd g1 q, rfl, Int.le_refl _, by omega⟩
    · rw [if_neg g1, if_neg g1]
      have g1' := g1
      rw [zle] at g1'
      have hi : (x + 1).toInt = x.toInt + 1 := zinc' (by omega)
      have hc : (c + 1).toInt = c.toInt + 1 := zinc' (by omega)
      have ha : f_P_at 3 σ x = τ 15 x.toNatClampNeg := by
        rw [f_at, zA0_eq (g := τ 15) hm]
        exact zA0_in (by omega) (by omega)
      have hv : vp_in x 600 := zvin (by omega) (by omega)
      have hz : c + 0 = c := Int32.add_zero c
      dsimp only [zlet]
      rw [ha, hz]
      by_cases g2 : τ 15 x.toNatClampNeg = 0
      · rw [if_pos g2, if_pos g2]
        obtain ⟨k1, k2, k3, k4, k5⟩ := ih m'' (c + 1) (x + 1) (by omega) (by omega) (by omega) (by omega) (by omega)
        refine ⟨fun _ => ⟨k_at 3 σ x, fun r hr => ⟨fun _ => k1, fun q => absurd (hr.trans g2) q⟩⟩, fun _ => ⟨hv, fun _ => k2, fun q => absurd g2 q⟩, k3, by omega, k5⟩
      · rw [if_neg g2, if_neg g2]
        obtain ⟨k1, k2, k3, k4, k5⟩ := ih m'' c (x + 1) (by omega) (by omega) (by omega) (by omega) (by omega)
        refine ⟨fun _ => ⟨k_at 3 σ x, fun r hr => ⟨fun q => absurd (hr.symm.trans q) g2, fun _ => k1⟩⟩, fun _ => ⟨hv, fun q => absurd q g2, fun _ => k2⟩, k3, by omega, k5⟩
theorem zflight (σ τ : zSt) (hm : ∀ j : Nat, j < 600 → σ 4 j = τ 15 j) (e2 : σ 2 2 = τ 13 2) (e3 : σ 2 3 = τ 13 3) (h0 : 0 ≤ (τ 13 2).toInt) (h1 : (τ 13 2).toInt ≤ 600) (hy : (τ 13 3).toInt ≤ 600) : k_S_countFlying σ ∧ k_M_flight τ ∧ f_S_countFlying σ = f_M_flight τ ∧ 0 ≤ (f_M_flight τ).toInt ∧ (f_M_flight τ).toInt ≤ 600 := by
  unfold k_S_countFlying k_M_flight f_S_countFlying f_M_flight k_P_countEmpty f_P_countEmpty
  rw [e2, e3]
  exact l_flight σ τ hm hy _ _ 0 (τ 13 2) (by rw [zt0]; omega) (by rw [zt0]; omega) h1 (by omega) (by omega)
/-! the latest arrival in a run -/
theorem l_latest (σ τ : zSt) (hh : ∀ j : Nat, j < 600 → σ 8 j = τ 17 j ∧ (τ 16 j = 0 ↔ τ 17 j = 0)) (y : Int32) (hy : y.toInt ≤ 600) (hye : y.toInt < 600 → zA0 (σ 8) y.toInt = 0) : ∀ (m m' : Nat) (c x : Int32), 0 ≤ x.toInt → x.toInt ≤ y.toInt → (∀ p, x.toInt ≤ p → p < y.toInt → ¬ zA0 (σ 8) p = 0) → (y.toInt - x.toInt).toNat < m → (600 - x.toInt).toNat < m' → kl_P_greatest_5 7 σ y m c x ∧ kl_M_latest_4 τ m' c x ∧ l_P_greatest_5 7 σ y m c x = l_M_latest_4 τ m' c x ∧ c.toInt ≤ (l_M_latest_4 τ m' c x).toInt ∧ (x.toInt < y.toInt → (τ 17 x.toInt.toNat).toInt ≤ (l_M_latest_4 τ m' c x).toInt) := by
  intro m
  induction m with
  | zero => intro m' c x _ _ _ h; omega
  | succ m ih =>
    intro m' c x h0 h1 h2 h3 h4
    obtain ⟨m'', rfl⟩ : ∃ k, m' = k + 1 := ⟨m' - 1, by omega⟩
    unfold kl_P_greatest_5 l_P_greatest_5 kl_M_latest_4 l_M_latest_4
    by_cases g1 : y ≤ x
    · have g1' := zle.mp g1
      rw [if_pos g1]
      by_cases g3 : 600 ≤ x
      · rw [if_pos g3]
        exact ⟨fun q => absurd g1 q, fun q => absurd g3 q, rfl, Int.le_refl _, fun q => absurd q (by omega)⟩
      · rw [if_neg g3]
        have g3' := g3
        rw [zle, zt600] at g3'
        have hq : y.toInt = x.toInt := by omega
        have hz : τ 16 x.toNatClampNeg = 0 := by
          have q := hye (by omega)
          rw [hq, zA0_in (by omega) (by omega)] at q
          rw [zNat, (hh _ (by omega)).2, ← (hh _ (by omega)).1]
          exact q
        rw [if_pos hz]
        exact ⟨fun q => absurd g1 q, fun q => ⟨zvin h0 (by omega), fun q2 => absurd hz q2⟩, rfl, Int.le_refl _, fun q => absurd q (by omega)⟩
    · rw [if_neg g1]
      have g1' := g1
      rw [zle] at g1'
      have g3 : ¬ (600 : Int32) ≤ x := by rw [zle, zt600]; omega
      rw [if_neg g3]
      have hi : (x + 1).toInt = x.toInt + 1 := zinc' (by omega)
      have hv : vp_in x 600 := zvin (by omega) (by omega)
      have hx := h2 x.toInt (by omega) (by omega)
      rw [zA0_in h0 (by omega)] at hx
      have hb := hh x.toInt.toNat (by omega)
      have hz : ¬ τ 16 x.toNatClampNeg = 0 := by
        rw [zNat, hb.2, ← hb.1]; exact hx
      rw [if_neg hz]
      have ha : f_P_at 7 σ x = τ 17 x.toNatClampNeg := by
        rw [f_at, zNat, ← hb.1]
        exact zA0_in (by omega) (by omega)
      dsimp only [zlet]
      rw [ha, zgreater, zmx_lt]
      obtain ⟨k1, k2, k3, k4, k5⟩ := ih m'' (zmx c (τ 17 x.toNatClampNeg)) (x + 1) (by omega) (by omega) (fun p q1 q2 => h2 p (by omega) q2) (by omega) (by omega)
      have hmx := zmx_t c (τ 17 x.toNatClampNeg)
      rw [zNat] at hmx
      refine ⟨fun _ => ⟨k_at 7 σ x, fun r hr => by rw [hr, zmx_lt]; exact k1⟩, fun _ => ⟨hv, fun _ => ⟨hv, fun r hr => by rw [hr]; exact k2⟩⟩, k3, ?_, fun _ => ?_⟩
      · rw [zNat] at k4 ⊢
        split at hmx <;> omega
      · rw [zNat] at k4 ⊢
        split at hmx <;> omega
theorem zlatest (σ τ : zSt) (hh : ∀ j : Nat, j < 600 → σ 8 j = τ 17 j ∧ (τ 16 j = 0 ↔ τ 17 j = 0)) (x y : Int32) (h0 : 0 ≤ x.toInt) (h1 : x.toInt ≤ 600) (h2 : zFst (fun p => zA0 (σ 8) p = 0) x.toInt 600 y.toInt) : k_P_greatest 7 σ x y ∧ k_M_latest τ x ∧ f_P_greatest 7 σ x y = f_M_latest τ x ∧ (x.toInt < y.toInt → (τ 17 x.toInt.toNat).toInt ≤ (f_M_latest τ x).toInt) := by
  obtain ⟨g1, g2, g3, g4⟩ := h2
  have h := l_latest σ τ hh y (by omega) g4 ((y.toInt - x.toInt).toNat + 2) (((600 : Int32).toInt - x.toInt).toNat + 2) 0 x h0 g1 (fun p q1 q2 => (g3 p q1 q2).2) (by omega) (by rw [zt600]; omega)
  exact ⟨h.1, h.2.1, h.2.2.1, h.2.2.2.2⟩
/-! a segment's bytes are taken -/
theorem l_fill7 (a1 v b e r : Int32) (hv : ¬ v = 0) (ha0 : 0 ≤ a1.toInt) (ha1 : a1.toInt < 40) (hb : b = (if r < e then r else e)) (he : e.toInt ≤ 600) : ∀ (m m' : Nat) (σ τ : zSt) (c x : Int32), (∀ j : Nat, j < 600 → σ 8 j = τ 17 j ∧ τ 16 j = (if τ 17 j = 0 then 0 else 1)) → τ 13 27 = v → τ 13 29 + 32 = r → τ 19 a1.toNatClampNeg = e → 0 ≤ x.toInt → (b.toInt - x.toInt).toNat < m → (e.toInt - x.toInt).toNat < m' → kl_P_fillEmpty_10 7 b v m σ c x ∧ kl_M_deliver_41 a1 m' τ c x ∧ (l_P_fillEmpty_10 7 b v m σ c x).1 = (l_M_deliver_41 a1 m' τ c x).1 ∧ (∀ j : Nat, j < 600 → (l_P_fillEmpty_10 7 b v m σ c x).2 8 j = (l_M_deliver_41 a1 m' τ c x).2 17 j ∧ (l_M_deliver_41 a1 m' τ c x).2 16 j = (if (l_M_deliver_41 a1 m' τ c x).2 17 j = 0 then 0 else 1)) ∧ (∀ i, i ≠ 8 → (l_P_fillEmpty_10 7 b v m σ c x).2 i = σ i) ∧ (∀ i, i ≠ 16 → i ≠ 17 → (l_M_deliver_41 a1 m' τ c x).2 i = τ i) ∧ (∀ j : Nat, j < 600 → (l_M_deliver_41 a1 m' τ c x).2 17 j = τ 17 j ∨ ((l_M_deliver_41 a1 m' τ c x).2 17 j = v ∧ τ 17 j = 0 ∧ (j : Int) < e.toInt ∧ (j : Int) < r.toInt)) := by
  intro m
  induction m with
  | zero => intro m' σ τ c x _ _ _ _ _ h; omega
  | succ m ih =>
    intro m' σ τ c x h0 h1 h2 h3 hx h4 h5
    obtain ⟨m'', rfl⟩ : ∃ k, m' = k + 1 := ⟨m' - 1, by omega⟩
    unfold kl_P_fillEmpty_10 l_P_fillEmpty_10 kl_M_deliver_41 l_M_deliver_41
    rw [h3, h2]
    have hva : vp_in a1 40 := zvin ha0 (by omega)
    have hbt : b.toInt = if r.toInt < e.toInt then r.toInt else e.toInt := by
      rw [hb]
      by_cases q : r < e
      · rw [if_pos q, if_pos (zlt.mp q)]
      · rw [if_neg q, if_neg (fun q2 => q (zlt.mpr q2))]
    have hbx : b ≤ x ↔ e ≤ x ∨ r ≤ x := by
      rw [zle, zle, zle, hbt]
      split <;> omega
    by_cases g1 : e ≤ x
    · have g2 : b ≤ x := hbx.mpr (Or.inl g1)
      rw [if_pos g1, if_pos g2]
      exact ⟨fun q => absurd g2 q, ⟨hva, fun q => absurd g1 q⟩, rfl, h0, fun _ _ => rfl, fun _ _ _ => rfl, fun j hj => Or.inl rfl⟩
    · by_cases g3 : r ≤ x
      · have g2 : b ≤ x := hbx.mpr (Or.inr g3)
        rw [if_neg g1, if_pos g2, if_pos g3]
        exact ⟨fun q => absurd g2 q, ⟨hva, fun _ q => absurd g3 q⟩, rfl, h0, fun _ _ => rfl, fun _ _ _ => rfl, fun j hj => Or.inl rfl⟩
      · have g2 : ¬ b ≤ x := fun q => (hbx.mp q).elim g1 g3
        have g1' := g1
        have g3' := g3
        rw [zle] at g1' g3'
        have g4 : ¬ (600 : Int32) ≤ x := by rw [zle, zt600]; omega
        rw [if_neg g1, if_neg g2, if_neg g3, if_neg g4]
        have hv6 : vp_in x 600 := zvin (by omega) (by omega)
        have hi : (x + 1).toInt = x.toInt + 1 := zinc' (by omega)
        have hj := h0 x.toNatClampNeg (by rw [zNat]; omega)
        by_cases g5 : τ 17 x.toNatClampNeg = 0
        · have g6 : σ 8 x.toNatClampNeg = 0 := hj.1.trans g5
          have g7 : τ 16 x.toNatClampNeg = 0 := by rw [hj.2, if_pos g5]
          have g6' : σ (7 + 1) x.toNatClampNeg = 0 := g6
          rw [if_pos g6', if_pos g7, h1]
          obtain ⟨k1, k2, k3, k4, k5, k6, k7⟩ := ih m'' (zuf σ (7 + 1) x.toNatClampNeg v) (zuf (zuf τ 16 x.toNatClampNeg 1) 17 x.toNatClampNeg v) (c + 1) (x + 1) (by
            intro j hj
            have hq := h0 j hj
            simp only [zuf_at]
            by_cases q : j = x.toNatClampNeg
            · simp [q, hv]
            · simp only [q, if_false]
              simpa using hq) (by simp only [zuf_ne (show (13 : Nat) ≠ 16 by decide), zuf_ne (show (13 : Nat) ≠ 17 by decide)]; exact h1) (by simp only [zuf_ne (show (13 : Nat) ≠ 16 by decide), zuf_ne (show (13 : Nat) ≠ 17 by decide)]; exact h2) (by simp only [zuf_ne (show (19 : Nat) ≠ 16 by decide), zuf_ne (show (19 : Nat) ≠ 17 by decide)]; exact h3) (by omega) (by omega) (by omega)
          refine ⟨fun _ _ => ⟨hv6, fun _ => ⟨hv6, k1⟩, fun q => absurd g6' q⟩, ⟨hva, fun _ _ => ⟨hv6, fun _ => ⟨hv6, hv6, k2⟩, fun q => absurd g7 q⟩⟩, k3, k4, fun i q => ?_, fun i q1 q2 => ?_, fun j hj => ?_⟩
          · rw [k5 i q, zuf_ne (show i ≠ 7 + 1 from q)]
          · rw [k6 i q1 q2, zuf_ne q2, zuf_ne q1]
          · have q := k7 j hj
            simp only [zuf_at] at q
            by_cases q2 : j = x.toNatClampNeg
            · right
              rw [q2]
              rw [q2] at q
              simp at q
              refine ⟨by rcases q with q | ⟨q, _⟩ <;> exact q, g5, ?_, ?_⟩ <;> · rw [zNat]; omega
            · simp [q2] at q
              exact q
        · have g6 : ¬ σ (7 + 1) x.toNatClampNeg = 0 := by
            rw [show σ (7 + 1) x.toNatClampNeg = τ 17 x.toNatClampNeg from hj.1]; exact g5
          have g7 : ¬ τ 16 x.toNatClampNeg = 0 := by rw [hj.2, if_neg g5]; decide
          rw [if_neg g6, if_neg g7]
          obtain ⟨k1, k2, k3, k4, k5, k6, k7⟩ := ih m'' σ τ c (x + 1) h0 h1 h2 h3 (by omega) (by omega) (by omega)
          exact ⟨fun _ _ => ⟨hv6, fun q => absurd q g6, fun _ => k1⟩, ⟨hva, fun _ _ => ⟨hv6, fun q => absurd q g7, fun _ => k2⟩⟩, k3, k4, k5, k6, k7⟩
/-! a block's bytes are marked -/
theorem l_fill3 (x1 x2 x3 x4 e : Int32) (h40 : 0 ≤ x4.toInt) (h41 : x4.toInt < 120) (he : e.toInt ≤ 600) : ∀ (m m' : Nat) (σ τ : zSt) (c x : Int32), (∀ j : Nat, j < 600 → σ 4 j = τ 15 j ∧ (τ 15 j = 0 ∨ τ 15 j = 1)) → τ 24 x4.toNatClampNeg = e → 0 ≤ x.toInt → (e.toInt - x.toInt).toNat < m → (e.toInt - x.toInt).toNat < m' → kl_P_fillEmpty_10 3 e 1 m σ c x ∧ kl_M_arrives_123 x1 x2 x3 x4 m' τ x ∧ (∀ j : Nat, j < 600 → (l_P_fillEmpty_10 3 e 1 m σ c x).2 4 j = (l_M_arrives_123 x1 x2 x3 x4 m' τ x) 15 j ∧ ((l_M_arrives_123 x1 x2 x3 x4 m' τ x) 15 j = τ 15 j ∨ ((l_M_arrives_123 x1 x2 x3 x4 m' τ x) 15 j = 1 ∧ x.toInt ≤ (j : Int) ∧ (j : Int) < e.toInt))) ∧ (∀ i, i ≠ 4 → (l_P_fillEmpty_10 3 e 1 m σ c x).2 i = σ i) ∧ (∀ i, i ≠ 15 → (l_M_arrives_123 x1 x2 x3 x4 m' τ x) i = τ i) := by
  intro m
  induction m with
  | zero => intro m' σ τ c x _ _ _ h; omega
  | succ m ih =>
    intro m' σ τ c x h0 h3 hx h4 h5
    obtain ⟨m'', rfl⟩ : ∃ k, m' = k + 1 := ⟨m' - 1, by omega⟩
    unfold kl_P_fillEmpty_10 l_P_fillEmpty_10 kl_M_arrives_123 l_M_arrives_123
    rw [h3]
    have hva : vp_in x4 120 := zvin h40 (by omega)
    by_cases g1 : e ≤ x
    · rw [if_pos g1, if_pos g1]
      exact ⟨fun q => absurd g1 q, ⟨hva, fun q => absurd g1 q⟩, fun j hj => ⟨(h0 j hj).1, Or.inl rfl⟩, fun _ _ => rfl, fun _ _ => rfl⟩
    · have g1' := g1
      rw [zle] at g1'
      have g4 : ¬ (600 : Int32) ≤ x := by rw [zle, zt600]; omega
      rw [if_neg g1, if_neg g1, if_neg g4]
      have hv6 : vp_in x 600 := zvin (by omega) (by omega)
      have hi : (x + 1).toInt = x.toInt + 1 := zinc' (by omega)
      have hj := h0 x.toNatClampNeg (by rw [zNat]; omega)
      by_cases g5 : σ (3 + 1) x.toNatClampNeg = 0
      · rw [if_pos g5]
        obtain ⟨k1, k2, k4, k5, k6⟩ := ih m'' (zuf σ (3 + 1) x.toNatClampNeg 1) (zuf τ 15 x.toNatClampNeg 1) (c + 1) (x + 1) (by
          intro j hj
          have hq := h0 j hj
          simp only [zuf_at]
          by_cases q : j = x.toNatClampNeg
          · simp [q]
          · simp only [q, if_false]
            simpa using hq) (by simp only [zuf_ne (show (24 : Nat) ≠ 15 by decide)]; exact h3) (by omega) (by omega) (by omega)
        refine ⟨fun _ _ => ⟨hv6, fun _ => ⟨hv6, k1⟩, fun q => absurd g5 q⟩, ⟨hva, fun _ => ⟨hv6, k2⟩⟩, fun j hj => ⟨(k4 j hj).1, ?_⟩, fun i q => ?_, fun i q1 => ?_⟩
        · have q := (k4 j hj).2
          rw [hi] at q
          simp only [zuf_at] at q
          by_cases q2 : j = x.toNatClampNeg
          · right
            rw [q2]
            rw [q2] at q
            simp at q
            refine ⟨by rcases q with q | ⟨q, _⟩ <;> exact q, ?_, ?_⟩ <;> · rw [zNat]; omega
          · simp [q2] at q
            rcases q with q | ⟨q, q3, q4⟩
            · exact Or.inl q
            · exact Or.inr ⟨q, by omega, q4⟩
        · rw [k5 i q, zuf_ne (show i ≠ 3 + 1 from q)]
        · rw [k6 i q1, zuf_ne q1]
      · rw [if_neg g5]
        have g6 : τ 15 x.toNatClampNeg = 1 := by
          rcases hj.2 with q | q
          · exact absurd (hj.1.trans q) g5
          · exact q
        have hself : zuf τ 15 x.toNatClampNeg 1 = τ := by
          funext u j
          unfold zuf
          by_cases q1 : u = 15
          · by_cases q2 : j = x.toNatClampNeg
            · rw [if_pos q1, if_pos q2, q1, q2, g6]
            · rw [if_pos q1, if_neg q2]
          · rw [if_neg q1]
        rw [hself]
        obtain ⟨k1, k2, k4, k5, k6⟩ := ih m'' σ τ c (x + 1) h0 h3 (by omega) (by omega) (by omega)
        refine ⟨fun _ _ => ⟨hv6, fun q => absurd q g5, fun _ => k1⟩, ⟨hva, fun _ => ⟨hv6, k2⟩⟩, fun j hj => ⟨(k4 j hj).1, ?_⟩, k5, k6⟩
        rcases (k4 j hj).2 with q | ⟨q, q3, q4⟩
        · exact Or.inl q
        · exact Or.inr ⟨q, by omega, q4⟩
