/-! how many blocks -/
theorem l_count {σ τ : zSt} (h : zHB σ τ) : ∀ (m' m : Nat) (x x4 x5 c : Int32), zNx τ x.toInt x4 → (τ 13 28).toInt < x.toInt → (x.toInt ≤ 600 ∨ x.toInt = 601 ∧ x4 = -1) → (600 - x.toInt).toNat < m' → 0 ≤ x5.toInt → x5.toInt ≤ x.toInt - (τ 13 28).toInt - 1 → x5.toInt ≤ 32 → (32 - x5.toInt).toNat < m → 0 ≤ c.toInt → c.toInt ≤ x.toInt → kl_R_countBlocks_13 σ m c x4 x5 ∧ kl_M_blocks_14 τ m' c x ∧ l_R_countBlocks_13 σ m c x4 x5 = l_M_blocks_14 τ m' c x ∧ c.toInt ≤ (l_M_blocks_14 τ m' c x).toInt := by
  have h' := h
  obtain ⟨-, e2, e3, a0, a1, a2, a3⟩ := h'
  intro m'
  induction m' with
  | zero => intro m x x4 x5 c _ _ _ q; omega
  | succ m' ih =>
    intro m x x4 x5 c b1 b2 b3 b4 b5 b6 b7 b8 b9 b10
    obtain ⟨mm, rfl⟩ : ∃ k, m = k + 1 := ⟨m - 1, by omega⟩
    by_cases g1 : 600 ≤ x
    · have g1' := g1
      rw [zle, zt600] at g1'
      have hx4 : x4 = -1 := by
        rcases b3 with q | q
        · exact znone (by rw [show x.toInt = 600 by omega] at b1; exact b1)
        · exact q.2
      unfold kl_R_countBlocks_13 l_R_countBlocks_13 kl_M_blocks_14 l_M_blocks_14
      rw [if_pos g1, if_pos hx4]
      refine ⟨fun _ q => absurd hx4 q, fun q => absurd g1 q, ?_, Int.le_refl _⟩
      split <;> rfl
    · have g1' := g1
      rw [zle, zt600] at g1'
      have hi : (x + 1).toInt = x.toInt + 1 := zinc' (by omega)
      have hc : (c + 1).toInt = c.toInt + 1 := zinc' (by omega)
      have hz : c + 0 = c := Int32.add_zero c
      obtain ⟨s1, s2⟩ := zisStart τ x (by omega) (by omega) (by omega)
      by_cases g2 : zSS τ x.toInt
      · have g3 : x4 = x := zNx_here (by omega) (by omega) b1 g2
        subst g3
        have w := zHB_w h g2.2.2.1
        have g4 : ¬ x4 = -1 := zne1 (by omega)
        have g5 : ¬ (32 : Int32) ≤ x5 := by rw [zle, zt32]; omega
        have hi5 : (x5 + 1).toInt = x5.toInt + 1 := zinc' (by omega)
        obtain ⟨d1, d2, d3, d4, d5, d6, d7, d8⟩ := znext h x4 g2
        have g6 : ¬ f_M_isStart τ x4 = 0 := fun q => (s2.mp q) g2
        unfold kl_R_countBlocks_13 l_R_countBlocks_13 kl_M_blocks_14 l_M_blocks_14
        rw [if_neg g1, if_neg g5, if_neg g4]
        dsimp only [zlet]
        rw [if_neg g6]
        obtain ⟨j1, j2, j3, j4⟩ := ih mm (x4 + 1) (f_R_blockFrom σ (f_R_endOfRun σ x4)) (x5 + 1) (c + 1) (by rw [hi]; exact d8) (by omega) (by omega) (by omega) (by omega) (by omega) (by omega) (by omega) (by omega) (by omega)
        refine ⟨fun _ _ => ⟨d1, fun r5 hr5 => ?_⟩, fun _ => ⟨s1, fun r2 hr2 => ⟨fun q => absurd (hr2.symm.trans q) g6, fun _ => j2⟩⟩, j3, by omega⟩
        subst hr5
        exact ⟨d7, fun r hr => by subst hr; exact j1⟩
      · have g6 : f_M_isStart τ x = 0 := s2.mpr g2
        obtain ⟨j1, j2, j3, j4⟩ := ih (mm + 1) (x + 1) x4 x5 c (by rw [hi]; exact zNx_step b1 g2) (by omega) (by omega) (by omega) (by omega) (by omega) (by omega) (by omega) b9 (by omega)
        have eM : l_M_blocks_14 τ (m' + 1) c x = l_M_blocks_14 τ m' c (x + 1) := by
          rw [l_M_blocks_14, if_neg g1]
          dsimp only [zlet]
          rw [if_pos g6, hz]
        rw [eM]
        refine ⟨j1, ?_, j3, j4⟩
        unfold kl_M_blocks_14
        exact fun _ => ⟨s1, fun r9 hr9 => ⟨fun _ => by rw [hz]; exact j2, fun q => absurd (hr9.trans g6) q⟩⟩
/-- the reference's own: a place of that number is there when the number is below the count -/
theorem l_there (τ : zSt) (hb : 0 ≤ (τ 13 28).toInt) : ∀ (m' : Nat) (x q c : Int32), 0 ≤ x.toInt → x.toInt ≤ 601 → (600 - x.toInt).toNat < m' → 0 ≤ q.toInt → 0 ≤ c.toInt → c.toInt ≤ x.toInt → kl_M_startOfBlock_9 τ m' q x ∧ (l_M_startOfBlock_9 τ m' q x = -1 ↔ (l_M_blocks_14 τ m' c x).toInt - c.toInt ≤ q.toInt) ∧ (l_M_startOfBlock_9 τ m' q x = -1 ∨ zSS τ (l_M_startOfBlock_9 τ m' q x).toInt) ∧ c.toInt ≤ (l_M_blocks_14 τ m' c x).toInt := by
  intro m'
  induction m' with
  | zero => intro x q c _ _ h; omega
  | succ m' ih =>
    intro x q c h0 h1 h2 h3 h4 h5
    by_cases g1 : 600 ≤ x
    · unfold kl_M_startOfBlock_9 l_M_startOfBlock_9 l_M_blocks_14
      rw [if_pos g1, if_pos g1]
      exact ⟨fun q => absurd g1 q, ⟨fun _ => by omega, fun _ => rfl⟩, Or.inl rfl, Int.le_refl _⟩
    · have g1' := g1
      rw [zle, zt600] at g1'
      have hi : (x + 1).toInt = x.toInt + 1 := zinc' (by omega)
      have hc : (c + 1).toInt = c.toInt + 1 := zinc' (by omega)
      have hz : c + 0 = c := Int32.add_zero c
      obtain ⟨s1, s2⟩ := zisStart τ x (by omega) (by omega) (by omega)
      unfold kl_M_startOfBlock_9 l_M_startOfBlock_9 l_M_blocks_14
      rw [if_neg g1, if_neg g1]
      dsimp only [zlet]
      by_cases g2 : f_M_isStart τ x = 0
      · rw [if_pos g2, if_pos g2, hz]
        obtain ⟨j1, j2, j3, j4⟩ := ih (x + 1) q c (by omega) (by omega) (by omega) h3 h4 (by omega)
        exact ⟨fun _ => ⟨s1, fun r hr => ⟨fun _ => j1, fun q => absurd (hr.trans g2) q⟩⟩, j2, j3, j4⟩
      · rw [if_neg g2, if_neg g2]
        have g3 : zSS τ x.toInt := Classical.not_not.mp (fun q => g2 (s2.mpr q))
        by_cases g4 : q = 0
        · rw [if_pos g4]
          obtain ⟨j1, j2, j3, j4⟩ := ih (x + 1) q (c + 1) (by omega) (by omega) (by omega) h3 (by omega) (by omega)
          have g5 : q.toInt = 0 := by rw [g4]; rfl
          exact ⟨fun _ => ⟨s1, fun r hr => ⟨fun q => absurd (hr.symm.trans q) g2, fun _ q => absurd g4 q⟩⟩, ⟨fun q => absurd q (zne1 h0), fun q => absurd q (by omega)⟩, Or.inr g3, by omega⟩
        · rw [if_neg g4]
          have g5 : q.toInt ≠ 0 := fun w => g4 (by rw [zeq, zt0]; exact w)
          have hd : (q + (-1)).toInt = q.toInt - 1 := zdec (by omega)
          obtain ⟨j1, j2, j3, j4⟩ := ih (x + 1) (q + (-1)) (c + 1) (by omega) (by omega) (by omega) (by omega) (by omega) (by omega)
          refine ⟨fun _ => ⟨s1, fun r hr => ⟨fun q => absurd (hr.symm.trans q) g2, fun _ _ => j1⟩⟩, ?_, j3, by omega⟩
          rw [j2]
          omega
/-- the class's place of that number is the reference's -/
theorem l_place {σ τ : zSt} (h : zHB σ τ) (a : Int32) : ∀ (m' m : Nat) (x x4 x5 q : Int32), zNx τ x.toInt x4 → (τ 13 28).toInt < x.toInt → (x.toInt ≤ 600 ∨ x.toInt = 601 ∧ x4 = -1) → (600 - x.toInt).toNat < m' → 0 ≤ x5.toInt → x5.toInt + q.toInt = a.toInt → 0 ≤ q.toInt → (a.toInt - x5.toInt).toNat < m → kl_R_startOfBlock_11 σ a m x4 x5 ∧ l_R_startOfBlock_11 σ a m x4 x5 = l_M_startOfBlock_9 τ m' q x := by
  have h' := h
  obtain ⟨-, e2, e3, a0, a1, a2, a3⟩ := h'
  intro m'
  induction m' with
  | zero => intro m x x4 x5 q _ _ _ w; omega
  | succ m' ih =>
    intro m x x4 x5 q b1 b2 b3 b4 b5 b6 b7 b8
    obtain ⟨mm, rfl⟩ : ∃ k, m = k + 1 := ⟨m - 1, by omega⟩
    by_cases g1 : 600 ≤ x
    · have g1' := g1
      rw [zle, zt600] at g1'
      have hx4 : x4 = -1 := by
        rcases b3 with q | q
        · exact znone (by rw [show x.toInt = 600 by omega] at b1; exact b1)
        · exact q.2
      unfold kl_R_startOfBlock_11 l_R_startOfBlock_11 l_M_startOfBlock_9
      rw [if_pos g1, if_pos hx4, hx4]
      refine ⟨fun _ q => absurd rfl q, ?_⟩
      split <;> rfl
    · have g1' := g1
      rw [zle, zt600] at g1'
      have hi : (x + 1).toInt = x.toInt + 1 := zinc' (by omega)
      obtain ⟨s1, s2⟩ := zisStart τ x (by omega) (by omega) (by omega)
      by_cases g2 : zSS τ x.toInt
      · have g3 : x4 = x := zNx_here (by omega) (by omega) b1 g2
        subst g3
        have g4 : ¬ x4 = -1 := zne1 (by omega)
        obtain ⟨d1, d2, d3, d4, d5, d6, d7, d8⟩ := znext h x4 g2
        have g6 : ¬ f_M_isStart τ x4 = 0 := fun q => (s2.mp q) g2
        unfold kl_R_startOfBlock_11 l_R_startOfBlock_11 l_M_startOfBlock_9
        rw [if_neg g1, if_neg g4]
        dsimp only [zlet]
        rw [if_neg g6]
        by_cases g7 : q = 0
        · have g8 : a ≤ x5 := by
            rw [zle]
            have : q.toInt = 0 := by rw [g7]; rfl
            omega
          rw [if_pos g8, if_pos g7]
          exact ⟨fun q => absurd g8 q, rfl⟩
        · have g8' : q.toInt ≠ 0 := fun w => g7 (by rw [zeq, zt0]; exact w)
          have g8 : ¬ a ≤ x5 := by rw [zle]; omega
          rw [if_neg g8, if_neg g7]
          have hi5 : (x5 + 1).toInt = x5.toInt + 1 := zinc (y := a) (by rw [zlt]; omega)
          have hd : (q + (-1)).toInt = q.toInt - 1 := zdec (by omega)
          generalize q + (-1) = qq at hd ⊢
          generalize x5 + 1 = y5 at hi5 ⊢
          have b5' : 0 ≤ y5.toInt := by omega
          have b6' : y5.toInt + qq.toInt = a.toInt := by omega
          have b7' : 0 ≤ qq.toInt := by omega
          have b8' : (a.toInt - y5.toInt).toNat < mm := by omega
          obtain ⟨j1, j2⟩ := ih mm (x4 + 1) (f_R_blockFrom σ (f_R_endOfRun σ x4)) y5 qq (by rw [hi]; exact d8) (by omega) (by omega) (by omega) b5' b6' b7' b8'
          refine ⟨fun _ _ => ⟨d1, fun r5 hr5 => ?_⟩, j2⟩
          subst hr5
          exact ⟨d7, fun r hr => by subst hr; exact j1⟩
      · have g6 : f_M_isStart τ x = 0 := s2.mpr g2
        obtain ⟨j1, j2⟩ := ih (mm + 1) (x + 1) x4 x5 q (by rw [hi]; exact zNx_step b1 g2) (by omega) (by omega) (by omega) b5 b6 b7 b8
        refine ⟨j1, ?_⟩
        rw [j2, l_M_startOfBlock_9, if_neg g1]
        dsimp only [zlet]
        rw [if_pos g6]
theorem zcount {σ τ : zSt} (h : zHB σ τ) : k_R_countBlocks σ ∧ kl_M_blocks_14 τ (((600 : Int32).toInt - (((τ 13 28) + 1)).toInt).toNat + 2) 0 ((τ 13 28) + 1) ∧ f_R_countBlocks σ = l_M_blocks_14 τ (((600 : Int32).toInt - (((τ 13 28) + 1)).toInt).toNat + 2) 0 ((τ 13 28) + 1) := by
  have h' := h
  obtain ⟨-, e2, e3, a0, a1, a2, a3⟩ := h'
  have hi : (τ 13 28 + 1).toInt = (τ 13 28).toInt + 1 := zinc' (by omega)
  obtain ⟨d1, d2⟩ := zblockFrom h (τ 13 28) (by omega) a2 a3
  have hq : (τ 13 28).toInt = 600 → f_R_blockFrom σ (τ 13 28) = -1 := by
    intro q
    rcases d2 with ⟨q1, q2⟩ | ⟨q1, q2, q3⟩
    · exact q1
    · have := q2.2.1; omega
  obtain ⟨j1, j2, j3, j4⟩ := l_count h (((600 : Int32).toInt - (((τ 13 28) + 1)).toInt).toNat + 2) (((32 : Int32).toInt - (0 : Int32).toInt).toNat + 2) (τ 13 28 + 1) (f_R_blockFrom σ (τ 13 28)) 0 0 (by rw [hi]; exact d2) (by omega) (by
    by_cases q : (τ 13 28).toInt = 600
    · exact Or.inr ⟨by omega, hq q⟩
    · exact Or.inl (by omega)) (by rw [zt600]; omega) (by rw [zt0]; omega) (by rw [zt0]; omega) (by rw [zt0]; omega) (by rw [zt0, zt32]; omega) (by rw [zt0]; omega) (by rw [zt0]; omega)
  unfold k_R_countBlocks f_R_countBlocks
  dsimp only [zlet]
  rw [e2]
  exact ⟨⟨d1, fun r hr => by subst hr; exact j1⟩, j2, j3⟩
theorem zplace {σ τ : zSt} (h : zHB σ τ) (a : Int32) (ha : 0 ≤ a.toInt) : k_R_startOfBlock σ a ∧ k_M_startOfBlock τ a ∧ f_R_startOfBlock σ a = f_M_startOfBlock τ a ∧ (f_M_startOfBlock τ a = -1 ↔ ¬ a < f_R_countBlocks σ) ∧ (f_M_startOfBlock τ a = -1 ∨ zSS τ (f_M_startOfBlock τ a).toInt) := by
  have h' := h
  obtain ⟨-, e2, e3, a0, a1, a2, a3⟩ := h'
  have hi : (τ 13 28 + 1).toInt = (τ 13 28).toInt + 1 := zinc' (by omega)
  obtain ⟨d1, d2⟩ := zblockFrom h (τ 13 28) (by omega) a2 a3
  have hq : (τ 13 28).toInt = 600 → f_R_blockFrom σ (τ 13 28) = -1 := by
    intro q
    rcases d2 with ⟨q1, q2⟩ | ⟨q1, q2, q3⟩
    · exact q1
    · have := q2.2.1; omega
  obtain ⟨j1, j2⟩ := l_place h a (((600 : Int32).toInt - (((τ 13 28) + 1)).toInt).toNat + 2) ((a.toInt - (0 : Int32).toInt).toNat + 2) (τ 13 28 + 1) (f_R_blockFrom σ (τ 13 28)) 0 a (by rw [hi]; exact d2) (by omega) (by
    by_cases q : (τ 13 28).toInt = 600
    · exact Or.inr ⟨by omega, hq q⟩
    · exact Or.inl (by omega)) (by rw [zt600]; omega) (by rw [zt0]; omega) (by rw [zt0]; omega) ha (by rw [zt0]; omega)
  obtain ⟨l1, l2, l3, l4⟩ := l_there τ (by omega) (((600 : Int32).toInt - (((τ 13 28) + 1)).toInt).toNat + 2) (τ 13 28 + 1) a 0 (by omega) (by omega) (by rw [zt600]; omega) ha (by rw [zt0]; omega) (by rw [zt0]; omega)
  have hc := (zcount h).2.2
  refine ⟨?_, l1, ?_, ?_, l3⟩
  · unfold k_R_startOfBlock
    rw [e2]
    exact ⟨d1, fun r hr => by subst hr; exact j1⟩
  · unfold f_R_startOfBlock f_M_startOfBlock
    dsimp only [zlet]
    rw [e2]
    exact j2
  · rw [zlt, hc]
    rw [zt0] at l2
    unfold f_M_startOfBlock
    rw [l2]
    omega
