/-! the blocks above the first missing byte -/
/-- the receiver's own numbers -/
def zRcv (σ : zSt) : Prop := 0 ≤ (σ 6 3).toInt ∧ (σ 6 3).toInt ≤ (σ 6 2).toInt ∧ (σ 6 2).toInt ≤ 600 ∧ zA0 (σ 8) (σ 6 2).toInt = 0
theorem zRcv_of {σ σ' : zSt} (h : zRcv σ) (e6 : σ' 6 = σ 6) (e8 : σ' 8 = σ 8) : zRcv σ' := by
  unfold zRcv
  rw [e6, e8]
  exact h
/-- a byte of a block -/
def zBs (σ : zSt) (s : Int) : Prop := (σ 6 2).toInt < s ∧ s < (σ 6 3).toInt + 32 ∧ ¬ zA0 (σ 8) s = 0
theorem zt_neg1 {x : Int32} (h : x = -1) : x.toInt = -1 := by rw [h]; rfl
theorem zne_neg1 {x : Int32} (h : 0 ≤ x.toInt) : ¬ x = -1 := fun e => by rw [e] at h; exact absurd h (by decide)
theorem blockFrom {σ : zSt} (h : zRcv σ) (y : Int32) (hy0 : 0 ≤ y.toInt) (hy : zA0 (σ 8) y.toInt = 0) : k_R_blockFrom σ y ∧ (f_R_blockFrom σ y = -1 ∨ (y.toInt < (f_R_blockFrom σ y).toInt ∧ (f_R_blockFrom σ y).toInt < (σ 6 3).toInt + 32 ∧ ¬ zA0 (σ 8) (f_R_blockFrom σ y).toInt = 0)) := by
  obtain ⟨r0, r1, r2, r3⟩ := h
  have e : (σ 6 3 + 32).toInt = (σ 6 3).toInt + 32 := by rw [zadd (by rw [zt32]; omega) (by rw [zt32]; omega), zt32]
  obtain ⟨k1, g1, g2, g3, g4⟩ := firstFilled 7 σ y (σ 6 3 + 32)
  refine ⟨k1, ?_⟩
  unfold f_R_blockFrom
  dsimp only [zlet]
  by_cases c : σ 6 3 + 32 ≤ f_P_firstFilled 7 σ y (σ 6 3 + 32)
  · rw [if_pos c]; exact Or.inl rfl
  · rw [if_neg c]
    rw [zle] at c
    have g5 := g4 (by omega)
    refine Or.inr ⟨?_, by omega, g5⟩
    by_cases q : (f_P_firstFilled 7 σ y (σ 6 3 + 32)).toInt = y.toInt
    · rw [q] at g5; exact absurd hy g5
    · omega
theorem endOfRun (σ : zSt) (s : Int32) : k_R_endOfRun σ s ∧ zFst (fun p => zA0 (σ 8) p = 0) s.toInt 600 (f_R_endOfRun σ s).toInt := by
  obtain ⟨k1, k2⟩ := firstEmpty 7 σ s 600
  rw [zt600] at k2
  exact ⟨k1, k2⟩
/-- the end of a run that starts at a byte of a block -/
theorem runEnd {σ : zSt} (h : zRcv σ) {s : Int32} (hs : zBs σ s.toInt) : s.toInt < (f_R_endOfRun σ s).toInt ∧ (f_R_endOfRun σ s).toInt ≤ 600 ∧ zA0 (σ 8) (f_R_endOfRun σ s).toInt = 0 ∧ (∀ p, s.toInt ≤ p → p < (f_R_endOfRun σ s).toInt → ¬ zA0 (σ 8) p = 0) := by
  obtain ⟨r0, r1, r2, r3⟩ := h
  obtain ⟨s1, s2, s3⟩ := hs
  obtain ⟨-, g1, g2, g3, g4⟩ := endOfRun σ s
  have hb : s.toInt < 600 := by
    by_cases q : s.toInt < 600
    · exact q
    · exact absurd (zA0_out (Or.inr (by omega))) s3
  have h0 : ¬ (f_R_endOfRun σ s).toInt = s.toInt := fun q => by
    have := g4 (by omega)
    rw [q] at this
    exact s3 this
  refine ⟨by omega, by omega, ?_, fun p h1 h2 => (g3 p h1 h2).2⟩
  by_cases q : (f_R_endOfRun σ s).toInt < 600
  · exact g4 q
  · exact zA0_out (Or.inr (by omega))
/-- the block behind a block -/
theorem nextBlock {σ : zSt} (h : zRcv σ) {s : Int32} (hs : zBs σ s.toInt) : k_R_endOfRun σ s ∧ k_R_blockFrom σ (f_R_endOfRun σ s) ∧ (f_R_blockFrom σ (f_R_endOfRun σ s) = -1 ∨ ((f_R_endOfRun σ s).toInt < (f_R_blockFrom σ (f_R_endOfRun σ s)).toInt ∧ zBs σ (f_R_blockFrom σ (f_R_endOfRun σ s)).toInt)) := by
  obtain ⟨e1, e2, e3, e4⟩ := runEnd h hs
  have h' := h
  obtain ⟨r0, r1, r2, r3⟩ := h'
  have s1 := hs.1
  obtain ⟨k1, k2⟩ := blockFrom h (f_R_endOfRun σ s) (by omega) e3
  refine ⟨(endOfRun σ s).1, k1, ?_⟩
  rcases k2 with k2 | ⟨k2, k3, k4⟩
  · exact Or.inl k2
  · exact Or.inr ⟨k2, by omega, k3, k4⟩
theorem firstBlock {σ : zSt} (h : zRcv σ) : k_R_blockFrom σ (σ 6 2) ∧ (f_R_blockFrom σ (σ 6 2) = -1 ∨ zBs σ (f_R_blockFrom σ (σ 6 2)).toInt) := by
  have h' := h
  obtain ⟨r0, r1, r2, r3⟩ := h'
  obtain ⟨k1, k2⟩ := blockFrom h (σ 6 2) (by omega) r3
  exact ⟨k1, k2⟩
theorem l_newest {σ : zSt} (h : zRcv σ) (x1 : Int32) : ∀ (m : Nat) (x2 x3 x4 x5 : Int32), (x3 = -1 ∨ zBs σ x3.toInt) → (x4 = -1 ∨ zBs σ x4.toInt) → 0 ≤ x5.toInt → (32 - x5.toInt).toNat < m → kl_R_newestBlockBefore_17 σ x1 m x2 x3 x4 x5 ∧ (l_R_newestBlockBefore_17 σ x1 m x2 x3 x4 x5 = -1 ∨ zBs σ (l_R_newestBlockBefore_17 σ x1 m x2 x3 x4 x5).toInt) := by
  intro m
  induction m with
  | zero => intro x2 x3 x4 x5 _ _ _ hm; omega
  | succ m ih =>
    intro x2 x3 x4 x5 h3 h4 h5 hm
    unfold kl_R_newestBlockBefore_17 l_R_newestBlockBefore_17
    by_cases c1 : 32 ≤ x5
    · rw [if_pos c1]
      exact ⟨fun q => absurd c1 q, h3⟩
    · rw [if_neg c1]
      by_cases c2 : x4 = -1
      · rw [if_pos c2]
        exact ⟨fun _ q => absurd c2 q, h3⟩
      · rw [if_neg c2]
        rw [zle, zt32] at c1
        have hi : (x5 + 1).toInt = x5.toInt + 1 := zinc' (by omega)
        have hs : zBs σ x4.toInt := h4.resolve_left c2
        obtain ⟨k1, k2, k3⟩ := nextBlock h hs
        have k3' : f_R_blockFrom σ (f_R_endOfRun σ x4) = -1 ∨ zBs σ (f_R_blockFrom σ (f_R_endOfRun σ x4)).toInt := k3.imp id (fun q => q.2)
        dsimp only [zlet]
        have i1 := ih x2 x3 _ (x5 + 1) h3 k3' (by omega) (by omega)
        have i2 := ih (f_P_greatest 7 σ x4 (f_R_endOfRun σ x4)) x4 _ (x5 + 1) (Or.inr hs) k3' (by omega) (by omega)
        refine ⟨fun _ _ => ⟨k1, fun r5 e5 => ?_⟩, ?_⟩
        · subst e5
          refine ⟨greatest _ _ _ _, fun r7 e7 => ?_⟩
          subst e7
          exact ⟨fun _ => ⟨k2, fun r e => by subst e; exact i1.1⟩, fun _ => ⟨fun _ => ⟨k2, fun r e => by subst e; exact i1.1⟩, fun _ => ⟨k2, fun r e => by subst e; exact i2.1⟩⟩⟩
        · by_cases c3 : f_P_greatest 7 σ x4 (f_R_endOfRun σ x4) ≤ x2
          · rw [if_pos c3]; exact i1.2
          · rw [if_neg c3]
            by_cases c4 : x1 ≤ f_P_greatest 7 σ x4 (f_R_endOfRun σ x4)
            · rw [if_pos c4]; exact i1.2
            · rw [if_neg c4]; exact i2.2
theorem newest {σ : zSt} (h : zRcv σ) (x1 : Int32) : k_R_newestBlockBefore σ x1 ∧ (f_R_newestBlockBefore σ x1 = -1 ∨ zBs σ (f_R_newestBlockBefore σ x1).toInt) := by
  obtain ⟨k1, k2⟩ := firstBlock h
  obtain ⟨g1, g2⟩ := l_newest h x1 (((32 : Int32).toInt - (0 : Int32).toInt).toNat + 2) 0 (-1) (f_R_blockFrom σ (σ 6 2)) 0 (Or.inl rfl) k2 (by decide) (by decide)
  exact ⟨⟨k1, fun r e => by subst e; exact g1⟩, g2⟩
/-! the blocks in their order -/
def zCh (σ : zSt) : Nat → Int32
  | 0 => f_R_blockFrom σ (σ 6 2)
  | n + 1 => if zCh σ n = -1 then -1 else f_R_blockFrom σ (f_R_endOfRun σ (zCh σ n))
theorem zCh_s {σ : zSt} (h : zRcv σ) : ∀ n, zCh σ n = -1 ∨ zBs σ (zCh σ n).toInt := by
  intro n
  induction n with
  | zero => exact (firstBlock h).2
  | succ n ih =>
    unfold zCh
    by_cases c : zCh σ n = -1
    · rw [if_pos c]; exact Or.inl rfl
    · rw [if_neg c]
      exact (nextBlock h (ih.resolve_left c)).2.2.imp id (fun q => q.2)
theorem zCh_end {σ : zSt} {n : Nat} (c : zCh σ n = -1) : ∀ d, zCh σ (n + d) = -1 := by
  intro d
  induction d with
  | zero => exact c
  | succ d ih =>
    show (if zCh σ (n + d) = -1 then -1 else _) = -1
    rw [if_pos ih]
theorem l_count {σ : zSt} (h : zRcv σ) : ∀ (m : Nat) (c x3 : Int32) (n : Nat), x3.toInt = n → c = x3 → n ≤ 32 → (32 - x3.toInt).toNat < m → kl_R_countBlocks_13 σ m c (zCh σ n) x3 ∧ (n : Int) ≤ (l_R_countBlocks_13 σ m c (zCh σ n) x3).toInt ∧ (l_R_countBlocks_13 σ m c (zCh σ n) x3).toInt ≤ 32 ∧ (∀ i : Nat, n ≤ i → (i : Int) < (l_R_countBlocks_13 σ m c (zCh σ n) x3).toInt → ¬ zCh σ i = -1) := by
  intro m
  induction m with
  | zero => intro c x3 n _ _ _ hm; omega
  | succ m ih =>
    intro c x3 n hx hc hn hm
    subst hc
    unfold kl_R_countBlocks_13 l_R_countBlocks_13
    by_cases c1 : 32 ≤ c
    · rw [if_pos c1]
      exact ⟨fun q => absurd c1 q, by omega, by omega, fun i h1 h2 => by omega⟩
    · rw [if_neg c1]
      by_cases c2 : zCh σ n = -1
      · rw [if_pos c2]
        exact ⟨fun _ q => absurd c2 q, by omega, by omega, fun i h1 h2 => by omega⟩
      · rw [if_neg c2]
        rw [zle, zt32] at c1
        have hi : (c + 1).toInt = c.toInt + 1 := zinc' (by omega)
        have hs : zBs σ (zCh σ n).toInt := (zCh_s h n).resolve_left c2
        obtain ⟨k1, k2, k3⟩ := nextBlock h hs
        dsimp only [zlet]
        have hch : zCh σ (n + 1) = f_R_blockFrom σ (f_R_endOfRun σ (zCh σ n)) := if_neg c2
        obtain ⟨i1, i2, i3, i4⟩ := ih (c + 1) (c + 1) (n + 1) (by omega) rfl (by omega) (by omega)
        rw [hch] at i1 i2 i3 i4
        refine ⟨fun _ _ => ⟨k1, fun r5 e5 => ?_⟩, by omega, i3, fun i h1 h2 => ?_⟩
        · subst e5
          exact ⟨k2, fun r e => by subst e; exact i1⟩
        · by_cases q : i = n
          · subst q; exact c2
          · exact i4 i (by omega) h2
theorem countBlocks {σ : zSt} (h : zRcv σ) : k_R_countBlocks σ ∧ 0 ≤ (f_R_countBlocks σ).toInt ∧ (f_R_countBlocks σ).toInt ≤ 32 ∧ (∀ i : Nat, (i : Int) < (f_R_countBlocks σ).toInt → ¬ zCh σ i = -1) := by
  obtain ⟨g1, g2, g3, g4⟩ := l_count h (((32 : Int32).toInt - (0 : Int32).toInt).toNat + 2) 0 0 0 rfl rfl (by decide) (by decide)
  exact ⟨⟨(firstBlock h).1, fun r e => by subst e; exact g1⟩, by have := g2; show 0 ≤ (l_R_countBlocks_13 σ _ 0 (zCh σ 0) 0).toInt; omega, g3, fun i hi => g4 i (Nat.zero_le _) hi⟩
theorem l_start {σ : zSt} (h : zRcv σ) (a : Int32) : ∀ (m : Nat) (x3 : Int32) (n : Nat), x3.toInt = n → n ≤ a.toInt → (a.toInt - x3.toInt).toNat < m → kl_R_startOfBlock_11 σ a m (zCh σ n) x3 ∧ l_R_startOfBlock_11 σ a m (zCh σ n) x3 = zCh σ a.toInt.toNat := by
  intro m
  induction m with
  | zero => intro x3 n _ _ hm; omega
  | succ m ih =>
    intro x3 n hx hn hm
    unfold kl_R_startOfBlock_11 l_R_startOfBlock_11
    by_cases c1 : a ≤ x3
    · rw [if_pos c1]
      rw [zle] at c1
      rw [show a.toInt.toNat = n by omega]
      exact ⟨fun q => absurd (zle.mpr c1) q, rfl⟩
    · rw [if_neg c1]
      have c1' := c1
      rw [zle] at c1'
      by_cases c2 : zCh σ n = -1
      · rw [if_pos c2]
        refine ⟨fun _ q => absurd c2 q, ?_⟩
        rw [show a.toInt.toNat = n + (a.toInt.toNat - n) by omega, zCh_end c2, c2]
      · rw [if_neg c2]
        have hi : (x3 + 1).toInt = x3.toInt + 1 := zinc (y := a) (zlt.mpr (by omega))
        have hs : zBs σ (zCh σ n).toInt := (zCh_s h n).resolve_left c2
        obtain ⟨k1, k2, k3⟩ := nextBlock h hs
        dsimp only [zlet]
        have hch : zCh σ (n + 1) = f_R_blockFrom σ (f_R_endOfRun σ (zCh σ n)) := if_neg c2
        obtain ⟨i1, i2⟩ := ih (x3 + 1) (n + 1) (by omega) (by omega) (by omega)
        rw [hch] at i1 i2
        refine ⟨fun _ _ => ⟨k1, fun r5 e5 => ?_⟩, i2⟩
        subst e5
        exact ⟨k2, fun r e => by subst e; exact i1⟩
theorem startOfBlock {σ : zSt} (h : zRcv σ) (a : Int32) (ha : 0 ≤ a.toInt) : k_R_startOfBlock σ a ∧ f_R_startOfBlock σ a = zCh σ a.toInt.toNat := by
  obtain ⟨g1, g2⟩ := l_start h a ((a.toInt - (0 : Int32).toInt).toNat + 2) 0 0 rfl ha (by omega)
  exact ⟨⟨(firstBlock h).1, fun r e => by subst e; exact g1⟩, g2⟩
