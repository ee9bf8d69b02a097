/-! bytes written -/
theorem l_write (a1 a2 w : Int32) (hw : 0 ≤ w.toInt) (hw2 : w.toInt + a2.toInt ≤ 600) : ∀ (m : Nat) (σ τ : zSt) (x : Int32), (∀ j : Nat, j < 600 → σ 1 j = τ 14 j) → σ 2 5 = w → τ 13 5 = w → 0 ≤ x.toInt → (a2.toInt - x.toInt).toNat < m → kl_X_write_55 a1 a2 m σ x ∧ kl_M_write_53 a1 a2 m τ x ∧ (∀ j : Nat, j < 600 → (l_X_write_55 a1 a2 m σ x) 1 j = (l_M_write_53 a1 a2 m τ x) 14 j) ∧ (∀ i, i ≠ 1 → (l_X_write_55 a1 a2 m σ x) i = σ i) ∧ (∀ i, i ≠ 14 → (l_M_write_53 a1 a2 m τ x) i = τ i) := by
  intro m
  induction m with
  | zero => intro σ τ x _ _ _ _ h; omega
  | succ m ih =>
    intro σ τ x h0 h1 h2 hx h4
    unfold kl_X_write_55 l_X_write_55 kl_M_write_53 l_M_write_53
    rw [h1, h2]
    by_cases g1 : a2 ≤ x
    · rw [if_pos g1, if_pos g1]
      exact ⟨fun q => absurd g1 q, fun q => absurd g1 q, h0, fun _ _ => rfl, fun _ _ => rfl⟩
    · have g1' := g1
      rw [zle] at g1'
      have hwx : (w + x).toInt = w.toInt + x.toInt := zadd (by omega) (by omega)
      have g2 : ¬ (w + x) < 0 := by rw [zlt, zt0]; omega
      have g3 : ¬ (600 : Int32) ≤ w + x := by rw [zle, zt600]; omega
      rw [if_neg g1, if_neg g1, if_neg g2, if_neg g3]
      have hv6 : vp_in (w + x) 600 := zvin (by omega) (by omega)
      have hi : (x + 1).toInt = x.toInt + 1 := zinc' (by omega)
      obtain ⟨k1, k2, k3, k4, k5⟩ := ih (zuf σ 1 (w + x).toNatClampNeg ((a1 + x) - (a1 + x) / 256 * 256)) (zuf τ 14 (w + x).toNatClampNeg ((a1 + x) - (a1 + x) / 256 * 256)) (x + 1) (by
        intro j hj
        simp only [zuf_at]
        by_cases q : j = (w + x).toNatClampNeg
        · simp [q]
        · simp only [q, if_false]
          simpa using h0 j hj) (by simp only [zuf_ne (show (2 : Nat) ≠ 1 by decide)]; exact h1) (by simp only [zuf_ne (show (13 : Nat) ≠ 14 by decide)]; exact h2) (by omega) (by omega)
      refine ⟨fun _ => ⟨fun q => absurd q g2, fun _ => ⟨fun q => absurd q g3, fun _ => ⟨hv6, k1⟩⟩⟩, fun _ => ⟨hv6, k2⟩, k3, fun i q => ?_, fun i q => ?_⟩
      · rw [k4 i q, zuf_ne q]
      · rw [k5 i q, zuf_ne q]
/-! blocks of held bytes -/
def zSS (τ : zSt) (p : Int) : Prop := (τ 13 28).toInt < p ∧ p < 600 ∧ ¬ zA0 (τ 16) p = 0 ∧ zA0 (τ 16) (p - 1) = 0
def zHB (σ τ : zSt) : Prop := (∀ j : Nat, j < 600 → σ 8 j = τ 17 j ∧ τ 16 j = (if τ 17 j = 0 then 0 else 1) ∧ 0 ≤ (τ 17 j).toInt ∧ (¬ τ 17 j = 0 → (j : Int) < (τ 13 29).toInt + 32)) ∧ σ 6 2 = τ 13 28 ∧ σ 6 3 = τ 13 29 ∧ 0 ≤ (τ 13 29).toInt ∧ (τ 13 29).toInt ≤ (τ 13 28).toInt ∧ (τ 13 28).toInt ≤ 600 ∧ zA0 (τ 16) (τ 13 28).toInt = 0
theorem zHB_16 {σ τ : zSt} (h : zHB σ τ) : ∀ j : Nat, j < 600 → σ 8 j = τ 17 j ∧ (τ 16 j = 0 ↔ τ 17 j = 0) := by
  intro j hj
  obtain ⟨q1, q2, q3, q4⟩ := h.1 j hj
  refine ⟨q1, ?_⟩
  rw [q2]
  by_cases q : τ 17 j = 0
  · simp [q]
  · simp [q]
theorem zHB_A {σ τ : zSt} (h : zHB σ τ) (p : Int) : zA0 (σ 8) p = 0 ↔ zA0 (τ 16) p = 0 := by
  unfold zA0
  by_cases q : 0 ≤ p ∧ p < 600
  · rw [if_pos q, if_pos q]
    have h1 := zHB_16 h p.toNat (by omega)
    rw [h1.1, h1.2]
  · rw [if_neg q, if_neg q]
theorem zHB_w {σ τ : zSt} (h : zHB σ τ) {p : Int} (hp : ¬ zA0 (τ 16) p = 0) : 0 ≤ p ∧ p < 600 ∧ p < (τ 13 29).toInt + 32 ∧ 0 < (τ 17 p.toNat).toInt := by
  unfold zA0 at hp
  by_cases q : 0 ≤ p ∧ p < 600
  · rw [if_pos q] at hp
    obtain ⟨q1, q2, q3, q4⟩ := h.1 p.toNat (by omega)
    have q5 : ¬ τ 17 p.toNat = 0 := fun q5 => hp (by rw [q2, if_pos q5])
    have q6 := q4 q5
    have q7 : (τ 17 p.toNat).toInt ≠ 0 := fun q7 => q5 (by rw [zeq, zt0]; exact q7)
    omega
  · rw [if_neg q] at hp
    exact absurd rfl hp
theorem zisStart (τ : zSt) (x : Int32) (hb : 0 ≤ (τ 13 28).toInt) (h0 : 0 ≤ x.toInt) (h1 : x.toInt < 600) : k_M_isStart τ x ∧ (f_M_isStart τ x = 0 ↔ ¬ zSS τ x.toInt) := by
  unfold k_M_isStart f_M_isStart zSS
  by_cases g1 : x ≤ τ 13 28
  · rw [if_pos g1]
    have g1' := zle.mp g1
    exact ⟨fun q => absurd g1 q, by simp; omega⟩
  · rw [if_neg g1]
    have g1' := g1
    rw [zle] at g1'
    have hd : (x - 1).toInt = x.toInt - 1 := zdec1 (by omega)
    have e1 : zA0 (τ 16) x.toInt = τ 16 x.toNatClampNeg := zA0_in h0 h1
    have e2 : zA0 (τ 16) (x.toInt - 1) = τ 16 (x - 1).toNatClampNeg := by rw [zNat, hd]; exact zA0_in (by omega) (by omega)
    rw [e1, e2]
    refine ⟨fun _ => ⟨zvin h0 (by omega), fun _ => zvin (by omega) (by omega)⟩, ?_⟩
    by_cases g2 : τ 16 x.toNatClampNeg = 0
    · simp [g2]
    · rw [if_neg g2]
      by_cases g3 : τ 16 (x - 1).toNatClampNeg = 0
      · rw [if_pos g3]
        simp only [g2, g3, not_false_eq_true, and_true, true_and]
        exact ⟨fun q => absurd q (by decide), fun q => absurd (⟨by omega, h1⟩ : _ ∧ _) q⟩
      · rw [if_neg g3]
        simp [g3]
def zNx (τ : zSt) (x : Int) (s : Int32) : Prop := (s = -1 ∧ ∀ p, x ≤ p → p < 600 → ¬ zSS τ p) ∨ (x ≤ s.toInt ∧ zSS τ s.toInt ∧ ∀ p, x ≤ p → p < s.toInt → ¬ zSS τ p)
theorem zblockFrom {σ τ : zSt} (h : zHB σ τ) (y : Int32) (h0 : (τ 13 28).toInt ≤ y.toInt) (h1 : y.toInt ≤ 600) (h2 : zA0 (τ 16) y.toInt = 0) : k_R_blockFrom σ y ∧ zNx τ (y.toInt + 1) (f_R_blockFrom σ y) := by
  have h' := h
  obtain ⟨-, e2, e3, a0, a1, a2, a3⟩ := h'
  have hr : (σ 6 3 + 32).toInt = (τ 13 29).toInt + 32 := by
    rw [e3, zadd (by rw [zt32]; omega) (by rw [zt32]; omega), zt32]
  obtain ⟨k1, g1, g2, g3, g4⟩ := firstFilled 7 σ y (σ 6 3 + 32)
  refine ⟨k1, ?_⟩
  unfold f_R_blockFrom
  dsimp only [zlet]
  have hno : ∀ p, y.toInt + 1 ≤ p → p < (f_P_firstFilled 7 σ y (σ 6 3 + 32)).toInt → ¬ zSS τ p := by
    intro p q1 q2 q3
    have q4 := (g3 p (by omega) q2).2
    exact q4 (fun q5 => q3.2.2.1 ((zHB_A h p).mp q5))
  by_cases g5 : σ 6 3 + 32 ≤ f_P_firstFilled 7 σ y (σ 6 3 + 32)
  · rw [if_pos g5]
    have g5' := zle.mp g5
    refine Or.inl ⟨rfl, fun p q1 q2 q3 => ?_⟩
    have q4 := zHB_w h q3.2.2.1
    exact hno p q1 (by omega) q3
  · rw [if_neg g5]
    have g5' := g5
    rw [zle] at g5'
    have g6 := g4 (by omega)
    have g7 : ¬ zA0 (τ 16) (f_P_firstFilled 7 σ y (σ 6 3 + 32)).toInt = 0 := fun q => g6 ((zHB_A h _).mpr q)
    have g8 := zHB_w h g7
    have g9 : y.toInt ≠ (f_P_firstFilled 7 σ y (σ 6 3 + 32)).toInt := fun q => g7 (by rw [← q]; exact h2)
    refine Or.inr ⟨by omega, ⟨by omega, by omega, g7, ?_⟩, hno⟩
    by_cases q : y.toInt = (f_P_firstFilled 7 σ y (σ 6 3 + 32)).toInt - 1
    · rw [← q]; exact h2
    · have q2 := (g3 ((f_P_firstFilled 7 σ y (σ 6 3 + 32)).toInt - 1) (by omega) (by omega)).2
      exact (zHB_A h _).mp (Classical.not_not.mp q2)
/-- from a block to the next one -/
theorem znext {σ τ : zSt} (h : zHB σ τ) (s : Int32) (hs : zSS τ s.toInt) : k_R_endOfRun σ s ∧ f_R_endOfRun σ s = f_M_runEnd τ s ∧ k_M_runEnd τ s ∧ zFst (fun p => zA0 (σ 8) p = 0) s.toInt 600 (f_R_endOfRun σ s).toInt ∧ (f_R_endOfRun σ s).toInt ≤ 600 ∧ s.toInt < (f_R_endOfRun σ s).toInt ∧ k_R_blockFrom σ (f_R_endOfRun σ s) ∧ zNx τ (s.toInt + 1) (f_R_blockFrom σ (f_R_endOfRun σ s)) := by
  have h' := h
  obtain ⟨-, e2, e3, a0, a1, a2, a3⟩ := h'
  obtain ⟨b1, b2, b3, b4⟩ := hs
  obtain ⟨k1, k2⟩ := firstEmpty 7 σ s 600
  obtain ⟨k3, k4⟩ := runEnd τ s (by omega)
  rw [zt600] at k2
  have k5 : zFst (fun p => zA0 (τ 16) p = 0) s.toInt 600 (f_P_firstEmpty 7 σ s 600).toInt := zFst_iff k2 (fun p _ _ => zHB_A h p)
  have k6 : f_R_endOfRun σ s = f_M_runEnd τ s := zeq.mpr (zFst_uniq k5 k4)
  obtain ⟨c1, c2, c3, c4⟩ := k5
  have c5 : s.toInt ≠ (f_P_firstEmpty 7 σ s 600).toInt := fun q => b3 (by rw [q]; exact c4 (by omega))
  have c6 : zA0 (τ 16) (f_P_firstEmpty 7 σ s 600).toInt = 0 := by
    by_cases q : (f_P_firstEmpty 7 σ s 600).toInt < 600
    · exact c4 q
    · exact zA0_out (by omega)
  obtain ⟨d1, d2⟩ := zblockFrom h (f_P_firstEmpty 7 σ s 600) (by omega) (by omega) c6
  have d3 : ∀ p, s.toInt + 1 ≤ p → p < (f_P_firstEmpty 7 σ s 600).toInt + 1 → ¬ zSS τ p := by
    intro p q1 q2 q3
    exact (c3 (p - 1) (by omega) (by omega)).2 q3.2.2.2
  refine ⟨k1, k6, k3, k2, ?_, ?_, d1, ?_⟩
  · show (f_P_firstEmpty 7 σ s 600).toInt ≤ 600
    omega
  · show s.toInt < (f_P_firstEmpty 7 σ s 600).toInt
    omega
  · rcases d2 with ⟨q1, q2⟩ | ⟨q1, q2, q3⟩
    · refine Or.inl ⟨q1, fun p q3 q4 => ?_⟩
      by_cases q5 : p < (f_P_firstEmpty 7 σ s 600).toInt + 1
      · exact d3 p q3 q5
      · exact q2 p (by omega) q4
    · refine Or.inr ⟨?_, q2, fun p q4 q5 => ?_⟩
      · show s.toInt + 1 ≤ (f_R_blockFrom σ (f_P_firstEmpty 7 σ s 600)).toInt
        omega
      · by_cases q6 : p < (f_P_firstEmpty 7 σ s 600).toInt + 1
        · exact d3 p q4 q6
        · exact q3 p (by omega) q5
/-- one place on -/
theorem zNx_step {τ : zSt} {x : Int} {s : Int32} (h : zNx τ x s) (hn : ¬ zSS τ x) : zNx τ (x + 1) s := by
  rcases h with ⟨q1, q2⟩ | ⟨q1, q2, q3⟩
  · exact Or.inl ⟨q1, fun p q3 q4 => q2 p (by omega) q4⟩
  · refine Or.inr ⟨?_, q2, fun p q4 q5 => q3 p (by omega) q5⟩
    by_cases q : s.toInt = x
    · rw [q] at q2; exact absurd q2 hn
    · omega
theorem zNx_here {τ : zSt} {x s : Int32} (h0 : 0 ≤ x.toInt) (h1 : x.toInt < 600) (h : zNx τ x.toInt s) (hn : zSS τ x.toInt) : s = x := by
  rcases h with ⟨q1, q2⟩ | ⟨q1, q2, q3⟩
  · exact absurd hn (q2 x.toInt (by omega) h1)
  · rw [zeq]
    by_cases q : x.toInt < s.toInt
    · exact absurd hn (q3 x.toInt (by omega) q)
    · omega
theorem zne1 {s : Int32} (h : 0 ≤ s.toInt) : ¬ s = -1 := by
  rw [zeq, ztm1]; omega
theorem znone {τ : zSt} {s : Int32} (h : zNx τ 600 s) : s = -1 := by
  rcases h with ⟨q1, q2⟩ | ⟨q1, q2, q3⟩
  · exact q1
  · exact absurd q2.2.1 (by omega)
theorem zNx_in {τ : zSt} {x : Int} {s : Int32} (hx : 0 ≤ x) (h : zNx τ x s) (hs : ¬ s = -1) : x ≤ s.toInt ∧ zSS τ s.toInt := by
  rcases h with ⟨q1, q2⟩ | ⟨q1, q2, q3⟩
  · exact absurd q1 hs
  · exact ⟨q1, q2⟩
/-! the newest block before an arrival -/
theorem l_newest {σ τ : zSt} (h : zHB σ τ) (x1 z : Int32) : ∀ (m' m : Nat) (x x4 x5 c2 c3 : Int32), zNx τ x.toInt x4 → (τ 13 28).toInt < x.toInt → (x.toInt ≤ 600 ∨ x.toInt = 601 ∧ x4 = -1) → (600 - x.toInt).toNat < m' → 0 ≤ x5.toInt → x5.toInt ≤ x.toInt - (τ 13 28).toInt - 1 → x5.toInt ≤ 32 → (32 - x5.toInt).toNat < m → (c3 = -1 ∧ c2 = 0 ∨ zSS τ c3.toInt ∧ c2 = f_M_latest τ c3 ∧ k_M_latest τ c3) → kl_R_newestBlockBefore_17 σ x1 m c2 c3 x4 x5 ∧ kl_M_answers_74 τ x1 z m' c3 x ∧ l_R_newestBlockBefore_17 σ x1 m c2 c3 x4 x5 = l_M_answers_74 τ x1 z m' c3 x ∧ (l_M_answers_74 τ x1 z m' c3 x = -1 ∨ zSS τ (l_M_answers_74 τ x1 z m' c3 x).toInt) := by
  have h' := h
  obtain ⟨-, e2, e3, a0, a1, a2, a3⟩ := h'
  intro m'
  induction m' with
  | zero => intro m x x4 x5 c2 c3 _ _ _ q; omega
  | succ m' ih =>
    intro m x x4 x5 c2 c3 b1 b2 b3 b4 b5 b6 b7 b8 b9
    obtain ⟨mm, rfl⟩ : ∃ k, m = k + 1 := ⟨m - 1, by omega⟩
    have hfin : (c3 = -1 ∨ zSS τ c3.toInt) := b9.elim (fun q => Or.inl q.1) (fun q => Or.inr q.1)
    by_cases g1 : 600 ≤ x
    · have g1' := g1
      rw [zle, zt600] at g1'
      have hx4 : x4 = -1 := by
        rcases b3 with q | q
        · exact znone (by rw [show x.toInt = 600 by omega] at b1; exact b1)
        · exact q.2
      unfold kl_R_newestBlockBefore_17 l_R_newestBlockBefore_17 kl_M_answers_74 l_M_answers_74
      rw [if_pos g1, if_pos hx4]
      refine ⟨fun _ q => absurd hx4 q, fun q => absurd g1 q, ?_, hfin⟩
      split <;> rfl
    · have g1' := g1
      rw [zle, zt600] at g1'
      have hi : (x + 1).toInt = x.toInt + 1 := zinc' (by omega)
      obtain ⟨s1, s2⟩ := zisStart τ x (by omega) (by omega) (by omega)
      by_cases g2 : zSS τ x.toInt
      · have g3 : x4 = x := zNx_here (by omega) (by omega) b1 g2
        subst g3
        have w := zHB_w h g2.2.2.1
        have g4 : ¬ x4 = -1 := zne1 (by omega)
        have g5 : ¬ (32 : Int32) ≤ x5 := by rw [zle, zt32]; omega
        have hi5 : (x5 + 1).toInt = x5.toInt + 1 := zinc' (by omega)
        obtain ⟨d1, d2, d3, d4, d5, d6, d7, d8⟩ := znext h x4 g2
        obtain ⟨f1, f2, f3, f4⟩ := zlatest σ τ (zHB_16 h) x4 (f_R_endOfRun σ x4) (by omega) (by omega) d4
        have f5 : 0 < (f_M_latest τ x4).toInt := by have := f4 d6; omega
        have g6 : ¬ f_M_isStart τ x4 = 0 := fun q => (s2.mp q) g2
        unfold kl_R_newestBlockBefore_17 l_R_newestBlockBefore_17 kl_M_answers_74 l_M_answers_74
        rw [if_neg g1, if_neg g5, if_neg g4]
        dsimp only [zlet]
        rw [if_neg g6, f3]
        have IH : ∀ c2 c3 : Int32, (c3 = -1 ∧ c2 = 0 ∨ zSS τ c3.toInt ∧ c2 = f_M_latest τ c3 ∧ k_M_latest τ c3) → _ := fun c2 c3 q => ih mm (x4 + 1) (f_R_blockFrom σ (f_R_endOfRun σ x4)) (x5 + 1) c2 c3 (by rw [hi]; exact d8) (by omega) (by omega) (by omega) (by omega) (by omega) (by omega) (by omega) q
        have hnew : (x4 = -1 ∧ f_M_latest τ x4 = 0 ∨ zSS τ x4.toInt ∧ f_M_latest τ x4 = f_M_latest τ x4 ∧ k_M_latest τ x4) := Or.inr ⟨g2, rfl, f2⟩
        by_cases g7 : x1 ≤ f_M_latest τ x4
        · rw [if_pos g7, if_pos g7]
          obtain ⟨j1, j2, j3, j4⟩ := IH c2 c3 b9
          refine ⟨fun _ _ => ⟨d1, fun r5 hr5 => ?_⟩, fun _ => ⟨s1, fun r9 hr9 => ⟨fun q => absurd (hr9.symm.trans q) g6, fun _ => ⟨f2, fun r13 hr13 => ⟨fun _ => j2, fun q => absurd (by rw [hr13]; exact g7) q⟩⟩⟩⟩, ?_, j4⟩
          · subst hr5
            refine ⟨f1, fun r7 hr7 => ?_⟩
            rw [f3] at hr7
            subst hr7
            exact ⟨fun _ => ⟨d7, fun r hr => by subst hr; exact j1⟩, fun _ => ⟨fun _ => ⟨d7, fun r hr => by subst hr; exact j1⟩, fun q => absurd g7 q⟩⟩
          · rw [ite_self]; exact j3
        · rw [if_neg g7, if_neg g7]
          rcases b9 with ⟨q1, q2⟩ | ⟨q1, q2, q3⟩
          · have g8 : ¬ f_M_latest τ x4 ≤ c2 := by rw [q2, zle, zt0]; omega
            rw [if_neg g8, if_pos q1]
            obtain ⟨j1, j2, j3, j4⟩ := IH _ _ hnew
            refine ⟨fun _ _ => ⟨d1, fun r5 hr5 => ?_⟩, fun _ => ⟨s1, fun r9 hr9 => ⟨fun q => absurd (hr9.symm.trans q) g6, fun _ => ⟨f2, fun r13 hr13 => ⟨fun q => absurd (by rw [← hr13]; exact q) g7, fun _ => ⟨fun _ => j2, fun q => absurd q1 q⟩⟩⟩⟩⟩, j3, j4⟩
            subst hr5
            refine ⟨f1, fun r7 hr7 => ?_⟩
            rw [f3] at hr7
            subst hr7
            exact ⟨fun q => absurd q g8, fun _ => ⟨fun q => absurd q g7, fun _ => ⟨d7, fun r hr => by subst hr; exact j1⟩⟩⟩
          · have g9 : ¬ c3 = -1 := zne1 (by have := q1.1; omega)
            rw [if_neg g9, q2]
            by_cases g8 : f_M_latest τ x4 ≤ f_M_latest τ c3
            · rw [if_pos g8, if_pos g8]
              obtain ⟨j1, j2, j3, j4⟩ := IH (f_M_latest τ c3) c3 (Or.inr ⟨q1, rfl, q3⟩)
              refine ⟨fun _ _ => ⟨d1, fun r5 hr5 => ?_⟩, fun _ => ⟨s1, fun r9 hr9 => ⟨fun q => absurd (hr9.symm.trans q) g6, fun _ => ⟨f2, fun r13 hr13 => ⟨fun q => absurd (by rw [← hr13]; exact q) g7, fun _ => ⟨fun q => absurd q g9, fun _ => ⟨f2, fun r19 hr19 => ⟨q3, fun r21 hr21 => ⟨fun _ => j2, fun q => absurd (by rw [hr19, hr21]; exact g8) q⟩⟩⟩⟩⟩⟩⟩⟩, j3, j4⟩
              subst hr5
              refine ⟨f1, fun r7 hr7 => ?_⟩
              rw [f3] at hr7
              subst hr7
              exact ⟨fun _ => ⟨d7, fun r hr => by subst hr; exact j1⟩, fun q => absurd g8 q⟩
            · rw [if_neg g8, if_neg g8]
              obtain ⟨j1, j2, j3, j4⟩ := IH _ _ hnew
              refine ⟨fun _ _ => ⟨d1, fun r5 hr5 => ?_⟩, fun _ => ⟨s1, fun r9 hr9 => ⟨fun q => absurd (hr9.symm.trans q) g6, fun _ => ⟨f2, fun r13 hr13 => ⟨fun q => absurd (by rw [← hr13]; exact q) g7, fun _ => ⟨fun q => absurd q g9, fun _ => ⟨f2, fun r19 hr19 => ⟨q3, fun r21 hr21 => ⟨fun q => absurd (by rw [← hr19, ← hr21]; exact q) g8, fun _ => j2⟩⟩⟩⟩⟩⟩⟩⟩, j3, j4⟩
              subst hr5
              refine ⟨f1, fun r7 hr7 => ?_⟩
              rw [f3] at hr7
              subst hr7
              exact ⟨fun q => absurd q g8, fun _ => ⟨fun q => absurd q g7, fun _ => ⟨d7, fun r hr => by subst hr; exact j1⟩⟩⟩
      · have g6 : f_M_isStart τ x = 0 := s2.mpr g2
        obtain ⟨j1, j2, j3, j4⟩ := ih (mm + 1) (x + 1) x4 x5 c2 c3 (by rw [hi]; exact zNx_step b1 g2) (by omega) (by omega) (by omega) (by omega) (by omega) (by omega) (by omega) b9
        have eM : l_M_answers_74 τ x1 z (m' + 1) c3 x = l_M_answers_74 τ x1 z m' c3 (x + 1) := by
          rw [l_M_answers_74, if_neg g1]
          dsimp only [zlet]
          rw [if_pos g6]
        rw [eM]
        refine ⟨j1, ?_, j3, j4⟩
        unfold kl_M_answers_74
        exact fun _ => ⟨s1, fun r9 hr9 => ⟨fun _ => j2, fun q => absurd (hr9.trans g6) q⟩⟩
theorem znewest {σ τ : zSt} (h : zHB σ τ) (x1 z : Int32) : k_R_newestBlockBefore σ x1 ∧ kl_M_answers_74 τ x1 z (((600 : Int32).toInt - (((τ 13 28) + 1)).toInt).toNat + 2) (-1) ((τ 13 28) + 1) ∧ f_R_newestBlockBefore σ x1 = l_M_answers_74 τ x1 z (((600 : Int32).toInt - (((τ 13 28) + 1)).toInt).toNat + 2) (-1) ((τ 13 28) + 1) ∧ (f_R_newestBlockBefore σ x1 = -1 ∨ zSS τ (f_R_newestBlockBefore σ x1).toInt) := by
  have h' := h
  obtain ⟨-, e2, e3, a0, a1, a2, a3⟩ := h'
  have hi : (τ 13 28 + 1).toInt = (τ 13 28).toInt + 1 := zinc' (by omega)
  obtain ⟨d1, d2⟩ := zblockFrom h (τ 13 28) (by omega) a2 a3
  have hq : (τ 13 28).toInt = 600 → f_R_blockFrom σ (τ 13 28) = -1 := by
    intro q
    rcases d2 with ⟨q1, q2⟩ | ⟨q1, q2, q3⟩
    · exact q1
    · have := q2.2.1; omega
  obtain ⟨j1, j2, j3, j4⟩ := l_newest h x1 z (((600 : Int32).toInt - (((τ 13 28) + 1)).toInt).toNat + 2) (((32 : Int32).toInt - (0 : Int32).toInt).toNat + 2) (τ 13 28 + 1) (f_R_blockFrom σ (τ 13 28)) 0 0 (-1) (by rw [hi]; exact d2) (by omega) (by
    by_cases q : (τ 13 28).toInt = 600
    · exact Or.inr ⟨by omega, hq q⟩
    · exact Or.inl (by omega)) (by rw [zt600]; omega) (by rw [zt0]; omega) (by rw [zt0]; omega) (by rw [zt0]; omega) (by rw [zt0, zt32]; omega) (Or.inl ⟨rfl, rfl⟩)
  unfold k_R_newestBlockBefore f_R_newestBlockBefore
  dsimp only [zlet]
  rw [e2, j3]
  exact ⟨⟨d1, fun r hr => by subst hr; exact j1⟩, j2, rfl, j4⟩
