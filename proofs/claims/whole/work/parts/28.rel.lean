/-! a row leaves -/
theorem zremA {σ τ : zSt} {a : Int32} (e38 : σ 11 2 = τ 13 38) (h0 : 0 ≤ a.toInt) (h1 : a.toInt < (τ 13 38).toInt) (h2 : (τ 13 38).toInt ≤ 40) (hN : zAkN (σ 12) (τ 20) (τ 21)) (hC : zAkC (σ 12) (τ 22)) (hB : zAkB (σ 12) (τ 23) (τ 24)) : k_W_remove 11 σ a ∧ k_M_leaves τ a ∧ zAkN (f_W_remove 11 σ a 12) (f_M_leaves τ a 20) (f_M_leaves τ a 21) ∧ zAkC (f_W_remove 11 σ a 12) (f_M_leaves τ a 22) ∧ zAkB (f_W_remove 11 σ a 12) (f_M_leaves τ a 23) (f_M_leaves τ a 24) ∧ f_W_remove 11 σ a 11 2 = f_M_leaves τ a 13 38 ∧ (f_M_leaves τ a 13 38).toInt = (τ 13 38).toInt - 1 ∧ (∀ i, i ≠ 11 → i ≠ 12 → f_W_remove 11 σ a i = σ i) ∧ (∀ i, i ≠ 13 → i ≠ 20 → i ≠ 21 → i ≠ 22 → i ≠ 23 → i ≠ 24 → f_M_leaves τ a i = τ i) ∧ (∀ j, j ≠ 38 → f_M_leaves τ a 13 j = τ 13 j) ∧ (∀ p : Nat, p < 40 → ∃ s, s < 40 ∧ f_M_leaves τ a 20 p = τ 20 s ∧ f_M_leaves τ a 21 p = τ 21 s ∧ f_M_leaves τ a 22 p = τ 22 s) ∧ (∀ j : Nat, j < 120 → ∃ s, s < 120 ∧ f_M_leaves τ a 23 j = τ 23 s ∧ f_M_leaves τ a 24 j = τ 24 s) := by
  obtain ⟨k1, k2⟩ := W_remove11 (σ := σ) (a := a) h0 (by rw [e38]; exact h1) (by rw [e38]; exact h2)
  obtain ⟨k3, k4⟩ := M_leaves (τ := τ) (a := a) h0 h1 h2
  have hd : (τ 13 38 - 1).toInt = (τ 13 38).toInt - 1 := zdec1 (by omega)
  generalize hn : (τ 13 38).toInt = n at *
  rw [e38, hn] at k2
  have c12 : zuf σ 11 2 (τ 13 38 - 1) 12 = σ 12 := zuf_ne (by decide)
  have c20 : zuf τ 13 38 (τ 13 38 - 1) 20 = τ 20 := zuf_ne (by decide)
  have c21 : zuf τ 13 38 (τ 13 38 - 1) 21 = τ 21 := zuf_ne (by decide)
  have c22 : zuf τ 13 38 (τ 13 38 - 1) 22 = τ 22 := zuf_ne (by decide)
  have c23 : zuf τ 13 38 (τ 13 38 - 1) 23 = τ 23 := zuf_ne (by decide)
  have c24 : zuf τ 13 38 (τ 13 38 - 1) 24 = τ 24 := zuf_ne (by decide)
  obtain ⟨σ0, hσ0⟩ : ∃ u, u = zuf σ 11 2 (τ 13 38 - 1) := ⟨_, rfl⟩
  obtain ⟨τ0, hτ0⟩ : ∃ u, u = zuf τ 13 38 (τ 13 38 - 1) := ⟨_, rfl⟩
  rw [← hσ0] at k2 c12
  rw [← hτ0] at k4 c20 c21 c22 c23 c24
  obtain ⟨τ1, hτ1⟩ : ∃ u, u = zshf τ0 [20, 21, 22] a.toInt (n - 1) 1 := ⟨_, rfl⟩
  rw [← hτ1] at k4
  have d23 : τ1 23 = τ 23 := by rw [hτ1, zshf_ne (by decide), c23]
  have d24 : τ1 24 = τ 24 := by rw [hτ1, zshf_ne (by decide), c24]
  rw [k2, k4]
  rw [← c12, ← c20, ← c21] at hN
  rw [← c12, ← c22] at hC
  rw [← c12, ← d23, ← d24] at hB
  have l1 := zAkN_shift (a := a.toInt) hN h2
  have l2 := zAkC_shift (a := a.toInt) hC h2
  have l3 := zAkB_shift (a := a.toInt) hB h2
  rw [← hτ1] at l1 l2
  have f20 : zshf τ1 [23, 24] (3 * a.toInt) (3 * (n - 1)) 3 20 = τ1 20 := zshf_ne (by decide)
  have f21 : zshf τ1 [23, 24] (3 * a.toInt) (3 * (n - 1)) 3 21 = τ1 21 := zshf_ne (by decide)
  have f22 : zshf τ1 [23, 24] (3 * a.toInt) (3 * (n - 1)) 3 22 = τ1 22 := zshf_ne (by decide)
  have f13 : zshf τ1 [23, 24] (3 * a.toInt) (3 * (n - 1)) 3 13 = τ0 13 := by
    rw [zshf_ne (by decide), hτ1, zshf_ne (by decide)]
  have e13 : τ0 13 38 = τ 13 38 - 1 := by rw [hτ0]; exact zuf_eq
  rw [f20, f21, f22, f13, e13, zshf_ne (show (11 : Nat) ∉ [12] by decide)]
  refine ⟨k1, k3, l1, l2, l3, ?_, by rw [hd], fun i q1 q2 => ?_, fun i q1 q2 q3 q4 q5 q6 => ?_, fun j q => ?_, fun p hp => ?_, fun j hj => ?_⟩
  · rw [hσ0]; exact zuf_eq
  · rw [zshf_ne (by simp [q2]), hσ0, zuf_ne q1]
  · rw [zshf_ne (by simp [q5, q6]), hτ1, zshf_ne (by simp [q2, q3, q4]), hτ0, zuf_ne q1]
  · rw [hτ0, zuf_nj q]
  · rw [hτ1, zshf_at (by decide), zshf_at (by decide), zshf_at (by decide), c20, c21, c22]
    by_cases q : a.toInt ≤ (p : Int) ∧ (p : Int) < n - 1
    · rw [if_pos q, if_pos q, if_pos q]
      exact ⟨p + 1, by omega, rfl, rfl, rfl⟩
    · rw [if_neg q, if_neg q, if_neg q]
      exact ⟨p, hp, rfl, rfl, rfl⟩
  · rw [zshf_at (by decide), zshf_at (by decide), d23, d24]
    by_cases q : 3 * a.toInt ≤ (j : Int) ∧ (j : Int) < 3 * (n - 1)
    · rw [if_pos q, if_pos q]
      exact ⟨j + 3, by omega, rfl, rfl⟩
    · rw [if_neg q, if_neg q]
      exact ⟨j, hj, rfl, rfl⟩
theorem zremS {σ τ : zSt} {a : Int32} (e32 : σ 9 2 = τ 13 32) (h0 : 0 ≤ a.toInt) (h1 : a.toInt < (τ 13 32).toInt) (h2 : (τ 13 32).toInt ≤ 40) (hS : zSg (σ 10) (τ 18) (τ 19)) : k_W_remove 9 σ a ∧ k_M_takes τ a ∧ zSg (f_W_remove 9 σ a 10) (f_M_takes τ a 18) (f_M_takes τ a 19) ∧ f_W_remove 9 σ a 9 2 = f_M_takes τ a 13 32 ∧ (f_M_takes τ a 13 32).toInt = (τ 13 32).toInt - 1 ∧ (∀ i, i ≠ 9 → i ≠ 10 → f_W_remove 9 σ a i = σ i) ∧ (∀ i, i ≠ 13 → i ≠ 18 → i ≠ 19 → f_M_takes τ a i = τ i) ∧ (∀ j, j ≠ 32 → f_M_takes τ a 13 j = τ 13 j) ∧ (∀ p : Nat, p < 40 → ∃ s, s < 40 ∧ f_M_takes τ a 18 p = τ 18 s ∧ f_M_takes τ a 19 p = τ 19 s) := by
  obtain ⟨k1, k2⟩ := W_remove9 (σ := σ) (a := a) h0 (by rw [e32]; exact h1) (by rw [e32]; exact h2)
  obtain ⟨k3, k4⟩ := M_takes (τ := τ) (a := a) h0 h1 h2
  have hd : (τ 13 32 - 1).toInt = (τ 13 32).toInt - 1 := zdec1 (by omega)
  generalize hn : (τ 13 32).toInt = n at *
  rw [e32, hn] at k2
  have c10 : zuf σ 9 2 (τ 13 32 - 1) 10 = σ 10 := zuf_ne (by decide)
  have c18 : zuf τ 13 32 (τ 13 32 - 1) 18 = τ 18 := zuf_ne (by decide)
  have c19 : zuf τ 13 32 (τ 13 32 - 1) 19 = τ 19 := zuf_ne (by decide)
  obtain ⟨σ0, hσ0⟩ : ∃ u, u = zuf σ 9 2 (τ 13 32 - 1) := ⟨_, rfl⟩
  obtain ⟨τ0, hτ0⟩ : ∃ u, u = zuf τ 13 32 (τ 13 32 - 1) := ⟨_, rfl⟩
  rw [← hσ0] at k2 c10
  rw [← hτ0] at k4 c18 c19
  rw [k2, k4]
  rw [← c10, ← c18, ← c19] at hS
  have l1 := zSg_shift (a := a.toInt) hS h2
  have f13 : zshf τ0 [18, 19] a.toInt (n - 1) 1 13 = τ0 13 := zshf_ne (by decide)
  have e13 : τ0 13 32 = τ 13 32 - 1 := by rw [hτ0]; exact zuf_eq
  rw [f13, e13, zshf_ne (show (9 : Nat) ∉ [10] by decide)]
  refine ⟨k1, k3, l1, ?_, by rw [hd], fun i q1 q2 => ?_, fun i q1 q2 q3 => ?_, fun j q => ?_, fun p hp => ?_⟩
  · rw [hσ0]; exact zuf_eq
  · rw [zshf_ne (by simp [q2]), hσ0, zuf_ne q1]
  · rw [zshf_ne (by simp [q2, q3]), hτ0, zuf_ne q1]
  · rw [hτ0, zuf_nj q]
  · rw [zshf_at (by decide), zshf_at (by decide), c18, c19]
    by_cases q : a.toInt ≤ (p : Int) ∧ (p : Int) < n - 1
    · rw [if_pos q, if_pos q]
      exact ⟨p + 1, by omega, rfl, rfl⟩
    · rw [if_neg q, if_neg q]
      exact ⟨p, hp, rfl, rfl⟩
theorem zmakeAck {σ τ : zSt} (h : zHB σ τ) (e1 : σ 6 1 = τ 13 27) (e38 : σ 11 2 = τ 13 38) (h0 : 0 ≤ (τ 13 38).toInt) (h1 : (τ 13 38).toInt ≤ 40) (hN : zAkN (σ 12) (τ 20) (τ 21)) (hC : zAkC (σ 12) (τ 22)) (hB : zAkB (σ 12) (τ 23) (τ 24)) : k_R_makeAck σ ∧ k_M_answers τ ∧ zAkN (f_R_makeAck σ 12) (f_M_answers τ 20) (f_M_answers τ 21) ∧ zAkC (f_R_makeAck σ 12) (f_M_answers τ 22) ∧ zAkB (f_R_makeAck σ 12) (f_M_answers τ 23) (f_M_answers τ 24) ∧ f_R_makeAck σ 11 2 = f_M_answers τ 13 38 ∧ 0 ≤ (f_M_answers τ 13 38).toInt ∧ (f_M_answers τ 13 38).toInt ≤ 40 ∧ (∀ i, i ≠ 11 → i ≠ 12 → f_R_makeAck σ i = σ i) ∧ (∀ i, i ≠ 13 → i ≠ 20 → i ≠ 21 → i ≠ 22 → i ≠ 23 → i ≠ 24 → f_M_answers τ i = τ i) ∧ (∀ j, j ≠ 38 → f_M_answers τ 13 j = τ 13 j) ∧ zNewAck τ (f_M_answers τ) := by
  have fA : f_R_makeAck σ = if f_W_isFull 11 σ = 0 then zmkA σ else zmkA (f_W_remove 11 σ 0) := rfl
  have fB : f_M_answers τ = if τ 13 38 = 40 then zanA (f_M_leaves τ 0) else zanA τ := rfl
  have fK : k_R_makeAck σ = (∀ r1, r1 = (f_W_isFull 11 σ) → ((r1 = 0 → kmkA σ) ∧ (¬ r1 = 0 → ((k_W_remove 11 σ 0) ∧ (∀ u18, u18 = (f_W_remove 11 σ 0) → kmkA u18))))) := rfl
  have fL : k_M_answers τ = (((τ 13 38) = 40 → ((k_M_leaves τ 0) ∧ (∀ u37, u37 = (f_M_leaves τ 0) → kanA u37))) ∧ (¬ (τ 13 38) = 40 → kanA τ)) := rfl
  rw [fK, fL]
  by_cases g : (τ 13 38).toInt = 40
  · have g1 : τ 13 38 = 40 := by rw [zeq, zt40]; exact g
    have g2 : ¬ f_W_isFull 11 σ = 0 := by
      unfold f_W_isFull
      rw [if_neg (by rw [zlt, e38, zt40]; omega)]
      decide
    rw [if_neg g2] at fA
    rw [if_pos g1] at fB
    obtain ⟨r1, r2, r3, r4, r5, r6, r7, r8, r9, r10, r11, r12⟩ := zremA (σ := σ) (τ := τ) (a := 0) e38 (by rw [zt0]; omega) (by rw [zt0]; omega) h1 hN hC hB
    rw [fA, fB]
    generalize f_W_remove 11 σ 0 = σ0 at *
    generalize f_M_leaves τ 0 = τ0 at *
    have hh : zHB σ0 τ0 := zHB_of h (r8 8 (by decide) (by decide)) (r8 6 (by decide) (by decide)) (r9 16 (by decide) (by decide) (by decide) (by decide) (by decide) (by decide)) (r9 17 (by decide) (by decide) (by decide) (by decide) (by decide) (by decide)) (r10 28 (by decide)) (r10 29 (by decide))
    obtain ⟨m1, m2, m3, m4, m5, m6, m7, m8, m9, m10, m11, m12⟩ := zmakeA (σ := σ0) (τ := τ0) hh (by rw [r8 6 (by decide) (by decide), r10 27 (by decide)]; exact e1) r6 (by omega) (by omega) r3 r4 r5
    have hi : (τ0 13 38 + 1).toInt = (τ0 13 38).toInt + 1 := zinc' (by omega)
    refine ⟨fun q hq => ⟨fun w => absurd (hq.symm.trans w) g2, fun _ => ⟨r1, fun u hu => by rw [hu]; exact m1⟩⟩, ⟨fun _ => ⟨r2, fun u hu => by rw [hu]; exact m2⟩, fun q => absurd g1 q⟩, m3, m4, m5, m6, by rw [m7]; omega, by rw [m7]; omega, fun i q1 q2 => by rw [m8 i q1 q2, r8 i q1 q2], fun i q1 q2 q3 q4 q5 q6 => by rw [m9 i q1 q2 q3 q4 q5 q6, r9 i q1 q2 q3 q4 q5 q6], fun j q => by rw [m10 j q, r10 j q], fun p hp => ?_, fun j hj => ?_⟩
    · rcases m11 p hp with ⟨s, s1, s2, s3, s4⟩ | ⟨s1, s2, s3⟩
      · obtain ⟨t, t1, t2, t3, t4⟩ := r11 s s1
        exact Or.inl ⟨t, t1, s2.trans t2, s3.trans t3, s4.trans t4⟩
      · rw [r10 28 (by decide)] at s1
        rw [r10 28 (by decide), r10 29 (by decide)] at s2
        exact Or.inr ⟨s1, s2, s3⟩
    · rcases m12 j hj with ⟨s, s1, s2, s3⟩ | s1
      · obtain ⟨t, t1, t2, t3⟩ := r12 s s1
        exact Or.inl ⟨t, t1, s2.trans t2, s3.trans t3⟩
      · rw [r9 16 (by decide) (by decide) (by decide) (by decide) (by decide) (by decide)] at s1
        exact Or.inr s1
  · have g1 : ¬ τ 13 38 = 40 := by rw [zeq, zt40]; exact g
    have g2 : f_W_isFull 11 σ = 0 := by
      unfold f_W_isFull
      rw [if_pos (by rw [zlt, e38, zt40]; omega)]
    rw [if_pos g2] at fA
    rw [if_neg g1] at fB
    rw [fA, fB]
    obtain ⟨m1, m2, m3, m4, m5, m6, m7, m8, m9, m10, m11⟩ := zmakeA (σ := σ) (τ := τ) h e1 e38 h0 (by omega) hN hC hB
    have hi : (τ 13 38 + 1).toInt = (τ 13 38).toInt + 1 := zinc' (by omega)
    exact ⟨fun q hq => ⟨fun _ => m1, fun w => absurd (hq.trans g2) w⟩, ⟨fun q => absurd q g1, fun _ => m2⟩, m3, m4, m5, m6, by rw [m7]; omega, by rw [m7]; omega, m8, m9, m10, m11⟩
/-! alike, and bounds -/
def zRS (f t g : Nat → Int32) : Prop := (f 2 = g 2 ∧ f 3 = g 3 ∧ f 4 = g 4 ∧ f 5 = g 5 ∧ f 6 = g 6 ∧ f 7 = g 7 ∧ f 8 = g 8 ∧ f 9 = g 9 ∧ f 10 = g 13 ∧ f 11 = (if g 10 = 0 then -1 else g 11) ∧ f 12 = g 12 ∧ f 13 = g 21 ∧ f 14 = g 22) ∧ t 0 = g 1 ∧ t 1 = g 14 ∧ t 2 = g 15 ∧ t 3 = g 16 ∧ t 4 = g 18 ∧ t 5 = g 19 ∧ t 6 = g 17 ∧ t 7 = g 20
def zEq (f g : Nat → Int32) : Prop := ∀ j : Nat, j < 600 → f j = g j
def zRel (σ τ : zSt) : Prop := zRS (σ 2) (σ 5) (τ 13) ∧ zEq (σ 4) (τ 15) ∧ zEq (σ 1) (τ 14) ∧ zHB σ τ ∧ σ 6 1 = τ 13 27 ∧ σ 9 2 = τ 13 32 ∧ σ 11 2 = τ 13 38 ∧ zSg (σ 10) (τ 18) (τ 19) ∧ zAkN (σ 12) (τ 20) (τ 21) ∧ zAkC (σ 12) (τ 22) ∧ zAkB (σ 12) (τ 23) (τ 24)
/-- scalars of the reference after k calls -/
def zBS (k : Nat) (g : Nat → Int32) : Prop := 0 ≤ (g 2).toInt ∧ (g 2).toInt ≤ (g 3).toInt ∧ (g 3).toInt ≤ (g 4).toInt ∧ (g 4).toInt ≤ (g 5).toInt ∧ (g 5).toInt ≤ 600 ∧ 1 ≤ (g 7).toInt ∧ (g 7).toInt ≤ 300 ∧ 8 ≤ (g 8).toInt ∧ (g 8).toInt ≤ 300 ∧ 0 ≤ (g 1).toInt ∧ (g 1).toInt ≤ 100 * k ∧ 0 ≤ (g 11).toInt
def zBT (k : Nat) (g : Nat → Int32) : Prop := 0 ≤ (g 27).toInt ∧ (g 27).toInt ≤ k ∧ 0 ≤ (g 32).toInt ∧ (g 32).toInt ≤ 40 ∧ 0 ≤ (g 38).toInt ∧ (g 38).toInt ≤ 40
def zBM (f g : Nat → Int32) : Prop := ∀ j : Nat, j < 600 → (f j = 0 ∨ f j = 1) ∧ (¬ f j = 0 → (g 2).toInt ≤ (j : Int) ∧ (j : Int) < (g 4).toInt)
def zBR (τ : zSt) (h b : Int) : Prop := b ≤ h ∧ (∀ j : Nat, j < 600 → ¬ τ 17 j = 0 → (j : Int) < h) ∧ (∀ p : Nat, p < 40 → 0 ≤ (τ 18 p).toInt ∧ (τ 19 p).toInt ≤ h) ∧ (∀ p : Nat, p < 40 → 0 ≤ (τ 20 p).toInt ∧ (τ 20 p).toInt ≤ b ∧ 0 ≤ (τ 22 p).toInt ∧ (τ 22 p).toInt ≤ 3) ∧ (∀ j : Nat, j < 120 → 0 ≤ (τ 23 j).toInt ∧ (τ 24 j).toInt ≤ h)
def zBnd (k : Nat) (τ : zSt) : Prop := zBS k (τ 13) ∧ zBT k (τ 13) ∧ zBM (τ 15) (τ 13) ∧ zBR τ (τ 13 4).toInt (τ 13 28).toInt
theorem zRel_of {σ τ σ' τ' : zSt} (h : zRel σ τ) (e1 : ∀ i, i < 13 → σ' i = σ i) (e2 : ∀ i, 14 ≤ i → i < 25 → τ' i = τ i) (e3 : ∀ j, j ≠ 0 → τ' 13 j = τ 13 j) : zRel σ' τ' := by
  unfold zRel zRS zHB at h ⊢
  rw [e1 1 (by decide), e1 2 (by decide), e1 4 (by decide), e1 5 (by decide), e1 6 (by decide), e1 8 (by decide), e1 9 (by decide), e1 10 (by decide), e1 11 (by decide), e1 12 (by decide), e2 14 (by decide) (by decide), e2 15 (by decide) (by decide), e2 16 (by decide) (by decide), e2 17 (by decide) (by decide), e2 18 (by decide) (by decide), e2 19 (by decide) (by decide), e2 20 (by decide) (by decide), e2 21 (by decide) (by decide), e2 22 (by decide) (by decide), e2 23 (by decide) (by decide), e2 24 (by decide) (by decide), e3 2 (by decide), e3 3 (by decide), e3 4 (by decide), e3 5 (by decide), e3 6 (by decide), e3 7 (by decide), e3 8 (by decide), e3 9 (by decide), e3 10 (by decide), e3 11 (by decide), e3 12 (by decide), e3 13 (by decide), e3 14 (by decide), e3 15 (by decide), e3 16 (by decide), e3 17 (by decide), e3 18 (by decide), e3 19 (by decide), e3 20 (by decide), e3 21 (by decide), e3 22 (by decide), e3 1 (by decide), e3 27 (by decide), e3 28 (by decide), e3 29 (by decide), e3 32 (by decide), e3 38 (by decide)]
  exact h
theorem zBnd_of {k : Nat} {τ τ' : zSt} (h : zBnd k τ) (e2 : ∀ i, 14 ≤ i → i < 25 → τ' i = τ i) (e3 : ∀ j, j ≠ 0 → τ' 13 j = τ 13 j) : zBnd k τ' := by
  unfold zBnd zBS zBT zBM zBR at h ⊢
  rw [e2 15 (by decide) (by decide), e2 17 (by decide) (by decide), e2 18 (by decide) (by decide), e2 19 (by decide) (by decide), e2 20 (by decide) (by decide), e2 22 (by decide) (by decide), e2 23 (by decide) (by decide), e2 24 (by decide) (by decide), e3 2 (by decide), e3 3 (by decide), e3 4 (by decide), e3 5 (by decide), e3 7 (by decide), e3 8 (by decide), e3 11 (by decide), e3 1 (by decide), e3 27 (by decide), e3 28 (by decide), e3 32 (by decide), e3 38 (by decide)]
  exact h
theorem zBnd_up {k : Nat} {τ : zSt} (h : zBnd k τ) : zBnd (k + 1) τ := by
  obtain ⟨⟨h1, h2, h3, h4, h5, h6, h7, h8, h9, h10, h11, h12⟩, ⟨g1, g2, g3⟩, h13, h14⟩ := h
  exact ⟨⟨h1, h2, h3, h4, h5, h6, h7, h8, h9, h10, by omega, h12⟩, ⟨g1, by omega, g3⟩, h13, h14⟩
