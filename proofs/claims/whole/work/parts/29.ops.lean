/-! one call, on both sides -/
def zOp (k : Nat) (σ τ : zSt) (X : Int32 × Int32 × zSt) (M : Int32 × zSt) : Prop := M.2 13 0 = X.1 ∧ (X.1 = 0 → X.2.1 = M.1) ∧ zRel X.2.2 M.2 ∧ zBnd (k + 1) M.2 ∧ (∀ i, 13 ≤ i → X.2.2 i = σ i) ∧ (∀ i, i < 13 ∨ i = 25 → M.2 i = τ i)
theorem zk0 {τ : zSt} {c : Int32} {j : Nat} (q : j ≠ 0) : zuf τ 13 0 c 13 j = τ 13 j := zuf_nj q
theorem zOp_refuse {k : Nat} {σ τ : zSt} (h : zRel σ τ) (b : zBnd k τ) {c : Int32} (hc : ¬ c = 0) (r r' : Int32) : zOp k σ τ (c, r, σ) (r', zuf τ 13 0 c) :=
  ⟨zuf_eq (σ := τ) (i := 13) (j := 0) (v := c), fun q => absurd q hc, zRel_of h (fun _ _ => rfl) (fun i q _ => zuf_ne (by omega)) (fun j q => zk0 q), zBnd_up (zBnd_of b (fun i q _ => zuf_ne (by omega)) (fun j q => zk0 q)), fun _ _ => rfl, fun i q => zuf_ne (by omega)⟩
theorem zOp_see {k : Nat} {σ τ : zSt} (h : zRel σ τ) (b : zBnd k τ) {r r' : Int32} (hr : r = r') : zOp k σ τ (0, r, σ) (r', zuf τ 13 0 0) :=
  ⟨zuf_eq (σ := τ) (i := 13) (j := 0) (v := 0), fun _ => hr, zRel_of h (fun _ _ => rfl) (fun i q _ => zuf_ne (by omega)) (fun j q => zk0 q), zBnd_up (zBnd_of b (fun i q _ => zuf_ne (by omega)) (fun j q => zk0 q)), fun _ _ => rfl, fun i q => zuf_ne (by omega)⟩
theorem zfine0 {τ : zSt} : f_M_isFine τ 0 = (1, zuf τ 13 0 0) := if_pos rfl
theorem zfine1 {τ : zSt} : f_M_isFine τ 1 = (0, zuf τ 13 0 1) := if_neg (by decide)
theorem zfine2 {τ : zSt} : f_M_isFine τ 2 = (0, zuf τ 13 0 2) := if_neg (by decide)
theorem zf0 {τ : zSt} {r : Int32} {u : zSt} (h : (r, u) = f_M_isFine τ 0) : r = 1 ∧ u = zuf τ 13 0 0 := by
  rw [zfine0] at h
  exact Prod.mk.inj h
theorem zf1 {τ : zSt} {r : Int32} {u : zSt} (h : (r, u) = f_M_isFine τ 1) : r = 0 := by
  rw [zfine1] at h
  exact (Prod.mk.inj h).1
theorem zf2 {τ : zSt} {r : Int32} {u : zSt} (h : (r, u) = f_M_isFine τ 2) : r = 0 := by
  rw [zfine2] at h
  exact (Prod.mk.inj h).1
theorem zisIn (τ : zSt) (x a b : Int32) : (f_M_isIn τ x a b = 0 ↔ ¬ (a.toInt ≤ x.toInt ∧ x.toInt ≤ b.toInt)) ∧ (¬ f_M_isIn τ x a b = 0 → f_M_isIn τ x a b = 1) := by
  unfold f_M_isIn
  by_cases h1 : x < a
  · rw [if_pos h1]
    rw [zlt] at h1
    exact ⟨⟨fun _ q => by omega, fun _ => rfl⟩, fun q => absurd rfl q⟩
  · rw [if_neg h1]
    by_cases h2 : b < x
    · rw [if_pos h2]
      rw [zlt] at h2
      exact ⟨⟨fun _ q => by omega, fun _ => rfl⟩, fun q => absurd rfl q⟩
    · rw [if_neg h2]
      rw [zlt] at h2 h1
      exact ⟨⟨fun q => absurd q (by decide), fun q => absurd (by omega) q⟩, fun _ => rfl⟩
theorem zisSeg {σ τ : zSt} {a : Int32} (e : σ 9 2 = τ 13 32) (h0 : 0 ≤ (τ 13 32).toInt) : f_M_isSegment τ a = 0 ↔ f_W_holds 9 σ a = 0 := by
  unfold f_M_isSegment
  dsimp only [zlet]
  rw [(zisIn _ _ _ _).1, (W_holds 9 σ a).1, e, zt0, zdec1 (by omega)]
  omega
theorem zisAck {σ τ : zSt} {a : Int32} (e : σ 11 2 = τ 13 38) (h0 : 0 ≤ (τ 13 38).toInt) : f_M_isAck τ a = 0 ↔ f_W_holds 11 σ a = 0 := by
  unfold f_M_isAck
  dsimp only [zlet]
  rw [(zisIn _ _ _ _).1, (W_holds 11 σ a).1, e, zt0, zdec1 (by omega)]
  omega
/-- what a call leaves, seen from one state -/
theorem zrun {k : Nat} {σ : zSt} {X : Int32 × Int32 × zSt} {kX : Prop} {M : zSt → Int32 × zSt} {kM : zSt → Prop} (h : zRel σ σ) (b : zBnd k σ) (op : ∀ τ, zRel σ τ → zBnd k τ → kX ∧ kM τ ∧ zOp k σ τ X (M τ)) : (kX ∧ ∀ c u, (c, u) = zwr X → kM u ∧ ∀ r u2, (r, u2) = M u → f_M_thrown u2 = c ∧ (c = 0 → u2 25 0 = r)) ∧ zRel (zseq (zwr X) (fun _ u => (M u).2)) (zseq (zwr X) (fun _ u => (M u).2)) ∧ zBnd (k + 1) (zseq (zwr X) (fun _ u => (M u).2)) := by
  obtain ⟨c, r, u0⟩ := X
  have hf := (op σ h b).2.2.2.2.2.2.1
  dsimp only at hf
  obtain ⟨u, hu⟩ : ∃ u, u = if c = 0 then zuf u0 25 0 r else u0 := ⟨_, rfl⟩
  have hz : zwr (c, r, u0) = (c, u) := by
    unfold zwr
    dsimp only
    by_cases q : c = 0
    · rw [if_pos q, hu, if_pos q, q]
    · rw [if_neg q, hu, if_neg q]
  have hu2 : ∀ i, i ≠ 25 → u i = u0 i := fun i q => by
    rw [hu]
    split
    · exact zuf_ne q
    · rfl
  have hr : zRel σ u := zRel_of h (fun _ _ => rfl) (fun i q1 q2 => by rw [hu2 i (by omega), hf i (by omega)]) (fun j _ => by rw [hu2 13 (by decide), hf 13 (by decide)])
  have hb : zBnd k u := zBnd_of b (fun i q1 q2 => by rw [hu2 i (by omega), hf i (by omega)]) (fun j _ => by rw [hu2 13 (by decide), hf 13 (by decide)])
  obtain ⟨g1, g2, g3, g4, g5, g6, g7, g8⟩ := op u hr hb
  dsimp only at g3 g4 g5 g7
  rw [hz]
  dsimp only [zseq]
  refine ⟨⟨g1, fun c' u' hq => ?_⟩, ?_, g6⟩
  · obtain ⟨rfl, rfl⟩ := Prod.mk.inj hq
    refine ⟨g2, fun r' u2 hq2 => ?_⟩
    have e1 : r' = (M u').1 := by rw [← hq2]
    have e2 : u2 = (M u').2 := by rw [← hq2]
    rw [e1, e2]
    refine ⟨g3, fun q => ?_⟩
    have e3 : u' 25 0 = r := by rw [hu, if_pos q, zuf_eq]
    rw [g8 25 (Or.inr rfl), e3]
    exact g4 q
  · exact zRel_of g5 (fun i q => by rw [g8 i (Or.inl q), hu2 i (by omega)]) (fun _ _ _ => rfl) (fun _ _ => rfl)
theorem zsee {k : Nat} {σ : zSt} {x : Int32} {M : Int32 × zSt} (h : zRel σ σ) (b : zBnd k σ) (hM : M = (x, zuf σ 13 0 0)) : zRel M.2 M.2 ∧ zBnd (k + 1) M.2 := by
  rw [hM]
  exact ⟨zRel_of h (fun i q => zuf_ne (by omega)) (fun i q _ => zuf_ne (by omega)) (fun j q => zk0 q), zBnd_up (zBnd_of b (fun i q _ => zuf_ne (by omega)) (fun j q => zk0 q))⟩
theorem op_startOf {k : Nat} {σ τ : zSt} (h : zRel σ τ) (b : zBnd k τ) (a : Int32) : k_X_startOf σ a ∧ k_M_startOf τ a ∧ zOp k σ τ (f_X_startOf σ a) (f_M_startOf τ a) := by
  have h' := h
  obtain ⟨-, -, -, -, -, e9, e11, hS, hN, hC, hB⟩ := h'
  have b' := b
  obtain ⟨-, ⟨-, -, b1, b2, b3, b4⟩, -, -⟩ := b'
  have hq : f_M_isSegment τ a = 0 ↔ f_W_holds 9 σ a = 0 := zisSeg e9 b1
  unfold k_X_startOf k_M_startOf f_X_startOf f_M_startOf
  dsimp only [zlet, zseq]
  by_cases g : f_W_holds 9 σ a = 0
  · rw [if_pos g, if_pos (hq.mpr g), zfine1]
    dsimp only
    rw [if_pos rfl]
    refine ⟨fun r hr q => absurd (hr.trans g) q, fun r hr => ⟨fun _ r4 u5 hu q => absurd (zf1 hu) q, fun q => absurd (hr.trans (hq.mpr g)) q⟩, zOp_refuse h b (by decide) 0 0⟩
  · have g2 : ¬ f_M_isSegment τ a = 0 := fun q => g (hq.mp q)
    have g3 := Classical.not_not.mp (fun q => g ((W_holds 9 σ a).1.mpr q))
    rw [e9] at g3
    obtain ⟨c1, c2⟩ := W_cell9 (σ := σ) (a := a) (i := 0) g3.1 (by omega) (by decide) (by decide)
    rw [if_neg g, if_neg g2, zfine0]
    dsimp only
    rw [if_neg (show ¬ (1 : Int32) = 0 by decide)]
    refine ⟨fun r hr q => c1, fun r hr => ⟨fun q => absurd (hr.symm.trans q) g2, fun _ r4 u5 hu q => zvin g3.1 (by omega)⟩, zOp_see h b ?_⟩
    rw [c2, zuf_ne (by decide)]
    exact (hS a.toInt.toNat (by omega)).1
theorem op_endOf {k : Nat} {σ τ : zSt} (h : zRel σ τ) (b : zBnd k τ) (a : Int32) : k_X_endOf σ a ∧ k_M_endOf τ a ∧ zOp k σ τ (f_X_endOf σ a) (f_M_endOf τ a) := by
  have h' := h
  obtain ⟨-, -, -, -, -, e9, e11, hS, hN, hC, hB⟩ := h'
  have b' := b
  obtain ⟨-, ⟨-, -, b1, b2, b3, b4⟩, -, -⟩ := b'
  have hq : f_M_isSegment τ a = 0 ↔ f_W_holds 9 σ a = 0 := zisSeg e9 b1
  unfold k_X_endOf k_M_endOf f_X_endOf f_M_endOf
  dsimp only [zlet, zseq]
  by_cases g : f_W_holds 9 σ a = 0
  · rw [if_pos g, if_pos (hq.mpr g), zfine1]
    dsimp only
    rw [if_pos rfl]
    refine ⟨fun r hr q => absurd (hr.trans g) q, fun r hr => ⟨fun _ r4 u5 hu q => absurd (zf1 hu) q, fun q => absurd (hr.trans (hq.mpr g)) q⟩, zOp_refuse h b (by decide) 0 0⟩
  · have g2 : ¬ f_M_isSegment τ a = 0 := fun q => g (hq.mp q)
    have g3 := Classical.not_not.mp (fun q => g ((W_holds 9 σ a).1.mpr q))
    rw [e9] at g3
    obtain ⟨c1, c2⟩ := W_cell9 (σ := σ) (a := a) (i := 1) g3.1 (by omega) (by decide) (by decide)
    rw [if_neg g, if_neg g2, zfine0]
    dsimp only
    rw [if_neg (show ¬ (1 : Int32) = 0 by decide)]
    refine ⟨fun r hr q => c1, fun r hr => ⟨fun q => absurd (hr.symm.trans q) g2, fun _ r4 u5 hu q => zvin g3.1 (by omega)⟩, zOp_see h b ?_⟩
    rw [c2, zuf_ne (by decide)]
    exact (hS a.toInt.toNat (by omega)).2
theorem op_ackNumber {k : Nat} {σ τ : zSt} (h : zRel σ τ) (b : zBnd k τ) (a : Int32) : k_X_ackNumber σ a ∧ k_M_ackNumber τ a ∧ zOp k σ τ (f_X_ackNumber σ a) (f_M_ackNumber τ a) := by
  have h' := h
  obtain ⟨-, -, -, -, -, e9, e11, hS, hN, hC, hB⟩ := h'
  have b' := b
  obtain ⟨-, ⟨-, -, b1, b2, b3, b4⟩, -, -⟩ := b'
  have hq : f_M_isAck τ a = 0 ↔ f_W_holds 11 σ a = 0 := zisAck e11 b3
  unfold k_X_ackNumber k_M_ackNumber f_X_ackNumber f_M_ackNumber
  dsimp only [zlet, zseq]
  by_cases g : f_W_holds 11 σ a = 0
  · rw [if_pos g, if_pos (hq.mpr g), zfine1]
    dsimp only
    rw [if_pos rfl]
    refine ⟨fun r hr q => absurd (hr.trans g) q, fun r hr => ⟨fun _ r4 u5 hu q => absurd (zf1 hu) q, fun q => absurd (hr.trans (hq.mpr g)) q⟩, zOp_refuse h b (by decide) 0 0⟩
  · have g2 : ¬ f_M_isAck τ a = 0 := fun q => g (hq.mp q)
    have g3 := Classical.not_not.mp (fun q => g ((W_holds 11 σ a).1.mpr q))
    rw [e11] at g3
    obtain ⟨c1, c2⟩ := W_cell11 (σ := σ) (a := a) (i := 0) g3.1 (by omega) (by decide) (by decide)
    rw [if_neg g, if_neg g2, zfine0]
    dsimp only
    rw [if_neg (show ¬ (1 : Int32) = 0 by decide)]
    refine ⟨fun r hr q => c1, fun r hr => ⟨fun q => absurd (hr.symm.trans q) g2, fun _ r4 u5 hu q => zvin g3.1 (by omega)⟩, zOp_see h b ?_⟩
    rw [c2, zuf_ne (by decide)]
    exact (hN a.toInt.toNat (by omega)).1
theorem op_ackWindow {k : Nat} {σ τ : zSt} (h : zRel σ τ) (b : zBnd k τ) (a : Int32) : k_X_ackWindow σ a ∧ k_M_ackWindow τ a ∧ zOp k σ τ (f_X_ackWindow σ a) (f_M_ackWindow τ a) := by
  have h' := h
  obtain ⟨-, -, -, -, -, e9, e11, hS, hN, hC, hB⟩ := h'
  have b' := b
  obtain ⟨-, ⟨-, -, b1, b2, b3, b4⟩, -, -⟩ := b'
  have hq : f_M_isAck τ a = 0 ↔ f_W_holds 11 σ a = 0 := zisAck e11 b3
  unfold k_X_ackWindow k_M_ackWindow f_X_ackWindow f_M_ackWindow
  dsimp only [zlet, zseq]
  by_cases g : f_W_holds 11 σ a = 0
  · rw [if_pos g, if_pos (hq.mpr g), zfine1]
    dsimp only
    rw [if_pos rfl]
    refine ⟨fun r hr q => absurd (hr.trans g) q, fun r hr => ⟨fun _ r4 u5 hu q => absurd (zf1 hu) q, fun q => absurd (hr.trans (hq.mpr g)) q⟩, zOp_refuse h b (by decide) 0 0⟩
  · have g2 : ¬ f_M_isAck τ a = 0 := fun q => g (hq.mp q)
    have g3 := Classical.not_not.mp (fun q => g ((W_holds 11 σ a).1.mpr q))
    rw [e11] at g3
    obtain ⟨c1, c2⟩ := W_cell11 (σ := σ) (a := a) (i := 1) g3.1 (by omega) (by decide) (by decide)
    rw [if_neg g, if_neg g2, zfine0]
    dsimp only
    rw [if_neg (show ¬ (1 : Int32) = 0 by decide)]
    refine ⟨fun r hr q => c1, fun r hr => ⟨fun q => absurd (hr.symm.trans q) g2, fun _ r4 u5 hu q => zvin g3.1 (by omega)⟩, zOp_see h b ?_⟩
    rw [c2, zuf_ne (by decide)]
    exact (hN a.toInt.toNat (by omega)).2
theorem op_ackBlocks {k : Nat} {σ τ : zSt} (h : zRel σ τ) (b : zBnd k τ) (a : Int32) : k_X_ackBlocks σ a ∧ k_M_ackBlocks τ a ∧ zOp k σ τ (f_X_ackBlocks σ a) (f_M_ackBlocks τ a) := by
  have h' := h
  obtain ⟨-, -, -, -, -, e9, e11, hS, hN, hC, hB⟩ := h'
  have b' := b
  obtain ⟨-, ⟨-, -, b1, b2, b3, b4⟩, -, -⟩ := b'
  have hq : f_M_isAck τ a = 0 ↔ f_W_holds 11 σ a = 0 := zisAck e11 b3
  unfold k_X_ackBlocks k_M_ackBlocks f_X_ackBlocks f_M_ackBlocks
  dsimp only [zlet, zseq]
  by_cases g : f_W_holds 11 σ a = 0
  · rw [if_pos g, if_pos (hq.mpr g), zfine1]
    dsimp only
    rw [if_pos rfl]
    refine ⟨fun r hr q => absurd (hr.trans g) q, fun r hr => ⟨fun _ r4 u5 hu q => absurd (zf1 hu) q, fun q => absurd (hr.trans (hq.mpr g)) q⟩, zOp_refuse h b (by decide) 0 0⟩
  · have g2 : ¬ f_M_isAck τ a = 0 := fun q => g (hq.mp q)
    have g3 := Classical.not_not.mp (fun q => g ((W_holds 11 σ a).1.mpr q))
    rw [e11] at g3
    obtain ⟨c1, c2⟩ := W_cell11 (σ := σ) (a := a) (i := 2) g3.1 (by omega) (by decide) (by decide)
    rw [if_neg g, if_neg g2, zfine0]
    dsimp only
    rw [if_neg (show ¬ (1 : Int32) = 0 by decide)]
    refine ⟨fun r hr q => c1, fun r hr => ⟨fun q => absurd (hr.symm.trans q) g2, fun _ r4 u5 hu q => zvin g3.1 (by omega)⟩, zOp_see h b ?_⟩
    rw [c2, zuf_ne (by decide)]
    exact hC a.toInt.toNat (by omega)
