/-! every call keeps what holds -/
theorem zgo {k : Nat} {σ : zSt} {P : Prop} {v : zSt} (h : P ∧ zRel v v ∧ zBnd (k + 1) v) : P ∧ zRel v v ∧ zBnd (k + 1) v := h
theorem zq_0 {k : Nat} {σ : zSt} (hk : k < 1000) (h : zRel σ σ) (b : zBnd k σ) (a1 a2 : Int32) : kq_0 σ a1 a2 ∧ zRel (nx_0 σ a1 a2) (nx_0 σ a1 a2) ∧ zBnd (k + 1) (nx_0 σ a1 a2) :=
  zrun (X := f_X_write σ a1 a2) (kX := k_X_write σ a1 a2) (M := fun u => f_M_write u a1 a2) (kM := fun u => k_M_write u a1 a2) h b (fun τ hr hb => op_write hr hb a1 a2)
theorem zq_3 {k : Nat} {σ : zSt} (hk : k < 1000) (h : zRel σ σ) (b : zBnd k σ) (a1 a2 : Int32) : kq_3 σ a1 a2 ∧ zRel (nx_3 σ a1 a2) (nx_3 σ a1 a2) ∧ zBnd (k + 1) (nx_3 σ a1 a2) :=
  zrun (X := f_X_send σ ) (kX := k_X_send σ ) (M := fun u => f_M_send u ) (kM := fun u => k_M_send u ) h b (fun τ hr hb => op_send hr hb )
theorem zq_4 {k : Nat} {σ : zSt} (hk : k < 1000) (h : zRel σ σ) (b : zBnd k σ) (a1 a2 : Int32) : kq_4 σ a1 a2 ∧ zRel (nx_4 σ a1 a2) (nx_4 σ a1 a2) ∧ zBnd (k + 1) (nx_4 σ a1 a2) :=
  zrun (X := f_X_tick σ a1) (kX := k_X_tick σ a1) (M := fun u => f_M_tick u a1) (kM := fun u => k_M_tick u a1) h b (fun τ hr hb => op_tick hr hb hk a1)
theorem zq_5 {k : Nat} {σ : zSt} (hk : k < 1000) (h : zRel σ σ) (b : zBnd k σ) (a1 a2 : Int32) : kq_5 σ a1 a2 ∧ zRel (nx_5 σ a1 a2) (nx_5 σ a1 a2) ∧ zBnd (k + 1) (nx_5 σ a1 a2) :=
  zrun (X := f_X_deliver σ a1) (kX := k_X_deliver σ a1) (M := fun u => f_M_deliver u a1) (kM := fun u => k_M_deliver u a1) h b (fun τ hr hb => op_deliver hr hb hk a1)
theorem zq_6 {k : Nat} {σ : zSt} (hk : k < 1000) (h : zRel σ σ) (b : zBnd k σ) (a1 a2 : Int32) : kq_6 σ a1 a2 ∧ zRel (nx_6 σ a1 a2) (nx_6 σ a1 a2) ∧ zBnd (k + 1) (nx_6 σ a1 a2) :=
  zrun (X := f_X_lose σ a1) (kX := k_X_lose σ a1) (M := fun u => f_M_lose u a1) (kM := fun u => k_M_lose u a1) h b (fun τ hr hb => op_lose hr hb a1)
theorem zq_7 {k : Nat} {σ : zSt} (hk : k < 1000) (h : zRel σ σ) (b : zBnd k σ) (a1 a2 : Int32) : kq_7 σ a1 a2 ∧ zRel (nx_7 σ a1 a2) (nx_7 σ a1 a2) ∧ zBnd (k + 1) (nx_7 σ a1 a2) :=
  zrun (X := f_X_duplicate σ a1) (kX := k_X_duplicate σ a1) (M := fun u => f_M_duplicate u a1) (kM := fun u => k_M_duplicate u a1) h b (fun τ hr hb => op_duplicate hr hb a1)
theorem zq_8 {k : Nat} {σ : zSt} (hk : k < 1000) (h : zRel σ σ) (b : zBnd k σ) (a1 a2 : Int32) : kq_8 σ a1 a2 ∧ zRel (nx_8 σ a1 a2) (nx_8 σ a1 a2) ∧ zBnd (k + 1) (nx_8 σ a1 a2) :=
  zrun (X := f_X_deliverAck σ a1) (kX := k_X_deliverAck σ a1) (M := fun u => f_M_deliverAck u a1) (kM := fun u => k_M_deliverAck u a1) h b (fun τ hr hb => op_deliverAck hr hb a1)
theorem zq_9 {k : Nat} {σ : zSt} (hk : k < 1000) (h : zRel σ σ) (b : zBnd k σ) (a1 a2 : Int32) : kq_9 σ a1 a2 ∧ zRel (nx_9 σ a1 a2) (nx_9 σ a1 a2) ∧ zBnd (k + 1) (nx_9 σ a1 a2) :=
  zrun (X := f_X_loseAck σ a1) (kX := k_X_loseAck σ a1) (M := fun u => f_M_loseAck u a1) (kM := fun u => k_M_loseAck u a1) h b (fun τ hr hb => op_loseAck hr hb a1)
theorem zq_11 {k : Nat} {σ : zSt} (hk : k < 1000) (h : zRel σ σ) (b : zBnd k σ) (a1 a2 : Int32) : kq_11 σ a1 a2 ∧ zRel (nx_11 σ a1 a2) (nx_11 σ a1 a2) ∧ zBnd (k + 1) (nx_11 σ a1 a2) :=
  zrun (X := f_X_startOf σ a1) (kX := k_X_startOf σ a1) (M := fun u => f_M_startOf u a1) (kM := fun u => k_M_startOf u a1) h b (fun τ hr hb => op_startOf hr hb a1)
theorem zq_12 {k : Nat} {σ : zSt} (hk : k < 1000) (h : zRel σ σ) (b : zBnd k σ) (a1 a2 : Int32) : kq_12 σ a1 a2 ∧ zRel (nx_12 σ a1 a2) (nx_12 σ a1 a2) ∧ zBnd (k + 1) (nx_12 σ a1 a2) :=
  zrun (X := f_X_endOf σ a1) (kX := k_X_endOf σ a1) (M := fun u => f_M_endOf u a1) (kM := fun u => k_M_endOf u a1) h b (fun τ hr hb => op_endOf hr hb a1)
theorem zq_14 {k : Nat} {σ : zSt} (hk : k < 1000) (h : zRel σ σ) (b : zBnd k σ) (a1 a2 : Int32) : kq_14 σ a1 a2 ∧ zRel (nx_14 σ a1 a2) (nx_14 σ a1 a2) ∧ zBnd (k + 1) (nx_14 σ a1 a2) :=
  zrun (X := f_X_ackNumber σ a1) (kX := k_X_ackNumber σ a1) (M := fun u => f_M_ackNumber u a1) (kM := fun u => k_M_ackNumber u a1) h b (fun τ hr hb => op_ackNumber hr hb a1)
theorem zq_15 {k : Nat} {σ : zSt} (hk : k < 1000) (h : zRel σ σ) (b : zBnd k σ) (a1 a2 : Int32) : kq_15 σ a1 a2 ∧ zRel (nx_15 σ a1 a2) (nx_15 σ a1 a2) ∧ zBnd (k + 1) (nx_15 σ a1 a2) :=
  zrun (X := f_X_ackWindow σ a1) (kX := k_X_ackWindow σ a1) (M := fun u => f_M_ackWindow u a1) (kM := fun u => k_M_ackWindow u a1) h b (fun τ hr hb => op_ackWindow hr hb a1)
theorem zq_16 {k : Nat} {σ : zSt} (hk : k < 1000) (h : zRel σ σ) (b : zBnd k σ) (a1 a2 : Int32) : kq_16 σ a1 a2 ∧ zRel (nx_16 σ a1 a2) (nx_16 σ a1 a2) ∧ zBnd (k + 1) (nx_16 σ a1 a2) :=
  zrun (X := f_X_ackBlocks σ a1) (kX := k_X_ackBlocks σ a1) (M := fun u => f_M_ackBlocks u a1) (kM := fun u => k_M_ackBlocks u a1) h b (fun τ hr hb => op_ackBlocks hr hb a1)
theorem zq_17 {k : Nat} {σ : zSt} (hk : k < 1000) (h : zRel σ σ) (b : zBnd k σ) (a1 a2 : Int32) : kq_17 σ a1 a2 ∧ zRel (nx_17 σ a1 a2) (nx_17 σ a1 a2) ∧ zBnd (k + 1) (nx_17 σ a1 a2) :=
  zrun (X := f_X_ackBlock σ a1 a2) (kX := k_X_ackBlock σ a1 a2) (M := fun u => f_M_ackBlock u a1 a2) (kM := fun u => k_M_ackBlock u a1 a2) h b (fun τ hr hb => op_ackBlock hr hb a1 a2)
theorem zq_41 {k : Nat} {σ : zSt} (hk : k < 1000) (h : zRel σ σ) (b : zBnd k σ) (a1 a2 : Int32) : kq_41 σ a1 a2 ∧ zRel (nx_41 σ a1 a2) (nx_41 σ a1 a2) ∧ zBnd (k + 1) (nx_41 σ a1 a2) :=
  zrun (X := f_X_blockStart σ a1) (kX := k_X_blockStart σ a1) (M := fun u => f_M_blockStart u a1) (kM := fun u => k_M_blockStart u a1) h b (fun τ hr hb => op_blockStart hr hb a1)
theorem zq_42 {k : Nat} {σ : zSt} (hk : k < 1000) (h : zRel σ σ) (b : zBnd k σ) (a1 a2 : Int32) : kq_42 σ a1 a2 ∧ zRel (nx_42 σ a1 a2) (nx_42 σ a1 a2) ∧ zBnd (k + 1) (nx_42 σ a1 a2) :=
  zrun (X := f_X_blockEnd σ a1) (kX := k_X_blockEnd σ a1) (M := fun u => f_M_blockEnd u a1) (kM := fun u => k_M_blockEnd u a1) h b (fun τ hr hb => op_blockEnd hr hb a1)
theorem zq_2 {k : Nat} {σ : zSt} (hk : k < 1000) (h : zRel σ σ) (b : zBnd k σ) (a1 a2 : Int32) : kq_2 σ a1 a2 ∧ zRel (nx_2 σ a1 a2) (nx_2 σ a1 a2) ∧ zBnd (k + 1) (nx_2 σ a1 a2) := by
  have q := zrun (X := f_X_setLimit σ a1) (kX := True) (M := fun u => f_M_setLimit u a1) (kM := fun _ => True) h b (fun τ hr hb => op_setLimit hr hb a1)
  exact ⟨fun c u hu => (q.1.2 c u hu).2, q.2⟩
theorem zq_1 {k : Nat} {σ : zSt} (hk : k < 1000) (h : zRel σ σ) (b : zBnd k σ) (a1 a2 : Int32) : kq_1 σ a1 a2 ∧ zRel (nx_1 σ a1 a2) (nx_1 σ a1 a2) ∧ zBnd (k + 1) (nx_1 σ a1 a2) := by
  have hf := (op_read h b).2.2.2.2.2.2.1
  dsimp only at hf
  obtain ⟨u, hu⟩ : ∃ u, u = (f_X_read σ).2 := ⟨_, rfl⟩
  rw [← hu] at hf
  have hr : zRel σ u := zRel_of h (fun _ _ => rfl) (fun i q1 q2 => hf i (by omega)) (fun j _ => by rw [hf 13 (by decide)])
  have hb : zBnd k u := zBnd_of b (fun i q1 q2 => hf i (by omega)) (fun j _ => by rw [hf 13 (by decide)])
  obtain ⟨g1, g2, g3, g4, g5, g6, g7, g8⟩ := op_read hr hb
  dsimp only at g3 g4 g5 g7
  rw [← hu] at g5
  unfold kq_1 nx_1
  refine ⟨⟨g1, fun r v hv => ?_⟩, ?_, ?_⟩
  · have e1 : r = (f_X_read σ).1 := by rw [← hv]
    have e2 : v = u := by rw [hu, ← hv]
    rw [e1, e2]
    exact ⟨g2, g4 rfl⟩
  · rw [← hu]
    exact zRel_of g5 (fun i q => g8 i (Or.inl q)) (fun _ _ _ => rfl) (fun _ _ => rfl)
  · rw [← hu]
    exact g6
theorem zq_25 {k : Nat} {σ : zSt} (hk : k < 1000) (h : zRel σ σ) (b : zBnd k σ) (a1 a2 : Int32) : kq_25 σ a1 a2 ∧ zRel (nx_25 σ a1 a2) (nx_25 σ a1 a2) ∧ zBnd (k + 1) (nx_25 σ a1 a2) := by
  have q := zrun (X := ((f_X_isMarked σ a1).1, (if (f_X_isMarked σ a1).2.1 = 0 then 0 else 1), (f_X_isMarked σ a1).2.2)) (kX := k_X_isMarked σ a1) (M := fun u => ((if (f_M_isMarked u a1).1 = 0 then 0 else 1), (f_M_isMarked u a1).2)) (kM := fun u => k_M_isMarked u a1) h b (fun τ hr hb => by
    obtain ⟨g1, g2, g3, g4, g5, g6, g7, g8⟩ := op_isMarked hr hb a1
    exact ⟨g1, g2, g3, fun w => by
      show (if (f_X_isMarked σ a1).2.1 = 0 then (0 : Int32) else 1) = (if (f_M_isMarked τ a1).1 = 0 then 0 else 1)
      rw [g4 w], g5, g6, g7, g8⟩)
  have e : f_L_isMarked σ a1 = zwr ((f_X_isMarked σ a1).1, (if (f_X_isMarked σ a1).2.1 = 0 then 0 else 1), (f_X_isMarked σ a1).2.2) := rfl
  unfold kq_25 nx_25
  rw [e]
  refine ⟨⟨q.1.1, fun c u hu => ⟨(q.1.2 c u hu).1, fun r u2 hu2 => ?_⟩⟩, q.2⟩
  exact (q.1.2 c u hu).2 (if r = 0 then 0 else 1) u2 (by rw [← hu2])
theorem zq_24 {k : Nat} {σ : zSt} (hk : k < 1000) (h : zRel σ σ) (b : zBnd k σ) (a1 a2 : Int32) : kq_24 σ a1 a2 ∧ zRel (nx_24 σ a1 a2) (nx_24 σ a1 a2) ∧ zBnd (k + 1) (nx_24 σ a1 a2) := by
  have b' := b
  obtain ⟨⟨g1, g2, g3, g4, g5, -⟩, -⟩ := b'
  obtain ⟨f1, f2, f3, -⟩ := zflight σ (zuf σ 13 0 0) (by rw [zuf_ne (by decide)]; exact h.2.1) (by rw [zuf_nj (by decide)]; exact h.1.1.1) (by rw [zuf_nj (by decide)]; exact h.1.1.2.1) (by rw [zuf_nj (by decide)]; exact g1) (by rw [zuf_nj (by decide)]; omega) (by rw [zuf_nj (by decide)]; omega)
  exact ⟨⟨f1, f2, f3⟩, zsee h b (M := f_M_inFlight σ) rfl⟩
theorem zq_40 {k : Nat} {σ : zSt} (hk : k < 1000) (h : zRel σ σ) (b : zBnd k σ) (a1 a2 : Int32) : kq_40 σ a1 a2 ∧ zRel (nx_40 σ a1 a2) (nx_40 σ a1 a2) ∧ zBnd (k + 1) (nx_40 σ a1 a2) := by
  obtain ⟨f1, f2, f3⟩ := zcount (zpl_k0 h)
  have e : zuf σ 13 0 0 13 28 = σ 13 28 := zuf_nj (by decide)
  refine ⟨⟨f1, ?_, ?_⟩, zsee h b (M := f_M_blocks σ) rfl⟩
  · unfold k_M_blocks
    rw [e] at f2 ⊢
    exact f2
  · unfold f_X_blocks f_M_blocks
    dsimp only [zlet]
    rw [e] at f3 ⊢
    exact f3
theorem zq_29 {k : Nat} {σ : zSt} (hk : k < 1000) (h : zRel σ σ) (b : zBnd k σ) (a1 a2 : Int32) : kq_29 σ a1 a2 ∧ zRel (nx_29 σ a1 a2) (nx_29 σ a1 a2) ∧ zBnd (k + 1) (nx_29 σ a1 a2) := by
  have c11 : σ 2 11 = if σ 13 10 = 0 then -1 else σ 13 11 := h.1.1.2.2.2.2.2.2.2.2.2.1
  by_cases q : σ 13 10 = 0
  · have e : f_M_recoveryEnd σ = (-1, zuf σ 13 0 0) := by
      unfold f_M_recoveryEnd
      rw [if_pos q]
    rw [if_pos q] at c11
    exact ⟨by
      show σ 2 11 = (f_M_recoveryEnd σ).1
      rw [e]; exact c11, zsee h b e⟩
  · have e : f_M_recoveryEnd σ = (σ 13 11, zuf σ 13 0 0) := by
      unfold f_M_recoveryEnd
      rw [if_neg q]
    rw [if_neg q] at c11
    exact ⟨by
      show σ 2 11 = (f_M_recoveryEnd σ).1
      rw [e]; exact c11, zsee h b e⟩
theorem zq_39 {k : Nat} {σ : zSt} (hk : k < 1000) (h : zRel σ σ) (b : zBnd k σ) (a1 a2 : Int32) : kq_39 σ a1 a2 ∧ zRel (nx_39 σ a1 a2) (nx_39 σ a1 a2) ∧ zBnd (k + 1) (nx_39 σ a1 a2) := by
  refine ⟨?_, zsee h b (M := f_M_window σ) rfl⟩
  show σ 6 3 + 32 - σ 6 2 = zuf σ 13 0 0 13 29 + 32 - zuf σ 13 0 0 13 28
  rw [zuf_nj (by decide), zuf_nj (by decide), h.2.2.2.1.2.1, h.2.2.2.1.2.2.1]
theorem zq_10 {k : Nat} {σ : zSt} (hk : k < 1000) (h : zRel σ σ) (b : zBnd k σ) (a1 a2 : Int32) : kq_10 σ a1 a2 ∧ zRel (nx_10 σ a1 a2) (nx_10 σ a1 a2) ∧ zBnd (k + 1) (nx_10 σ a1 a2) :=
  ⟨h.2.2.2.2.2.1, zsee h b (M := f_M_segments σ) rfl⟩
theorem zq_13 {k : Nat} {σ : zSt} (hk : k < 1000) (h : zRel σ σ) (b : zBnd k σ) (a1 a2 : Int32) : kq_13 σ a1 a2 ∧ zRel (nx_13 σ a1 a2) (nx_13 σ a1 a2) ∧ zBnd (k + 1) (nx_13 σ a1 a2) :=
  ⟨h.2.2.2.2.2.2.1, zsee h b (M := f_M_acks σ) rfl⟩
theorem zq_18 {k : Nat} {σ : zSt} (hk : k < 1000) (h : zRel σ σ) (b : zBnd k σ) (a1 a2 : Int32) : kq_18 σ a1 a2 ∧ zRel (nx_18 σ a1 a2) (nx_18 σ a1 a2) ∧ zBnd (k + 1) (nx_18 σ a1 a2) :=
  ⟨h.1.2.1, zsee h b (M := f_M_time σ) rfl⟩
theorem zq_19 {k : Nat} {σ : zSt} (hk : k < 1000) (h : zRel σ σ) (b : zBnd k σ) (a1 a2 : Int32) : kq_19 σ a1 a2 ∧ zRel (nx_19 σ a1 a2) (nx_19 σ a1 a2) ∧ zBnd (k + 1) (nx_19 σ a1 a2) :=
  ⟨h.1.1.1, zsee h b (M := f_M_acknowledged σ) rfl⟩
theorem zq_20 {k : Nat} {σ : zSt} (hk : k < 1000) (h : zRel σ σ) (b : zBnd k σ) (a1 a2 : Int32) : kq_20 σ a1 a2 ∧ zRel (nx_20 σ a1 a2) (nx_20 σ a1 a2) ∧ zBnd (k + 1) (nx_20 σ a1 a2) :=
  ⟨h.1.1.2.1, zsee h b (M := f_M_next σ) rfl⟩
theorem zq_21 {k : Nat} {σ : zSt} (hk : k < 1000) (h : zRel σ σ) (b : zBnd k σ) (a1 a2 : Int32) : kq_21 σ a1 a2 ∧ zRel (nx_21 σ a1 a2) (nx_21 σ a1 a2) ∧ zBnd (k + 1) (nx_21 σ a1 a2) :=
  ⟨h.1.1.2.2.1, zsee h b (M := f_M_highest σ) rfl⟩
theorem zq_22 {k : Nat} {σ : zSt} (hk : k < 1000) (h : zRel σ σ) (b : zBnd k σ) (a1 a2 : Int32) : kq_22 σ a1 a2 ∧ zRel (nx_22 σ a1 a2) (nx_22 σ a1 a2) ∧ zBnd (k + 1) (nx_22 σ a1 a2) :=
  ⟨h.1.1.2.2.2.1, zsee h b (M := f_M_written σ) rfl⟩
theorem zq_23 {k : Nat} {σ : zSt} (hk : k < 1000) (h : zRel σ σ) (b : zBnd k σ) (a1 a2 : Int32) : kq_23 σ a1 a2 ∧ zRel (nx_23 σ a1 a2) (nx_23 σ a1 a2) ∧ zBnd (k + 1) (nx_23 σ a1 a2) :=
  ⟨h.1.1.2.2.2.2.1, zsee h b (M := f_M_edge σ) rfl⟩
theorem zq_26 {k : Nat} {σ : zSt} (hk : k < 1000) (h : zRel σ σ) (b : zBnd k σ) (a1 a2 : Int32) : kq_26 σ a1 a2 ∧ zRel (nx_26 σ a1 a2) (nx_26 σ a1 a2) ∧ zBnd (k + 1) (nx_26 σ a1 a2) :=
  ⟨h.1.1.2.2.2.2.2.1, zsee h b (M := f_M_congestionWindow σ) rfl⟩
theorem zq_27 {k : Nat} {σ : zSt} (hk : k < 1000) (h : zRel σ σ) (b : zBnd k σ) (a1 a2 : Int32) : kq_27 σ a1 a2 ∧ zRel (nx_27 σ a1 a2) (nx_27 σ a1 a2) ∧ zBnd (k + 1) (nx_27 σ a1 a2) :=
  ⟨h.1.1.2.2.2.2.2.2.1, zsee h b (M := f_M_threshold σ) rfl⟩
theorem zq_28 {k : Nat} {σ : zSt} (hk : k < 1000) (h : zRel σ σ) (b : zBnd k σ) (a1 a2 : Int32) : kq_28 σ a1 a2 ∧ zRel (nx_28 σ a1 a2) (nx_28 σ a1 a2) ∧ zBnd (k + 1) (nx_28 σ a1 a2) :=
  ⟨h.1.1.2.2.2.2.2.2.2.2.1, zsee h b (M := f_M_duplicates σ) rfl⟩
theorem zq_30 {k : Nat} {σ : zSt} (hk : k < 1000) (h : zRel σ σ) (b : zBnd k σ) (a1 a2 : Int32) : kq_30 σ a1 a2 ∧ zRel (nx_30 σ a1 a2) (nx_30 σ a1 a2) ∧ zBnd (k + 1) (nx_30 σ a1 a2) :=
  ⟨h.1.2.2.1, zsee h b (M := f_M_timeout σ) rfl⟩
theorem zq_31 {k : Nat} {σ : zSt} (hk : k < 1000) (h : zRel σ σ) (b : zBnd k σ) (a1 a2 : Int32) : kq_31 σ a1 a2 ∧ zRel (nx_31 σ a1 a2) (nx_31 σ a1 a2) ∧ zBnd (k + 1) (nx_31 σ a1 a2) :=
  ⟨h.1.2.2.2.1, zsee h b (M := f_M_timerEnd σ) rfl⟩
theorem zq_32 {k : Nat} {σ : zSt} (hk : k < 1000) (h : zRel σ σ) (b : zBnd k σ) (a1 a2 : Int32) : kq_32 σ a1 a2 ∧ zRel (nx_32 σ a1 a2) (nx_32 σ a1 a2) ∧ zBnd (k + 1) (nx_32 σ a1 a2) :=
  ⟨h.1.2.2.2.2.2.1, zsee h b (M := f_M_roundTrip σ) rfl⟩
theorem zq_33 {k : Nat} {σ : zSt} (hk : k < 1000) (h : zRel σ σ) (b : zBnd k σ) (a1 a2 : Int32) : kq_33 σ a1 a2 ∧ zRel (nx_33 σ a1 a2) (nx_33 σ a1 a2) ∧ zBnd (k + 1) (nx_33 σ a1 a2) :=
  ⟨h.1.2.2.2.2.2.2.1, zsee h b (M := f_M_variation σ) rfl⟩
theorem zq_34 {k : Nat} {σ : zSt} (hk : k < 1000) (h : zRel σ σ) (b : zBnd k σ) (a1 a2 : Int32) : kq_34 σ a1 a2 ∧ zRel (nx_34 σ a1 a2) (nx_34 σ a1 a2) ∧ zBnd (k + 1) (nx_34 σ a1 a2) :=
  ⟨h.1.2.2.2.2.1, zsee h b (M := f_M_timedEnd σ) rfl⟩
theorem zq_35 {k : Nat} {σ : zSt} (hk : k < 1000) (h : zRel σ σ) (b : zBnd k σ) (a1 a2 : Int32) : kq_35 σ a1 a2 ∧ zRel (nx_35 σ a1 a2) (nx_35 σ a1 a2) ∧ zBnd (k + 1) (nx_35 σ a1 a2) :=
  ⟨h.1.1.2.2.2.2.2.2.2.2.2.2.2.1, zsee h b (M := f_M_sent σ) rfl⟩
theorem zq_36 {k : Nat} {σ : zSt} (hk : k < 1000) (h : zRel σ σ) (b : zBnd k σ) (a1 a2 : Int32) : kq_36 σ a1 a2 ∧ zRel (nx_36 σ a1 a2) (nx_36 σ a1 a2) ∧ zBnd (k + 1) (nx_36 σ a1 a2) :=
  ⟨h.1.1.2.2.2.2.2.2.2.2.2.2.2.2, zsee h b (M := f_M_sentAgain σ) rfl⟩
theorem zq_37 {k : Nat} {σ : zSt} (hk : k < 1000) (h : zRel σ σ) (b : zBnd k σ) (a1 a2 : Int32) : kq_37 σ a1 a2 ∧ zRel (nx_37 σ a1 a2) (nx_37 σ a1 a2) ∧ zBnd (k + 1) (nx_37 σ a1 a2) :=
  ⟨h.2.2.2.1.2.1, zsee h b (M := f_M_inOrder σ) rfl⟩
theorem zq_38 {k : Nat} {σ : zSt} (hk : k < 1000) (h : zRel σ σ) (b : zBnd k σ) (a1 a2 : Int32) : kq_38 σ a1 a2 ∧ zRel (nx_38 σ a1 a2) (nx_38 σ a1 a2) ∧ zBnd (k + 1) (nx_38 σ a1 a2) :=
  ⟨h.2.2.2.1.2.2.1, zsee h b (M := f_M_readPosition σ) rfl⟩
theorem zstep {k : Nat} {σ : zSt} (hk : k < 1000) (h : zRel σ σ) (b : zBnd k σ) (j : Nat) (a1 a2 : Int32) : zStepOk j σ a1 a2 ∧ zRel (zStep j σ a1 a2) (zStep j σ a1 a2) ∧ zBnd (k + 1) (zStep j σ a1 a2) :=
  match j with
  | 0 => zq_0 hk h b a1 a2
  | 1 => zq_1 hk h b a1 a2
  | 2 => zq_2 hk h b a1 a2
  | 3 => zq_3 hk h b a1 a2
  | 4 => zq_4 hk h b a1 a2
  | 5 => zq_5 hk h b a1 a2
  | 6 => zq_6 hk h b a1 a2
  | 7 => zq_7 hk h b a1 a2
  | 8 => zq_8 hk h b a1 a2
  | 9 => zq_9 hk h b a1 a2
  | 10 => zq_10 hk h b a1 a2
  | 11 => zq_11 hk h b a1 a2
  | 12 => zq_12 hk h b a1 a2
  | 13 => zq_13 hk h b a1 a2
  | 14 => zq_14 hk h b a1 a2
  | 15 => zq_15 hk h b a1 a2
  | 16 => zq_16 hk h b a1 a2
  | 17 => zq_17 hk h b a1 a2
  | 18 => zq_18 hk h b a1 a2
  | 19 => zq_19 hk h b a1 a2
  | 20 => zq_20 hk h b a1 a2
  | 21 => zq_21 hk h b a1 a2
  | 22 => zq_22 hk h b a1 a2
  | 23 => zq_23 hk h b a1 a2
  | 24 => zq_24 hk h b a1 a2
  | 25 => zq_25 hk h b a1 a2
  | 26 => zq_26 hk h b a1 a2
  | 27 => zq_27 hk h b a1 a2
  | 28 => zq_28 hk h b a1 a2
  | 29 => zq_29 hk h b a1 a2
  | 30 => zq_30 hk h b a1 a2
  | 31 => zq_31 hk h b a1 a2
  | 32 => zq_32 hk h b a1 a2
  | 33 => zq_33 hk h b a1 a2
  | 34 => zq_34 hk h b a1 a2
  | 35 => zq_35 hk h b a1 a2
  | 36 => zq_36 hk h b a1 a2
  | 37 => zq_37 hk h b a1 a2
  | 38 => zq_38 hk h b a1 a2
  | 39 => zq_39 hk h b a1 a2
  | 40 => zq_40 hk h b a1 a2
  | 41 => zq_41 hk h b a1 a2
  | 42 => zq_42 hk h b a1 a2
  | _ + 43 => ⟨trivial, h, zBnd_up b⟩
theorem zruns (xs : Nat → Int32) : ∀ (t k p : Nat) (σ : zSt), k + t < 1000 → zRel σ σ → zBnd k σ → zRunOk xs t p σ := by
  intro t
  induction t with
  | zero => intro k p σ _ _ _; exact trivial
  | succ t ih =>
    intro k p σ hk h b
    obtain ⟨q1, q2, q3⟩ := zstep (by omega) h b (xs p &&& 63).toInt.toNat (xs (p + 1)) (xs (p + 2))
    exact ⟨q1, ih (k + 1) (p + 3) _ (by omega) q2 q3⟩
theorem zs0_rel : zRel zs0 zs0 := by
  refine ⟨?_, ?_, ?_, ?_, ?_, ?_, ?_, ?_, ?_, ?_, ?_⟩
  · simp [zRS, zs0]
  · intro j hj; simp [zs0]
  · intro j hj; simp [zs0]
  · refine ⟨fun j hj => ?_, ?_, ?_, ?_, ?_, ?_, ?_⟩
    · simp [zs0]
    · simp [zs0]
    · simp [zs0]
    · simp [zs0]
    · simp [zs0]
    · simp [zs0]
    · simp [zs0, zA0]
  · simp [zs0]
  · simp [zs0]
  · simp [zs0]
  · intro p hp; simp [zs0]
  · intro p hp; simp [zs0]
  · intro p hp; simp [zs0]
  · intro p hp i hi; simp [zs0]
theorem zs0_bnd : zBnd 0 zs0 := by
  refine ⟨?_, ?_, ?_, ?_, ?_, ?_, ?_, ?_⟩
  · refine ⟨?_, ?_, ?_, ?_, ?_, ?_, ?_, ?_, ?_, ?_, ?_, ?_⟩ <;> decide
  · refine ⟨?_, ?_, ?_, ?_, ?_, ?_⟩ <;> decide
  · intro j hj; simp [zs0]
  · decide
  · intro j hj; simp [zs0]
  · intro j hj; simp [zs0]
  · intro j hj; simp [zs0]
  · intro j hj; simp [zs0]
theorem z_pure (xs : Nat → Int32) (t : Nat) (ht : t ≤ 512) : zRunOk xs t 0 zs0 := zruns xs t 0 0 zs0 (by omega) zs0_rel zs0_bnd
