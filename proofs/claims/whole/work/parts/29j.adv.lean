/-! an acknowledgment arrives: the sample -/
def zAdv (k : Nat) (σ τ S T : zSt) : Prop := zRel S T ∧ zBnd k T ∧ (∀ i, i ≠ 2 → i ≠ 4 → i ≠ 5 → S i = σ i) ∧ (∀ i, i ≠ 13 → i ≠ 15 → T i = τ i) ∧ T 13 0 = τ 13 0 ∧ T 13 38 = τ 13 38
theorem zAdv_refl {k : Nat} {σ τ : zSt} (h : zRel σ τ) (b : zBnd k τ) : zAdv k σ τ σ τ := ⟨h, b, fun _ _ _ _ => rfl, fun _ _ _ => rfl, rfl, rfl⟩
theorem zAdv_trans {k : Nat} {σ τ S T U V : zSt} (h1 : zAdv k σ τ S T) (h2 : zAdv k S T U V) : zAdv k σ τ U V := by
  obtain ⟨a1, a2, a3, a4, a5, a6⟩ := h1
  obtain ⟨b1, b2, b3, b4, b5, b6⟩ := h2
  exact ⟨b1, b2, fun i p1 p2 p3 => by rw [b3 i p1 p2 p3, a3 i p1 p2 p3], fun i p1 p2 => by rw [b4 i p1 p2, a4 i p1 p2], by rw [b5, a5], by rw [b6, a6]⟩
/-- only scalars that no bound speaks of -/
theorem zAdv_sc {k : Nat} {σ τ S T : zSt} (h : zRel σ τ) (b : zBnd k τ) (hR : zRS (S 2) (S 5) (T 13)) (e1 : ∀ i, i ≠ 2 → i ≠ 5 → S i = σ i) (e2 : ∀ i, i ≠ 13 → T i = τ i) (e3 : ∀ j, 23 ≤ j → T 13 j = τ 13 j) (f0 : T 13 0 = τ 13 0) (f1 : T 13 1 = τ 13 1) (f2 : T 13 2 = τ 13 2) (f3 : T 13 3 = τ 13 3) (f4 : T 13 4 = τ 13 4) (f5 : T 13 5 = τ 13 5) (f7 : 1 ≤ (T 13 7).toInt ∧ (T 13 7).toInt ≤ 300) (f8 : 8 ≤ (T 13 8).toInt ∧ (T 13 8).toInt ≤ 300) (f11 : 0 ≤ (T 13 11).toInt) : zAdv k σ τ S T := by
  have b' := b
  obtain ⟨⟨g1, g2, g3, g4, g5, g6, g7, g8, g9, g10, g11, g12⟩, -, bM, -⟩ := b'
  refine ⟨zRel_snd h hR ?_ (fun i p1 p2 p3 p4 => e1 i p2 p4) (fun i p1 p2 p3 => e2 i (by omega)) e3, zBnd_same b ?_ ?_ f4 (fun i p1 p2 p3 => e2 i (by omega)) e3, fun i p1 p2 p3 => e1 i p1 p3, fun i p1 p2 => e2 i p1, f0, e3 38 (by decide)⟩
  · rw [e1 4 (by decide) (by decide), e2 15 (by decide)]; exact h.2.1
  · unfold zBS
    rw [f1, f2, f3, f4, f5]
    exact ⟨g1, g2, g3, g4, g5, f7.1, f7.2, f8.1, f8.2, g10, g11, f11⟩
  · unfold zBM at bM ⊢
    rw [e2 15 (by decide), f2, f4]
    exact bM
def zsam (τ : zSt) (r : Int32) : zSt := if τ 13 16 = -1 then τ else if r < τ 13 16 then τ else zuf (f_M_samples τ (τ 13 1 - τ 13 17)) 13 16 (-1)
theorem zsample {k : Nat} {σ τ : zSt} (h : zRel σ τ) (b : zBnd k τ) (r : Int32) : zAdv k σ τ (f_T_endTiming σ r) (zsam τ r) ∧ zsam τ r 13 2 = τ 13 2 ∧ zsam τ r 13 28 = τ 13 28 := by
  have hR := h.1
  obtain ⟨⟨c2, c3, c4, c5, c6, c7, c8, c9, c10, c11, c12, c13, c14⟩, d0, d1, d2, d3, d4, d5, d6, d7⟩ := hR
  have b' := b
  obtain ⟨⟨g1, g2, g3, g4, g5, g6, g7, g8, g9, g10, g11, g12⟩, -, bM, -⟩ := b'
  unfold f_T_endTiming zsam f_T_forgetTiming
  dsimp only [zlet]
  rw [d3]
  by_cases q1 : τ 13 16 = -1
  · rw [if_pos q1, if_pos q1]
    exact ⟨zAdv_refl h b, rfl, rfl⟩
  · rw [if_neg q1, if_neg q1]
    by_cases q2 : r < τ 13 16
    · rw [if_pos q2, if_pos q2]
      exact ⟨zAdv_refl h b, rfl, rfl⟩
    · rw [if_neg q2, if_neg q2, d0, d6]
      generalize τ 13 1 - τ 13 17 = d
      unfold f_T_takeSample f_M_samples
      rw [d7]
      by_cases q3 : τ 13 20 = 0
      · rw [if_pos q3, if_pos q3]
        dsimp only [zlet]
        simp only [zgreater, zlesser, zmx_lt, zmn_lt]
        rw [zmx_comm 2]
        refine ⟨zAdv_sc h b ?_ (fun i p1 p2 => ?_) (fun i p1 => ?_) (fun j p => ?_) ?_ ?_ ?_ ?_ ?_ ?_ ?_ ?_ ?_, ?_, ?_⟩
        · unfold zRS
          simp [zuf_at, c2, c3, c4, c5, c6, c7, c8, c9, c10, c11, c12, c13, c14, d0, d1, d2, d3, d4, d5, d6, d7]
        · simp [zuf_ne, p2]
        · simp [zuf_ne, p1]
        · have : j ≠ 18 := by omega
          have : j ≠ 19 := by omega
          have : j ≠ 20 := by omega
          have : j ≠ 14 := by omega
          have : j ≠ 16 := by omega
          simp [zuf_at, *]
        · simp [zuf_at]
        · simp [zuf_at]
        · simp [zuf_at]
        · simp [zuf_at]
        · simp [zuf_at]
        · simp [zuf_at]
        · simp only [zuf_at]; simp; exact ⟨g6, g7⟩
        · simp only [zuf_at]; simp; exact ⟨g8, g9⟩
        · simp only [zuf_at]; simp; exact g12
        · simp [zuf_at]
        · simp [zuf_at]
      · rw [if_neg q3, if_neg q3, d4, d5]
        dsimp only [zlet]
        by_cases q4 : 0 ≤ d - τ 13 18 / 8
        · simp only [if_pos q4, zgreater, zlesser, zmx_lt, zmn_lt]
          rw [zmx_comm 2]
          refine ⟨zAdv_sc h b ?_ (fun i p1 p2 => ?_) (fun i p1 => ?_) (fun j p => ?_) ?_ ?_ ?_ ?_ ?_ ?_ ?_ ?_ ?_, ?_, ?_⟩
          · unfold zRS
            simp [zuf_at, c2, c3, c4, c5, c6, c7, c8, c9, c10, c11, c12, c13, c14, d0, d1, d2, d3, d4, d5, d6, d7]
          · simp [zuf_ne, p2]
          · simp [zuf_ne, p1]
          · have : j ≠ 18 := by omega
            have : j ≠ 19 := by omega
            have : j ≠ 20 := by omega
            have : j ≠ 14 := by omega
            have : j ≠ 16 := by omega
            simp [zuf_at, *]
          · simp [zuf_at]
          · simp [zuf_at]
          · simp [zuf_at]
          · simp [zuf_at]
          · simp [zuf_at]
          · simp [zuf_at]
          · simp only [zuf_at]; simp; exact ⟨g6, g7⟩
          · simp only [zuf_at]; simp; exact ⟨g8, g9⟩
          · simp only [zuf_at]; simp; exact g12
          · simp [zuf_at]
          · simp [zuf_at]
        · simp only [if_neg q4, zgreater, zlesser, zmx_lt, zmn_lt]
          rw [zmx_comm 2]
          refine ⟨zAdv_sc h b ?_ (fun i p1 p2 => ?_) (fun i p1 => ?_) (fun j p => ?_) ?_ ?_ ?_ ?_ ?_ ?_ ?_ ?_ ?_, ?_, ?_⟩
          · unfold zRS
            simp [zuf_at, c2, c3, c4, c5, c6, c7, c8, c9, c10, c11, c12, c13, c14, d0, d1, d2, d3, d4, d5, d6, d7]
          · simp [zuf_ne, p2]
          · simp [zuf_ne, p1]
          · have : j ≠ 18 := by omega
            have : j ≠ 19 := by omega
            have : j ≠ 20 := by omega
            have : j ≠ 14 := by omega
            have : j ≠ 16 := by omega
            simp [zuf_at, *]
          · simp [zuf_at]
          · simp [zuf_at]
          · simp [zuf_at]
          · simp [zuf_at]
          · simp [zuf_at]
          · simp [zuf_at]
          · simp only [zuf_at]; simp; exact ⟨g6, g7⟩
          · simp only [zuf_at]; simp; exact ⟨g8, g9⟩
          · simp only [zuf_at]; simp; exact g12
          · simp [zuf_at]
          · simp [zuf_at]
/-! the edge -/
theorem zedge {k : Nat} {σ τ : zSt} (h : zRel σ τ) (b : zBnd k τ) (x : Int32) : zAdv k σ τ (zuf σ 2 6 x) (zuf τ 13 6 x) := by
  have hR := h.1
  obtain ⟨⟨c2, c3, c4, c5, c6, c7, c8, c9, c10, c11, c12, c13, c14⟩, d0, d1, d2, d3, d4, d5, d6, d7⟩ := hR
  have b' := b
  obtain ⟨⟨g1, g2, g3, g4, g5, g6, g7, g8, g9, g10, g11, g12⟩, -, bM, -⟩ := b'
  refine zAdv_sc h b ?_ (fun i p1 p2 => zuf_ne p1) (fun i p1 => zuf_ne p1) (fun j p => zuf_nj (by omega)) (zuf_nj (by decide)) (zuf_nj (by decide)) (zuf_nj (by decide)) (zuf_nj (by decide)) (zuf_nj (by decide)) (zuf_nj (by decide)) ?_ ?_ ?_
  · unfold zRS
    simp [zuf_at, c2, c3, c4, c5, c7, c8, c9, c10, c11, c12, c13, c14, d0, d1, d2, d3, d4, d5, d6, d7]
  · rw [zuf_nj (by decide)]; exact ⟨g6, g7⟩
  · rw [zuf_nj (by decide)]; exact ⟨g8, g9⟩
  · rw [zuf_nj (by decide)]; exact g12
/-! a duplicate is counted -/
def zdupM (τ : zSt) : zSt := if τ 13 13 + 1 = 3 then (if τ 13 10 = 0 then f_M_recovers (zuf τ 13 13 (τ 13 13 + 1)) else zuf τ 13 13 (τ 13 13 + 1)) else zuf τ 13 13 (τ 13 13 + 1)
theorem zdup {k : Nat} {σ τ : zSt} (h : zRel σ τ) (b : zBnd k τ) : k_S_countDuplicate σ ∧ k_M_recovers (zuf τ 13 13 (τ 13 13 + 1)) ∧ zAdv k σ τ (f_S_countDuplicate σ) (zdupM τ) := by
  have hR := h.1
  obtain ⟨⟨c2, c3, c4, c5, c6, c7, c8, c9, c10, c11, c12, c13, c14⟩, d0, d1, d2, d3, d4, d5, d6, d7⟩ := hR
  have b' := b
  obtain ⟨⟨g1, g2, g3, g4, g5, g6, g7, g8, g9, g10, g11, g12⟩, -, bM, -⟩ := b'
  have plain : zAdv k σ τ (zuf σ 2 10 (τ 13 13 + 1)) (zuf τ 13 13 (τ 13 13 + 1)) := by
    refine zAdv_sc h b ?_ (fun i p1 p2 => zuf_ne p1) (fun i p1 => zuf_ne p1) (fun j p => zuf_nj (by omega)) (zuf_nj (by decide)) (zuf_nj (by decide)) (zuf_nj (by decide)) (zuf_nj (by decide)) (zuf_nj (by decide)) (zuf_nj (by decide)) ?_ ?_ ?_
    · unfold zRS
      simp [zuf_at, c2, c3, c4, c5, c6, c7, c8, c9, c11, c12, c13, c14, d0, d1, d2, d3, d4, d5, d6, d7]
    · rw [zuf_nj (by decide)]; exact ⟨g6, g7⟩
    · rw [zuf_nj (by decide)]; exact ⟨g8, g9⟩
    · rw [zuf_nj (by decide)]; exact g12
  obtain ⟨f1, f2, f3, f4, f5⟩ := zflight (zuf σ 2 10 (τ 13 13 + 1)) (zuf (zuf τ 13 13 (τ 13 13 + 1)) 13 10 1) (by rw [zuf_ne (by decide), zuf_ne (by decide), zuf_ne (by decide)]; exact h.2.1) (by simp [zuf_at, c2]) (by simp [zuf_at, c3]) (by simp only [zuf_at]; simp; exact g1) (by simp only [zuf_at]; simp; omega) (by simp only [zuf_at]; simp; omega)
  obtain ⟨F, hF⟩ : ∃ F, F = f_M_flight (zuf (zuf τ 13 13 (τ 13 13 + 1)) 13 10 1) := ⟨_, rfl⟩
  rw [← hF] at f3 f4 f5
  have hd : (F / 2).toInt = F.toInt / 2 := by rw [zdiv f4 (by decide), zt2]
  have ht : 8 ≤ (zmx (F / 2) 8).toInt ∧ (zmx (F / 2) 8).toInt ≤ 300 := by
    rw [zmx_t, zt8, hd]; split <;> omega
  have hH : f_S_halfOfFlying (zuf σ 2 10 (τ 13 13 + 1)) = zmx (F / 2) 8 := by
    unfold f_S_halfOfFlying
    dsimp only [zlet]
    rw [f3, zmx_lt, zmx_comm]
  refine ⟨?_, f2, ?_⟩
  · unfold k_S_countDuplicate k_S_halfOfFlying
    rw [c10]
    exact fun _ _ => f1
  · unfold f_S_countDuplicate zdupM f_M_recovers f_T_forgetTiming
    dsimp only [zlet]
    rw [c10, hH, ← hF, zgreater]
    by_cases q1 : τ 13 13 + 1 = 3
    · rw [if_pos q1, if_pos q1]
      by_cases q2 : τ 13 10 = 0
      · have q3 : σ 2 11 = -1 := by rw [c11, if_pos q2]
        rw [if_pos q2, if_pos q3]
        generalize zmx (F / 2) 8 = t at ht
        refine zAdv_sc h b ?_ (fun i p1 p2 => ?_) (fun i p1 => ?_) (fun j p => ?_) ?_ ?_ ?_ ?_ ?_ ?_ ?_ ?_ ?_
        · unfold zRS
          simp [zuf_at, c2, c3, c4, c5, c6, c9, c13, c14, d0, d1, d2, d4, d5, d6, d7]
        · simp [zuf_ne, p1, p2]
        · simp [zuf_ne, p1]
        · have : j ≠ 13 := by omega
          have : j ≠ 10 := by omega
          have : j ≠ 8 := by omega
          have : j ≠ 7 := by omega
          have : j ≠ 11 := by omega
          have : j ≠ 12 := by omega
          have : j ≠ 16 := by omega
          simp [zuf_at, *]
        · simp [zuf_at]
        · simp [zuf_at]
        · simp [zuf_at]
        · simp [zuf_at]
        · simp [zuf_at]
        · simp [zuf_at]
        · simp only [zuf_at]; simp; omega
        · simp only [zuf_at]; simp; omega
        · simp only [zuf_at]; simp; omega
      · have q3 : ¬ σ 2 11 = -1 := by rw [c11, if_neg q2]; exact zne1 g12
        rw [if_neg q2, if_neg q3]
        exact plain
    · rw [if_neg q1, if_neg q1]
      exact plain
